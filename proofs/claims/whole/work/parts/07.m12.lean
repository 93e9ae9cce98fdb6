-- X9_cost X9_forget X9_add X9_word X9_number X9_clear X9_at X9_is X9_addTest X9_linkTo
abbrev ts_X9_cost : List Cond := .code yX9_cost cX9_cost 3 (some .int) :: wsL_law
set_option maxHeartbeats 4000000 in
set_option maxRecDepth 100000 in
theorem c_X9_cost (l : Launch) (D : va_G) (cyI cyZ : ClassId) (a : Nat → Nat) (A : Nat → Prop) (σ : Mem) (x1 : Int32) (x2 : Int32) (r : Int32) (hF : F_X9_cost σ x1 x2 = some r) : CtI l yX9_cost ts_X9_cost ({ frames := 1, cells := 0, slots := 0, locals := 20 } : Room) [.ref (a 0), .int x1, .int x2] D cyI cyZ A (wM cyI cyZ a σ) (wM cyI cyZ a σ) r := by
  refine CtI.of (cc := cX9_cost) (maxL := 3) (ret := (some .int)) (by decide) rfl (Nat.le_of_ble_eq_true rfl) ?_
  intro p e s m below meth c ls hC hP hD hl
  obtain ⟨hx, hb, hr, hml, hown, hts, hK, hN, hlocks⟩ := hC
  have hown : s.vm.findClass RX9 = some m.cls := hown
  have hS : va_S A s.heap s.heap [] := va_S.rf
  have hl : lv_has ls 3 [(0, .ref (a 0)), (1, .int x1), (2, .int x2)] := hl
  unfold F_X9_cost at hF
  refine lv_iload_n hx hb dX9_cost_0 rfl (lv_at hl 1 rfl) ?_
  refine z_callSI (w' := (wM cyI cyZ a σ)) (As := [.int x1]) (rest := []) ⟨hx, hb, hml, hown, hts⟩ (c_X9_isWord l D cyI cyZ A (wM cyI cyZ a σ) x1 _ rfl) (va_cwS 1 hts (gd_S mw_303 mw_304 mw_5 mw_305) rfl rfl rfl (by decide +kernel) ⟨Nat.le_of_ble_eq_true rfl, Nat.le_of_ble_eq_true rfl⟩) hK hN hP hD hS rfl hl.1 rfl (Nat.le_of_ble_eq_true rfl) dX9_cost_1 ⟨Nat.zero_le _, Nat.zero_le _⟩ (fun H locs hP hD hS => ?_)
  refine lv_if_eq (tgt := 34) hx hb dX9_cost_4 (by decide) (fun c1 => ?_) (fun c1 => ?_)
  · rw [if_pos c1] at hF
    refine lv_iconst (v := (-1 : Int32)) hx hb dX9_cost_34 (by decide) ?_
    cases hF
    exact z_iret hx hb hr hlocks hK hP hD hS dX9_cost_35
  · rw [if_neg c1] at hF
    refine lv_iload_n hx hb dX9_cost_7 rfl (lv_at hl 2 rfl) ?_
    refine lv_if_lt (tgt := 34) hx hb dX9_cost_8 (by decide) (fun c2 => ?_) (fun c2 => ?_)
    · rw [if_pos c2] at hF
      refine lv_iconst (v := (-1 : Int32)) hx hb dX9_cost_34 (by decide) ?_
      cases hF
      exact z_iret hx hb hr hlocks hK hP hD hS dX9_cost_35
    · rw [if_neg c2] at hF
      refine lv_iload_n hx hb dX9_cost_11 rfl (lv_at hl 2 rfl) ?_
      refine lv_aload_n hx hb dX9_cost_12 rfl (lv_at hl 0 rfl) ?_
      refine va_get (D := D) (ci := 9) (v := .ref (a 5)) (C := RX9) (T := TX9) (N := 34) hx hb hts inlX9 hown hK hP 0 gM_0 rfl 5 (by decide) (hts _ mw_121) (fun _ h9 => h9) rfl dX9_cost_13 ?_
      refine lv_iload_n hx hb dX9_cost_16 rfl (lv_at hl 1 rfl) ?_
      obtain ⟨v3, e4, hF⟩ := Option.bind_eq_some_iff.mp hF
      refine z_ild hx hb hK hP 5 gM_5 e4 dX9_cost_17 ?_
      refine lv_icmp_ge (tgt := 34) hx hb dX9_cost_18 (by decide) (fun c5 => ?_) (fun c5 => ?_)
      · rw [if_pos c5] at hF
        refine lv_iconst (v := (-1 : Int32)) hx hb dX9_cost_34 (by decide) ?_
        cases hF
        exact z_iret hx hb hr hlocks hK hP hD hS dX9_cost_35
      · rw [if_neg c5] at hF
        refine lv_aload_n hx hb dX9_cost_21 rfl (lv_at hl 0 rfl) ?_
        refine va_get (D := D) (ci := 9) (v := .ref (a 10)) (C := RX9) (T := TX9) (N := 34) hx hb hts inlX9 hown hK hP 0 gM_0 rfl 10 (by decide) (hts _ mw_126) (fun _ h9 => h9) rfl dX9_cost_22 ?_
        refine lv_iconst (v := (3 : Int32)) hx hb dX9_cost_25 (by decide) ?_
        refine lv_iload_n hx hb dX9_cost_26 rfl (lv_at hl 1 rfl) ?_
        refine lv_imul hx hb dX9_cost_27 ?_
        refine lv_iload_n hx hb dX9_cost_28 rfl (lv_at hl 2 rfl) ?_
        refine lv_iadd hx hb dX9_cost_29 ?_
        obtain ⟨v6, e7, hF⟩ := Option.bind_eq_some_iff.mp hF
        refine z_ild hx hb hK hP 10 gM_10 e7 dX9_cost_30 ?_
        refine lv_goto (tgt := 35) hx hb dX9_cost_31 (by decide) ?_
        cases hF
        exact z_iret hx hb hr hlocks hK hP hD hS dX9_cost_35
abbrev ts_X9_forget : List Cond := .code yX9_forget cX9_forget 3 (some .int) :: wsL_law
set_option maxHeartbeats 4000000 in
set_option maxRecDepth 100000 in
theorem c_X9_forget (l : Launch) (D : va_G) (cyI cyZ : ClassId) (a : Nat → Nat) (A : Nat → Prop) (σ : Mem) (x1 : Int32) (r : Int32) (σ' : Mem) (hF : F_X9_forget σ x1 = some (r, σ')) : CtI l yX9_forget ts_X9_forget ({ frames := 1, cells := 0, slots := 0, locals := 20 } : Room) [.ref (a 0), .int x1] D cyI cyZ A (wM cyI cyZ a σ) (wM cyI cyZ a σ') r := by
  refine CtI.of (cc := cX9_forget) (maxL := 3) (ret := (some .int)) (by decide) rfl (Nat.le_of_ble_eq_true rfl) ?_
  intro p e s m below meth c ls hC hP hD hl
  obtain ⟨hx, hb, hr, hml, hown, hts, hK, hN, hlocks⟩ := hC
  have hown : s.vm.findClass RX9 = some m.cls := hown
  have hS : va_S A s.heap s.heap [] := va_S.rf
  have hl : lv_has ls 3 [(0, .ref (a 0)), (1, .int x1)] := hl
  unfold F_X9_forget at hF
  refine lv_iload_n hx hb dX9_forget_0 rfl (lv_at hl 1 rfl) ?_
  refine z_callSI (w' := (wM cyI cyZ a σ)) (As := [.int x1]) (rest := []) ⟨hx, hb, hml, hown, hts⟩ (c_X9_isWord l D cyI cyZ A (wM cyI cyZ a σ) x1 _ rfl) (va_cwS 1 hts (gd_S mw_303 mw_304 mw_5 mw_305) rfl rfl rfl (by decide +kernel) ⟨Nat.le_of_ble_eq_true rfl, Nat.le_of_ble_eq_true rfl⟩) hK hN hP hD hS rfl hl.1 rfl (Nat.le_of_ble_eq_true rfl) dX9_forget_1 ⟨Nat.zero_le _, Nat.zero_le _⟩ (fun H locs hP hD hS => ?_)
  refine lv_if_ne (tgt := 9) hx hb dX9_forget_4 (by decide) (fun c1 => ?_) (fun c1 => ?_)
  · rw [if_neg c1] at hF
    refine lv_aload_n hx hb dX9_forget_9 rfl (lv_at hl 0 rfl) ?_
    refine va_get (D := D) (ci := 9) (v := .ref (a 5)) (C := RX9) (T := TX9) (N := 34) hx hb hts inlX9 hown hK hP 0 gM_0 rfl 5 (by decide) (hts _ mw_121) (fun _ h9 => h9) rfl dX9_forget_10 ?_
    refine lv_iload_n hx hb dX9_forget_13 rfl (lv_at hl 1 rfl) ?_
    obtain ⟨v2, e3, hF⟩ := Option.bind_eq_some_iff.mp hF
    refine z_ild hx hb hK hP 5 gM_5 e3 dX9_forget_14 ?_
    refine lv_istore_n (lv' := [(2, .int v2), (0, .ref (a 0)), (1, .int x1)]) hx hb dX9_forget_15 rfl hl (by decide) rfl (fun ls hl => ?_)
    refine lv_aload_n hx hb dX9_forget_16 rfl (lv_at hl 1 rfl) ?_
    refine va_get (D := D) (ci := 9) (v := .ref (a 5)) (C := RX9) (T := TX9) (N := 34) hx hb hts inlX9 hown hK hP 0 gM_0 rfl 5 (by decide) (hts _ mw_121) (fun _ h9 => h9) rfl dX9_forget_17 ?_
    refine lv_iload_n hx hb dX9_forget_20 rfl (lv_at hl 2 rfl) ?_
    refine lv_iconst (v := (0 : Int32)) hx hb dX9_forget_21 (by decide) ?_
    obtain ⟨σ4, e5, hF⟩ := Option.bind_eq_some_iff.mp hF
    refine z_ist (wM cyI cyZ a) hx hb hK hP hD hS 5 gM_5 sM_5 e5 dX9_forget_22 (fun H locs hP hD hS => ?_)
    refine lv_iload_n hx hb dX9_forget_23 rfl (lv_at hl 0 rfl) ?_
    cases hF
    exact z_iret hx hb hr hlocks hK hP hD hS dX9_forget_24
  · rw [if_pos c1] at hF
    refine lv_iconst (v := (-1 : Int32)) hx hb dX9_forget_7 (by decide) ?_
    cases hF
    exact z_iret hx hb hr hlocks hK hP hD hS dX9_forget_8
abbrev ts_X9_add : List Cond := .code yX9_add cX9_add 3 (some .int) :: wsL_law
set_option maxHeartbeats 4000000 in
set_option maxRecDepth 100000 in
theorem c_X9_add (l : Launch) (D : va_G) (cyI cyZ : ClassId) (a : Nat → Nat) (A : Nat → Prop) (σ : Mem) (x1 : Int32) (x2 : Int32) (r : Int32) (σ' : Mem) (hF : F_X9_add σ x1 x2 = some (r, σ')) : CtI l yX9_add ts_X9_add ({ frames := 0, cells := 0, slots := 0, locals := 0 } : Room) [.ref (a 0), .int x1, .int x2] D cyI cyZ A (wM cyI cyZ a σ) (wM cyI cyZ a σ') r := by
  refine CtI.of (cc := cX9_add) (maxL := 3) (ret := (some .int)) (by decide) rfl (Nat.le_of_ble_eq_true rfl) ?_
  intro p e s m below meth c ls hC hP hD hl
  obtain ⟨hx, hb, hr, hml, hown, hts, hK, hN, hlocks⟩ := hC
  have hown : s.vm.findClass RX9 = some m.cls := hown
  have hS : va_S A s.heap s.heap [] := va_S.rf
  have hl : lv_has ls 3 [(0, .ref (a 0)), (1, .int x1), (2, .int x2)] := hl
  unfold F_X9_add at hF
  refine lv_aload_n hx hb dX9_add_0 rfl (lv_at hl 0 rfl) ?_
  refine va_get (D := D) (ci := 9) (v := .int (σ 0 13)) (C := RX9) (T := TX9) (N := 34) hx hb hts inlX9 hown hK hP 0 gM_0 rfl 13 (by decide) (hts _ mw_360) (fun _ h9 => h9) rfl dX9_add_1 ?_
  refine lv_bipush (v := (8 : Int32)) hx hb dX9_add_4 (by decide) ?_
  refine lv_icmp_ne (tgt := 12) hx hb dX9_add_6 (by decide) (fun c1 => ?_) (fun c1 => ?_)
  · rw [if_neg c1] at hF
    refine lv_aload_n hx hb dX9_add_12 rfl (lv_at hl 0 rfl) ?_
    refine va_get (D := D) (ci := 9) (v := .ref (a 11)) (C := RX9) (T := TX9) (N := 34) hx hb hts inlX9 hown hK hP 0 gM_0 rfl 11 (by decide) (hts _ mw_127) (fun _ h9 => h9) rfl dX9_add_13 ?_
    refine lv_aload_n hx hb dX9_add_16 rfl (lv_at hl 0 rfl) ?_
    refine va_get (D := D) (ci := 9) (v := .int (σ 0 13)) (C := RX9) (T := TX9) (N := 34) hx hb hts inlX9 hown hK hP 0 gM_0 rfl 13 (by decide) (hts _ mw_360) (fun _ h9 => h9) rfl dX9_add_17 ?_
    refine lv_iload_n hx hb dX9_add_20 rfl (lv_at hl 1 rfl) ?_
    obtain ⟨σ2, e3, hF⟩ := Option.bind_eq_some_iff.mp hF
    refine z_ist (wM cyI cyZ a) hx hb hK hP hD hS 11 gM_11 sM_11 e3 dX9_add_21 (fun H locs hP hD hS => ?_)
    refine lv_aload_n hx hb dX9_add_22 rfl (lv_at hl 0 rfl) ?_
    refine va_get (D := D) (ci := 9) (v := .ref (a 12)) (C := RX9) (T := TX9) (N := 34) hx hb hts inlX9 hown hK hP 0 gM_0 rfl 12 (by decide) (hts _ mw_128) (fun _ h9 => h9) rfl dX9_add_23 ?_
    refine lv_aload_n hx hb dX9_add_26 rfl (lv_at hl 0 rfl) ?_
    refine va_get (D := D) (ci := 9) (v := .int (σ2 0 13)) (C := RX9) (T := TX9) (N := 34) hx hb hts inlX9 hown hK hP 0 gM_0 rfl 13 (by decide) (hts _ mw_360) (fun _ h9 => h9) rfl dX9_add_27 ?_
    refine lv_iload_n hx hb dX9_add_30 rfl (lv_at hl 2 rfl) ?_
    obtain ⟨σ4, e5, hF⟩ := Option.bind_eq_some_iff.mp hF
    refine z_zst (wM cyI cyZ a) hx hb hK hP hD hS 12 gM_12 sM_12 e5 dX9_add_31 (fun H locs hP hD hS => ?_)
    refine lv_aload_n hx hb dX9_add_32 rfl (lv_at hl 0 rfl) ?_
    refine lv_dup hx hb dX9_add_33 rfl ?_
    refine va_get (D := D) (ci := 9) (v := .int (σ4 0 13)) (C := RX9) (T := TX9) (N := 34) hx hb hts inlX9 hown hK hP 0 gM_0 rfl 13 (by decide) (hts _ mw_360) (fun _ h9 => h9) rfl dX9_add_34 ?_
    refine lv_iconst (v := (1 : Int32)) hx hb dX9_add_37 (by decide) ?_
    refine lv_iadd hx hb dX9_add_38 ?_
    obtain ⟨σ6, e7, hF⟩ := Option.bind_eq_some_iff.mp hF
    refine va_put (D := D) (ci := 9) (v := .int ((σ4 0 13) + (1 : Int32))) (ty := .int) (C := RX9) (T := TX9) (N := 34) hx hb hts inlX9 tyX9 tyX9_ok nmX9 hown hK hP hD hS 0 gM_0 rfl 13 (by decide) (hts _ mw_360) (fun _ h9 => h9) rfl (by decide +kernel) rfl rfl (Nat.le_of_ble_eq_true rfl) dX9_add_39 (fun H locs hP hD hS => ?_)
    rw [sM_0_13, Option.some.inj e7] at hP hD
    refine lv_aload_n hx hb dX9_add_42 rfl (lv_at hl 0 rfl) ?_
    refine va_get (D := D) (ci := 9) (v := .int (σ6 0 13)) (C := RX9) (T := TX9) (N := 34) hx hb hts inlX9 hown hK hP 0 gM_0 rfl 13 (by decide) (hts _ mw_360) (fun _ h9 => h9) rfl dX9_add_43 ?_
    cases hF
    exact z_iret hx hb hr hlocks hK hP hD hS dX9_add_46
  · rw [if_pos c1] at hF
    refine lv_bipush (v := (-2 : Int32)) hx hb dX9_add_9 (by decide) ?_
    cases hF
    exact z_iret hx hb hr hlocks hK hP hD hS dX9_add_11
abbrev ts_X9_word : List Cond := .code yX9_word cX9_word 2 (some .int) :: wsL_law
set_option maxHeartbeats 4000000 in
set_option maxRecDepth 100000 in
theorem c_X9_word (l : Launch) (D : va_G) (cyI cyZ : ClassId) (a : Nat → Nat) (A : Nat → Prop) (σ : Mem) (x1 : Int32) (r : Int32) (σ' : Mem) (hF : F_X9_word σ x1 = some (r, σ')) : CtI l yX9_word ts_X9_word ({ frames := 1, cells := 0, slots := 0, locals := 22 } : Room) [.ref (a 0), .int x1] D cyI cyZ A (wM cyI cyZ a σ) (wM cyI cyZ a σ') r := by
  refine CtI.of (cc := cX9_word) (maxL := 2) (ret := (some .int)) (by decide) rfl (Nat.le_of_ble_eq_true rfl) ?_
  intro p e s m below meth c ls hC hP hD hl
  obtain ⟨hx, hb, hr, hml, hown, hts, hK, hN, hlocks⟩ := hC
  have hown : s.vm.findClass RX9 = some m.cls := hown
  have hS : va_S A s.heap s.heap [] := va_S.rf
  have hl : lv_has ls 2 [(0, .ref (a 0)), (1, .int x1)] := hl
  unfold F_X9_word at hF
  refine lv_iload_n hx hb dX9_word_0 rfl (lv_at hl 1 rfl) ?_
  refine z_callSI (w' := (wM cyI cyZ a σ)) (As := [.int x1]) (rest := []) ⟨hx, hb, hml, hown, hts⟩ (c_X9_isWord l D cyI cyZ A (wM cyI cyZ a σ) x1 _ rfl) (va_cwS 1 hts (gd_S mw_303 mw_304 mw_5 mw_305) rfl rfl rfl (by decide +kernel) ⟨Nat.le_of_ble_eq_true rfl, Nat.le_of_ble_eq_true rfl⟩) hK hN hP hD hS rfl hl.1 rfl (Nat.le_of_ble_eq_true rfl) dX9_word_1 ⟨Nat.zero_le _, Nat.zero_le _⟩ (fun H locs hP hD hS => ?_)
  refine lv_if_eq (tgt := 16) hx hb dX9_word_4 (by decide) (fun c1 => ?_) (fun c1 => ?_)
  · rw [if_pos c1] at hF
    refine lv_iconst (v := (-1 : Int32)) hx hb dX9_word_16 (by decide) ?_
    cases hF
    exact z_iret hx hb hr hlocks hK hP hD hS dX9_word_17
  · rw [if_neg c1] at hF
    refine lv_aload_n hx hb dX9_word_7 rfl (lv_at hl 0 rfl) ?_
    refine lv_iload_n hx hb dX9_word_8 rfl (lv_at hl 1 rfl) ?_
    refine lv_iconst (v := (0 : Int32)) hx hb dX9_word_9 (by decide) ?_
    obtain ⟨p2, e3, hF⟩ := Option.bind_eq_some_iff.mp hF
    refine z_callVI (w' := (wM cyI cyZ a p2.2)) (As := [.int x1, .int (0 : Int32)]) (rest := []) ⟨hx, hb, hml, hown, hts⟩ (c_X9_add l D cyI cyZ a A σ x1 (0 : Int32) p2.1 p2.2 e3) (cwV 2 hts (gd_V mw_356 mw_357 mw_358 mw_5 mw_359) rfl rfl rfl (by decide +kernel) ⟨Nat.le_of_ble_eq_true rfl, Nat.le_of_ble_eq_true rfl⟩) hK hN hP hD hS 9 0 rfl rfl gM_0 rfl hl.1 rfl (Nat.le_of_ble_eq_true rfl) dX9_word_10 ⟨Nat.zero_le _, Nat.zero_le _⟩ (fun H locs hP hD hS => ?_)
    refine lv_goto (tgt := 17) hx hb dX9_word_13 (by decide) ?_
    cases hF
    exact z_iret hx hb hr hlocks hK hP hD hS dX9_word_17
abbrev ts_X9_number : List Cond := .code yX9_number cX9_number 2 (some .int) :: wsL_law
set_option maxHeartbeats 4000000 in
set_option maxRecDepth 100000 in
theorem c_X9_number (l : Launch) (D : va_G) (cyI cyZ : ClassId) (a : Nat → Nat) (A : Nat → Prop) (σ : Mem) (x1 : Int32) (r : Int32) (σ' : Mem) (hF : F_X9_number σ x1 = some (r, σ')) : CtI l yX9_number ts_X9_number ({ frames := 1, cells := 0, slots := 0, locals := 22 } : Room) [.ref (a 0), .int x1] D cyI cyZ A (wM cyI cyZ a σ) (wM cyI cyZ a σ') r := by
  refine CtI.of (cc := cX9_number) (maxL := 2) (ret := (some .int)) (by decide) rfl (Nat.le_of_ble_eq_true rfl) ?_
  intro p e s m below meth c ls hC hP hD hl
  obtain ⟨hx, hb, hr, hml, hown, hts, hK, hN, hlocks⟩ := hC
  have hown : s.vm.findClass RX9 = some m.cls := hown
  have hS : va_S A s.heap s.heap [] := va_S.rf
  have hl : lv_has ls 2 [(0, .ref (a 0)), (1, .int x1)] := hl
  unfold F_X9_number at hF
  refine lv_iload_n hx hb dX9_number_0 rfl (lv_at hl 1 rfl) ?_
  refine lv_sipush (v := (-999 : Int32)) hx hb dX9_number_1 (by decide) ?_
  refine lv_sipush (v := (999 : Int32)) hx hb dX9_number_4 (by decide) ?_
  refine z_callSI (w' := (wM cyI cyZ a σ)) (As := [.int x1, .int (-999 : Int32), .int (999 : Int32)]) (rest := []) ⟨hx, hb, hml, hown, hts⟩ (c_X9_within l D cyI cyZ A (wM cyI cyZ a σ) x1 (-999 : Int32) (999 : Int32) _ rfl) (va_cwS 3 hts (gd_S mw_161 mw_162 mw_5 mw_163) rfl rfl rfl (by decide +kernel) ⟨Nat.le_of_ble_eq_true rfl, Nat.le_of_ble_eq_true rfl⟩) hK hN hP hD hS rfl hl.1 rfl (Nat.le_of_ble_eq_true rfl) dX9_number_7 ⟨Nat.zero_le _, Nat.zero_le _⟩ (fun H locs hP hD hS => ?_)
  refine lv_if_eq (tgt := 22) hx hb dX9_number_10 (by decide) (fun c1 => ?_) (fun c1 => ?_)
  · rw [if_pos c1] at hF
    refine lv_iconst (v := (-1 : Int32)) hx hb dX9_number_22 (by decide) ?_
    cases hF
    exact z_iret hx hb hr hlocks hK hP hD hS dX9_number_23
  · rw [if_neg c1] at hF
    refine lv_aload_n hx hb dX9_number_13 rfl (lv_at hl 0 rfl) ?_
    refine lv_iload_n hx hb dX9_number_14 rfl (lv_at hl 1 rfl) ?_
    refine lv_iconst (v := (1 : Int32)) hx hb dX9_number_15 (by decide) ?_
    obtain ⟨p2, e3, hF⟩ := Option.bind_eq_some_iff.mp hF
    refine z_callVI (w' := (wM cyI cyZ a p2.2)) (As := [.int x1, .int (1 : Int32)]) (rest := []) ⟨hx, hb, hml, hown, hts⟩ (c_X9_add l D cyI cyZ a A σ x1 (1 : Int32) p2.1 p2.2 e3) (cwV 2 hts (gd_V mw_356 mw_357 mw_358 mw_5 mw_359) rfl rfl rfl (by decide +kernel) ⟨Nat.le_of_ble_eq_true rfl, Nat.le_of_ble_eq_true rfl⟩) hK hN hP hD hS 9 0 rfl rfl gM_0 rfl hl.1 rfl (Nat.le_of_ble_eq_true rfl) dX9_number_16 ⟨Nat.zero_le _, Nat.zero_le _⟩ (fun H locs hP hD hS => ?_)
    refine lv_goto (tgt := 23) hx hb dX9_number_19 (by decide) ?_
    cases hF
    exact z_iret hx hb hr hlocks hK hP hD hS dX9_number_23
abbrev ts_X9_clear : List Cond := .code yX9_clear cX9_clear 2 (some .int) :: wsL_law
set_option maxHeartbeats 4000000 in
set_option maxRecDepth 100000 in
theorem c_X9_clear (l : Launch) (D : va_G) (cyI cyZ : ClassId) (a : Nat → Nat) (A : Nat → Prop) (σ : Mem) (r : Int32) (σ' : Mem) (hF : F_X9_clear σ  = some (r, σ')) : CtI l yX9_clear ts_X9_clear ({ frames := 0, cells := 0, slots := 0, locals := 0 } : Room) [.ref (a 0)] D cyI cyZ A (wM cyI cyZ a σ) (wM cyI cyZ a σ') r := by
  refine CtI.of (cc := cX9_clear) (maxL := 2) (ret := (some .int)) (by decide) rfl (Nat.le_of_ble_eq_true rfl) ?_
  intro p e s m below meth c ls hC hP hD hl
  obtain ⟨hx, hb, hr, hml, hown, hts, hK, hN, hlocks⟩ := hC
  have hown : s.vm.findClass RX9 = some m.cls := hown
  have hS : va_S A s.heap s.heap [] := va_S.rf
  have hl : lv_has ls 2 [(0, .ref (a 0))] := hl
  unfold F_X9_clear at hF
  refine lv_aload_n hx hb dX9_clear_0 rfl (lv_at hl 0 rfl) ?_
  refine va_get (D := D) (ci := 9) (v := .int (σ 0 13)) (C := RX9) (T := TX9) (N := 34) hx hb hts inlX9 hown hK hP 0 gM_0 rfl 13 (by decide) (hts _ mw_360) (fun _ h9 => h9) rfl dX9_clear_1 ?_
  refine lv_istore_n (lv' := [(1, .int (σ 0 13)), (0, .ref (a 0))]) hx hb dX9_clear_4 rfl hl (by decide) rfl (fun ls hl => ?_)
  refine lv_aload_n hx hb dX9_clear_5 rfl (lv_at hl 1 rfl) ?_
  refine lv_iconst (v := (0 : Int32)) hx hb dX9_clear_6 (by decide) ?_
  obtain ⟨σ1, e2, hF⟩ := Option.bind_eq_some_iff.mp hF
  refine va_put (D := D) (ci := 9) (v := .int (0 : Int32)) (ty := .int) (C := RX9) (T := TX9) (N := 34) hx hb hts inlX9 tyX9 tyX9_ok nmX9 hown hK hP hD hS 0 gM_0 rfl 13 (by decide) (hts _ mw_360) (fun _ h9 => h9) rfl (by decide +kernel) rfl rfl (Nat.le_of_ble_eq_true rfl) dX9_clear_7 (fun H locs hP hD hS => ?_)
  rw [sM_0_13, Option.some.inj e2] at hP hD
  refine lv_iload_n hx hb dX9_clear_10 rfl (lv_at hl 0 rfl) ?_
  cases hF
  exact z_iret hx hb hr hlocks hK hP hD hS dX9_clear_11
abbrev ts_X9_at : List Cond := .code yX9_at cX9_at 2 (some .int) :: wsL_law
set_option maxHeartbeats 4000000 in
set_option maxRecDepth 100000 in
theorem c_X9_at (l : Launch) (D : va_G) (cyI cyZ : ClassId) (a : Nat → Nat) (A : Nat → Prop) (σ : Mem) (x1 : Int32) (r : Int32) (hF : F_X9_at σ x1 = some r) : CtI l yX9_at ts_X9_at ({ frames := 0, cells := 0, slots := 0, locals := 0 } : Room) [.ref (a 0), .int x1] D cyI cyZ A (wM cyI cyZ a σ) (wM cyI cyZ a σ) r := by
  refine CtI.of (cc := cX9_at) (maxL := 2) (ret := (some .int)) (by decide) rfl (Nat.le_of_ble_eq_true rfl) ?_
  intro p e s m below meth c ls hC hP hD hl
  obtain ⟨hx, hb, hr, hml, hown, hts, hK, hN, hlocks⟩ := hC
  have hown : s.vm.findClass RX9 = some m.cls := hown
  have hS : va_S A s.heap s.heap [] := va_S.rf
  have hl : lv_has ls 2 [(0, .ref (a 0)), (1, .int x1)] := hl
  unfold F_X9_at at hF
  refine lv_iload_n hx hb dX9_at_0 rfl (lv_at hl 1 rfl) ?_
  refine lv_if_lt (tgt := 21) hx hb dX9_at_1 (by decide) (fun c1 => ?_) (fun c1 => ?_)
  · rw [if_pos c1] at hF
    refine lv_iconst (v := (-1 : Int32)) hx hb dX9_at_21 (by decide) ?_
    refine lv_goto (tgt := 40) hx hb dX9_at_22 (by decide) ?_
    cases hF
    exact z_iret hx hb hr hlocks hK hP hD hS dX9_at_40
  · rw [if_neg c1] at hF
    refine lv_iload_n hx hb dX9_at_4 rfl (lv_at hl 1 rfl) ?_
    refine lv_aload_n hx hb dX9_at_5 rfl (lv_at hl 0 rfl) ?_
    refine va_get (D := D) (ci := 9) (v := .int (σ 0 13)) (C := RX9) (T := TX9) (N := 34) hx hb hts inlX9 hown hK hP 0 gM_0 rfl 13 (by decide) (hts _ mw_360) (fun _ h9 => h9) rfl dX9_at_6 ?_
    refine lv_icmp_ge (tgt := 21) hx hb dX9_at_9 (by decide) (fun c2 => ?_) (fun c2 => ?_)
    · rw [if_pos c2] at hF
      refine lv_iconst (v := (-1 : Int32)) hx hb dX9_at_21 (by decide) ?_
      refine lv_goto (tgt := 40) hx hb dX9_at_22 (by decide) ?_
      cases hF
      exact z_iret hx hb hr hlocks hK hP hD hS dX9_at_40
    · rw [if_neg c2] at hF
      refine lv_aload_n hx hb dX9_at_12 rfl (lv_at hl 0 rfl) ?_
      refine va_get (D := D) (ci := 9) (v := .ref (a 12)) (C := RX9) (T := TX9) (N := 34) hx hb hts inlX9 hown hK hP 0 gM_0 rfl 12 (by decide) (hts _ mw_128) (fun _ h9 => h9) rfl dX9_at_13 ?_
      refine lv_iload_n hx hb dX9_at_16 rfl (lv_at hl 1 rfl) ?_
      obtain ⟨v3, e4, hF⟩ := Option.bind_eq_some_iff.mp hF
      refine z_zld hx hb hK hP 12 gM_12 e4 dX9_at_17 ?_
      refine lv_if_eq (tgt := 25) hx hb dX9_at_18 (by decide) (fun c5 => ?_) (fun c5 => ?_)
      · rw [if_pos c5] at hF
        refine lv_iconst (v := (3 : Int32)) hx hb dX9_at_25 (by decide) ?_
        refine lv_aload_n hx hb dX9_at_26 rfl (lv_at hl 0 rfl) ?_
        refine va_get (D := D) (ci := 9) (v := .ref (a 11)) (C := RX9) (T := TX9) (N := 34) hx hb hts inlX9 hown hK hP 0 gM_0 rfl 11 (by decide) (hts _ mw_127) (fun _ h9 => h9) rfl dX9_at_27 ?_
        refine lv_iload_n hx hb dX9_at_30 rfl (lv_at hl 1 rfl) ?_
        obtain ⟨v6, e7, hF⟩ := Option.bind_eq_some_iff.mp hF
        refine z_ild hx hb hK hP 11 gM_11 e7 dX9_at_31 ?_
        refine lv_imul hx hb dX9_at_32 ?_
        refine lv_aload_n hx hb dX9_at_33 rfl (lv_at hl 0 rfl) ?_
        refine va_get (D := D) (ci := 9) (v := .ref (a 21)) (C := RX9) (T := TX9) (N := 34) hx hb hts inlX9 hown hK hP 0 gM_0 rfl 23 (by decide) (hts _ mw_137) (fun _ h9 => h9) rfl dX9_at_34 ?_
        refine lv_iload_n hx hb dX9_at_37 rfl (lv_at hl 1 rfl) ?_
        obtain ⟨v8, e9, hF⟩ := Option.bind_eq_some_iff.mp hF
        refine z_ild hx hb hK hP 21 gM_21 e9 dX9_at_38 ?_
        refine lv_iadd hx hb dX9_at_39 ?_
        cases hF
        exact z_iret hx hb hr hlocks hK hP hD hS dX9_at_40
      · rw [if_neg c5] at hF
        refine lv_iconst (v := (-1 : Int32)) hx hb dX9_at_21 (by decide) ?_
        refine lv_goto (tgt := 40) hx hb dX9_at_22 (by decide) ?_
        cases hF
        exact z_iret hx hb hr hlocks hK hP hD hS dX9_at_40
abbrev ts_X9_is : List Cond := .code yX9_is cX9_is 4 (some .boolean) :: wsL_law
set_option maxHeartbeats 4000000 in
set_option maxRecDepth 100000 in
theorem c_X9_is (l : Launch) (D : va_G) (cyI cyZ : ClassId) (a : Nat → Nat) (A : Nat → Prop) (σ : Mem) (x1 : Int32) (x2 : Int32) (r : Int32) (hF : F_X9_is σ x1 x2 = some r) : CtI l yX9_is ts_X9_is ({ frames := 1, cells := 0, slots := 0, locals := 21 } : Room) [.ref (a 0), .int x1, .int x2] D cyI cyZ A (wM cyI cyZ a σ) (wM cyI cyZ a σ) r := by
  refine CtI.of (cc := cX9_is) (maxL := 4) (ret := (some .boolean)) (by decide) rfl (Nat.le_of_ble_eq_true rfl) ?_
  intro p e s m below meth c ls hC hP hD hl
  obtain ⟨hx, hb, hr, hml, hown, hts, hK, hN, hlocks⟩ := hC
  have hown : s.vm.findClass RX9 = some m.cls := hown
  have hS : va_S A s.heap s.heap [] := va_S.rf
  have hl : lv_has ls 4 [(0, .ref (a 0)), (1, .int x1), (2, .int x2)] := hl
  unfold F_X9_is at hF
  refine lv_aload_n hx hb dX9_is_0 rfl (lv_at hl 0 rfl) ?_
  refine lv_iload_n hx hb dX9_is_1 rfl (lv_at hl 1 rfl) ?_
  obtain ⟨v1, e2, hF⟩ := Option.bind_eq_some_iff.mp hF
  refine z_callVI (w' := (wM cyI cyZ a σ)) (As := [.int x1]) (rest := []) ⟨hx, hb, hml, hown, hts⟩ (c_X9_at l D cyI cyZ a A σ x1 _ e2) (cwV 1 hts (gd_V mw_550 mw_551 mw_552 mw_5 mw_553) rfl rfl rfl (by decide +kernel) ⟨Nat.le_of_ble_eq_true rfl, Nat.le_of_ble_eq_true rfl⟩) hK hN hP hD hS 9 0 rfl rfl gM_0 rfl hl.1 rfl (Nat.le_of_ble_eq_true rfl) dX9_is_2 ⟨Nat.zero_le _, Nat.zero_le _⟩ (fun H locs hP hD hS => ?_)
  refine lv_istore_n (lv' := [(3, .int v1), (0, .ref (a 0)), (1, .int x1), (2, .int x2)]) hx hb dX9_is_5 rfl hl (by decide) rfl (fun ls hl => ?_)
  refine lv_iload_n hx hb dX9_is_6 rfl (lv_at hl 0 rfl) ?_
  refine lv_if_lt (tgt := 24) hx hb dX9_is_7 (by decide) (fun c3 => ?_) (fun c3 => ?_)
  · rw [if_pos c3] at hF
    refine lv_iconst (v := (0 : Int32)) hx hb dX9_is_24 (by decide) ?_
    cases hF
    exact z_zret hx hb hr hlocks hK hP hD hS rfl dX9_is_25
  · rw [if_neg c3] at hF
    refine lv_aload_n hx hb dX9_is_10 rfl (lv_at hl 1 rfl) ?_
    refine va_get (D := D) (ci := 9) (v := .ref (a 6)) (C := RX9) (T := TX9) (N := 34) hx hb hts inlX9 hown hK hP 0 gM_0 rfl 6 (by decide) (hts _ mw_122) (fun _ h9 => h9) rfl dX9_is_11 ?_
    refine lv_iload_n hx hb dX9_is_14 rfl (lv_at hl 0 rfl) ?_
    obtain ⟨v4, e5, hF⟩ := Option.bind_eq_some_iff.mp hF
    refine z_ild hx hb hK hP 6 gM_6 e5 dX9_is_15 ?_
    refine lv_iload_n hx hb dX9_is_16 rfl (lv_at hl 3 rfl) ?_
    refine lv_icmp_ne (tgt := 24) hx hb dX9_is_17 (by decide) (fun c6 => ?_) (fun c6 => ?_)
    · rw [if_neg c6] at hF
      refine lv_iconst (v := (0 : Int32)) hx hb dX9_is_24 (by decide) ?_
      cases hF
      exact z_zret hx hb hr hlocks hK hP hD hS rfl dX9_is_25
    · rw [if_pos c6] at hF
      refine lv_iconst (v := (1 : Int32)) hx hb dX9_is_20 (by decide) ?_
      refine lv_goto (tgt := 25) hx hb dX9_is_21 (by decide) ?_
      cases hF
      exact z_zret hx hb hr hlocks hK hP hD hS rfl dX9_is_25
abbrev ts_X9_addTest : List Cond := .code yX9_addTest cX9_addTest 5 none :: wsL_law
set_option maxHeartbeats 4000000 in
set_option maxRecDepth 100000 in
theorem c_X9_addTest (l : Launch) (D : va_G) (cyI cyZ : ClassId) (a : Nat → Nat) (A : Nat → Prop) (σ : Mem) (x1 : Int32) (x2 : Int32) (x3 : Int32) (x4 : Int32) (σ' : Mem) (hF : F_X9_addTest σ x1 x2 x3 x4 = some σ') : CtV l yX9_addTest ts_X9_addTest ({ frames := 0, cells := 0, slots := 0, locals := 0 } : Room) [.ref (a 0), .int x1, .int x2, .int x3, .int x4] D cyI cyZ A (wM cyI cyZ a σ) (wM cyI cyZ a σ') := by
  refine CtV.of (cc := cX9_addTest) (maxL := 5) (ret := none) (by decide) rfl (Nat.le_of_ble_eq_true rfl) ?_
  intro p e s m below meth c ls hC hP hD hl
  obtain ⟨hx, hb, hr, hml, hown, hts, hK, hN, hlocks⟩ := hC
  have hown : s.vm.findClass RX9 = some m.cls := hown
  have hS : va_S A s.heap s.heap [] := va_S.rf
  have hl : lv_has ls 5 [(0, .ref (a 0)), (1, .int x1), (2, .int x2), (3, .int x3), (4, .int x4)] := hl
  unfold F_X9_addTest at hF
  refine lv_aload_n hx hb dX9_addTest_0 rfl (lv_at hl 0 rfl) ?_
  refine va_get (D := D) (ci := 9) (v := .ref (a 22)) (C := RX9) (T := TX9) (N := 34) hx hb hts inlX9 hown hK hP 0 gM_0 rfl 28 (by decide) (hts _ mw_138) (fun _ h9 => h9) rfl dX9_addTest_1 ?_
  refine lv_aload_n hx hb dX9_addTest_4 rfl (lv_at hl 0 rfl) ?_
  refine va_get (D := D) (ci := 9) (v := .int (σ 0 32)) (C := RX9) (T := TX9) (N := 34) hx hb hts inlX9 hown hK hP 0 gM_0 rfl 32 (by decide) (hts _ mw_545) (fun _ h9 => h9) rfl dX9_addTest_5 ?_
  refine lv_iload_n hx hb dX9_addTest_8 rfl (lv_at hl 1 rfl) ?_
  obtain ⟨σ1, e2, hF⟩ := Option.bind_eq_some_iff.mp hF
  refine z_ist (wM cyI cyZ a) hx hb hK hP hD hS 22 gM_22 sM_22 e2 dX9_addTest_9 (fun H locs hP hD hS => ?_)
  refine lv_aload_n hx hb dX9_addTest_10 rfl (lv_at hl 0 rfl) ?_
  refine va_get (D := D) (ci := 9) (v := .ref (a 23)) (C := RX9) (T := TX9) (N := 34) hx hb hts inlX9 hown hK hP 0 gM_0 rfl 29 (by decide) (hts _ mw_139) (fun _ h9 => h9) rfl dX9_addTest_11 ?_
  refine lv_aload_n hx hb dX9_addTest_14 rfl (lv_at hl 0 rfl) ?_
  refine va_get (D := D) (ci := 9) (v := .int (σ1 0 32)) (C := RX9) (T := TX9) (N := 34) hx hb hts inlX9 hown hK hP 0 gM_0 rfl 32 (by decide) (hts _ mw_545) (fun _ h9 => h9) rfl dX9_addTest_15 ?_
  refine lv_iload_n hx hb dX9_addTest_18 rfl (lv_at hl 2 rfl) ?_
  obtain ⟨σ3, e4, hF⟩ := Option.bind_eq_some_iff.mp hF
  refine z_ist (wM cyI cyZ a) hx hb hK hP hD hS 23 gM_23 sM_23 e4 dX9_addTest_19 (fun H locs hP hD hS => ?_)
  refine lv_aload_n hx hb dX9_addTest_20 rfl (lv_at hl 0 rfl) ?_
  refine va_get (D := D) (ci := 9) (v := .ref (a 24)) (C := RX9) (T := TX9) (N := 34) hx hb hts inlX9 hown hK hP 0 gM_0 rfl 30 (by decide) (hts _ mw_140) (fun _ h9 => h9) rfl dX9_addTest_21 ?_
  refine lv_aload_n hx hb dX9_addTest_24 rfl (lv_at hl 0 rfl) ?_
  refine va_get (D := D) (ci := 9) (v := .int (σ3 0 32)) (C := RX9) (T := TX9) (N := 34) hx hb hts inlX9 hown hK hP 0 gM_0 rfl 32 (by decide) (hts _ mw_545) (fun _ h9 => h9) rfl dX9_addTest_25 ?_
  refine lv_iload_n hx hb dX9_addTest_28 rfl (lv_at hl 3 rfl) ?_
  obtain ⟨σ5, e6, hF⟩ := Option.bind_eq_some_iff.mp hF
  refine z_ist (wM cyI cyZ a) hx hb hK hP hD hS 24 gM_24 sM_24 e6 dX9_addTest_29 (fun H locs hP hD hS => ?_)
  refine lv_aload_n hx hb dX9_addTest_30 rfl (lv_at hl 0 rfl) ?_
  refine va_get (D := D) (ci := 9) (v := .ref (a 25)) (C := RX9) (T := TX9) (N := 34) hx hb hts inlX9 hown hK hP 0 gM_0 rfl 31 (by decide) (hts _ mw_141) (fun _ h9 => h9) rfl dX9_addTest_31 ?_
  refine lv_aload_n hx hb dX9_addTest_34 rfl (lv_at hl 0 rfl) ?_
  refine va_get (D := D) (ci := 9) (v := .int (σ5 0 32)) (C := RX9) (T := TX9) (N := 34) hx hb hts inlX9 hown hK hP 0 gM_0 rfl 32 (by decide) (hts _ mw_545) (fun _ h9 => h9) rfl dX9_addTest_35 ?_
  refine lv_iload hx hb dX9_addTest_38 (lv_at hl 4 rfl) ?_
  obtain ⟨σ7, e8, hF⟩ := Option.bind_eq_some_iff.mp hF
  refine z_ist (wM cyI cyZ a) hx hb hK hP hD hS 25 gM_25 sM_25 e8 dX9_addTest_40 (fun H locs hP hD hS => ?_)
  refine lv_aload_n hx hb dX9_addTest_41 rfl (lv_at hl 0 rfl) ?_
  refine lv_dup hx hb dX9_addTest_42 rfl ?_
  refine va_get (D := D) (ci := 9) (v := .int (σ7 0 32)) (C := RX9) (T := TX9) (N := 34) hx hb hts inlX9 hown hK hP 0 gM_0 rfl 32 (by decide) (hts _ mw_545) (fun _ h9 => h9) rfl dX9_addTest_43 ?_
  refine lv_iconst (v := (1 : Int32)) hx hb dX9_addTest_46 (by decide) ?_
  refine lv_iadd hx hb dX9_addTest_47 ?_
  obtain ⟨σ9, e10, hF⟩ := Option.bind_eq_some_iff.mp hF
  refine va_put (D := D) (ci := 9) (v := .int ((σ7 0 32) + (1 : Int32))) (ty := .int) (C := RX9) (T := TX9) (N := 34) hx hb hts inlX9 tyX9 tyX9_ok nmX9 hown hK hP hD hS 0 gM_0 rfl 32 (by decide) (hts _ mw_545) (fun _ h9 => h9) rfl (by decide +kernel) rfl rfl (Nat.le_of_ble_eq_true rfl) dX9_addTest_48 (fun H locs hP hD hS => ?_)
  rw [sM_0_32, Option.some.inj e10] at hP hD
  cases hF
  exact z_vret hx hb hr hlocks hK hP hD hS dX9_addTest_51
abbrev ts_X9_linkTo : List Cond := .code yX9_linkTo cX9_linkTo 3 (some .int) :: wsL_law
def SH_X9_linkTo (a : Nat → Nat) (ls : Array Slot) (pc : Nat) (vs : List Int32) : Prop := (pc = 0 ∧ ∃ x1 : Int32, vs = [x1] ∧ lv_has ls 3 [(0, .ref (a 0)), (1, .int x1)]) ∨ (pc = 2 ∧ ∃ x1 x2 : Int32, vs = [x1, x2] ∧ lv_has ls 3 [(0, .ref (a 0)), (1, .int x1), (2, .int x2)])
section
variable {p : Program} {l : Launch} {e : Env} {s : State} {m : MethodId} {args : Array Value} {below : List Frame} {meth : Method} {c : Code} {D : va_G} {A : Nat → Prop} {a : Nat → Nat} {cyI cyZ : ClassId} {r : Int32} {q : Unit × List Int32}
set_option maxHeartbeats 4000000 in
set_option maxRecDepth 100000 in
theorem wl_X9_linkTo_0 (σ : Mem) (hC : CX p c cX9_linkTo meth (some .int) s m args yX9_linkTo.cls 3 D cyI cyZ) (hq : extR q = some r) (n : Nat) (ih : ∀ (pc : Nat) (x : Unit) (vs : List Int32) (ls : Array Slot) (H : Heap) (locs : List Loc), goL (B_X9_linkTo σ) n pc x vs = some q → SH_X9_linkTo a ls pc vs → va_P D vwCl (wM cyI cyZ a σ) H → va_D A (wM cyI cyZ a σ) → va_S A s.heap H locs → W p l e (headSpec ts_X9_linkTo ({ frames := 0, cells := 0, slots := 0, locals := 0 } : Room)).room s m args below meth c H locs 0 0 (MQ below (QcI D cyI cyZ A (wM cyI cyZ a σ) r) args s 0 0 A) (F0 m pc ls [])) (x1 : Int32) (ls : Array Slot) (H : Heap) (locs : List Loc) (hgo : goL (B_X9_linkTo σ) (n + 1) 0 () [x1] = some q) (hl : lv_has ls 3 [(0, .ref (a 0)), (1, .int x1)]) (hP : va_P D vwCl (wM cyI cyZ a σ) H) (hD : va_D A (wM cyI cyZ a σ)) (hS : va_S A s.heap H locs) : W p l e (headSpec ts_X9_linkTo ({ frames := 0, cells := 0, slots := 0, locals := 0 } : Room)).room s m args below meth c H locs 0 0 (MQ below (QcI D cyI cyZ A (wM cyI cyZ a σ) r) args s 0 0 A) (F0 m 0 ls []) := by
  obtain ⟨hx, hb, hr, hml, hown, hts, hK, hN, hlocks⟩ := hC
  have hown : s.vm.findClass RX9 = some m.cls := hown
  obtain ⟨yy, hF, hgo⟩ := goL_step (by decide) hgo
  have hF : B_X9_linkTo_0 σ x1 = some yy := hF
  unfold B_X9_linkTo_0 at hF
  refine lv_iconst (v := (0 : Int32)) hx hb dX9_linkTo_0 (by decide) ?_
  refine lv_istore_n (lv' := [(2, .int (0 : Int32)), (0, .ref (a 0)), (1, .int x1)]) hx hb dX9_linkTo_1 rfl hl (by decide) rfl (fun ls hl => ?_)
  cases hF
  exact ih _ _ _ _ _ _ hgo (Or.inr (⟨rfl, _, _, rfl, lv_sub hl [1, 2, 0] rfl⟩)) hP hD hS
set_option maxHeartbeats 4000000 in
set_option maxRecDepth 100000 in
theorem wl_X9_linkTo_2 (σ : Mem) (hC : CX p c cX9_linkTo meth (some .int) s m args yX9_linkTo.cls 3 D cyI cyZ) (hq : extR q = some r) (n : Nat) (ih : ∀ (pc : Nat) (x : Unit) (vs : List Int32) (ls : Array Slot) (H : Heap) (locs : List Loc), goL (B_X9_linkTo σ) n pc x vs = some q → SH_X9_linkTo a ls pc vs → va_P D vwCl (wM cyI cyZ a σ) H → va_D A (wM cyI cyZ a σ) → va_S A s.heap H locs → W p l e (headSpec ts_X9_linkTo ({ frames := 0, cells := 0, slots := 0, locals := 0 } : Room)).room s m args below meth c H locs 0 0 (MQ below (QcI D cyI cyZ A (wM cyI cyZ a σ) r) args s 0 0 A) (F0 m pc ls [])) (x1 : Int32) (x2 : Int32) (ls : Array Slot) (H : Heap) (locs : List Loc) (hgo : goL (B_X9_linkTo σ) (n + 1) 2 () [x1, x2] = some q) (hl : lv_has ls 3 [(0, .ref (a 0)), (1, .int x1), (2, .int x2)]) (hP : va_P D vwCl (wM cyI cyZ a σ) H) (hD : va_D A (wM cyI cyZ a σ)) (hS : va_S A s.heap H locs) : W p l e (headSpec ts_X9_linkTo ({ frames := 0, cells := 0, slots := 0, locals := 0 } : Room)).room s m args below meth c H locs 0 0 (MQ below (QcI D cyI cyZ A (wM cyI cyZ a σ) r) args s 0 0 A) (F0 m 2 ls []) := by
  obtain ⟨hx, hb, hr, hml, hown, hts, hK, hN, hlocks⟩ := hC
  have hown : s.vm.findClass RX9 = some m.cls := hown
  obtain ⟨yy, hF, hgo⟩ := goL_step (by decide) hgo
  have hF : B_X9_linkTo_2 σ x1 x2 = some yy := hF
  unfold B_X9_linkTo_2 at hF
  refine lv_iload_n hx hb dX9_linkTo_2 rfl (lv_at hl 2 rfl) ?_
  refine lv_aload_n hx hb dX9_linkTo_3 rfl (lv_at hl 0 rfl) ?_
  refine va_get (D := D) (ci := 9) (v := .ref (a 1)) (C := RX9) (T := TX9) (N := 34) hx hb hts inlX9 hown hK hP 0 gM_0 rfl 0 (by decide) (hts _ mw_117) (fun _ h9 => h9) rfl dX9_linkTo_4 ?_
  refine lv_aload_n hx hb dX9_linkTo_7 rfl (lv_at hl 0 rfl) ?_
  refine va_get (D := D) (ci := 9) (v := .int (σ 0 25)) (C := RX9) (T := TX9) (N := 34) hx hb hts inlX9 hown hK hP 0 gM_0 rfl 25 (by decide) (hts _ mw_543) (fun _ h9 => h9) rfl dX9_linkTo_8 ?_
  obtain ⟨v1, e2, hF⟩ := Option.bind_eq_some_iff.mp hF
  refine z_ild hx hb hK hP 1 gM_1 e2 dX9_linkTo_11 ?_
  refine lv_icmp_ge (tgt := 40) hx hb dX9_linkTo_12 (by decide) (fun c3 => ?_) (fun c3 => ?_)
  · rw [if_pos c3] at hF
    refine lv_iconst (v := (-1 : Int32)) hx hb dX9_linkTo_40 (by decide) ?_
    cases hF
    obtain rfl := extR_ret hq (goL_ret hgo)
    exact z_iret hx hb hr hlocks hK hP hD hS dX9_linkTo_41
  · rw [if_neg c3] at hF
    refine lv_aload_n hx hb dX9_linkTo_15 rfl (lv_at hl 0 rfl) ?_
    refine va_get (D := D) (ci := 9) (v := .ref (a 4)) (C := RX9) (T := TX9) (N := 34) hx hb hts inlX9 hown hK hP 0 gM_0 rfl 3 (by decide) (hts _ mw_120) (fun _ h9 => h9) rfl dX9_linkTo_16 ?_
    refine lv_iconst (v := (4 : Int32)) hx hb dX9_linkTo_19 (by decide) ?_
    refine lv_aload_n hx hb dX9_linkTo_20 rfl (lv_at hl 0 rfl) ?_
    refine va_get (D := D) (ci := 9) (v := .int (σ 0 25)) (C := RX9) (T := TX9) (N := 34) hx hb hts inlX9 hown hK hP 0 gM_0 rfl 25 (by decide) (hts _ mw_543) (fun _ h9 => h9) rfl dX9_linkTo_21 ?_
    refine lv_imul hx hb dX9_linkTo_24 ?_
    refine lv_iload_n hx hb dX9_linkTo_25 rfl (lv_at hl 2 rfl) ?_
    refine lv_iadd hx hb dX9_linkTo_26 ?_
    obtain ⟨v4, e5, hF⟩ := Option.bind_eq_some_iff.mp hF
    refine z_ild hx hb hK hP 4 gM_4 e5 dX9_linkTo_27 ?_
    refine lv_iload_n hx hb dX9_linkTo_28 rfl (lv_at hl 1 rfl) ?_
    refine lv_icmp_ne (tgt := 34) hx hb dX9_linkTo_29 (by decide) (fun c6 => ?_) (fun c6 => ?_)
    · rw [if_neg c6] at hF
      refine lv_iinc (v := (x2 + (1 : Int32))) (lv' := [(2, .int (x2 + (1 : Int32))), (0, .ref (a 0)), (1, .int x1)]) hx hb dX9_linkTo_34 hl (k := 2) rfl rfl (by decide) rfl (fun ls hl => ?_)
      refine lv_goto (tgt := 2) hx hb dX9_linkTo_37 (by decide) ?_
      cases hF
      exact ih _ _ _ _ _ _ hgo (Or.inr (⟨rfl, _, _, rfl, lv_sub hl [1, 2, 0] rfl⟩)) hP hD hS
    · rw [if_pos c6] at hF
      refine lv_iload_n hx hb dX9_linkTo_32 rfl (lv_at hl 2 rfl) ?_
      cases hF
      obtain rfl := extR_ret hq (goL_ret hgo)
      exact z_iret hx hb hr hlocks hK hP hD hS dX9_linkTo_33
theorem wk_X9_linkTo (σ : Mem) (hC : CX p c cX9_linkTo meth (some .int) s m args yX9_linkTo.cls 3 D cyI cyZ) (hq : extR q = some r) : ∀ (n : Nat), ∀ (pc : Nat) (x : Unit) (vs : List Int32) (ls : Array Slot) (H : Heap) (locs : List Loc), goL (B_X9_linkTo σ) n pc x vs = some q → SH_X9_linkTo a ls pc vs → va_P D vwCl (wM cyI cyZ a σ) H → va_D A (wM cyI cyZ a σ) → va_S A s.heap H locs → W p l e (headSpec ts_X9_linkTo ({ frames := 0, cells := 0, slots := 0, locals := 0 } : Room)).room s m args below meth c H locs 0 0 (MQ below (QcI D cyI cyZ A (wM cyI cyZ a σ) r) args s 0 0 A) (F0 m pc ls []) := by
  intro n
  induction n with
  | zero => intro pc x vs ls H locs h; exact absurd h (by simp [goL])
  | succ n ih =>
    intro pc x vs ls H locs hgo hsh hP hD hS
    rcases hsh with ⟨rfl, x1, rfl, hl⟩ | ⟨rfl, x1, x2, rfl, hl⟩
    · exact wl_X9_linkTo_0 σ hC hq n ih x1 ls H locs hgo hl hP hD hS
    · exact wl_X9_linkTo_2 σ hC hq n ih x1 x2 ls H locs hgo hl hP hD hS
end
theorem c_X9_linkTo (l : Launch) (D : va_G) (cyI cyZ : ClassId) (a : Nat → Nat) (A : Nat → Prop) (σ : Mem) (x1 : Int32) (r : Int32) (hF : F_X9_linkTo σ x1 = some r) : CtI l yX9_linkTo ts_X9_linkTo ({ frames := 0, cells := 0, slots := 0, locals := 0 } : Room) [.ref (a 0), .int x1] D cyI cyZ A (wM cyI cyZ a σ) (wM cyI cyZ a σ) r := by
  refine CtI.of (cc := cX9_linkTo) (maxL := 3) (ret := (some .int)) (by decide) rfl (Nat.le_of_ble_eq_true rfl) ?_
  intro p e s m below meth c ls hC hP hD hl
  obtain ⟨q, hq, hr1⟩ := Option.bind_eq_some_iff.mp hF
  obtain ⟨n, hn⟩ := finL_some hq
  exact wk_X9_linkTo σ hC hr1 n 0 _ _ ls _ _ hn (Or.inl ⟨rfl, _, rfl, hl⟩) hP hD va_S.rf
