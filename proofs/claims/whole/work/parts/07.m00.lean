-- X0_spoil X3_size X3_isNumber X3_tokenAt X5_meaningIn X7_spotOf X2_start X7_aAt X7_bAt X7_sortAt X2_tellTable X3_isWordAt X5_isThanAt X2_tellWanted X2_tellDoing X5_originOf X7_cAt X2_tellTest
abbrev ts_X0_spoil : List Cond := .code yX0_spoil cX0_spoil 1 none :: wsL_law
set_option maxHeartbeats 4000000 in
set_option maxRecDepth 100000 in
theorem c_X0_spoil (l : Launch) (D : va_G) (cyI cyZ : ClassId) (a : Nat → Nat) (A : Nat → Prop) (σ : Mem) (σ' : Mem) (hF : F_X0_spoil σ  = some σ') : CtV l yX0_spoil ts_X0_spoil ({ frames := 0, cells := 0, slots := 0, locals := 0 } : Room) [.ref (a 29)] D cyI cyZ A (wC cyI cyZ a σ) (wC cyI cyZ a σ') := by
  refine CtV.of (cc := cX0_spoil) (maxL := 1) (ret := none) (by decide) rfl (Nat.le_of_ble_eq_true rfl) ?_
  intro p e s m below meth c ls hC hP hD hl
  obtain ⟨hx, hb, hr, hml, hown, hts, hK, hN, hlocks⟩ := hC
  have hown : s.vm.findClass RX0 = some m.cls := hown
  have hS : va_S A s.heap s.heap [] := va_S.rf
  have hl : lv_has ls 1 [(0, .ref (a 29))] := hl
  unfold F_X0_spoil at hF
  refine lv_aload_n hx hb dX0_spoil_0 rfl (lv_at hl 0 rfl) ?_
  refine lv_iconst (v := (0 : Int32)) hx hb dX0_spoil_1 (by decide) ?_
  obtain ⟨σ1, e2, hF⟩ := Option.bind_eq_some_iff.mp hF
  refine va_put (D := D) (ci := 0) (v := .int (0 : Int32)) (ty := .int) (C := RX0) (T := TX0) (N := 6) hx hb hts inlX0 tyX0 tyX0_ok nmX0 hown hK hP hD hS 29 gC_29 rfl 5 (by decide) (hts _ mw_187) (fun _ h9 => h9) rfl (by decide +kernel) rfl rfl (Nat.le_of_ble_eq_true rfl) dX0_spoil_2 (fun H locs hP hD hS => ?_)
  rw [sC_29_5, Option.some.inj e2] at hP hD
  cases hF
  exact z_vret hx hb hr hlocks hK hP hD hS dX0_spoil_5
abbrev ts_X3_size : List Cond := .code yX3_size cX3_size 1 (some .int) :: wsL_law
set_option maxHeartbeats 4000000 in
set_option maxRecDepth 100000 in
theorem c_X3_size (l : Launch) (D : va_G) (cyI cyZ : ClassId) (a : Nat → Nat) (A : Nat → Prop) (σ : Mem) (r : Int32) (hF : F_X3_size σ  = r) : CtI l yX3_size ts_X3_size ({ frames := 0, cells := 0, slots := 0, locals := 0 } : Room) [.ref (a 13)] D cyI cyZ A (wC cyI cyZ a σ) (wC cyI cyZ a σ) r := by
  refine CtI.of (cc := cX3_size) (maxL := 1) (ret := (some .int)) (by decide) rfl (Nat.le_of_ble_eq_true rfl) ?_
  intro p e s m below meth c ls hC hP hD hl
  obtain ⟨hx, hb, hr, hml, hown, hts, hK, hN, hlocks⟩ := hC
  have hown : s.vm.findClass RX3 = some m.cls := hown
  have hS : va_S A s.heap s.heap [] := va_S.rf
  have hl : lv_has ls 1 [(0, .ref (a 13))] := hl
  unfold F_X3_size at hF
  refine lv_aload_n hx hb dX3_size_0 rfl (lv_at hl 0 rfl) ?_
  refine va_get (D := D) (ci := 3) (v := .int (σ 13 0)) (C := RX3) (T := TX3) (N := 3) hx hb hts inlX3 hown hK hP 13 gC_13 rfl 0 (by decide) (hts _ mw_342) (fun _ h9 => h9) rfl dX3_size_1 ?_
  subst hF
  exact z_iret hx hb hr hlocks hK hP hD hS dX3_size_4
abbrev ts_X3_isNumber : List Cond := .code yX3_isNumber cX3_isNumber 2 (some .boolean) :: wsL_law
set_option maxHeartbeats 4000000 in
set_option maxRecDepth 100000 in
theorem c_X3_isNumber (l : Launch) (D : va_G) (cyI cyZ : ClassId) (a : Nat → Nat) (A : Nat → Prop) (σ : Mem) (x1 : Int32) (r : Int32) (hF : F_X3_isNumber σ x1 = some r) : CtI l yX3_isNumber ts_X3_isNumber ({ frames := 0, cells := 0, slots := 0, locals := 0 } : Room) [.ref (a 13), .int x1] D cyI cyZ A (wC cyI cyZ a σ) (wC cyI cyZ a σ) r := by
  refine CtI.of (cc := cX3_isNumber) (maxL := 2) (ret := (some .boolean)) (by decide) rfl (Nat.le_of_ble_eq_true rfl) ?_
  intro p e s m below meth c ls hC hP hD hl
  obtain ⟨hx, hb, hr, hml, hown, hts, hK, hN, hlocks⟩ := hC
  have hown : s.vm.findClass RX3 = some m.cls := hown
  have hS : va_S A s.heap s.heap [] := va_S.rf
  have hl : lv_has ls 2 [(0, .ref (a 13)), (1, .int x1)] := hl
  unfold F_X3_isNumber at hF
  refine lv_iload_n hx hb dX3_isNumber_0 rfl (lv_at hl 1 rfl) ?_
  refine lv_if_lt (tgt := 25) hx hb dX3_isNumber_1 (by decide) (fun c1 => ?_) (fun c1 => ?_)
  · rw [if_pos c1] at hF
    refine lv_iconst (v := (0 : Int32)) hx hb dX3_isNumber_25 (by decide) ?_
    cases hF
    exact z_zret hx hb hr hlocks hK hP hD hS rfl dX3_isNumber_26
  · rw [if_neg c1] at hF
    refine lv_iload_n hx hb dX3_isNumber_4 rfl (lv_at hl 1 rfl) ?_
    refine lv_aload_n hx hb dX3_isNumber_5 rfl (lv_at hl 0 rfl) ?_
    refine va_get (D := D) (ci := 3) (v := .int (σ 13 0)) (C := RX3) (T := TX3) (N := 3) hx hb hts inlX3 hown hK hP 13 gC_13 rfl 0 (by decide) (hts _ mw_342) (fun _ h9 => h9) rfl dX3_isNumber_6 ?_
    refine lv_icmp_ge (tgt := 25) hx hb dX3_isNumber_9 (by decide) (fun c2 => ?_) (fun c2 => ?_)
    · rw [if_pos c2] at hF
      refine lv_iconst (v := (0 : Int32)) hx hb dX3_isNumber_25 (by decide) ?_
      cases hF
      exact z_zret hx hb hr hlocks hK hP hD hS rfl dX3_isNumber_26
    · rw [if_neg c2] at hF
      refine lv_aload_n hx hb dX3_isNumber_12 rfl (lv_at hl 0 rfl) ?_
      refine va_get (D := D) (ci := 3) (v := .ref (a 14)) (C := RX3) (T := TX3) (N := 3) hx hb hts inlX3 hown hK hP 13 gC_13 rfl 1 (by decide) (hts _ mw_63) (fun _ h9 => h9) rfl dX3_isNumber_13 ?_
      refine lv_iload_n hx hb dX3_isNumber_16 rfl (lv_at hl 1 rfl) ?_
      obtain ⟨v3, e4, hF⟩ := Option.bind_eq_some_iff.mp hF
      refine z_zld hx hb hK hP 14 gC_14 e4 dX3_isNumber_17 ?_
      refine lv_if_eq (tgt := 25) hx hb dX3_isNumber_18 (by decide) (fun c5 => ?_) (fun c5 => ?_)
      · rw [if_pos c5] at hF
        refine lv_iconst (v := (0 : Int32)) hx hb dX3_isNumber_25 (by decide) ?_
        cases hF
        exact z_zret hx hb hr hlocks hK hP hD hS rfl dX3_isNumber_26
      · rw [if_neg c5] at hF
        refine lv_iconst (v := (1 : Int32)) hx hb dX3_isNumber_21 (by decide) ?_
        refine lv_goto (tgt := 26) hx hb dX3_isNumber_22 (by decide) ?_
        cases hF
        exact z_zret hx hb hr hlocks hK hP hD hS rfl dX3_isNumber_26
abbrev ts_X3_tokenAt : List Cond := .code yX3_tokenAt cX3_tokenAt 2 (some .int) :: wsL_law
set_option maxHeartbeats 4000000 in
set_option maxRecDepth 100000 in
theorem c_X3_tokenAt (l : Launch) (D : va_G) (cyI cyZ : ClassId) (a : Nat → Nat) (A : Nat → Prop) (σ : Mem) (x1 : Int32) (r : Int32) (hF : F_X3_tokenAt σ x1 = some r) : CtI l yX3_tokenAt ts_X3_tokenAt ({ frames := 0, cells := 0, slots := 0, locals := 0 } : Room) [.ref (a 13), .int x1] D cyI cyZ A (wC cyI cyZ a σ) (wC cyI cyZ a σ) r := by
  refine CtI.of (cc := cX3_tokenAt) (maxL := 2) (ret := (some .int)) (by decide) rfl (Nat.le_of_ble_eq_true rfl) ?_
  intro p e s m below meth c ls hC hP hD hl
  obtain ⟨hx, hb, hr, hml, hown, hts, hK, hN, hlocks⟩ := hC
  have hown : s.vm.findClass RX3 = some m.cls := hown
  have hS : va_S A s.heap s.heap [] := va_S.rf
  have hl : lv_has ls 2 [(0, .ref (a 13)), (1, .int x1)] := hl
  unfold F_X3_tokenAt at hF
  refine lv_aload_n hx hb dX3_tokenAt_0 rfl (lv_at hl 0 rfl) ?_
  refine va_get (D := D) (ci := 3) (v := .ref (a 15)) (C := RX3) (T := TX3) (N := 3) hx hb hts inlX3 hown hK hP 13 gC_13 rfl 2 (by decide) (hts _ mw_64) (fun _ h9 => h9) rfl dX3_tokenAt_1 ?_
  refine lv_iload_n hx hb dX3_tokenAt_4 rfl (lv_at hl 1 rfl) ?_
  obtain ⟨v1, e2, hF⟩ := Option.bind_eq_some_iff.mp hF
  refine z_ild hx hb hK hP 15 gC_15 e2 dX3_tokenAt_5 ?_
  cases hF
  exact z_iret hx hb hr hlocks hK hP hD hS dX3_tokenAt_6
abbrev ts_X5_meaningIn : List Cond := .code yX5_meaningIn cX5_meaningIn 2 (some .int) :: wsL_law
set_option maxHeartbeats 4000000 in
set_option maxRecDepth 100000 in
theorem c_X5_meaningIn (l : Launch) (D : va_G) (cyI cyZ : ClassId) (A : Nat → Prop) (w : va_W) (x0 : Int32) (x1 : Int32) (r : Int32) (hF : F_X5_meaningIn x0 x1 = r) : CtI l yX5_meaningIn ts_X5_meaningIn ({ frames := 0, cells := 0, slots := 0, locals := 0 } : Room) [.int x0, .int x1] D cyI cyZ A w w r := by
  refine CtI.of (cc := cX5_meaningIn) (maxL := 2) (ret := (some .int)) (by decide) rfl (Nat.le_of_ble_eq_true rfl) ?_
  intro p e s m below meth c ls hC hP hD hl
  obtain ⟨hx, hb, hr, hml, hown, hts, hK, hN, hlocks⟩ := hC
  have hown : s.vm.findClass RX5 = some m.cls := hown
  have hS : va_S A s.heap s.heap [] := va_S.rf
  have hl : lv_has ls 2 [(0, .int x0), (1, .int x1)] := hl
  unfold F_X5_meaningIn at hF
  refine lv_iload_n hx hb dX5_meaningIn_0 rfl (lv_at hl 0 rfl) ?_
  refine lv_bipush (v := (7 : Int32)) hx hb dX5_meaningIn_1 (by decide) ?_
  refine lv_iload_n hx hb dX5_meaningIn_3 rfl (lv_at hl 1 rfl) ?_
  refine lv_isub hx hb dX5_meaningIn_4 ?_
  refine lv_iconst (v := (2 : Int32)) hx hb dX5_meaningIn_5 (by decide) ?_
  refine lv_imul hx hb dX5_meaningIn_6 ?_
  refine lv_ishr hx hb dX5_meaningIn_7 ?_
  refine lv_iconst (v := (3 : Int32)) hx hb dX5_meaningIn_8 (by decide) ?_
  refine lv_iand hx hb dX5_meaningIn_9 ?_
  subst hF
  exact z_iret hx hb hr hlocks hK hP hD hS dX5_meaningIn_10
abbrev ts_X7_spotOf : List Cond := .code yX7_spotOf cX7_spotOf 3 (some .int) :: wsL_law
set_option maxHeartbeats 4000000 in
set_option maxRecDepth 100000 in
theorem c_X7_spotOf (l : Launch) (D : va_G) (cyI cyZ : ClassId) (a : Nat → Nat) (A : Nat → Prop) (σ : Mem) (x1 : Int32) (x2 : Int32) (r : Int32) (hF : F_X7_spotOf σ x1 x2 = r) : CtI l yX7_spotOf ts_X7_spotOf ({ frames := 0, cells := 0, slots := 0, locals := 0 } : Room) [.ref (a 6), .int x1, .int x2] D cyI cyZ A (wC cyI cyZ a σ) (wC cyI cyZ a σ) r := by
  refine CtI.of (cc := cX7_spotOf) (maxL := 3) (ret := (some .int)) (by decide) rfl (Nat.le_of_ble_eq_true rfl) ?_
  intro p e s m below meth c ls hC hP hD hl
  obtain ⟨hx, hb, hr, hml, hown, hts, hK, hN, hlocks⟩ := hC
  have hown : s.vm.findClass RX7 = some m.cls := hown
  have hS : va_S A s.heap s.heap [] := va_S.rf
  have hl : lv_has ls 3 [(0, .ref (a 6)), (1, .int x1), (2, .int x2)] := hl
  unfold F_X7_spotOf at hF
  refine lv_iload_n hx hb dX7_spotOf_0 rfl (lv_at hl 1 rfl) ?_
  refine lv_iconst (v := (3 : Int32)) hx hb dX7_spotOf_1 (by decide) ?_
  refine lv_imul hx hb dX7_spotOf_2 ?_
  refine lv_iload_n hx hb dX7_spotOf_3 rfl (lv_at hl 2 rfl) ?_
  refine lv_iadd hx hb dX7_spotOf_4 ?_
  subst hF
  exact z_iret hx hb hr hlocks hK hP hD hS dX7_spotOf_5
abbrev ts_X2_start : List Cond := .code yX2_start cX2_start 1 none :: wsL_law
set_option maxHeartbeats 4000000 in
set_option maxRecDepth 100000 in
theorem c_X2_start (l : Launch) (D : va_G) (cyI cyZ : ClassId) (a : Nat → Nat) (A : Nat → Prop) (σ : Mem) (σ' : Mem) (hF : F_X2_start σ  = some σ') : CtV l yX2_start ts_X2_start ({ frames := 0, cells := 0, slots := 0, locals := 0 } : Room) [.ref (a 17)] D cyI cyZ A (wC cyI cyZ a σ) (wC cyI cyZ a σ') := by
  refine CtV.of (cc := cX2_start) (maxL := 1) (ret := none) (by decide) rfl (Nat.le_of_ble_eq_true rfl) ?_
  intro p e s m below meth c ls hC hP hD hl
  obtain ⟨hx, hb, hr, hml, hown, hts, hK, hN, hlocks⟩ := hC
  have hown : s.vm.findClass RX2 = some m.cls := hown
  have hS : va_S A s.heap s.heap [] := va_S.rf
  have hl : lv_has ls 1 [(0, .ref (a 17))] := hl
  unfold F_X2_start at hF
  refine lv_aload_n hx hb dX2_start_0 rfl (lv_at hl 0 rfl) ?_
  refine lv_iconst (v := (0 : Int32)) hx hb dX2_start_1 (by decide) ?_
  obtain ⟨σ1, e2, hF⟩ := Option.bind_eq_some_iff.mp hF
  refine va_put (D := D) (ci := 2) (v := .int (0 : Int32)) (ty := .int) (C := RX2) (T := TX2) (N := 13) hx hb hts inlX2 tyX2 tyX2_ok nmX2 hown hK hP hD hS 17 gC_17 rfl 0 (by decide) (hts _ mw_455) (fun _ h9 => h9) rfl (by decide +kernel) rfl rfl (Nat.le_of_ble_eq_true rfl) dX2_start_2 (fun H locs hP hD hS => ?_)
  rw [sC_17_0, Option.some.inj e2] at hP hD
  refine lv_aload_n hx hb dX2_start_5 rfl (lv_at hl 0 rfl) ?_
  refine lv_iconst (v := (0 : Int32)) hx hb dX2_start_6 (by decide) ?_
  obtain ⟨σ3, e4, hF⟩ := Option.bind_eq_some_iff.mp hF
  refine va_put (D := D) (ci := 2) (v := .int (0 : Int32)) (ty := .int) (C := RX2) (T := TX2) (N := 13) hx hb hts inlX2 tyX2 tyX2_ok nmX2 hown hK hP hD hS 17 gC_17 rfl 1 (by decide) (hts _ mw_456) (fun _ h9 => h9) rfl (by decide +kernel) rfl rfl (Nat.le_of_ble_eq_true rfl) dX2_start_7 (fun H locs hP hD hS => ?_)
  rw [sC_17_1, Option.some.inj e4] at hP hD
  refine lv_aload_n hx hb dX2_start_10 rfl (lv_at hl 0 rfl) ?_
  refine lv_iconst (v := (0 : Int32)) hx hb dX2_start_11 (by decide) ?_
  obtain ⟨σ5, e6, hF⟩ := Option.bind_eq_some_iff.mp hF
  refine va_put (D := D) (ci := 2) (v := .int (0 : Int32)) (ty := .int) (C := RX2) (T := TX2) (N := 13) hx hb hts inlX2 tyX2 tyX2_ok nmX2 hown hK hP hD hS 17 gC_17 rfl 2 (by decide) (hts _ mw_457) (fun _ h9 => h9) rfl (by decide +kernel) rfl rfl (Nat.le_of_ble_eq_true rfl) dX2_start_12 (fun H locs hP hD hS => ?_)
  rw [sC_17_2, Option.some.inj e6] at hP hD
  refine lv_aload_n hx hb dX2_start_15 rfl (lv_at hl 0 rfl) ?_
  refine lv_iconst (v := (-1 : Int32)) hx hb dX2_start_16 (by decide) ?_
  obtain ⟨σ7, e8, hF⟩ := Option.bind_eq_some_iff.mp hF
  refine va_put (D := D) (ci := 2) (v := .int (-1 : Int32)) (ty := .int) (C := RX2) (T := TX2) (N := 13) hx hb hts inlX2 tyX2 tyX2_ok nmX2 hown hK hP hD hS 17 gC_17 rfl 3 (by decide) (hts _ mw_458) (fun _ h9 => h9) rfl (by decide +kernel) rfl rfl (Nat.le_of_ble_eq_true rfl) dX2_start_17 (fun H locs hP hD hS => ?_)
  rw [sC_17_3, Option.some.inj e8] at hP hD
  refine lv_aload_n hx hb dX2_start_20 rfl (lv_at hl 0 rfl) ?_
  refine lv_iconst (v := (0 : Int32)) hx hb dX2_start_21 (by decide) ?_
  obtain ⟨σ9, e10, hF⟩ := Option.bind_eq_some_iff.mp hF
  refine va_put (D := D) (ci := 2) (v := .int (0 : Int32)) (ty := .int) (C := RX2) (T := TX2) (N := 13) hx hb hts inlX2 tyX2 tyX2_ok nmX2 hown hK hP hD hS 17 gC_17 rfl 4 (by decide) (hts _ mw_459) (fun _ h9 => h9) rfl (by decide +kernel) rfl rfl (Nat.le_of_ble_eq_true rfl) dX2_start_22 (fun H locs hP hD hS => ?_)
  rw [sC_17_4, Option.some.inj e10] at hP hD
  refine lv_aload_n hx hb dX2_start_25 rfl (lv_at hl 0 rfl) ?_
  refine lv_iconst (v := (-1 : Int32)) hx hb dX2_start_26 (by decide) ?_
  obtain ⟨σ11, e12, hF⟩ := Option.bind_eq_some_iff.mp hF
  refine va_put (D := D) (ci := 2) (v := .int (-1 : Int32)) (ty := .int) (C := RX2) (T := TX2) (N := 13) hx hb hts inlX2 tyX2 tyX2_ok nmX2 hown hK hP hD hS 17 gC_17 rfl 5 (by decide) (hts _ mw_460) (fun _ h9 => h9) rfl (by decide +kernel) rfl rfl (Nat.le_of_ble_eq_true rfl) dX2_start_27 (fun H locs hP hD hS => ?_)
  rw [sC_17_5, Option.some.inj e12] at hP hD
  refine lv_aload_n hx hb dX2_start_30 rfl (lv_at hl 0 rfl) ?_
  refine lv_iconst (v := (-1 : Int32)) hx hb dX2_start_31 (by decide) ?_
  obtain ⟨σ13, e14, hF⟩ := Option.bind_eq_some_iff.mp hF
  refine va_put (D := D) (ci := 2) (v := .int (-1 : Int32)) (ty := .int) (C := RX2) (T := TX2) (N := 13) hx hb hts inlX2 tyX2 tyX2_ok nmX2 hown hK hP hD hS 17 gC_17 rfl 6 (by decide) (hts _ mw_461) (fun _ h9 => h9) rfl (by decide +kernel) rfl rfl (Nat.le_of_ble_eq_true rfl) dX2_start_32 (fun H locs hP hD hS => ?_)
  rw [sC_17_6, Option.some.inj e14] at hP hD
  refine lv_aload_n hx hb dX2_start_35 rfl (lv_at hl 0 rfl) ?_
  refine lv_iconst (v := (0 : Int32)) hx hb dX2_start_36 (by decide) ?_
  obtain ⟨σ15, e16, hF⟩ := Option.bind_eq_some_iff.mp hF
  refine va_put (D := D) (ci := 2) (v := .int (0 : Int32)) (ty := .int) (C := RX2) (T := TX2) (N := 13) hx hb hts inlX2 tyX2 tyX2_ok nmX2 hown hK hP hD hS 17 gC_17 rfl 7 (by decide) (hts _ mw_462) (fun _ h9 => h9) rfl (by decide +kernel) rfl rfl (Nat.le_of_ble_eq_true rfl) dX2_start_37 (fun H locs hP hD hS => ?_)
  rw [sC_17_7, Option.some.inj e16] at hP hD
  cases hF
  exact z_vret hx hb hr hlocks hK hP hD hS dX2_start_40
abbrev ts_X7_aAt : List Cond := .code yX7_aAt cX7_aAt 2 (some .int) :: wsL_law
set_option maxHeartbeats 4000000 in
set_option maxRecDepth 100000 in
theorem c_X7_aAt (l : Launch) (D : va_G) (cyI cyZ : ClassId) (a : Nat → Nat) (A : Nat → Prop) (σ : Mem) (x1 : Int32) (r : Int32) (hF : F_X7_aAt σ x1 = some r) : CtI l yX7_aAt ts_X7_aAt ({ frames := 0, cells := 0, slots := 0, locals := 0 } : Room) [.ref (a 6), .int x1] D cyI cyZ A (wC cyI cyZ a σ) (wC cyI cyZ a σ) r := by
  refine CtI.of (cc := cX7_aAt) (maxL := 2) (ret := (some .int)) (by decide) rfl (Nat.le_of_ble_eq_true rfl) ?_
  intro p e s m below meth c ls hC hP hD hl
  obtain ⟨hx, hb, hr, hml, hown, hts, hK, hN, hlocks⟩ := hC
  have hown : s.vm.findClass RX7 = some m.cls := hown
  have hS : va_S A s.heap s.heap [] := va_S.rf
  have hl : lv_has ls 2 [(0, .ref (a 6)), (1, .int x1)] := hl
  unfold F_X7_aAt at hF
  refine lv_aload_n hx hb dX7_aAt_0 rfl (lv_at hl 0 rfl) ?_
  refine va_get (D := D) (ci := 7) (v := .ref (a 9)) (C := RX7) (T := TX7) (N := 7) hx hb hts inlX7 hown hK hP 6 gC_6 rfl 3 (by decide) (hts _ mw_55) (fun _ h9 => h9) rfl dX7_aAt_1 ?_
  refine lv_iload_n hx hb dX7_aAt_4 rfl (lv_at hl 1 rfl) ?_
  obtain ⟨v1, e2, hF⟩ := Option.bind_eq_some_iff.mp hF
  refine z_ild hx hb hK hP 9 gC_9 e2 dX7_aAt_5 ?_
  cases hF
  exact z_iret hx hb hr hlocks hK hP hD hS dX7_aAt_6
abbrev ts_X7_bAt : List Cond := .code yX7_bAt cX7_bAt 2 (some .int) :: wsL_law
set_option maxHeartbeats 4000000 in
set_option maxRecDepth 100000 in
theorem c_X7_bAt (l : Launch) (D : va_G) (cyI cyZ : ClassId) (a : Nat → Nat) (A : Nat → Prop) (σ : Mem) (x1 : Int32) (r : Int32) (hF : F_X7_bAt σ x1 = some r) : CtI l yX7_bAt ts_X7_bAt ({ frames := 0, cells := 0, slots := 0, locals := 0 } : Room) [.ref (a 6), .int x1] D cyI cyZ A (wC cyI cyZ a σ) (wC cyI cyZ a σ) r := by
  refine CtI.of (cc := cX7_bAt) (maxL := 2) (ret := (some .int)) (by decide) rfl (Nat.le_of_ble_eq_true rfl) ?_
  intro p e s m below meth c ls hC hP hD hl
  obtain ⟨hx, hb, hr, hml, hown, hts, hK, hN, hlocks⟩ := hC
  have hown : s.vm.findClass RX7 = some m.cls := hown
  have hS : va_S A s.heap s.heap [] := va_S.rf
  have hl : lv_has ls 2 [(0, .ref (a 6)), (1, .int x1)] := hl
  unfold F_X7_bAt at hF
  refine lv_aload_n hx hb dX7_bAt_0 rfl (lv_at hl 0 rfl) ?_
  refine va_get (D := D) (ci := 7) (v := .ref (a 10)) (C := RX7) (T := TX7) (N := 7) hx hb hts inlX7 hown hK hP 6 gC_6 rfl 4 (by decide) (hts _ mw_56) (fun _ h9 => h9) rfl dX7_bAt_1 ?_
  refine lv_iload_n hx hb dX7_bAt_4 rfl (lv_at hl 1 rfl) ?_
  obtain ⟨v1, e2, hF⟩ := Option.bind_eq_some_iff.mp hF
  refine z_ild hx hb hK hP 10 gC_10 e2 dX7_bAt_5 ?_
  cases hF
  exact z_iret hx hb hr hlocks hK hP hD hS dX7_bAt_6
abbrev ts_X7_sortAt : List Cond := .code yX7_sortAt cX7_sortAt 2 (some .int) :: wsL_law
set_option maxHeartbeats 4000000 in
set_option maxRecDepth 100000 in
theorem c_X7_sortAt (l : Launch) (D : va_G) (cyI cyZ : ClassId) (a : Nat → Nat) (A : Nat → Prop) (σ : Mem) (x1 : Int32) (r : Int32) (hF : F_X7_sortAt σ x1 = some r) : CtI l yX7_sortAt ts_X7_sortAt ({ frames := 0, cells := 0, slots := 0, locals := 0 } : Room) [.ref (a 6), .int x1] D cyI cyZ A (wC cyI cyZ a σ) (wC cyI cyZ a σ) r := by
  refine CtI.of (cc := cX7_sortAt) (maxL := 2) (ret := (some .int)) (by decide) rfl (Nat.le_of_ble_eq_true rfl) ?_
  intro p e s m below meth c ls hC hP hD hl
  obtain ⟨hx, hb, hr, hml, hown, hts, hK, hN, hlocks⟩ := hC
  have hown : s.vm.findClass RX7 = some m.cls := hown
  have hS : va_S A s.heap s.heap [] := va_S.rf
  have hl : lv_has ls 2 [(0, .ref (a 6)), (1, .int x1)] := hl
  unfold F_X7_sortAt at hF
  refine lv_aload_n hx hb dX7_sortAt_0 rfl (lv_at hl 0 rfl) ?_
  refine va_get (D := D) (ci := 7) (v := .ref (a 8)) (C := RX7) (T := TX7) (N := 7) hx hb hts inlX7 hown hK hP 6 gC_6 rfl 2 (by decide) (hts _ mw_54) (fun _ h9 => h9) rfl dX7_sortAt_1 ?_
  refine lv_iload_n hx hb dX7_sortAt_4 rfl (lv_at hl 1 rfl) ?_
  obtain ⟨v1, e2, hF⟩ := Option.bind_eq_some_iff.mp hF
  refine z_ild hx hb hK hP 8 gC_8 e2 dX7_sortAt_5 ?_
  cases hF
  exact z_iret hx hb hr hlocks hK hP hD hS dX7_sortAt_6
abbrev ts_X2_tellTable : List Cond := .code yX2_tellTable cX2_tellTable 2 none :: wsL_law
set_option maxHeartbeats 4000000 in
set_option maxRecDepth 100000 in
theorem c_X2_tellTable (l : Launch) (D : va_G) (cyI cyZ : ClassId) (a : Nat → Nat) (A : Nat → Prop) (σ : Mem) (x1 : Int32) (σ' : Mem) (hF : F_X2_tellTable σ x1 = some σ') : CtV l yX2_tellTable ts_X2_tellTable ({ frames := 0, cells := 0, slots := 0, locals := 0 } : Room) [.ref (a 17), .int x1] D cyI cyZ A (wC cyI cyZ a σ) (wC cyI cyZ a σ') := by
  refine CtV.of (cc := cX2_tellTable) (maxL := 2) (ret := none) (by decide) rfl (Nat.le_of_ble_eq_true rfl) ?_
  intro p e s m below meth c ls hC hP hD hl
  obtain ⟨hx, hb, hr, hml, hown, hts, hK, hN, hlocks⟩ := hC
  have hown : s.vm.findClass RX2 = some m.cls := hown
  have hS : va_S A s.heap s.heap [] := va_S.rf
  have hl : lv_has ls 2 [(0, .ref (a 17)), (1, .int x1)] := hl
  unfold F_X2_tellTable at hF
  refine lv_aload_n hx hb dX2_tellTable_0 rfl (lv_at hl 0 rfl) ?_
  refine lv_dup hx hb dX2_tellTable_1 rfl ?_
  refine va_get (D := D) (ci := 2) (v := .int (σ 17 2)) (C := RX2) (T := TX2) (N := 13) hx hb hts inlX2 hown hK hP 17 gC_17 rfl 2 (by decide) (hts _ mw_457) (fun _ h9 => h9) rfl dX2_tellTable_2 ?_
  refine lv_iconst (v := (1 : Int32)) hx hb dX2_tellTable_5 (by decide) ?_
  refine lv_iadd hx hb dX2_tellTable_6 ?_
  obtain ⟨σ1, e2, hF⟩ := Option.bind_eq_some_iff.mp hF
  refine va_put (D := D) (ci := 2) (v := .int ((σ 17 2) + (1 : Int32))) (ty := .int) (C := RX2) (T := TX2) (N := 13) hx hb hts inlX2 tyX2 tyX2_ok nmX2 hown hK hP hD hS 17 gC_17 rfl 2 (by decide) (hts _ mw_457) (fun _ h9 => h9) rfl (by decide +kernel) rfl rfl (Nat.le_of_ble_eq_true rfl) dX2_tellTable_7 (fun H locs hP hD hS => ?_)
  rw [sC_17_2, Option.some.inj e2] at hP hD
  refine lv_aload_n hx hb dX2_tellTable_10 rfl (lv_at hl 0 rfl) ?_
  refine lv_iload_n hx hb dX2_tellTable_11 rfl (lv_at hl 1 rfl) ?_
  obtain ⟨σ3, e4, hF⟩ := Option.bind_eq_some_iff.mp hF
  refine va_put (D := D) (ci := 2) (v := .int x1) (ty := .int) (C := RX2) (T := TX2) (N := 13) hx hb hts inlX2 tyX2 tyX2_ok nmX2 hown hK hP hD hS 17 gC_17 rfl 3 (by decide) (hts _ mw_458) (fun _ h9 => h9) rfl (by decide +kernel) rfl rfl (Nat.le_of_ble_eq_true rfl) dX2_tellTable_12 (fun H locs hP hD hS => ?_)
  rw [sC_17_3, Option.some.inj e4] at hP hD
  cases hF
  exact z_vret hx hb hr hlocks hK hP hD hS dX2_tellTable_15
abbrev ts_X3_isWordAt : List Cond := .code yX3_isWordAt cX3_isWordAt 2 (some .boolean) :: wsL_law
set_option maxHeartbeats 4000000 in
set_option maxRecDepth 100000 in
theorem c_X3_isWordAt (l : Launch) (D : va_G) (cyI cyZ : ClassId) (a : Nat → Nat) (A : Nat → Prop) (σ : Mem) (x1 : Int32) (r : Int32) (hF : F_X3_isWordAt σ x1 = some r) : CtI l yX3_isWordAt ts_X3_isWordAt ({ frames := 0, cells := 0, slots := 0, locals := 0 } : Room) [.ref (a 13), .int x1] D cyI cyZ A (wC cyI cyZ a σ) (wC cyI cyZ a σ) r := by
  refine CtI.of (cc := cX3_isWordAt) (maxL := 2) (ret := (some .boolean)) (by decide) rfl (Nat.le_of_ble_eq_true rfl) ?_
  intro p e s m below meth c ls hC hP hD hl
  obtain ⟨hx, hb, hr, hml, hown, hts, hK, hN, hlocks⟩ := hC
  have hown : s.vm.findClass RX3 = some m.cls := hown
  have hS : va_S A s.heap s.heap [] := va_S.rf
  have hl : lv_has ls 2 [(0, .ref (a 13)), (1, .int x1)] := hl
  unfold F_X3_isWordAt at hF
  refine lv_iload_n hx hb dX3_isWordAt_0 rfl (lv_at hl 1 rfl) ?_
  refine lv_if_lt (tgt := 25) hx hb dX3_isWordAt_1 (by decide) (fun c1 => ?_) (fun c1 => ?_)
  · rw [if_pos c1] at hF
    refine lv_iconst (v := (0 : Int32)) hx hb dX3_isWordAt_25 (by decide) ?_
    cases hF
    exact z_zret hx hb hr hlocks hK hP hD hS rfl dX3_isWordAt_26
  · rw [if_neg c1] at hF
    refine lv_iload_n hx hb dX3_isWordAt_4 rfl (lv_at hl 1 rfl) ?_
    refine lv_aload_n hx hb dX3_isWordAt_5 rfl (lv_at hl 0 rfl) ?_
    refine va_get (D := D) (ci := 3) (v := .int (σ 13 0)) (C := RX3) (T := TX3) (N := 3) hx hb hts inlX3 hown hK hP 13 gC_13 rfl 0 (by decide) (hts _ mw_342) (fun _ h9 => h9) rfl dX3_isWordAt_6 ?_
    refine lv_icmp_ge (tgt := 25) hx hb dX3_isWordAt_9 (by decide) (fun c2 => ?_) (fun c2 => ?_)
    · rw [if_pos c2] at hF
      refine lv_iconst (v := (0 : Int32)) hx hb dX3_isWordAt_25 (by decide) ?_
      cases hF
      exact z_zret hx hb hr hlocks hK hP hD hS rfl dX3_isWordAt_26
    · rw [if_neg c2] at hF
      refine lv_aload_n hx hb dX3_isWordAt_12 rfl (lv_at hl 0 rfl) ?_
      refine va_get (D := D) (ci := 3) (v := .ref (a 14)) (C := RX3) (T := TX3) (N := 3) hx hb hts inlX3 hown hK hP 13 gC_13 rfl 1 (by decide) (hts _ mw_63) (fun _ h9 => h9) rfl dX3_isWordAt_13 ?_
      refine lv_iload_n hx hb dX3_isWordAt_16 rfl (lv_at hl 1 rfl) ?_
      obtain ⟨v3, e4, hF⟩ := Option.bind_eq_some_iff.mp hF
      refine z_zld hx hb hK hP 14 gC_14 e4 dX3_isWordAt_17 ?_
      refine lv_if_ne (tgt := 25) hx hb dX3_isWordAt_18 (by decide) (fun c5 => ?_) (fun c5 => ?_)
      · rw [if_neg c5] at hF
        refine lv_iconst (v := (0 : Int32)) hx hb dX3_isWordAt_25 (by decide) ?_
        cases hF
        exact z_zret hx hb hr hlocks hK hP hD hS rfl dX3_isWordAt_26
      · rw [if_pos c5] at hF
        refine lv_iconst (v := (1 : Int32)) hx hb dX3_isWordAt_21 (by decide) ?_
        refine lv_goto (tgt := 26) hx hb dX3_isWordAt_22 (by decide) ?_
        cases hF
        exact z_zret hx hb hr hlocks hK hP hD hS rfl dX3_isWordAt_26
abbrev ts_X5_isThanAt : List Cond := .code yX5_isThanAt cX5_isThanAt 2 (some .boolean) :: wsL_law
set_option maxHeartbeats 4000000 in
set_option maxRecDepth 100000 in
theorem c_X5_isThanAt (l : Launch) (D : va_G) (cyI cyZ : ClassId) (a : Nat → Nat) (A : Nat → Prop) (σ : Mem) (x1 : Int32) (r : Int32) (hF : F_X5_isThanAt σ x1 = some r) : CtI l yX5_isThanAt ts_X5_isThanAt ({ frames := 1, cells := 0, slots := 0, locals := 21 } : Room) [.ref (a 16), .int x1] D cyI cyZ A (wC cyI cyZ a σ) (wC cyI cyZ a σ) r := by
  refine CtI.of (cc := cX5_isThanAt) (maxL := 2) (ret := (some .boolean)) (by decide) rfl (Nat.le_of_ble_eq_true rfl) ?_
  intro p e s m below meth c ls hC hP hD hl
  obtain ⟨hx, hb, hr, hml, hown, hts, hK, hN, hlocks⟩ := hC
  have hown : s.vm.findClass RX5 = some m.cls := hown
  have hS : va_S A s.heap s.heap [] := va_S.rf
  have hl : lv_has ls 2 [(0, .ref (a 16)), (1, .int x1)] := hl
  unfold F_X5_isThanAt at hF
  refine lv_aload_n hx hb dX5_isThanAt_0 rfl (lv_at hl 0 rfl) ?_
  refine va_get (D := D) (ci := 5) (v := .ref (a 13)) (C := RX5) (T := TX5) (N := 10) hx hb hts inlX5 hown hK hP 16 gC_16 rfl 2 (by decide) (hts _ mw_79) (fun _ h9 => h9) rfl dX5_isThanAt_1 ?_
  refine lv_iload_n hx hb dX5_isThanAt_4 rfl (lv_at hl 1 rfl) ?_
  obtain ⟨v1, e2, hF⟩ := Option.bind_eq_some_iff.mp hF
  refine z_callVI (w' := (wC cyI cyZ a σ)) (As := [.int x1]) (rest := []) ⟨hx, hb, hml, hown, hts⟩ (c_X3_isWordAt l D cyI cyZ a A σ x1 _ e2) (cwV 1 hts (gd_V mw_414 mw_415 mw_416 mw_22 mw_417) rfl rfl rfl (by decide +kernel) ⟨Nat.le_of_ble_eq_true rfl, Nat.le_of_ble_eq_true rfl⟩) hK hN hP hD hS 3 13 rfl rfl gC_13 rfl hl.1 rfl (Nat.le_of_ble_eq_true rfl) dX5_isThanAt_5 ⟨Nat.zero_le _, Nat.zero_le _⟩ (fun H locs hP hD hS => ?_)
  refine lv_if_eq (tgt := 32) hx hb dX5_isThanAt_8 (by decide) (fun c3 => ?_) (fun c3 => ?_)
  · rw [if_pos c3] at hF
    refine lv_iconst (v := (0 : Int32)) hx hb dX5_isThanAt_32 (by decide) ?_
    cases hF
    exact z_zret hx hb hr hlocks hK hP hD hS rfl dX5_isThanAt_33
  · rw [if_neg c3] at hF
    refine lv_aload_n hx hb dX5_isThanAt_11 rfl (lv_at hl 0 rfl) ?_
    refine va_get (D := D) (ci := 5) (v := .ref (a 6)) (C := RX5) (T := TX5) (N := 10) hx hb hts inlX5 hown hK hP 16 gC_16 rfl 1 (by decide) (hts _ mw_78) (fun _ h9 => h9) rfl dX5_isThanAt_12 ?_
    refine lv_aload_n hx hb dX5_isThanAt_15 rfl (lv_at hl 0 rfl) ?_
    refine va_get (D := D) (ci := 5) (v := .ref (a 24)) (C := RX5) (T := TX5) (N := 10) hx hb hts inlX5 hown hK hP 16 gC_16 rfl 5 (by decide) (hts _ mw_74) (fun _ h9 => h9) rfl dX5_isThanAt_16 ?_
    refine lv_iload_n hx hb dX5_isThanAt_19 rfl (lv_at hl 1 rfl) ?_
    obtain ⟨v4, e5, hF⟩ := Option.bind_eq_some_iff.mp hF
    refine z_ild hx hb hK hP 24 gC_24 e5 dX5_isThanAt_20 ?_
    obtain ⟨v6, e7, hF⟩ := Option.bind_eq_some_iff.mp hF
    refine z_callVI (w' := (wC cyI cyZ a σ)) (As := [.int v4]) (rest := []) ⟨hx, hb, hml, hown, hts⟩ (c_X7_sortAt l D cyI cyZ a A σ v4 _ e7) (cwV 1 hts (gd_V mw_426 mw_427 mw_428 mw_18 mw_429) rfl rfl rfl (by decide +kernel) ⟨Nat.le_of_ble_eq_true rfl, Nat.le_of_ble_eq_true rfl⟩) hK hN hP hD hS 7 6 rfl rfl gC_6 rfl hl.1 rfl (Nat.le_of_ble_eq_true rfl) dX5_isThanAt_21 ⟨Nat.zero_le _, Nat.zero_le _⟩ (fun H locs hP hD hS => ?_)
    refine lv_iconst (v := (4 : Int32)) hx hb dX5_isThanAt_24 (by decide) ?_
    refine lv_icmp_ne (tgt := 32) hx hb dX5_isThanAt_25 (by decide) (fun c8 => ?_) (fun c8 => ?_)
    · rw [if_neg c8] at hF
      refine lv_iconst (v := (0 : Int32)) hx hb dX5_isThanAt_32 (by decide) ?_
      cases hF
      exact z_zret hx hb hr hlocks hK hP hD hS rfl dX5_isThanAt_33
    · rw [if_pos c8] at hF
      refine lv_iconst (v := (1 : Int32)) hx hb dX5_isThanAt_28 (by decide) ?_
      refine lv_goto (tgt := 33) hx hb dX5_isThanAt_29 (by decide) ?_
      cases hF
      exact z_zret hx hb hr hlocks hK hP hD hS rfl dX5_isThanAt_33
abbrev ts_X2_tellWanted : List Cond := .code yX2_tellWanted cX2_tellWanted 3 none :: wsL_law
set_option maxHeartbeats 4000000 in
set_option maxRecDepth 100000 in
theorem c_X2_tellWanted (l : Launch) (D : va_G) (cyI cyZ : ClassId) (a : Nat → Nat) (A : Nat → Prop) (σ : Mem) (x1 : Int32) (x2 : Int32) (σ' : Mem) (hF : F_X2_tellWanted σ x1 x2 = some σ') : CtV l yX2_tellWanted ts_X2_tellWanted ({ frames := 0, cells := 0, slots := 0, locals := 0 } : Room) [.ref (a 17), .int x1, .int x2] D cyI cyZ A (wC cyI cyZ a σ) (wC cyI cyZ a σ') := by
  refine CtV.of (cc := cX2_tellWanted) (maxL := 3) (ret := none) (by decide) rfl (Nat.le_of_ble_eq_true rfl) ?_
  intro p e s m below meth c ls hC hP hD hl
  obtain ⟨hx, hb, hr, hml, hown, hts, hK, hN, hlocks⟩ := hC
  have hown : s.vm.findClass RX2 = some m.cls := hown
  have hS : va_S A s.heap s.heap [] := va_S.rf
  have hl : lv_has ls 3 [(0, .ref (a 17)), (1, .int x1), (2, .int x2)] := hl
  unfold F_X2_tellWanted at hF
  refine lv_aload_n hx hb dX2_tellWanted_0 rfl (lv_at hl 0 rfl) ?_
  refine lv_dup hx hb dX2_tellWanted_1 rfl ?_
  refine va_get (D := D) (ci := 2) (v := .int (σ 17 4)) (C := RX2) (T := TX2) (N := 13) hx hb hts inlX2 hown hK hP 17 gC_17 rfl 4 (by decide) (hts _ mw_459) (fun _ h9 => h9) rfl dX2_tellWanted_2 ?_
  refine lv_iconst (v := (1 : Int32)) hx hb dX2_tellWanted_5 (by decide) ?_
  refine lv_iadd hx hb dX2_tellWanted_6 ?_
  obtain ⟨σ1, e2, hF⟩ := Option.bind_eq_some_iff.mp hF
  refine va_put (D := D) (ci := 2) (v := .int ((σ 17 4) + (1 : Int32))) (ty := .int) (C := RX2) (T := TX2) (N := 13) hx hb hts inlX2 tyX2 tyX2_ok nmX2 hown hK hP hD hS 17 gC_17 rfl 4 (by decide) (hts _ mw_459) (fun _ h9 => h9) rfl (by decide +kernel) rfl rfl (Nat.le_of_ble_eq_true rfl) dX2_tellWanted_7 (fun H locs hP hD hS => ?_)
  rw [sC_17_4, Option.some.inj e2] at hP hD
  refine lv_aload_n hx hb dX2_tellWanted_10 rfl (lv_at hl 0 rfl) ?_
  refine lv_iload_n hx hb dX2_tellWanted_11 rfl (lv_at hl 1 rfl) ?_
  obtain ⟨σ3, e4, hF⟩ := Option.bind_eq_some_iff.mp hF
  refine va_put (D := D) (ci := 2) (v := .int x1) (ty := .int) (C := RX2) (T := TX2) (N := 13) hx hb hts inlX2 tyX2 tyX2_ok nmX2 hown hK hP hD hS 17 gC_17 rfl 6 (by decide) (hts _ mw_461) (fun _ h9 => h9) rfl (by decide +kernel) rfl rfl (Nat.le_of_ble_eq_true rfl) dX2_tellWanted_12 (fun H locs hP hD hS => ?_)
  rw [sC_17_6, Option.some.inj e4] at hP hD
  refine lv_aload_n hx hb dX2_tellWanted_15 rfl (lv_at hl 0 rfl) ?_
  refine lv_iload_n hx hb dX2_tellWanted_16 rfl (lv_at hl 2 rfl) ?_
  obtain ⟨σ5, e6, hF⟩ := Option.bind_eq_some_iff.mp hF
  refine va_put (D := D) (ci := 2) (v := .int x2) (ty := .int) (C := RX2) (T := TX2) (N := 13) hx hb hts inlX2 tyX2 tyX2_ok nmX2 hown hK hP hD hS 17 gC_17 rfl 5 (by decide) (hts _ mw_460) (fun _ h9 => h9) rfl (by decide +kernel) rfl rfl (Nat.le_of_ble_eq_true rfl) dX2_tellWanted_17 (fun H locs hP hD hS => ?_)
  rw [sC_17_5, Option.some.inj e6] at hP hD
  cases hF
  exact z_vret hx hb hr hlocks hK hP hD hS dX2_tellWanted_20
abbrev ts_X2_tellDoing : List Cond := .code yX2_tellDoing cX2_tellDoing 2 none :: wsL_law
set_option maxHeartbeats 4000000 in
set_option maxRecDepth 100000 in
theorem c_X2_tellDoing (l : Launch) (D : va_G) (cyI cyZ : ClassId) (a : Nat → Nat) (A : Nat → Prop) (σ : Mem) (x1 : Int32) (σ' : Mem) (hF : F_X2_tellDoing σ x1 = some σ') : CtV l yX2_tellDoing ts_X2_tellDoing ({ frames := 0, cells := 0, slots := 0, locals := 0 } : Room) [.ref (a 17), .int x1] D cyI cyZ A (wC cyI cyZ a σ) (wC cyI cyZ a σ') := by
  refine CtV.of (cc := cX2_tellDoing) (maxL := 2) (ret := none) (by decide) rfl (Nat.le_of_ble_eq_true rfl) ?_
  intro p e s m below meth c ls hC hP hD hl
  obtain ⟨hx, hb, hr, hml, hown, hts, hK, hN, hlocks⟩ := hC
  have hown : s.vm.findClass RX2 = some m.cls := hown
  have hS : va_S A s.heap s.heap [] := va_S.rf
  have hl : lv_has ls 2 [(0, .ref (a 17)), (1, .int x1)] := hl
  unfold F_X2_tellDoing at hF
  refine lv_aload_n hx hb dX2_tellDoing_0 rfl (lv_at hl 0 rfl) ?_
  refine lv_dup hx hb dX2_tellDoing_1 rfl ?_
  refine va_get (D := D) (ci := 2) (v := .int (σ 17 0)) (C := RX2) (T := TX2) (N := 13) hx hb hts inlX2 hown hK hP 17 gC_17 rfl 0 (by decide) (hts _ mw_455) (fun _ h9 => h9) rfl dX2_tellDoing_2 ?_
  refine lv_iconst (v := (1 : Int32)) hx hb dX2_tellDoing_5 (by decide) ?_
  refine lv_iadd hx hb dX2_tellDoing_6 ?_
  obtain ⟨σ1, e2, hF⟩ := Option.bind_eq_some_iff.mp hF
  refine va_put (D := D) (ci := 2) (v := .int ((σ 17 0) + (1 : Int32))) (ty := .int) (C := RX2) (T := TX2) (N := 13) hx hb hts inlX2 tyX2 tyX2_ok nmX2 hown hK hP hD hS 17 gC_17 rfl 0 (by decide) (hts _ mw_455) (fun _ h9 => h9) rfl (by decide +kernel) rfl rfl (Nat.le_of_ble_eq_true rfl) dX2_tellDoing_7 (fun H locs hP hD hS => ?_)
  rw [sC_17_0, Option.some.inj e2] at hP hD
  refine lv_aload_n hx hb dX2_tellDoing_10 rfl (lv_at hl 0 rfl) ?_
  refine lv_iload_n hx hb dX2_tellDoing_11 rfl (lv_at hl 1 rfl) ?_
  obtain ⟨σ3, e4, hF⟩ := Option.bind_eq_some_iff.mp hF
  refine va_put (D := D) (ci := 2) (v := .int x1) (ty := .int) (C := RX2) (T := TX2) (N := 13) hx hb hts inlX2 tyX2 tyX2_ok nmX2 hown hK hP hD hS 17 gC_17 rfl 1 (by decide) (hts _ mw_456) (fun _ h9 => h9) rfl (by decide +kernel) rfl rfl (Nat.le_of_ble_eq_true rfl) dX2_tellDoing_12 (fun H locs hP hD hS => ?_)
  rw [sC_17_1, Option.some.inj e4] at hP hD
  cases hF
  exact z_vret hx hb hr hlocks hK hP hD hS dX2_tellDoing_15
abbrev ts_X5_originOf : List Cond := .code yX5_originOf cX5_originOf 3 (some .int) :: wsL_law
set_option maxHeartbeats 4000000 in
set_option maxRecDepth 100000 in
theorem c_X5_originOf (l : Launch) (D : va_G) (cyI cyZ : ClassId) (A : Nat → Prop) (w : va_W) (x0 : Int32) (x1 : Int32) (x2 : Int32) (r : Int32) (hF : F_X5_originOf x0 x1 x2 = r) : CtI l yX5_originOf ts_X5_originOf ({ frames := 0, cells := 0, slots := 0, locals := 0 } : Room) [.int x0, .int x1, .int x2] D cyI cyZ A w w r := by
  refine CtI.of (cc := cX5_originOf) (maxL := 3) (ret := (some .int)) (by decide) rfl (Nat.le_of_ble_eq_true rfl) ?_
  intro p e s m below meth c ls hC hP hD hl
  obtain ⟨hx, hb, hr, hml, hown, hts, hK, hN, hlocks⟩ := hC
  have hown : s.vm.findClass RX5 = some m.cls := hown
  have hS : va_S A s.heap s.heap [] := va_S.rf
  have hl : lv_has ls 3 [(0, .int x0), (1, .int x1), (2, .int x2)] := hl
  unfold F_X5_originOf at hF
  refine lv_iload_n hx hb dX5_originOf_0 rfl (lv_at hl 0 rfl) ?_
  refine lv_iconst (v := (3 : Int32)) hx hb dX5_originOf_1 (by decide) ?_
  refine lv_imul hx hb dX5_originOf_2 ?_
  refine lv_iload_n hx hb dX5_originOf_3 rfl (lv_at hl 1 rfl) ?_
  refine lv_iconst (v := (3 : Int32)) hx hb dX5_originOf_4 (by decide) ?_
  refine lv_irem hx hb dX5_originOf_5 (by decide) ?_
  refine lv_iadd hx hb dX5_originOf_6 ?_
  refine lv_iconst (v := (3 : Int32)) hx hb dX5_originOf_7 (by decide) ?_
  refine lv_imul hx hb dX5_originOf_8 ?_
  refine lv_iload_n hx hb dX5_originOf_9 rfl (lv_at hl 2 rfl) ?_
  refine lv_iconst (v := (3 : Int32)) hx hb dX5_originOf_10 (by decide) ?_
  refine lv_irem hx hb dX5_originOf_11 (by decide) ?_
  refine lv_iadd hx hb dX5_originOf_12 ?_
  subst hF
  exact z_iret hx hb hr hlocks hK hP hD hS dX5_originOf_13
abbrev ts_X7_cAt : List Cond := .code yX7_cAt cX7_cAt 2 (some .int) :: wsL_law
set_option maxHeartbeats 4000000 in
set_option maxRecDepth 100000 in
theorem c_X7_cAt (l : Launch) (D : va_G) (cyI cyZ : ClassId) (a : Nat → Nat) (A : Nat → Prop) (σ : Mem) (x1 : Int32) (r : Int32) (hF : F_X7_cAt σ x1 = some r) : CtI l yX7_cAt ts_X7_cAt ({ frames := 0, cells := 0, slots := 0, locals := 0 } : Room) [.ref (a 6), .int x1] D cyI cyZ A (wC cyI cyZ a σ) (wC cyI cyZ a σ) r := by
  refine CtI.of (cc := cX7_cAt) (maxL := 2) (ret := (some .int)) (by decide) rfl (Nat.le_of_ble_eq_true rfl) ?_
  intro p e s m below meth c ls hC hP hD hl
  obtain ⟨hx, hb, hr, hml, hown, hts, hK, hN, hlocks⟩ := hC
  have hown : s.vm.findClass RX7 = some m.cls := hown
  have hS : va_S A s.heap s.heap [] := va_S.rf
  have hl : lv_has ls 2 [(0, .ref (a 6)), (1, .int x1)] := hl
  unfold F_X7_cAt at hF
  refine lv_aload_n hx hb dX7_cAt_0 rfl (lv_at hl 0 rfl) ?_
  refine va_get (D := D) (ci := 7) (v := .ref (a 11)) (C := RX7) (T := TX7) (N := 7) hx hb hts inlX7 hown hK hP 6 gC_6 rfl 5 (by decide) (hts _ mw_57) (fun _ h9 => h9) rfl dX7_cAt_1 ?_
  refine lv_iload_n hx hb dX7_cAt_4 rfl (lv_at hl 1 rfl) ?_
  obtain ⟨v1, e2, hF⟩ := Option.bind_eq_some_iff.mp hF
  refine z_ild hx hb hK hP 11 gC_11 e2 dX7_cAt_5 ?_
  cases hF
  exact z_iret hx hb hr hlocks hK hP hD hS dX7_cAt_6
abbrev ts_X2_tellTest : List Cond := .code yX2_tellTest cX2_tellTest 6 none :: wsL_law
set_option maxHeartbeats 4000000 in
set_option maxRecDepth 100000 in
theorem c_X2_tellTest (l : Launch) (D : va_G) (cyI cyZ : ClassId) (a : Nat → Nat) (A : Nat → Prop) (σ : Mem) (x1 : Int32) (x2 : Int32) (x3 : Int32) (x4 : Int32) (x5 : Int32) (σ' : Mem) (hF : F_X2_tellTest σ x1 x2 x3 x4 x5 = some σ') : CtV l yX2_tellTest ts_X2_tellTest ({ frames := 0, cells := 0, slots := 0, locals := 0 } : Room) [.ref (a 17), .int x1, .int x2, .int x3, .int x4, .int x5] D cyI cyZ A (wC cyI cyZ a σ) (wC cyI cyZ a σ') := by
  refine CtV.of (cc := cX2_tellTest) (maxL := 6) (ret := none) (by decide) rfl (Nat.le_of_ble_eq_true rfl) ?_
  intro p e s m below meth c ls hC hP hD hl
  obtain ⟨hx, hb, hr, hml, hown, hts, hK, hN, hlocks⟩ := hC
  have hown : s.vm.findClass RX2 = some m.cls := hown
  have hS : va_S A s.heap s.heap [] := va_S.rf
  have hl : lv_has ls 6 [(0, .ref (a 17)), (1, .int x1), (2, .int x2), (3, .int x3), (4, .int x4), (5, .int x5)] := hl
  unfold F_X2_tellTest at hF
  refine lv_aload_n hx hb dX2_tellTest_0 rfl (lv_at hl 0 rfl) ?_
  refine va_get (D := D) (ci := 2) (v := .ref (a 22)) (C := RX2) (T := TX2) (N := 13) hx hb hts inlX2 hown hK hP 17 gC_17 rfl 12 (by decide) (hts _ mw_87) (fun _ h9 => h9) rfl dX2_tellTest_1 ?_
  refine lv_aload_n hx hb dX2_tellTest_4 rfl (lv_at hl 0 rfl) ?_
  refine va_get (D := D) (ci := 2) (v := .int (σ 17 7)) (C := RX2) (T := TX2) (N := 13) hx hb hts inlX2 hown hK hP 17 gC_17 rfl 7 (by decide) (hts _ mw_462) (fun _ h9 => h9) rfl dX2_tellTest_5 ?_
  refine lv_iload_n hx hb dX2_tellTest_8 rfl (lv_at hl 1 rfl) ?_
  obtain ⟨σ1, e2, hF⟩ := Option.bind_eq_some_iff.mp hF
  refine z_ist (wC cyI cyZ a) hx hb hK hP hD hS 22 gC_22 sC_22 e2 dX2_tellTest_9 (fun H locs hP hD hS => ?_)
  refine lv_aload_n hx hb dX2_tellTest_10 rfl (lv_at hl 0 rfl) ?_
  refine va_get (D := D) (ci := 2) (v := .ref (a 18)) (C := RX2) (T := TX2) (N := 13) hx hb hts inlX2 hown hK hP 17 gC_17 rfl 8 (by decide) (hts _ mw_83) (fun _ h9 => h9) rfl dX2_tellTest_11 ?_
  refine lv_aload_n hx hb dX2_tellTest_14 rfl (lv_at hl 0 rfl) ?_
  refine va_get (D := D) (ci := 2) (v := .int (σ1 17 7)) (C := RX2) (T := TX2) (N := 13) hx hb hts inlX2 hown hK hP 17 gC_17 rfl 7 (by decide) (hts _ mw_462) (fun _ h9 => h9) rfl dX2_tellTest_15 ?_
  refine lv_iload_n hx hb dX2_tellTest_18 rfl (lv_at hl 2 rfl) ?_
  obtain ⟨σ3, e4, hF⟩ := Option.bind_eq_some_iff.mp hF
  refine z_ist (wC cyI cyZ a) hx hb hK hP hD hS 18 gC_18 sC_18 e4 dX2_tellTest_19 (fun H locs hP hD hS => ?_)
  refine lv_aload_n hx hb dX2_tellTest_20 rfl (lv_at hl 0 rfl) ?_
  refine va_get (D := D) (ci := 2) (v := .ref (a 19)) (C := RX2) (T := TX2) (N := 13) hx hb hts inlX2 hown hK hP 17 gC_17 rfl 9 (by decide) (hts _ mw_84) (fun _ h9 => h9) rfl dX2_tellTest_21 ?_
  refine lv_aload_n hx hb dX2_tellTest_24 rfl (lv_at hl 0 rfl) ?_
  refine va_get (D := D) (ci := 2) (v := .int (σ3 17 7)) (C := RX2) (T := TX2) (N := 13) hx hb hts inlX2 hown hK hP 17 gC_17 rfl 7 (by decide) (hts _ mw_462) (fun _ h9 => h9) rfl dX2_tellTest_25 ?_
  refine lv_iload_n hx hb dX2_tellTest_28 rfl (lv_at hl 3 rfl) ?_
  obtain ⟨σ5, e6, hF⟩ := Option.bind_eq_some_iff.mp hF
  refine z_ist (wC cyI cyZ a) hx hb hK hP hD hS 19 gC_19 sC_19 e6 dX2_tellTest_29 (fun H locs hP hD hS => ?_)
  refine lv_aload_n hx hb dX2_tellTest_30 rfl (lv_at hl 0 rfl) ?_
  refine va_get (D := D) (ci := 2) (v := .ref (a 20)) (C := RX2) (T := TX2) (N := 13) hx hb hts inlX2 hown hK hP 17 gC_17 rfl 10 (by decide) (hts _ mw_85) (fun _ h9 => h9) rfl dX2_tellTest_31 ?_
  refine lv_aload_n hx hb dX2_tellTest_34 rfl (lv_at hl 0 rfl) ?_
  refine va_get (D := D) (ci := 2) (v := .int (σ5 17 7)) (C := RX2) (T := TX2) (N := 13) hx hb hts inlX2 hown hK hP 17 gC_17 rfl 7 (by decide) (hts _ mw_462) (fun _ h9 => h9) rfl dX2_tellTest_35 ?_
  refine lv_iload hx hb dX2_tellTest_38 (lv_at hl 4 rfl) ?_
  obtain ⟨σ7, e8, hF⟩ := Option.bind_eq_some_iff.mp hF
  refine z_ist (wC cyI cyZ a) hx hb hK hP hD hS 20 gC_20 sC_20 e8 dX2_tellTest_40 (fun H locs hP hD hS => ?_)
  refine lv_aload_n hx hb dX2_tellTest_41 rfl (lv_at hl 0 rfl) ?_
  refine va_get (D := D) (ci := 2) (v := .ref (a 21)) (C := RX2) (T := TX2) (N := 13) hx hb hts inlX2 hown hK hP 17 gC_17 rfl 11 (by decide) (hts _ mw_86) (fun _ h9 => h9) rfl dX2_tellTest_42 ?_
  refine lv_aload_n hx hb dX2_tellTest_45 rfl (lv_at hl 0 rfl) ?_
  refine va_get (D := D) (ci := 2) (v := .int (σ7 17 7)) (C := RX2) (T := TX2) (N := 13) hx hb hts inlX2 hown hK hP 17 gC_17 rfl 7 (by decide) (hts _ mw_462) (fun _ h9 => h9) rfl dX2_tellTest_46 ?_
  refine lv_iload hx hb dX2_tellTest_49 (lv_at hl 5 rfl) ?_
  obtain ⟨σ9, e10, hF⟩ := Option.bind_eq_some_iff.mp hF
  refine z_ist (wC cyI cyZ a) hx hb hK hP hD hS 21 gC_21 sC_21 e10 dX2_tellTest_51 (fun H locs hP hD hS => ?_)
  refine lv_aload_n hx hb dX2_tellTest_52 rfl (lv_at hl 0 rfl) ?_
  refine lv_dup hx hb dX2_tellTest_53 rfl ?_
  refine va_get (D := D) (ci := 2) (v := .int (σ9 17 7)) (C := RX2) (T := TX2) (N := 13) hx hb hts inlX2 hown hK hP 17 gC_17 rfl 7 (by decide) (hts _ mw_462) (fun _ h9 => h9) rfl dX2_tellTest_54 ?_
  refine lv_iconst (v := (1 : Int32)) hx hb dX2_tellTest_57 (by decide) ?_
  refine lv_iadd hx hb dX2_tellTest_58 ?_
  obtain ⟨σ11, e12, hF⟩ := Option.bind_eq_some_iff.mp hF
  refine va_put (D := D) (ci := 2) (v := .int ((σ9 17 7) + (1 : Int32))) (ty := .int) (C := RX2) (T := TX2) (N := 13) hx hb hts inlX2 tyX2 tyX2_ok nmX2 hown hK hP hD hS 17 gC_17 rfl 7 (by decide) (hts _ mw_462) (fun _ h9 => h9) rfl (by decide +kernel) rfl rfl (Nat.le_of_ble_eq_true rfl) dX2_tellTest_59 (fun H locs hP hD hS => ?_)
  rw [sC_17_7, Option.some.inj e12] at hP hD
  cases hF
  exact z_vret hx hb hr hlocks hK hP hD hS dX2_tellTest_62
