-- X0_spoil X3_isWordAt X3_tokenAt X5_meaningIn X7_spotOf X7_sortAt X2_start X7_aAt X7_bAt X2_tellTable X2_tellWanted X2_tellDoing X5_originOf X7_cAt X2_tellTest X3_isNumber X5_tellMeaning X2_end
abbrev ts_X0_spoil : List Cond := .code yX0_spoil cX0_spoil 1 none :: wsL_law
set_option maxHeartbeats 4000000 in
set_option maxRecDepth 100000 in
theorem c_X0_spoil (l : Launch) (D : va_G) (cyI cyZ : ClassId) (a : Nat → Nat) (A : Nat → Prop) (σ : Mem) (σ' : Mem) (hF : F_X0_spoil σ  = some σ') : CtV l yX0_spoil ts_X0_spoil ({ frames := 0, cells := 0, slots := 0, locals := 0 } : Room) [.ref (a 29)] D cyI cyZ A (wC cyI cyZ a σ) (wC cyI cyZ a σ') := by
  refine CtV.of (cc := cX0_spoil) (maxL := 1) (ret := none) (by decide) rfl (Nat.le_of_ble_eq_true rfl) ?_
  intro p e s m below meth c ls hC hP hD hl
  obtain ⟨hx, hb, hr, hml, hown, hts, hK, hN, hlocks⟩ := hC
  have hown : s.vm.findClass RX0 = some m.cls := hown
  have hS : va_S A s.heap s.heap [] := va_S.rf
  have hl : lv_has ls 1 [(0, .ref (a 29))] := hl
  unfold F_X0_spoil at hF
  refine lv_aload_n hx hb dX0_spoil_0 rfl (lv_at hl 0 rfl) ?_
  refine lv_iconst (v := (0 : Int32)) hx hb dX0_spoil_1 (by decide) ?_
  obtain ⟨σ1, e2, hF⟩ := Option.bind_eq_some_iff.mp hF
  refine va_put (D := D) (ci := 0) (v := .int (0 : Int32)) (ty := .int) (C := RX0) (T := TX0) (N := 6) hx hb hts inlX0 tyX0 tyX0_ok nmX0 hown hK hP hD hS 29 gC_29 rfl 5 (by decide) (hts _ mw_188) (fun _ h9 => h9) rfl (by decide +kernel) rfl rfl (Nat.le_of_ble_eq_true rfl) dX0_spoil_2 (fun H locs hP hD hS => ?_)
  rw [sC_29_5, Option.some.inj e2] at hP hD
  cases hF
  exact z_vret hx hb hr hlocks hK hP hD hS dX0_spoil_5
abbrev ts_X3_isWordAt : List Cond := .code yX3_isWordAt cX3_isWordAt 2 (some .boolean) :: wsL_law
set_option maxHeartbeats 4000000 in
set_option maxRecDepth 100000 in
theorem c_X3_isWordAt (l : Launch) (D : va_G) (cyI cyZ : ClassId) (a : Nat → Nat) (A : Nat → Prop) (σ : Mem) (x1 : Int32) (r : Int32) (hF : F_X3_isWordAt σ x1 = some r) : CtI l yX3_isWordAt ts_X3_isWordAt ({ frames := 0, cells := 0, slots := 0, locals := 0 } : Room) [.ref (a 13), .int x1] D cyI cyZ A (wC cyI cyZ a σ) (wC cyI cyZ a σ) r := by
  refine CtI.of (cc := cX3_isWordAt) (maxL := 2) (ret := (some .boolean)) (by decide) rfl (Nat.le_of_ble_eq_true rfl) ?_
  intro p e s m below meth c ls hC hP hD hl
  obtain ⟨hx, hb, hr, hml, hown, hts, hK, hN, hlocks⟩ := hC
  have hown : s.vm.findClass RX3 = some m.cls := hown
  have hS : va_S A s.heap s.heap [] := va_S.rf
  have hl : lv_has ls 2 [(0, .ref (a 13)), (1, .int x1)] := hl
  unfold F_X3_isWordAt at hF
  refine lv_iload_n hx hb dX3_isWordAt_0 rfl (lv_at hl 1 rfl) ?_
  refine lv_if_lt (tgt := 25) hx hb dX3_isWordAt_1 (by decide) (fun c1 => ?_) (fun c1 => ?_)
  · rw [if_pos c1] at hF
    refine lv_iconst (v := (0 : Int32)) hx hb dX3_isWordAt_25 (by decide) ?_
    cases hF
    exact z_zret hx hb hr hlocks hK hP hD hS rfl dX3_isWordAt_26
  · rw [if_neg c1] at hF
    refine lv_iload_n hx hb dX3_isWordAt_4 rfl (lv_at hl 1 rfl) ?_
    refine lv_aload_n hx hb dX3_isWordAt_5 rfl (lv_at hl 0 rfl) ?_
    refine va_get (D := D) (ci := 3) (v := .int (σ 13 0)) (C := RX3) (T := TX3) (N := 3) hx hb hts inlX3 hown hK hP 13 gC_13 rfl 0 (by decide) (hts _ mw_343) (fun _ h9 => h9) rfl dX3_isWordAt_6 ?_
    refine lv_icmp_ge (tgt := 25) hx hb dX3_isWordAt_9 (by decide) (fun c2 => ?_) (fun c2 => ?_)
    · rw [if_pos c2] at hF
      refine lv_iconst (v := (0 : Int32)) hx hb dX3_isWordAt_25 (by decide) ?_
      cases hF
      exact z_zret hx hb hr hlocks hK hP hD hS rfl dX3_isWordAt_26
    · rw [if_neg c2] at hF
      refine lv_aload_n hx hb dX3_isWordAt_12 rfl (lv_at hl 0 rfl) ?_
      refine va_get (D := D) (ci := 3) (v := .ref (a 14)) (C := RX3) (T := TX3) (N := 3) hx hb hts inlX3 hown hK hP 13 gC_13 rfl 1 (by decide) (hts _ mw_63) (fun _ h9 => h9) rfl dX3_isWordAt_13 ?_
      refine lv_iload_n hx hb dX3_isWordAt_16 rfl (lv_at hl 1 rfl) ?_
      obtain ⟨v3, e4, hF⟩ := Option.bind_eq_some_iff.mp hF
      refine z_zld hx hb hK hP 14 gC_14 e4 dX3_isWordAt_17 ?_
      refine lv_if_ne (tgt := 25) hx hb dX3_isWordAt_18 (by decide) (fun c5 => ?_) (fun c5 => ?_)
      · rw [if_neg c5] at hF
        refine lv_iconst (v := (0 : Int32)) hx hb dX3_isWordAt_25 (by decide) ?_
        cases hF
        exact z_zret hx hb hr hlocks hK hP hD hS rfl dX3_isWordAt_26
      · rw [if_pos c5] at hF
        refine lv_iconst (v := (1 : Int32)) hx hb dX3_isWordAt_21 (by decide) ?_
        refine lv_goto (tgt := 26) hx hb dX3_isWordAt_22 (by decide) ?_
        cases hF
        exact z_zret hx hb hr hlocks hK hP hD hS rfl dX3_isWordAt_26
abbrev ts_X3_tokenAt : List Cond := .code yX3_tokenAt cX3_tokenAt 2 (some .int) :: wsL_law
set_option maxHeartbeats 4000000 in
set_option maxRecDepth 100000 in
theorem c_X3_tokenAt (l : Launch) (D : va_G) (cyI cyZ : ClassId) (a : Nat → Nat) (A : Nat → Prop) (σ : Mem) (x1 : Int32) (r : Int32) (hF : F_X3_tokenAt σ x1 = some r) : CtI l yX3_tokenAt ts_X3_tokenAt ({ frames := 0, cells := 0, slots := 0, locals := 0 } : Room) [.ref (a 13), .int x1] D cyI cyZ A (wC cyI cyZ a σ) (wC cyI cyZ a σ) r := by
  refine CtI.of (cc := cX3_tokenAt) (maxL := 2) (ret := (some .int)) (by decide) rfl (Nat.le_of_ble_eq_true rfl) ?_
  intro p e s m below meth c ls hC hP hD hl
  obtain ⟨hx, hb, hr, hml, hown, hts, hK, hN, hlocks⟩ := hC
  have hown : s.vm.findClass RX3 = some m.cls := hown
  have hS : va_S A s.heap s.heap [] := va_S.rf
  have hl : lv_has ls 2 [(0, .ref (a 13)), (1, .int x1)] := hl
  unfold F_X3_tokenAt at hF
  refine lv_aload_n hx hb dX3_tokenAt_0 rfl (lv_at hl 0 rfl) ?_
  refine va_get (D := D) (ci := 3) (v := .ref (a 15)) (C := RX3) (T := TX3) (N := 3) hx hb hts inlX3 hown hK hP 13 gC_13 rfl 2 (by decide) (hts _ mw_64) (fun _ h9 => h9) rfl dX3_tokenAt_1 ?_
  refine lv_iload_n hx hb dX3_tokenAt_4 rfl (lv_at hl 1 rfl) ?_
  obtain ⟨v1, e2, hF⟩ := Option.bind_eq_some_iff.mp hF
  refine z_ild hx hb hK hP 15 gC_15 e2 dX3_tokenAt_5 ?_
  cases hF
  exact z_iret hx hb hr hlocks hK hP hD hS dX3_tokenAt_6
abbrev ts_X5_meaningIn : List Cond := .code yX5_meaningIn cX5_meaningIn 2 (some .int) :: wsL_law
set_option maxHeartbeats 4000000 in
set_option maxRecDepth 100000 in
theorem c_X5_meaningIn (l : Launch) (D : va_G) (cyI cyZ : ClassId) (A : Nat → Prop) (w : va_W) (x0 : Int32) (x1 : Int32) (r : Int32) (hF : F_X5_meaningIn x0 x1 = r) : CtI l yX5_meaningIn ts_X5_meaningIn ({ frames := 0, cells := 0, slots := 0, locals := 0 } : Room) [.int x0, .int x1] D cyI cyZ A w w r := by
  refine CtI.of (cc := cX5_meaningIn) (maxL := 2) (ret := (some .int)) (by decide) rfl (Nat.le_of_ble_eq_true rfl) ?_
  intro p e s m below meth c ls hC hP hD hl
  obtain ⟨hx, hb, hr, hml, hown, hts, hK, hN, hlocks⟩ := hC
  have hown : s.vm.findClass RX5 = some m.cls := hown
  have hS : va_S A s.heap s.heap [] := va_S.rf
  have hl : lv_has ls 2 [(0, .int x0), (1, .int x1)] := hl
  unfold F_X5_meaningIn at hF
  refine lv_iload_n hx hb dX5_meaningIn_0 rfl (lv_at hl 0 rfl) ?_
  refine lv_bipush (v := (7 : Int32)) hx hb dX5_meaningIn_1 (by decide) ?_
  refine lv_iload_n hx hb dX5_meaningIn_3 rfl (lv_at hl 1 rfl) ?_
  refine lv_isub hx hb dX5_meaningIn_4 ?_
  refine lv_iconst (v := (2 : Int32)) hx hb dX5_meaningIn_5 (by decide) ?_
  refine lv_imul hx hb dX5_meaningIn_6 ?_
  refine lv_ishr hx hb dX5_meaningIn_7 ?_
  refine lv_iconst (v := (3 : Int32)) hx hb dX5_meaningIn_8 (by decide) ?_
  refine lv_iand hx hb dX5_meaningIn_9 ?_
  subst hF
  exact z_iret hx hb hr hlocks hK hP hD hS dX5_meaningIn_10
abbrev ts_X7_spotOf : List Cond := .code yX7_spotOf cX7_spotOf 3 (some .int) :: wsL_law
set_option maxHeartbeats 4000000 in
set_option maxRecDepth 100000 in
theorem c_X7_spotOf (l : Launch) (D : va_G) (cyI cyZ : ClassId) (a : Nat → Nat) (A : Nat → Prop) (σ : Mem) (x1 : Int32) (x2 : Int32) (r : Int32) (hF : F_X7_spotOf σ x1 x2 = r) : CtI l yX7_spotOf ts_X7_spotOf ({ frames := 0, cells := 0, slots := 0, locals := 0 } : Room) [.ref (a 6), .int x1, .int x2] D cyI cyZ A (wC cyI cyZ a σ) (wC cyI cyZ a σ) r := by
  refine CtI.of (cc := cX7_spotOf) (maxL := 3) (ret := (some .int)) (by decide) rfl (Nat.le_of_ble_eq_true rfl) ?_
  intro p e s m below meth c ls hC hP hD hl
  obtain ⟨hx, hb, hr, hml, hown, hts, hK, hN, hlocks⟩ := hC
  have hown : s.vm.findClass RX7 = some m.cls := hown
  have hS : va_S A s.heap s.heap [] := va_S.rf
  have hl : lv_has ls 3 [(0, .ref (a 6)), (1, .int x1), (2, .int x2)] := hl
  unfold F_X7_spotOf at hF
  refine lv_iload_n hx hb dX7_spotOf_0 rfl (lv_at hl 1 rfl) ?_
  refine lv_iconst (v := (3 : Int32)) hx hb dX7_spotOf_1 (by decide) ?_
  refine lv_imul hx hb dX7_spotOf_2 ?_
  refine lv_iload_n hx hb dX7_spotOf_3 rfl (lv_at hl 2 rfl) ?_
  refine lv_iadd hx hb dX7_spotOf_4 ?_
  subst hF
  exact z_iret hx hb hr hlocks hK hP hD hS dX7_spotOf_5
abbrev ts_X7_sortAt : List Cond := .code yX7_sortAt cX7_sortAt 2 (some .int) :: wsL_law
set_option maxHeartbeats 4000000 in
set_option maxRecDepth 100000 in
theorem c_X7_sortAt (l : Launch) (D : va_G) (cyI cyZ : ClassId) (a : Nat → Nat) (A : Nat → Prop) (σ : Mem) (x1 : Int32) (r : Int32) (hF : F_X7_sortAt σ x1 = some r) : CtI l yX7_sortAt ts_X7_sortAt ({ frames := 0, cells := 0, slots := 0, locals := 0 } : Room) [.ref (a 6), .int x1] D cyI cyZ A (wC cyI cyZ a σ) (wC cyI cyZ a σ) r := by
  refine CtI.of (cc := cX7_sortAt) (maxL := 2) (ret := (some .int)) (by decide) rfl (Nat.le_of_ble_eq_true rfl) ?_
  intro p e s m below meth c ls hC hP hD hl
  obtain ⟨hx, hb, hr, hml, hown, hts, hK, hN, hlocks⟩ := hC
  have hown : s.vm.findClass RX7 = some m.cls := hown
  have hS : va_S A s.heap s.heap [] := va_S.rf
  have hl : lv_has ls 2 [(0, .ref (a 6)), (1, .int x1)] := hl
  unfold F_X7_sortAt at hF
  refine lv_aload_n hx hb dX7_sortAt_0 rfl (lv_at hl 0 rfl) ?_
  refine va_get (D := D) (ci := 7) (v := .ref (a 8)) (C := RX7) (T := TX7) (N := 7) hx hb hts inlX7 hown hK hP 6 gC_6 rfl 2 (by decide) (hts _ mw_54) (fun _ h9 => h9) rfl dX7_sortAt_1 ?_
  refine lv_iload_n hx hb dX7_sortAt_4 rfl (lv_at hl 1 rfl) ?_
  obtain ⟨v1, e2, hF⟩ := Option.bind_eq_some_iff.mp hF
  refine z_ild hx hb hK hP 8 gC_8 e2 dX7_sortAt_5 ?_
  cases hF
  exact z_iret hx hb hr hlocks hK hP hD hS dX7_sortAt_6
abbrev ts_X2_start : List Cond := .code yX2_start cX2_start 1 none :: wsL_law
set_option maxHeartbeats 4000000 in
set_option maxRecDepth 100000 in
theorem c_X2_start (l : Launch) (D : va_G) (cyI cyZ : ClassId) (a : Nat → Nat) (A : Nat → Prop) (σ : Mem) (σ' : Mem) (hF : F_X2_start σ  = some σ') : CtV l yX2_start ts_X2_start ({ frames := 0, cells := 0, slots := 0, locals := 0 } : Room) [.ref (a 17)] D cyI cyZ A (wC cyI cyZ a σ) (wC cyI cyZ a σ') := by
  refine CtV.of (cc := cX2_start) (maxL := 1) (ret := none) (by decide) rfl (Nat.le_of_ble_eq_true rfl) ?_
  intro p e s m below meth c ls hC hP hD hl
  obtain ⟨hx, hb, hr, hml, hown, hts, hK, hN, hlocks⟩ := hC
  have hown : s.vm.findClass RX2 = some m.cls := hown
  have hS : va_S A s.heap s.heap [] := va_S.rf
  have hl : lv_has ls 1 [(0, .ref (a 17))] := hl
  unfold F_X2_start at hF
  refine lv_aload_n hx hb dX2_start_0 rfl (lv_at hl 0 rfl) ?_
  refine lv_iconst (v := (0 : Int32)) hx hb dX2_start_1 (by decide) ?_
  obtain ⟨σ1, e2, hF⟩ := Option.bind_eq_some_iff.mp hF
  refine va_put (D := D) (ci := 2) (v := .int (0 : Int32)) (ty := .int) (C := RX2) (T := TX2) (N := 13) hx hb hts inlX2 tyX2 tyX2_ok nmX2 hown hK hP hD hS 17 gC_17 rfl 0 (by decide) (hts _ mw_456) (fun _ h9 => h9) rfl (by decide +kernel) rfl rfl (Nat.le_of_ble_eq_true rfl) dX2_start_2 (fun H locs hP hD hS => ?_)
  rw [sC_17_0, Option.some.inj e2] at hP hD
  refine lv_aload_n hx hb dX2_start_5 rfl (lv_at hl 0 rfl) ?_
  refine lv_iconst (v := (0 : Int32)) hx hb dX2_start_6 (by decide) ?_
  obtain ⟨σ3, e4, hF⟩ := Option.bind_eq_some_iff.mp hF
  refine va_put (D := D) (ci := 2) (v := .int (0 : Int32)) (ty := .int) (C := RX2) (T := TX2) (N := 13) hx hb hts inlX2 tyX2 tyX2_ok nmX2 hown hK hP hD hS 17 gC_17 rfl 1 (by decide) (hts _ mw_457) (fun _ h9 => h9) rfl (by decide +kernel) rfl rfl (Nat.le_of_ble_eq_true rfl) dX2_start_7 (fun H locs hP hD hS => ?_)
  rw [sC_17_1, Option.some.inj e4] at hP hD
  refine lv_aload_n hx hb dX2_start_10 rfl (lv_at hl 0 rfl) ?_
  refine lv_iconst (v := (0 : Int32)) hx hb dX2_start_11 (by decide) ?_
  obtain ⟨σ5, e6, hF⟩ := Option.bind_eq_some_iff.mp hF
  refine va_put (D := D) (ci := 2) (v := .int (0 : Int32)) (ty := .int) (C := RX2) (T := TX2) (N := 13) hx hb hts inlX2 tyX2 tyX2_ok nmX2 hown hK hP hD hS 17 gC_17 rfl 2 (by decide) (hts _ mw_458) (fun _ h9 => h9) rfl (by decide +kernel) rfl rfl (Nat.le_of_ble_eq_true rfl) dX2_start_12 (fun H locs hP hD hS => ?_)
  rw [sC_17_2, Option.some.inj e6] at hP hD
  refine lv_aload_n hx hb dX2_start_15 rfl (lv_at hl 0 rfl) ?_
  refine lv_iconst (v := (-1 : Int32)) hx hb dX2_start_16 (by decide) ?_
  obtain ⟨σ7, e8, hF⟩ := Option.bind_eq_some_iff.mp hF
  refine va_put (D := D) (ci := 2) (v := .int (-1 : Int32)) (ty := .int) (C := RX2) (T := TX2) (N := 13) hx hb hts inlX2 tyX2 tyX2_ok nmX2 hown hK hP hD hS 17 gC_17 rfl 3 (by decide) (hts _ mw_459) (fun _ h9 => h9) rfl (by decide +kernel) rfl rfl (Nat.le_of_ble_eq_true rfl) dX2_start_17 (fun H locs hP hD hS => ?_)
  rw [sC_17_3, Option.some.inj e8] at hP hD
  refine lv_aload_n hx hb dX2_start_20 rfl (lv_at hl 0 rfl) ?_
  refine lv_iconst (v := (0 : Int32)) hx hb dX2_start_21 (by decide) ?_
  obtain ⟨σ9, e10, hF⟩ := Option.bind_eq_some_iff.mp hF
  refine va_put (D := D) (ci := 2) (v := .int (0 : Int32)) (ty := .int) (C := RX2) (T := TX2) (N := 13) hx hb hts inlX2 tyX2 tyX2_ok nmX2 hown hK hP hD hS 17 gC_17 rfl 4 (by decide) (hts _ mw_460) (fun _ h9 => h9) rfl (by decide +kernel) rfl rfl (Nat.le_of_ble_eq_true rfl) dX2_start_22 (fun H locs hP hD hS => ?_)
  rw [sC_17_4, Option.some.inj e10] at hP hD
  refine lv_aload_n hx hb dX2_start_25 rfl (lv_at hl 0 rfl) ?_
  refine lv_iconst (v := (-1 : Int32)) hx hb dX2_start_26 (by decide) ?_
  obtain ⟨σ11, e12, hF⟩ := Option.bind_eq_some_iff.mp hF
  refine va_put (D := D) (ci := 2) (v := .int (-1 : Int32)) (ty := .int) (C := RX2) (T := TX2) (N := 13) hx hb hts inlX2 tyX2 tyX2_ok nmX2 hown hK hP hD hS 17 gC_17 rfl 5 (by decide) (hts _ mw_461) (fun _ h9 => h9) rfl (by decide +kernel) rfl rfl (Nat.le_of_ble_eq_true rfl) dX2_start_27 (fun H locs hP hD hS => ?_)
  rw [sC_17_5, Option.some.inj e12] at hP hD
  refine lv_aload_n hx hb dX2_start_30 rfl (lv_at hl 0 rfl) ?_
  refine lv_iconst (v := (-1 : Int32)) hx hb dX2_start_31 (by decide) ?_
  obtain ⟨σ13, e14, hF⟩ := Option.bind_eq_some_iff.mp hF
  refine va_put (D := D) (ci := 2) (v := .int (-1 : Int32)) (ty := .int) (C := RX2) (T := TX2) (N := 13) hx hb hts inlX2 tyX2 tyX2_ok nmX2 hown hK hP hD hS 17 gC_17 rfl 6 (by decide) (hts _ mw_462) (fun _ h9 => h9) rfl (by decide +kernel) rfl rfl (Nat.le_of_ble_eq_true rfl) dX2_start_32 (fun H locs hP hD hS => ?_)
  rw [sC_17_6, Option.some.inj e14] at hP hD
  refine lv_aload_n hx hb dX2_start_35 rfl (lv_at hl 0 rfl) ?_
  refine lv_iconst (v := (0 : Int32)) hx hb dX2_start_36 (by decide) ?_
  obtain ⟨σ15, e16, hF⟩ := Option.bind_eq_some_iff.mp hF
  refine va_put (D := D) (ci := 2) (v := .int (0 : Int32)) (ty := .int) (C := RX2) (T := TX2) (N := 13) hx hb hts inlX2 tyX2 tyX2_ok nmX2 hown hK hP hD hS 17 gC_17 rfl 7 (by decide) (hts _ mw_463) (fun _ h9 => h9) rfl (by decide +kernel) rfl rfl (Nat.le_of_ble_eq_true rfl) dX2_start_37 (fun H locs hP hD hS => ?_)
  rw [sC_17_7, Option.some.inj e16] at hP hD
  cases hF
  exact z_vret hx hb hr hlocks hK hP hD hS dX2_start_40
abbrev ts_X7_aAt : List Cond := .code yX7_aAt cX7_aAt 2 (some .int) :: wsL_law
set_option maxHeartbeats 4000000 in
set_option maxRecDepth 100000 in
theorem c_X7_aAt (l : Launch) (D : va_G) (cyI cyZ : ClassId) (a : Nat → Nat) (A : Nat → Prop) (σ : Mem) (x1 : Int32) (r : Int32) (hF : F_X7_aAt σ x1 = some r) : CtI l yX7_aAt ts_X7_aAt ({ frames := 0, cells := 0, slots := 0, locals := 0 } : Room) [.ref (a 6), .int x1] D cyI cyZ A (wC cyI cyZ a σ) (wC cyI cyZ a σ) r := by
  refine CtI.of (cc := cX7_aAt) (maxL := 2) (ret := (some .int)) (by decide) rfl (Nat.le_of_ble_eq_true rfl) ?_
  intro p e s m below meth c ls hC hP hD hl
  obtain ⟨hx, hb, hr, hml, hown, hts, hK, hN, hlocks⟩ := hC
  have hown : s.vm.findClass RX7 = some m.cls := hown
  have hS : va_S A s.heap s.heap [] := va_S.rf
  have hl : lv_has ls 2 [(0, .ref (a 6)), (1, .int x1)] := hl
  unfold F_X7_aAt at hF
  refine lv_aload_n hx hb dX7_aAt_0 rfl (lv_at hl 0 rfl) ?_
  refine va_get (D := D) (ci := 7) (v := .ref (a 9)) (C := RX7) (T := TX7) (N := 7) hx hb hts inlX7 hown hK hP 6 gC_6 rfl 3 (by decide) (hts _ mw_55) (fun _ h9 => h9) rfl dX7_aAt_1 ?_
  refine lv_iload_n hx hb dX7_aAt_4 rfl (lv_at hl 1 rfl) ?_
  obtain ⟨v1, e2, hF⟩ := Option.bind_eq_some_iff.mp hF
  refine z_ild hx hb hK hP 9 gC_9 e2 dX7_aAt_5 ?_
  cases hF
  exact z_iret hx hb hr hlocks hK hP hD hS dX7_aAt_6
abbrev ts_X7_bAt : List Cond := .code yX7_bAt cX7_bAt 2 (some .int) :: wsL_law
set_option maxHeartbeats 4000000 in
set_option maxRecDepth 100000 in
theorem c_X7_bAt (l : Launch) (D : va_G) (cyI cyZ : ClassId) (a : Nat → Nat) (A : Nat → Prop) (σ : Mem) (x1 : Int32) (r : Int32) (hF : F_X7_bAt σ x1 = some r) : CtI l yX7_bAt ts_X7_bAt ({ frames := 0, cells := 0, slots := 0, locals := 0 } : Room) [.ref (a 6), .int x1] D cyI cyZ A (wC cyI cyZ a σ) (wC cyI cyZ a σ) r := by
  refine CtI.of (cc := cX7_bAt) (maxL := 2) (ret := (some .int)) (by decide) rfl (Nat.le_of_ble_eq_true rfl) ?_
  intro p e s m below meth c ls hC hP hD hl
  obtain ⟨hx, hb, hr, hml, hown, hts, hK, hN, hlocks⟩ := hC
  have hown : s.vm.findClass RX7 = some m.cls := hown
  have hS : va_S A s.heap s.heap [] := va_S.rf
  have hl : lv_has ls 2 [(0, .ref (a 6)), (1, .int x1)] := hl
  unfold F_X7_bAt at hF
  refine lv_aload_n hx hb dX7_bAt_0 rfl (lv_at hl 0 rfl) ?_
  refine va_get (D := D) (ci := 7) (v := .ref (a 10)) (C := RX7) (T := TX7) (N := 7) hx hb hts inlX7 hown hK hP 6 gC_6 rfl 4 (by decide) (hts _ mw_56) (fun _ h9 => h9) rfl dX7_bAt_1 ?_
  refine lv_iload_n hx hb dX7_bAt_4 rfl (lv_at hl 1 rfl) ?_
  obtain ⟨v1, e2, hF⟩ := Option.bind_eq_some_iff.mp hF
  refine z_ild hx hb hK hP 10 gC_10 e2 dX7_bAt_5 ?_
  cases hF
  exact z_iret hx hb hr hlocks hK hP hD hS dX7_bAt_6
abbrev ts_X2_tellTable : List Cond := .code yX2_tellTable cX2_tellTable 2 none :: wsL_law
set_option maxHeartbeats 4000000 in
set_option maxRecDepth 100000 in
theorem c_X2_tellTable (l : Launch) (D : va_G) (cyI cyZ : ClassId) (a : Nat → Nat) (A : Nat → Prop) (σ : Mem) (x1 : Int32) (σ' : Mem) (hF : F_X2_tellTable σ x1 = some σ') : CtV l yX2_tellTable ts_X2_tellTable ({ frames := 0, cells := 0, slots := 0, locals := 0 } : Room) [.ref (a 17), .int x1] D cyI cyZ A (wC cyI cyZ a σ) (wC cyI cyZ a σ') := by
  refine CtV.of (cc := cX2_tellTable) (maxL := 2) (ret := none) (by decide) rfl (Nat.le_of_ble_eq_true rfl) ?_
  intro p e s m below meth c ls hC hP hD hl
  obtain ⟨hx, hb, hr, hml, hown, hts, hK, hN, hlocks⟩ := hC
  have hown : s.vm.findClass RX2 = some m.cls := hown
  have hS : va_S A s.heap s.heap [] := va_S.rf
  have hl : lv_has ls 2 [(0, .ref (a 17)), (1, .int x1)] := hl
  unfold F_X2_tellTable at hF
  refine lv_aload_n hx hb dX2_tellTable_0 rfl (lv_at hl 0 rfl) ?_
  refine lv_dup hx hb dX2_tellTable_1 rfl ?_
  refine va_get (D := D) (ci := 2) (v := .int (σ 17 2)) (C := RX2) (T := TX2) (N := 13) hx hb hts inlX2 hown hK hP 17 gC_17 rfl 2 (by decide) (hts _ mw_458) (fun _ h9 => h9) rfl dX2_tellTable_2 ?_
  refine lv_iconst (v := (1 : Int32)) hx hb dX2_tellTable_5 (by decide) ?_
  refine lv_iadd hx hb dX2_tellTable_6 ?_
  obtain ⟨σ1, e2, hF⟩ := Option.bind_eq_some_iff.mp hF
  refine va_put (D := D) (ci := 2) (v := .int ((σ 17 2) + (1 : Int32))) (ty := .int) (C := RX2) (T := TX2) (N := 13) hx hb hts inlX2 tyX2 tyX2_ok nmX2 hown hK hP hD hS 17 gC_17 rfl 2 (by decide) (hts _ mw_458) (fun _ h9 => h9) rfl (by decide +kernel) rfl rfl (Nat.le_of_ble_eq_true rfl) dX2_tellTable_7 (fun H locs hP hD hS => ?_)
  rw [sC_17_2, Option.some.inj e2] at hP hD
  refine lv_aload_n hx hb dX2_tellTable_10 rfl (lv_at hl 0 rfl) ?_
  refine lv_iload_n hx hb dX2_tellTable_11 rfl (lv_at hl 1 rfl) ?_
  obtain ⟨σ3, e4, hF⟩ := Option.bind_eq_some_iff.mp hF
  refine va_put (D := D) (ci := 2) (v := .int x1) (ty := .int) (C := RX2) (T := TX2) (N := 13) hx hb hts inlX2 tyX2 tyX2_ok nmX2 hown hK hP hD hS 17 gC_17 rfl 3 (by decide) (hts _ mw_459) (fun _ h9 => h9) rfl (by decide +kernel) rfl rfl (Nat.le_of_ble_eq_true rfl) dX2_tellTable_12 (fun H locs hP hD hS => ?_)
  rw [sC_17_3, Option.some.inj e4] at hP hD
  cases hF
  exact z_vret hx hb hr hlocks hK hP hD hS dX2_tellTable_15
abbrev ts_X2_tellWanted : List Cond := .code yX2_tellWanted cX2_tellWanted 3 none :: wsL_law
set_option maxHeartbeats 4000000 in
set_option maxRecDepth 100000 in
theorem c_X2_tellWanted (l : Launch) (D : va_G) (cyI cyZ : ClassId) (a : Nat → Nat) (A : Nat → Prop) (σ : Mem) (x1 : Int32) (x2 : Int32) (σ' : Mem) (hF : F_X2_tellWanted σ x1 x2 = some σ') : CtV l yX2_tellWanted ts_X2_tellWanted ({ frames := 0, cells := 0, slots := 0, locals := 0 } : Room) [.ref (a 17), .int x1, .int x2] D cyI cyZ A (wC cyI cyZ a σ) (wC cyI cyZ a σ') := by
  refine CtV.of (cc := cX2_tellWanted) (maxL := 3) (ret := none) (by decide) rfl (Nat.le_of_ble_eq_true rfl) ?_
  intro p e s m below meth c ls hC hP hD hl
  obtain ⟨hx, hb, hr, hml, hown, hts, hK, hN, hlocks⟩ := hC
  have hown : s.vm.findClass RX2 = some m.cls := hown
  have hS : va_S A s.heap s.heap [] := va_S.rf
  have hl : lv_has ls 3 [(0, .ref (a 17)), (1, .int x1), (2, .int x2)] := hl
  unfold F_X2_tellWanted at hF
  refine lv_aload_n hx hb dX2_tellWanted_0 rfl (lv_at hl 0 rfl) ?_
  refine lv_dup hx hb dX2_tellWanted_1 rfl ?_
  refine va_get (D := D) (ci := 2) (v := .int (σ 17 4)) (C := RX2) (T := TX2) (N := 13) hx hb hts inlX2 hown hK hP 17 gC_17 rfl 4 (by decide) (hts _ mw_460) (fun _ h9 => h9) rfl dX2_tellWanted_2 ?_
  refine lv_iconst (v := (1 : Int32)) hx hb dX2_tellWanted_5 (by decide) ?_
  refine lv_iadd hx hb dX2_tellWanted_6 ?_
  obtain ⟨σ1, e2, hF⟩ := Option.bind_eq_some_iff.mp hF
  refine va_put (D := D) (ci := 2) (v := .int ((σ 17 4) + (1 : Int32))) (ty := .int) (C := RX2) (T := TX2) (N := 13) hx hb hts inlX2 tyX2 tyX2_ok nmX2 hown hK hP hD hS 17 gC_17 rfl 4 (by decide) (hts _ mw_460) (fun _ h9 => h9) rfl (by decide +kernel) rfl rfl (Nat.le_of_ble_eq_true rfl) dX2_tellWanted_7 (fun H locs hP hD hS => ?_)
  rw [sC_17_4, Option.some.inj e2] at hP hD
  refine lv_aload_n hx hb dX2_tellWanted_10 rfl (lv_at hl 0 rfl) ?_
  refine lv_iload_n hx hb dX2_tellWanted_11 rfl (lv_at hl 1 rfl) ?_
  obtain ⟨σ3, e4, hF⟩ := Option.bind_eq_some_iff.mp hF
  refine va_put (D := D) (ci := 2) (v := .int x1) (ty := .int) (C := RX2) (T := TX2) (N := 13) hx hb hts inlX2 tyX2 tyX2_ok nmX2 hown hK hP hD hS 17 gC_17 rfl 6 (by decide) (hts _ mw_462) (fun _ h9 => h9) rfl (by decide +kernel) rfl rfl (Nat.le_of_ble_eq_true rfl) dX2_tellWanted_12 (fun H locs hP hD hS => ?_)
  rw [sC_17_6, Option.some.inj e4] at hP hD
  refine lv_aload_n hx hb dX2_tellWanted_15 rfl (lv_at hl 0 rfl) ?_
  refine lv_iload_n hx hb dX2_tellWanted_16 rfl (lv_at hl 2 rfl) ?_
  obtain ⟨σ5, e6, hF⟩ := Option.bind_eq_some_iff.mp hF
  refine va_put (D := D) (ci := 2) (v := .int x2) (ty := .int) (C := RX2) (T := TX2) (N := 13) hx hb hts inlX2 tyX2 tyX2_ok nmX2 hown hK hP hD hS 17 gC_17 rfl 5 (by decide) (hts _ mw_461) (fun _ h9 => h9) rfl (by decide +kernel) rfl rfl (Nat.le_of_ble_eq_true rfl) dX2_tellWanted_17 (fun H locs hP hD hS => ?_)
  rw [sC_17_5, Option.some.inj e6] at hP hD
  cases hF
  exact z_vret hx hb hr hlocks hK hP hD hS dX2_tellWanted_20
abbrev ts_X2_tellDoing : List Cond := .code yX2_tellDoing cX2_tellDoing 2 none :: wsL_law
set_option maxHeartbeats 4000000 in
set_option maxRecDepth 100000 in
theorem c_X2_tellDoing (l : Launch) (D : va_G) (cyI cyZ : ClassId) (a : Nat → Nat) (A : Nat → Prop) (σ : Mem) (x1 : Int32) (σ' : Mem) (hF : F_X2_tellDoing σ x1 = some σ') : CtV l yX2_tellDoing ts_X2_tellDoing ({ frames := 0, cells := 0, slots := 0, locals := 0 } : Room) [.ref (a 17), .int x1] D cyI cyZ A (wC cyI cyZ a σ) (wC cyI cyZ a σ') := by
  refine CtV.of (cc := cX2_tellDoing) (maxL := 2) (ret := none) (by decide) rfl (Nat.le_of_ble_eq_true rfl) ?_
  intro p e s m below meth c ls hC hP hD hl
  obtain ⟨hx, hb, hr, hml, hown, hts, hK, hN, hlocks⟩ := hC
  have hown : s.vm.findClass RX2 = some m.cls := hown
  have hS : va_S A s.heap s.heap [] := va_S.rf
  have hl : lv_has ls 2 [(0, .ref (a 17)), (1, .int x1)] := hl
  unfold F_X2_tellDoing at hF
  refine lv_aload_n hx hb dX2_tellDoing_0 rfl (lv_at hl 0 rfl) ?_
  refine lv_dup hx hb dX2_tellDoing_1 rfl ?_
  refine va_get (D := D) (ci := 2) (v := .int (σ 17 0)) (C := RX2) (T := TX2) (N := 13) hx hb hts inlX2 hown hK hP 17 gC_17 rfl 0 (by decide) (hts _ mw_456) (fun _ h9 => h9) rfl dX2_tellDoing_2 ?_
  refine lv_iconst (v := (1 : Int32)) hx hb dX2_tellDoing_5 (by decide) ?_
  refine lv_iadd hx hb dX2_tellDoing_6 ?_
  obtain ⟨σ1, e2, hF⟩ := Option.bind_eq_some_iff.mp hF
  refine va_put (D := D) (ci := 2) (v := .int ((σ 17 0) + (1 : Int32))) (ty := .int) (C := RX2) (T := TX2) (N := 13) hx hb hts inlX2 tyX2 tyX2_ok nmX2 hown hK hP hD hS 17 gC_17 rfl 0 (by decide) (hts _ mw_456) (fun _ h9 => h9) rfl (by decide +kernel) rfl rfl (Nat.le_of_ble_eq_true rfl) dX2_tellDoing_7 (fun H locs hP hD hS => ?_)
  rw [sC_17_0, Option.some.inj e2] at hP hD
  refine lv_aload_n hx hb dX2_tellDoing_10 rfl (lv_at hl 0 rfl) ?_
  refine lv_iload_n hx hb dX2_tellDoing_11 rfl (lv_at hl 1 rfl) ?_
  obtain ⟨σ3, e4, hF⟩ := Option.bind_eq_some_iff.mp hF
  refine va_put (D := D) (ci := 2) (v := .int x1) (ty := .int) (C := RX2) (T := TX2) (N := 13) hx hb hts inlX2 tyX2 tyX2_ok nmX2 hown hK hP hD hS 17 gC_17 rfl 1 (by decide) (hts _ mw_457) (fun _ h9 => h9) rfl (by decide +kernel) rfl rfl (Nat.le_of_ble_eq_true rfl) dX2_tellDoing_12 (fun H locs hP hD hS => ?_)
  rw [sC_17_1, Option.some.inj e4] at hP hD
  cases hF
  exact z_vret hx hb hr hlocks hK hP hD hS dX2_tellDoing_15
abbrev ts_X5_originOf : List Cond := .code yX5_originOf cX5_originOf 3 (some .int) :: wsL_law
set_option maxHeartbeats 4000000 in
set_option maxRecDepth 100000 in
theorem c_X5_originOf (l : Launch) (D : va_G) (cyI cyZ : ClassId) (A : Nat → Prop) (w : va_W) (x0 : Int32) (x1 : Int32) (x2 : Int32) (r : Int32) (hF : F_X5_originOf x0 x1 x2 = r) : CtI l yX5_originOf ts_X5_originOf ({ frames := 0, cells := 0, slots := 0, locals := 0 } : Room) [.int x0, .int x1, .int x2] D cyI cyZ A w w r := by
  refine CtI.of (cc := cX5_originOf) (maxL := 3) (ret := (some .int)) (by decide) rfl (Nat.le_of_ble_eq_true rfl) ?_
  intro p e s m below meth c ls hC hP hD hl
  obtain ⟨hx, hb, hr, hml, hown, hts, hK, hN, hlocks⟩ := hC
  have hown : s.vm.findClass RX5 = some m.cls := hown
  have hS : va_S A s.heap s.heap [] := va_S.rf
  have hl : lv_has ls 3 [(0, .int x0), (1, .int x1), (2, .int x2)] := hl
  unfold F_X5_originOf at hF
  refine lv_iload_n hx hb dX5_originOf_0 rfl (lv_at hl 0 rfl) ?_
  refine lv_iconst (v := (3 : Int32)) hx hb dX5_originOf_1 (by decide) ?_
  refine lv_imul hx hb dX5_originOf_2 ?_
  refine lv_iload_n hx hb dX5_originOf_3 rfl (lv_at hl 1 rfl) ?_
  refine lv_iconst (v := (3 : Int32)) hx hb dX5_originOf_4 (by decide) ?_
  refine lv_irem hx hb dX5_originOf_5 (by decide) ?_
  refine lv_iadd hx hb dX5_originOf_6 ?_
  refine lv_iconst (v := (3 : Int32)) hx hb dX5_originOf_7 (by decide) ?_
  refine lv_imul hx hb dX5_originOf_8 ?_
  refine lv_iload_n hx hb dX5_originOf_9 rfl (lv_at hl 2 rfl) ?_
  refine lv_iconst (v := (3 : Int32)) hx hb dX5_originOf_10 (by decide) ?_
  refine lv_irem hx hb dX5_originOf_11 (by decide) ?_
  refine lv_iadd hx hb dX5_originOf_12 ?_
  subst hF
  exact z_iret hx hb hr hlocks hK hP hD hS dX5_originOf_13
abbrev ts_X7_cAt : List Cond := .code yX7_cAt cX7_cAt 2 (some .int) :: wsL_law
set_option maxHeartbeats 4000000 in
set_option maxRecDepth 100000 in
theorem c_X7_cAt (l : Launch) (D : va_G) (cyI cyZ : ClassId) (a : Nat → Nat) (A : Nat → Prop) (σ : Mem) (x1 : Int32) (r : Int32) (hF : F_X7_cAt σ x1 = some r) : CtI l yX7_cAt ts_X7_cAt ({ frames := 0, cells := 0, slots := 0, locals := 0 } : Room) [.ref (a 6), .int x1] D cyI cyZ A (wC cyI cyZ a σ) (wC cyI cyZ a σ) r := by
  refine CtI.of (cc := cX7_cAt) (maxL := 2) (ret := (some .int)) (by decide) rfl (Nat.le_of_ble_eq_true rfl) ?_
  intro p e s m below meth c ls hC hP hD hl
  obtain ⟨hx, hb, hr, hml, hown, hts, hK, hN, hlocks⟩ := hC
  have hown : s.vm.findClass RX7 = some m.cls := hown
  have hS : va_S A s.heap s.heap [] := va_S.rf
  have hl : lv_has ls 2 [(0, .ref (a 6)), (1, .int x1)] := hl
  unfold F_X7_cAt at hF
  refine lv_aload_n hx hb dX7_cAt_0 rfl (lv_at hl 0 rfl) ?_
  refine va_get (D := D) (ci := 7) (v := .ref (a 11)) (C := RX7) (T := TX7) (N := 7) hx hb hts inlX7 hown hK hP 6 gC_6 rfl 5 (by decide) (hts _ mw_57) (fun _ h9 => h9) rfl dX7_cAt_1 ?_
  refine lv_iload_n hx hb dX7_cAt_4 rfl (lv_at hl 1 rfl) ?_
  obtain ⟨v1, e2, hF⟩ := Option.bind_eq_some_iff.mp hF
  refine z_ild hx hb hK hP 11 gC_11 e2 dX7_cAt_5 ?_
  cases hF
  exact z_iret hx hb hr hlocks hK hP hD hS dX7_cAt_6
abbrev ts_X2_tellTest : List Cond := .code yX2_tellTest cX2_tellTest 6 none :: wsL_law
set_option maxHeartbeats 4000000 in
set_option maxRecDepth 100000 in
theorem c_X2_tellTest (l : Launch) (D : va_G) (cyI cyZ : ClassId) (a : Nat → Nat) (A : Nat → Prop) (σ : Mem) (x1 : Int32) (x2 : Int32) (x3 : Int32) (x4 : Int32) (x5 : Int32) (σ' : Mem) (hF : F_X2_tellTest σ x1 x2 x3 x4 x5 = some σ') : CtV l yX2_tellTest ts_X2_tellTest ({ frames := 0, cells := 0, slots := 0, locals := 0 } : Room) [.ref (a 17), .int x1, .int x2, .int x3, .int x4, .int x5] D cyI cyZ A (wC cyI cyZ a σ) (wC cyI cyZ a σ') := by
  refine CtV.of (cc := cX2_tellTest) (maxL := 6) (ret := none) (by decide) rfl (Nat.le_of_ble_eq_true rfl) ?_
  intro p e s m below meth c ls hC hP hD hl
  obtain ⟨hx, hb, hr, hml, hown, hts, hK, hN, hlocks⟩ := hC
  have hown : s.vm.findClass RX2 = some m.cls := hown
  have hS : va_S A s.heap s.heap [] := va_S.rf
  have hl : lv_has ls 6 [(0, .ref (a 17)), (1, .int x1), (2, .int x2), (3, .int x3), (4, .int x4), (5, .int x5)] := hl
  unfold F_X2_tellTest at hF
  refine lv_aload_n hx hb dX2_tellTest_0 rfl (lv_at hl 0 rfl) ?_
  refine va_get (D := D) (ci := 2) (v := .ref (a 22)) (C := RX2) (T := TX2) (N := 13) hx hb hts inlX2 hown hK hP 17 gC_17 rfl 12 (by decide) (hts _ mw_88) (fun _ h9 => h9) rfl dX2_tellTest_1 ?_
  refine lv_aload_n hx hb dX2_tellTest_4 rfl (lv_at hl 0 rfl) ?_
  refine va_get (D := D) (ci := 2) (v := .int (σ 17 7)) (C := RX2) (T := TX2) (N := 13) hx hb hts inlX2 hown hK hP 17 gC_17 rfl 7 (by decide) (hts _ mw_463) (fun _ h9 => h9) rfl dX2_tellTest_5 ?_
  refine lv_iload_n hx hb dX2_tellTest_8 rfl (lv_at hl 1 rfl) ?_
  obtain ⟨σ1, e2, hF⟩ := Option.bind_eq_some_iff.mp hF
  refine z_ist (wC cyI cyZ a) hx hb hK hP hD hS 22 gC_22 sC_22 e2 dX2_tellTest_9 (fun H locs hP hD hS => ?_)
  refine lv_aload_n hx hb dX2_tellTest_10 rfl (lv_at hl 0 rfl) ?_
  refine va_get (D := D) (ci := 2) (v := .ref (a 18)) (C := RX2) (T := TX2) (N := 13) hx hb hts inlX2 hown hK hP 17 gC_17 rfl 8 (by decide) (hts _ mw_84) (fun _ h9 => h9) rfl dX2_tellTest_11 ?_
  refine lv_aload_n hx hb dX2_tellTest_14 rfl (lv_at hl 0 rfl) ?_
  refine va_get (D := D) (ci := 2) (v := .int (σ1 17 7)) (C := RX2) (T := TX2) (N := 13) hx hb hts inlX2 hown hK hP 17 gC_17 rfl 7 (by decide) (hts _ mw_463) (fun _ h9 => h9) rfl dX2_tellTest_15 ?_
  refine lv_iload_n hx hb dX2_tellTest_18 rfl (lv_at hl 2 rfl) ?_
  obtain ⟨σ3, e4, hF⟩ := Option.bind_eq_some_iff.mp hF
  refine z_ist (wC cyI cyZ a) hx hb hK hP hD hS 18 gC_18 sC_18 e4 dX2_tellTest_19 (fun H locs hP hD hS => ?_)
  refine lv_aload_n hx hb dX2_tellTest_20 rfl (lv_at hl 0 rfl) ?_
  refine va_get (D := D) (ci := 2) (v := .ref (a 19)) (C := RX2) (T := TX2) (N := 13) hx hb hts inlX2 hown hK hP 17 gC_17 rfl 9 (by decide) (hts _ mw_85) (fun _ h9 => h9) rfl dX2_tellTest_21 ?_
  refine lv_aload_n hx hb dX2_tellTest_24 rfl (lv_at hl 0 rfl) ?_
  refine va_get (D := D) (ci := 2) (v := .int (σ3 17 7)) (C := RX2) (T := TX2) (N := 13) hx hb hts inlX2 hown hK hP 17 gC_17 rfl 7 (by decide) (hts _ mw_463) (fun _ h9 => h9) rfl dX2_tellTest_25 ?_
  refine lv_iload_n hx hb dX2_tellTest_28 rfl (lv_at hl 3 rfl) ?_
  obtain ⟨σ5, e6, hF⟩ := Option.bind_eq_some_iff.mp hF
  refine z_ist (wC cyI cyZ a) hx hb hK hP hD hS 19 gC_19 sC_19 e6 dX2_tellTest_29 (fun H locs hP hD hS => ?_)
  refine lv_aload_n hx hb dX2_tellTest_30 rfl (lv_at hl 0 rfl) ?_
  refine va_get (D := D) (ci := 2) (v := .ref (a 20)) (C := RX2) (T := TX2) (N := 13) hx hb hts inlX2 hown hK hP 17 gC_17 rfl 10 (by decide) (hts _ mw_86) (fun _ h9 => h9) rfl dX2_tellTest_31 ?_
  refine lv_aload_n hx hb dX2_tellTest_34 rfl (lv_at hl 0 rfl) ?_
  refine va_get (D := D) (ci := 2) (v := .int (σ5 17 7)) (C := RX2) (T := TX2) (N := 13) hx hb hts inlX2 hown hK hP 17 gC_17 rfl 7 (by decide) (hts _ mw_463) (fun _ h9 => h9) rfl dX2_tellTest_35 ?_
  refine lv_iload hx hb dX2_tellTest_38 (lv_at hl 4 rfl) ?_
  obtain ⟨σ7, e8, hF⟩ := Option.bind_eq_some_iff.mp hF
  refine z_ist (wC cyI cyZ a) hx hb hK hP hD hS 20 gC_20 sC_20 e8 dX2_tellTest_40 (fun H locs hP hD hS => ?_)
  refine lv_aload_n hx hb dX2_tellTest_41 rfl (lv_at hl 0 rfl) ?_
  refine va_get (D := D) (ci := 2) (v := .ref (a 21)) (C := RX2) (T := TX2) (N := 13) hx hb hts inlX2 hown hK hP 17 gC_17 rfl 11 (by decide) (hts _ mw_87) (fun _ h9 => h9) rfl dX2_tellTest_42 ?_
  refine lv_aload_n hx hb dX2_tellTest_45 rfl (lv_at hl 0 rfl) ?_
  refine va_get (D := D) (ci := 2) (v := .int (σ7 17 7)) (C := RX2) (T := TX2) (N := 13) hx hb hts inlX2 hown hK hP 17 gC_17 rfl 7 (by decide) (hts _ mw_463) (fun _ h9 => h9) rfl dX2_tellTest_46 ?_
  refine lv_iload hx hb dX2_tellTest_49 (lv_at hl 5 rfl) ?_
  obtain ⟨σ9, e10, hF⟩ := Option.bind_eq_some_iff.mp hF
  refine z_ist (wC cyI cyZ a) hx hb hK hP hD hS 21 gC_21 sC_21 e10 dX2_tellTest_51 (fun H locs hP hD hS => ?_)
  refine lv_aload_n hx hb dX2_tellTest_52 rfl (lv_at hl 0 rfl) ?_
  refine lv_dup hx hb dX2_tellTest_53 rfl ?_
  refine va_get (D := D) (ci := 2) (v := .int (σ9 17 7)) (C := RX2) (T := TX2) (N := 13) hx hb hts inlX2 hown hK hP 17 gC_17 rfl 7 (by decide) (hts _ mw_463) (fun _ h9 => h9) rfl dX2_tellTest_54 ?_
  refine lv_iconst (v := (1 : Int32)) hx hb dX2_tellTest_57 (by decide) ?_
  refine lv_iadd hx hb dX2_tellTest_58 ?_
  obtain ⟨σ11, e12, hF⟩ := Option.bind_eq_some_iff.mp hF
  refine va_put (D := D) (ci := 2) (v := .int ((σ9 17 7) + (1 : Int32))) (ty := .int) (C := RX2) (T := TX2) (N := 13) hx hb hts inlX2 tyX2 tyX2_ok nmX2 hown hK hP hD hS 17 gC_17 rfl 7 (by decide) (hts _ mw_463) (fun _ h9 => h9) rfl (by decide +kernel) rfl rfl (Nat.le_of_ble_eq_true rfl) dX2_tellTest_59 (fun H locs hP hD hS => ?_)
  rw [sC_17_7, Option.some.inj e12] at hP hD
  cases hF
  exact z_vret hx hb hr hlocks hK hP hD hS dX2_tellTest_62
abbrev ts_X3_isNumber : List Cond := .code yX3_isNumber cX3_isNumber 2 (some .boolean) :: wsL_law
set_option maxHeartbeats 4000000 in
set_option maxRecDepth 100000 in
theorem c_X3_isNumber (l : Launch) (D : va_G) (cyI cyZ : ClassId) (a : Nat → Nat) (A : Nat → Prop) (σ : Mem) (x1 : Int32) (r : Int32) (hF : F_X3_isNumber σ x1 = some r) : CtI l yX3_isNumber ts_X3_isNumber ({ frames := 0, cells := 0, slots := 0, locals := 0 } : Room) [.ref (a 13), .int x1] D cyI cyZ A (wC cyI cyZ a σ) (wC cyI cyZ a σ) r := by
  refine CtI.of (cc := cX3_isNumber) (maxL := 2) (ret := (some .boolean)) (by decide) rfl (Nat.le_of_ble_eq_true rfl) ?_
  intro p e s m below meth c ls hC hP hD hl
  obtain ⟨hx, hb, hr, hml, hown, hts, hK, hN, hlocks⟩ := hC
  have hown : s.vm.findClass RX3 = some m.cls := hown
  have hS : va_S A s.heap s.heap [] := va_S.rf
  have hl : lv_has ls 2 [(0, .ref (a 13)), (1, .int x1)] := hl
  unfold F_X3_isNumber at hF
  refine lv_iload_n hx hb dX3_isNumber_0 rfl (lv_at hl 1 rfl) ?_
  refine lv_if_lt (tgt := 25) hx hb dX3_isNumber_1 (by decide) (fun c1 => ?_) (fun c1 => ?_)
  · rw [if_pos c1] at hF
    refine lv_iconst (v := (0 : Int32)) hx hb dX3_isNumber_25 (by decide) ?_
    cases hF
    exact z_zret hx hb hr hlocks hK hP hD hS rfl dX3_isNumber_26
  · rw [if_neg c1] at hF
    refine lv_iload_n hx hb dX3_isNumber_4 rfl (lv_at hl 1 rfl) ?_
    refine lv_aload_n hx hb dX3_isNumber_5 rfl (lv_at hl 0 rfl) ?_
    refine va_get (D := D) (ci := 3) (v := .int (σ 13 0)) (C := RX3) (T := TX3) (N := 3) hx hb hts inlX3 hown hK hP 13 gC_13 rfl 0 (by decide) (hts _ mw_343) (fun _ h9 => h9) rfl dX3_isNumber_6 ?_
    refine lv_icmp_ge (tgt := 25) hx hb dX3_isNumber_9 (by decide) (fun c2 => ?_) (fun c2 => ?_)
    · rw [if_pos c2] at hF
      refine lv_iconst (v := (0 : Int32)) hx hb dX3_isNumber_25 (by decide) ?_
      cases hF
      exact z_zret hx hb hr hlocks hK hP hD hS rfl dX3_isNumber_26
    · rw [if_neg c2] at hF
      refine lv_aload_n hx hb dX3_isNumber_12 rfl (lv_at hl 0 rfl) ?_
      refine va_get (D := D) (ci := 3) (v := .ref (a 14)) (C := RX3) (T := TX3) (N := 3) hx hb hts inlX3 hown hK hP 13 gC_13 rfl 1 (by decide) (hts _ mw_63) (fun _ h9 => h9) rfl dX3_isNumber_13 ?_
      refine lv_iload_n hx hb dX3_isNumber_16 rfl (lv_at hl 1 rfl) ?_
      obtain ⟨v3, e4, hF⟩ := Option.bind_eq_some_iff.mp hF
      refine z_zld hx hb hK hP 14 gC_14 e4 dX3_isNumber_17 ?_
      refine lv_if_eq (tgt := 25) hx hb dX3_isNumber_18 (by decide) (fun c5 => ?_) (fun c5 => ?_)
      · rw [if_pos c5] at hF
        refine lv_iconst (v := (0 : Int32)) hx hb dX3_isNumber_25 (by decide) ?_
        cases hF
        exact z_zret hx hb hr hlocks hK hP hD hS rfl dX3_isNumber_26
      · rw [if_neg c5] at hF
        refine lv_iconst (v := (1 : Int32)) hx hb dX3_isNumber_21 (by decide) ?_
        refine lv_goto (tgt := 26) hx hb dX3_isNumber_22 (by decide) ?_
        cases hF
        exact z_zret hx hb hr hlocks hK hP hD hS rfl dX3_isNumber_26
abbrev ts_X5_tellMeaning : List Cond := .code yX5_tellMeaning cX5_tellMeaning 6 none :: wsL_law
set_option maxHeartbeats 4000000 in
set_option maxRecDepth 100000 in
theorem c_X5_tellMeaning (l : Launch) (D : va_G) (cyI cyZ : ClassId) (a : Nat → Nat) (A : Nat → Prop) (σ : Mem) (x1 : Int32) (x2 : Int32) (σ' : Mem) (hF : F_X5_tellMeaning σ x1 x2 = some σ') : CtV l yX5_tellMeaning ts_X5_tellMeaning ({ frames := 1, cells := 0, slots := 0, locals := 25 } : Room) [.ref (a 16), .int x1, .int x2] D cyI cyZ A (wC cyI cyZ a σ) (wC cyI cyZ a σ') := by
  refine CtV.of (cc := cX5_tellMeaning) (maxL := 6) (ret := none) (by decide) rfl (Nat.le_of_ble_eq_true rfl) ?_
  intro p e s m below meth c ls hC hP hD hl
  obtain ⟨hx, hb, hr, hml, hown, hts, hK, hN, hlocks⟩ := hC
  have hown : s.vm.findClass RX5 = some m.cls := hown
  have hS : va_S A s.heap s.heap [] := va_S.rf
  have hl : lv_has ls 6 [(0, .ref (a 16)), (1, .int x1), (2, .int x2)] := hl
  unfold F_X5_tellMeaning at hF
  refine lv_aload_n hx hb dX5_tellMeaning_0 rfl (lv_at hl 0 rfl) ?_
  refine va_get (D := D) (ci := 5) (v := .ref (a 6)) (C := RX5) (T := TX5) (N := 11) hx hb hts inlX5 hown hK hP 16 gC_16 rfl 1 (by decide) (hts _ mw_79) (fun _ h9 => h9) rfl dX5_tellMeaning_1 ?_
  refine lv_iload_n hx hb dX5_tellMeaning_4 rfl (lv_at hl 2 rfl) ?_
  obtain ⟨v1, e2, hF⟩ := Option.bind_eq_some_iff.mp hF
  refine z_callVI (w' := (wC cyI cyZ a σ)) (As := [.int x2]) (rest := []) ⟨hx, hb, hml, hown, hts⟩ (c_X7_aAt l D cyI cyZ a A σ x2 _ e2) (cwV 1 hts (gd_V mw_468 mw_469 mw_470 mw_18 mw_471) rfl rfl rfl (by decide +kernel) ⟨Nat.le_of_ble_eq_true rfl, Nat.le_of_ble_eq_true rfl⟩) hK hN hP hD hS 7 6 rfl rfl gC_6 rfl hl.1 rfl (Nat.le_of_ble_eq_true rfl) dX5_tellMeaning_5 ⟨Nat.zero_le _, Nat.zero_le _⟩ (fun H locs hP hD hS => ?_)
  refine lv_istore_n (lv' := [(3, .int v1), (0, .ref (a 16)), (1, .int x1), (2, .int x2)]) hx hb dX5_tellMeaning_8 rfl hl (by decide) rfl (fun ls hl => ?_)
  refine lv_aload_n hx hb dX5_tellMeaning_9 rfl (lv_at hl 1 rfl) ?_
  refine va_get (D := D) (ci := 5) (v := .ref (a 6)) (C := RX5) (T := TX5) (N := 11) hx hb hts inlX5 hown hK hP 16 gC_16 rfl 1 (by decide) (hts _ mw_79) (fun _ h9 => h9) rfl dX5_tellMeaning_10 ?_
  refine lv_iload_n hx hb dX5_tellMeaning_13 rfl (lv_at hl 3 rfl) ?_
  obtain ⟨v3, e4, hF⟩ := Option.bind_eq_some_iff.mp hF
  refine z_callVI (w' := (wC cyI cyZ a σ)) (As := [.int x2]) (rest := []) ⟨hx, hb, hml, hown, hts⟩ (c_X7_bAt l D cyI cyZ a A σ x2 _ e4) (cwV 1 hts (gd_V mw_472 mw_473 mw_474 mw_18 mw_475) rfl rfl rfl (by decide +kernel) ⟨Nat.le_of_ble_eq_true rfl, Nat.le_of_ble_eq_true rfl⟩) hK hN hP hD hS 7 6 rfl rfl gC_6 rfl hl.1 rfl (Nat.le_of_ble_eq_true rfl) dX5_tellMeaning_14 ⟨Nat.zero_le _, Nat.zero_le _⟩ (fun H locs hP hD hS => ?_)
  refine lv_istore (lv' := [(4, .int v3), (3, .int v1), (0, .ref (a 16)), (1, .int x1), (2, .int x2)]) hx hb dX5_tellMeaning_17 hl (by decide) rfl (fun ls hl => ?_)
  refine lv_aload_n hx hb dX5_tellMeaning_19 rfl (lv_at hl 2 rfl) ?_
  refine va_get (D := D) (ci := 5) (v := .ref (a 34)) (C := RX5) (T := TX5) (N := 11) hx hb hts inlX5 hown hK hP 16 gC_16 rfl 6 (by decide) (hts _ mw_75) (fun _ h9 => h9) rfl dX5_tellMeaning_20 ?_
  refine lv_iload_n hx hb dX5_tellMeaning_23 rfl (lv_at hl 3 rfl) ?_
  obtain ⟨v5, e6, hF⟩ := Option.bind_eq_some_iff.mp hF
  refine z_ild hx hb hK hP 34 gC_34 e6 dX5_tellMeaning_24 ?_
  by_cases c7 : v5 = (0 : Int32)
  · rw [if_pos c7] at hF
    refine lv_tableIn (off := 35) (tgt := 60) hx hb dX5_tellMeaning_25 (by rw [c7]; decide) (by rw [c7]; decide) (by rw [c7]; rfl) (by decide) ?_
    refine lv_aload_n hx hb dX5_tellMeaning_60 rfl (lv_at hl 2 rfl) ?_
    refine va_get (D := D) (ci := 5) (v := .ref (a 17)) (C := RX5) (T := TX5) (N := 11) hx hb hts inlX5 hown hK hP 16 gC_16 rfl 3 (by decide) (hts _ mw_72) (fun _ h9 => h9) rfl dX5_tellMeaning_61 ?_
    refine lv_iload_n hx hb dX5_tellMeaning_64 rfl (lv_at hl 1 rfl) ?_
    obtain ⟨σ8, e9, hF⟩ := Option.bind_eq_some_iff.mp hF
    refine z_callVV (w' := (wC cyI cyZ a σ8)) (As := [.int v1]) (rest := []) ⟨hx, hb, hml, hown, hts⟩ (c_X2_tellTable l D cyI cyZ a A σ v1 σ8 e9) (cwV 1 hts (gd_V mw_476 mw_477 mw_478 mw_71 mw_479) rfl rfl rfl (by decide +kernel) ⟨Nat.le_of_ble_eq_true rfl, Nat.le_of_ble_eq_true rfl⟩) hK hN hP hD hS 2 17 rfl rfl gC_17 rfl hl.1 rfl (Nat.le_of_ble_eq_true rfl) dX5_tellMeaning_65 ⟨Nat.zero_le _, Nat.zero_le _⟩ (fun H locs hP hD hS => ?_)
    refine lv_goto (tgt := 217) hx hb dX5_tellMeaning_68 (by decide) ?_
    cases hF
    exact z_vret hx hb hr hlocks hK hP hD hS dX5_tellMeaning_217
  · rw [if_neg c7] at hF
    by_cases c10 : v5 = (1 : Int32)
    · rw [if_pos c10] at hF
      refine lv_tableIn (off := 46) (tgt := 71) hx hb dX5_tellMeaning_25 (by rw [c10]; decide) (by rw [c10]; decide) (by rw [c10]; rfl) (by decide) ?_
      refine lv_aload_n hx hb dX5_tellMeaning_71 rfl (lv_at hl 2 rfl) ?_
      refine va_get (D := D) (ci := 5) (v := .ref (a 34)) (C := RX5) (T := TX5) (N := 11) hx hb hts inlX5 hown hK hP 16 gC_16 rfl 6 (by decide) (hts _ mw_75) (fun _ h9 => h9) rfl dX5_tellMeaning_72 ?_
      refine lv_iload_n hx hb dX5_tellMeaning_75 rfl (lv_at hl 3 rfl) ?_
      refine lv_iconst (v := (1 : Int32)) hx hb dX5_tellMeaning_76 (by decide) ?_
      refine lv_iadd hx hb dX5_tellMeaning_77 ?_
      obtain ⟨v11, e12, hF⟩ := Option.bind_eq_some_iff.mp hF
      refine z_ild hx hb hK hP 34 gC_34 e12 dX5_tellMeaning_78 ?_
      refine lv_iconst (v := (4 : Int32)) hx hb dX5_tellMeaning_79 (by decide) ?_
      refine lv_icmp_eq (tgt := 217) hx hb dX5_tellMeaning_80 (by decide) (fun c13 => ?_) (fun c13 => ?_)
      · rw [if_pos c13] at hF
        cases hF
        exact z_vret hx hb hr hlocks hK hP hD hS dX5_tellMeaning_217
      · rw [if_neg c13] at hF
        refine lv_aload_n hx hb dX5_tellMeaning_83 rfl (lv_at hl 2 rfl) ?_
        refine va_get (D := D) (ci := 5) (v := .ref (a 17)) (C := RX5) (T := TX5) (N := 11) hx hb hts inlX5 hown hK hP 16 gC_16 rfl 3 (by decide) (hts _ mw_72) (fun _ h9 => h9) rfl dX5_tellMeaning_84 ?_
        refine lv_iload_n hx hb dX5_tellMeaning_87 rfl (lv_at hl 1 rfl) ?_
        refine lv_iload hx hb dX5_tellMeaning_88 (lv_at hl 0 rfl) ?_
        obtain ⟨σ14, e15, hF⟩ := Option.bind_eq_some_iff.mp hF
        refine z_callVV (w' := (wC cyI cyZ a σ14)) (As := [.int v1, .int v3]) (rest := []) ⟨hx, hb, hml, hown, hts⟩ (c_X2_tellWanted l D cyI cyZ a A σ v1 v3 σ14 e15) (cwV 2 hts (gd_V mw_480 mw_481 mw_482 mw_71 mw_483) rfl rfl rfl (by decide +kernel) ⟨Nat.le_of_ble_eq_true rfl, Nat.le_of_ble_eq_true rfl⟩) hK hN hP hD hS 2 17 rfl rfl gC_17 rfl hl.1 rfl (Nat.le_of_ble_eq_true rfl) dX5_tellMeaning_90 ⟨Nat.zero_le _, Nat.zero_le _⟩ (fun H locs hP hD hS => ?_)
        refine lv_goto (tgt := 217) hx hb dX5_tellMeaning_93 (by decide) ?_
        cases hF
        exact z_vret hx hb hr hlocks hK hP hD hS dX5_tellMeaning_217
    · rw [if_neg c10] at hF
      by_cases c16 : v5 = (2 : Int32)
      · rw [if_pos c16] at hF
        refine lv_tableIn (off := 71) (tgt := 96) hx hb dX5_tellMeaning_25 (by rw [c16]; decide) (by rw [c16]; decide) (by rw [c16]; rfl) (by decide) ?_
        refine lv_aload_n hx hb dX5_tellMeaning_96 rfl (lv_at hl 2 rfl) ?_
        refine va_get (D := D) (ci := 5) (v := .ref (a 17)) (C := RX5) (T := TX5) (N := 11) hx hb hts inlX5 hown hK hP 16 gC_16 rfl 3 (by decide) (hts _ mw_72) (fun _ h9 => h9) rfl dX5_tellMeaning_97 ?_
        refine lv_iload_n hx hb dX5_tellMeaning_100 rfl (lv_at hl 1 rfl) ?_
        obtain ⟨σ17, e18, hF⟩ := Option.bind_eq_some_iff.mp hF
        refine z_callVV (w' := (wC cyI cyZ a σ17)) (As := [.int v1]) (rest := []) ⟨hx, hb, hml, hown, hts⟩ (c_X2_tellDoing l D cyI cyZ a A σ v1 σ17 e18) (cwV 1 hts (gd_V mw_484 mw_485 mw_486 mw_71 mw_487) rfl rfl rfl (by decide +kernel) ⟨Nat.le_of_ble_eq_true rfl, Nat.le_of_ble_eq_true rfl⟩) hK hN hP hD hS 2 17 rfl rfl gC_17 rfl hl.1 rfl (Nat.le_of_ble_eq_true rfl) dX5_tellMeaning_101 ⟨Nat.zero_le _, Nat.zero_le _⟩ (fun H locs hP hD hS => ?_)
        refine lv_goto (tgt := 217) hx hb dX5_tellMeaning_104 (by decide) ?_
        cases hF
        exact z_vret hx hb hr hlocks hK hP hD hS dX5_tellMeaning_217
      · rw [if_neg c16] at hF
        by_cases c19 : v5 = (3 : Int32)
        · rw [if_pos c19] at hF
          refine lv_tableIn (off := 82) (tgt := 107) hx hb dX5_tellMeaning_25 (by rw [c19]; decide) (by rw [c19]; decide) (by rw [c19]; rfl) (by decide) ?_
          refine lv_aload_n hx hb dX5_tellMeaning_107 rfl (lv_at hl 2 rfl) ?_
          refine va_get (D := D) (ci := 5) (v := .ref (a 17)) (C := RX5) (T := TX5) (N := 11) hx hb hts inlX5 hown hK hP 16 gC_16 rfl 3 (by decide) (hts _ mw_72) (fun _ h9 => h9) rfl dX5_tellMeaning_108 ?_
          refine lv_iload_n hx hb dX5_tellMeaning_111 rfl (lv_at hl 3 rfl) ?_
          refine lv_iload_n hx hb dX5_tellMeaning_112 rfl (lv_at hl 4 rfl) ?_
          refine lv_iconst (v := (0 : Int32)) hx hb dX5_tellMeaning_113 (by decide) ?_
          refine z_callSI (w' := (wC cyI cyZ a σ)) (As := [.int x1, .int x2, .int (0 : Int32)]) (rest := [.ref (a 17)]) ⟨hx, hb, hml, hown, hts⟩ (c_X5_originOf l D cyI cyZ A (wC cyI cyZ a σ) x1 x2 (0 : Int32) _ rfl) (va_cwS 3 hts (gd_S mw_488 mw_489 mw_26 mw_490) rfl rfl rfl (by decide +kernel) ⟨Nat.le_of_ble_eq_true rfl, Nat.le_of_ble_eq_true rfl⟩) hK hN hP hD hS rfl hl.1 rfl (Nat.le_of_ble_eq_true rfl) dX5_tellMeaning_114 ⟨Nat.zero_le _, Nat.zero_le _⟩ (fun H locs hP hD hS => ?_)
          refine lv_iload_n hx hb dX5_tellMeaning_117 rfl (lv_at hl 1 rfl) ?_
          refine lv_iload hx hb dX5_tellMeaning_118 (lv_at hl 0 rfl) ?_
          refine lv_iconst (v := (2 : Int32)) hx hb dX5_tellMeaning_120 (by decide) ?_
          refine lv_aload_n hx hb dX5_tellMeaning_121 rfl (lv_at hl 2 rfl) ?_
          refine va_get (D := D) (ci := 5) (v := .ref (a 6)) (C := RX5) (T := TX5) (N := 11) hx hb hts inlX5 hown hK hP 16 gC_16 rfl 1 (by decide) (hts _ mw_79) (fun _ h9 => h9) rfl dX5_tellMeaning_122 ?_
          refine lv_iload_n hx hb dX5_tellMeaning_125 rfl (lv_at hl 4 rfl) ?_
          obtain ⟨v20, e21, hF⟩ := Option.bind_eq_some_iff.mp hF
          refine z_callVI (w' := (wC cyI cyZ a σ)) (As := [.int x2]) (rest := [.int (2 : Int32), .int v3, .int v1, .int (F_X5_originOf x1 x2 (0 : Int32)), .ref (a 17)]) ⟨hx, hb, hml, hown, hts⟩ (c_X7_cAt l D cyI cyZ a A σ x2 _ e21) (cwV 1 hts (gd_V mw_491 mw_492 mw_493 mw_18 mw_494) rfl rfl rfl (by decide +kernel) ⟨Nat.le_of_ble_eq_true rfl, Nat.le_of_ble_eq_true rfl⟩) hK hN hP hD hS 7 6 rfl rfl gC_6 rfl hl.1 rfl (Nat.le_of_ble_eq_true rfl) dX5_tellMeaning_126 ⟨Nat.zero_le _, Nat.zero_le _⟩ (fun H locs hP hD hS => ?_)
          obtain ⟨σ22, e23, hF⟩ := Option.bind_eq_some_iff.mp hF
          refine z_callVV (w' := (wC cyI cyZ a σ22)) (As := [.int (F_X5_originOf x1 x2 (0 : Int32)), .int v1, .int v3, .int (2 : Int32), .int v20]) (rest := []) ⟨hx, hb, hml, hown, hts⟩ (c_X2_tellTest l D cyI cyZ a A σ (F_X5_originOf x1 x2 (0 : Int32)) v1 v3 (2 : Int32) v20 σ22 e23) (cwV 5 hts (gd_V mw_495 mw_496 mw_497 mw_71 mw_498) rfl rfl rfl (by decide +kernel) ⟨Nat.le_of_ble_eq_true rfl, Nat.le_of_ble_eq_true rfl⟩) hK hN hP hD hS 2 17 rfl rfl gC_17 rfl hl.1 rfl (Nat.le_of_ble_eq_true rfl) dX5_tellMeaning_129 ⟨Nat.zero_le _, Nat.zero_le _⟩ (fun H locs hP hD hS => ?_)
          refine lv_goto (tgt := 217) hx hb dX5_tellMeaning_132 (by decide) ?_
          cases hF
          exact z_vret hx hb hr hlocks hK hP hD hS dX5_tellMeaning_217
        · rw [if_neg c19] at hF
          by_cases c24 : v5 = (4 : Int32)
          · rw [if_pos c24] at hF
            refine lv_tableIn (off := 110) (tgt := 135) hx hb dX5_tellMeaning_25 (by rw [c24]; decide) (by rw [c24]; decide) (by rw [c24]; rfl) (by decide) ?_
            refine lv_iload_n hx hb dX5_tellMeaning_135 rfl (lv_at hl 3 rfl) ?_
            refine lv_if_le (tgt := 150) hx hb dX5_tellMeaning_136 (by decide) (fun c25 => ?_) (fun c25 => ?_)
            · rw [if_pos c25] at hF
              refine lv_iconst (v := (-1 : Int32)) hx hb dX5_tellMeaning_150 (by decide) ?_
              refine lv_istore (lv' := [(5, .int (-1 : Int32)), (4, .int v3), (3, .int v1), (0, .ref (a 16)), (1, .int x1), (2, .int x2)]) hx hb dX5_tellMeaning_151 hl (by decide) rfl (fun ls hl => ?_)
              refine lv_iload hx hb dX5_tellMeaning_153 (lv_at hl 0 rfl) ?_
              refine lv_if_lt (tgt := 217) hx hb dX5_tellMeaning_155 (by decide) (fun c26 => ?_) (fun c26 => ?_)
              · rw [if_pos c26] at hF
                cases hF
                exact z_vret hx hb hr hlocks hK hP hD hS dX5_tellMeaning_217
              · rw [if_neg c26] at hF
                refine lv_aload_n hx hb dX5_tellMeaning_158 rfl (lv_at hl 3 rfl) ?_
                refine va_get (D := D) (ci := 5) (v := .ref (a 13)) (C := RX5) (T := TX5) (N := 11) hx hb hts inlX5 hown hK hP 16 gC_16 rfl 2 (by decide) (hts _ mw_80) (fun _ h9 => h9) rfl dX5_tellMeaning_159 ?_
                refine lv_iload_n hx hb dX5_tellMeaning_162 rfl (lv_at hl 4 rfl) ?_
                refine lv_iconst (v := (1 : Int32)) hx hb dX5_tellMeaning_163 (by decide) ?_
                refine lv_iadd hx hb dX5_tellMeaning_164 ?_
                obtain ⟨v27, e28, hF⟩ := Option.bind_eq_some_iff.mp hF
                refine z_callVI (w' := (wC cyI cyZ a σ)) (As := [.int (x1 + (1 : Int32))]) (rest := []) ⟨hx, hb, hml, hown, hts⟩ (c_X3_isNumber l D cyI cyZ a A σ (x1 + (1 : Int32)) _ e28) (cwV 1 hts (gd_V mw_403 mw_404 mw_405 mw_22 mw_406) rfl rfl rfl (by decide +kernel) ⟨Nat.le_of_ble_eq_true rfl, Nat.le_of_ble_eq_true rfl⟩) hK hN hP hD hS 3 13 rfl rfl gC_13 rfl hl.1 rfl (Nat.le_of_ble_eq_true rfl) dX5_tellMeaning_165 ⟨Nat.zero_le _, Nat.zero_le _⟩ (fun H locs hP hD hS => ?_)
                refine lv_if_eq (tgt := 217) hx hb dX5_tellMeaning_168 (by decide) (fun c29 => ?_) (fun c29 => ?_)
                · rw [if_pos c29] at hF
                  cases hF
                  exact z_vret hx hb hr hlocks hK hP hD hS dX5_tellMeaning_217
                · rw [if_neg c29] at hF
                  refine lv_aload_n hx hb dX5_tellMeaning_171 rfl (lv_at hl 3 rfl) ?_
                  refine va_get (D := D) (ci := 5) (v := .ref (a 17)) (C := RX5) (T := TX5) (N := 11) hx hb hts inlX5 hown hK hP 16 gC_16 rfl 3 (by decide) (hts _ mw_72) (fun _ h9 => h9) rfl dX5_tellMeaning_172 ?_
                  refine lv_iload_n hx hb dX5_tellMeaning_175 rfl (lv_at hl 4 rfl) ?_
                  refine lv_iload_n hx hb dX5_tellMeaning_176 rfl (lv_at hl 5 rfl) ?_
                  refine lv_iload hx hb dX5_tellMeaning_177 (lv_at hl 0 rfl) ?_
                  refine z_callSI (w' := (wC cyI cyZ a σ)) (As := [.int x1, .int x2, .int (-1 : Int32)]) (rest := [.ref (a 17)]) ⟨hx, hb, hml, hown, hts⟩ (c_X5_originOf l D cyI cyZ A (wC cyI cyZ a σ) x1 x2 (-1 : Int32) _ rfl) (va_cwS 3 hts (gd_S mw_488 mw_489 mw_26 mw_490) rfl rfl rfl (by decide +kernel) ⟨Nat.le_of_ble_eq_true rfl, Nat.le_of_ble_eq_true rfl⟩) hK hN hP hD hS rfl hl.1 rfl (Nat.le_of_ble_eq_true rfl) dX5_tellMeaning_179 ⟨Nat.zero_le _, Nat.zero_le _⟩ (fun H locs hP hD hS => ?_)
                  refine lv_aload_n hx hb dX5_tellMeaning_182 rfl (lv_at hl 3 rfl) ?_
                  refine va_get (D := D) (ci := 5) (v := .ref (a 6)) (C := RX5) (T := TX5) (N := 11) hx hb hts inlX5 hown hK hP 16 gC_16 rfl 1 (by decide) (hts _ mw_79) (fun _ h9 => h9) rfl dX5_tellMeaning_183 ?_
                  refine lv_iload hx hb dX5_tellMeaning_186 (lv_at hl 0 rfl) ?_
                  obtain ⟨v30, e31, hF⟩ := Option.bind_eq_some_iff.mp hF
                  refine z_callVI (w' := (wC cyI cyZ a σ)) (As := [.int (-1 : Int32)]) (rest := [.int (F_X5_originOf x1 x2 (-1 : Int32)), .ref (a 17)]) ⟨hx, hb, hml, hown, hts⟩ (c_X7_aAt l D cyI cyZ a A σ (-1 : Int32) _ e31) (cwV 1 hts (gd_V mw_468 mw_469 mw_470 mw_18 mw_471) rfl rfl rfl (by decide +kernel) ⟨Nat.le_of_ble_eq_true rfl, Nat.le_of_ble_eq_true rfl⟩) hK hN hP hD hS 7 6 rfl rfl gC_6 rfl hl.1 rfl (Nat.le_of_ble_eq_true rfl) dX5_tellMeaning_188 ⟨Nat.zero_le _, Nat.zero_le _⟩ (fun H locs hP hD hS => ?_)
                  refine lv_aload_n hx hb dX5_tellMeaning_191 rfl (lv_at hl 3 rfl) ?_
                  refine va_get (D := D) (ci := 5) (v := .ref (a 6)) (C := RX5) (T := TX5) (N := 11) hx hb hts inlX5 hown hK hP 16 gC_16 rfl 1 (by decide) (hts _ mw_79) (fun _ h9 => h9) rfl dX5_tellMeaning_192 ?_
                  refine lv_iload hx hb dX5_tellMeaning_195 (lv_at hl 0 rfl) ?_
                  obtain ⟨v32, e33, hF⟩ := Option.bind_eq_some_iff.mp hF
                  refine z_callVI (w' := (wC cyI cyZ a σ)) (As := [.int (-1 : Int32)]) (rest := [.int v30, .int (F_X5_originOf x1 x2 (-1 : Int32)), .ref (a 17)]) ⟨hx, hb, hml, hown, hts⟩ (c_X7_bAt l D cyI cyZ a A σ (-1 : Int32) _ e33) (cwV 1 hts (gd_V mw_472 mw_473 mw_474 mw_18 mw_475) rfl rfl rfl (by decide +kernel) ⟨Nat.le_of_ble_eq_true rfl, Nat.le_of_ble_eq_true rfl⟩) hK hN hP hD hS 7 6 rfl rfl gC_6 rfl hl.1 rfl (Nat.le_of_ble_eq_true rfl) dX5_tellMeaning_197 ⟨Nat.zero_le _, Nat.zero_le _⟩ (fun H locs hP hD hS => ?_)
                  refine lv_iload_n hx hb dX5_tellMeaning_200 rfl (lv_at hl 2 rfl) ?_
                  refine lv_aload_n hx hb dX5_tellMeaning_201 rfl (lv_at hl 3 rfl) ?_
                  refine va_get (D := D) (ci := 5) (v := .ref (a 13)) (C := RX5) (T := TX5) (N := 11) hx hb hts inlX5 hown hK hP 16 gC_16 rfl 2 (by decide) (hts _ mw_80) (fun _ h9 => h9) rfl dX5_tellMeaning_202 ?_
                  refine lv_iload_n hx hb dX5_tellMeaning_205 rfl (lv_at hl 4 rfl) ?_
                  refine lv_iconst (v := (1 : Int32)) hx hb dX5_tellMeaning_206 (by decide) ?_
                  refine lv_iadd hx hb dX5_tellMeaning_207 ?_
                  obtain ⟨v34, e35, hF⟩ := Option.bind_eq_some_iff.mp hF
                  refine z_callVI (w' := (wC cyI cyZ a σ)) (As := [.int (x1 + (1 : Int32))]) (rest := [.int v1, .int v32, .int v30, .int (F_X5_originOf x1 x2 (-1 : Int32)), .ref (a 17)]) ⟨hx, hb, hml, hown, hts⟩ (c_X3_tokenAt l D cyI cyZ a A σ (x1 + (1 : Int32)) _ e35) (cwV 1 hts (gd_V mw_419 mw_420 mw_421 mw_22 mw_422) rfl rfl rfl (by decide +kernel) ⟨Nat.le_of_ble_eq_true rfl, Nat.le_of_ble_eq_true rfl⟩) hK hN hP hD hS 3 13 rfl rfl gC_13 rfl hl.1 rfl (Nat.le_of_ble_eq_true rfl) dX5_tellMeaning_208 ⟨Nat.zero_le _, Nat.zero_le _⟩ (fun H locs hP hD hS => ?_)
                  obtain ⟨σ36, e37, hF⟩ := Option.bind_eq_some_iff.mp hF
                  refine z_callVV (w' := (wC cyI cyZ a σ36)) (As := [.int (F_X5_originOf x1 x2 (-1 : Int32)), .int v30, .int v32, .int v1, .int v34]) (rest := []) ⟨hx, hb, hml, hown, hts⟩ (c_X2_tellTest l D cyI cyZ a A σ (F_X5_originOf x1 x2 (-1 : Int32)) v30 v32 v1 v34 σ36 e37) (cwV 5 hts (gd_V mw_495 mw_496 mw_497 mw_71 mw_498) rfl rfl rfl (by decide +kernel) ⟨Nat.le_of_ble_eq_true rfl, Nat.le_of_ble_eq_true rfl⟩) hK hN hP hD hS 2 17 rfl rfl gC_17 rfl hl.1 rfl (Nat.le_of_ble_eq_true rfl) dX5_tellMeaning_211 ⟨Nat.zero_le _, Nat.zero_le _⟩ (fun H locs hP hD hS => ?_)
                  refine lv_goto (tgt := 217) hx hb dX5_tellMeaning_214 (by decide) ?_
                  cases hF
                  exact z_vret hx hb hr hlocks hK hP hD hS dX5_tellMeaning_217
            · rw [if_neg c25] at hF
              refine lv_aload_n hx hb dX5_tellMeaning_139 rfl (lv_at hl 2 rfl) ?_
              refine va_get (D := D) (ci := 5) (v := .ref (a 24)) (C := RX5) (T := TX5) (N := 11) hx hb hts inlX5 hown hK hP 16 gC_16 rfl 5 (by decide) (hts _ mw_74) (fun _ h9 => h9) rfl dX5_tellMeaning_140 ?_
              refine lv_iload_n hx hb dX5_tellMeaning_143 rfl (lv_at hl 3 rfl) ?_
              refine lv_iconst (v := (1 : Int32)) hx hb dX5_tellMeaning_144 (by decide) ?_
              refine lv_isub hx hb dX5_tellMeaning_145 ?_
              obtain ⟨v38, e39, hF⟩ := Option.bind_eq_some_iff.mp hF
              refine z_ild hx hb hK hP 24 gC_24 e39 dX5_tellMeaning_146 ?_
              refine lv_goto (tgt := 151) hx hb dX5_tellMeaning_147 (by decide) ?_
              refine lv_istore (lv' := [(5, .int v38), (4, .int v3), (3, .int v1), (0, .ref (a 16)), (1, .int x1), (2, .int x2)]) hx hb dX5_tellMeaning_151 hl (by decide) rfl (fun ls hl => ?_)
              refine lv_iload hx hb dX5_tellMeaning_153 (lv_at hl 0 rfl) ?_
              refine lv_if_lt (tgt := 217) hx hb dX5_tellMeaning_155 (by decide) (fun c40 => ?_) (fun c40 => ?_)
              · rw [if_pos c40] at hF
                cases hF
                exact z_vret hx hb hr hlocks hK hP hD hS dX5_tellMeaning_217
              · rw [if_neg c40] at hF
                refine lv_aload_n hx hb dX5_tellMeaning_158 rfl (lv_at hl 3 rfl) ?_
                refine va_get (D := D) (ci := 5) (v := .ref (a 13)) (C := RX5) (T := TX5) (N := 11) hx hb hts inlX5 hown hK hP 16 gC_16 rfl 2 (by decide) (hts _ mw_80) (fun _ h9 => h9) rfl dX5_tellMeaning_159 ?_
                refine lv_iload_n hx hb dX5_tellMeaning_162 rfl (lv_at hl 4 rfl) ?_
                refine lv_iconst (v := (1 : Int32)) hx hb dX5_tellMeaning_163 (by decide) ?_
                refine lv_iadd hx hb dX5_tellMeaning_164 ?_
                obtain ⟨v41, e42, hF⟩ := Option.bind_eq_some_iff.mp hF
                refine z_callVI (w' := (wC cyI cyZ a σ)) (As := [.int (x1 + (1 : Int32))]) (rest := []) ⟨hx, hb, hml, hown, hts⟩ (c_X3_isNumber l D cyI cyZ a A σ (x1 + (1 : Int32)) _ e42) (cwV 1 hts (gd_V mw_403 mw_404 mw_405 mw_22 mw_406) rfl rfl rfl (by decide +kernel) ⟨Nat.le_of_ble_eq_true rfl, Nat.le_of_ble_eq_true rfl⟩) hK hN hP hD hS 3 13 rfl rfl gC_13 rfl hl.1 rfl (Nat.le_of_ble_eq_true rfl) dX5_tellMeaning_165 ⟨Nat.zero_le _, Nat.zero_le _⟩ (fun H locs hP hD hS => ?_)
                refine lv_if_eq (tgt := 217) hx hb dX5_tellMeaning_168 (by decide) (fun c43 => ?_) (fun c43 => ?_)
                · rw [if_pos c43] at hF
                  cases hF
                  exact z_vret hx hb hr hlocks hK hP hD hS dX5_tellMeaning_217
                · rw [if_neg c43] at hF
                  refine lv_aload_n hx hb dX5_tellMeaning_171 rfl (lv_at hl 3 rfl) ?_
                  refine va_get (D := D) (ci := 5) (v := .ref (a 17)) (C := RX5) (T := TX5) (N := 11) hx hb hts inlX5 hown hK hP 16 gC_16 rfl 3 (by decide) (hts _ mw_72) (fun _ h9 => h9) rfl dX5_tellMeaning_172 ?_
                  refine lv_iload_n hx hb dX5_tellMeaning_175 rfl (lv_at hl 4 rfl) ?_
                  refine lv_iload_n hx hb dX5_tellMeaning_176 rfl (lv_at hl 5 rfl) ?_
                  refine lv_iload hx hb dX5_tellMeaning_177 (lv_at hl 0 rfl) ?_
                  refine z_callSI (w' := (wC cyI cyZ a σ)) (As := [.int x1, .int x2, .int v38]) (rest := [.ref (a 17)]) ⟨hx, hb, hml, hown, hts⟩ (c_X5_originOf l D cyI cyZ A (wC cyI cyZ a σ) x1 x2 v38 _ rfl) (va_cwS 3 hts (gd_S mw_488 mw_489 mw_26 mw_490) rfl rfl rfl (by decide +kernel) ⟨Nat.le_of_ble_eq_true rfl, Nat.le_of_ble_eq_true rfl⟩) hK hN hP hD hS rfl hl.1 rfl (Nat.le_of_ble_eq_true rfl) dX5_tellMeaning_179 ⟨Nat.zero_le _, Nat.zero_le _⟩ (fun H locs hP hD hS => ?_)
                  refine lv_aload_n hx hb dX5_tellMeaning_182 rfl (lv_at hl 3 rfl) ?_
                  refine va_get (D := D) (ci := 5) (v := .ref (a 6)) (C := RX5) (T := TX5) (N := 11) hx hb hts inlX5 hown hK hP 16 gC_16 rfl 1 (by decide) (hts _ mw_79) (fun _ h9 => h9) rfl dX5_tellMeaning_183 ?_
                  refine lv_iload hx hb dX5_tellMeaning_186 (lv_at hl 0 rfl) ?_
                  obtain ⟨v44, e45, hF⟩ := Option.bind_eq_some_iff.mp hF
                  refine z_callVI (w' := (wC cyI cyZ a σ)) (As := [.int v38]) (rest := [.int (F_X5_originOf x1 x2 v38), .ref (a 17)]) ⟨hx, hb, hml, hown, hts⟩ (c_X7_aAt l D cyI cyZ a A σ v38 _ e45) (cwV 1 hts (gd_V mw_468 mw_469 mw_470 mw_18 mw_471) rfl rfl rfl (by decide +kernel) ⟨Nat.le_of_ble_eq_true rfl, Nat.le_of_ble_eq_true rfl⟩) hK hN hP hD hS 7 6 rfl rfl gC_6 rfl hl.1 rfl (Nat.le_of_ble_eq_true rfl) dX5_tellMeaning_188 ⟨Nat.zero_le _, Nat.zero_le _⟩ (fun H locs hP hD hS => ?_)
                  refine lv_aload_n hx hb dX5_tellMeaning_191 rfl (lv_at hl 3 rfl) ?_
                  refine va_get (D := D) (ci := 5) (v := .ref (a 6)) (C := RX5) (T := TX5) (N := 11) hx hb hts inlX5 hown hK hP 16 gC_16 rfl 1 (by decide) (hts _ mw_79) (fun _ h9 => h9) rfl dX5_tellMeaning_192 ?_
                  refine lv_iload hx hb dX5_tellMeaning_195 (lv_at hl 0 rfl) ?_
                  obtain ⟨v46, e47, hF⟩ := Option.bind_eq_some_iff.mp hF
                  refine z_callVI (w' := (wC cyI cyZ a σ)) (As := [.int v38]) (rest := [.int v44, .int (F_X5_originOf x1 x2 v38), .ref (a 17)]) ⟨hx, hb, hml, hown, hts⟩ (c_X7_bAt l D cyI cyZ a A σ v38 _ e47) (cwV 1 hts (gd_V mw_472 mw_473 mw_474 mw_18 mw_475) rfl rfl rfl (by decide +kernel) ⟨Nat.le_of_ble_eq_true rfl, Nat.le_of_ble_eq_true rfl⟩) hK hN hP hD hS 7 6 rfl rfl gC_6 rfl hl.1 rfl (Nat.le_of_ble_eq_true rfl) dX5_tellMeaning_197 ⟨Nat.zero_le _, Nat.zero_le _⟩ (fun H locs hP hD hS => ?_)
                  refine lv_iload_n hx hb dX5_tellMeaning_200 rfl (lv_at hl 2 rfl) ?_
                  refine lv_aload_n hx hb dX5_tellMeaning_201 rfl (lv_at hl 3 rfl) ?_
                  refine va_get (D := D) (ci := 5) (v := .ref (a 13)) (C := RX5) (T := TX5) (N := 11) hx hb hts inlX5 hown hK hP 16 gC_16 rfl 2 (by decide) (hts _ mw_80) (fun _ h9 => h9) rfl dX5_tellMeaning_202 ?_
                  refine lv_iload_n hx hb dX5_tellMeaning_205 rfl (lv_at hl 4 rfl) ?_
                  refine lv_iconst (v := (1 : Int32)) hx hb dX5_tellMeaning_206 (by decide) ?_
                  refine lv_iadd hx hb dX5_tellMeaning_207 ?_
                  obtain ⟨v48, e49, hF⟩ := Option.bind_eq_some_iff.mp hF
                  refine z_callVI (w' := (wC cyI cyZ a σ)) (As := [.int (x1 + (1 : Int32))]) (rest := [.int v1, .int v46, .int v44, .int (F_X5_originOf x1 x2 v38), .ref (a 17)]) ⟨hx, hb, hml, hown, hts⟩ (c_X3_tokenAt l D cyI cyZ a A σ (x1 + (1 : Int32)) _ e49) (cwV 1 hts (gd_V mw_419 mw_420 mw_421 mw_22 mw_422) rfl rfl rfl (by decide +kernel) ⟨Nat.le_of_ble_eq_true rfl, Nat.le_of_ble_eq_true rfl⟩) hK hN hP hD hS 3 13 rfl rfl gC_13 rfl hl.1 rfl (Nat.le_of_ble_eq_true rfl) dX5_tellMeaning_208 ⟨Nat.zero_le _, Nat.zero_le _⟩ (fun H locs hP hD hS => ?_)
                  obtain ⟨σ50, e51, hF⟩ := Option.bind_eq_some_iff.mp hF
                  refine z_callVV (w' := (wC cyI cyZ a σ50)) (As := [.int (F_X5_originOf x1 x2 v38), .int v44, .int v46, .int v1, .int v48]) (rest := []) ⟨hx, hb, hml, hown, hts⟩ (c_X2_tellTest l D cyI cyZ a A σ (F_X5_originOf x1 x2 v38) v44 v46 v1 v48 σ50 e51) (cwV 5 hts (gd_V mw_495 mw_496 mw_497 mw_71 mw_498) rfl rfl rfl (by decide +kernel) ⟨Nat.le_of_ble_eq_true rfl, Nat.le_of_ble_eq_true rfl⟩) hK hN hP hD hS 2 17 rfl rfl gC_17 rfl hl.1 rfl (Nat.le_of_ble_eq_true rfl) dX5_tellMeaning_211 ⟨Nat.zero_le _, Nat.zero_le _⟩ (fun H locs hP hD hS => ?_)
                  refine lv_goto (tgt := 217) hx hb dX5_tellMeaning_214 (by decide) ?_
                  cases hF
                  exact z_vret hx hb hr hlocks hK hP hD hS dX5_tellMeaning_217
          · rw [if_neg c24] at hF
            refine lv_tableOut (tgt := 217) hx hb dX5_tellMeaning_25 (z_notin5 c7 c10 c16 c19 c24) (by decide) ?_
            cases hF
            exact z_vret hx hb hr hlocks hK hP hD hS dX5_tellMeaning_217
abbrev ts_X2_end : List Cond := .code yX2_end cX2_end 1 none :: wsL_law
set_option maxHeartbeats 4000000 in
set_option maxRecDepth 100000 in
theorem c_X2_end (l : Launch) (D : va_G) (cyI cyZ : ClassId) (a : Nat → Nat) (A : Nat → Prop) (σ : Mem) (σ' : Mem) (hF : F_X2_end σ  = some σ') : CtV l yX2_end ts_X2_end ({ frames := 0, cells := 0, slots := 0, locals := 0 } : Room) [.ref (a 17)] D cyI cyZ A (wC cyI cyZ a σ) (wC cyI cyZ a σ') := by
  refine CtV.of (cc := cX2_end) (maxL := 1) (ret := none) (by decide) rfl (Nat.le_of_ble_eq_true rfl) ?_
  intro p e s m below meth c ls hC hP hD hl
  obtain ⟨hx, hb, hr, hml, hown, hts, hK, hN, hlocks⟩ := hC
  have hown : s.vm.findClass RX2 = some m.cls := hown
  have hS : va_S A s.heap s.heap [] := va_S.rf
  have hl : lv_has ls 1 [(0, .ref (a 17))] := hl
  unfold F_X2_end at hF
  refine lv_aload_n hx hb dX2_end_0 rfl (lv_at hl 0 rfl) ?_
  refine va_get (D := D) (ci := 2) (v := .int (σ 17 2)) (C := RX2) (T := TX2) (N := 13) hx hb hts inlX2 hown hK hP 17 gC_17 rfl 2 (by decide) (hts _ mw_458) (fun _ h9 => h9) rfl dX2_end_1 ?_
  refine lv_if_ne (tgt := 15) hx hb dX2_end_4 (by decide) (fun c1 => ?_) (fun c1 => ?_)
  · rw [if_neg c1] at hF
    cases hF
    exact z_vret hx hb hr hlocks hK hP hD hS dX2_end_15
  · rw [if_pos c1] at hF
    refine lv_aload_n hx hb dX2_end_7 rfl (lv_at hl 0 rfl) ?_
    refine lv_aload_n hx hb dX2_end_8 rfl (lv_at hl 0 rfl) ?_
    refine va_get (D := D) (ci := 2) (v := .int (σ 17 6)) (C := RX2) (T := TX2) (N := 13) hx hb hts inlX2 hown hK hP 17 gC_17 rfl 6 (by decide) (hts _ mw_462) (fun _ h9 => h9) rfl dX2_end_9 ?_
    obtain ⟨σ2, e3, hF⟩ := Option.bind_eq_some_iff.mp hF
    refine va_put (D := D) (ci := 2) (v := .int (σ 17 6)) (ty := .int) (C := RX2) (T := TX2) (N := 13) hx hb hts inlX2 tyX2 tyX2_ok nmX2 hown hK hP hD hS 17 gC_17 rfl 3 (by decide) (hts _ mw_459) (fun _ h9 => h9) rfl (by decide +kernel) rfl rfl (Nat.le_of_ble_eq_true rfl) dX2_end_12 (fun H locs hP hD hS => ?_)
    rw [sC_17_3, Option.some.inj e3] at hP hD
    cases hF
    exact z_vret hx hb hr hlocks hK hP hD hS dX2_end_15
