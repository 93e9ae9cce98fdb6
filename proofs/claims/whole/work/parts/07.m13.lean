-- X9_reads
abbrev ts_X9_reads : List Cond := .code yX9_reads cX9_reads 6 (some .boolean) :: wsL_law
def SH_X9_reads (a : Nat → Nat) (ls : Array Slot) (pc : Nat) (vs : List Int32) : Prop := (pc = 0 ∧ vs = [] ∧ lv_has ls 6 [(0, .ref (a 0))]) ∨ (pc = 29 ∧ ∃ x1 x2 : Int32, vs = [x1, x2] ∧ lv_has ls 6 [(0, .ref (a 0)), (1, .int x1), (2, .int x2)]) ∨ (pc = 108 ∧ ∃ x1 x2 x3 x4 : Int32, vs = [x1, x2, x3, x4] ∧ lv_has ls 6 [(0, .ref (a 0)), (1, .int x1), (2, .int x2), (3, .int x3), (4, .int x4)]) ∨ (pc = 136 ∧ ∃ x1 x2 x3 : Int32, vs = [x1, x2, x3] ∧ lv_has ls 6 [(0, .ref (a 0)), (1, .int x1), (2, .int x2), (3, .int x3)]) ∨ (pc = 187 ∧ ∃ x1 x2 x3 : Int32, vs = [x1, x2, x3] ∧ lv_has ls 6 [(0, .ref (a 0)), (1, .int x1), (2, .int x2), (3, .int x3)]) ∨ (pc = 220 ∧ ∃ x1 x2 x3 : Int32, vs = [x1, x2, x3] ∧ lv_has ls 6 [(0, .ref (a 0)), (1, .int x1), (2, .int x2), (3, .int x3)]) ∨ (pc = 248 ∧ ∃ x1 x2 x3 : Int32, vs = [x1, x2, x3] ∧ lv_has ls 6 [(0, .ref (a 0)), (1, .int x1), (2, .int x2), (3, .int x3)]) ∨ (pc = 277 ∧ ∃ x1 x2 x3 : Int32, vs = [x1, x2, x3] ∧ lv_has ls 6 [(0, .ref (a 0)), (1, .int x1), (2, .int x2), (3, .int x3)]) ∨ (pc = 324 ∧ ∃ x1 x2 : Int32, vs = [x1, x2] ∧ lv_has ls 6 [(0, .ref (a 0)), (1, .int x1), (2, .int x2)]) ∨ (pc = 349 ∧ ∃ x1 : Int32, vs = [x1] ∧ lv_has ls 6 [(0, .ref (a 0)), (1, .int x1)]) ∨ (pc = 368 ∧ ∃ x1 : Int32, vs = [x1] ∧ lv_has ls 6 [(0, .ref (a 0)), (1, .int x1)]) ∨ (pc = 419 ∧ vs = [] ∧ lv_has ls 6 [(0, .ref (a 0))]) ∨ (pc = 423 ∧ ∃ x2 x3 : Int32, vs = [x2, x3] ∧ lv_has ls 6 [(0, .ref (a 0)), (2, .int x2), (3, .int x3)])
section
variable {p : Program} {l : Launch} {e : Env} {s : State} {m : MethodId} {args : Array Value} {below : List Frame} {meth : Method} {c : Code} {D : va_G} {A : Nat → Prop} {a : Nat → Nat} {cyI cyZ : ClassId} {r : Int32} {σ' : Mem} {q : Mem × List Int32}
set_option maxHeartbeats 4000000 in
set_option maxRecDepth 100000 in
theorem wl_X9_reads_0 (σ : Mem) (hC : CX p c cX9_reads meth (some .boolean) s m args yX9_reads.cls 6 D cyI cyZ) (hq : extM q = some (r, σ')) (n : Nat) (ih : ∀ (pc : Nat) (x : Mem) (vs : List Int32) (ls : Array Slot) (H : Heap) (locs : List Loc), goL B_X9_reads n pc x vs = some q → SH_X9_reads a ls pc vs → va_P D vwCl (wM cyI cyZ a x) H → va_D A (wM cyI cyZ a x) → va_S A s.heap H locs → W p l e (headSpec ts_X9_reads ({ frames := 2, cells := 0, slots := 0, locals := 44 } : Room)).room s m args below meth c H locs 0 0 (MQ below (QcI D cyI cyZ A (wM cyI cyZ a σ') r) args s 0 0 A) (F0 m pc ls [])) (ls : Array Slot) (H : Heap) (locs : List Loc) (hgo : goL B_X9_reads (n + 1) 0 σ [] = some q) (hl : lv_has ls 6 [(0, .ref (a 0))]) (hP : va_P D vwCl (wM cyI cyZ a σ) H) (hD : va_D A (wM cyI cyZ a σ)) (hS : va_S A s.heap H locs) : W p l e (headSpec ts_X9_reads ({ frames := 2, cells := 0, slots := 0, locals := 44 } : Room)).room s m args below meth c H locs 0 0 (MQ below (QcI D cyI cyZ A (wM cyI cyZ a σ') r) args s 0 0 A) (F0 m 0 ls []) := by
  obtain ⟨hx, hb, hr, hml, hown, hts, hK, hN, hlocks⟩ := hC
  have hown : s.vm.findClass RX9 = some m.cls := hown
  obtain ⟨yy, hF, hgo⟩ := goL_step (by decide) hgo
  have hF : B_X9_reads_0 σ  = some yy := hF
  unfold B_X9_reads_0 at hF
  refine lv_aload_n hx hb dX9_reads_0 rfl (lv_at hl 0 rfl) ?_
  refine lv_iconst (v := (-1 : Int32)) hx hb dX9_reads_1 (by decide) ?_
  obtain ⟨σ1, e2, hF⟩ := Option.bind_eq_some_iff.mp hF
  refine va_put (D := D) (ci := 9) (v := .int (-1 : Int32)) (ty := .int) (C := RX9) (T := TX9) (N := 34) hx hb hts inlX9 tyX9 tyX9_ok nmX9 hown hK hP hD hS 0 gM_0 rfl 24 (by decide) (hts _ mw_542) (fun _ h9 => h9) rfl (by decide +kernel) rfl rfl (Nat.le_of_ble_eq_true rfl) dX9_reads_2 (fun H locs hP hD hS => ?_)
  rw [sM_0_24, Option.some.inj e2] at hP hD
  refine lv_aload_n hx hb dX9_reads_5 rfl (lv_at hl 0 rfl) ?_
  refine lv_iconst (v := (-1 : Int32)) hx hb dX9_reads_6 (by decide) ?_
  obtain ⟨σ3, e4, hF⟩ := Option.bind_eq_some_iff.mp hF
  refine va_put (D := D) (ci := 9) (v := .int (-1 : Int32)) (ty := .int) (C := RX9) (T := TX9) (N := 34) hx hb hts inlX9 tyX9 tyX9_ok nmX9 hown hK hP hD hS 0 gM_0 rfl 25 (by decide) (hts _ mw_543) (fun _ h9 => h9) rfl (by decide +kernel) rfl rfl (Nat.le_of_ble_eq_true rfl) dX9_reads_7 (fun H locs hP hD hS => ?_)
  rw [sM_0_25, Option.some.inj e4] at hP hD
  refine lv_aload_n hx hb dX9_reads_10 rfl (lv_at hl 0 rfl) ?_
  refine lv_iconst (v := (-1 : Int32)) hx hb dX9_reads_11 (by decide) ?_
  obtain ⟨σ5, e6, hF⟩ := Option.bind_eq_some_iff.mp hF
  refine va_put (D := D) (ci := 9) (v := .int (-1 : Int32)) (ty := .int) (C := RX9) (T := TX9) (N := 34) hx hb hts inlX9 tyX9 tyX9_ok nmX9 hown hK hP hD hS 0 gM_0 rfl 26 (by decide) (hts _ mw_544) (fun _ h9 => h9) rfl (by decide +kernel) rfl rfl (Nat.le_of_ble_eq_true rfl) dX9_reads_12 (fun H locs hP hD hS => ?_)
  rw [sM_0_26, Option.some.inj e6] at hP hD
  refine lv_iconst (v := (-1 : Int32)) hx hb dX9_reads_15 (by decide) ?_
  refine lv_istore_n (lv' := [(1, .int (-1 : Int32)), (0, .ref (a 0))]) hx hb dX9_reads_16 rfl hl (by decide) rfl (fun ls hl => ?_)
  refine lv_aload_n hx hb dX9_reads_17 rfl (lv_at hl 1 rfl) ?_
  refine lv_iconst (v := (0 : Int32)) hx hb dX9_reads_18 (by decide) ?_
  obtain ⟨σ7, e8, hF⟩ := Option.bind_eq_some_iff.mp hF
  refine va_put (D := D) (ci := 9) (v := .int (0 : Int32)) (ty := .int) (C := RX9) (T := TX9) (N := 34) hx hb hts inlX9 tyX9 tyX9_ok nmX9 hown hK hP hD hS 0 gM_0 rfl 27 (by decide) (hts _ mw_533) (fun _ h9 => h9) rfl (by decide +kernel) rfl rfl (Nat.le_of_ble_eq_true rfl) dX9_reads_19 (fun H locs hP hD hS => ?_)
  rw [sM_0_27, Option.some.inj e8] at hP hD
  refine lv_aload_n hx hb dX9_reads_22 rfl (lv_at hl 1 rfl) ?_
  refine lv_iconst (v := (0 : Int32)) hx hb dX9_reads_23 (by decide) ?_
  obtain ⟨σ9, e10, hF⟩ := Option.bind_eq_some_iff.mp hF
  refine va_put (D := D) (ci := 9) (v := .int (0 : Int32)) (ty := .int) (C := RX9) (T := TX9) (N := 34) hx hb hts inlX9 tyX9 tyX9_ok nmX9 hown hK hP hD hS 0 gM_0 rfl 32 (by decide) (hts _ mw_545) (fun _ h9 => h9) rfl (by decide +kernel) rfl rfl (Nat.le_of_ble_eq_true rfl) dX9_reads_24 (fun H locs hP hD hS => ?_)
  rw [sM_0_32, Option.some.inj e10] at hP hD
  refine lv_iconst (v := (0 : Int32)) hx hb dX9_reads_27 (by decide) ?_
  refine lv_istore_n (lv' := [(2, .int (0 : Int32)), (1, .int (-1 : Int32)), (0, .ref (a 0))]) hx hb dX9_reads_28 rfl hl (by decide) rfl (fun ls hl => ?_)
  cases hF
  exact ih _ _ _ _ _ _ hgo (Or.inr (Or.inl ⟨rfl, _, _, rfl, lv_sub hl [2, 1, 0] rfl⟩)) hP hD hS
set_option maxHeartbeats 4000000 in
set_option maxRecDepth 100000 in
theorem wl_X9_reads_29 (σ : Mem) (hC : CX p c cX9_reads meth (some .boolean) s m args yX9_reads.cls 6 D cyI cyZ) (hq : extM q = some (r, σ')) (n : Nat) (ih : ∀ (pc : Nat) (x : Mem) (vs : List Int32) (ls : Array Slot) (H : Heap) (locs : List Loc), goL B_X9_reads n pc x vs = some q → SH_X9_reads a ls pc vs → va_P D vwCl (wM cyI cyZ a x) H → va_D A (wM cyI cyZ a x) → va_S A s.heap H locs → W p l e (headSpec ts_X9_reads ({ frames := 2, cells := 0, slots := 0, locals := 44 } : Room)).room s m args below meth c H locs 0 0 (MQ below (QcI D cyI cyZ A (wM cyI cyZ a σ') r) args s 0 0 A) (F0 m pc ls [])) (x1 : Int32) (x2 : Int32) (ls : Array Slot) (H : Heap) (locs : List Loc) (hgo : goL B_X9_reads (n + 1) 29 σ [x1, x2] = some q) (hl : lv_has ls 6 [(0, .ref (a 0)), (1, .int x1), (2, .int x2)]) (hP : va_P D vwCl (wM cyI cyZ a σ) H) (hD : va_D A (wM cyI cyZ a σ)) (hS : va_S A s.heap H locs) : W p l e (headSpec ts_X9_reads ({ frames := 2, cells := 0, slots := 0, locals := 44 } : Room)).room s m args below meth c H locs 0 0 (MQ below (QcI D cyI cyZ A (wM cyI cyZ a σ') r) args s 0 0 A) (F0 m 29 ls []) := by
  obtain ⟨hx, hb, hr, hml, hown, hts, hK, hN, hlocks⟩ := hC
  have hown : s.vm.findClass RX9 = some m.cls := hown
  obtain ⟨yy, hF, hgo⟩ := goL_step (by decide) hgo
  have hF : B_X9_reads_29 σ x1 x2 = some yy := hF
  unfold B_X9_reads_29 at hF
  refine lv_iload_n hx hb dX9_reads_29 rfl (lv_at hl 2 rfl) ?_
  refine lv_aload_n hx hb dX9_reads_30 rfl (lv_at hl 0 rfl) ?_
  refine va_get (D := D) (ci := 9) (v := .int (σ 0 13)) (C := RX9) (T := TX9) (N := 34) hx hb hts inlX9 hown hK hP 0 gM_0 rfl 13 (by decide) (hts _ mw_360) (fun _ h9 => h9) rfl dX9_reads_31 ?_
  refine lv_icmp_ge (tgt := 330) hx hb dX9_reads_34 (by decide) (fun c1 => ?_) (fun c1 => ?_)
  · rw [if_pos c1] at hF
    refine lv_aload_n hx hb dX9_reads_330 rfl (lv_at hl 0 rfl) ?_
    refine lv_aload_n hx hb dX9_reads_331 rfl (lv_at hl 0 rfl) ?_
    refine va_get (D := D) (ci := 9) (v := .int (σ 0 24)) (C := RX9) (T := TX9) (N := 34) hx hb hts inlX9 hown hK hP 0 gM_0 rfl 24 (by decide) (hts _ mw_542) (fun _ h9 => h9) rfl dX9_reads_332 ?_
    refine lv_if_ge (tgt := 342) hx hb dX9_reads_335 (by decide) (fun c2 => ?_) (fun c2 => ?_)
    · rw [if_pos c2] at hF
      refine lv_aload_n hx hb dX9_reads_342 rfl (lv_at hl 0 rfl) ?_
      refine va_get (D := D) (ci := 9) (v := .int (σ 0 24)) (C := RX9) (T := TX9) (N := 34) hx hb hts inlX9 hown hK hP 0 gM_0 rfl 24 (by decide) (hts _ mw_542) (fun _ h9 => h9) rfl dX9_reads_343 ?_
      obtain ⟨σ3, e4, hF⟩ := Option.bind_eq_some_iff.mp hF
      refine va_put (D := D) (ci := 9) (v := .int (σ 0 24)) (ty := .int) (C := RX9) (T := TX9) (N := 34) hx hb hts inlX9 tyX9 tyX9_ok nmX9 hown hK hP hD hS 0 gM_0 rfl 24 (by decide) (hts _ mw_542) (fun _ h9 => h9) rfl (by decide +kernel) rfl rfl (Nat.le_of_ble_eq_true rfl) dX9_reads_346 (fun H locs hP hD hS => ?_)
      rw [sM_0_24, Option.some.inj e4] at hP hD
      cases hF
      exact ih _ _ _ _ _ _ hgo (Or.inr (Or.inr (Or.inr (Or.inr (Or.inr (Or.inr (Or.inr (Or.inr (Or.inr (Or.inl ⟨rfl, _, rfl, lv_sub hl [0, 1] rfl⟩)))))))))) hP hD hS
    · rw [if_neg c2] at hF
      refine lv_iconst (v := (0 : Int32)) hx hb dX9_reads_338 (by decide) ?_
      refine lv_goto (tgt := 346) hx hb dX9_reads_339 (by decide) ?_
      obtain ⟨σ5, e6, hF⟩ := Option.bind_eq_some_iff.mp hF
      refine va_put (D := D) (ci := 9) (v := .int (0 : Int32)) (ty := .int) (C := RX9) (T := TX9) (N := 34) hx hb hts inlX9 tyX9 tyX9_ok nmX9 hown hK hP hD hS 0 gM_0 rfl 24 (by decide) (hts _ mw_542) (fun _ h9 => h9) rfl (by decide +kernel) rfl rfl (Nat.le_of_ble_eq_true rfl) dX9_reads_346 (fun H locs hP hD hS => ?_)
      rw [sM_0_24, Option.some.inj e6] at hP hD
      cases hF
      exact ih _ _ _ _ _ _ hgo (Or.inr (Or.inr (Or.inr (Or.inr (Or.inr (Or.inr (Or.inr (Or.inr (Or.inr (Or.inl ⟨rfl, _, rfl, lv_sub hl [0, 1] rfl⟩)))))))))) hP hD hS
  · rw [if_neg c1] at hF
    refine lv_aload_n hx hb dX9_reads_37 rfl (lv_at hl 0 rfl) ?_
    refine va_get (D := D) (ci := 9) (v := .ref (a 12)) (C := RX9) (T := TX9) (N := 34) hx hb hts inlX9 hown hK hP 0 gM_0 rfl 12 (by decide) (hts _ mw_128) (fun _ h9 => h9) rfl dX9_reads_38 ?_
    refine lv_iload_n hx hb dX9_reads_41 rfl (lv_at hl 2 rfl) ?_
    obtain ⟨v7, e8, hF⟩ := Option.bind_eq_some_iff.mp hF
    refine z_zld hx hb hK hP 12 gM_12 e8 dX9_reads_42 ?_
    refine lv_if_eq (tgt := 59) hx hb dX9_reads_43 (by decide) (fun c9 => ?_) (fun c9 => ?_)
    · rw [if_pos c9] at hF
      refine lv_aload_n hx hb dX9_reads_59 rfl (lv_at hl 0 rfl) ?_
      refine lv_iload_n hx hb dX9_reads_60 rfl (lv_at hl 2 rfl) ?_
      obtain ⟨v10, e11, hF⟩ := Option.bind_eq_some_iff.mp hF
      refine z_callVI (w' := (wM cyI cyZ a σ)) (As := [.int x2]) (rest := []) ⟨hx, hb, hml, hown, hts⟩ (c_X9_at l D cyI cyZ a A σ x2 _ e11) (cwV 1 hts (gd_V mw_550 mw_551 mw_552 mw_5 mw_553) rfl rfl rfl (by decide +kernel) ⟨Nat.le_of_ble_eq_true rfl, Nat.le_of_ble_eq_true rfl⟩) hK hN hP hD hS 9 0 rfl rfl gM_0 rfl hl.1 rfl (Nat.le_of_ble_eq_true rfl) dX9_reads_61 ⟨Nat.zero_le _, Nat.zero_le _⟩ (fun H locs hP hD hS => ?_)
      refine lv_istore_n (lv' := [(3, .int v10), (0, .ref (a 0)), (1, .int x1), (2, .int x2)]) hx hb dX9_reads_64 rfl hl (by decide) rfl (fun ls hl => ?_)
      refine lv_aload_n hx hb dX9_reads_65 rfl (lv_at hl 1 rfl) ?_
      refine lv_dup hx hb dX9_reads_66 rfl ?_
      refine va_get (D := D) (ci := 9) (v := .int (σ 0 27)) (C := RX9) (T := TX9) (N := 34) hx hb hts inlX9 hown hK hP 0 gM_0 rfl 27 (by decide) (hts _ mw_533) (fun _ h9 => h9) rfl dX9_reads_67 ?_
      refine lv_aload_n hx hb dX9_reads_70 rfl (lv_at hl 1 rfl) ?_
      refine va_get (D := D) (ci := 9) (v := .ref (a 10)) (C := RX9) (T := TX9) (N := 34) hx hb hts inlX9 hown hK hP 0 gM_0 rfl 10 (by decide) (hts _ mw_126) (fun _ h9 => h9) rfl dX9_reads_71 ?_
      refine lv_iload_n hx hb dX9_reads_74 rfl (lv_at hl 0 rfl) ?_
      obtain ⟨v12, e13, hF⟩ := Option.bind_eq_some_iff.mp hF
      refine z_ild hx hb hK hP 10 gM_10 e13 dX9_reads_75 ?_
      refine lv_iadd hx hb dX9_reads_76 ?_
      obtain ⟨σ14, e15, hF⟩ := Option.bind_eq_some_iff.mp hF
      refine va_put (D := D) (ci := 9) (v := .int ((σ 0 27) + v12)) (ty := .int) (C := RX9) (T := TX9) (N := 34) hx hb hts inlX9 tyX9 tyX9_ok nmX9 hown hK hP hD hS 0 gM_0 rfl 27 (by decide) (hts _ mw_533) (fun _ h9 => h9) rfl (by decide +kernel) rfl rfl (Nat.le_of_ble_eq_true rfl) dX9_reads_77 (fun H locs hP hD hS => ?_)
      rw [sM_0_27, Option.some.inj e15] at hP hD
      refine lv_iload_n hx hb dX9_reads_80 rfl (lv_at hl 3 rfl) ?_
      refine lv_iconst (v := (1 : Int32)) hx hb dX9_reads_81 (by decide) ?_
      refine lv_iadd hx hb dX9_reads_82 ?_
      refine lv_aload_n hx hb dX9_reads_83 rfl (lv_at hl 1 rfl) ?_
      refine va_get (D := D) (ci := 9) (v := .int (σ14 0 13)) (C := RX9) (T := TX9) (N := 34) hx hb hts inlX9 hown hK hP 0 gM_0 rfl 13 (by decide) (hts _ mw_360) (fun _ h9 => h9) rfl dX9_reads_84 ?_
      refine lv_icmp_ge (tgt := 105) hx hb dX9_reads_87 (by decide) (fun c16 => ?_) (fun c16 => ?_)
      · rw [if_pos c16] at hF
        refine lv_iconst (v := (0 : Int32)) hx hb dX9_reads_105 (by decide) ?_
        refine lv_istore (lv' := [(4, .int (0 : Int32)), (3, .int v10), (0, .ref (a 0)), (1, .int x1), (2, .int x2)]) hx hb dX9_reads_106 hl (by decide) rfl (fun ls hl => ?_)
        cases hF
        exact ih _ _ _ _ _ _ hgo (Or.inr (Or.inr (Or.inl ⟨rfl, _, _, _, _, rfl, lv_sub hl [2, 3, 4, 1, 0] rfl⟩))) hP hD hS
      · rw [if_neg c16] at hF
        refine lv_aload_n hx hb dX9_reads_90 rfl (lv_at hl 1 rfl) ?_
        refine va_get (D := D) (ci := 9) (v := .ref (a 12)) (C := RX9) (T := TX9) (N := 34) hx hb hts inlX9 hown hK hP 0 gM_0 rfl 12 (by decide) (hts _ mw_128) (fun _ h9 => h9) rfl dX9_reads_91 ?_
        refine lv_iload_n hx hb dX9_reads_94 rfl (lv_at hl 3 rfl) ?_
        refine lv_iconst (v := (1 : Int32)) hx hb dX9_reads_95 (by decide) ?_
        refine lv_iadd hx hb dX9_reads_96 ?_
        obtain ⟨v17, e18, hF⟩ := Option.bind_eq_some_iff.mp hF
        refine z_zld hx hb hK hP 12 gM_12 e18 dX9_reads_97 ?_
        refine lv_if_eq (tgt := 105) hx hb dX9_reads_98 (by decide) (fun c19 => ?_) (fun c19 => ?_)
        · rw [if_pos c19] at hF
          refine lv_iconst (v := (0 : Int32)) hx hb dX9_reads_105 (by decide) ?_
          refine lv_istore (lv' := [(4, .int (0 : Int32)), (3, .int v10), (0, .ref (a 0)), (1, .int x1), (2, .int x2)]) hx hb dX9_reads_106 hl (by decide) rfl (fun ls hl => ?_)
          cases hF
          exact ih _ _ _ _ _ _ hgo (Or.inr (Or.inr (Or.inl ⟨rfl, _, _, _, _, rfl, lv_sub hl [2, 3, 4, 1, 0] rfl⟩))) hP hD hS
        · rw [if_neg c19] at hF
          refine lv_iconst (v := (1 : Int32)) hx hb dX9_reads_101 (by decide) ?_
          refine lv_goto (tgt := 106) hx hb dX9_reads_102 (by decide) ?_
          refine lv_istore (lv' := [(4, .int (1 : Int32)), (3, .int v10), (0, .ref (a 0)), (1, .int x1), (2, .int x2)]) hx hb dX9_reads_106 hl (by decide) rfl (fun ls hl => ?_)
          cases hF
          exact ih _ _ _ _ _ _ hgo (Or.inr (Or.inr (Or.inl ⟨rfl, _, _, _, _, rfl, lv_sub hl [2, 3, 4, 1, 0] rfl⟩))) hP hD hS
    · rw [if_neg c9] at hF
      refine lv_aload_n hx hb dX9_reads_46 rfl (lv_at hl 0 rfl) ?_
      refine lv_iload_n hx hb dX9_reads_47 rfl (lv_at hl 2 rfl) ?_
      refine lv_iconst (v := (1 : Int32)) hx hb dX9_reads_48 (by decide) ?_
      refine lv_isub hx hb dX9_reads_49 ?_
      refine lv_iconst (v := (4 : Int32)) hx hb dX9_reads_50 (by decide) ?_
      obtain ⟨v20, e21, hF⟩ := Option.bind_eq_some_iff.mp hF
      refine z_callVI (w' := (wM cyI cyZ a σ)) (As := [.int (x2 - (1 : Int32)), .int (4 : Int32)]) (rest := []) ⟨hx, hb, hml, hown, hts⟩ (c_X9_is l D cyI cyZ a A σ (x2 - (1 : Int32)) (4 : Int32) _ e21) (cwV 2 hts (gd_V mw_546 mw_547 mw_548 mw_5 mw_549) rfl rfl rfl (by decide +kernel) ⟨Nat.le_of_ble_eq_true rfl, Nat.le_of_ble_eq_true rfl⟩) hK hN hP hD hS 9 0 rfl rfl gM_0 rfl hl.1 rfl (Nat.le_of_ble_eq_true rfl) dX9_reads_51 ⟨Nat.zero_le _, Nat.zero_le _⟩ (fun H locs hP hD hS => ?_)
      refine lv_if_ne (tgt := 324) hx hb dX9_reads_54 (by decide) (fun c22 => ?_) (fun c22 => ?_)
      · rw [if_neg c22] at hF
        cases hF
        exact ih _ _ _ _ _ _ hgo (Or.inr (Or.inr (Or.inr (Or.inr (Or.inr (Or.inr (Or.inr (Or.inr (Or.inl ⟨rfl, _, _, rfl, lv_sub hl [0, 1, 2] rfl⟩))))))))) hP hD hS
      · rw [if_pos c22] at hF
        refine lv_iconst (v := (0 : Int32)) hx hb dX9_reads_57 (by decide) ?_
        cases hF
        obtain ⟨rfl, rfl⟩ := extM_ret hq (goL_ret hgo)
        exact z_zret hx hb hr hlocks hK hP hD hS rfl dX9_reads_58
set_option maxHeartbeats 4000000 in
set_option maxRecDepth 100000 in
theorem wl_X9_reads_108 (σ : Mem) (hC : CX p c cX9_reads meth (some .boolean) s m args yX9_reads.cls 6 D cyI cyZ) (hq : extM q = some (r, σ')) (n : Nat) (ih : ∀ (pc : Nat) (x : Mem) (vs : List Int32) (ls : Array Slot) (H : Heap) (locs : List Loc), goL B_X9_reads n pc x vs = some q → SH_X9_reads a ls pc vs → va_P D vwCl (wM cyI cyZ a x) H → va_D A (wM cyI cyZ a x) → va_S A s.heap H locs → W p l e (headSpec ts_X9_reads ({ frames := 2, cells := 0, slots := 0, locals := 44 } : Room)).room s m args below meth c H locs 0 0 (MQ below (QcI D cyI cyZ A (wM cyI cyZ a σ') r) args s 0 0 A) (F0 m pc ls [])) (x1 : Int32) (x2 : Int32) (x3 : Int32) (x4 : Int32) (ls : Array Slot) (H : Heap) (locs : List Loc) (hgo : goL B_X9_reads (n + 1) 108 σ [x1, x2, x3, x4] = some q) (hl : lv_has ls 6 [(0, .ref (a 0)), (1, .int x1), (2, .int x2), (3, .int x3), (4, .int x4)]) (hP : va_P D vwCl (wM cyI cyZ a σ) H) (hD : va_D A (wM cyI cyZ a σ)) (hS : va_S A s.heap H locs) : W p l e (headSpec ts_X9_reads ({ frames := 2, cells := 0, slots := 0, locals := 44 } : Room)).room s m args below meth c H locs 0 0 (MQ below (QcI D cyI cyZ A (wM cyI cyZ a σ') r) args s 0 0 A) (F0 m 108 ls []) := by
  obtain ⟨hx, hb, hr, hml, hown, hts, hK, hN, hlocks⟩ := hC
  have hown : s.vm.findClass RX9 = some m.cls := hown
  obtain ⟨yy, hF, hgo⟩ := goL_step (by decide) hgo
  have hF : B_X9_reads_108 σ x1 x2 x3 x4 = some yy := hF
  unfold B_X9_reads_108 at hF
  refine lv_aload_n hx hb dX9_reads_108 rfl (lv_at hl 0 rfl) ?_
  refine va_get (D := D) (ci := 9) (v := .ref (a 6)) (C := RX9) (T := TX9) (N := 34) hx hb hts inlX9 hown hK hP 0 gM_0 rfl 6 (by decide) (hts _ mw_122) (fun _ h9 => h9) rfl dX9_reads_109 ?_
  refine lv_iload_n hx hb dX9_reads_112 rfl (lv_at hl 3 rfl) ?_
  obtain ⟨v1, e2, hF⟩ := Option.bind_eq_some_iff.mp hF
  refine z_ild hx hb hK hP 6 gM_6 e2 dX9_reads_113 ?_
  refine lv_iconst (v := (4 : Int32)) hx hb dX9_reads_114 (by decide) ?_
  refine lv_icmp_ne (tgt := 136) hx hb dX9_reads_115 (by decide) (fun c3 => ?_) (fun c3 => ?_)
  · rw [if_neg c3] at hF
    cases hF
    exact ih _ _ _ _ _ _ hgo (Or.inr (Or.inr (Or.inr (Or.inl ⟨rfl, _, _, _, rfl, lv_sub hl [0, 1, 2, 3] rfl⟩)))) hP hD hS
  · rw [if_pos c3] at hF
    refine lv_aload_n hx hb dX9_reads_118 rfl (lv_at hl 0 rfl) ?_
    refine lv_iload_n hx hb dX9_reads_119 rfl (lv_at hl 2 rfl) ?_
    refine lv_iconst (v := (1 : Int32)) hx hb dX9_reads_120 (by decide) ?_
    refine lv_isub hx hb dX9_reads_121 ?_
    refine lv_iconst (v := (1 : Int32)) hx hb dX9_reads_122 (by decide) ?_
    obtain ⟨v4, e5, hF⟩ := Option.bind_eq_some_iff.mp hF
    refine z_callVI (w' := (wM cyI cyZ a σ)) (As := [.int (x2 - (1 : Int32)), .int (1 : Int32)]) (rest := []) ⟨hx, hb, hml, hown, hts⟩ (c_X9_is l D cyI cyZ a A σ (x2 - (1 : Int32)) (1 : Int32) _ e5) (cwV 2 hts (gd_V mw_546 mw_547 mw_548 mw_5 mw_549) rfl rfl rfl (by decide +kernel) ⟨Nat.le_of_ble_eq_true rfl, Nat.le_of_ble_eq_true rfl⟩) hK hN hP hD hS 9 0 rfl rfl gM_0 rfl hl.1 rfl (Nat.le_of_ble_eq_true rfl) dX9_reads_123 ⟨Nat.zero_le _, Nat.zero_le _⟩ (fun H locs hP hD hS => ?_)
    refine lv_if_eq (tgt := 134) hx hb dX9_reads_126 (by decide) (fun c6 => ?_) (fun c6 => ?_)
    · rw [if_pos c6] at hF
      refine lv_iconst (v := (0 : Int32)) hx hb dX9_reads_134 (by decide) ?_
      cases hF
      obtain ⟨rfl, rfl⟩ := extM_ret hq (goL_ret hgo)
      exact z_zret hx hb hr hlocks hK hP hD hS rfl dX9_reads_135
    · rw [if_neg c6] at hF
      refine lv_iload hx hb dX9_reads_129 (lv_at hl 4 rfl) ?_
      refine lv_if_ne (tgt := 136) hx hb dX9_reads_131 (by decide) (fun c7 => ?_) (fun c7 => ?_)
      · rw [if_neg c7] at hF
        cases hF
        exact ih _ _ _ _ _ _ hgo (Or.inr (Or.inr (Or.inr (Or.inl ⟨rfl, _, _, _, rfl, lv_sub hl [0, 1, 2, 3] rfl⟩)))) hP hD hS
      · rw [if_pos c7] at hF
        refine lv_iconst (v := (0 : Int32)) hx hb dX9_reads_134 (by decide) ?_
        cases hF
        obtain ⟨rfl, rfl⟩ := extM_ret hq (goL_ret hgo)
        exact z_zret hx hb hr hlocks hK hP hD hS rfl dX9_reads_135
set_option maxHeartbeats 4000000 in
set_option maxRecDepth 100000 in
theorem wl_X9_reads_136 (σ : Mem) (hC : CX p c cX9_reads meth (some .boolean) s m args yX9_reads.cls 6 D cyI cyZ) (hq : extM q = some (r, σ')) (n : Nat) (ih : ∀ (pc : Nat) (x : Mem) (vs : List Int32) (ls : Array Slot) (H : Heap) (locs : List Loc), goL B_X9_reads n pc x vs = some q → SH_X9_reads a ls pc vs → va_P D vwCl (wM cyI cyZ a x) H → va_D A (wM cyI cyZ a x) → va_S A s.heap H locs → W p l e (headSpec ts_X9_reads ({ frames := 2, cells := 0, slots := 0, locals := 44 } : Room)).room s m args below meth c H locs 0 0 (MQ below (QcI D cyI cyZ A (wM cyI cyZ a σ') r) args s 0 0 A) (F0 m pc ls [])) (x1 : Int32) (x2 : Int32) (x3 : Int32) (ls : Array Slot) (H : Heap) (locs : List Loc) (hgo : goL B_X9_reads (n + 1) 136 σ [x1, x2, x3] = some q) (hl : lv_has ls 6 [(0, .ref (a 0)), (1, .int x1), (2, .int x2), (3, .int x3)]) (hP : va_P D vwCl (wM cyI cyZ a σ) H) (hD : va_D A (wM cyI cyZ a σ)) (hS : va_S A s.heap H locs) : W p l e (headSpec ts_X9_reads ({ frames := 2, cells := 0, slots := 0, locals := 44 } : Room)).room s m args below meth c H locs 0 0 (MQ below (QcI D cyI cyZ A (wM cyI cyZ a σ') r) args s 0 0 A) (F0 m 136 ls []) := by
  obtain ⟨hx, hb, hr, hml, hown, hts, hK, hN, hlocks⟩ := hC
  have hown : s.vm.findClass RX9 = some m.cls := hown
  obtain ⟨yy, hF, hgo⟩ := goL_step (by decide) hgo
  have hF : B_X9_reads_136 σ x1 x2 x3 = some yy := hF
  unfold B_X9_reads_136 at hF
  refine lv_aload_n hx hb dX9_reads_136 rfl (lv_at hl 0 rfl) ?_
  refine va_get (D := D) (ci := 9) (v := .ref (a 6)) (C := RX9) (T := TX9) (N := 34) hx hb hts inlX9 hown hK hP 0 gM_0 rfl 6 (by decide) (hts _ mw_122) (fun _ h9 => h9) rfl dX9_reads_137 ?_
  refine lv_iload_n hx hb dX9_reads_140 rfl (lv_at hl 3 rfl) ?_
  obtain ⟨v1, e2, hF⟩ := Option.bind_eq_some_iff.mp hF
  refine z_ild hx hb hK hP 6 gM_6 e2 dX9_reads_141 ?_
  refine lv_iconst (v := (4 : Int32)) hx hb dX9_reads_142 (by decide) ?_
  refine lv_icmp_ne (tgt := 187) hx hb dX9_reads_143 (by decide) (fun c3 => ?_) (fun c3 => ?_)
  · rw [if_neg c3] at hF
    cases hF
    exact ih _ _ _ _ _ _ hgo (Or.inr (Or.inr (Or.inr (Or.inr (Or.inl ⟨rfl, _, _, _, rfl, lv_sub hl [0, 1, 2, 3] rfl⟩))))) hP hD hS
  · rw [if_pos c3] at hF
    refine lv_aload_n hx hb dX9_reads_146 rfl (lv_at hl 0 rfl) ?_
    refine lv_iload_n hx hb dX9_reads_147 rfl (lv_at hl 2 rfl) ?_
    refine lv_iconst (v := (1 : Int32)) hx hb dX9_reads_148 (by decide) ?_
    refine lv_isub hx hb dX9_reads_149 ?_
    obtain ⟨v4, e5, hF⟩ := Option.bind_eq_some_iff.mp hF
    refine z_callVI (w' := (wM cyI cyZ a σ)) (As := [.int (x2 - (1 : Int32))]) (rest := []) ⟨hx, hb, hml, hown, hts⟩ (c_X9_at l D cyI cyZ a A σ (x2 - (1 : Int32)) _ e5) (cwV 1 hts (gd_V mw_550 mw_551 mw_552 mw_5 mw_553) rfl rfl rfl (by decide +kernel) ⟨Nat.le_of_ble_eq_true rfl, Nat.le_of_ble_eq_true rfl⟩) hK hN hP hD hS 9 0 rfl rfl gM_0 rfl hl.1 rfl (Nat.le_of_ble_eq_true rfl) dX9_reads_150 ⟨Nat.zero_le _, Nat.zero_le _⟩ (fun H locs hP hD hS => ?_)
    refine lv_istore (lv' := [(5, .int v4), (0, .ref (a 0)), (1, .int x1), (2, .int x2), (3, .int x3)]) hx hb dX9_reads_153 hl (by decide) rfl (fun ls hl => ?_)
    refine lv_aload_n hx hb dX9_reads_155 rfl (lv_at hl 1 rfl) ?_
    refine lv_aload_n hx hb dX9_reads_156 rfl (lv_at hl 1 rfl) ?_
    refine va_get (D := D) (ci := 9) (v := .ref (a 7)) (C := RX9) (T := TX9) (N := 34) hx hb hts inlX9 hown hK hP 0 gM_0 rfl 7 (by decide) (hts _ mw_123) (fun _ h9 => h9) rfl dX9_reads_157 ?_
    refine lv_iload hx hb dX9_reads_160 (lv_at hl 0 rfl) ?_
    obtain ⟨v6, e7, hF⟩ := Option.bind_eq_some_iff.mp hF
    refine z_ild hx hb hK hP 7 gM_7 e7 dX9_reads_162 ?_
    refine lv_aload_n hx hb dX9_reads_163 rfl (lv_at hl 1 rfl) ?_
    refine va_get (D := D) (ci := 9) (v := .ref (a 8)) (C := RX9) (T := TX9) (N := 34) hx hb hts inlX9 hown hK hP 0 gM_0 rfl 8 (by decide) (hts _ mw_124) (fun _ h9 => h9) rfl dX9_reads_164 ?_
    refine lv_iload hx hb dX9_reads_167 (lv_at hl 0 rfl) ?_
    obtain ⟨v8, e9, hF⟩ := Option.bind_eq_some_iff.mp hF
    refine z_ild hx hb hK hP 8 gM_8 e9 dX9_reads_169 ?_
    refine lv_aload_n hx hb dX9_reads_170 rfl (lv_at hl 1 rfl) ?_
    refine va_get (D := D) (ci := 9) (v := .ref (a 7)) (C := RX9) (T := TX9) (N := 34) hx hb hts inlX9 hown hK hP 0 gM_0 rfl 7 (by decide) (hts _ mw_123) (fun _ h9 => h9) rfl dX9_reads_171 ?_
    refine lv_iload_n hx hb dX9_reads_174 rfl (lv_at hl 4 rfl) ?_
    obtain ⟨v10, e11, hF⟩ := Option.bind_eq_some_iff.mp hF
    refine z_ild hx hb hK hP 7 gM_7 e11 dX9_reads_175 ?_
    refine lv_aload_n hx hb dX9_reads_176 rfl (lv_at hl 1 rfl) ?_
    refine va_get (D := D) (ci := 9) (v := .ref (a 11)) (C := RX9) (T := TX9) (N := 34) hx hb hts inlX9 hown hK hP 0 gM_0 rfl 11 (by decide) (hts _ mw_127) (fun _ h9 => h9) rfl dX9_reads_177 ?_
    refine lv_iload_n hx hb dX9_reads_180 rfl (lv_at hl 3 rfl) ?_
    refine lv_iconst (v := (1 : Int32)) hx hb dX9_reads_181 (by decide) ?_
    refine lv_iadd hx hb dX9_reads_182 ?_
    obtain ⟨v12, e13, hF⟩ := Option.bind_eq_some_iff.mp hF
    refine z_ild hx hb hK hP 11 gM_11 e13 dX9_reads_183 ?_
    obtain ⟨σ14, e15, hF⟩ := Option.bind_eq_some_iff.mp hF
    refine z_callVV (w' := (wM cyI cyZ a σ14)) (As := [.int v6, .int v8, .int v10, .int v12]) (rest := []) ⟨hx, hb, hml, hown, hts⟩ (c_X9_addTest l D cyI cyZ a A σ v6 v8 v10 v12 σ14 e15) (cwV 4 hts (gd_V mw_554 mw_555 mw_556 mw_5 mw_557) rfl rfl rfl (by decide +kernel) ⟨Nat.le_of_ble_eq_true rfl, Nat.le_of_ble_eq_true rfl⟩) hK hN hP hD hS 9 0 rfl rfl gM_0 rfl hl.1 rfl (Nat.le_of_ble_eq_true rfl) dX9_reads_184 ⟨Nat.zero_le _, Nat.zero_le _⟩ (fun H locs hP hD hS => ?_)
    cases hF
    exact ih _ _ _ _ _ _ hgo (Or.inr (Or.inr (Or.inr (Or.inr (Or.inl ⟨rfl, _, _, _, rfl, lv_sub hl [1, 2, 3, 4] rfl⟩))))) hP hD hS
set_option maxHeartbeats 4000000 in
set_option maxRecDepth 100000 in
theorem wl_X9_reads_187 (σ : Mem) (hC : CX p c cX9_reads meth (some .boolean) s m args yX9_reads.cls 6 D cyI cyZ) (hq : extM q = some (r, σ')) (n : Nat) (ih : ∀ (pc : Nat) (x : Mem) (vs : List Int32) (ls : Array Slot) (H : Heap) (locs : List Loc), goL B_X9_reads n pc x vs = some q → SH_X9_reads a ls pc vs → va_P D vwCl (wM cyI cyZ a x) H → va_D A (wM cyI cyZ a x) → va_S A s.heap H locs → W p l e (headSpec ts_X9_reads ({ frames := 2, cells := 0, slots := 0, locals := 44 } : Room)).room s m args below meth c H locs 0 0 (MQ below (QcI D cyI cyZ A (wM cyI cyZ a σ') r) args s 0 0 A) (F0 m pc ls [])) (x1 : Int32) (x2 : Int32) (x3 : Int32) (ls : Array Slot) (H : Heap) (locs : List Loc) (hgo : goL B_X9_reads (n + 1) 187 σ [x1, x2, x3] = some q) (hl : lv_has ls 6 [(0, .ref (a 0)), (1, .int x1), (2, .int x2), (3, .int x3)]) (hP : va_P D vwCl (wM cyI cyZ a σ) H) (hD : va_D A (wM cyI cyZ a σ)) (hS : va_S A s.heap H locs) : W p l e (headSpec ts_X9_reads ({ frames := 2, cells := 0, slots := 0, locals := 44 } : Room)).room s m args below meth c H locs 0 0 (MQ below (QcI D cyI cyZ A (wM cyI cyZ a σ') r) args s 0 0 A) (F0 m 187 ls []) := by
  obtain ⟨hx, hb, hr, hml, hown, hts, hK, hN, hlocks⟩ := hC
  have hown : s.vm.findClass RX9 = some m.cls := hown
  obtain ⟨yy, hF, hgo⟩ := goL_step (by decide) hgo
  have hF : B_X9_reads_187 σ x1 x2 x3 = some yy := hF
  unfold B_X9_reads_187 at hF
  refine lv_aload_n hx hb dX9_reads_187 rfl (lv_at hl 0 rfl) ?_
  refine va_get (D := D) (ci := 9) (v := .ref (a 6)) (C := RX9) (T := TX9) (N := 34) hx hb hts inlX9 hown hK hP 0 gM_0 rfl 6 (by decide) (hts _ mw_122) (fun _ h9 => h9) rfl dX9_reads_188 ?_
  refine lv_iload_n hx hb dX9_reads_191 rfl (lv_at hl 3 rfl) ?_
  obtain ⟨v1, e2, hF⟩ := Option.bind_eq_some_iff.mp hF
  refine z_ild hx hb hK hP 6 gM_6 e2 dX9_reads_192 ?_
  refine lv_iconst (v := (3 : Int32)) hx hb dX9_reads_193 (by decide) ?_
  refine lv_icmp_ne (tgt := 220) hx hb dX9_reads_194 (by decide) (fun c3 => ?_) (fun c3 => ?_)
  · rw [if_neg c3] at hF
    cases hF
    exact ih _ _ _ _ _ _ hgo (Or.inr (Or.inr (Or.inr (Or.inr (Or.inr (Or.inl ⟨rfl, _, _, _, rfl, lv_sub hl [0, 1, 2, 3] rfl⟩)))))) hP hD hS
  · rw [if_pos c3] at hF
    refine lv_aload_n hx hb dX9_reads_197 rfl (lv_at hl 0 rfl) ?_
    refine lv_aload_n hx hb dX9_reads_198 rfl (lv_at hl 0 rfl) ?_
    refine va_get (D := D) (ci := 9) (v := .ref (a 7)) (C := RX9) (T := TX9) (N := 34) hx hb hts inlX9 hown hK hP 0 gM_0 rfl 7 (by decide) (hts _ mw_123) (fun _ h9 => h9) rfl dX9_reads_199 ?_
    refine lv_iload_n hx hb dX9_reads_202 rfl (lv_at hl 3 rfl) ?_
    obtain ⟨v4, e5, hF⟩ := Option.bind_eq_some_iff.mp hF
    refine z_ild hx hb hK hP 7 gM_7 e5 dX9_reads_203 ?_
    refine lv_aload_n hx hb dX9_reads_204 rfl (lv_at hl 0 rfl) ?_
    refine va_get (D := D) (ci := 9) (v := .ref (a 8)) (C := RX9) (T := TX9) (N := 34) hx hb hts inlX9 hown hK hP 0 gM_0 rfl 8 (by decide) (hts _ mw_124) (fun _ h9 => h9) rfl dX9_reads_205 ?_
    refine lv_iload_n hx hb dX9_reads_208 rfl (lv_at hl 3 rfl) ?_
    obtain ⟨v6, e7, hF⟩ := Option.bind_eq_some_iff.mp hF
    refine z_ild hx hb hK hP 8 gM_8 e7 dX9_reads_209 ?_
    refine lv_iconst (v := (2 : Int32)) hx hb dX9_reads_210 (by decide) ?_
    refine lv_aload_n hx hb dX9_reads_211 rfl (lv_at hl 0 rfl) ?_
    refine va_get (D := D) (ci := 9) (v := .ref (a 9)) (C := RX9) (T := TX9) (N := 34) hx hb hts inlX9 hown hK hP 0 gM_0 rfl 9 (by decide) (hts _ mw_125) (fun _ h9 => h9) rfl dX9_reads_212 ?_
    refine lv_iload_n hx hb dX9_reads_215 rfl (lv_at hl 3 rfl) ?_
    obtain ⟨v8, e9, hF⟩ := Option.bind_eq_some_iff.mp hF
    refine z_ild hx hb hK hP 9 gM_9 e9 dX9_reads_216 ?_
    obtain ⟨σ10, e11, hF⟩ := Option.bind_eq_some_iff.mp hF
    refine z_callVV (w' := (wM cyI cyZ a σ10)) (As := [.int v4, .int v6, .int (2 : Int32), .int v8]) (rest := []) ⟨hx, hb, hml, hown, hts⟩ (c_X9_addTest l D cyI cyZ a A σ v4 v6 (2 : Int32) v8 σ10 e11) (cwV 4 hts (gd_V mw_554 mw_555 mw_556 mw_5 mw_557) rfl rfl rfl (by decide +kernel) ⟨Nat.le_of_ble_eq_true rfl, Nat.le_of_ble_eq_true rfl⟩) hK hN hP hD hS 9 0 rfl rfl gM_0 rfl hl.1 rfl (Nat.le_of_ble_eq_true rfl) dX9_reads_217 ⟨Nat.zero_le _, Nat.zero_le _⟩ (fun H locs hP hD hS => ?_)
    cases hF
    exact ih _ _ _ _ _ _ hgo (Or.inr (Or.inr (Or.inr (Or.inr (Or.inr (Or.inl ⟨rfl, _, _, _, rfl, lv_sub hl [0, 1, 2, 3] rfl⟩)))))) hP hD hS
set_option maxHeartbeats 4000000 in
set_option maxRecDepth 100000 in
theorem wl_X9_reads_220 (σ : Mem) (hC : CX p c cX9_reads meth (some .boolean) s m args yX9_reads.cls 6 D cyI cyZ) (hq : extM q = some (r, σ')) (n : Nat) (ih : ∀ (pc : Nat) (x : Mem) (vs : List Int32) (ls : Array Slot) (H : Heap) (locs : List Loc), goL B_X9_reads n pc x vs = some q → SH_X9_reads a ls pc vs → va_P D vwCl (wM cyI cyZ a x) H → va_D A (wM cyI cyZ a x) → va_S A s.heap H locs → W p l e (headSpec ts_X9_reads ({ frames := 2, cells := 0, slots := 0, locals := 44 } : Room)).room s m args below meth c H locs 0 0 (MQ below (QcI D cyI cyZ A (wM cyI cyZ a σ') r) args s 0 0 A) (F0 m pc ls [])) (x1 : Int32) (x2 : Int32) (x3 : Int32) (ls : Array Slot) (H : Heap) (locs : List Loc) (hgo : goL B_X9_reads (n + 1) 220 σ [x1, x2, x3] = some q) (hl : lv_has ls 6 [(0, .ref (a 0)), (1, .int x1), (2, .int x2), (3, .int x3)]) (hP : va_P D vwCl (wM cyI cyZ a σ) H) (hD : va_D A (wM cyI cyZ a σ)) (hS : va_S A s.heap H locs) : W p l e (headSpec ts_X9_reads ({ frames := 2, cells := 0, slots := 0, locals := 44 } : Room)).room s m args below meth c H locs 0 0 (MQ below (QcI D cyI cyZ A (wM cyI cyZ a σ') r) args s 0 0 A) (F0 m 220 ls []) := by
  obtain ⟨hx, hb, hr, hml, hown, hts, hK, hN, hlocks⟩ := hC
  have hown : s.vm.findClass RX9 = some m.cls := hown
  obtain ⟨yy, hF, hgo⟩ := goL_step (by decide) hgo
  have hF : B_X9_reads_220 σ x1 x2 x3 = some yy := hF
  unfold B_X9_reads_220 at hF
  refine lv_aload_n hx hb dX9_reads_220 rfl (lv_at hl 0 rfl) ?_
  refine va_get (D := D) (ci := 9) (v := .ref (a 6)) (C := RX9) (T := TX9) (N := 34) hx hb hts inlX9 hown hK hP 0 gM_0 rfl 6 (by decide) (hts _ mw_122) (fun _ h9 => h9) rfl dX9_reads_221 ?_
  refine lv_iload_n hx hb dX9_reads_224 rfl (lv_at hl 3 rfl) ?_
  obtain ⟨v1, e2, hF⟩ := Option.bind_eq_some_iff.mp hF
  refine z_ild hx hb hK hP 6 gM_6 e2 dX9_reads_225 ?_
  refine lv_if_ne (tgt := 248) hx hb dX9_reads_226 (by decide) (fun c3 => ?_) (fun c3 => ?_)
  · rw [if_neg c3] at hF
    cases hF
    exact ih _ _ _ _ _ _ hgo (Or.inr (Or.inr (Or.inr (Or.inr (Or.inr (Or.inr (Or.inl ⟨rfl, _, _, _, rfl, lv_sub hl [0, 1, 2, 3] rfl⟩))))))) hP hD hS
  · rw [if_pos c3] at hF
    refine lv_aload_n hx hb dX9_reads_229 rfl (lv_at hl 0 rfl) ?_
    refine va_get (D := D) (ci := 9) (v := .int (σ 0 25)) (C := RX9) (T := TX9) (N := 34) hx hb hts inlX9 hown hK hP 0 gM_0 rfl 25 (by decide) (hts _ mw_543) (fun _ h9 => h9) rfl dX9_reads_230 ?_
    refine lv_if_lt (tgt := 238) hx hb dX9_reads_233 (by decide) (fun c4 => ?_) (fun c4 => ?_)
    · rw [if_pos c4] at hF
      refine lv_aload_n hx hb dX9_reads_238 rfl (lv_at hl 0 rfl) ?_
      refine lv_aload_n hx hb dX9_reads_239 rfl (lv_at hl 0 rfl) ?_
      refine va_get (D := D) (ci := 9) (v := .ref (a 7)) (C := RX9) (T := TX9) (N := 34) hx hb hts inlX9 hown hK hP 0 gM_0 rfl 7 (by decide) (hts _ mw_123) (fun _ h9 => h9) rfl dX9_reads_240 ?_
      refine lv_iload_n hx hb dX9_reads_243 rfl (lv_at hl 3 rfl) ?_
      obtain ⟨v5, e6, hF⟩ := Option.bind_eq_some_iff.mp hF
      refine z_ild hx hb hK hP 7 gM_7 e6 dX9_reads_244 ?_
      obtain ⟨σ7, e8, hF⟩ := Option.bind_eq_some_iff.mp hF
      refine va_put (D := D) (ci := 9) (v := .int v5) (ty := .int) (C := RX9) (T := TX9) (N := 34) hx hb hts inlX9 tyX9 tyX9_ok nmX9 hown hK hP hD hS 0 gM_0 rfl 25 (by decide) (hts _ mw_543) (fun _ h9 => h9) rfl (by decide +kernel) rfl rfl (Nat.le_of_ble_eq_true rfl) dX9_reads_245 (fun H locs hP hD hS => ?_)
      rw [sM_0_25, Option.some.inj e8] at hP hD
      cases hF
      exact ih _ _ _ _ _ _ hgo (Or.inr (Or.inr (Or.inr (Or.inr (Or.inr (Or.inr (Or.inl ⟨rfl, _, _, _, rfl, lv_sub hl [0, 1, 2, 3] rfl⟩))))))) hP hD hS
    · rw [if_neg c4] at hF
      refine lv_iconst (v := (0 : Int32)) hx hb dX9_reads_236 (by decide) ?_
      cases hF
      obtain ⟨rfl, rfl⟩ := extM_ret hq (goL_ret hgo)
      exact z_zret hx hb hr hlocks hK hP hD hS rfl dX9_reads_237
set_option maxHeartbeats 4000000 in
set_option maxRecDepth 100000 in
theorem wl_X9_reads_248 (σ : Mem) (hC : CX p c cX9_reads meth (some .boolean) s m args yX9_reads.cls 6 D cyI cyZ) (hq : extM q = some (r, σ')) (n : Nat) (ih : ∀ (pc : Nat) (x : Mem) (vs : List Int32) (ls : Array Slot) (H : Heap) (locs : List Loc), goL B_X9_reads n pc x vs = some q → SH_X9_reads a ls pc vs → va_P D vwCl (wM cyI cyZ a x) H → va_D A (wM cyI cyZ a x) → va_S A s.heap H locs → W p l e (headSpec ts_X9_reads ({ frames := 2, cells := 0, slots := 0, locals := 44 } : Room)).room s m args below meth c H locs 0 0 (MQ below (QcI D cyI cyZ A (wM cyI cyZ a σ') r) args s 0 0 A) (F0 m pc ls [])) (x1 : Int32) (x2 : Int32) (x3 : Int32) (ls : Array Slot) (H : Heap) (locs : List Loc) (hgo : goL B_X9_reads (n + 1) 248 σ [x1, x2, x3] = some q) (hl : lv_has ls 6 [(0, .ref (a 0)), (1, .int x1), (2, .int x2), (3, .int x3)]) (hP : va_P D vwCl (wM cyI cyZ a σ) H) (hD : va_D A (wM cyI cyZ a σ)) (hS : va_S A s.heap H locs) : W p l e (headSpec ts_X9_reads ({ frames := 2, cells := 0, slots := 0, locals := 44 } : Room)).room s m args below meth c H locs 0 0 (MQ below (QcI D cyI cyZ A (wM cyI cyZ a σ') r) args s 0 0 A) (F0 m 248 ls []) := by
  obtain ⟨hx, hb, hr, hml, hown, hts, hK, hN, hlocks⟩ := hC
  have hown : s.vm.findClass RX9 = some m.cls := hown
  obtain ⟨yy, hF, hgo⟩ := goL_step (by decide) hgo
  have hF : B_X9_reads_248 σ x1 x2 x3 = some yy := hF
  unfold B_X9_reads_248 at hF
  refine lv_aload_n hx hb dX9_reads_248 rfl (lv_at hl 0 rfl) ?_
  refine va_get (D := D) (ci := 9) (v := .ref (a 6)) (C := RX9) (T := TX9) (N := 34) hx hb hts inlX9 hown hK hP 0 gM_0 rfl 6 (by decide) (hts _ mw_122) (fun _ h9 => h9) rfl dX9_reads_249 ?_
  refine lv_iload_n hx hb dX9_reads_252 rfl (lv_at hl 3 rfl) ?_
  obtain ⟨v1, e2, hF⟩ := Option.bind_eq_some_iff.mp hF
  refine z_ild hx hb hK hP 6 gM_6 e2 dX9_reads_253 ?_
  refine lv_iconst (v := (2 : Int32)) hx hb dX9_reads_254 (by decide) ?_
  refine lv_icmp_ne (tgt := 277) hx hb dX9_reads_255 (by decide) (fun c3 => ?_) (fun c3 => ?_)
  · rw [if_neg c3] at hF
    cases hF
    exact ih _ _ _ _ _ _ hgo (Or.inr (Or.inr (Or.inr (Or.inr (Or.inr (Or.inr (Or.inr (Or.inl ⟨rfl, _, _, _, rfl, lv_sub hl [0, 1, 2, 3] rfl⟩)))))))) hP hD hS
  · rw [if_pos c3] at hF
    refine lv_aload_n hx hb dX9_reads_258 rfl (lv_at hl 0 rfl) ?_
    refine va_get (D := D) (ci := 9) (v := .int (σ 0 24)) (C := RX9) (T := TX9) (N := 34) hx hb hts inlX9 hown hK hP 0 gM_0 rfl 24 (by decide) (hts _ mw_542) (fun _ h9 => h9) rfl dX9_reads_259 ?_
    refine lv_if_lt (tgt := 267) hx hb dX9_reads_262 (by decide) (fun c4 => ?_) (fun c4 => ?_)
    · rw [if_pos c4] at hF
      refine lv_aload_n hx hb dX9_reads_267 rfl (lv_at hl 0 rfl) ?_
      refine lv_aload_n hx hb dX9_reads_268 rfl (lv_at hl 0 rfl) ?_
      refine va_get (D := D) (ci := 9) (v := .ref (a 7)) (C := RX9) (T := TX9) (N := 34) hx hb hts inlX9 hown hK hP 0 gM_0 rfl 7 (by decide) (hts _ mw_123) (fun _ h9 => h9) rfl dX9_reads_269 ?_
      refine lv_iload_n hx hb dX9_reads_272 rfl (lv_at hl 3 rfl) ?_
      obtain ⟨v5, e6, hF⟩ := Option.bind_eq_some_iff.mp hF
      refine z_ild hx hb hK hP 7 gM_7 e6 dX9_reads_273 ?_
      obtain ⟨σ7, e8, hF⟩ := Option.bind_eq_some_iff.mp hF
      refine va_put (D := D) (ci := 9) (v := .int v5) (ty := .int) (C := RX9) (T := TX9) (N := 34) hx hb hts inlX9 tyX9 tyX9_ok nmX9 hown hK hP hD hS 0 gM_0 rfl 24 (by decide) (hts _ mw_542) (fun _ h9 => h9) rfl (by decide +kernel) rfl rfl (Nat.le_of_ble_eq_true rfl) dX9_reads_274 (fun H locs hP hD hS => ?_)
      rw [sM_0_24, Option.some.inj e8] at hP hD
      cases hF
      exact ih _ _ _ _ _ _ hgo (Or.inr (Or.inr (Or.inr (Or.inr (Or.inr (Or.inr (Or.inr (Or.inl ⟨rfl, _, _, _, rfl, lv_sub hl [0, 1, 2, 3] rfl⟩)))))))) hP hD hS
    · rw [if_neg c4] at hF
      refine lv_iconst (v := (0 : Int32)) hx hb dX9_reads_265 (by decide) ?_
      cases hF
      obtain ⟨rfl, rfl⟩ := extM_ret hq (goL_ret hgo)
      exact z_zret hx hb hr hlocks hK hP hD hS rfl dX9_reads_266
set_option maxHeartbeats 4000000 in
set_option maxRecDepth 100000 in
theorem wl_X9_reads_277 (σ : Mem) (hC : CX p c cX9_reads meth (some .boolean) s m args yX9_reads.cls 6 D cyI cyZ) (hq : extM q = some (r, σ')) (n : Nat) (ih : ∀ (pc : Nat) (x : Mem) (vs : List Int32) (ls : Array Slot) (H : Heap) (locs : List Loc), goL B_X9_reads n pc x vs = some q → SH_X9_reads a ls pc vs → va_P D vwCl (wM cyI cyZ a x) H → va_D A (wM cyI cyZ a x) → va_S A s.heap H locs → W p l e (headSpec ts_X9_reads ({ frames := 2, cells := 0, slots := 0, locals := 44 } : Room)).room s m args below meth c H locs 0 0 (MQ below (QcI D cyI cyZ A (wM cyI cyZ a σ') r) args s 0 0 A) (F0 m pc ls [])) (x1 : Int32) (x2 : Int32) (x3 : Int32) (ls : Array Slot) (H : Heap) (locs : List Loc) (hgo : goL B_X9_reads (n + 1) 277 σ [x1, x2, x3] = some q) (hl : lv_has ls 6 [(0, .ref (a 0)), (1, .int x1), (2, .int x2), (3, .int x3)]) (hP : va_P D vwCl (wM cyI cyZ a σ) H) (hD : va_D A (wM cyI cyZ a σ)) (hS : va_S A s.heap H locs) : W p l e (headSpec ts_X9_reads ({ frames := 2, cells := 0, slots := 0, locals := 44 } : Room)).room s m args below meth c H locs 0 0 (MQ below (QcI D cyI cyZ A (wM cyI cyZ a σ') r) args s 0 0 A) (F0 m 277 ls []) := by
  obtain ⟨hx, hb, hr, hml, hown, hts, hK, hN, hlocks⟩ := hC
  have hown : s.vm.findClass RX9 = some m.cls := hown
  obtain ⟨yy, hF, hgo⟩ := goL_step (by decide) hgo
  have hF : B_X9_reads_277 σ x1 x2 x3 = some yy := hF
  unfold B_X9_reads_277 at hF
  refine lv_aload_n hx hb dX9_reads_277 rfl (lv_at hl 0 rfl) ?_
  refine va_get (D := D) (ci := 9) (v := .ref (a 6)) (C := RX9) (T := TX9) (N := 34) hx hb hts inlX9 hown hK hP 0 gM_0 rfl 6 (by decide) (hts _ mw_122) (fun _ h9 => h9) rfl dX9_reads_278 ?_
  refine lv_iload_n hx hb dX9_reads_281 rfl (lv_at hl 3 rfl) ?_
  obtain ⟨v1, e2, hF⟩ := Option.bind_eq_some_iff.mp hF
  refine z_ild hx hb hK hP 6 gM_6 e2 dX9_reads_282 ?_
  refine lv_iconst (v := (1 : Int32)) hx hb dX9_reads_283 (by decide) ?_
  refine lv_icmp_ne (tgt := 324) hx hb dX9_reads_284 (by decide) (fun c3 => ?_) (fun c3 => ?_)
  · rw [if_neg c3] at hF
    cases hF
    exact ih _ _ _ _ _ _ hgo (Or.inr (Or.inr (Or.inr (Or.inr (Or.inr (Or.inr (Or.inr (Or.inr (Or.inl ⟨rfl, _, _, rfl, lv_sub hl [0, 1, 2] rfl⟩))))))))) hP hD hS
  · rw [if_pos c3] at hF
    refine lv_aload_n hx hb dX9_reads_287 rfl (lv_at hl 0 rfl) ?_
    refine lv_iload_n hx hb dX9_reads_288 rfl (lv_at hl 2 rfl) ?_
    refine lv_iconst (v := (1 : Int32)) hx hb dX9_reads_289 (by decide) ?_
    refine lv_iadd hx hb dX9_reads_290 ?_
    refine lv_iconst (v := (4 : Int32)) hx hb dX9_reads_291 (by decide) ?_
    obtain ⟨v4, e5, hF⟩ := Option.bind_eq_some_iff.mp hF
    refine z_callVI (w' := (wM cyI cyZ a σ)) (As := [.int (x2 + (1 : Int32)), .int (4 : Int32)]) (rest := []) ⟨hx, hb, hml, hown, hts⟩ (c_X9_is l D cyI cyZ a A σ (x2 + (1 : Int32)) (4 : Int32) _ e5) (cwV 2 hts (gd_V mw_546 mw_547 mw_548 mw_5 mw_549) rfl rfl rfl (by decide +kernel) ⟨Nat.le_of_ble_eq_true rfl, Nat.le_of_ble_eq_true rfl⟩) hK hN hP hD hS 9 0 rfl rfl gM_0 rfl hl.1 rfl (Nat.le_of_ble_eq_true rfl) dX9_reads_292 ⟨Nat.zero_le _, Nat.zero_le _⟩ (fun H locs hP hD hS => ?_)
    refine lv_if_ne (tgt := 324) hx hb dX9_reads_295 (by decide) (fun c6 => ?_) (fun c6 => ?_)
    · rw [if_neg c6] at hF
      cases hF
      exact ih _ _ _ _ _ _ hgo (Or.inr (Or.inr (Or.inr (Or.inr (Or.inr (Or.inr (Or.inr (Or.inr (Or.inl ⟨rfl, _, _, rfl, lv_sub hl [0, 1, 2] rfl⟩))))))))) hP hD hS
    · rw [if_pos c6] at hF
      refine lv_aload_n hx hb dX9_reads_298 rfl (lv_at hl 0 rfl) ?_
      refine va_get (D := D) (ci := 9) (v := .int (σ 0 26)) (C := RX9) (T := TX9) (N := 34) hx hb hts inlX9 hown hK hP 0 gM_0 rfl 26 (by decide) (hts _ mw_544) (fun _ h9 => h9) rfl dX9_reads_299 ?_
      refine lv_if_lt (tgt := 307) hx hb dX9_reads_302 (by decide) (fun c7 => ?_) (fun c7 => ?_)
      · rw [if_pos c7] at hF
        refine lv_aload_n hx hb dX9_reads_307 rfl (lv_at hl 0 rfl) ?_
        refine lv_aload_n hx hb dX9_reads_308 rfl (lv_at hl 0 rfl) ?_
        refine va_get (D := D) (ci := 9) (v := .ref (a 8)) (C := RX9) (T := TX9) (N := 34) hx hb hts inlX9 hown hK hP 0 gM_0 rfl 8 (by decide) (hts _ mw_124) (fun _ h9 => h9) rfl dX9_reads_309 ?_
        refine lv_iload_n hx hb dX9_reads_312 rfl (lv_at hl 3 rfl) ?_
        obtain ⟨v8, e9, hF⟩ := Option.bind_eq_some_iff.mp hF
        refine z_ild hx hb hK hP 8 gM_8 e9 dX9_reads_313 ?_
        obtain ⟨σ10, e11, hF⟩ := Option.bind_eq_some_iff.mp hF
        refine va_put (D := D) (ci := 9) (v := .int v8) (ty := .int) (C := RX9) (T := TX9) (N := 34) hx hb hts inlX9 tyX9 tyX9_ok nmX9 hown hK hP hD hS 0 gM_0 rfl 26 (by decide) (hts _ mw_544) (fun _ h9 => h9) rfl (by decide +kernel) rfl rfl (Nat.le_of_ble_eq_true rfl) dX9_reads_314 (fun H locs hP hD hS => ?_)
        rw [sM_0_26, Option.some.inj e11] at hP hD
        refine lv_aload_n hx hb dX9_reads_317 rfl (lv_at hl 0 rfl) ?_
        refine va_get (D := D) (ci := 9) (v := .ref (a 7)) (C := RX9) (T := TX9) (N := 34) hx hb hts inlX9 hown hK hP 0 gM_0 rfl 7 (by decide) (hts _ mw_123) (fun _ h9 => h9) rfl dX9_reads_318 ?_
        refine lv_iload_n hx hb dX9_reads_321 rfl (lv_at hl 3 rfl) ?_
        obtain ⟨v12, e13, hF⟩ := Option.bind_eq_some_iff.mp hF
        refine z_ild hx hb hK hP 7 gM_7 e13 dX9_reads_322 ?_
        refine lv_istore_n (lv' := [(1, .int v12), (0, .ref (a 0)), (2, .int x2), (3, .int x3)]) hx hb dX9_reads_323 rfl hl (by decide) rfl (fun ls hl => ?_)
        cases hF
        exact ih _ _ _ _ _ _ hgo (Or.inr (Or.inr (Or.inr (Or.inr (Or.inr (Or.inr (Or.inr (Or.inr (Or.inl ⟨rfl, _, _, rfl, lv_sub hl [1, 0, 2] rfl⟩))))))))) hP hD hS
      · rw [if_neg c7] at hF
        refine lv_iconst (v := (0 : Int32)) hx hb dX9_reads_305 (by decide) ?_
        cases hF
        obtain ⟨rfl, rfl⟩ := extM_ret hq (goL_ret hgo)
        exact z_zret hx hb hr hlocks hK hP hD hS rfl dX9_reads_306
set_option maxHeartbeats 4000000 in
set_option maxRecDepth 100000 in
theorem wl_X9_reads_324 (σ : Mem) (hC : CX p c cX9_reads meth (some .boolean) s m args yX9_reads.cls 6 D cyI cyZ) (hq : extM q = some (r, σ')) (n : Nat) (ih : ∀ (pc : Nat) (x : Mem) (vs : List Int32) (ls : Array Slot) (H : Heap) (locs : List Loc), goL B_X9_reads n pc x vs = some q → SH_X9_reads a ls pc vs → va_P D vwCl (wM cyI cyZ a x) H → va_D A (wM cyI cyZ a x) → va_S A s.heap H locs → W p l e (headSpec ts_X9_reads ({ frames := 2, cells := 0, slots := 0, locals := 44 } : Room)).room s m args below meth c H locs 0 0 (MQ below (QcI D cyI cyZ A (wM cyI cyZ a σ') r) args s 0 0 A) (F0 m pc ls [])) (x1 : Int32) (x2 : Int32) (ls : Array Slot) (H : Heap) (locs : List Loc) (hgo : goL B_X9_reads (n + 1) 324 σ [x1, x2] = some q) (hl : lv_has ls 6 [(0, .ref (a 0)), (1, .int x1), (2, .int x2)]) (hP : va_P D vwCl (wM cyI cyZ a σ) H) (hD : va_D A (wM cyI cyZ a σ)) (hS : va_S A s.heap H locs) : W p l e (headSpec ts_X9_reads ({ frames := 2, cells := 0, slots := 0, locals := 44 } : Room)).room s m args below meth c H locs 0 0 (MQ below (QcI D cyI cyZ A (wM cyI cyZ a σ') r) args s 0 0 A) (F0 m 324 ls []) := by
  obtain ⟨hx, hb, hr, hml, hown, hts, hK, hN, hlocks⟩ := hC
  have hown : s.vm.findClass RX9 = some m.cls := hown
  obtain ⟨yy, hF, hgo⟩ := goL_step (by decide) hgo
  have hF : B_X9_reads_324 σ x1 x2 = some yy := hF
  unfold B_X9_reads_324 at hF
  refine lv_iinc (v := (x2 + (1 : Int32))) (lv' := [(2, .int (x2 + (1 : Int32))), (0, .ref (a 0)), (1, .int x1)]) hx hb dX9_reads_324 hl (k := 2) rfl rfl (by decide) rfl (fun ls hl => ?_)
  refine lv_goto (tgt := 29) hx hb dX9_reads_327 (by decide) ?_
  cases hF
  exact ih _ _ _ _ _ _ hgo (Or.inr (Or.inl ⟨rfl, _, _, rfl, lv_sub hl [1, 2, 0] rfl⟩)) hP hD hS
set_option maxHeartbeats 4000000 in
set_option maxRecDepth 100000 in
theorem wl_X9_reads_349 (σ : Mem) (hC : CX p c cX9_reads meth (some .boolean) s m args yX9_reads.cls 6 D cyI cyZ) (hq : extM q = some (r, σ')) (n : Nat) (ih : ∀ (pc : Nat) (x : Mem) (vs : List Int32) (ls : Array Slot) (H : Heap) (locs : List Loc), goL B_X9_reads n pc x vs = some q → SH_X9_reads a ls pc vs → va_P D vwCl (wM cyI cyZ a x) H → va_D A (wM cyI cyZ a x) → va_S A s.heap H locs → W p l e (headSpec ts_X9_reads ({ frames := 2, cells := 0, slots := 0, locals := 44 } : Room)).room s m args below meth c H locs 0 0 (MQ below (QcI D cyI cyZ A (wM cyI cyZ a σ') r) args s 0 0 A) (F0 m pc ls [])) (x1 : Int32) (ls : Array Slot) (H : Heap) (locs : List Loc) (hgo : goL B_X9_reads (n + 1) 349 σ [x1] = some q) (hl : lv_has ls 6 [(0, .ref (a 0)), (1, .int x1)]) (hP : va_P D vwCl (wM cyI cyZ a σ) H) (hD : va_D A (wM cyI cyZ a σ)) (hS : va_S A s.heap H locs) : W p l e (headSpec ts_X9_reads ({ frames := 2, cells := 0, slots := 0, locals := 44 } : Room)).room s m args below meth c H locs 0 0 (MQ below (QcI D cyI cyZ A (wM cyI cyZ a σ') r) args s 0 0 A) (F0 m 349 ls []) := by
  obtain ⟨hx, hb, hr, hml, hown, hts, hK, hN, hlocks⟩ := hC
  have hown : s.vm.findClass RX9 = some m.cls := hown
  obtain ⟨yy, hF, hgo⟩ := goL_step (by decide) hgo
  have hF : B_X9_reads_349 σ x1 = some yy := hF
  unfold B_X9_reads_349 at hF
  refine lv_aload_n hx hb dX9_reads_349 rfl (lv_at hl 0 rfl) ?_
  refine lv_aload_n hx hb dX9_reads_350 rfl (lv_at hl 0 rfl) ?_
  refine va_get (D := D) (ci := 9) (v := .int (σ 0 25)) (C := RX9) (T := TX9) (N := 34) hx hb hts inlX9 hown hK hP 0 gM_0 rfl 25 (by decide) (hts _ mw_543) (fun _ h9 => h9) rfl dX9_reads_351 ?_
  refine lv_if_ge (tgt := 361) hx hb dX9_reads_354 (by decide) (fun c1 => ?_) (fun c1 => ?_)
  · rw [if_pos c1] at hF
    refine lv_aload_n hx hb dX9_reads_361 rfl (lv_at hl 0 rfl) ?_
    refine va_get (D := D) (ci := 9) (v := .int (σ 0 25)) (C := RX9) (T := TX9) (N := 34) hx hb hts inlX9 hown hK hP 0 gM_0 rfl 25 (by decide) (hts _ mw_543) (fun _ h9 => h9) rfl dX9_reads_362 ?_
    obtain ⟨σ2, e3, hF⟩ := Option.bind_eq_some_iff.mp hF
    refine va_put (D := D) (ci := 9) (v := .int (σ 0 25)) (ty := .int) (C := RX9) (T := TX9) (N := 34) hx hb hts inlX9 tyX9 tyX9_ok nmX9 hown hK hP hD hS 0 gM_0 rfl 25 (by decide) (hts _ mw_543) (fun _ h9 => h9) rfl (by decide +kernel) rfl rfl (Nat.le_of_ble_eq_true rfl) dX9_reads_365 (fun H locs hP hD hS => ?_)
    rw [sM_0_25, Option.some.inj e3] at hP hD
    cases hF
    exact ih _ _ _ _ _ _ hgo (Or.inr (Or.inr (Or.inr (Or.inr (Or.inr (Or.inr (Or.inr (Or.inr (Or.inr (Or.inr (Or.inl ⟨rfl, _, rfl, lv_sub hl [0, 1] rfl⟩))))))))))) hP hD hS
  · rw [if_neg c1] at hF
    refine lv_iload_n hx hb dX9_reads_357 rfl (lv_at hl 1 rfl) ?_
    refine lv_goto (tgt := 365) hx hb dX9_reads_358 (by decide) ?_
    obtain ⟨σ4, e5, hF⟩ := Option.bind_eq_some_iff.mp hF
    refine va_put (D := D) (ci := 9) (v := .int x1) (ty := .int) (C := RX9) (T := TX9) (N := 34) hx hb hts inlX9 tyX9 tyX9_ok nmX9 hown hK hP hD hS 0 gM_0 rfl 25 (by decide) (hts _ mw_543) (fun _ h9 => h9) rfl (by decide +kernel) rfl rfl (Nat.le_of_ble_eq_true rfl) dX9_reads_365 (fun H locs hP hD hS => ?_)
    rw [sM_0_25, Option.some.inj e5] at hP hD
    cases hF
    exact ih _ _ _ _ _ _ hgo (Or.inr (Or.inr (Or.inr (Or.inr (Or.inr (Or.inr (Or.inr (Or.inr (Or.inr (Or.inr (Or.inl ⟨rfl, _, rfl, lv_sub hl [0, 1] rfl⟩))))))))))) hP hD hS
set_option maxHeartbeats 4000000 in
set_option maxRecDepth 100000 in
theorem wl_X9_reads_368 (σ : Mem) (hC : CX p c cX9_reads meth (some .boolean) s m args yX9_reads.cls 6 D cyI cyZ) (hq : extM q = some (r, σ')) (n : Nat) (ih : ∀ (pc : Nat) (x : Mem) (vs : List Int32) (ls : Array Slot) (H : Heap) (locs : List Loc), goL B_X9_reads n pc x vs = some q → SH_X9_reads a ls pc vs → va_P D vwCl (wM cyI cyZ a x) H → va_D A (wM cyI cyZ a x) → va_S A s.heap H locs → W p l e (headSpec ts_X9_reads ({ frames := 2, cells := 0, slots := 0, locals := 44 } : Room)).room s m args below meth c H locs 0 0 (MQ below (QcI D cyI cyZ A (wM cyI cyZ a σ') r) args s 0 0 A) (F0 m pc ls [])) (x1 : Int32) (ls : Array Slot) (H : Heap) (locs : List Loc) (hgo : goL B_X9_reads (n + 1) 368 σ [x1] = some q) (hl : lv_has ls 6 [(0, .ref (a 0)), (1, .int x1)]) (hP : va_P D vwCl (wM cyI cyZ a σ) H) (hD : va_D A (wM cyI cyZ a σ)) (hS : va_S A s.heap H locs) : W p l e (headSpec ts_X9_reads ({ frames := 2, cells := 0, slots := 0, locals := 44 } : Room)).room s m args below meth c H locs 0 0 (MQ below (QcI D cyI cyZ A (wM cyI cyZ a σ') r) args s 0 0 A) (F0 m 368 ls []) := by
  obtain ⟨hx, hb, hr, hml, hown, hts, hK, hN, hlocks⟩ := hC
  have hown : s.vm.findClass RX9 = some m.cls := hown
  obtain ⟨yy, hF, hgo⟩ := goL_step (by decide) hgo
  have hF : B_X9_reads_368 σ x1 = some yy := hF
  unfold B_X9_reads_368 at hF
  refine lv_aload_n hx hb dX9_reads_368 rfl (lv_at hl 0 rfl) ?_
  refine va_get (D := D) (ci := 9) (v := .int (σ 0 25)) (C := RX9) (T := TX9) (N := 34) hx hb hts inlX9 hown hK hP 0 gM_0 rfl 25 (by decide) (hts _ mw_543) (fun _ h9 => h9) rfl dX9_reads_369 ?_
  refine lv_if_lt (tgt := 417) hx hb dX9_reads_372 (by decide) (fun c1 => ?_) (fun c1 => ?_)
  · rw [if_pos c1] at hF
    refine lv_iconst (v := (0 : Int32)) hx hb dX9_reads_417 (by decide) ?_
    cases hF
    obtain ⟨rfl, rfl⟩ := extM_ret hq (goL_ret hgo)
    exact z_zret hx hb hr hlocks hK hP hD hS rfl dX9_reads_418
  · rw [if_neg c1] at hF
    refine lv_aload_n hx hb dX9_reads_375 rfl (lv_at hl 0 rfl) ?_
    refine va_get (D := D) (ci := 9) (v := .int (σ 0 26)) (C := RX9) (T := TX9) (N := 34) hx hb hts inlX9 hown hK hP 0 gM_0 rfl 26 (by decide) (hts _ mw_544) (fun _ h9 => h9) rfl dX9_reads_376 ?_
    refine lv_if_lt (tgt := 390) hx hb dX9_reads_379 (by decide) (fun c2 => ?_) (fun c2 => ?_)
    · rw [if_pos c2] at hF
      refine lv_aload_n hx hb dX9_reads_390 rfl (lv_at hl 0 rfl) ?_
      refine va_get (D := D) (ci := 9) (v := .int (σ 0 26)) (C := RX9) (T := TX9) (N := 34) hx hb hts inlX9 hown hK hP 0 gM_0 rfl 26 (by decide) (hts _ mw_544) (fun _ h9 => h9) rfl dX9_reads_391 ?_
      refine lv_if_lt (tgt := 401) hx hb dX9_reads_394 (by decide) (fun c3 => ?_) (fun c3 => ?_)
      · rw [if_pos c3] at hF
        refine lv_iconst (v := (0 : Int32)) hx hb dX9_reads_401 (by decide) ?_
        refine lv_aload_n hx hb dX9_reads_402 rfl (lv_at hl 0 rfl) ?_
        refine va_get (D := D) (ci := 9) (v := .int (σ 0 24)) (C := RX9) (T := TX9) (N := 34) hx hb hts inlX9 hown hK hP 0 gM_0 rfl 24 (by decide) (hts _ mw_542) (fun _ h9 => h9) rfl dX9_reads_403 ?_
        refine lv_if_eq (tgt := 413) hx hb dX9_reads_406 (by decide) (fun c4 => ?_) (fun c4 => ?_)
        · rw [if_pos c4] at hF
          refine lv_iconst (v := (0 : Int32)) hx hb dX9_reads_413 (by decide) ?_
          refine lv_icmp_eq (tgt := 419) hx hb dX9_reads_414 (by decide) (fun c5 => ?_) (fun c5 => ?_)
          · rw [if_pos c5] at hF
            cases hF
            exact ih _ _ _ _ _ _ hgo (Or.inr (Or.inr (Or.inr (Or.inr (Or.inr (Or.inr (Or.inr (Or.inr (Or.inr (Or.inr (Or.inr (Or.inl ⟨rfl, rfl, lv_sub hl [0] rfl⟩)))))))))))) hP hD hS
          · rw [if_neg c5] at hF
            refine lv_iconst (v := (0 : Int32)) hx hb dX9_reads_417 (by decide) ?_
            cases hF
            obtain ⟨rfl, rfl⟩ := extM_ret hq (goL_ret hgo)
            exact z_zret hx hb hr hlocks hK hP hD hS rfl dX9_reads_418
        · rw [if_neg c4] at hF
          refine lv_iconst (v := (1 : Int32)) hx hb dX9_reads_409 (by decide) ?_
          refine lv_goto (tgt := 414) hx hb dX9_reads_410 (by decide) ?_
          refine lv_icmp_eq (tgt := 419) hx hb dX9_reads_414 (by decide) (fun c6 => ?_) (fun c6 => ?_)
          · rw [if_pos c6] at hF
            cases hF
            exact ih _ _ _ _ _ _ hgo (Or.inr (Or.inr (Or.inr (Or.inr (Or.inr (Or.inr (Or.inr (Or.inr (Or.inr (Or.inr (Or.inr (Or.inl ⟨rfl, rfl, lv_sub hl [0] rfl⟩)))))))))))) hP hD hS
          · rw [if_neg c6] at hF
            refine lv_iconst (v := (0 : Int32)) hx hb dX9_reads_417 (by decide) ?_
            cases hF
            obtain ⟨rfl, rfl⟩ := extM_ret hq (goL_ret hgo)
            exact z_zret hx hb hr hlocks hK hP hD hS rfl dX9_reads_418
      · rw [if_neg c3] at hF
        refine lv_iconst (v := (1 : Int32)) hx hb dX9_reads_397 (by decide) ?_
        refine lv_goto (tgt := 402) hx hb dX9_reads_398 (by decide) ?_
        refine lv_aload_n hx hb dX9_reads_402 rfl (lv_at hl 0 rfl) ?_
        refine va_get (D := D) (ci := 9) (v := .int (σ 0 24)) (C := RX9) (T := TX9) (N := 34) hx hb hts inlX9 hown hK hP 0 gM_0 rfl 24 (by decide) (hts _ mw_542) (fun _ h9 => h9) rfl dX9_reads_403 ?_
        refine lv_if_eq (tgt := 413) hx hb dX9_reads_406 (by decide) (fun c7 => ?_) (fun c7 => ?_)
        · rw [if_pos c7] at hF
          refine lv_iconst (v := (0 : Int32)) hx hb dX9_reads_413 (by decide) ?_
          refine lv_icmp_eq (tgt := 419) hx hb dX9_reads_414 (by decide) (fun c8 => ?_) (fun c8 => ?_)
          · rw [if_pos c8] at hF
            cases hF
            exact ih _ _ _ _ _ _ hgo (Or.inr (Or.inr (Or.inr (Or.inr (Or.inr (Or.inr (Or.inr (Or.inr (Or.inr (Or.inr (Or.inr (Or.inl ⟨rfl, rfl, lv_sub hl [0] rfl⟩)))))))))))) hP hD hS
          · rw [if_neg c8] at hF
            refine lv_iconst (v := (0 : Int32)) hx hb dX9_reads_417 (by decide) ?_
            cases hF
            obtain ⟨rfl, rfl⟩ := extM_ret hq (goL_ret hgo)
            exact z_zret hx hb hr hlocks hK hP hD hS rfl dX9_reads_418
        · rw [if_neg c7] at hF
          refine lv_iconst (v := (1 : Int32)) hx hb dX9_reads_409 (by decide) ?_
          refine lv_goto (tgt := 414) hx hb dX9_reads_410 (by decide) ?_
          refine lv_icmp_eq (tgt := 419) hx hb dX9_reads_414 (by decide) (fun c9 => ?_) (fun c9 => ?_)
          · rw [if_pos c9] at hF
            cases hF
            exact ih _ _ _ _ _ _ hgo (Or.inr (Or.inr (Or.inr (Or.inr (Or.inr (Or.inr (Or.inr (Or.inr (Or.inr (Or.inr (Or.inr (Or.inl ⟨rfl, rfl, lv_sub hl [0] rfl⟩)))))))))))) hP hD hS
          · rw [if_neg c9] at hF
            refine lv_iconst (v := (0 : Int32)) hx hb dX9_reads_417 (by decide) ?_
            cases hF
            obtain ⟨rfl, rfl⟩ := extM_ret hq (goL_ret hgo)
            exact z_zret hx hb hr hlocks hK hP hD hS rfl dX9_reads_418
    · rw [if_neg c2] at hF
      refine lv_iload_n hx hb dX9_reads_382 rfl (lv_at hl 1 rfl) ?_
      refine lv_aload_n hx hb dX9_reads_383 rfl (lv_at hl 0 rfl) ?_
      refine va_get (D := D) (ci := 9) (v := .int (σ 0 25)) (C := RX9) (T := TX9) (N := 34) hx hb hts inlX9 hown hK hP 0 gM_0 rfl 25 (by decide) (hts _ mw_543) (fun _ h9 => h9) rfl dX9_reads_384 ?_
      refine lv_icmp_ne (tgt := 417) hx hb dX9_reads_387 (by decide) (fun c10 => ?_) (fun c10 => ?_)
      · rw [if_neg c10] at hF
        refine lv_iconst (v := (0 : Int32)) hx hb dX9_reads_417 (by decide) ?_
        cases hF
        obtain ⟨rfl, rfl⟩ := extM_ret hq (goL_ret hgo)
        exact z_zret hx hb hr hlocks hK hP hD hS rfl dX9_reads_418
      · rw [if_pos c10] at hF
        refine lv_aload_n hx hb dX9_reads_390 rfl (lv_at hl 0 rfl) ?_
        refine va_get (D := D) (ci := 9) (v := .int (σ 0 26)) (C := RX9) (T := TX9) (N := 34) hx hb hts inlX9 hown hK hP 0 gM_0 rfl 26 (by decide) (hts _ mw_544) (fun _ h9 => h9) rfl dX9_reads_391 ?_
        refine lv_if_lt (tgt := 401) hx hb dX9_reads_394 (by decide) (fun c11 => ?_) (fun c11 => ?_)
        · rw [if_pos c11] at hF
          refine lv_iconst (v := (0 : Int32)) hx hb dX9_reads_401 (by decide) ?_
          refine lv_aload_n hx hb dX9_reads_402 rfl (lv_at hl 0 rfl) ?_
          refine va_get (D := D) (ci := 9) (v := .int (σ 0 24)) (C := RX9) (T := TX9) (N := 34) hx hb hts inlX9 hown hK hP 0 gM_0 rfl 24 (by decide) (hts _ mw_542) (fun _ h9 => h9) rfl dX9_reads_403 ?_
          refine lv_if_eq (tgt := 413) hx hb dX9_reads_406 (by decide) (fun c12 => ?_) (fun c12 => ?_)
          · rw [if_pos c12] at hF
            refine lv_iconst (v := (0 : Int32)) hx hb dX9_reads_413 (by decide) ?_
            refine lv_icmp_eq (tgt := 419) hx hb dX9_reads_414 (by decide) (fun c13 => ?_) (fun c13 => ?_)
            · rw [if_pos c13] at hF
              cases hF
              exact ih _ _ _ _ _ _ hgo (Or.inr (Or.inr (Or.inr (Or.inr (Or.inr (Or.inr (Or.inr (Or.inr (Or.inr (Or.inr (Or.inr (Or.inl ⟨rfl, rfl, lv_sub hl [0] rfl⟩)))))))))))) hP hD hS
            · rw [if_neg c13] at hF
              refine lv_iconst (v := (0 : Int32)) hx hb dX9_reads_417 (by decide) ?_
              cases hF
              obtain ⟨rfl, rfl⟩ := extM_ret hq (goL_ret hgo)
              exact z_zret hx hb hr hlocks hK hP hD hS rfl dX9_reads_418
          · rw [if_neg c12] at hF
            refine lv_iconst (v := (1 : Int32)) hx hb dX9_reads_409 (by decide) ?_
            refine lv_goto (tgt := 414) hx hb dX9_reads_410 (by decide) ?_
            refine lv_icmp_eq (tgt := 419) hx hb dX9_reads_414 (by decide) (fun c14 => ?_) (fun c14 => ?_)
            · rw [if_pos c14] at hF
              cases hF
              exact ih _ _ _ _ _ _ hgo (Or.inr (Or.inr (Or.inr (Or.inr (Or.inr (Or.inr (Or.inr (Or.inr (Or.inr (Or.inr (Or.inr (Or.inl ⟨rfl, rfl, lv_sub hl [0] rfl⟩)))))))))))) hP hD hS
            · rw [if_neg c14] at hF
              refine lv_iconst (v := (0 : Int32)) hx hb dX9_reads_417 (by decide) ?_
              cases hF
              obtain ⟨rfl, rfl⟩ := extM_ret hq (goL_ret hgo)
              exact z_zret hx hb hr hlocks hK hP hD hS rfl dX9_reads_418
        · rw [if_neg c11] at hF
          refine lv_iconst (v := (1 : Int32)) hx hb dX9_reads_397 (by decide) ?_
          refine lv_goto (tgt := 402) hx hb dX9_reads_398 (by decide) ?_
          refine lv_aload_n hx hb dX9_reads_402 rfl (lv_at hl 0 rfl) ?_
          refine va_get (D := D) (ci := 9) (v := .int (σ 0 24)) (C := RX9) (T := TX9) (N := 34) hx hb hts inlX9 hown hK hP 0 gM_0 rfl 24 (by decide) (hts _ mw_542) (fun _ h9 => h9) rfl dX9_reads_403 ?_
          refine lv_if_eq (tgt := 413) hx hb dX9_reads_406 (by decide) (fun c15 => ?_) (fun c15 => ?_)
          · rw [if_pos c15] at hF
            refine lv_iconst (v := (0 : Int32)) hx hb dX9_reads_413 (by decide) ?_
            refine lv_icmp_eq (tgt := 419) hx hb dX9_reads_414 (by decide) (fun c16 => ?_) (fun c16 => ?_)
            · rw [if_pos c16] at hF
              cases hF
              exact ih _ _ _ _ _ _ hgo (Or.inr (Or.inr (Or.inr (Or.inr (Or.inr (Or.inr (Or.inr (Or.inr (Or.inr (Or.inr (Or.inr (Or.inl ⟨rfl, rfl, lv_sub hl [0] rfl⟩)))))))))))) hP hD hS
            · rw [if_neg c16] at hF
              refine lv_iconst (v := (0 : Int32)) hx hb dX9_reads_417 (by decide) ?_
              cases hF
              obtain ⟨rfl, rfl⟩ := extM_ret hq (goL_ret hgo)
              exact z_zret hx hb hr hlocks hK hP hD hS rfl dX9_reads_418
          · rw [if_neg c15] at hF
            refine lv_iconst (v := (1 : Int32)) hx hb dX9_reads_409 (by decide) ?_
            refine lv_goto (tgt := 414) hx hb dX9_reads_410 (by decide) ?_
            refine lv_icmp_eq (tgt := 419) hx hb dX9_reads_414 (by decide) (fun c17 => ?_) (fun c17 => ?_)
            · rw [if_pos c17] at hF
              cases hF
              exact ih _ _ _ _ _ _ hgo (Or.inr (Or.inr (Or.inr (Or.inr (Or.inr (Or.inr (Or.inr (Or.inr (Or.inr (Or.inr (Or.inr (Or.inl ⟨rfl, rfl, lv_sub hl [0] rfl⟩)))))))))))) hP hD hS
            · rw [if_neg c17] at hF
              refine lv_iconst (v := (0 : Int32)) hx hb dX9_reads_417 (by decide) ?_
              cases hF
              obtain ⟨rfl, rfl⟩ := extM_ret hq (goL_ret hgo)
              exact z_zret hx hb hr hlocks hK hP hD hS rfl dX9_reads_418
set_option maxHeartbeats 4000000 in
set_option maxRecDepth 100000 in
theorem wl_X9_reads_419 (σ : Mem) (hC : CX p c cX9_reads meth (some .boolean) s m args yX9_reads.cls 6 D cyI cyZ) (hq : extM q = some (r, σ')) (n : Nat) (ih : ∀ (pc : Nat) (x : Mem) (vs : List Int32) (ls : Array Slot) (H : Heap) (locs : List Loc), goL B_X9_reads n pc x vs = some q → SH_X9_reads a ls pc vs → va_P D vwCl (wM cyI cyZ a x) H → va_D A (wM cyI cyZ a x) → va_S A s.heap H locs → W p l e (headSpec ts_X9_reads ({ frames := 2, cells := 0, slots := 0, locals := 44 } : Room)).room s m args below meth c H locs 0 0 (MQ below (QcI D cyI cyZ A (wM cyI cyZ a σ') r) args s 0 0 A) (F0 m pc ls [])) (ls : Array Slot) (H : Heap) (locs : List Loc) (hgo : goL B_X9_reads (n + 1) 419 σ [] = some q) (hl : lv_has ls 6 [(0, .ref (a 0))]) (hP : va_P D vwCl (wM cyI cyZ a σ) H) (hD : va_D A (wM cyI cyZ a σ)) (hS : va_S A s.heap H locs) : W p l e (headSpec ts_X9_reads ({ frames := 2, cells := 0, slots := 0, locals := 44 } : Room)).room s m args below meth c H locs 0 0 (MQ below (QcI D cyI cyZ A (wM cyI cyZ a σ') r) args s 0 0 A) (F0 m 419 ls []) := by
  obtain ⟨hx, hb, hr, hml, hown, hts, hK, hN, hlocks⟩ := hC
  have hown : s.vm.findClass RX9 = some m.cls := hown
  obtain ⟨yy, hF, hgo⟩ := goL_step (by decide) hgo
  have hF : B_X9_reads_419 σ  = some yy := hF
  unfold B_X9_reads_419 at hF
  refine lv_iconst (v := (1 : Int32)) hx hb dX9_reads_419 (by decide) ?_
  refine lv_istore_n (lv' := [(2, .int (1 : Int32)), (0, .ref (a 0))]) hx hb dX9_reads_420 rfl hl (by decide) rfl (fun ls hl => ?_)
  refine lv_iconst (v := (0 : Int32)) hx hb dX9_reads_421 (by decide) ?_
  refine lv_istore_n (lv' := [(3, .int (0 : Int32)), (2, .int (1 : Int32)), (0, .ref (a 0))]) hx hb dX9_reads_422 rfl hl (by decide) rfl (fun ls hl => ?_)
  cases hF
  exact ih _ _ _ _ _ _ hgo (Or.inr (Or.inr (Or.inr (Or.inr (Or.inr (Or.inr (Or.inr (Or.inr (Or.inr (Or.inr (Or.inr (Or.inr (⟨rfl, _, _, rfl, lv_sub hl [2, 1, 0] rfl⟩))))))))))))) hP hD hS
set_option maxHeartbeats 4000000 in
set_option maxRecDepth 100000 in
theorem wl_X9_reads_423 (σ : Mem) (hC : CX p c cX9_reads meth (some .boolean) s m args yX9_reads.cls 6 D cyI cyZ) (hq : extM q = some (r, σ')) (n : Nat) (ih : ∀ (pc : Nat) (x : Mem) (vs : List Int32) (ls : Array Slot) (H : Heap) (locs : List Loc), goL B_X9_reads n pc x vs = some q → SH_X9_reads a ls pc vs → va_P D vwCl (wM cyI cyZ a x) H → va_D A (wM cyI cyZ a x) → va_S A s.heap H locs → W p l e (headSpec ts_X9_reads ({ frames := 2, cells := 0, slots := 0, locals := 44 } : Room)).room s m args below meth c H locs 0 0 (MQ below (QcI D cyI cyZ A (wM cyI cyZ a σ') r) args s 0 0 A) (F0 m pc ls [])) (x2 : Int32) (x3 : Int32) (ls : Array Slot) (H : Heap) (locs : List Loc) (hgo : goL B_X9_reads (n + 1) 423 σ [x2, x3] = some q) (hl : lv_has ls 6 [(0, .ref (a 0)), (2, .int x2), (3, .int x3)]) (hP : va_P D vwCl (wM cyI cyZ a σ) H) (hD : va_D A (wM cyI cyZ a σ)) (hS : va_S A s.heap H locs) : W p l e (headSpec ts_X9_reads ({ frames := 2, cells := 0, slots := 0, locals := 44 } : Room)).room s m args below meth c H locs 0 0 (MQ below (QcI D cyI cyZ A (wM cyI cyZ a σ') r) args s 0 0 A) (F0 m 423 ls []) := by
  obtain ⟨hx, hb, hr, hml, hown, hts, hK, hN, hlocks⟩ := hC
  have hown : s.vm.findClass RX9 = some m.cls := hown
  obtain ⟨yy, hF, hgo⟩ := goL_step (by decide) hgo
  have hF : B_X9_reads_423 σ x2 x3 = some yy := hF
  unfold B_X9_reads_423 at hF
  refine lv_iload_n hx hb dX9_reads_423 rfl (lv_at hl 2 rfl) ?_
  refine lv_aload_n hx hb dX9_reads_424 rfl (lv_at hl 0 rfl) ?_
  refine va_get (D := D) (ci := 9) (v := .int (σ 0 32)) (C := RX9) (T := TX9) (N := 34) hx hb hts inlX9 hown hK hP 0 gM_0 rfl 32 (by decide) (hts _ mw_545) (fun _ h9 => h9) rfl dX9_reads_425 ?_
  refine lv_icmp_ge (tgt := 473) hx hb dX9_reads_428 (by decide) (fun c1 => ?_) (fun c1 => ?_)
  · rw [if_pos c1] at hF
    refine lv_iload_n hx hb dX9_reads_473 rfl (lv_at hl 1 rfl) ?_
    by_cases c2 : vp_nar .boolean x2 = x2
    case neg => rw [if_neg c2] at hF; cases hF
    rw [if_pos c2] at hF
    cases hF
    obtain ⟨rfl, rfl⟩ := extM_ret hq (goL_ret hgo)
    exact z_zret hx hb hr hlocks hK hP hD hS (z_nar c2) dX9_reads_474
  · rw [if_neg c1] at hF
    refine lv_iload_n hx hb dX9_reads_431 rfl (lv_at hl 1 rfl) ?_
    refine lv_if_eq (tgt := 465) hx hb dX9_reads_432 (by decide) (fun c3 => ?_) (fun c3 => ?_)
    · rw [if_pos c3] at hF
      refine lv_iconst (v := (0 : Int32)) hx hb dX9_reads_465 (by decide) ?_
      refine lv_istore_n (lv' := [(2, .int (0 : Int32)), (0, .ref (a 0)), (3, .int x3)]) hx hb dX9_reads_466 rfl hl (by decide) rfl (fun ls hl => ?_)
      refine lv_iinc (v := (x3 + (1 : Int32))) (lv' := [(3, .int (x3 + (1 : Int32))), (2, .int (0 : Int32)), (0, .ref (a 0))]) hx hb dX9_reads_467 hl (k := 2) rfl rfl (by decide) rfl (fun ls hl => ?_)
      refine lv_goto (tgt := 423) hx hb dX9_reads_470 (by decide) ?_
      cases hF
      exact ih _ _ _ _ _ _ hgo (Or.inr (Or.inr (Or.inr (Or.inr (Or.inr (Or.inr (Or.inr (Or.inr (Or.inr (Or.inr (Or.inr (Or.inr (⟨rfl, _, _, rfl, lv_sub hl [2, 1, 0] rfl⟩))))))))))))) hP hD hS
    · rw [if_neg c3] at hF
      refine lv_aload_n hx hb dX9_reads_435 rfl (lv_at hl 0 rfl) ?_
      refine va_get (D := D) (ci := 9) (v := .ref (a 22)) (C := RX9) (T := TX9) (N := 34) hx hb hts inlX9 hown hK hP 0 gM_0 rfl 28 (by decide) (hts _ mw_138) (fun _ h9 => h9) rfl dX9_reads_436 ?_
      refine lv_iload_n hx hb dX9_reads_439 rfl (lv_at hl 2 rfl) ?_
      obtain ⟨v4, e5, hF⟩ := Option.bind_eq_some_iff.mp hF
      refine z_ild hx hb hK hP 22 gM_22 e5 dX9_reads_440 ?_
      refine lv_aload_n hx hb dX9_reads_441 rfl (lv_at hl 0 rfl) ?_
      refine va_get (D := D) (ci := 9) (v := .int (σ 0 25)) (C := RX9) (T := TX9) (N := 34) hx hb hts inlX9 hown hK hP 0 gM_0 rfl 25 (by decide) (hts _ mw_543) (fun _ h9 => h9) rfl dX9_reads_442 ?_
      refine lv_icmp_eq (tgt := 461) hx hb dX9_reads_445 (by decide) (fun c6 => ?_) (fun c6 => ?_)
      · rw [if_pos c6] at hF
        refine lv_iconst (v := (1 : Int32)) hx hb dX9_reads_461 (by decide) ?_
        refine lv_goto (tgt := 466) hx hb dX9_reads_462 (by decide) ?_
        refine lv_istore_n (lv' := [(2, .int (1 : Int32)), (0, .ref (a 0)), (3, .int x3)]) hx hb dX9_reads_466 rfl hl (by decide) rfl (fun ls hl => ?_)
        refine lv_iinc (v := (x3 + (1 : Int32))) (lv' := [(3, .int (x3 + (1 : Int32))), (2, .int (1 : Int32)), (0, .ref (a 0))]) hx hb dX9_reads_467 hl (k := 2) rfl rfl (by decide) rfl (fun ls hl => ?_)
        refine lv_goto (tgt := 423) hx hb dX9_reads_470 (by decide) ?_
        cases hF
        exact ih _ _ _ _ _ _ hgo (Or.inr (Or.inr (Or.inr (Or.inr (Or.inr (Or.inr (Or.inr (Or.inr (Or.inr (Or.inr (Or.inr (Or.inr (⟨rfl, _, _, rfl, lv_sub hl [2, 1, 0] rfl⟩))))))))))))) hP hD hS
      · rw [if_neg c6] at hF
        refine lv_aload_n hx hb dX9_reads_448 rfl (lv_at hl 0 rfl) ?_
        refine lv_aload_n hx hb dX9_reads_449 rfl (lv_at hl 0 rfl) ?_
        refine va_get (D := D) (ci := 9) (v := .ref (a 22)) (C := RX9) (T := TX9) (N := 34) hx hb hts inlX9 hown hK hP 0 gM_0 rfl 28 (by decide) (hts _ mw_138) (fun _ h9 => h9) rfl dX9_reads_450 ?_
        refine lv_iload_n hx hb dX9_reads_453 rfl (lv_at hl 2 rfl) ?_
        obtain ⟨v7, e8, hF⟩ := Option.bind_eq_some_iff.mp hF
        refine z_ild hx hb hK hP 22 gM_22 e8 dX9_reads_454 ?_
        obtain ⟨v9, e10, hF⟩ := Option.bind_eq_some_iff.mp hF
        refine z_callVI (w' := (wM cyI cyZ a σ)) (As := [.int v7]) (rest := []) ⟨hx, hb, hml, hown, hts⟩ (c_X9_linkTo l D cyI cyZ a A σ v7 _ e10) (cwV 1 hts (gd_V mw_558 mw_559 mw_560 mw_5 mw_561) rfl rfl rfl (by decide +kernel) ⟨Nat.le_of_ble_eq_true rfl, Nat.le_of_ble_eq_true rfl⟩) hK hN hP hD hS 9 0 rfl rfl gM_0 rfl hl.1 rfl (Nat.le_of_ble_eq_true rfl) dX9_reads_455 ⟨Nat.zero_le _, Nat.zero_le _⟩ (fun H locs hP hD hS => ?_)
        refine lv_if_lt (tgt := 465) hx hb dX9_reads_458 (by decide) (fun c11 => ?_) (fun c11 => ?_)
        · rw [if_pos c11] at hF
          refine lv_iconst (v := (0 : Int32)) hx hb dX9_reads_465 (by decide) ?_
          refine lv_istore_n (lv' := [(2, .int (0 : Int32)), (0, .ref (a 0)), (3, .int x3)]) hx hb dX9_reads_466 rfl hl (by decide) rfl (fun ls hl => ?_)
          refine lv_iinc (v := (x3 + (1 : Int32))) (lv' := [(3, .int (x3 + (1 : Int32))), (2, .int (0 : Int32)), (0, .ref (a 0))]) hx hb dX9_reads_467 hl (k := 2) rfl rfl (by decide) rfl (fun ls hl => ?_)
          refine lv_goto (tgt := 423) hx hb dX9_reads_470 (by decide) ?_
          cases hF
          exact ih _ _ _ _ _ _ hgo (Or.inr (Or.inr (Or.inr (Or.inr (Or.inr (Or.inr (Or.inr (Or.inr (Or.inr (Or.inr (Or.inr (Or.inr (⟨rfl, _, _, rfl, lv_sub hl [2, 1, 0] rfl⟩))))))))))))) hP hD hS
        · rw [if_neg c11] at hF
          refine lv_iconst (v := (1 : Int32)) hx hb dX9_reads_461 (by decide) ?_
          refine lv_goto (tgt := 466) hx hb dX9_reads_462 (by decide) ?_
          refine lv_istore_n (lv' := [(2, .int (1 : Int32)), (0, .ref (a 0)), (3, .int x3)]) hx hb dX9_reads_466 rfl hl (by decide) rfl (fun ls hl => ?_)
          refine lv_iinc (v := (x3 + (1 : Int32))) (lv' := [(3, .int (x3 + (1 : Int32))), (2, .int (1 : Int32)), (0, .ref (a 0))]) hx hb dX9_reads_467 hl (k := 2) rfl rfl (by decide) rfl (fun ls hl => ?_)
          refine lv_goto (tgt := 423) hx hb dX9_reads_470 (by decide) ?_
          cases hF
          exact ih _ _ _ _ _ _ hgo (Or.inr (Or.inr (Or.inr (Or.inr (Or.inr (Or.inr (Or.inr (Or.inr (Or.inr (Or.inr (Or.inr (Or.inr (⟨rfl, _, _, rfl, lv_sub hl [2, 1, 0] rfl⟩))))))))))))) hP hD hS
theorem wk_X9_reads (hC : CX p c cX9_reads meth (some .boolean) s m args yX9_reads.cls 6 D cyI cyZ) (hq : extM q = some (r, σ')) : ∀ (n : Nat), ∀ (pc : Nat) (x : Mem) (vs : List Int32) (ls : Array Slot) (H : Heap) (locs : List Loc), goL B_X9_reads n pc x vs = some q → SH_X9_reads a ls pc vs → va_P D vwCl (wM cyI cyZ a x) H → va_D A (wM cyI cyZ a x) → va_S A s.heap H locs → W p l e (headSpec ts_X9_reads ({ frames := 2, cells := 0, slots := 0, locals := 44 } : Room)).room s m args below meth c H locs 0 0 (MQ below (QcI D cyI cyZ A (wM cyI cyZ a σ') r) args s 0 0 A) (F0 m pc ls []) := by
  intro n
  induction n with
  | zero => intro pc x vs ls H locs h; exact absurd h (by simp [goL])
  | succ n ih =>
    intro pc x vs ls H locs hgo hsh hP hD hS
    rcases hsh with ⟨rfl, rfl, hl⟩ | ⟨rfl, x1, x2, rfl, hl⟩ | ⟨rfl, x1, x2, x3, x4, rfl, hl⟩ | ⟨rfl, x1, x2, x3, rfl, hl⟩ | ⟨rfl, x1, x2, x3, rfl, hl⟩ | ⟨rfl, x1, x2, x3, rfl, hl⟩ | ⟨rfl, x1, x2, x3, rfl, hl⟩ | ⟨rfl, x1, x2, x3, rfl, hl⟩ | ⟨rfl, x1, x2, rfl, hl⟩ | ⟨rfl, x1, rfl, hl⟩ | ⟨rfl, x1, rfl, hl⟩ | ⟨rfl, rfl, hl⟩ | ⟨rfl, x2, x3, rfl, hl⟩
    · exact wl_X9_reads_0 x hC hq n ih  ls H locs hgo hl hP hD hS
    · exact wl_X9_reads_29 x hC hq n ih x1 x2 ls H locs hgo hl hP hD hS
    · exact wl_X9_reads_108 x hC hq n ih x1 x2 x3 x4 ls H locs hgo hl hP hD hS
    · exact wl_X9_reads_136 x hC hq n ih x1 x2 x3 ls H locs hgo hl hP hD hS
    · exact wl_X9_reads_187 x hC hq n ih x1 x2 x3 ls H locs hgo hl hP hD hS
    · exact wl_X9_reads_220 x hC hq n ih x1 x2 x3 ls H locs hgo hl hP hD hS
    · exact wl_X9_reads_248 x hC hq n ih x1 x2 x3 ls H locs hgo hl hP hD hS
    · exact wl_X9_reads_277 x hC hq n ih x1 x2 x3 ls H locs hgo hl hP hD hS
    · exact wl_X9_reads_324 x hC hq n ih x1 x2 ls H locs hgo hl hP hD hS
    · exact wl_X9_reads_349 x hC hq n ih x1 ls H locs hgo hl hP hD hS
    · exact wl_X9_reads_368 x hC hq n ih x1 ls H locs hgo hl hP hD hS
    · exact wl_X9_reads_419 x hC hq n ih  ls H locs hgo hl hP hD hS
    · exact wl_X9_reads_423 x hC hq n ih x2 x3 ls H locs hgo hl hP hD hS
end
theorem c_X9_reads (l : Launch) (D : va_G) (cyI cyZ : ClassId) (a : Nat → Nat) (A : Nat → Prop) (σ : Mem) (r : Int32) (σ' : Mem) (hF : F_X9_reads σ  = some (r, σ')) : CtI l yX9_reads ts_X9_reads ({ frames := 2, cells := 0, slots := 0, locals := 44 } : Room) [.ref (a 0)] D cyI cyZ A (wM cyI cyZ a σ) (wM cyI cyZ a σ') r := by
  refine CtI.of (cc := cX9_reads) (maxL := 6) (ret := (some .boolean)) (by decide) rfl (Nat.le_of_ble_eq_true rfl) ?_
  intro p e s m below meth c ls hC hP hD hl
  obtain ⟨q, hq, hr1⟩ := Option.bind_eq_some_iff.mp hF
  obtain ⟨n, hn⟩ := finL_some hq
  exact wk_X9_reads hC hr1 n 0 _ _ ls _ _ hn (Or.inl ⟨rfl, rfl, hl⟩) hP hD va_S.rf
