-- X9_findNear X9_meaningAt
abbrev ts_X9_findNear : List Cond := .code yX9_findNear cX9_findNear 5 (some .int) :: wsL_law
def SH_X9_findNear (a : Nat → Nat) (ls : Array Slot) (pc : Nat) (vs : List Int32) : Prop := (pc = 0 ∧ ∃ x1 : Int32, vs = [x1] ∧ lv_has ls 5 [(0, .ref (a 0)), (1, .int x1)]) ∨ (pc = 6 ∧ ∃ x1 x2 : Int32, vs = [x1, x2] ∧ lv_has ls 5 [(0, .ref (a 0)), (1, .int x1), (2, .int x2)]) ∨ (pc = 39 ∧ ∃ x2 x3 : Int32, vs = [x2, x3] ∧ lv_has ls 5 [(0, .ref (a 0)), (2, .int x2), (3, .int x3)]) ∨ (pc = 99 ∧ ∃ x2 x3 : Int32, vs = [x2, x3] ∧ lv_has ls 5 [(0, .ref (a 0)), (2, .int x2), (3, .int x3)]) ∨ (pc = 121 ∧ ∃ x2 x3 : Int32, vs = [x2, x3] ∧ lv_has ls 5 [(0, .ref (a 0)), (2, .int x2), (3, .int x3)]) ∨ (pc = 144 ∧ ∃ x2 x3 x4 : Int32, vs = [x2, x3, x4] ∧ lv_has ls 5 [(0, .ref (a 0)), (2, .int x2), (3, .int x3), (4, .int x4)])
section
variable {p : Program} {l : Launch} {e : Env} {s : State} {m : MethodId} {args : Array Value} {below : List Frame} {meth : Method} {c : Code} {D : va_G} {A : Nat → Prop} {a : Nat → Nat} {cyI cyZ : ClassId} {r : Int32} {σ' : Mem} {q : Mem × List Int32}
set_option maxHeartbeats 4000000 in
set_option maxRecDepth 100000 in
theorem wl_X9_findNear_0 (σ : Mem) (hC : CX p c cX9_findNear meth (some .int) s m args yX9_findNear.cls 5 D cyI cyZ) (hq : extM q = some (r, σ')) (n : Nat) (ih : ∀ (pc : Nat) (x : Mem) (vs : List Int32) (ls : Array Slot) (H : Heap) (locs : List Loc), goL B_X9_findNear n pc x vs = some q → SH_X9_findNear a ls pc vs → va_P D vwCl (wM cyI cyZ a x) H → va_D A (wM cyI cyZ a x) → va_S A s.heap H locs → W p l e (headSpec ts_X9_findNear ({ frames := 5, cells := 0, slots := 0, locals := 120 } : Room)).room s m args below meth c H locs 0 0 (MQ below (QcI D cyI cyZ A (wM cyI cyZ a σ') r) args s 0 0 A) (F0 m pc ls [])) (x1 : Int32) (ls : Array Slot) (H : Heap) (locs : List Loc) (hgo : goL B_X9_findNear (n + 1) 0 σ [x1] = some q) (hl : lv_has ls 5 [(0, .ref (a 0)), (1, .int x1)]) (hP : va_P D vwCl (wM cyI cyZ a σ) H) (hD : va_D A (wM cyI cyZ a σ)) (hS : va_S A s.heap H locs) : W p l e (headSpec ts_X9_findNear ({ frames := 5, cells := 0, slots := 0, locals := 120 } : Room)).room s m args below meth c H locs 0 0 (MQ below (QcI D cyI cyZ A (wM cyI cyZ a σ') r) args s 0 0 A) (F0 m 0 ls []) := by
  obtain ⟨hx, hb, hr, hml, hown, hts, hK, hN, hlocks⟩ := hC
  have hown : s.vm.findClass RX9 = some m.cls := hown
  obtain ⟨yy, hF, hgo⟩ := goL_step (by decide) hgo
  have hF : B_X9_findNear_0 σ x1 = some yy := hF
  unfold B_X9_findNear_0 at hF
  refine lv_aload_n hx hb dX9_findNear_0 rfl (lv_at hl 0 rfl) ?_
  obtain ⟨σ1, e2, hF⟩ := Option.bind_eq_some_iff.mp hF
  refine z_callVV (w' := (wM cyI cyZ a σ1)) (As := []) (rest := []) ⟨hx, hb, hml, hown, hts⟩ (c_X9_findReadings l D cyI cyZ a A σ  σ1 e2) (cwV 0 hts (gd_V mw_529 mw_530 mw_531 mw_5 mw_532) rfl rfl rfl (by decide +kernel) ⟨Nat.le_of_ble_eq_true rfl, Nat.le_of_ble_eq_true rfl⟩) hK hN hP hD hS 9 0 rfl rfl gM_0 rfl hl.1 rfl (Nat.le_of_ble_eq_true rfl) dX9_findNear_1 ⟨Nat.zero_le _, Nat.zero_le _⟩ (fun H locs hP hD hS => ?_)
  refine lv_iconst (v := (0 : Int32)) hx hb dX9_findNear_4 (by decide) ?_
  refine lv_istore_n (lv' := [(2, .int (0 : Int32)), (0, .ref (a 0)), (1, .int x1)]) hx hb dX9_findNear_5 rfl hl (by decide) rfl (fun ls hl => ?_)
  cases hF
  exact ih _ _ _ _ _ _ hgo (Or.inr (Or.inl ⟨rfl, _, _, rfl, lv_sub hl [1, 2, 0] rfl⟩)) hP hD hS
set_option maxHeartbeats 4000000 in
set_option maxRecDepth 100000 in
theorem wl_X9_findNear_6 (σ : Mem) (hC : CX p c cX9_findNear meth (some .int) s m args yX9_findNear.cls 5 D cyI cyZ) (hq : extM q = some (r, σ')) (n : Nat) (ih : ∀ (pc : Nat) (x : Mem) (vs : List Int32) (ls : Array Slot) (H : Heap) (locs : List Loc), goL B_X9_findNear n pc x vs = some q → SH_X9_findNear a ls pc vs → va_P D vwCl (wM cyI cyZ a x) H → va_D A (wM cyI cyZ a x) → va_S A s.heap H locs → W p l e (headSpec ts_X9_findNear ({ frames := 5, cells := 0, slots := 0, locals := 120 } : Room)).room s m args below meth c H locs 0 0 (MQ below (QcI D cyI cyZ A (wM cyI cyZ a σ') r) args s 0 0 A) (F0 m pc ls [])) (x1 : Int32) (x2 : Int32) (ls : Array Slot) (H : Heap) (locs : List Loc) (hgo : goL B_X9_findNear (n + 1) 6 σ [x1, x2] = some q) (hl : lv_has ls 5 [(0, .ref (a 0)), (1, .int x1), (2, .int x2)]) (hP : va_P D vwCl (wM cyI cyZ a σ) H) (hD : va_D A (wM cyI cyZ a σ)) (hS : va_S A s.heap H locs) : W p l e (headSpec ts_X9_findNear ({ frames := 5, cells := 0, slots := 0, locals := 120 } : Room)).room s m args below meth c H locs 0 0 (MQ below (QcI D cyI cyZ A (wM cyI cyZ a σ') r) args s 0 0 A) (F0 m 6 ls []) := by
  obtain ⟨hx, hb, hr, hml, hown, hts, hK, hN, hlocks⟩ := hC
  have hown : s.vm.findClass RX9 = some m.cls := hown
  obtain ⟨yy, hF, hgo⟩ := goL_step (by decide) hgo
  have hF : B_X9_findNear_6 σ x1 x2 = some yy := hF
  unfold B_X9_findNear_6 at hF
  refine lv_iload_n hx hb dX9_findNear_6 rfl (lv_at hl 2 rfl) ?_
  refine lv_aload_n hx hb dX9_findNear_7 rfl (lv_at hl 0 rfl) ?_
  refine va_get (D := D) (ci := 9) (v := .int (σ 0 22)) (C := RX9) (T := TX9) (N := 34) hx hb hts inlX9 hown hK hP 0 gM_0 rfl 22 (by decide) (hts _ mw_528) (fun _ h9 => h9) rfl dX9_findNear_8 ?_
  refine lv_icmp_ge (tgt := 37) hx hb dX9_findNear_11 (by decide) (fun c1 => ?_) (fun c1 => ?_)
  · rw [if_pos c1] at hF
    refine lv_iconst (v := (0 : Int32)) hx hb dX9_findNear_37 (by decide) ?_
    refine lv_istore_n (lv' := [(3, .int (0 : Int32)), (0, .ref (a 0)), (1, .int x1), (2, .int x2)]) hx hb dX9_findNear_38 rfl hl (by decide) rfl (fun ls hl => ?_)
    cases hF
    exact ih _ _ _ _ _ _ hgo (Or.inr (Or.inr (Or.inl ⟨rfl, _, _, rfl, lv_sub hl [1, 3, 0] rfl⟩))) hP hD hS
  · rw [if_neg c1] at hF
    refine lv_aload_n hx hb dX9_findNear_14 rfl (lv_at hl 0 rfl) ?_
    refine va_get (D := D) (ci := 9) (v := .ref (a 14)) (C := RX9) (T := TX9) (N := 34) hx hb hts inlX9 hown hK hP 0 gM_0 rfl 15 (by decide) (hts _ mw_130) (fun _ h9 => h9) rfl dX9_findNear_15 ?_
    refine lv_iload_n hx hb dX9_findNear_18 rfl (lv_at hl 2 rfl) ?_
    obtain ⟨v2, e3, hF⟩ := Option.bind_eq_some_iff.mp hF
    refine z_ild hx hb hK hP 14 gM_14 e3 dX9_findNear_19 ?_
    refine lv_aload_n hx hb dX9_findNear_20 rfl (lv_at hl 0 rfl) ?_
    refine va_get (D := D) (ci := 9) (v := .ref (a 14)) (C := RX9) (T := TX9) (N := 34) hx hb hts inlX9 hown hK hP 0 gM_0 rfl 15 (by decide) (hts _ mw_130) (fun _ h9 => h9) rfl dX9_findNear_21 ?_
    refine lv_iconst (v := (0 : Int32)) hx hb dX9_findNear_24 (by decide) ?_
    obtain ⟨v4, e5, hF⟩ := Option.bind_eq_some_iff.mp hF
    refine z_ild hx hb hK hP 14 gM_14 e5 dX9_findNear_25 ?_
    refine lv_iload_n hx hb dX9_findNear_26 rfl (lv_at hl 1 rfl) ?_
    refine lv_iadd hx hb dX9_findNear_27 ?_
    refine lv_icmp_gt (tgt := 37) hx hb dX9_findNear_28 (by decide) (fun c6 => ?_) (fun c6 => ?_)
    · rw [if_pos c6] at hF
      refine lv_iconst (v := (0 : Int32)) hx hb dX9_findNear_37 (by decide) ?_
      refine lv_istore_n (lv' := [(3, .int (0 : Int32)), (0, .ref (a 0)), (1, .int x1), (2, .int x2)]) hx hb dX9_findNear_38 rfl hl (by decide) rfl (fun ls hl => ?_)
      cases hF
      exact ih _ _ _ _ _ _ hgo (Or.inr (Or.inr (Or.inl ⟨rfl, _, _, rfl, lv_sub hl [1, 3, 0] rfl⟩))) hP hD hS
    · rw [if_neg c6] at hF
      refine lv_iinc (v := (x2 + (1 : Int32))) (lv' := [(2, .int (x2 + (1 : Int32))), (0, .ref (a 0)), (1, .int x1)]) hx hb dX9_findNear_31 hl (k := 2) rfl rfl (by decide) rfl (fun ls hl => ?_)
      refine lv_goto (tgt := 6) hx hb dX9_findNear_34 (by decide) ?_
      cases hF
      exact ih _ _ _ _ _ _ hgo (Or.inr (Or.inl ⟨rfl, _, _, rfl, lv_sub hl [1, 2, 0] rfl⟩)) hP hD hS
set_option maxHeartbeats 4000000 in
set_option maxRecDepth 100000 in
theorem wl_X9_findNear_39 (σ : Mem) (hC : CX p c cX9_findNear meth (some .int) s m args yX9_findNear.cls 5 D cyI cyZ) (hq : extM q = some (r, σ')) (n : Nat) (ih : ∀ (pc : Nat) (x : Mem) (vs : List Int32) (ls : Array Slot) (H : Heap) (locs : List Loc), goL B_X9_findNear n pc x vs = some q → SH_X9_findNear a ls pc vs → va_P D vwCl (wM cyI cyZ a x) H → va_D A (wM cyI cyZ a x) → va_S A s.heap H locs → W p l e (headSpec ts_X9_findNear ({ frames := 5, cells := 0, slots := 0, locals := 120 } : Room)).room s m args below meth c H locs 0 0 (MQ below (QcI D cyI cyZ A (wM cyI cyZ a σ') r) args s 0 0 A) (F0 m pc ls [])) (x2 : Int32) (x3 : Int32) (ls : Array Slot) (H : Heap) (locs : List Loc) (hgo : goL B_X9_findNear (n + 1) 39 σ [x2, x3] = some q) (hl : lv_has ls 5 [(0, .ref (a 0)), (2, .int x2), (3, .int x3)]) (hP : va_P D vwCl (wM cyI cyZ a σ) H) (hD : va_D A (wM cyI cyZ a σ)) (hS : va_S A s.heap H locs) : W p l e (headSpec ts_X9_findNear ({ frames := 5, cells := 0, slots := 0, locals := 120 } : Room)).room s m args below meth c H locs 0 0 (MQ below (QcI D cyI cyZ A (wM cyI cyZ a σ') r) args s 0 0 A) (F0 m 39 ls []) := by
  obtain ⟨hx, hb, hr, hml, hown, hts, hK, hN, hlocks⟩ := hC
  have hown : s.vm.findClass RX9 = some m.cls := hown
  obtain ⟨yy, hF, hgo⟩ := goL_step (by decide) hgo
  have hF : B_X9_findNear_39 σ x2 x3 = some yy := hF
  unfold B_X9_findNear_39 at hF
  refine lv_iload_n hx hb dX9_findNear_39 rfl (lv_at hl 2 rfl) ?_
  refine lv_iload_n hx hb dX9_findNear_40 rfl (lv_at hl 1 rfl) ?_
  refine lv_icmp_ge (tgt := 97) hx hb dX9_findNear_41 (by decide) (fun c1 => ?_) (fun c1 => ?_)
  · rw [if_pos c1] at hF
    refine lv_iconst (v := (0 : Int32)) hx hb dX9_findNear_97 (by decide) ?_
    refine lv_istore_n (lv' := [(3, .int (0 : Int32)), (0, .ref (a 0)), (2, .int x2)]) hx hb dX9_findNear_98 rfl hl (by decide) rfl (fun ls hl => ?_)
    cases hF
    exact ih _ _ _ _ _ _ hgo (Or.inr (Or.inr (Or.inr (Or.inl ⟨rfl, _, _, rfl, lv_sub hl [1, 2, 0] rfl⟩)))) hP hD hS
  · rw [if_neg c1] at hF
    refine lv_aload_n hx hb dX9_findNear_44 rfl (lv_at hl 0 rfl) ?_
    refine lv_aload_n hx hb dX9_findNear_45 rfl (lv_at hl 0 rfl) ?_
    refine va_get (D := D) (ci := 9) (v := .ref (a 13)) (C := RX9) (T := TX9) (N := 34) hx hb hts inlX9 hown hK hP 0 gM_0 rfl 14 (by decide) (hts _ mw_129) (fun _ h9 => h9) rfl dX9_findNear_46 ?_
    refine lv_iload_n hx hb dX9_findNear_49 rfl (lv_at hl 2 rfl) ?_
    obtain ⟨v2, e3, hF⟩ := Option.bind_eq_some_iff.mp hF
    refine z_ild hx hb hK hP 13 gM_13 e3 dX9_findNear_50 ?_
    obtain ⟨p4, e5, hF⟩ := Option.bind_eq_some_iff.mp hF
    refine z_callVI (w' := (wM cyI cyZ a p4.2)) (As := [.int v2]) (rest := []) ⟨hx, hb, hml, hown, hts⟩ (c_X9_takeWay l D cyI cyZ a A σ v2 p4.1 p4.2 e5) (cwV 1 hts (gd_V mw_534 mw_535 mw_536 mw_5 mw_537) rfl rfl rfl (by decide +kernel) ⟨Nat.le_of_ble_eq_true rfl, Nat.le_of_ble_eq_true rfl⟩) hK hN hP hD hS 9 0 rfl rfl gM_0 rfl hl.1 rfl (Nat.le_of_ble_eq_true rfl) dX9_findNear_51 ⟨Nat.zero_le _, Nat.zero_le _⟩ (fun H locs hP hD hS => ?_)
    refine lv_if_eq (tgt := 68) hx hb dX9_findNear_54 (by decide) (fun c6 => ?_) (fun c6 => ?_)
    · rw [if_pos c6] at hF
      refine lv_iconst (v := (0 : Int32)) hx hb dX9_findNear_68 (by decide) ?_
      refine lv_istore (lv' := [(4, .int (0 : Int32)), (0, .ref (a 0)), (2, .int x2), (3, .int x3)]) hx hb dX9_findNear_69 hl (by decide) rfl (fun ls hl => ?_)
      refine lv_aload_n hx hb dX9_findNear_71 rfl (lv_at hl 1 rfl) ?_
      refine va_get (D := D) (ci := 9) (v := .ref (a 26)) (C := RX9) (T := TX9) (N := 34) hx hb hts inlX9 hown hK hP 0 gM_0 rfl 33 (by decide) (hts _ mw_142) (fun _ h9 => h9) rfl dX9_findNear_72 ?_
      refine lv_iload_n hx hb dX9_findNear_75 rfl (lv_at hl 3 rfl) ?_
      refine lv_iload hx hb dX9_findNear_76 (lv_at hl 0 rfl) ?_
      refine lv_if_eq (tgt := 88) hx hb dX9_findNear_78 (by decide) (fun c7 => ?_) (fun c7 => ?_)
      · rw [if_pos c7] at hF
        refine lv_ldc (v := (-1000000 : Int32)) hx hb hown (hts _ mw_248) dX9_findNear_88 ?_
        obtain ⟨σ8, e9, hF⟩ := Option.bind_eq_some_iff.mp hF
        refine z_ist (wM cyI cyZ a) hx hb hK hP hD hS 26 gM_26 sM_26 e9 dX9_findNear_90 (fun H locs hP hD hS => ?_)
        refine lv_iinc (v := (x3 + (1 : Int32))) (lv' := [(3, .int (x3 + (1 : Int32))), (4, .int (0 : Int32)), (0, .ref (a 0)), (2, .int x2)]) hx hb dX9_findNear_91 hl (k := 3) rfl rfl (by decide) rfl (fun ls hl => ?_)
        refine lv_goto (tgt := 39) hx hb dX9_findNear_94 (by decide) ?_
        cases hF
        exact ih _ _ _ _ _ _ hgo (Or.inr (Or.inr (Or.inl ⟨rfl, _, _, rfl, lv_sub hl [2, 3, 0] rfl⟩))) hP hD hS
      · rw [if_neg c7] at hF
        refine lv_aload_n hx hb dX9_findNear_81 rfl (lv_at hl 1 rfl) ?_
        obtain ⟨v10, e11, hF⟩ := Option.bind_eq_some_iff.mp hF
        refine z_callVI (w' := (wM cyI cyZ a p4.2)) (As := []) (rest := [.int x3, .ref (a 26)]) ⟨hx, hb, hml, hown, hts⟩ (c_X9_answerOf l D cyI cyZ a A p4.2  _ e11) (cwV 0 hts (gd_V mw_711 mw_712 mw_713 mw_5 mw_714) rfl rfl rfl (by decide +kernel) ⟨Nat.le_of_ble_eq_true rfl, Nat.le_of_ble_eq_true rfl⟩) hK hN hP hD hS 9 0 rfl rfl gM_0 rfl hl.1 rfl (Nat.le_of_ble_eq_true rfl) dX9_findNear_82 ⟨Nat.zero_le _, Nat.zero_le _⟩ (fun H locs hP hD hS => ?_)
        refine lv_goto (tgt := 90) hx hb dX9_findNear_85 (by decide) ?_
        obtain ⟨σ12, e13, hF⟩ := Option.bind_eq_some_iff.mp hF
        refine z_ist (wM cyI cyZ a) hx hb hK hP hD hS 26 gM_26 sM_26 e13 dX9_findNear_90 (fun H locs hP hD hS => ?_)
        refine lv_iinc (v := (x3 + (1 : Int32))) (lv' := [(3, .int (x3 + (1 : Int32))), (4, .int (0 : Int32)), (0, .ref (a 0)), (2, .int x2)]) hx hb dX9_findNear_91 hl (k := 3) rfl rfl (by decide) rfl (fun ls hl => ?_)
        refine lv_goto (tgt := 39) hx hb dX9_findNear_94 (by decide) ?_
        cases hF
        exact ih _ _ _ _ _ _ hgo (Or.inr (Or.inr (Or.inl ⟨rfl, _, _, rfl, lv_sub hl [2, 3, 0] rfl⟩))) hP hD hS
    · rw [if_neg c6] at hF
      refine lv_aload_n hx hb dX9_findNear_57 rfl (lv_at hl 0 rfl) ?_
      obtain ⟨p14, e15, hF⟩ := Option.bind_eq_some_iff.mp hF
      refine z_callVI (w' := (wM cyI cyZ a p14.2)) (As := []) (rest := []) ⟨hx, hb, hml, hown, hts⟩ (c_X9_reads l D cyI cyZ a A p4.2  p14.1 p14.2 e15) (cwV 0 hts (gd_V mw_538 mw_539 mw_540 mw_5 mw_541) rfl rfl rfl (by decide +kernel) ⟨Nat.le_of_ble_eq_true rfl, Nat.le_of_ble_eq_true rfl⟩) hK hN hP hD hS 9 0 rfl rfl gM_0 rfl hl.1 rfl (Nat.le_of_ble_eq_true rfl) dX9_findNear_58 ⟨Nat.zero_le _, Nat.zero_le _⟩ (fun H locs hP hD hS => ?_)
      refine lv_if_eq (tgt := 68) hx hb dX9_findNear_61 (by decide) (fun c16 => ?_) (fun c16 => ?_)
      · rw [if_pos c16] at hF
        refine lv_iconst (v := (0 : Int32)) hx hb dX9_findNear_68 (by decide) ?_
        refine lv_istore (lv' := [(4, .int (0 : Int32)), (0, .ref (a 0)), (2, .int x2), (3, .int x3)]) hx hb dX9_findNear_69 hl (by decide) rfl (fun ls hl => ?_)
        refine lv_aload_n hx hb dX9_findNear_71 rfl (lv_at hl 1 rfl) ?_
        refine va_get (D := D) (ci := 9) (v := .ref (a 26)) (C := RX9) (T := TX9) (N := 34) hx hb hts inlX9 hown hK hP 0 gM_0 rfl 33 (by decide) (hts _ mw_142) (fun _ h9 => h9) rfl dX9_findNear_72 ?_
        refine lv_iload_n hx hb dX9_findNear_75 rfl (lv_at hl 3 rfl) ?_
        refine lv_iload hx hb dX9_findNear_76 (lv_at hl 0 rfl) ?_
        refine lv_if_eq (tgt := 88) hx hb dX9_findNear_78 (by decide) (fun c17 => ?_) (fun c17 => ?_)
        · rw [if_pos c17] at hF
          refine lv_ldc (v := (-1000000 : Int32)) hx hb hown (hts _ mw_248) dX9_findNear_88 ?_
          obtain ⟨σ18, e19, hF⟩ := Option.bind_eq_some_iff.mp hF
          refine z_ist (wM cyI cyZ a) hx hb hK hP hD hS 26 gM_26 sM_26 e19 dX9_findNear_90 (fun H locs hP hD hS => ?_)
          refine lv_iinc (v := (x3 + (1 : Int32))) (lv' := [(3, .int (x3 + (1 : Int32))), (4, .int (0 : Int32)), (0, .ref (a 0)), (2, .int x2)]) hx hb dX9_findNear_91 hl (k := 3) rfl rfl (by decide) rfl (fun ls hl => ?_)
          refine lv_goto (tgt := 39) hx hb dX9_findNear_94 (by decide) ?_
          cases hF
          exact ih _ _ _ _ _ _ hgo (Or.inr (Or.inr (Or.inl ⟨rfl, _, _, rfl, lv_sub hl [2, 3, 0] rfl⟩))) hP hD hS
        · rw [if_neg c17] at hF
          refine lv_aload_n hx hb dX9_findNear_81 rfl (lv_at hl 1 rfl) ?_
          obtain ⟨v20, e21, hF⟩ := Option.bind_eq_some_iff.mp hF
          refine z_callVI (w' := (wM cyI cyZ a p14.2)) (As := []) (rest := [.int x3, .ref (a 26)]) ⟨hx, hb, hml, hown, hts⟩ (c_X9_answerOf l D cyI cyZ a A p14.2  _ e21) (cwV 0 hts (gd_V mw_711 mw_712 mw_713 mw_5 mw_714) rfl rfl rfl (by decide +kernel) ⟨Nat.le_of_ble_eq_true rfl, Nat.le_of_ble_eq_true rfl⟩) hK hN hP hD hS 9 0 rfl rfl gM_0 rfl hl.1 rfl (Nat.le_of_ble_eq_true rfl) dX9_findNear_82 ⟨Nat.zero_le _, Nat.zero_le _⟩ (fun H locs hP hD hS => ?_)
          refine lv_goto (tgt := 90) hx hb dX9_findNear_85 (by decide) ?_
          obtain ⟨σ22, e23, hF⟩ := Option.bind_eq_some_iff.mp hF
          refine z_ist (wM cyI cyZ a) hx hb hK hP hD hS 26 gM_26 sM_26 e23 dX9_findNear_90 (fun H locs hP hD hS => ?_)
          refine lv_iinc (v := (x3 + (1 : Int32))) (lv' := [(3, .int (x3 + (1 : Int32))), (4, .int (0 : Int32)), (0, .ref (a 0)), (2, .int x2)]) hx hb dX9_findNear_91 hl (k := 3) rfl rfl (by decide) rfl (fun ls hl => ?_)
          refine lv_goto (tgt := 39) hx hb dX9_findNear_94 (by decide) ?_
          cases hF
          exact ih _ _ _ _ _ _ hgo (Or.inr (Or.inr (Or.inl ⟨rfl, _, _, rfl, lv_sub hl [2, 3, 0] rfl⟩))) hP hD hS
      · rw [if_neg c16] at hF
        refine lv_iconst (v := (1 : Int32)) hx hb dX9_findNear_64 (by decide) ?_
        refine lv_goto (tgt := 69) hx hb dX9_findNear_65 (by decide) ?_
        refine lv_istore (lv' := [(4, .int (1 : Int32)), (0, .ref (a 0)), (2, .int x2), (3, .int x3)]) hx hb dX9_findNear_69 hl (by decide) rfl (fun ls hl => ?_)
        refine lv_aload_n hx hb dX9_findNear_71 rfl (lv_at hl 1 rfl) ?_
        refine va_get (D := D) (ci := 9) (v := .ref (a 26)) (C := RX9) (T := TX9) (N := 34) hx hb hts inlX9 hown hK hP 0 gM_0 rfl 33 (by decide) (hts _ mw_142) (fun _ h9 => h9) rfl dX9_findNear_72 ?_
        refine lv_iload_n hx hb dX9_findNear_75 rfl (lv_at hl 3 rfl) ?_
        refine lv_iload hx hb dX9_findNear_76 (lv_at hl 0 rfl) ?_
        refine lv_if_eq (tgt := 88) hx hb dX9_findNear_78 (by decide) (fun c24 => ?_) (fun c24 => ?_)
        · rw [if_pos c24] at hF
          refine lv_ldc (v := (-1000000 : Int32)) hx hb hown (hts _ mw_248) dX9_findNear_88 ?_
          obtain ⟨σ25, e26, hF⟩ := Option.bind_eq_some_iff.mp hF
          refine z_ist (wM cyI cyZ a) hx hb hK hP hD hS 26 gM_26 sM_26 e26 dX9_findNear_90 (fun H locs hP hD hS => ?_)
          refine lv_iinc (v := (x3 + (1 : Int32))) (lv' := [(3, .int (x3 + (1 : Int32))), (4, .int (1 : Int32)), (0, .ref (a 0)), (2, .int x2)]) hx hb dX9_findNear_91 hl (k := 3) rfl rfl (by decide) rfl (fun ls hl => ?_)
          refine lv_goto (tgt := 39) hx hb dX9_findNear_94 (by decide) ?_
          cases hF
          exact ih _ _ _ _ _ _ hgo (Or.inr (Or.inr (Or.inl ⟨rfl, _, _, rfl, lv_sub hl [2, 3, 0] rfl⟩))) hP hD hS
        · rw [if_neg c24] at hF
          refine lv_aload_n hx hb dX9_findNear_81 rfl (lv_at hl 1 rfl) ?_
          obtain ⟨v27, e28, hF⟩ := Option.bind_eq_some_iff.mp hF
          refine z_callVI (w' := (wM cyI cyZ a p14.2)) (As := []) (rest := [.int x3, .ref (a 26)]) ⟨hx, hb, hml, hown, hts⟩ (c_X9_answerOf l D cyI cyZ a A p14.2  _ e28) (cwV 0 hts (gd_V mw_711 mw_712 mw_713 mw_5 mw_714) rfl rfl rfl (by decide +kernel) ⟨Nat.le_of_ble_eq_true rfl, Nat.le_of_ble_eq_true rfl⟩) hK hN hP hD hS 9 0 rfl rfl gM_0 rfl hl.1 rfl (Nat.le_of_ble_eq_true rfl) dX9_findNear_82 ⟨Nat.zero_le _, Nat.zero_le _⟩ (fun H locs hP hD hS => ?_)
          refine lv_goto (tgt := 90) hx hb dX9_findNear_85 (by decide) ?_
          obtain ⟨σ29, e30, hF⟩ := Option.bind_eq_some_iff.mp hF
          refine z_ist (wM cyI cyZ a) hx hb hK hP hD hS 26 gM_26 sM_26 e30 dX9_findNear_90 (fun H locs hP hD hS => ?_)
          refine lv_iinc (v := (x3 + (1 : Int32))) (lv' := [(3, .int (x3 + (1 : Int32))), (4, .int (1 : Int32)), (0, .ref (a 0)), (2, .int x2)]) hx hb dX9_findNear_91 hl (k := 3) rfl rfl (by decide) rfl (fun ls hl => ?_)
          refine lv_goto (tgt := 39) hx hb dX9_findNear_94 (by decide) ?_
          cases hF
          exact ih _ _ _ _ _ _ hgo (Or.inr (Or.inr (Or.inl ⟨rfl, _, _, rfl, lv_sub hl [2, 3, 0] rfl⟩))) hP hD hS
set_option maxHeartbeats 4000000 in
set_option maxRecDepth 100000 in
theorem wl_X9_findNear_99 (σ : Mem) (hC : CX p c cX9_findNear meth (some .int) s m args yX9_findNear.cls 5 D cyI cyZ) (hq : extM q = some (r, σ')) (n : Nat) (ih : ∀ (pc : Nat) (x : Mem) (vs : List Int32) (ls : Array Slot) (H : Heap) (locs : List Loc), goL B_X9_findNear n pc x vs = some q → SH_X9_findNear a ls pc vs → va_P D vwCl (wM cyI cyZ a x) H → va_D A (wM cyI cyZ a x) → va_S A s.heap H locs → W p l e (headSpec ts_X9_findNear ({ frames := 5, cells := 0, slots := 0, locals := 120 } : Room)).room s m args below meth c H locs 0 0 (MQ below (QcI D cyI cyZ A (wM cyI cyZ a σ') r) args s 0 0 A) (F0 m pc ls [])) (x2 : Int32) (x3 : Int32) (ls : Array Slot) (H : Heap) (locs : List Loc) (hgo : goL B_X9_findNear (n + 1) 99 σ [x2, x3] = some q) (hl : lv_has ls 5 [(0, .ref (a 0)), (2, .int x2), (3, .int x3)]) (hP : va_P D vwCl (wM cyI cyZ a σ) H) (hD : va_D A (wM cyI cyZ a σ)) (hS : va_S A s.heap H locs) : W p l e (headSpec ts_X9_findNear ({ frames := 5, cells := 0, slots := 0, locals := 120 } : Room)).room s m args below meth c H locs 0 0 (MQ below (QcI D cyI cyZ A (wM cyI cyZ a σ') r) args s 0 0 A) (F0 m 99 ls []) := by
  obtain ⟨hx, hb, hr, hml, hown, hts, hK, hN, hlocks⟩ := hC
  have hown : s.vm.findClass RX9 = some m.cls := hown
  obtain ⟨yy, hF, hgo⟩ := goL_step (by decide) hgo
  have hF : B_X9_findNear_99 σ x2 x3 = some yy := hF
  unfold B_X9_findNear_99 at hF
  refine lv_iload_n hx hb dX9_findNear_99 rfl (lv_at hl 2 rfl) ?_
  refine lv_sipush (v := (16384 : Int32)) hx hb dX9_findNear_100 (by decide) ?_
  refine lv_icmp_ge (tgt := 119) hx hb dX9_findNear_103 (by decide) (fun c1 => ?_) (fun c1 => ?_)
  · rw [if_pos c1] at hF
    refine lv_iconst (v := (0 : Int32)) hx hb dX9_findNear_119 (by decide) ?_
    refine lv_istore_n (lv' := [(3, .int (0 : Int32)), (0, .ref (a 0)), (2, .int x2)]) hx hb dX9_findNear_120 rfl hl (by decide) rfl (fun ls hl => ?_)
    cases hF
    exact ih _ _ _ _ _ _ hgo (Or.inr (Or.inr (Or.inr (Or.inr (Or.inl ⟨rfl, _, _, rfl, lv_sub hl [1, 2, 0] rfl⟩))))) hP hD hS
  · rw [if_neg c1] at hF
    refine lv_aload_n hx hb dX9_findNear_106 rfl (lv_at hl 0 rfl) ?_
    refine va_get (D := D) (ci := 9) (v := .ref (a 18)) (C := RX9) (T := TX9) (N := 34) hx hb hts inlX9 hown hK hP 0 gM_0 rfl 19 (by decide) (hts _ mw_134) (fun _ h9 => h9) rfl dX9_findNear_107 ?_
    refine lv_iload_n hx hb dX9_findNear_110 rfl (lv_at hl 2 rfl) ?_
    refine lv_iconst (v := (-1 : Int32)) hx hb dX9_findNear_111 (by decide) ?_
    obtain ⟨σ2, e3, hF⟩ := Option.bind_eq_some_iff.mp hF
    refine z_ist (wM cyI cyZ a) hx hb hK hP hD hS 18 gM_18 sM_18 e3 dX9_findNear_112 (fun H locs hP hD hS => ?_)
    refine lv_iinc (v := (x3 + (1 : Int32))) (lv' := [(3, .int (x3 + (1 : Int32))), (0, .ref (a 0)), (2, .int x2)]) hx hb dX9_findNear_113 hl (k := 2) rfl rfl (by decide) rfl (fun ls hl => ?_)
    refine lv_goto (tgt := 99) hx hb dX9_findNear_116 (by decide) ?_
    cases hF
    exact ih _ _ _ _ _ _ hgo (Or.inr (Or.inr (Or.inr (Or.inl ⟨rfl, _, _, rfl, lv_sub hl [1, 2, 0] rfl⟩)))) hP hD hS
set_option maxHeartbeats 4000000 in
set_option maxRecDepth 100000 in
theorem wl_X9_findNear_121 (σ : Mem) (hC : CX p c cX9_findNear meth (some .int) s m args yX9_findNear.cls 5 D cyI cyZ) (hq : extM q = some (r, σ')) (n : Nat) (ih : ∀ (pc : Nat) (x : Mem) (vs : List Int32) (ls : Array Slot) (H : Heap) (locs : List Loc), goL B_X9_findNear n pc x vs = some q → SH_X9_findNear a ls pc vs → va_P D vwCl (wM cyI cyZ a x) H → va_D A (wM cyI cyZ a x) → va_S A s.heap H locs → W p l e (headSpec ts_X9_findNear ({ frames := 5, cells := 0, slots := 0, locals := 120 } : Room)).room s m args below meth c H locs 0 0 (MQ below (QcI D cyI cyZ A (wM cyI cyZ a σ') r) args s 0 0 A) (F0 m pc ls [])) (x2 : Int32) (x3 : Int32) (ls : Array Slot) (H : Heap) (locs : List Loc) (hgo : goL B_X9_findNear (n + 1) 121 σ [x2, x3] = some q) (hl : lv_has ls 5 [(0, .ref (a 0)), (2, .int x2), (3, .int x3)]) (hP : va_P D vwCl (wM cyI cyZ a σ) H) (hD : va_D A (wM cyI cyZ a σ)) (hS : va_S A s.heap H locs) : W p l e (headSpec ts_X9_findNear ({ frames := 5, cells := 0, slots := 0, locals := 120 } : Room)).room s m args below meth c H locs 0 0 (MQ below (QcI D cyI cyZ A (wM cyI cyZ a σ') r) args s 0 0 A) (F0 m 121 ls []) := by
  obtain ⟨hx, hb, hr, hml, hown, hts, hK, hN, hlocks⟩ := hC
  have hown : s.vm.findClass RX9 = some m.cls := hown
  obtain ⟨yy, hF, hgo⟩ := goL_step (by decide) hgo
  have hF : B_X9_findNear_121 σ x2 x3 = some yy := hF
  unfold B_X9_findNear_121 at hF
  refine lv_iload_n hx hb dX9_findNear_121 rfl (lv_at hl 2 rfl) ?_
  refine lv_iload_n hx hb dX9_findNear_122 rfl (lv_at hl 1 rfl) ?_
  refine lv_icmp_ge (tgt := 235) hx hb dX9_findNear_123 (by decide) (fun c1 => ?_) (fun c1 => ?_)
  · rw [if_pos c1] at hF
    refine lv_iload_n hx hb dX9_findNear_235 rfl (lv_at hl 1 rfl) ?_
    cases hF
    obtain ⟨rfl, rfl⟩ := extM_ret hq (goL_ret hgo)
    exact z_iret hx hb hr hlocks hK hP hD hS dX9_findNear_236
  · rw [if_neg c1] at hF
    refine lv_aload_n hx hb dX9_findNear_126 rfl (lv_at hl 0 rfl) ?_
    refine va_get (D := D) (ci := 9) (v := .ref (a 26)) (C := RX9) (T := TX9) (N := 34) hx hb hts inlX9 hown hK hP 0 gM_0 rfl 33 (by decide) (hts _ mw_142) (fun _ h9 => h9) rfl dX9_findNear_127 ?_
    refine lv_iload_n hx hb dX9_findNear_130 rfl (lv_at hl 2 rfl) ?_
    obtain ⟨v2, e3, hF⟩ := Option.bind_eq_some_iff.mp hF
    refine z_ild hx hb hK hP 26 gM_26 e3 dX9_findNear_131 ?_
    refine lv_ldc (v := (40503 : Int32)) hx hb hown (hts _ mw_768) dX9_findNear_132 ?_
    refine lv_imul hx hb dX9_findNear_134 ?_
    refine lv_bipush (v := (7 : Int32)) hx hb dX9_findNear_135 (by decide) ?_
    refine lv_iushr hx hb dX9_findNear_137 rfl ?_
    refine lv_sipush (v := (16383 : Int32)) hx hb dX9_findNear_138 (by decide) ?_
    refine lv_iand hx hb dX9_findNear_141 ?_
    obtain ⟨y4, e5, hF⟩ := Option.bind_eq_some_iff.mp hF
    refine z_top e5 ?_
    refine lv_istore (lv' := [(4, .int y4), (0, .ref (a 0)), (2, .int x2), (3, .int x3)]) hx hb dX9_findNear_142 hl (by decide) rfl (fun ls hl => ?_)
    cases hF
    exact ih _ _ _ _ _ _ hgo (Or.inr (Or.inr (Or.inr (Or.inr (Or.inr (⟨rfl, _, _, _, rfl, lv_sub hl [1, 2, 3, 0] rfl⟩)))))) hP hD hS
set_option maxHeartbeats 4000000 in
set_option maxRecDepth 100000 in
theorem wl_X9_findNear_144 (σ : Mem) (hC : CX p c cX9_findNear meth (some .int) s m args yX9_findNear.cls 5 D cyI cyZ) (hq : extM q = some (r, σ')) (n : Nat) (ih : ∀ (pc : Nat) (x : Mem) (vs : List Int32) (ls : Array Slot) (H : Heap) (locs : List Loc), goL B_X9_findNear n pc x vs = some q → SH_X9_findNear a ls pc vs → va_P D vwCl (wM cyI cyZ a x) H → va_D A (wM cyI cyZ a x) → va_S A s.heap H locs → W p l e (headSpec ts_X9_findNear ({ frames := 5, cells := 0, slots := 0, locals := 120 } : Room)).room s m args below meth c H locs 0 0 (MQ below (QcI D cyI cyZ A (wM cyI cyZ a σ') r) args s 0 0 A) (F0 m pc ls [])) (x2 : Int32) (x3 : Int32) (x4 : Int32) (ls : Array Slot) (H : Heap) (locs : List Loc) (hgo : goL B_X9_findNear (n + 1) 144 σ [x2, x3, x4] = some q) (hl : lv_has ls 5 [(0, .ref (a 0)), (2, .int x2), (3, .int x3), (4, .int x4)]) (hP : va_P D vwCl (wM cyI cyZ a σ) H) (hD : va_D A (wM cyI cyZ a σ)) (hS : va_S A s.heap H locs) : W p l e (headSpec ts_X9_findNear ({ frames := 5, cells := 0, slots := 0, locals := 120 } : Room)).room s m args below meth c H locs 0 0 (MQ below (QcI D cyI cyZ A (wM cyI cyZ a σ') r) args s 0 0 A) (F0 m 144 ls []) := by
  obtain ⟨hx, hb, hr, hml, hown, hts, hK, hN, hlocks⟩ := hC
  have hown : s.vm.findClass RX9 = some m.cls := hown
  obtain ⟨yy, hF, hgo⟩ := goL_step (by decide) hgo
  have hF : B_X9_findNear_144 σ x2 x3 x4 = some yy := hF
  unfold B_X9_findNear_144 at hF
  refine lv_aload_n hx hb dX9_findNear_144 rfl (lv_at hl 0 rfl) ?_
  refine va_get (D := D) (ci := 9) (v := .ref (a 18)) (C := RX9) (T := TX9) (N := 34) hx hb hts inlX9 hown hK hP 0 gM_0 rfl 19 (by decide) (hts _ mw_134) (fun _ h9 => h9) rfl dX9_findNear_145 ?_
  refine lv_iload hx hb dX9_findNear_148 (lv_at hl 3 rfl) ?_
  obtain ⟨v1, e2, hF⟩ := Option.bind_eq_some_iff.mp hF
  refine z_ild hx hb hK hP 18 gM_18 e2 dX9_findNear_150 ?_
  refine lv_if_lt (tgt := 188) hx hb dX9_findNear_151 (by decide) (fun c3 => ?_) (fun c3 => ?_)
  · rw [if_pos c3] at hF
    refine lv_aload_n hx hb dX9_findNear_188 rfl (lv_at hl 0 rfl) ?_
    refine va_get (D := D) (ci := 9) (v := .ref (a 18)) (C := RX9) (T := TX9) (N := 34) hx hb hts inlX9 hown hK hP 0 gM_0 rfl 19 (by decide) (hts _ mw_134) (fun _ h9 => h9) rfl dX9_findNear_189 ?_
    refine lv_iload hx hb dX9_findNear_192 (lv_at hl 3 rfl) ?_
    refine lv_aload_n hx hb dX9_findNear_194 rfl (lv_at hl 0 rfl) ?_
    refine va_get (D := D) (ci := 9) (v := .ref (a 18)) (C := RX9) (T := TX9) (N := 34) hx hb hts inlX9 hown hK hP 0 gM_0 rfl 19 (by decide) (hts _ mw_134) (fun _ h9 => h9) rfl dX9_findNear_195 ?_
    refine lv_iload hx hb dX9_findNear_198 (lv_at hl 3 rfl) ?_
    obtain ⟨v4, e5, hF⟩ := Option.bind_eq_some_iff.mp hF
    refine z_ild hx hb hK hP 18 gM_18 e5 dX9_findNear_200 ?_
    refine lv_if_ge (tgt := 208) hx hb dX9_findNear_201 (by decide) (fun c6 => ?_) (fun c6 => ?_)
    · rw [if_pos c6] at hF
      refine lv_aload_n hx hb dX9_findNear_208 rfl (lv_at hl 0 rfl) ?_
      refine va_get (D := D) (ci := 9) (v := .ref (a 18)) (C := RX9) (T := TX9) (N := 34) hx hb hts inlX9 hown hK hP 0 gM_0 rfl 19 (by decide) (hts _ mw_134) (fun _ h9 => h9) rfl dX9_findNear_209 ?_
      refine lv_iload hx hb dX9_findNear_212 (lv_at hl 3 rfl) ?_
      obtain ⟨v7, e8, hF⟩ := Option.bind_eq_some_iff.mp hF
      refine z_ild hx hb hK hP 18 gM_18 e8 dX9_findNear_214 ?_
      obtain ⟨σ9, e10, hF⟩ := Option.bind_eq_some_iff.mp hF
      refine z_ist (wM cyI cyZ a) hx hb hK hP hD hS 18 gM_18 sM_18 e10 dX9_findNear_215 (fun H locs hP hD hS => ?_)
      refine lv_aload_n hx hb dX9_findNear_216 rfl (lv_at hl 0 rfl) ?_
      refine va_get (D := D) (ci := 9) (v := .ref (a 19)) (C := RX9) (T := TX9) (N := 34) hx hb hts inlX9 hown hK hP 0 gM_0 rfl 20 (by decide) (hts _ mw_135) (fun _ h9 => h9) rfl dX9_findNear_217 ?_
      refine lv_iload_n hx hb dX9_findNear_220 rfl (lv_at hl 2 rfl) ?_
      refine lv_aload_n hx hb dX9_findNear_221 rfl (lv_at hl 0 rfl) ?_
      refine va_get (D := D) (ci := 9) (v := .ref (a 18)) (C := RX9) (T := TX9) (N := 34) hx hb hts inlX9 hown hK hP 0 gM_0 rfl 19 (by decide) (hts _ mw_134) (fun _ h9 => h9) rfl dX9_findNear_222 ?_
      refine lv_iload hx hb dX9_findNear_225 (lv_at hl 3 rfl) ?_
      obtain ⟨v11, e12, hF⟩ := Option.bind_eq_some_iff.mp hF
      refine z_ild hx hb hK hP 18 gM_18 e12 dX9_findNear_227 ?_
      obtain ⟨σ13, e14, hF⟩ := Option.bind_eq_some_iff.mp hF
      refine z_ist (wM cyI cyZ a) hx hb hK hP hD hS 19 gM_19 sM_19 e14 dX9_findNear_228 (fun H locs hP hD hS => ?_)
      refine lv_iinc (v := (x3 + (1 : Int32))) (lv' := [(3, .int (x3 + (1 : Int32))), (0, .ref (a 0)), (2, .int x2), (4, .int x4)]) hx hb dX9_findNear_229 hl (k := 2) rfl rfl (by decide) rfl (fun ls hl => ?_)
      refine lv_goto (tgt := 121) hx hb dX9_findNear_232 (by decide) ?_
      cases hF
      exact ih _ _ _ _ _ _ hgo (Or.inr (Or.inr (Or.inr (Or.inr (Or.inl ⟨rfl, _, _, rfl, lv_sub hl [1, 2, 0] rfl⟩))))) hP hD hS
    · rw [if_neg c6] at hF
      refine lv_iload_n hx hb dX9_findNear_204 rfl (lv_at hl 2 rfl) ?_
      refine lv_goto (tgt := 215) hx hb dX9_findNear_205 (by decide) ?_
      obtain ⟨σ15, e16, hF⟩ := Option.bind_eq_some_iff.mp hF
      refine z_ist (wM cyI cyZ a) hx hb hK hP hD hS 18 gM_18 sM_18 e16 dX9_findNear_215 (fun H locs hP hD hS => ?_)
      refine lv_aload_n hx hb dX9_findNear_216 rfl (lv_at hl 0 rfl) ?_
      refine va_get (D := D) (ci := 9) (v := .ref (a 19)) (C := RX9) (T := TX9) (N := 34) hx hb hts inlX9 hown hK hP 0 gM_0 rfl 20 (by decide) (hts _ mw_135) (fun _ h9 => h9) rfl dX9_findNear_217 ?_
      refine lv_iload_n hx hb dX9_findNear_220 rfl (lv_at hl 2 rfl) ?_
      refine lv_aload_n hx hb dX9_findNear_221 rfl (lv_at hl 0 rfl) ?_
      refine va_get (D := D) (ci := 9) (v := .ref (a 18)) (C := RX9) (T := TX9) (N := 34) hx hb hts inlX9 hown hK hP 0 gM_0 rfl 19 (by decide) (hts _ mw_134) (fun _ h9 => h9) rfl dX9_findNear_222 ?_
      refine lv_iload hx hb dX9_findNear_225 (lv_at hl 3 rfl) ?_
      obtain ⟨v17, e18, hF⟩ := Option.bind_eq_some_iff.mp hF
      refine z_ild hx hb hK hP 18 gM_18 e18 dX9_findNear_227 ?_
      obtain ⟨σ19, e20, hF⟩ := Option.bind_eq_some_iff.mp hF
      refine z_ist (wM cyI cyZ a) hx hb hK hP hD hS 19 gM_19 sM_19 e20 dX9_findNear_228 (fun H locs hP hD hS => ?_)
      refine lv_iinc (v := (x3 + (1 : Int32))) (lv' := [(3, .int (x3 + (1 : Int32))), (0, .ref (a 0)), (2, .int x2), (4, .int x4)]) hx hb dX9_findNear_229 hl (k := 2) rfl rfl (by decide) rfl (fun ls hl => ?_)
      refine lv_goto (tgt := 121) hx hb dX9_findNear_232 (by decide) ?_
      cases hF
      exact ih _ _ _ _ _ _ hgo (Or.inr (Or.inr (Or.inr (Or.inr (Or.inl ⟨rfl, _, _, rfl, lv_sub hl [1, 2, 0] rfl⟩))))) hP hD hS
  · rw [if_neg c3] at hF
    refine lv_aload_n hx hb dX9_findNear_154 rfl (lv_at hl 0 rfl) ?_
    refine va_get (D := D) (ci := 9) (v := .ref (a 26)) (C := RX9) (T := TX9) (N := 34) hx hb hts inlX9 hown hK hP 0 gM_0 rfl 33 (by decide) (hts _ mw_142) (fun _ h9 => h9) rfl dX9_findNear_155 ?_
    refine lv_aload_n hx hb dX9_findNear_158 rfl (lv_at hl 0 rfl) ?_
    refine va_get (D := D) (ci := 9) (v := .ref (a 18)) (C := RX9) (T := TX9) (N := 34) hx hb hts inlX9 hown hK hP 0 gM_0 rfl 19 (by decide) (hts _ mw_134) (fun _ h9 => h9) rfl dX9_findNear_159 ?_
    refine lv_iload hx hb dX9_findNear_162 (lv_at hl 3 rfl) ?_
    obtain ⟨v21, e22, hF⟩ := Option.bind_eq_some_iff.mp hF
    refine z_ild hx hb hK hP 18 gM_18 e22 dX9_findNear_164 ?_
    obtain ⟨v23, e24, hF⟩ := Option.bind_eq_some_iff.mp hF
    refine z_ild hx hb hK hP 26 gM_26 e24 dX9_findNear_165 ?_
    refine lv_aload_n hx hb dX9_findNear_166 rfl (lv_at hl 0 rfl) ?_
    refine va_get (D := D) (ci := 9) (v := .ref (a 26)) (C := RX9) (T := TX9) (N := 34) hx hb hts inlX9 hown hK hP 0 gM_0 rfl 33 (by decide) (hts _ mw_142) (fun _ h9 => h9) rfl dX9_findNear_167 ?_
    refine lv_iload_n hx hb dX9_findNear_170 rfl (lv_at hl 2 rfl) ?_
    obtain ⟨v25, e26, hF⟩ := Option.bind_eq_some_iff.mp hF
    refine z_ild hx hb hK hP 26 gM_26 e26 dX9_findNear_171 ?_
    refine lv_icmp_eq (tgt := 188) hx hb dX9_findNear_172 (by decide) (fun c27 => ?_) (fun c27 => ?_)
    · rw [if_pos c27] at hF
      refine lv_aload_n hx hb dX9_findNear_188 rfl (lv_at hl 0 rfl) ?_
      refine va_get (D := D) (ci := 9) (v := .ref (a 18)) (C := RX9) (T := TX9) (N := 34) hx hb hts inlX9 hown hK hP 0 gM_0 rfl 19 (by decide) (hts _ mw_134) (fun _ h9 => h9) rfl dX9_findNear_189 ?_
      refine lv_iload hx hb dX9_findNear_192 (lv_at hl 3 rfl) ?_
      refine lv_aload_n hx hb dX9_findNear_194 rfl (lv_at hl 0 rfl) ?_
      refine va_get (D := D) (ci := 9) (v := .ref (a 18)) (C := RX9) (T := TX9) (N := 34) hx hb hts inlX9 hown hK hP 0 gM_0 rfl 19 (by decide) (hts _ mw_134) (fun _ h9 => h9) rfl dX9_findNear_195 ?_
      refine lv_iload hx hb dX9_findNear_198 (lv_at hl 3 rfl) ?_
      obtain ⟨v28, e29, hF⟩ := Option.bind_eq_some_iff.mp hF
      refine z_ild hx hb hK hP 18 gM_18 e29 dX9_findNear_200 ?_
      refine lv_if_ge (tgt := 208) hx hb dX9_findNear_201 (by decide) (fun c30 => ?_) (fun c30 => ?_)
      · rw [if_pos c30] at hF
        refine lv_aload_n hx hb dX9_findNear_208 rfl (lv_at hl 0 rfl) ?_
        refine va_get (D := D) (ci := 9) (v := .ref (a 18)) (C := RX9) (T := TX9) (N := 34) hx hb hts inlX9 hown hK hP 0 gM_0 rfl 19 (by decide) (hts _ mw_134) (fun _ h9 => h9) rfl dX9_findNear_209 ?_
        refine lv_iload hx hb dX9_findNear_212 (lv_at hl 3 rfl) ?_
        obtain ⟨v31, e32, hF⟩ := Option.bind_eq_some_iff.mp hF
        refine z_ild hx hb hK hP 18 gM_18 e32 dX9_findNear_214 ?_
        obtain ⟨σ33, e34, hF⟩ := Option.bind_eq_some_iff.mp hF
        refine z_ist (wM cyI cyZ a) hx hb hK hP hD hS 18 gM_18 sM_18 e34 dX9_findNear_215 (fun H locs hP hD hS => ?_)
        refine lv_aload_n hx hb dX9_findNear_216 rfl (lv_at hl 0 rfl) ?_
        refine va_get (D := D) (ci := 9) (v := .ref (a 19)) (C := RX9) (T := TX9) (N := 34) hx hb hts inlX9 hown hK hP 0 gM_0 rfl 20 (by decide) (hts _ mw_135) (fun _ h9 => h9) rfl dX9_findNear_217 ?_
        refine lv_iload_n hx hb dX9_findNear_220 rfl (lv_at hl 2 rfl) ?_
        refine lv_aload_n hx hb dX9_findNear_221 rfl (lv_at hl 0 rfl) ?_
        refine va_get (D := D) (ci := 9) (v := .ref (a 18)) (C := RX9) (T := TX9) (N := 34) hx hb hts inlX9 hown hK hP 0 gM_0 rfl 19 (by decide) (hts _ mw_134) (fun _ h9 => h9) rfl dX9_findNear_222 ?_
        refine lv_iload hx hb dX9_findNear_225 (lv_at hl 3 rfl) ?_
        obtain ⟨v35, e36, hF⟩ := Option.bind_eq_some_iff.mp hF
        refine z_ild hx hb hK hP 18 gM_18 e36 dX9_findNear_227 ?_
        obtain ⟨σ37, e38, hF⟩ := Option.bind_eq_some_iff.mp hF
        refine z_ist (wM cyI cyZ a) hx hb hK hP hD hS 19 gM_19 sM_19 e38 dX9_findNear_228 (fun H locs hP hD hS => ?_)
        refine lv_iinc (v := (x3 + (1 : Int32))) (lv' := [(3, .int (x3 + (1 : Int32))), (0, .ref (a 0)), (2, .int x2), (4, .int x4)]) hx hb dX9_findNear_229 hl (k := 2) rfl rfl (by decide) rfl (fun ls hl => ?_)
        refine lv_goto (tgt := 121) hx hb dX9_findNear_232 (by decide) ?_
        cases hF
        exact ih _ _ _ _ _ _ hgo (Or.inr (Or.inr (Or.inr (Or.inr (Or.inl ⟨rfl, _, _, rfl, lv_sub hl [1, 2, 0] rfl⟩))))) hP hD hS
      · rw [if_neg c30] at hF
        refine lv_iload_n hx hb dX9_findNear_204 rfl (lv_at hl 2 rfl) ?_
        refine lv_goto (tgt := 215) hx hb dX9_findNear_205 (by decide) ?_
        obtain ⟨σ39, e40, hF⟩ := Option.bind_eq_some_iff.mp hF
        refine z_ist (wM cyI cyZ a) hx hb hK hP hD hS 18 gM_18 sM_18 e40 dX9_findNear_215 (fun H locs hP hD hS => ?_)
        refine lv_aload_n hx hb dX9_findNear_216 rfl (lv_at hl 0 rfl) ?_
        refine va_get (D := D) (ci := 9) (v := .ref (a 19)) (C := RX9) (T := TX9) (N := 34) hx hb hts inlX9 hown hK hP 0 gM_0 rfl 20 (by decide) (hts _ mw_135) (fun _ h9 => h9) rfl dX9_findNear_217 ?_
        refine lv_iload_n hx hb dX9_findNear_220 rfl (lv_at hl 2 rfl) ?_
        refine lv_aload_n hx hb dX9_findNear_221 rfl (lv_at hl 0 rfl) ?_
        refine va_get (D := D) (ci := 9) (v := .ref (a 18)) (C := RX9) (T := TX9) (N := 34) hx hb hts inlX9 hown hK hP 0 gM_0 rfl 19 (by decide) (hts _ mw_134) (fun _ h9 => h9) rfl dX9_findNear_222 ?_
        refine lv_iload hx hb dX9_findNear_225 (lv_at hl 3 rfl) ?_
        obtain ⟨v41, e42, hF⟩ := Option.bind_eq_some_iff.mp hF
        refine z_ild hx hb hK hP 18 gM_18 e42 dX9_findNear_227 ?_
        obtain ⟨σ43, e44, hF⟩ := Option.bind_eq_some_iff.mp hF
        refine z_ist (wM cyI cyZ a) hx hb hK hP hD hS 19 gM_19 sM_19 e44 dX9_findNear_228 (fun H locs hP hD hS => ?_)
        refine lv_iinc (v := (x3 + (1 : Int32))) (lv' := [(3, .int (x3 + (1 : Int32))), (0, .ref (a 0)), (2, .int x2), (4, .int x4)]) hx hb dX9_findNear_229 hl (k := 2) rfl rfl (by decide) rfl (fun ls hl => ?_)
        refine lv_goto (tgt := 121) hx hb dX9_findNear_232 (by decide) ?_
        cases hF
        exact ih _ _ _ _ _ _ hgo (Or.inr (Or.inr (Or.inr (Or.inr (Or.inl ⟨rfl, _, _, rfl, lv_sub hl [1, 2, 0] rfl⟩))))) hP hD hS
    · rw [if_neg c27] at hF
      refine lv_iload hx hb dX9_findNear_175 (lv_at hl 3 rfl) ?_
      refine lv_iconst (v := (1 : Int32)) hx hb dX9_findNear_177 (by decide) ?_
      refine lv_iadd hx hb dX9_findNear_178 ?_
      refine lv_sipush (v := (16383 : Int32)) hx hb dX9_findNear_179 (by decide) ?_
      refine lv_iand hx hb dX9_findNear_182 ?_
      refine lv_istore (lv' := [(4, .int ((x4 + (1 : Int32)) &&& (16383 : Int32))), (0, .ref (a 0)), (2, .int x2), (3, .int x3)]) hx hb dX9_findNear_183 hl (by decide) rfl (fun ls hl => ?_)
      refine lv_goto (tgt := 144) hx hb dX9_findNear_185 (by decide) ?_
      cases hF
      exact ih _ _ _ _ _ _ hgo (Or.inr (Or.inr (Or.inr (Or.inr (Or.inr (⟨rfl, _, _, _, rfl, lv_sub hl [1, 2, 3, 0] rfl⟩)))))) hP hD hS
theorem wk_X9_findNear (hC : CX p c cX9_findNear meth (some .int) s m args yX9_findNear.cls 5 D cyI cyZ) (hq : extM q = some (r, σ')) : ∀ (n : Nat), ∀ (pc : Nat) (x : Mem) (vs : List Int32) (ls : Array Slot) (H : Heap) (locs : List Loc), goL B_X9_findNear n pc x vs = some q → SH_X9_findNear a ls pc vs → va_P D vwCl (wM cyI cyZ a x) H → va_D A (wM cyI cyZ a x) → va_S A s.heap H locs → W p l e (headSpec ts_X9_findNear ({ frames := 5, cells := 0, slots := 0, locals := 120 } : Room)).room s m args below meth c H locs 0 0 (MQ below (QcI D cyI cyZ A (wM cyI cyZ a σ') r) args s 0 0 A) (F0 m pc ls []) := by
  intro n
  induction n with
  | zero => intro pc x vs ls H locs h; exact absurd h (by simp [goL])
  | succ n ih =>
    intro pc x vs ls H locs hgo hsh hP hD hS
    rcases hsh with ⟨rfl, x1, rfl, hl⟩ | ⟨rfl, x1, x2, rfl, hl⟩ | ⟨rfl, x2, x3, rfl, hl⟩ | ⟨rfl, x2, x3, rfl, hl⟩ | ⟨rfl, x2, x3, rfl, hl⟩ | ⟨rfl, x2, x3, x4, rfl, hl⟩
    · exact wl_X9_findNear_0 x hC hq n ih x1 ls H locs hgo hl hP hD hS
    · exact wl_X9_findNear_6 x hC hq n ih x1 x2 ls H locs hgo hl hP hD hS
    · exact wl_X9_findNear_39 x hC hq n ih x2 x3 ls H locs hgo hl hP hD hS
    · exact wl_X9_findNear_99 x hC hq n ih x2 x3 ls H locs hgo hl hP hD hS
    · exact wl_X9_findNear_121 x hC hq n ih x2 x3 ls H locs hgo hl hP hD hS
    · exact wl_X9_findNear_144 x hC hq n ih x2 x3 x4 ls H locs hgo hl hP hD hS
end
theorem c_X9_findNear (l : Launch) (D : va_G) (cyI cyZ : ClassId) (a : Nat → Nat) (A : Nat → Prop) (σ : Mem) (x1 : Int32) (r : Int32) (σ' : Mem) (hF : F_X9_findNear σ x1 = some (r, σ')) : CtI l yX9_findNear ts_X9_findNear ({ frames := 5, cells := 0, slots := 0, locals := 120 } : Room) [.ref (a 0), .int x1] D cyI cyZ A (wM cyI cyZ a σ) (wM cyI cyZ a σ') r := by
  refine CtI.of (cc := cX9_findNear) (maxL := 5) (ret := (some .int)) (by decide) rfl (Nat.le_of_ble_eq_true rfl) ?_
  intro p e s m below meth c ls hC hP hD hl
  obtain ⟨q, hq, hr1⟩ := Option.bind_eq_some_iff.mp hF
  obtain ⟨n, hn⟩ := finL_some hq
  exact wk_X9_findNear hC hr1 n 0 _ _ ls _ _ hn (Or.inl ⟨rfl, _, rfl, hl⟩) hP hD va_S.rf
abbrev ts_X9_meaningAt : List Cond := .code yX9_meaningAt cX9_meaningAt 5 (some .int) :: wsL_law
def SH_X9_meaningAt (a : Nat → Nat) (ls : Array Slot) (pc : Nat) (vs : List Int32) : Prop := (pc = 0 ∧ ∃ x1 x2 : Int32, vs = [x1, x2] ∧ lv_has ls 5 [(0, .ref (a 0)), (1, .int x1), (2, .int x2)]) ∨ (pc = 15 ∧ ∃ x2 x3 x4 : Int32, vs = [x2, x3, x4] ∧ lv_has ls 5 [(2, .int x2), (3, .int x3), (4, .int x4)])
section
variable {p : Program} {l : Launch} {e : Env} {s : State} {m : MethodId} {args : Array Value} {below : List Frame} {meth : Method} {c : Code} {D : va_G} {A : Nat → Prop} {a : Nat → Nat} {cyI cyZ : ClassId} {r : Int32} {q : Unit × List Int32}
set_option maxHeartbeats 4000000 in
set_option maxRecDepth 100000 in
theorem wl_X9_meaningAt_0 (σ : Mem) (hC : CX p c cX9_meaningAt meth (some .int) s m args yX9_meaningAt.cls 5 D cyI cyZ) (hq : extR q = some r) (n : Nat) (ih : ∀ (pc : Nat) (x : Unit) (vs : List Int32) (ls : Array Slot) (H : Heap) (locs : List Loc), goL (B_X9_meaningAt σ) n pc x vs = some q → SH_X9_meaningAt a ls pc vs → va_P D vwCl (wM cyI cyZ a σ) H → va_D A (wM cyI cyZ a σ) → va_S A s.heap H locs → W p l e (headSpec ts_X9_meaningAt ({ frames := 0, cells := 0, slots := 0, locals := 0 } : Room)).room s m args below meth c H locs 0 0 (MQ below (QcI D cyI cyZ A (wM cyI cyZ a σ) r) args s 0 0 A) (F0 m pc ls [])) (x1 : Int32) (x2 : Int32) (ls : Array Slot) (H : Heap) (locs : List Loc) (hgo : goL (B_X9_meaningAt σ) (n + 1) 0 () [x1, x2] = some q) (hl : lv_has ls 5 [(0, .ref (a 0)), (1, .int x1), (2, .int x2)]) (hP : va_P D vwCl (wM cyI cyZ a σ) H) (hD : va_D A (wM cyI cyZ a σ)) (hS : va_S A s.heap H locs) : W p l e (headSpec ts_X9_meaningAt ({ frames := 0, cells := 0, slots := 0, locals := 0 } : Room)).room s m args below meth c H locs 0 0 (MQ below (QcI D cyI cyZ A (wM cyI cyZ a σ) r) args s 0 0 A) (F0 m 0 ls []) := by
  obtain ⟨hx, hb, hr, hml, hown, hts, hK, hN, hlocks⟩ := hC
  have hown : s.vm.findClass RX9 = some m.cls := hown
  obtain ⟨yy, hF, hgo⟩ := goL_step (by decide) hgo
  have hF : B_X9_meaningAt_0 σ x1 x2 = some yy := hF
  unfold B_X9_meaningAt_0 at hF
  refine lv_aload_n hx hb dX9_meaningAt_0 rfl (lv_at hl 0 rfl) ?_
  refine va_get (D := D) (ci := 9) (v := .ref (a 13)) (C := RX9) (T := TX9) (N := 34) hx hb hts inlX9 hown hK hP 0 gM_0 rfl 14 (by decide) (hts _ mw_129) (fun _ h9 => h9) rfl dX9_meaningAt_1 ?_
  refine lv_iload_n hx hb dX9_meaningAt_4 rfl (lv_at hl 1 rfl) ?_
  obtain ⟨v1, e2, hF⟩ := Option.bind_eq_some_iff.mp hF
  refine z_ild hx hb hK hP 13 gM_13 e2 dX9_meaningAt_5 ?_
  refine lv_istore_n (lv' := [(3, .int v1), (0, .ref (a 0)), (1, .int x1), (2, .int x2)]) hx hb dX9_meaningAt_6 rfl hl (by decide) rfl (fun ls hl => ?_)
  refine lv_aload_n hx hb dX9_meaningAt_7 rfl (lv_at hl 1 rfl) ?_
  refine va_get (D := D) (ci := 9) (v := .int (σ 0 13)) (C := RX9) (T := TX9) (N := 34) hx hb hts inlX9 hown hK hP 0 gM_0 rfl 13 (by decide) (hts _ mw_360) (fun _ h9 => h9) rfl dX9_meaningAt_8 ?_
  refine lv_iconst (v := (1 : Int32)) hx hb dX9_meaningAt_11 (by decide) ?_
  refine lv_isub hx hb dX9_meaningAt_12 ?_
  refine lv_istore (lv' := [(4, .int ((σ 0 13) - (1 : Int32))), (3, .int v1), (0, .ref (a 0)), (1, .int x1), (2, .int x2)]) hx hb dX9_meaningAt_13 hl (by decide) rfl (fun ls hl => ?_)
  cases hF
  exact ih _ _ _ _ _ _ hgo (Or.inr (⟨rfl, _, _, _, rfl, lv_sub hl [4, 1, 0] rfl⟩)) hP hD hS
set_option maxHeartbeats 4000000 in
set_option maxRecDepth 100000 in
theorem wl_X9_meaningAt_15 (σ : Mem) (hC : CX p c cX9_meaningAt meth (some .int) s m args yX9_meaningAt.cls 5 D cyI cyZ) (hq : extR q = some r) (n : Nat) (ih : ∀ (pc : Nat) (x : Unit) (vs : List Int32) (ls : Array Slot) (H : Heap) (locs : List Loc), goL (B_X9_meaningAt σ) n pc x vs = some q → SH_X9_meaningAt a ls pc vs → va_P D vwCl (wM cyI cyZ a σ) H → va_D A (wM cyI cyZ a σ) → va_S A s.heap H locs → W p l e (headSpec ts_X9_meaningAt ({ frames := 0, cells := 0, slots := 0, locals := 0 } : Room)).room s m args below meth c H locs 0 0 (MQ below (QcI D cyI cyZ A (wM cyI cyZ a σ) r) args s 0 0 A) (F0 m pc ls [])) (x2 : Int32) (x3 : Int32) (x4 : Int32) (ls : Array Slot) (H : Heap) (locs : List Loc) (hgo : goL (B_X9_meaningAt σ) (n + 1) 15 () [x2, x3, x4] = some q) (hl : lv_has ls 5 [(2, .int x2), (3, .int x3), (4, .int x4)]) (hP : va_P D vwCl (wM cyI cyZ a σ) H) (hD : va_D A (wM cyI cyZ a σ)) (hS : va_S A s.heap H locs) : W p l e (headSpec ts_X9_meaningAt ({ frames := 0, cells := 0, slots := 0, locals := 0 } : Room)).room s m args below meth c H locs 0 0 (MQ below (QcI D cyI cyZ A (wM cyI cyZ a σ) r) args s 0 0 A) (F0 m 15 ls []) := by
  obtain ⟨hx, hb, hr, hml, hown, hts, hK, hN, hlocks⟩ := hC
  have hown : s.vm.findClass RX9 = some m.cls := hown
  obtain ⟨yy, hF, hgo⟩ := goL_step (by decide) hgo
  have hF : B_X9_meaningAt_15 σ x2 x3 x4 = some yy := hF
  unfold B_X9_meaningAt_15 at hF
  refine lv_iload hx hb dX9_meaningAt_15 (lv_at hl 2 rfl) ?_
  refine lv_iload_n hx hb dX9_meaningAt_17 rfl (lv_at hl 0 rfl) ?_
  refine lv_icmp_le (tgt := 31) hx hb dX9_meaningAt_18 (by decide) (fun c1 => ?_) (fun c1 => ?_)
  · rw [if_pos c1] at hF
    refine lv_iload_n hx hb dX9_meaningAt_31 rfl (lv_at hl 1 rfl) ?_
    refine lv_iconst (v := (3 : Int32)) hx hb dX9_meaningAt_32 (by decide) ?_
    refine lv_irem hx hb dX9_meaningAt_33 (by decide) ?_
    cases hF
    obtain rfl := extR_ret hq (goL_ret hgo)
    exact z_iret hx hb hr hlocks hK hP hD hS dX9_meaningAt_34
  · rw [if_neg c1] at hF
    refine lv_iload_n hx hb dX9_meaningAt_21 rfl (lv_at hl 1 rfl) ?_
    refine lv_iconst (v := (3 : Int32)) hx hb dX9_meaningAt_22 (by decide) ?_
    refine lv_idiv hx hb dX9_meaningAt_23 (by decide) ?_
    refine lv_istore_n (lv' := [(3, .int (x3 / (3 : Int32))), (2, .int x2), (4, .int x4)]) hx hb dX9_meaningAt_24 rfl hl (by decide) rfl (fun ls hl => ?_)
    refine lv_iinc (v := (x4 + (-1 : Int32))) (lv' := [(4, .int (x4 + (-1 : Int32))), (3, .int (x3 / (3 : Int32))), (2, .int x2)]) hx hb dX9_meaningAt_25 hl (k := 2) rfl rfl (by decide) rfl (fun ls hl => ?_)
    refine lv_goto (tgt := 15) hx hb dX9_meaningAt_28 (by decide) ?_
    cases hF
    exact ih _ _ _ _ _ _ hgo (Or.inr (⟨rfl, _, _, _, rfl, lv_sub hl [2, 1, 0] rfl⟩)) hP hD hS
theorem wk_X9_meaningAt (σ : Mem) (hC : CX p c cX9_meaningAt meth (some .int) s m args yX9_meaningAt.cls 5 D cyI cyZ) (hq : extR q = some r) : ∀ (n : Nat), ∀ (pc : Nat) (x : Unit) (vs : List Int32) (ls : Array Slot) (H : Heap) (locs : List Loc), goL (B_X9_meaningAt σ) n pc x vs = some q → SH_X9_meaningAt a ls pc vs → va_P D vwCl (wM cyI cyZ a σ) H → va_D A (wM cyI cyZ a σ) → va_S A s.heap H locs → W p l e (headSpec ts_X9_meaningAt ({ frames := 0, cells := 0, slots := 0, locals := 0 } : Room)).room s m args below meth c H locs 0 0 (MQ below (QcI D cyI cyZ A (wM cyI cyZ a σ) r) args s 0 0 A) (F0 m pc ls []) := by
  intro n
  induction n with
  | zero => intro pc x vs ls H locs h; exact absurd h (by simp [goL])
  | succ n ih =>
    intro pc x vs ls H locs hgo hsh hP hD hS
    rcases hsh with ⟨rfl, x1, x2, rfl, hl⟩ | ⟨rfl, x2, x3, x4, rfl, hl⟩
    · exact wl_X9_meaningAt_0 σ hC hq n ih x1 x2 ls H locs hgo hl hP hD hS
    · exact wl_X9_meaningAt_15 σ hC hq n ih x2 x3 x4 ls H locs hgo hl hP hD hS
end
theorem c_X9_meaningAt (l : Launch) (D : va_G) (cyI cyZ : ClassId) (a : Nat → Nat) (A : Nat → Prop) (σ : Mem) (x1 : Int32) (x2 : Int32) (r : Int32) (hF : F_X9_meaningAt σ x1 x2 = some r) : CtI l yX9_meaningAt ts_X9_meaningAt ({ frames := 0, cells := 0, slots := 0, locals := 0 } : Room) [.ref (a 0), .int x1, .int x2] D cyI cyZ A (wM cyI cyZ a σ) (wM cyI cyZ a σ) r := by
  refine CtI.of (cc := cX9_meaningAt) (maxL := 5) (ret := (some .int)) (by decide) rfl (Nat.le_of_ble_eq_true rfl) ?_
  intro p e s m below meth c ls hC hP hD hl
  obtain ⟨q, hq, hr1⟩ := Option.bind_eq_some_iff.mp hF
  obtain ⟨n, hn⟩ := finL_some hq
  exact wk_X9_meaningAt σ hC hr1 n 0 _ _ ls _ _ hn (Or.inl ⟨rfl, _, _, rfl, hl⟩) hP hD va_S.rf
