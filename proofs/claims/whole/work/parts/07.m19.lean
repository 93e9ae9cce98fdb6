-- X9_take X9_why X9_count
abbrev ts_X9_take : List Cond := .code yX9_take cX9_take 9 (some .int) :: wsL_law
def SH_X9_take (a : Nat → Nat) (ls : Array Slot) (pc : Nat) (vs : List Int32) : Prop := (pc = 0 ∧ ∃ x1 : Int32, vs = [x1] ∧ lv_has ls 9 [(0, .ref (a 0)), (1, .int x1)]) ∨ (pc = 14 ∧ ∃ x2 x3 : Int32, vs = [x2, x3] ∧ lv_has ls 9 [(0, .ref (a 0)), (2, .int x2), (3, .int x3)]) ∨ (pc = 33 ∧ ∃ x2 x3 x4 x5 : Int32, vs = [x2, x3, x4, x5] ∧ lv_has ls 9 [(0, .ref (a 0)), (2, .int x2), (3, .int x3), (4, .int x4), (5, .int x5)]) ∨ (pc = 86 ∧ ∃ x2 x3 x4 x5 : Int32, vs = [x2, x3, x4, x5] ∧ lv_has ls 9 [(0, .ref (a 0)), (2, .int x2), (3, .int x3), (4, .int x4), (5, .int x5)])
section
variable {p : Program} {l : Launch} {e : Env} {s : State} {m : MethodId} {args : Array Value} {below : List Frame} {meth : Method} {c : Code} {D : va_G} {A : Nat → Prop} {a : Nat → Nat} {cyI cyZ : ClassId} {r : Int32} {σ' : Mem} {q : Mem × List Int32}
set_option maxHeartbeats 4000000 in
set_option maxRecDepth 100000 in
theorem wl_X9_take_0 (σ : Mem) (hC : CX p c cX9_take meth (some .int) s m args yX9_take.cls 9 D cyI cyZ) (hq : extM q = some (r, σ')) (n : Nat) (ih : ∀ (pc : Nat) (x : Mem) (vs : List Int32) (ls : Array Slot) (H : Heap) (locs : List Loc), goL B_X9_take n pc x vs = some q → SH_X9_take a ls pc vs → va_P D vwCl (wM cyI cyZ a x) H → va_D A (wM cyI cyZ a x) → va_S A s.heap H locs → W p l e (headSpec ts_X9_take ({ frames := 5, cells := 0, slots := 0, locals := 113 } : Room)).room s m args below meth c H locs 0 0 (MQ below (QcI D cyI cyZ A (wM cyI cyZ a σ') r) args s 0 0 A) (F0 m pc ls [])) (x1 : Int32) (ls : Array Slot) (H : Heap) (locs : List Loc) (hgo : goL B_X9_take (n + 1) 0 σ [x1] = some q) (hl : lv_has ls 9 [(0, .ref (a 0)), (1, .int x1)]) (hP : va_P D vwCl (wM cyI cyZ a σ) H) (hD : va_D A (wM cyI cyZ a σ)) (hS : va_S A s.heap H locs) : W p l e (headSpec ts_X9_take ({ frames := 5, cells := 0, slots := 0, locals := 113 } : Room)).room s m args below meth c H locs 0 0 (MQ below (QcI D cyI cyZ A (wM cyI cyZ a σ') r) args s 0 0 A) (F0 m 0 ls []) := by
  obtain ⟨hx, hb, hr, hml, hown, hts, hK, hN, hlocks⟩ := hC
  have hown : s.vm.findClass RX9 = some m.cls := hown
  obtain ⟨yy, hF, hgo⟩ := goL_step (by decide) hgo
  have hF : B_X9_take_0 σ x1 = some yy := hF
  unfold B_X9_take_0 at hF
  refine lv_aload_n hx hb dX9_take_0 rfl (lv_at hl 0 rfl) ?_
  refine lv_iload_n hx hb dX9_take_1 rfl (lv_at hl 1 rfl) ?_
  obtain ⟨p1, e2, hF⟩ := Option.bind_eq_some_iff.mp hF
  refine z_callVI (w' := (wM cyI cyZ a p1.2)) (As := [.int x1]) (rest := []) ⟨hx, hb, hml, hown, hts⟩ (c_X9_have l D cyI cyZ a A σ x1 p1.1 p1.2 e2) (cwV 1 hts (gd_V mw_655 mw_656 mw_657 mw_5 mw_658) rfl rfl rfl (by decide +kernel) ⟨Nat.le_of_ble_eq_true rfl, Nat.le_of_ble_eq_true rfl⟩) hK hN hP hD hS 9 0 rfl rfl gM_0 rfl hl.1 rfl (Nat.le_of_ble_eq_true rfl) dX9_take_2 ⟨Nat.zero_le _, Nat.zero_le _⟩ (fun H locs hP hD hS => ?_)
  refine lv_if_ne (tgt := 10) hx hb dX9_take_5 (by decide) (fun c3 => ?_) (fun c3 => ?_)
  · rw [if_neg c3] at hF
    refine lv_iconst (v := (0 : Int32)) hx hb dX9_take_10 (by decide) ?_
    refine lv_istore_n (lv' := [(2, .int (0 : Int32)), (0, .ref (a 0)), (1, .int x1)]) hx hb dX9_take_11 rfl hl (by decide) rfl (fun ls hl => ?_)
    refine lv_iconst (v := (0 : Int32)) hx hb dX9_take_12 (by decide) ?_
    refine lv_istore_n (lv' := [(3, .int (0 : Int32)), (2, .int (0 : Int32)), (0, .ref (a 0)), (1, .int x1)]) hx hb dX9_take_13 rfl hl (by decide) rfl (fun ls hl => ?_)
    cases hF
    exact ih _ _ _ _ _ _ hgo (Or.inr (Or.inl ⟨rfl, _, _, rfl, lv_sub hl [2, 1, 0] rfl⟩)) hP hD hS
  · rw [if_pos c3] at hF
    refine lv_iconst (v := (-1 : Int32)) hx hb dX9_take_8 (by decide) ?_
    cases hF
    obtain ⟨rfl, rfl⟩ := extM_ret hq (goL_ret hgo)
    exact z_iret hx hb hr hlocks hK hP hD hS dX9_take_9
set_option maxHeartbeats 4000000 in
set_option maxRecDepth 100000 in
theorem wl_X9_take_14 (σ : Mem) (hC : CX p c cX9_take meth (some .int) s m args yX9_take.cls 9 D cyI cyZ) (hq : extM q = some (r, σ')) (n : Nat) (ih : ∀ (pc : Nat) (x : Mem) (vs : List Int32) (ls : Array Slot) (H : Heap) (locs : List Loc), goL B_X9_take n pc x vs = some q → SH_X9_take a ls pc vs → va_P D vwCl (wM cyI cyZ a x) H → va_D A (wM cyI cyZ a x) → va_S A s.heap H locs → W p l e (headSpec ts_X9_take ({ frames := 5, cells := 0, slots := 0, locals := 113 } : Room)).room s m args below meth c H locs 0 0 (MQ below (QcI D cyI cyZ A (wM cyI cyZ a σ') r) args s 0 0 A) (F0 m pc ls [])) (x2 : Int32) (x3 : Int32) (ls : Array Slot) (H : Heap) (locs : List Loc) (hgo : goL B_X9_take (n + 1) 14 σ [x2, x3] = some q) (hl : lv_has ls 9 [(0, .ref (a 0)), (2, .int x2), (3, .int x3)]) (hP : va_P D vwCl (wM cyI cyZ a σ) H) (hD : va_D A (wM cyI cyZ a σ)) (hS : va_S A s.heap H locs) : W p l e (headSpec ts_X9_take ({ frames := 5, cells := 0, slots := 0, locals := 113 } : Room)).room s m args below meth c H locs 0 0 (MQ below (QcI D cyI cyZ A (wM cyI cyZ a σ') r) args s 0 0 A) (F0 m 14 ls []) := by
  obtain ⟨hx, hb, hr, hml, hown, hts, hK, hN, hlocks⟩ := hC
  have hown : s.vm.findClass RX9 = some m.cls := hown
  obtain ⟨yy, hF, hgo⟩ := goL_step (by decide) hgo
  have hF : B_X9_take_14 σ x2 x3 = some yy := hF
  unfold B_X9_take_14 at hF
  refine lv_iload_n hx hb dX9_take_14 rfl (lv_at hl 2 rfl) ?_
  refine lv_aload_n hx hb dX9_take_15 rfl (lv_at hl 0 rfl) ?_
  refine va_get (D := D) (ci := 9) (v := .int (σ 0 13)) (C := RX9) (T := TX9) (N := 34) hx hb hts inlX9 hown hK hP 0 gM_0 rfl 13 (by decide) (hts _ mw_360) (fun _ h9 => h9) rfl dX9_take_16 ?_
  refine lv_icmp_ge (tgt := 215) hx hb dX9_take_19 (by decide) (fun c1 => ?_) (fun c1 => ?_)
  · rw [if_pos c1] at hF
    refine lv_iload_n hx hb dX9_take_215 rfl (lv_at hl 1 rfl) ?_
    cases hF
    obtain ⟨rfl, rfl⟩ := extM_ret hq (goL_ret hgo)
    exact z_iret hx hb hr hlocks hK hP hD hS dX9_take_216
  · rw [if_neg c1] at hF
    refine lv_aload_n hx hb dX9_take_22 rfl (lv_at hl 0 rfl) ?_
    refine va_get (D := D) (ci := 9) (v := .ref (a 12)) (C := RX9) (T := TX9) (N := 34) hx hb hts inlX9 hown hK hP 0 gM_0 rfl 12 (by decide) (hts _ mw_128) (fun _ h9 => h9) rfl dX9_take_23 ?_
    refine lv_iload_n hx hb dX9_take_26 rfl (lv_at hl 2 rfl) ?_
    obtain ⟨v2, e3, hF⟩ := Option.bind_eq_some_iff.mp hF
    refine z_zld hx hb hK hP 12 gM_12 e3 dX9_take_27 ?_
    refine lv_istore (lv' := [(4, .int v2), (0, .ref (a 0)), (2, .int x2), (3, .int x3)]) hx hb dX9_take_28 hl (by decide) rfl (fun ls hl => ?_)
    refine lv_iconst (v := (0 : Int32)) hx hb dX9_take_30 (by decide) ?_
    refine lv_istore (lv' := [(5, .int (0 : Int32)), (4, .int v2), (0, .ref (a 0)), (2, .int x2), (3, .int x3)]) hx hb dX9_take_31 hl (by decide) rfl (fun ls hl => ?_)
    cases hF
    exact ih _ _ _ _ _ _ hgo (Or.inr (Or.inr (Or.inl ⟨rfl, _, _, _, _, rfl, lv_sub hl [2, 3, 4, 1, 0] rfl⟩))) hP hD hS
set_option maxHeartbeats 4000000 in
set_option maxRecDepth 100000 in
theorem wl_X9_take_33 (σ : Mem) (hC : CX p c cX9_take meth (some .int) s m args yX9_take.cls 9 D cyI cyZ) (hq : extM q = some (r, σ')) (n : Nat) (ih : ∀ (pc : Nat) (x : Mem) (vs : List Int32) (ls : Array Slot) (H : Heap) (locs : List Loc), goL B_X9_take n pc x vs = some q → SH_X9_take a ls pc vs → va_P D vwCl (wM cyI cyZ a x) H → va_D A (wM cyI cyZ a x) → va_S A s.heap H locs → W p l e (headSpec ts_X9_take ({ frames := 5, cells := 0, slots := 0, locals := 113 } : Room)).room s m args below meth c H locs 0 0 (MQ below (QcI D cyI cyZ A (wM cyI cyZ a σ') r) args s 0 0 A) (F0 m pc ls [])) (x2 : Int32) (x3 : Int32) (x4 : Int32) (x5 : Int32) (ls : Array Slot) (H : Heap) (locs : List Loc) (hgo : goL B_X9_take (n + 1) 33 σ [x2, x3, x4, x5] = some q) (hl : lv_has ls 9 [(0, .ref (a 0)), (2, .int x2), (3, .int x3), (4, .int x4), (5, .int x5)]) (hP : va_P D vwCl (wM cyI cyZ a σ) H) (hD : va_D A (wM cyI cyZ a σ)) (hS : va_S A s.heap H locs) : W p l e (headSpec ts_X9_take ({ frames := 5, cells := 0, slots := 0, locals := 113 } : Room)).room s m args below meth c H locs 0 0 (MQ below (QcI D cyI cyZ A (wM cyI cyZ a σ') r) args s 0 0 A) (F0 m 33 ls []) := by
  obtain ⟨hx, hb, hr, hml, hown, hts, hK, hN, hlocks⟩ := hC
  have hown : s.vm.findClass RX9 = some m.cls := hown
  obtain ⟨yy, hF, hgo⟩ := goL_step (by decide) hgo
  have hF : B_X9_take_33 σ x2 x3 x4 x5 = some yy := hF
  unfold B_X9_take_33 at hF
  refine lv_iload hx hb dX9_take_33 (lv_at hl 4 rfl) ?_
  refine lv_iload_n hx hb dX9_take_35 rfl (lv_at hl 2 rfl) ?_
  refine lv_icmp_ge (tgt := 83) hx hb dX9_take_36 (by decide) (fun c1 => ?_) (fun c1 => ?_)
  · rw [if_pos c1] at hF
    refine lv_iconst (v := (0 : Int32)) hx hb dX9_take_83 (by decide) ?_
    refine lv_istore (lv' := [(5, .int (0 : Int32)), (0, .ref (a 0)), (2, .int x2), (3, .int x3), (4, .int x4)]) hx hb dX9_take_84 hl (by decide) rfl (fun ls hl => ?_)
    cases hF
    exact ih _ _ _ _ _ _ hgo (Or.inr (Or.inr (Or.inr (⟨rfl, _, _, _, _, rfl, lv_sub hl [1, 2, 3, 4, 0] rfl⟩)))) hP hD hS
  · rw [if_neg c1] at hF
    refine lv_iload hx hb dX9_take_39 (lv_at hl 3 rfl) ?_
    refine lv_if_ne (tgt := 70) hx hb dX9_take_41 (by decide) (fun c2 => ?_) (fun c2 => ?_)
    · rw [if_neg c2] at hF
      refine lv_iconst (v := (1 : Int32)) hx hb dX9_take_70 (by decide) ?_
      refine lv_goto (tgt := 75) hx hb dX9_take_71 (by decide) ?_
      refine lv_istore (lv' := [(4, .int (1 : Int32)), (0, .ref (a 0)), (2, .int x2), (3, .int x3), (5, .int x5)]) hx hb dX9_take_75 hl (by decide) rfl (fun ls hl => ?_)
      refine lv_iinc (v := (x5 + (1 : Int32))) (lv' := [(5, .int (x5 + (1 : Int32))), (4, .int (1 : Int32)), (0, .ref (a 0)), (2, .int x2), (3, .int x3)]) hx hb dX9_take_77 hl (k := 4) rfl rfl (by decide) rfl (fun ls hl => ?_)
      refine lv_goto (tgt := 33) hx hb dX9_take_80 (by decide) ?_
      cases hF
      exact ih _ _ _ _ _ _ hgo (Or.inr (Or.inr (Or.inl ⟨rfl, _, _, _, _, rfl, lv_sub hl [2, 3, 4, 1, 0] rfl⟩))) hP hD hS
    · rw [if_pos c2] at hF
      refine lv_aload_n hx hb dX9_take_44 rfl (lv_at hl 0 rfl) ?_
      refine va_get (D := D) (ci := 9) (v := .ref (a 12)) (C := RX9) (T := TX9) (N := 34) hx hb hts inlX9 hown hK hP 0 gM_0 rfl 12 (by decide) (hts _ mw_128) (fun _ h9 => h9) rfl dX9_take_45 ?_
      refine lv_iload hx hb dX9_take_48 (lv_at hl 4 rfl) ?_
      obtain ⟨v3, e4, hF⟩ := Option.bind_eq_some_iff.mp hF
      refine z_zld hx hb hK hP 12 gM_12 e4 dX9_take_50 ?_
      refine lv_if_ne (tgt := 74) hx hb dX9_take_51 (by decide) (fun c5 => ?_) (fun c5 => ?_)
      · rw [if_neg c5] at hF
        refine lv_iconst (v := (0 : Int32)) hx hb dX9_take_74 (by decide) ?_
        refine lv_istore (lv' := [(4, .int (0 : Int32)), (0, .ref (a 0)), (2, .int x2), (3, .int x3), (5, .int x5)]) hx hb dX9_take_75 hl (by decide) rfl (fun ls hl => ?_)
        refine lv_iinc (v := (x5 + (1 : Int32))) (lv' := [(5, .int (x5 + (1 : Int32))), (4, .int (0 : Int32)), (0, .ref (a 0)), (2, .int x2), (3, .int x3)]) hx hb dX9_take_77 hl (k := 4) rfl rfl (by decide) rfl (fun ls hl => ?_)
        refine lv_goto (tgt := 33) hx hb dX9_take_80 (by decide) ?_
        cases hF
        exact ih _ _ _ _ _ _ hgo (Or.inr (Or.inr (Or.inl ⟨rfl, _, _, _, _, rfl, lv_sub hl [2, 3, 4, 1, 0] rfl⟩))) hP hD hS
      · rw [if_pos c5] at hF
        refine lv_aload_n hx hb dX9_take_54 rfl (lv_at hl 0 rfl) ?_
        refine va_get (D := D) (ci := 9) (v := .ref (a 11)) (C := RX9) (T := TX9) (N := 34) hx hb hts inlX9 hown hK hP 0 gM_0 rfl 11 (by decide) (hts _ mw_127) (fun _ h9 => h9) rfl dX9_take_55 ?_
        refine lv_iload hx hb dX9_take_58 (lv_at hl 4 rfl) ?_
        obtain ⟨v6, e7, hF⟩ := Option.bind_eq_some_iff.mp hF
        refine z_ild hx hb hK hP 11 gM_11 e7 dX9_take_60 ?_
        refine lv_aload_n hx hb dX9_take_61 rfl (lv_at hl 0 rfl) ?_
        refine va_get (D := D) (ci := 9) (v := .ref (a 11)) (C := RX9) (T := TX9) (N := 34) hx hb hts inlX9 hown hK hP 0 gM_0 rfl 11 (by decide) (hts _ mw_127) (fun _ h9 => h9) rfl dX9_take_62 ?_
        refine lv_iload_n hx hb dX9_take_65 rfl (lv_at hl 2 rfl) ?_
        obtain ⟨v8, e9, hF⟩ := Option.bind_eq_some_iff.mp hF
        refine z_ild hx hb hK hP 11 gM_11 e9 dX9_take_66 ?_
        refine lv_icmp_ne (tgt := 74) hx hb dX9_take_67 (by decide) (fun c10 => ?_) (fun c10 => ?_)
        · rw [if_neg c10] at hF
          refine lv_iconst (v := (0 : Int32)) hx hb dX9_take_74 (by decide) ?_
          refine lv_istore (lv' := [(4, .int (0 : Int32)), (0, .ref (a 0)), (2, .int x2), (3, .int x3), (5, .int x5)]) hx hb dX9_take_75 hl (by decide) rfl (fun ls hl => ?_)
          refine lv_iinc (v := (x5 + (1 : Int32))) (lv' := [(5, .int (x5 + (1 : Int32))), (4, .int (0 : Int32)), (0, .ref (a 0)), (2, .int x2), (3, .int x3)]) hx hb dX9_take_77 hl (k := 4) rfl rfl (by decide) rfl (fun ls hl => ?_)
          refine lv_goto (tgt := 33) hx hb dX9_take_80 (by decide) ?_
          cases hF
          exact ih _ _ _ _ _ _ hgo (Or.inr (Or.inr (Or.inl ⟨rfl, _, _, _, _, rfl, lv_sub hl [2, 3, 4, 1, 0] rfl⟩))) hP hD hS
        · rw [if_pos c10] at hF
          refine lv_iconst (v := (1 : Int32)) hx hb dX9_take_70 (by decide) ?_
          refine lv_goto (tgt := 75) hx hb dX9_take_71 (by decide) ?_
          refine lv_istore (lv' := [(4, .int (1 : Int32)), (0, .ref (a 0)), (2, .int x2), (3, .int x3), (5, .int x5)]) hx hb dX9_take_75 hl (by decide) rfl (fun ls hl => ?_)
          refine lv_iinc (v := (x5 + (1 : Int32))) (lv' := [(5, .int (x5 + (1 : Int32))), (4, .int (1 : Int32)), (0, .ref (a 0)), (2, .int x2), (3, .int x3)]) hx hb dX9_take_77 hl (k := 4) rfl rfl (by decide) rfl (fun ls hl => ?_)
          refine lv_goto (tgt := 33) hx hb dX9_take_80 (by decide) ?_
          cases hF
          exact ih _ _ _ _ _ _ hgo (Or.inr (Or.inr (Or.inl ⟨rfl, _, _, _, _, rfl, lv_sub hl [2, 3, 4, 1, 0] rfl⟩))) hP hD hS
set_option maxHeartbeats 4000000 in
set_option maxRecDepth 100000 in
theorem wl_X9_take_86 (σ : Mem) (hC : CX p c cX9_take meth (some .int) s m args yX9_take.cls 9 D cyI cyZ) (hq : extM q = some (r, σ')) (n : Nat) (ih : ∀ (pc : Nat) (x : Mem) (vs : List Int32) (ls : Array Slot) (H : Heap) (locs : List Loc), goL B_X9_take n pc x vs = some q → SH_X9_take a ls pc vs → va_P D vwCl (wM cyI cyZ a x) H → va_D A (wM cyI cyZ a x) → va_S A s.heap H locs → W p l e (headSpec ts_X9_take ({ frames := 5, cells := 0, slots := 0, locals := 113 } : Room)).room s m args below meth c H locs 0 0 (MQ below (QcI D cyI cyZ A (wM cyI cyZ a σ') r) args s 0 0 A) (F0 m pc ls [])) (x2 : Int32) (x3 : Int32) (x4 : Int32) (x5 : Int32) (ls : Array Slot) (H : Heap) (locs : List Loc) (hgo : goL B_X9_take (n + 1) 86 σ [x2, x3, x4, x5] = some q) (hl : lv_has ls 9 [(0, .ref (a 0)), (2, .int x2), (3, .int x3), (4, .int x4), (5, .int x5)]) (hP : va_P D vwCl (wM cyI cyZ a σ) H) (hD : va_D A (wM cyI cyZ a σ)) (hS : va_S A s.heap H locs) : W p l e (headSpec ts_X9_take ({ frames := 5, cells := 0, slots := 0, locals := 113 } : Room)).room s m args below meth c H locs 0 0 (MQ below (QcI D cyI cyZ A (wM cyI cyZ a σ') r) args s 0 0 A) (F0 m 86 ls []) := by
  obtain ⟨hx, hb, hr, hml, hown, hts, hK, hN, hlocks⟩ := hC
  have hown : s.vm.findClass RX9 = some m.cls := hown
  obtain ⟨yy, hF, hgo⟩ := goL_step (by decide) hgo
  have hF : B_X9_take_86 σ x2 x3 x4 x5 = some yy := hF
  unfold B_X9_take_86 at hF
  refine lv_iload hx hb dX9_take_86 (lv_at hl 3 rfl) ?_
  refine lv_if_ne (tgt := 209) hx hb dX9_take_88 (by decide) (fun c1 => ?_) (fun c1 => ?_)
  · rw [if_neg c1] at hF
    refine lv_iinc (v := (x3 + (1 : Int32))) (lv' := [(3, .int (x3 + (1 : Int32))), (0, .ref (a 0)), (2, .int x2), (4, .int x4), (5, .int x5)]) hx hb dX9_take_209 hl (k := 2) rfl rfl (by decide) rfl (fun ls hl => ?_)
    refine lv_goto (tgt := 14) hx hb dX9_take_212 (by decide) ?_
    cases hF
    exact ih _ _ _ _ _ _ hgo (Or.inr (Or.inl ⟨rfl, _, _, rfl, lv_sub hl [1, 2, 0] rfl⟩)) hP hD hS
  · rw [if_pos c1] at hF
    refine lv_iload hx hb dX9_take_91 (lv_at hl 4 rfl) ?_
    refine lv_aload_n hx hb dX9_take_93 rfl (lv_at hl 0 rfl) ?_
    refine va_get (D := D) (ci := 9) (v := .ref (a 5)) (C := RX9) (T := TX9) (N := 34) hx hb hts inlX9 hown hK hP 0 gM_0 rfl 5 (by decide) (hts _ mw_121) (fun _ h9 => h9) rfl dX9_take_94 ?_
    refine lv_aload_n hx hb dX9_take_97 rfl (lv_at hl 0 rfl) ?_
    refine va_get (D := D) (ci := 9) (v := .ref (a 11)) (C := RX9) (T := TX9) (N := 34) hx hb hts inlX9 hown hK hP 0 gM_0 rfl 11 (by decide) (hts _ mw_127) (fun _ h9 => h9) rfl dX9_take_98 ?_
    refine lv_iload_n hx hb dX9_take_101 rfl (lv_at hl 2 rfl) ?_
    obtain ⟨v2, e3, hF⟩ := Option.bind_eq_some_iff.mp hF
    refine z_ild hx hb hK hP 11 gM_11 e3 dX9_take_102 ?_
    obtain ⟨v4, e5, hF⟩ := Option.bind_eq_some_iff.mp hF
    refine z_ild hx hb hK hP 5 gM_5 e5 dX9_take_103 ?_
    refine lv_icmp_ge (tgt := 209) hx hb dX9_take_104 (by decide) (fun c6 => ?_) (fun c6 => ?_)
    · rw [if_pos c6] at hF
      refine lv_iinc (v := (x3 + (1 : Int32))) (lv' := [(3, .int (x3 + (1 : Int32))), (0, .ref (a 0)), (2, .int x2), (4, .int x4), (5, .int x5)]) hx hb dX9_take_209 hl (k := 2) rfl rfl (by decide) rfl (fun ls hl => ?_)
      refine lv_goto (tgt := 14) hx hb dX9_take_212 (by decide) ?_
      cases hF
      exact ih _ _ _ _ _ _ hgo (Or.inr (Or.inl ⟨rfl, _, _, rfl, lv_sub hl [1, 2, 0] rfl⟩)) hP hD hS
    · rw [if_neg c6] at hF
      refine lv_iconst (v := (3 : Int32)) hx hb dX9_take_107 (by decide) ?_
      refine lv_aload_n hx hb dX9_take_108 rfl (lv_at hl 0 rfl) ?_
      refine va_get (D := D) (ci := 9) (v := .ref (a 11)) (C := RX9) (T := TX9) (N := 34) hx hb hts inlX9 hown hK hP 0 gM_0 rfl 11 (by decide) (hts _ mw_127) (fun _ h9 => h9) rfl dX9_take_109 ?_
      refine lv_iload_n hx hb dX9_take_112 rfl (lv_at hl 2 rfl) ?_
      obtain ⟨v7, e8, hF⟩ := Option.bind_eq_some_iff.mp hF
      refine z_ild hx hb hK hP 11 gM_11 e8 dX9_take_113 ?_
      refine lv_imul hx hb dX9_take_114 ?_
      refine lv_iload hx hb dX9_take_115 (lv_at hl 4 rfl) ?_
      refine lv_iadd hx hb dX9_take_117 ?_
      refine lv_istore (lv' := [(6, .int (((3 : Int32) * v7) + x5)), (0, .ref (a 0)), (2, .int x2), (3, .int x3), (4, .int x4), (5, .int x5)]) hx hb dX9_take_118 hl (by decide) rfl (fun ls hl => ?_)
      refine lv_aload_n hx hb dX9_take_120 rfl (lv_at hl 1 rfl) ?_
      refine va_get (D := D) (ci := 9) (v := .ref (a 10)) (C := RX9) (T := TX9) (N := 34) hx hb hts inlX9 hown hK hP 0 gM_0 rfl 10 (by decide) (hts _ mw_126) (fun _ h9 => h9) rfl dX9_take_121 ?_
      refine lv_iload hx hb dX9_take_124 (lv_at hl 0 rfl) ?_
      obtain ⟨v9, e10, hF⟩ := Option.bind_eq_some_iff.mp hF
      refine z_ild hx hb hK hP 10 gM_10 e10 dX9_take_126 ?_
      refine lv_istore (lv' := [(7, .int v9), (6, .int (((3 : Int32) * v7) + x5)), (0, .ref (a 0)), (2, .int x2), (3, .int x3), (4, .int x4), (5, .int x5)]) hx hb dX9_take_127 hl (by decide) rfl (fun ls hl => ?_)
      refine lv_iload hx hb dX9_take_129 (lv_at hl 6 rfl) ?_
      refine lv_aload_n hx hb dX9_take_131 rfl (lv_at hl 2 rfl) ?_
      refine va_get (D := D) (ci := 9) (v := .ref (a 21)) (C := RX9) (T := TX9) (N := 34) hx hb hts inlX9 hown hK hP 0 gM_0 rfl 23 (by decide) (hts _ mw_137) (fun _ h9 => h9) rfl dX9_take_132 ?_
      refine lv_iload_n hx hb dX9_take_135 rfl (lv_at hl 4 rfl) ?_
      obtain ⟨v11, e12, hF⟩ := Option.bind_eq_some_iff.mp hF
      refine z_ild hx hb hK hP 21 gM_21 e12 dX9_take_136 ?_
      refine lv_icmp_ne (tgt := 147) hx hb dX9_take_137 (by decide) (fun c13 => ?_) (fun c13 => ?_)
      · rw [if_neg c13] at hF
        refine lv_iload hx hb dX9_take_147 (lv_at hl 0 rfl) ?_
        refine lv_iconst (v := (1 : Int32)) hx hb dX9_take_149 (by decide) ?_
        refine lv_iadd hx hb dX9_take_150 ?_
        refine lv_istore (lv' := [(8, .int (v9 + (1 : Int32))), (7, .int v9), (6, .int (((3 : Int32) * v7) + x5)), (0, .ref (a 0)), (2, .int x2), (3, .int x3), (4, .int x4), (5, .int x5)]) hx hb dX9_take_151 hl (by decide) rfl (fun ls hl => ?_)
        refine lv_aload_n hx hb dX9_take_153 rfl (lv_at hl 3 rfl) ?_
        refine va_get (D := D) (ci := 9) (v := .ref (a 10)) (C := RX9) (T := TX9) (N := 34) hx hb hts inlX9 hown hK hP 0 gM_0 rfl 10 (by decide) (hts _ mw_126) (fun _ h9 => h9) rfl dX9_take_154 ?_
        refine lv_iload hx hb dX9_take_157 (lv_at hl 2 rfl) ?_
        refine lv_iload hx hb dX9_take_159 (lv_at hl 0 rfl) ?_
        refine lv_if_ge (tgt := 168) hx hb dX9_take_161 (by decide) (fun c14 => ?_) (fun c14 => ?_)
        · rw [if_pos c14] at hF
          refine lv_iload hx hb dX9_take_168 (lv_at hl 0 rfl) ?_
          refine lv_bipush (v := (99 : Int32)) hx hb dX9_take_170 (by decide) ?_
          refine lv_icmp_le (tgt := 180) hx hb dX9_take_172 (by decide) (fun c15 => ?_) (fun c15 => ?_)
          · rw [if_pos c15] at hF
            refine lv_iload hx hb dX9_take_180 (lv_at hl 0 rfl) ?_
            obtain ⟨σ16, e17, hF⟩ := Option.bind_eq_some_iff.mp hF
            refine z_ist (wM cyI cyZ a) hx hb hK hP hD hS 10 gM_10 sM_10 e17 dX9_take_182 (fun H locs hP hD hS => ?_)
            refine lv_iload_n hx hb dX9_take_183 rfl (lv_at hl 4 rfl) ?_
            refine lv_aload_n hx hb dX9_take_184 rfl (lv_at hl 3 rfl) ?_
            refine va_get (D := D) (ci := 9) (v := .ref (a 10)) (C := RX9) (T := TX9) (N := 34) hx hb hts inlX9 hown hK hP 0 gM_0 rfl 10 (by decide) (hts _ mw_126) (fun _ h9 => h9) rfl dX9_take_185 ?_
            refine lv_iload hx hb dX9_take_188 (lv_at hl 2 rfl) ?_
            obtain ⟨v18, e19, hF⟩ := Option.bind_eq_some_iff.mp hF
            refine z_ild hx hb hK hP 10 gM_10 e19 dX9_take_190 ?_
            refine lv_iload hx hb dX9_take_191 (lv_at hl 1 rfl) ?_
            refine lv_icmp_ne (tgt := 200) hx hb dX9_take_193 (by decide) (fun c20 => ?_) (fun c20 => ?_)
            · rw [if_neg c20] at hF
              refine lv_iconst (v := (1 : Int32)) hx hb dX9_take_200 (by decide) ?_
              refine lv_iadd hx hb dX9_take_201 ?_
              refine lv_istore_n (lv' := [(2, .int (x2 + (1 : Int32))), (8, .int (v9 + (1 : Int32))), (7, .int v9), (6, .int (((3 : Int32) * v7) + x5)), (0, .ref (a 0)), (3, .int x3), (4, .int x4), (5, .int x5)]) hx hb dX9_take_202 rfl hl (by decide) rfl (fun ls hl => ?_)
              refine lv_iinc (v := (x5 + (1 : Int32))) (lv' := [(5, .int (x5 + (1 : Int32))), (2, .int (x2 + (1 : Int32))), (8, .int (v9 + (1 : Int32))), (7, .int v9), (6, .int (((3 : Int32) * v7) + x5)), (0, .ref (a 0)), (3, .int x3), (4, .int x4)]) hx hb dX9_take_203 hl (k := 7) rfl rfl (by decide) rfl (fun ls hl => ?_)
              refine lv_goto (tgt := 86) hx hb dX9_take_206 (by decide) ?_
              cases hF
              exact ih _ _ _ _ _ _ hgo (Or.inr (Or.inr (Or.inr (⟨rfl, _, _, _, _, rfl, lv_sub hl [5, 1, 6, 7, 0] rfl⟩)))) hP hD hS
            · rw [if_pos c20] at hF
              refine lv_iconst (v := (0 : Int32)) hx hb dX9_take_196 (by decide) ?_
              refine lv_goto (tgt := 201) hx hb dX9_take_197 (by decide) ?_
              refine lv_iadd hx hb dX9_take_201 ?_
              refine lv_istore_n (lv' := [(2, .int (x2 + (0 : Int32))), (8, .int (v9 + (1 : Int32))), (7, .int v9), (6, .int (((3 : Int32) * v7) + x5)), (0, .ref (a 0)), (3, .int x3), (4, .int x4), (5, .int x5)]) hx hb dX9_take_202 rfl hl (by decide) rfl (fun ls hl => ?_)
              refine lv_iinc (v := (x5 + (1 : Int32))) (lv' := [(5, .int (x5 + (1 : Int32))), (2, .int (x2 + (0 : Int32))), (8, .int (v9 + (1 : Int32))), (7, .int v9), (6, .int (((3 : Int32) * v7) + x5)), (0, .ref (a 0)), (3, .int x3), (4, .int x4)]) hx hb dX9_take_203 hl (k := 7) rfl rfl (by decide) rfl (fun ls hl => ?_)
              refine lv_goto (tgt := 86) hx hb dX9_take_206 (by decide) ?_
              cases hF
              exact ih _ _ _ _ _ _ hgo (Or.inr (Or.inr (Or.inr (⟨rfl, _, _, _, _, rfl, lv_sub hl [5, 1, 6, 7, 0] rfl⟩)))) hP hD hS
          · rw [if_neg c15] at hF
            refine lv_bipush (v := (99 : Int32)) hx hb dX9_take_175 (by decide) ?_
            refine lv_goto (tgt := 182) hx hb dX9_take_177 (by decide) ?_
            obtain ⟨σ21, e22, hF⟩ := Option.bind_eq_some_iff.mp hF
            refine z_ist (wM cyI cyZ a) hx hb hK hP hD hS 10 gM_10 sM_10 e22 dX9_take_182 (fun H locs hP hD hS => ?_)
            refine lv_iload_n hx hb dX9_take_183 rfl (lv_at hl 4 rfl) ?_
            refine lv_aload_n hx hb dX9_take_184 rfl (lv_at hl 3 rfl) ?_
            refine va_get (D := D) (ci := 9) (v := .ref (a 10)) (C := RX9) (T := TX9) (N := 34) hx hb hts inlX9 hown hK hP 0 gM_0 rfl 10 (by decide) (hts _ mw_126) (fun _ h9 => h9) rfl dX9_take_185 ?_
            refine lv_iload hx hb dX9_take_188 (lv_at hl 2 rfl) ?_
            obtain ⟨v23, e24, hF⟩ := Option.bind_eq_some_iff.mp hF
            refine z_ild hx hb hK hP 10 gM_10 e24 dX9_take_190 ?_
            refine lv_iload hx hb dX9_take_191 (lv_at hl 1 rfl) ?_
            refine lv_icmp_ne (tgt := 200) hx hb dX9_take_193 (by decide) (fun c25 => ?_) (fun c25 => ?_)
            · rw [if_neg c25] at hF
              refine lv_iconst (v := (1 : Int32)) hx hb dX9_take_200 (by decide) ?_
              refine lv_iadd hx hb dX9_take_201 ?_
              refine lv_istore_n (lv' := [(2, .int (x2 + (1 : Int32))), (8, .int (v9 + (1 : Int32))), (7, .int v9), (6, .int (((3 : Int32) * v7) + x5)), (0, .ref (a 0)), (3, .int x3), (4, .int x4), (5, .int x5)]) hx hb dX9_take_202 rfl hl (by decide) rfl (fun ls hl => ?_)
              refine lv_iinc (v := (x5 + (1 : Int32))) (lv' := [(5, .int (x5 + (1 : Int32))), (2, .int (x2 + (1 : Int32))), (8, .int (v9 + (1 : Int32))), (7, .int v9), (6, .int (((3 : Int32) * v7) + x5)), (0, .ref (a 0)), (3, .int x3), (4, .int x4)]) hx hb dX9_take_203 hl (k := 7) rfl rfl (by decide) rfl (fun ls hl => ?_)
              refine lv_goto (tgt := 86) hx hb dX9_take_206 (by decide) ?_
              cases hF
              exact ih _ _ _ _ _ _ hgo (Or.inr (Or.inr (Or.inr (⟨rfl, _, _, _, _, rfl, lv_sub hl [5, 1, 6, 7, 0] rfl⟩)))) hP hD hS
            · rw [if_pos c25] at hF
              refine lv_iconst (v := (0 : Int32)) hx hb dX9_take_196 (by decide) ?_
              refine lv_goto (tgt := 201) hx hb dX9_take_197 (by decide) ?_
              refine lv_iadd hx hb dX9_take_201 ?_
              refine lv_istore_n (lv' := [(2, .int (x2 + (0 : Int32))), (8, .int (v9 + (1 : Int32))), (7, .int v9), (6, .int (((3 : Int32) * v7) + x5)), (0, .ref (a 0)), (3, .int x3), (4, .int x4), (5, .int x5)]) hx hb dX9_take_202 rfl hl (by decide) rfl (fun ls hl => ?_)
              refine lv_iinc (v := (x5 + (1 : Int32))) (lv' := [(5, .int (x5 + (1 : Int32))), (2, .int (x2 + (0 : Int32))), (8, .int (v9 + (1 : Int32))), (7, .int v9), (6, .int (((3 : Int32) * v7) + x5)), (0, .ref (a 0)), (3, .int x3), (4, .int x4)]) hx hb dX9_take_203 hl (k := 7) rfl rfl (by decide) rfl (fun ls hl => ?_)
              refine lv_goto (tgt := 86) hx hb dX9_take_206 (by decide) ?_
              cases hF
              exact ih _ _ _ _ _ _ hgo (Or.inr (Or.inr (Or.inr (⟨rfl, _, _, _, _, rfl, lv_sub hl [5, 1, 6, 7, 0] rfl⟩)))) hP hD hS
        · rw [if_neg c14] at hF
          refine lv_iconst (v := (0 : Int32)) hx hb dX9_take_164 (by decide) ?_
          refine lv_goto (tgt := 182) hx hb dX9_take_165 (by decide) ?_
          obtain ⟨σ26, e27, hF⟩ := Option.bind_eq_some_iff.mp hF
          refine z_ist (wM cyI cyZ a) hx hb hK hP hD hS 10 gM_10 sM_10 e27 dX9_take_182 (fun H locs hP hD hS => ?_)
          refine lv_iload_n hx hb dX9_take_183 rfl (lv_at hl 4 rfl) ?_
          refine lv_aload_n hx hb dX9_take_184 rfl (lv_at hl 3 rfl) ?_
          refine va_get (D := D) (ci := 9) (v := .ref (a 10)) (C := RX9) (T := TX9) (N := 34) hx hb hts inlX9 hown hK hP 0 gM_0 rfl 10 (by decide) (hts _ mw_126) (fun _ h9 => h9) rfl dX9_take_185 ?_
          refine lv_iload hx hb dX9_take_188 (lv_at hl 2 rfl) ?_
          obtain ⟨v28, e29, hF⟩ := Option.bind_eq_some_iff.mp hF
          refine z_ild hx hb hK hP 10 gM_10 e29 dX9_take_190 ?_
          refine lv_iload hx hb dX9_take_191 (lv_at hl 1 rfl) ?_
          refine lv_icmp_ne (tgt := 200) hx hb dX9_take_193 (by decide) (fun c30 => ?_) (fun c30 => ?_)
          · rw [if_neg c30] at hF
            refine lv_iconst (v := (1 : Int32)) hx hb dX9_take_200 (by decide) ?_
            refine lv_iadd hx hb dX9_take_201 ?_
            refine lv_istore_n (lv' := [(2, .int (x2 + (1 : Int32))), (8, .int (v9 + (1 : Int32))), (7, .int v9), (6, .int (((3 : Int32) * v7) + x5)), (0, .ref (a 0)), (3, .int x3), (4, .int x4), (5, .int x5)]) hx hb dX9_take_202 rfl hl (by decide) rfl (fun ls hl => ?_)
            refine lv_iinc (v := (x5 + (1 : Int32))) (lv' := [(5, .int (x5 + (1 : Int32))), (2, .int (x2 + (1 : Int32))), (8, .int (v9 + (1 : Int32))), (7, .int v9), (6, .int (((3 : Int32) * v7) + x5)), (0, .ref (a 0)), (3, .int x3), (4, .int x4)]) hx hb dX9_take_203 hl (k := 7) rfl rfl (by decide) rfl (fun ls hl => ?_)
            refine lv_goto (tgt := 86) hx hb dX9_take_206 (by decide) ?_
            cases hF
            exact ih _ _ _ _ _ _ hgo (Or.inr (Or.inr (Or.inr (⟨rfl, _, _, _, _, rfl, lv_sub hl [5, 1, 6, 7, 0] rfl⟩)))) hP hD hS
          · rw [if_pos c30] at hF
            refine lv_iconst (v := (0 : Int32)) hx hb dX9_take_196 (by decide) ?_
            refine lv_goto (tgt := 201) hx hb dX9_take_197 (by decide) ?_
            refine lv_iadd hx hb dX9_take_201 ?_
            refine lv_istore_n (lv' := [(2, .int (x2 + (0 : Int32))), (8, .int (v9 + (1 : Int32))), (7, .int v9), (6, .int (((3 : Int32) * v7) + x5)), (0, .ref (a 0)), (3, .int x3), (4, .int x4), (5, .int x5)]) hx hb dX9_take_202 rfl hl (by decide) rfl (fun ls hl => ?_)
            refine lv_iinc (v := (x5 + (1 : Int32))) (lv' := [(5, .int (x5 + (1 : Int32))), (2, .int (x2 + (0 : Int32))), (8, .int (v9 + (1 : Int32))), (7, .int v9), (6, .int (((3 : Int32) * v7) + x5)), (0, .ref (a 0)), (3, .int x3), (4, .int x4)]) hx hb dX9_take_203 hl (k := 7) rfl rfl (by decide) rfl (fun ls hl => ?_)
            refine lv_goto (tgt := 86) hx hb dX9_take_206 (by decide) ?_
            cases hF
            exact ih _ _ _ _ _ _ hgo (Or.inr (Or.inr (Or.inr (⟨rfl, _, _, _, _, rfl, lv_sub hl [5, 1, 6, 7, 0] rfl⟩)))) hP hD hS
      · rw [if_pos c13] at hF
        refine lv_iload hx hb dX9_take_140 (lv_at hl 0 rfl) ?_
        refine lv_iconst (v := (1 : Int32)) hx hb dX9_take_142 (by decide) ?_
        refine lv_isub hx hb dX9_take_143 ?_
        refine lv_goto (tgt := 151) hx hb dX9_take_144 (by decide) ?_
        refine lv_istore (lv' := [(8, .int (v9 - (1 : Int32))), (7, .int v9), (6, .int (((3 : Int32) * v7) + x5)), (0, .ref (a 0)), (2, .int x2), (3, .int x3), (4, .int x4), (5, .int x5)]) hx hb dX9_take_151 hl (by decide) rfl (fun ls hl => ?_)
        refine lv_aload_n hx hb dX9_take_153 rfl (lv_at hl 3 rfl) ?_
        refine va_get (D := D) (ci := 9) (v := .ref (a 10)) (C := RX9) (T := TX9) (N := 34) hx hb hts inlX9 hown hK hP 0 gM_0 rfl 10 (by decide) (hts _ mw_126) (fun _ h9 => h9) rfl dX9_take_154 ?_
        refine lv_iload hx hb dX9_take_157 (lv_at hl 2 rfl) ?_
        refine lv_iload hx hb dX9_take_159 (lv_at hl 0 rfl) ?_
        refine lv_if_ge (tgt := 168) hx hb dX9_take_161 (by decide) (fun c31 => ?_) (fun c31 => ?_)
        · rw [if_pos c31] at hF
          refine lv_iload hx hb dX9_take_168 (lv_at hl 0 rfl) ?_
          refine lv_bipush (v := (99 : Int32)) hx hb dX9_take_170 (by decide) ?_
          refine lv_icmp_le (tgt := 180) hx hb dX9_take_172 (by decide) (fun c32 => ?_) (fun c32 => ?_)
          · rw [if_pos c32] at hF
            refine lv_iload hx hb dX9_take_180 (lv_at hl 0 rfl) ?_
            obtain ⟨σ33, e34, hF⟩ := Option.bind_eq_some_iff.mp hF
            refine z_ist (wM cyI cyZ a) hx hb hK hP hD hS 10 gM_10 sM_10 e34 dX9_take_182 (fun H locs hP hD hS => ?_)
            refine lv_iload_n hx hb dX9_take_183 rfl (lv_at hl 4 rfl) ?_
            refine lv_aload_n hx hb dX9_take_184 rfl (lv_at hl 3 rfl) ?_
            refine va_get (D := D) (ci := 9) (v := .ref (a 10)) (C := RX9) (T := TX9) (N := 34) hx hb hts inlX9 hown hK hP 0 gM_0 rfl 10 (by decide) (hts _ mw_126) (fun _ h9 => h9) rfl dX9_take_185 ?_
            refine lv_iload hx hb dX9_take_188 (lv_at hl 2 rfl) ?_
            obtain ⟨v35, e36, hF⟩ := Option.bind_eq_some_iff.mp hF
            refine z_ild hx hb hK hP 10 gM_10 e36 dX9_take_190 ?_
            refine lv_iload hx hb dX9_take_191 (lv_at hl 1 rfl) ?_
            refine lv_icmp_ne (tgt := 200) hx hb dX9_take_193 (by decide) (fun c37 => ?_) (fun c37 => ?_)
            · rw [if_neg c37] at hF
              refine lv_iconst (v := (1 : Int32)) hx hb dX9_take_200 (by decide) ?_
              refine lv_iadd hx hb dX9_take_201 ?_
              refine lv_istore_n (lv' := [(2, .int (x2 + (1 : Int32))), (8, .int (v9 - (1 : Int32))), (7, .int v9), (6, .int (((3 : Int32) * v7) + x5)), (0, .ref (a 0)), (3, .int x3), (4, .int x4), (5, .int x5)]) hx hb dX9_take_202 rfl hl (by decide) rfl (fun ls hl => ?_)
              refine lv_iinc (v := (x5 + (1 : Int32))) (lv' := [(5, .int (x5 + (1 : Int32))), (2, .int (x2 + (1 : Int32))), (8, .int (v9 - (1 : Int32))), (7, .int v9), (6, .int (((3 : Int32) * v7) + x5)), (0, .ref (a 0)), (3, .int x3), (4, .int x4)]) hx hb dX9_take_203 hl (k := 7) rfl rfl (by decide) rfl (fun ls hl => ?_)
              refine lv_goto (tgt := 86) hx hb dX9_take_206 (by decide) ?_
              cases hF
              exact ih _ _ _ _ _ _ hgo (Or.inr (Or.inr (Or.inr (⟨rfl, _, _, _, _, rfl, lv_sub hl [5, 1, 6, 7, 0] rfl⟩)))) hP hD hS
            · rw [if_pos c37] at hF
              refine lv_iconst (v := (0 : Int32)) hx hb dX9_take_196 (by decide) ?_
              refine lv_goto (tgt := 201) hx hb dX9_take_197 (by decide) ?_
              refine lv_iadd hx hb dX9_take_201 ?_
              refine lv_istore_n (lv' := [(2, .int (x2 + (0 : Int32))), (8, .int (v9 - (1 : Int32))), (7, .int v9), (6, .int (((3 : Int32) * v7) + x5)), (0, .ref (a 0)), (3, .int x3), (4, .int x4), (5, .int x5)]) hx hb dX9_take_202 rfl hl (by decide) rfl (fun ls hl => ?_)
              refine lv_iinc (v := (x5 + (1 : Int32))) (lv' := [(5, .int (x5 + (1 : Int32))), (2, .int (x2 + (0 : Int32))), (8, .int (v9 - (1 : Int32))), (7, .int v9), (6, .int (((3 : Int32) * v7) + x5)), (0, .ref (a 0)), (3, .int x3), (4, .int x4)]) hx hb dX9_take_203 hl (k := 7) rfl rfl (by decide) rfl (fun ls hl => ?_)
              refine lv_goto (tgt := 86) hx hb dX9_take_206 (by decide) ?_
              cases hF
              exact ih _ _ _ _ _ _ hgo (Or.inr (Or.inr (Or.inr (⟨rfl, _, _, _, _, rfl, lv_sub hl [5, 1, 6, 7, 0] rfl⟩)))) hP hD hS
          · rw [if_neg c32] at hF
            refine lv_bipush (v := (99 : Int32)) hx hb dX9_take_175 (by decide) ?_
            refine lv_goto (tgt := 182) hx hb dX9_take_177 (by decide) ?_
            obtain ⟨σ38, e39, hF⟩ := Option.bind_eq_some_iff.mp hF
            refine z_ist (wM cyI cyZ a) hx hb hK hP hD hS 10 gM_10 sM_10 e39 dX9_take_182 (fun H locs hP hD hS => ?_)
            refine lv_iload_n hx hb dX9_take_183 rfl (lv_at hl 4 rfl) ?_
            refine lv_aload_n hx hb dX9_take_184 rfl (lv_at hl 3 rfl) ?_
            refine va_get (D := D) (ci := 9) (v := .ref (a 10)) (C := RX9) (T := TX9) (N := 34) hx hb hts inlX9 hown hK hP 0 gM_0 rfl 10 (by decide) (hts _ mw_126) (fun _ h9 => h9) rfl dX9_take_185 ?_
            refine lv_iload hx hb dX9_take_188 (lv_at hl 2 rfl) ?_
            obtain ⟨v40, e41, hF⟩ := Option.bind_eq_some_iff.mp hF
            refine z_ild hx hb hK hP 10 gM_10 e41 dX9_take_190 ?_
            refine lv_iload hx hb dX9_take_191 (lv_at hl 1 rfl) ?_
            refine lv_icmp_ne (tgt := 200) hx hb dX9_take_193 (by decide) (fun c42 => ?_) (fun c42 => ?_)
            · rw [if_neg c42] at hF
              refine lv_iconst (v := (1 : Int32)) hx hb dX9_take_200 (by decide) ?_
              refine lv_iadd hx hb dX9_take_201 ?_
              refine lv_istore_n (lv' := [(2, .int (x2 + (1 : Int32))), (8, .int (v9 - (1 : Int32))), (7, .int v9), (6, .int (((3 : Int32) * v7) + x5)), (0, .ref (a 0)), (3, .int x3), (4, .int x4), (5, .int x5)]) hx hb dX9_take_202 rfl hl (by decide) rfl (fun ls hl => ?_)
              refine lv_iinc (v := (x5 + (1 : Int32))) (lv' := [(5, .int (x5 + (1 : Int32))), (2, .int (x2 + (1 : Int32))), (8, .int (v9 - (1 : Int32))), (7, .int v9), (6, .int (((3 : Int32) * v7) + x5)), (0, .ref (a 0)), (3, .int x3), (4, .int x4)]) hx hb dX9_take_203 hl (k := 7) rfl rfl (by decide) rfl (fun ls hl => ?_)
              refine lv_goto (tgt := 86) hx hb dX9_take_206 (by decide) ?_
              cases hF
              exact ih _ _ _ _ _ _ hgo (Or.inr (Or.inr (Or.inr (⟨rfl, _, _, _, _, rfl, lv_sub hl [5, 1, 6, 7, 0] rfl⟩)))) hP hD hS
            · rw [if_pos c42] at hF
              refine lv_iconst (v := (0 : Int32)) hx hb dX9_take_196 (by decide) ?_
              refine lv_goto (tgt := 201) hx hb dX9_take_197 (by decide) ?_
              refine lv_iadd hx hb dX9_take_201 ?_
              refine lv_istore_n (lv' := [(2, .int (x2 + (0 : Int32))), (8, .int (v9 - (1 : Int32))), (7, .int v9), (6, .int (((3 : Int32) * v7) + x5)), (0, .ref (a 0)), (3, .int x3), (4, .int x4), (5, .int x5)]) hx hb dX9_take_202 rfl hl (by decide) rfl (fun ls hl => ?_)
              refine lv_iinc (v := (x5 + (1 : Int32))) (lv' := [(5, .int (x5 + (1 : Int32))), (2, .int (x2 + (0 : Int32))), (8, .int (v9 - (1 : Int32))), (7, .int v9), (6, .int (((3 : Int32) * v7) + x5)), (0, .ref (a 0)), (3, .int x3), (4, .int x4)]) hx hb dX9_take_203 hl (k := 7) rfl rfl (by decide) rfl (fun ls hl => ?_)
              refine lv_goto (tgt := 86) hx hb dX9_take_206 (by decide) ?_
              cases hF
              exact ih _ _ _ _ _ _ hgo (Or.inr (Or.inr (Or.inr (⟨rfl, _, _, _, _, rfl, lv_sub hl [5, 1, 6, 7, 0] rfl⟩)))) hP hD hS
        · rw [if_neg c31] at hF
          refine lv_iconst (v := (0 : Int32)) hx hb dX9_take_164 (by decide) ?_
          refine lv_goto (tgt := 182) hx hb dX9_take_165 (by decide) ?_
          obtain ⟨σ43, e44, hF⟩ := Option.bind_eq_some_iff.mp hF
          refine z_ist (wM cyI cyZ a) hx hb hK hP hD hS 10 gM_10 sM_10 e44 dX9_take_182 (fun H locs hP hD hS => ?_)
          refine lv_iload_n hx hb dX9_take_183 rfl (lv_at hl 4 rfl) ?_
          refine lv_aload_n hx hb dX9_take_184 rfl (lv_at hl 3 rfl) ?_
          refine va_get (D := D) (ci := 9) (v := .ref (a 10)) (C := RX9) (T := TX9) (N := 34) hx hb hts inlX9 hown hK hP 0 gM_0 rfl 10 (by decide) (hts _ mw_126) (fun _ h9 => h9) rfl dX9_take_185 ?_
          refine lv_iload hx hb dX9_take_188 (lv_at hl 2 rfl) ?_
          obtain ⟨v45, e46, hF⟩ := Option.bind_eq_some_iff.mp hF
          refine z_ild hx hb hK hP 10 gM_10 e46 dX9_take_190 ?_
          refine lv_iload hx hb dX9_take_191 (lv_at hl 1 rfl) ?_
          refine lv_icmp_ne (tgt := 200) hx hb dX9_take_193 (by decide) (fun c47 => ?_) (fun c47 => ?_)
          · rw [if_neg c47] at hF
            refine lv_iconst (v := (1 : Int32)) hx hb dX9_take_200 (by decide) ?_
            refine lv_iadd hx hb dX9_take_201 ?_
            refine lv_istore_n (lv' := [(2, .int (x2 + (1 : Int32))), (8, .int (v9 - (1 : Int32))), (7, .int v9), (6, .int (((3 : Int32) * v7) + x5)), (0, .ref (a 0)), (3, .int x3), (4, .int x4), (5, .int x5)]) hx hb dX9_take_202 rfl hl (by decide) rfl (fun ls hl => ?_)
            refine lv_iinc (v := (x5 + (1 : Int32))) (lv' := [(5, .int (x5 + (1 : Int32))), (2, .int (x2 + (1 : Int32))), (8, .int (v9 - (1 : Int32))), (7, .int v9), (6, .int (((3 : Int32) * v7) + x5)), (0, .ref (a 0)), (3, .int x3), (4, .int x4)]) hx hb dX9_take_203 hl (k := 7) rfl rfl (by decide) rfl (fun ls hl => ?_)
            refine lv_goto (tgt := 86) hx hb dX9_take_206 (by decide) ?_
            cases hF
            exact ih _ _ _ _ _ _ hgo (Or.inr (Or.inr (Or.inr (⟨rfl, _, _, _, _, rfl, lv_sub hl [5, 1, 6, 7, 0] rfl⟩)))) hP hD hS
          · rw [if_pos c47] at hF
            refine lv_iconst (v := (0 : Int32)) hx hb dX9_take_196 (by decide) ?_
            refine lv_goto (tgt := 201) hx hb dX9_take_197 (by decide) ?_
            refine lv_iadd hx hb dX9_take_201 ?_
            refine lv_istore_n (lv' := [(2, .int (x2 + (0 : Int32))), (8, .int (v9 - (1 : Int32))), (7, .int v9), (6, .int (((3 : Int32) * v7) + x5)), (0, .ref (a 0)), (3, .int x3), (4, .int x4), (5, .int x5)]) hx hb dX9_take_202 rfl hl (by decide) rfl (fun ls hl => ?_)
            refine lv_iinc (v := (x5 + (1 : Int32))) (lv' := [(5, .int (x5 + (1 : Int32))), (2, .int (x2 + (0 : Int32))), (8, .int (v9 - (1 : Int32))), (7, .int v9), (6, .int (((3 : Int32) * v7) + x5)), (0, .ref (a 0)), (3, .int x3), (4, .int x4)]) hx hb dX9_take_203 hl (k := 7) rfl rfl (by decide) rfl (fun ls hl => ?_)
            refine lv_goto (tgt := 86) hx hb dX9_take_206 (by decide) ?_
            cases hF
            exact ih _ _ _ _ _ _ hgo (Or.inr (Or.inr (Or.inr (⟨rfl, _, _, _, _, rfl, lv_sub hl [5, 1, 6, 7, 0] rfl⟩)))) hP hD hS
theorem wk_X9_take (hC : CX p c cX9_take meth (some .int) s m args yX9_take.cls 9 D cyI cyZ) (hq : extM q = some (r, σ')) : ∀ (n : Nat), ∀ (pc : Nat) (x : Mem) (vs : List Int32) (ls : Array Slot) (H : Heap) (locs : List Loc), goL B_X9_take n pc x vs = some q → SH_X9_take a ls pc vs → va_P D vwCl (wM cyI cyZ a x) H → va_D A (wM cyI cyZ a x) → va_S A s.heap H locs → W p l e (headSpec ts_X9_take ({ frames := 5, cells := 0, slots := 0, locals := 113 } : Room)).room s m args below meth c H locs 0 0 (MQ below (QcI D cyI cyZ A (wM cyI cyZ a σ') r) args s 0 0 A) (F0 m pc ls []) := by
  intro n
  induction n with
  | zero => intro pc x vs ls H locs h; exact absurd h (by simp [goL])
  | succ n ih =>
    intro pc x vs ls H locs hgo hsh hP hD hS
    rcases hsh with ⟨rfl, x1, rfl, hl⟩ | ⟨rfl, x2, x3, rfl, hl⟩ | ⟨rfl, x2, x3, x4, x5, rfl, hl⟩ | ⟨rfl, x2, x3, x4, x5, rfl, hl⟩
    · exact wl_X9_take_0 x hC hq n ih x1 ls H locs hgo hl hP hD hS
    · exact wl_X9_take_14 x hC hq n ih x2 x3 ls H locs hgo hl hP hD hS
    · exact wl_X9_take_33 x hC hq n ih x2 x3 x4 x5 ls H locs hgo hl hP hD hS
    · exact wl_X9_take_86 x hC hq n ih x2 x3 x4 x5 ls H locs hgo hl hP hD hS
end
theorem c_X9_take (l : Launch) (D : va_G) (cyI cyZ : ClassId) (a : Nat → Nat) (A : Nat → Prop) (σ : Mem) (x1 : Int32) (r : Int32) (σ' : Mem) (hF : F_X9_take σ x1 = some (r, σ')) : CtI l yX9_take ts_X9_take ({ frames := 5, cells := 0, slots := 0, locals := 113 } : Room) [.ref (a 0), .int x1] D cyI cyZ A (wM cyI cyZ a σ) (wM cyI cyZ a σ') r := by
  refine CtI.of (cc := cX9_take) (maxL := 9) (ret := (some .int)) (by decide) rfl (Nat.le_of_ble_eq_true rfl) ?_
  intro p e s m below meth c ls hC hP hD hl
  obtain ⟨q, hq, hr1⟩ := Option.bind_eq_some_iff.mp hF
  obtain ⟨n, hn⟩ := finL_some hq
  exact wk_X9_take hC hr1 n 0 _ _ ls _ _ hn (Or.inl ⟨rfl, _, rfl, hl⟩) hP hD va_S.rf
abbrev ts_X9_why : List Cond := .code yX9_why cX9_why 7 (some .int) :: wsL_law
def SH_X9_why (a : Nat → Nat) (ls : Array Slot) (pc : Nat) (vs : List Int32) : Prop := (pc = 0 ∧ ∃ x1 : Int32, vs = [x1] ∧ lv_has ls 7 [(0, .ref (a 0)), (1, .int x1)]) ∨ (pc = 18 ∧ ∃ x2 x3 x4 : Int32, vs = [x2, x3, x4] ∧ lv_has ls 7 [(0, .ref (a 0)), (2, .int x2), (3, .int x3), (4, .int x4)]) ∨ (pc = 35 ∧ ∃ x2 x3 x4 x5 x6 : Int32, vs = [x2, x3, x4, x5, x6] ∧ lv_has ls 7 [(0, .ref (a 0)), (2, .int x2), (3, .int x3), (4, .int x4), (5, .int x5), (6, .int x6)])
section
variable {p : Program} {l : Launch} {e : Env} {s : State} {m : MethodId} {args : Array Value} {below : List Frame} {meth : Method} {c : Code} {D : va_G} {A : Nat → Prop} {a : Nat → Nat} {cyI cyZ : ClassId} {r : Int32} {σ' : Mem} {q : Mem × List Int32}
set_option maxHeartbeats 4000000 in
set_option maxRecDepth 100000 in
theorem wl_X9_why_0 (σ : Mem) (hC : CX p c cX9_why meth (some .int) s m args yX9_why.cls 7 D cyI cyZ) (hq : extM q = some (r, σ')) (n : Nat) (ih : ∀ (pc : Nat) (x : Mem) (vs : List Int32) (ls : Array Slot) (H : Heap) (locs : List Loc), goL B_X9_why n pc x vs = some q → SH_X9_why a ls pc vs → va_P D vwCl (wM cyI cyZ a x) H → va_D A (wM cyI cyZ a x) → va_S A s.heap H locs → W p l e (headSpec ts_X9_why ({ frames := 5, cells := 0, slots := 0, locals := 113 } : Room)).room s m args below meth c H locs 0 0 (MQ below (QcI D cyI cyZ A (wM cyI cyZ a σ') r) args s 0 0 A) (F0 m pc ls [])) (x1 : Int32) (ls : Array Slot) (H : Heap) (locs : List Loc) (hgo : goL B_X9_why (n + 1) 0 σ [x1] = some q) (hl : lv_has ls 7 [(0, .ref (a 0)), (1, .int x1)]) (hP : va_P D vwCl (wM cyI cyZ a σ) H) (hD : va_D A (wM cyI cyZ a σ)) (hS : va_S A s.heap H locs) : W p l e (headSpec ts_X9_why ({ frames := 5, cells := 0, slots := 0, locals := 113 } : Room)).room s m args below meth c H locs 0 0 (MQ below (QcI D cyI cyZ A (wM cyI cyZ a σ') r) args s 0 0 A) (F0 m 0 ls []) := by
  obtain ⟨hx, hb, hr, hml, hown, hts, hK, hN, hlocks⟩ := hC
  have hown : s.vm.findClass RX9 = some m.cls := hown
  obtain ⟨yy, hF, hgo⟩ := goL_step (by decide) hgo
  have hF : B_X9_why_0 σ x1 = some yy := hF
  unfold B_X9_why_0 at hF
  refine lv_aload_n hx hb dX9_why_0 rfl (lv_at hl 0 rfl) ?_
  refine lv_iload_n hx hb dX9_why_1 rfl (lv_at hl 1 rfl) ?_
  obtain ⟨p1, e2, hF⟩ := Option.bind_eq_some_iff.mp hF
  refine z_callVI (w' := (wM cyI cyZ a p1.2)) (As := [.int x1]) (rest := []) ⟨hx, hb, hml, hown, hts⟩ (c_X9_have l D cyI cyZ a A σ x1 p1.1 p1.2 e2) (cwV 1 hts (gd_V mw_655 mw_656 mw_657 mw_5 mw_658) rfl rfl rfl (by decide +kernel) ⟨Nat.le_of_ble_eq_true rfl, Nat.le_of_ble_eq_true rfl⟩) hK hN hP hD hS 9 0 rfl rfl gM_0 rfl hl.1 rfl (Nat.le_of_ble_eq_true rfl) dX9_why_2 ⟨Nat.zero_le _, Nat.zero_le _⟩ (fun H locs hP hD hS => ?_)
  refine lv_if_ne (tgt := 10) hx hb dX9_why_5 (by decide) (fun c3 => ?_) (fun c3 => ?_)
  · rw [if_neg c3] at hF
    refine lv_bipush (v := (-5 : Int32)) hx hb dX9_why_10 (by decide) ?_
    refine lv_istore_n (lv' := [(2, .int (-5 : Int32)), (0, .ref (a 0)), (1, .int x1)]) hx hb dX9_why_12 rfl hl (by decide) rfl (fun ls hl => ?_)
    refine lv_iconst (v := (0 : Int32)) hx hb dX9_why_13 (by decide) ?_
    refine lv_istore_n (lv' := [(3, .int (0 : Int32)), (2, .int (-5 : Int32)), (0, .ref (a 0)), (1, .int x1)]) hx hb dX9_why_14 rfl hl (by decide) rfl (fun ls hl => ?_)
    refine lv_iconst (v := (0 : Int32)) hx hb dX9_why_15 (by decide) ?_
    refine lv_istore (lv' := [(4, .int (0 : Int32)), (3, .int (0 : Int32)), (2, .int (-5 : Int32)), (0, .ref (a 0)), (1, .int x1)]) hx hb dX9_why_16 hl (by decide) rfl (fun ls hl => ?_)
    cases hF
    exact ih _ _ _ _ _ _ hgo (Or.inr (Or.inl ⟨rfl, _, _, _, rfl, lv_sub hl [3, 2, 1, 0] rfl⟩)) hP hD hS
  · rw [if_pos c3] at hF
    refine lv_iconst (v := (-1 : Int32)) hx hb dX9_why_8 (by decide) ?_
    cases hF
    obtain ⟨rfl, rfl⟩ := extM_ret hq (goL_ret hgo)
    exact z_iret hx hb hr hlocks hK hP hD hS dX9_why_9
set_option maxHeartbeats 4000000 in
set_option maxRecDepth 100000 in
theorem wl_X9_why_18 (σ : Mem) (hC : CX p c cX9_why meth (some .int) s m args yX9_why.cls 7 D cyI cyZ) (hq : extM q = some (r, σ')) (n : Nat) (ih : ∀ (pc : Nat) (x : Mem) (vs : List Int32) (ls : Array Slot) (H : Heap) (locs : List Loc), goL B_X9_why n pc x vs = some q → SH_X9_why a ls pc vs → va_P D vwCl (wM cyI cyZ a x) H → va_D A (wM cyI cyZ a x) → va_S A s.heap H locs → W p l e (headSpec ts_X9_why ({ frames := 5, cells := 0, slots := 0, locals := 113 } : Room)).room s m args below meth c H locs 0 0 (MQ below (QcI D cyI cyZ A (wM cyI cyZ a σ') r) args s 0 0 A) (F0 m pc ls [])) (x2 : Int32) (x3 : Int32) (x4 : Int32) (ls : Array Slot) (H : Heap) (locs : List Loc) (hgo : goL B_X9_why (n + 1) 18 σ [x2, x3, x4] = some q) (hl : lv_has ls 7 [(0, .ref (a 0)), (2, .int x2), (3, .int x3), (4, .int x4)]) (hP : va_P D vwCl (wM cyI cyZ a σ) H) (hD : va_D A (wM cyI cyZ a σ)) (hS : va_S A s.heap H locs) : W p l e (headSpec ts_X9_why ({ frames := 5, cells := 0, slots := 0, locals := 113 } : Room)).room s m args below meth c H locs 0 0 (MQ below (QcI D cyI cyZ A (wM cyI cyZ a σ') r) args s 0 0 A) (F0 m 18 ls []) := by
  obtain ⟨hx, hb, hr, hml, hown, hts, hK, hN, hlocks⟩ := hC
  have hown : s.vm.findClass RX9 = some m.cls := hown
  obtain ⟨yy, hF, hgo⟩ := goL_step (by decide) hgo
  have hF : B_X9_why_18 σ x2 x3 x4 = some yy := hF
  unfold B_X9_why_18 at hF
  refine lv_iload hx hb dX9_why_18 (lv_at hl 3 rfl) ?_
  refine lv_iconst (v := (1 : Int32)) hx hb dX9_why_20 (by decide) ?_
  refine lv_aload_n hx hb dX9_why_21 rfl (lv_at hl 0 rfl) ?_
  refine va_get (D := D) (ci := 9) (v := .int (σ 0 32)) (C := RX9) (T := TX9) (N := 34) hx hb hts inlX9 hown hK hP 0 gM_0 rfl 32 (by decide) (hts _ mw_545) (fun _ h9 => h9) rfl dX9_why_22 ?_
  refine lv_ishl hx hb dX9_why_25 ?_
  refine lv_icmp_ge (tgt := 93) hx hb dX9_why_26 (by decide) (fun c1 => ?_) (fun c1 => ?_)
  · rw [if_pos c1] at hF
    refine lv_iload_n hx hb dX9_why_93 rfl (lv_at hl 1 rfl) ?_
    cases hF
    obtain ⟨rfl, rfl⟩ := extM_ret hq (goL_ret hgo)
    exact z_iret hx hb hr hlocks hK hP hD hS dX9_why_94
  · rw [if_neg c1] at hF
    refine lv_iconst (v := (0 : Int32)) hx hb dX9_why_29 (by decide) ?_
    refine lv_istore (lv' := [(5, .int (0 : Int32)), (0, .ref (a 0)), (2, .int x2), (3, .int x3), (4, .int x4)]) hx hb dX9_why_30 hl (by decide) rfl (fun ls hl => ?_)
    refine lv_iconst (v := (0 : Int32)) hx hb dX9_why_32 (by decide) ?_
    refine lv_istore (lv' := [(6, .int (0 : Int32)), (5, .int (0 : Int32)), (0, .ref (a 0)), (2, .int x2), (3, .int x3), (4, .int x4)]) hx hb dX9_why_33 hl (by decide) rfl (fun ls hl => ?_)
    cases hF
    exact ih _ _ _ _ _ _ hgo (Or.inr (Or.inr (⟨rfl, _, _, _, _, _, rfl, lv_sub hl [2, 3, 4, 5, 1, 0] rfl⟩))) hP hD hS
set_option maxHeartbeats 4000000 in
set_option maxRecDepth 100000 in
theorem wl_X9_why_35 (σ : Mem) (hC : CX p c cX9_why meth (some .int) s m args yX9_why.cls 7 D cyI cyZ) (hq : extM q = some (r, σ')) (n : Nat) (ih : ∀ (pc : Nat) (x : Mem) (vs : List Int32) (ls : Array Slot) (H : Heap) (locs : List Loc), goL B_X9_why n pc x vs = some q → SH_X9_why a ls pc vs → va_P D vwCl (wM cyI cyZ a x) H → va_D A (wM cyI cyZ a x) → va_S A s.heap H locs → W p l e (headSpec ts_X9_why ({ frames := 5, cells := 0, slots := 0, locals := 113 } : Room)).room s m args below meth c H locs 0 0 (MQ below (QcI D cyI cyZ A (wM cyI cyZ a σ') r) args s 0 0 A) (F0 m pc ls [])) (x2 : Int32) (x3 : Int32) (x4 : Int32) (x5 : Int32) (x6 : Int32) (ls : Array Slot) (H : Heap) (locs : List Loc) (hgo : goL B_X9_why (n + 1) 35 σ [x2, x3, x4, x5, x6] = some q) (hl : lv_has ls 7 [(0, .ref (a 0)), (2, .int x2), (3, .int x3), (4, .int x4), (5, .int x5), (6, .int x6)]) (hP : va_P D vwCl (wM cyI cyZ a σ) H) (hD : va_D A (wM cyI cyZ a σ)) (hS : va_S A s.heap H locs) : W p l e (headSpec ts_X9_why ({ frames := 5, cells := 0, slots := 0, locals := 113 } : Room)).room s m args below meth c H locs 0 0 (MQ below (QcI D cyI cyZ A (wM cyI cyZ a σ') r) args s 0 0 A) (F0 m 35 ls []) := by
  obtain ⟨hx, hb, hr, hml, hown, hts, hK, hN, hlocks⟩ := hC
  have hown : s.vm.findClass RX9 = some m.cls := hown
  obtain ⟨yy, hF, hgo⟩ := goL_step (by decide) hgo
  have hF : B_X9_why_35 σ x2 x3 x4 x5 x6 = some yy := hF
  unfold B_X9_why_35 at hF
  refine lv_iload hx hb dX9_why_35 (lv_at hl 5 rfl) ?_
  refine lv_aload_n hx hb dX9_why_37 rfl (lv_at hl 0 rfl) ?_
  refine va_get (D := D) (ci := 9) (v := .int (σ 0 32)) (C := RX9) (T := TX9) (N := 34) hx hb hts inlX9 hown hK hP 0 gM_0 rfl 32 (by decide) (hts _ mw_545) (fun _ h9 => h9) rfl dX9_why_38 ?_
  refine lv_icmp_ge (tgt := 62) hx hb dX9_why_41 (by decide) (fun c1 => ?_) (fun c1 => ?_)
  · rw [if_pos c1] at hF
    refine lv_aload_n hx hb dX9_why_62 rfl (lv_at hl 0 rfl) ?_
    refine lv_iload hx hb dX9_why_63 (lv_at hl 3 rfl) ?_
    obtain ⟨v2, e3, hF⟩ := Option.bind_eq_some_iff.mp hF
    refine z_callVI (w' := (wM cyI cyZ a σ)) (As := [.int x4]) (rest := []) ⟨hx, hb, hml, hown, hts⟩ (c_X9_foundMany l D cyI cyZ a A σ x4 _ e3) (cwV 1 hts (gd_V mw_659 mw_660 mw_661 mw_5 mw_662) rfl rfl rfl (by decide +kernel) ⟨Nat.le_of_ble_eq_true rfl, Nat.le_of_ble_eq_true rfl⟩) hK hN hP hD hS 9 0 rfl rfl gM_0 rfl hl.1 rfl (Nat.le_of_ble_eq_true rfl) dX9_why_65 ⟨Nat.zero_le _, Nat.zero_le _⟩ (fun H locs hP hD hS => ?_)
    refine lv_if_le (tgt := 87) hx hb dX9_why_68 (by decide) (fun c4 => ?_) (fun c4 => ?_)
    · rw [if_pos c4] at hF
      refine lv_iinc (v := (x4 + (1 : Int32))) (lv' := [(4, .int (x4 + (1 : Int32))), (0, .ref (a 0)), (2, .int x2), (3, .int x3), (5, .int x5), (6, .int x6)]) hx hb dX9_why_87 hl (k := 3) rfl rfl (by decide) rfl (fun ls hl => ?_)
      refine lv_goto (tgt := 18) hx hb dX9_why_90 (by decide) ?_
      cases hF
      exact ih _ _ _ _ _ _ hgo (Or.inr (Or.inl ⟨rfl, _, _, _, rfl, lv_sub hl [1, 2, 3, 0] rfl⟩)) hP hD hS
    · rw [if_neg c4] at hF
      refine lv_iload_n hx hb dX9_why_71 rfl (lv_at hl 1 rfl) ?_
      refine lv_if_lt (tgt := 81) hx hb dX9_why_72 (by decide) (fun c5 => ?_) (fun c5 => ?_)
      · rw [if_pos c5] at hF
        refine lv_iload hx hb dX9_why_81 (lv_at hl 3 rfl) ?_
        refine lv_istore_n (lv' := [(2, .int x4), (0, .ref (a 0)), (3, .int x3), (4, .int x4), (5, .int x5), (6, .int x6)]) hx hb dX9_why_83 rfl hl (by decide) rfl (fun ls hl => ?_)
        refine lv_iload hx hb dX9_why_84 (lv_at hl 4 rfl) ?_
        refine lv_istore_n (lv' := [(3, .int x5), (2, .int x4), (0, .ref (a 0)), (4, .int x4), (5, .int x5), (6, .int x6)]) hx hb dX9_why_86 rfl hl (by decide) rfl (fun ls hl => ?_)
        refine lv_iinc (v := (x4 + (1 : Int32))) (lv' := [(4, .int (x4 + (1 : Int32))), (3, .int x5), (2, .int x4), (0, .ref (a 0)), (5, .int x5), (6, .int x6)]) hx hb dX9_why_87 hl (k := 3) rfl rfl (by decide) rfl (fun ls hl => ?_)
        refine lv_goto (tgt := 18) hx hb dX9_why_90 (by decide) ?_
        cases hF
        exact ih _ _ _ _ _ _ hgo (Or.inr (Or.inl ⟨rfl, _, _, _, rfl, lv_sub hl [3, 2, 1, 0] rfl⟩)) hP hD hS
      · rw [if_neg c5] at hF
        refine lv_iload hx hb dX9_why_75 (lv_at hl 4 rfl) ?_
        refine lv_iload_n hx hb dX9_why_77 rfl (lv_at hl 2 rfl) ?_
        refine lv_icmp_ge (tgt := 87) hx hb dX9_why_78 (by decide) (fun c6 => ?_) (fun c6 => ?_)
        · rw [if_pos c6] at hF
          refine lv_iinc (v := (x4 + (1 : Int32))) (lv' := [(4, .int (x4 + (1 : Int32))), (0, .ref (a 0)), (2, .int x2), (3, .int x3), (5, .int x5), (6, .int x6)]) hx hb dX9_why_87 hl (k := 3) rfl rfl (by decide) rfl (fun ls hl => ?_)
          refine lv_goto (tgt := 18) hx hb dX9_why_90 (by decide) ?_
          cases hF
          exact ih _ _ _ _ _ _ hgo (Or.inr (Or.inl ⟨rfl, _, _, _, rfl, lv_sub hl [1, 2, 3, 0] rfl⟩)) hP hD hS
        · rw [if_neg c6] at hF
          refine lv_iload hx hb dX9_why_81 (lv_at hl 3 rfl) ?_
          refine lv_istore_n (lv' := [(2, .int x4), (0, .ref (a 0)), (3, .int x3), (4, .int x4), (5, .int x5), (6, .int x6)]) hx hb dX9_why_83 rfl hl (by decide) rfl (fun ls hl => ?_)
          refine lv_iload hx hb dX9_why_84 (lv_at hl 4 rfl) ?_
          refine lv_istore_n (lv' := [(3, .int x5), (2, .int x4), (0, .ref (a 0)), (4, .int x4), (5, .int x5), (6, .int x6)]) hx hb dX9_why_86 rfl hl (by decide) rfl (fun ls hl => ?_)
          refine lv_iinc (v := (x4 + (1 : Int32))) (lv' := [(4, .int (x4 + (1 : Int32))), (3, .int x5), (2, .int x4), (0, .ref (a 0)), (5, .int x5), (6, .int x6)]) hx hb dX9_why_87 hl (k := 3) rfl rfl (by decide) rfl (fun ls hl => ?_)
          refine lv_goto (tgt := 18) hx hb dX9_why_90 (by decide) ?_
          cases hF
          exact ih _ _ _ _ _ _ hgo (Or.inr (Or.inl ⟨rfl, _, _, _, rfl, lv_sub hl [3, 2, 1, 0] rfl⟩)) hP hD hS
  · rw [if_neg c1] at hF
    refine lv_iload hx hb dX9_why_44 (lv_at hl 4 rfl) ?_
    refine lv_iload hx hb dX9_why_46 (lv_at hl 3 rfl) ?_
    refine lv_iload hx hb dX9_why_48 (lv_at hl 5 rfl) ?_
    refine lv_ishr hx hb dX9_why_50 ?_
    refine lv_iconst (v := (1 : Int32)) hx hb dX9_why_51 (by decide) ?_
    refine lv_iand hx hb dX9_why_52 ?_
    refine lv_iadd hx hb dX9_why_53 ?_
    obtain ⟨y7, e8, hF⟩ := Option.bind_eq_some_iff.mp hF
    refine z_top e8 ?_
    refine lv_istore (lv' := [(5, .int y7), (0, .ref (a 0)), (2, .int x2), (3, .int x3), (4, .int x4), (6, .int x6)]) hx hb dX9_why_54 hl (by decide) rfl (fun ls hl => ?_)
    refine lv_iinc (v := (x6 + (1 : Int32))) (lv' := [(6, .int (x6 + (1 : Int32))), (5, .int y7), (0, .ref (a 0)), (2, .int x2), (3, .int x3), (4, .int x4)]) hx hb dX9_why_56 hl (k := 5) rfl rfl (by decide) rfl (fun ls hl => ?_)
    refine lv_goto (tgt := 35) hx hb dX9_why_59 (by decide) ?_
    cases hF
    exact ih _ _ _ _ _ _ hgo (Or.inr (Or.inr (⟨rfl, _, _, _, _, _, rfl, lv_sub hl [2, 3, 4, 5, 1, 0] rfl⟩))) hP hD hS
theorem wk_X9_why (hC : CX p c cX9_why meth (some .int) s m args yX9_why.cls 7 D cyI cyZ) (hq : extM q = some (r, σ')) : ∀ (n : Nat), ∀ (pc : Nat) (x : Mem) (vs : List Int32) (ls : Array Slot) (H : Heap) (locs : List Loc), goL B_X9_why n pc x vs = some q → SH_X9_why a ls pc vs → va_P D vwCl (wM cyI cyZ a x) H → va_D A (wM cyI cyZ a x) → va_S A s.heap H locs → W p l e (headSpec ts_X9_why ({ frames := 5, cells := 0, slots := 0, locals := 113 } : Room)).room s m args below meth c H locs 0 0 (MQ below (QcI D cyI cyZ A (wM cyI cyZ a σ') r) args s 0 0 A) (F0 m pc ls []) := by
  intro n
  induction n with
  | zero => intro pc x vs ls H locs h; exact absurd h (by simp [goL])
  | succ n ih =>
    intro pc x vs ls H locs hgo hsh hP hD hS
    rcases hsh with ⟨rfl, x1, rfl, hl⟩ | ⟨rfl, x2, x3, x4, rfl, hl⟩ | ⟨rfl, x2, x3, x4, x5, x6, rfl, hl⟩
    · exact wl_X9_why_0 x hC hq n ih x1 ls H locs hgo hl hP hD hS
    · exact wl_X9_why_18 x hC hq n ih x2 x3 x4 ls H locs hgo hl hP hD hS
    · exact wl_X9_why_35 x hC hq n ih x2 x3 x4 x5 x6 ls H locs hgo hl hP hD hS
end
theorem c_X9_why (l : Launch) (D : va_G) (cyI cyZ : ClassId) (a : Nat → Nat) (A : Nat → Prop) (σ : Mem) (x1 : Int32) (r : Int32) (σ' : Mem) (hF : F_X9_why σ x1 = some (r, σ')) : CtI l yX9_why ts_X9_why ({ frames := 5, cells := 0, slots := 0, locals := 113 } : Room) [.ref (a 0), .int x1] D cyI cyZ A (wM cyI cyZ a σ) (wM cyI cyZ a σ') r := by
  refine CtI.of (cc := cX9_why) (maxL := 7) (ret := (some .int)) (by decide) rfl (Nat.le_of_ble_eq_true rfl) ?_
  intro p e s m below meth c ls hC hP hD hl
  obtain ⟨q, hq, hr1⟩ := Option.bind_eq_some_iff.mp hF
  obtain ⟨n, hn⟩ := finL_some hq
  exact wk_X9_why hC hr1 n 0 _ _ ls _ _ hn (Or.inl ⟨rfl, _, rfl, hl⟩) hP hD va_S.rf
abbrev ts_X9_count : List Cond := .code yX9_count cX9_count 4 (some .int) :: wsL_law
def SH_X9_count (a : Nat → Nat) (ls : Array Slot) (pc : Nat) (vs : List Int32) : Prop := (pc = 0 ∧ ∃ x1 : Int32, vs = [x1] ∧ lv_has ls 4 [(0, .ref (a 0)), (1, .int x1)]) ∨ (pc = 4 ∧ ∃ x1 x2 x3 : Int32, vs = [x1, x2, x3] ∧ lv_has ls 4 [(0, .ref (a 0)), (1, .int x1), (2, .int x2), (3, .int x3)])
section
variable {p : Program} {l : Launch} {e : Env} {s : State} {m : MethodId} {args : Array Value} {below : List Frame} {meth : Method} {c : Code} {D : va_G} {A : Nat → Prop} {a : Nat → Nat} {cyI cyZ : ClassId} {r : Int32} {q : Unit × List Int32}
set_option maxHeartbeats 4000000 in
set_option maxRecDepth 100000 in
theorem wl_X9_count_0 (σ : Mem) (hC : CX p c cX9_count meth (some .int) s m args yX9_count.cls 4 D cyI cyZ) (hq : extR q = some r) (n : Nat) (ih : ∀ (pc : Nat) (x : Unit) (vs : List Int32) (ls : Array Slot) (H : Heap) (locs : List Loc), goL (B_X9_count σ) n pc x vs = some q → SH_X9_count a ls pc vs → va_P D vwCl (wM cyI cyZ a σ) H → va_D A (wM cyI cyZ a σ) → va_S A s.heap H locs → W p l e (headSpec ts_X9_count ({ frames := 0, cells := 0, slots := 0, locals := 0 } : Room)).room s m args below meth c H locs 0 0 (MQ below (QcI D cyI cyZ A (wM cyI cyZ a σ) r) args s 0 0 A) (F0 m pc ls [])) (x1 : Int32) (ls : Array Slot) (H : Heap) (locs : List Loc) (hgo : goL (B_X9_count σ) (n + 1) 0 () [x1] = some q) (hl : lv_has ls 4 [(0, .ref (a 0)), (1, .int x1)]) (hP : va_P D vwCl (wM cyI cyZ a σ) H) (hD : va_D A (wM cyI cyZ a σ)) (hS : va_S A s.heap H locs) : W p l e (headSpec ts_X9_count ({ frames := 0, cells := 0, slots := 0, locals := 0 } : Room)).room s m args below meth c H locs 0 0 (MQ below (QcI D cyI cyZ A (wM cyI cyZ a σ) r) args s 0 0 A) (F0 m 0 ls []) := by
  obtain ⟨hx, hb, hr, hml, hown, hts, hK, hN, hlocks⟩ := hC
  have hown : s.vm.findClass RX9 = some m.cls := hown
  obtain ⟨yy, hF, hgo⟩ := goL_step (by decide) hgo
  have hF : B_X9_count_0 σ x1 = some yy := hF
  unfold B_X9_count_0 at hF
  refine lv_iconst (v := (0 : Int32)) hx hb dX9_count_0 (by decide) ?_
  refine lv_istore_n (lv' := [(2, .int (0 : Int32)), (0, .ref (a 0)), (1, .int x1)]) hx hb dX9_count_1 rfl hl (by decide) rfl (fun ls hl => ?_)
  refine lv_iconst (v := (0 : Int32)) hx hb dX9_count_2 (by decide) ?_
  refine lv_istore_n (lv' := [(3, .int (0 : Int32)), (2, .int (0 : Int32)), (0, .ref (a 0)), (1, .int x1)]) hx hb dX9_count_3 rfl hl (by decide) rfl (fun ls hl => ?_)
  cases hF
  exact ih _ _ _ _ _ _ hgo (Or.inr (⟨rfl, _, _, _, rfl, lv_sub hl [2, 3, 1, 0] rfl⟩)) hP hD hS
set_option maxHeartbeats 4000000 in
set_option maxRecDepth 100000 in
theorem wl_X9_count_4 (σ : Mem) (hC : CX p c cX9_count meth (some .int) s m args yX9_count.cls 4 D cyI cyZ) (hq : extR q = some r) (n : Nat) (ih : ∀ (pc : Nat) (x : Unit) (vs : List Int32) (ls : Array Slot) (H : Heap) (locs : List Loc), goL (B_X9_count σ) n pc x vs = some q → SH_X9_count a ls pc vs → va_P D vwCl (wM cyI cyZ a σ) H → va_D A (wM cyI cyZ a σ) → va_S A s.heap H locs → W p l e (headSpec ts_X9_count ({ frames := 0, cells := 0, slots := 0, locals := 0 } : Room)).room s m args below meth c H locs 0 0 (MQ below (QcI D cyI cyZ A (wM cyI cyZ a σ) r) args s 0 0 A) (F0 m pc ls [])) (x1 : Int32) (x2 : Int32) (x3 : Int32) (ls : Array Slot) (H : Heap) (locs : List Loc) (hgo : goL (B_X9_count σ) (n + 1) 4 () [x1, x2, x3] = some q) (hl : lv_has ls 4 [(0, .ref (a 0)), (1, .int x1), (2, .int x2), (3, .int x3)]) (hP : va_P D vwCl (wM cyI cyZ a σ) H) (hD : va_D A (wM cyI cyZ a σ)) (hS : va_S A s.heap H locs) : W p l e (headSpec ts_X9_count ({ frames := 0, cells := 0, slots := 0, locals := 0 } : Room)).room s m args below meth c H locs 0 0 (MQ below (QcI D cyI cyZ A (wM cyI cyZ a σ) r) args s 0 0 A) (F0 m 4 ls []) := by
  obtain ⟨hx, hb, hr, hml, hown, hts, hK, hN, hlocks⟩ := hC
  have hown : s.vm.findClass RX9 = some m.cls := hown
  obtain ⟨yy, hF, hgo⟩ := goL_step (by decide) hgo
  have hF : B_X9_count_4 σ x1 x2 x3 = some yy := hF
  unfold B_X9_count_4 at hF
  refine lv_iload_n hx hb dX9_count_4 rfl (lv_at hl 3 rfl) ?_
  refine lv_bipush (v := (40 : Int32)) hx hb dX9_count_5 (by decide) ?_
  refine lv_icmp_ge (tgt := 25) hx hb dX9_count_7 (by decide) (fun c1 => ?_) (fun c1 => ?_)
  · rw [if_pos c1] at hF
    refine lv_iload_n hx hb dX9_count_25 rfl (lv_at hl 1 rfl) ?_
    refine lv_if_ne (tgt := 36) hx hb dX9_count_26 (by decide) (fun c2 => ?_) (fun c2 => ?_)
    · rw [if_neg c2] at hF
      refine lv_iload_n hx hb dX9_count_36 rfl (lv_at hl 1 rfl) ?_
      refine lv_iconst (v := (1 : Int32)) hx hb dX9_count_37 (by decide) ?_
      refine lv_icmp_ne (tgt := 48) hx hb dX9_count_38 (by decide) (fun c3 => ?_) (fun c3 => ?_)
      · rw [if_neg c3] at hF
        refine lv_iload_n hx hb dX9_count_48 rfl (lv_at hl 1 rfl) ?_
        refine lv_iconst (v := (2 : Int32)) hx hb dX9_count_49 (by decide) ?_
        refine lv_icmp_ne (tgt := 57) hx hb dX9_count_50 (by decide) (fun c4 => ?_) (fun c4 => ?_)
        · rw [if_neg c4] at hF
          refine lv_iconst (v := (-1 : Int32)) hx hb dX9_count_57 (by decide) ?_
          cases hF
          obtain rfl := extR_ret hq (goL_ret hgo)
          exact z_iret hx hb hr hlocks hK hP hD hS dX9_count_58
        · rw [if_pos c4] at hF
          refine lv_iload_n hx hb dX9_count_53 rfl (lv_at hl 2 rfl) ?_
          refine lv_goto (tgt := 58) hx hb dX9_count_54 (by decide) ?_
          cases hF
          obtain rfl := extR_ret hq (goL_ret hgo)
          exact z_iret hx hb hr hlocks hK hP hD hS dX9_count_58
      · rw [if_pos c3] at hF
        refine lv_aload_n hx hb dX9_count_41 rfl (lv_at hl 0 rfl) ?_
        refine va_get (D := D) (ci := 9) (v := .int (σ 0 13)) (C := RX9) (T := TX9) (N := 34) hx hb hts inlX9 hown hK hP 0 gM_0 rfl 13 (by decide) (hts _ mw_360) (fun _ h9 => h9) rfl dX9_count_42 ?_
        refine lv_goto (tgt := 58) hx hb dX9_count_45 (by decide) ?_
        cases hF
        obtain rfl := extR_ret hq (goL_ret hgo)
        exact z_iret hx hb hr hlocks hK hP hD hS dX9_count_58
    · rw [if_pos c2] at hF
      refine lv_aload_n hx hb dX9_count_29 rfl (lv_at hl 0 rfl) ?_
      refine va_get (D := D) (ci := 9) (v := .int (σ 0 4)) (C := RX9) (T := TX9) (N := 34) hx hb hts inlX9 hown hK hP 0 gM_0 rfl 4 (by decide) (hts _ mw_160) (fun _ h9 => h9) rfl dX9_count_30 ?_
      refine lv_goto (tgt := 58) hx hb dX9_count_33 (by decide) ?_
      cases hF
      obtain rfl := extR_ret hq (goL_ret hgo)
      exact z_iret hx hb hr hlocks hK hP hD hS dX9_count_58
  · rw [if_neg c1] at hF
    refine lv_iload_n hx hb dX9_count_10 rfl (lv_at hl 2 rfl) ?_
    refine lv_aload_n hx hb dX9_count_11 rfl (lv_at hl 0 rfl) ?_
    refine va_get (D := D) (ci := 9) (v := .ref (a 5)) (C := RX9) (T := TX9) (N := 34) hx hb hts inlX9 hown hK hP 0 gM_0 rfl 5 (by decide) (hts _ mw_121) (fun _ h9 => h9) rfl dX9_count_12 ?_
    refine lv_iload_n hx hb dX9_count_15 rfl (lv_at hl 3 rfl) ?_
    obtain ⟨v5, e6, hF⟩ := Option.bind_eq_some_iff.mp hF
    refine z_ild hx hb hK hP 5 gM_5 e6 dX9_count_16 ?_
    refine lv_iadd hx hb dX9_count_17 ?_
    refine lv_istore_n (lv' := [(2, .int (x2 + v5)), (0, .ref (a 0)), (1, .int x1), (3, .int x3)]) hx hb dX9_count_18 rfl hl (by decide) rfl (fun ls hl => ?_)
    refine lv_iinc (v := (x3 + (1 : Int32))) (lv' := [(3, .int (x3 + (1 : Int32))), (2, .int (x2 + v5)), (0, .ref (a 0)), (1, .int x1)]) hx hb dX9_count_19 hl (k := 3) rfl rfl (by decide) rfl (fun ls hl => ?_)
    refine lv_goto (tgt := 4) hx hb dX9_count_22 (by decide) ?_
    cases hF
    exact ih _ _ _ _ _ _ hgo (Or.inr (⟨rfl, _, _, _, rfl, lv_sub hl [2, 3, 1, 0] rfl⟩)) hP hD hS
theorem wk_X9_count (σ : Mem) (hC : CX p c cX9_count meth (some .int) s m args yX9_count.cls 4 D cyI cyZ) (hq : extR q = some r) : ∀ (n : Nat), ∀ (pc : Nat) (x : Unit) (vs : List Int32) (ls : Array Slot) (H : Heap) (locs : List Loc), goL (B_X9_count σ) n pc x vs = some q → SH_X9_count a ls pc vs → va_P D vwCl (wM cyI cyZ a σ) H → va_D A (wM cyI cyZ a σ) → va_S A s.heap H locs → W p l e (headSpec ts_X9_count ({ frames := 0, cells := 0, slots := 0, locals := 0 } : Room)).room s m args below meth c H locs 0 0 (MQ below (QcI D cyI cyZ A (wM cyI cyZ a σ) r) args s 0 0 A) (F0 m pc ls []) := by
  intro n
  induction n with
  | zero => intro pc x vs ls H locs h; exact absurd h (by simp [goL])
  | succ n ih =>
    intro pc x vs ls H locs hgo hsh hP hD hS
    rcases hsh with ⟨rfl, x1, rfl, hl⟩ | ⟨rfl, x1, x2, x3, rfl, hl⟩
    · exact wl_X9_count_0 σ hC hq n ih x1 ls H locs hgo hl hP hD hS
    · exact wl_X9_count_4 σ hC hq n ih x1 x2 x3 ls H locs hgo hl hP hD hS
end
theorem c_X9_count (l : Launch) (D : va_G) (cyI cyZ : ClassId) (a : Nat → Nat) (A : Nat → Prop) (σ : Mem) (x1 : Int32) (r : Int32) (hF : F_X9_count σ x1 = some r) : CtI l yX9_count ts_X9_count ({ frames := 0, cells := 0, slots := 0, locals := 0 } : Room) [.ref (a 0), .int x1] D cyI cyZ A (wM cyI cyZ a σ) (wM cyI cyZ a σ) r := by
  refine CtI.of (cc := cX9_count) (maxL := 4) (ret := (some .int)) (by decide) rfl (Nat.le_of_ble_eq_true rfl) ?_
  intro p e s m below meth c ls hC hP hD hl
  obtain ⟨q, hq, hr1⟩ := Option.bind_eq_some_iff.mp hF
  obtain ⟨n, hn⟩ := finL_some hq
  exact wk_X9_count σ hC hr1 n 0 _ _ ls _ _ hn (Or.inl ⟨rfl, _, rfl, hl⟩) hP hD va_S.rf
