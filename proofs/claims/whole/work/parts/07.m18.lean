-- X9_unlike X9_answers X9_back X9_agree
abbrev ts_X9_unlike : List Cond := .code yX9_unlike cX9_unlike 6 (some .int) :: wsL_law
def SH_X9_unlike (a : Nat → Nat) (ls : Array Slot) (pc : Nat) (vs : List Int32) : Prop := (pc = 0 ∧ ∃ x1 x2 x3 : Int32, vs = [x1, x2, x3] ∧ lv_has ls 6 [(0, .ref (a 0)), (1, .int x1), (2, .int x2), (3, .int x3)]) ∨ (pc = 6 ∧ ∃ x1 x2 x3 x4 x5 : Int32, vs = [x1, x2, x3, x4, x5] ∧ lv_has ls 6 [(0, .ref (a 0)), (1, .int x1), (2, .int x2), (3, .int x3), (4, .int x4), (5, .int x5)]) ∨ (pc = 29 ∧ ∃ x1 x2 x3 x4 x5 : Int32, vs = [x1, x2, x3, x4, x5] ∧ lv_has ls 6 [(0, .ref (a 0)), (1, .int x1), (2, .int x2), (3, .int x3), (4, .int x4), (5, .int x5)])
section
variable {p : Program} {l : Launch} {e : Env} {s : State} {m : MethodId} {args : Array Value} {below : List Frame} {meth : Method} {c : Code} {D : va_G} {A : Nat → Prop} {a : Nat → Nat} {cyI cyZ : ClassId} {r : Int32} {σ' : Mem} {q : Mem × List Int32}
set_option maxHeartbeats 4000000 in
set_option maxRecDepth 100000 in
theorem wl_X9_unlike_0 (σ : Mem) (hC : CX p c cX9_unlike meth (some .int) s m args yX9_unlike.cls 6 D cyI cyZ) (hq : extM q = some (r, σ')) (n : Nat) (ih : ∀ (pc : Nat) (x : Mem) (vs : List Int32) (ls : Array Slot) (H : Heap) (locs : List Loc), goL B_X9_unlike n pc x vs = some q → SH_X9_unlike a ls pc vs → va_P D vwCl (wM cyI cyZ a x) H → va_D A (wM cyI cyZ a x) → va_S A s.heap H locs → W p l e (headSpec ts_X9_unlike ({ frames := 1, cells := 0, slots := 0, locals := 24 } : Room)).room s m args below meth c H locs 0 0 (MQ below (QcI D cyI cyZ A (wM cyI cyZ a σ') r) args s 0 0 A) (F0 m pc ls [])) (x1 : Int32) (x2 : Int32) (x3 : Int32) (ls : Array Slot) (H : Heap) (locs : List Loc) (hgo : goL B_X9_unlike (n + 1) 0 σ [x1, x2, x3] = some q) (hl : lv_has ls 6 [(0, .ref (a 0)), (1, .int x1), (2, .int x2), (3, .int x3)]) (hP : va_P D vwCl (wM cyI cyZ a σ) H) (hD : va_D A (wM cyI cyZ a σ)) (hS : va_S A s.heap H locs) : W p l e (headSpec ts_X9_unlike ({ frames := 1, cells := 0, slots := 0, locals := 24 } : Room)).room s m args below meth c H locs 0 0 (MQ below (QcI D cyI cyZ A (wM cyI cyZ a σ') r) args s 0 0 A) (F0 m 0 ls []) := by
  obtain ⟨hx, hb, hr, hml, hown, hts, hK, hN, hlocks⟩ := hC
  have hown : s.vm.findClass RX9 = some m.cls := hown
  obtain ⟨yy, hF, hgo⟩ := goL_step (by decide) hgo
  have hF : B_X9_unlike_0 σ x1 x2 x3 = some yy := hF
  unfold B_X9_unlike_0 at hF
  refine lv_iconst (v := (0 : Int32)) hx hb dX9_unlike_0 (by decide) ?_
  refine lv_istore (lv' := [(4, .int (0 : Int32)), (0, .ref (a 0)), (1, .int x1), (2, .int x2), (3, .int x3)]) hx hb dX9_unlike_1 hl (by decide) rfl (fun ls hl => ?_)
  refine lv_iconst (v := (0 : Int32)) hx hb dX9_unlike_3 (by decide) ?_
  refine lv_istore (lv' := [(5, .int (0 : Int32)), (4, .int (0 : Int32)), (0, .ref (a 0)), (1, .int x1), (2, .int x2), (3, .int x3)]) hx hb dX9_unlike_4 hl (by decide) rfl (fun ls hl => ?_)
  cases hF
  exact ih _ _ _ _ _ _ hgo (Or.inr (Or.inl ⟨rfl, _, _, _, _, _, rfl, lv_sub hl [2, 3, 4, 5, 1, 0] rfl⟩)) hP hD hS
set_option maxHeartbeats 4000000 in
set_option maxRecDepth 100000 in
theorem wl_X9_unlike_6 (σ : Mem) (hC : CX p c cX9_unlike meth (some .int) s m args yX9_unlike.cls 6 D cyI cyZ) (hq : extM q = some (r, σ')) (n : Nat) (ih : ∀ (pc : Nat) (x : Mem) (vs : List Int32) (ls : Array Slot) (H : Heap) (locs : List Loc), goL B_X9_unlike n pc x vs = some q → SH_X9_unlike a ls pc vs → va_P D vwCl (wM cyI cyZ a x) H → va_D A (wM cyI cyZ a x) → va_S A s.heap H locs → W p l e (headSpec ts_X9_unlike ({ frames := 1, cells := 0, slots := 0, locals := 24 } : Room)).room s m args below meth c H locs 0 0 (MQ below (QcI D cyI cyZ A (wM cyI cyZ a σ') r) args s 0 0 A) (F0 m pc ls [])) (x1 : Int32) (x2 : Int32) (x3 : Int32) (x4 : Int32) (x5 : Int32) (ls : Array Slot) (H : Heap) (locs : List Loc) (hgo : goL B_X9_unlike (n + 1) 6 σ [x1, x2, x3, x4, x5] = some q) (hl : lv_has ls 6 [(0, .ref (a 0)), (1, .int x1), (2, .int x2), (3, .int x3), (4, .int x4), (5, .int x5)]) (hP : va_P D vwCl (wM cyI cyZ a σ) H) (hD : va_D A (wM cyI cyZ a σ)) (hS : va_S A s.heap H locs) : W p l e (headSpec ts_X9_unlike ({ frames := 1, cells := 0, slots := 0, locals := 24 } : Room)).room s m args below meth c H locs 0 0 (MQ below (QcI D cyI cyZ A (wM cyI cyZ a σ') r) args s 0 0 A) (F0 m 6 ls []) := by
  obtain ⟨hx, hb, hr, hml, hown, hts, hK, hN, hlocks⟩ := hC
  have hown : s.vm.findClass RX9 = some m.cls := hown
  obtain ⟨yy, hF, hgo⟩ := goL_step (by decide) hgo
  have hF : B_X9_unlike_6 σ x1 x2 x3 x4 x5 = some yy := hF
  unfold B_X9_unlike_6 at hF
  refine lv_iload hx hb dX9_unlike_6 (lv_at hl 5 rfl) ?_
  refine lv_iload_n hx hb dX9_unlike_8 rfl (lv_at hl 1 rfl) ?_
  refine lv_icmp_ge (tgt := 26) hx hb dX9_unlike_9 (by decide) (fun c1 => ?_) (fun c1 => ?_)
  · rw [if_pos c1] at hF
    refine lv_iconst (v := (0 : Int32)) hx hb dX9_unlike_26 (by decide) ?_
    refine lv_istore (lv' := [(5, .int (0 : Int32)), (0, .ref (a 0)), (1, .int x1), (2, .int x2), (3, .int x3), (4, .int x4)]) hx hb dX9_unlike_27 hl (by decide) rfl (fun ls hl => ?_)
    cases hF
    exact ih _ _ _ _ _ _ hgo (Or.inr (Or.inr (⟨rfl, _, _, _, _, _, rfl, lv_sub hl [1, 2, 3, 4, 5, 0] rfl⟩))) hP hD hS
  · rw [if_neg c1] at hF
    refine lv_aload_n hx hb dX9_unlike_12 rfl (lv_at hl 0 rfl) ?_
    refine va_get (D := D) (ci := 9) (v := .ref (a 20)) (C := RX9) (T := TX9) (N := 34) hx hb hts inlX9 hown hK hP 0 gM_0 rfl 21 (by decide) (hts _ mw_136) (fun _ h9 => h9) rfl dX9_unlike_13 ?_
    refine lv_iload hx hb dX9_unlike_16 (lv_at hl 5 rfl) ?_
    refine lv_iconst (v := (0 : Int32)) hx hb dX9_unlike_18 (by decide) ?_
    obtain ⟨σ2, e3, hF⟩ := Option.bind_eq_some_iff.mp hF
    refine z_zst (wM cyI cyZ a) hx hb hK hP hD hS 20 gM_20 sM_20 e3 dX9_unlike_19 (fun H locs hP hD hS => ?_)
    refine lv_iinc (v := (x5 + (1 : Int32))) (lv' := [(5, .int (x5 + (1 : Int32))), (0, .ref (a 0)), (1, .int x1), (2, .int x2), (3, .int x3), (4, .int x4)]) hx hb dX9_unlike_20 hl (k := 5) rfl rfl (by decide) rfl (fun ls hl => ?_)
    refine lv_goto (tgt := 6) hx hb dX9_unlike_23 (by decide) ?_
    cases hF
    exact ih _ _ _ _ _ _ hgo (Or.inr (Or.inl ⟨rfl, _, _, _, _, _, rfl, lv_sub hl [1, 2, 3, 4, 5, 0] rfl⟩)) hP hD hS
set_option maxHeartbeats 4000000 in
set_option maxRecDepth 100000 in
theorem wl_X9_unlike_29 (σ : Mem) (hC : CX p c cX9_unlike meth (some .int) s m args yX9_unlike.cls 6 D cyI cyZ) (hq : extM q = some (r, σ')) (n : Nat) (ih : ∀ (pc : Nat) (x : Mem) (vs : List Int32) (ls : Array Slot) (H : Heap) (locs : List Loc), goL B_X9_unlike n pc x vs = some q → SH_X9_unlike a ls pc vs → va_P D vwCl (wM cyI cyZ a x) H → va_D A (wM cyI cyZ a x) → va_S A s.heap H locs → W p l e (headSpec ts_X9_unlike ({ frames := 1, cells := 0, slots := 0, locals := 24 } : Room)).room s m args below meth c H locs 0 0 (MQ below (QcI D cyI cyZ A (wM cyI cyZ a σ') r) args s 0 0 A) (F0 m pc ls [])) (x1 : Int32) (x2 : Int32) (x3 : Int32) (x4 : Int32) (x5 : Int32) (ls : Array Slot) (H : Heap) (locs : List Loc) (hgo : goL B_X9_unlike (n + 1) 29 σ [x1, x2, x3, x4, x5] = some q) (hl : lv_has ls 6 [(0, .ref (a 0)), (1, .int x1), (2, .int x2), (3, .int x3), (4, .int x4), (5, .int x5)]) (hP : va_P D vwCl (wM cyI cyZ a σ) H) (hD : va_D A (wM cyI cyZ a σ)) (hS : va_S A s.heap H locs) : W p l e (headSpec ts_X9_unlike ({ frames := 1, cells := 0, slots := 0, locals := 24 } : Room)).room s m args below meth c H locs 0 0 (MQ below (QcI D cyI cyZ A (wM cyI cyZ a σ') r) args s 0 0 A) (F0 m 29 ls []) := by
  obtain ⟨hx, hb, hr, hml, hown, hts, hK, hN, hlocks⟩ := hC
  have hown : s.vm.findClass RX9 = some m.cls := hown
  obtain ⟨yy, hF, hgo⟩ := goL_step (by decide) hgo
  have hF : B_X9_unlike_29 σ x1 x2 x3 x4 x5 = some yy := hF
  unfold B_X9_unlike_29 at hF
  refine lv_iload hx hb dX9_unlike_29 (lv_at hl 5 rfl) ?_
  refine lv_iload_n hx hb dX9_unlike_31 rfl (lv_at hl 1 rfl) ?_
  refine lv_icmp_ge (tgt := 94) hx hb dX9_unlike_32 (by decide) (fun c1 => ?_) (fun c1 => ?_)
  · rw [if_pos c1] at hF
    refine lv_iload hx hb dX9_unlike_94 (lv_at hl 4 rfl) ?_
    cases hF
    obtain ⟨rfl, rfl⟩ := extM_ret hq (goL_ret hgo)
    exact z_iret hx hb hr hlocks hK hP hD hS dX9_unlike_96
  · rw [if_neg c1] at hF
    refine lv_iload_n hx hb dX9_unlike_35 rfl (lv_at hl 2 rfl) ?_
    refine lv_if_lt (tgt := 50) hx hb dX9_unlike_36 (by decide) (fun c2 => ?_) (fun c2 => ?_)
    · rw [if_pos c2] at hF
      refine lv_iload hx hb dX9_unlike_50 (lv_at hl 4 rfl) ?_
      refine lv_aload_n hx hb dX9_unlike_52 rfl (lv_at hl 0 rfl) ?_
      refine va_get (D := D) (ci := 9) (v := .ref (a 20)) (C := RX9) (T := TX9) (N := 34) hx hb hts inlX9 hown hK hP 0 gM_0 rfl 21 (by decide) (hts _ mw_136) (fun _ h9 => h9) rfl dX9_unlike_53 ?_
      refine lv_aload_n hx hb dX9_unlike_56 rfl (lv_at hl 0 rfl) ?_
      refine va_get (D := D) (ci := 9) (v := .ref (a 19)) (C := RX9) (T := TX9) (N := 34) hx hb hts inlX9 hown hK hP 0 gM_0 rfl 20 (by decide) (hts _ mw_135) (fun _ h9 => h9) rfl dX9_unlike_57 ?_
      refine lv_iload hx hb dX9_unlike_60 (lv_at hl 5 rfl) ?_
      obtain ⟨v3, e4, hF⟩ := Option.bind_eq_some_iff.mp hF
      refine z_ild hx hb hK hP 19 gM_19 e4 dX9_unlike_62 ?_
      obtain ⟨v5, e6, hF⟩ := Option.bind_eq_some_iff.mp hF
      refine z_zld hx hb hK hP 20 gM_20 e6 dX9_unlike_63 ?_
      refine lv_if_eq (tgt := 71) hx hb dX9_unlike_64 (by decide) (fun c7 => ?_) (fun c7 => ?_)
      · rw [if_pos c7] at hF
        refine lv_iconst (v := (1 : Int32)) hx hb dX9_unlike_71 (by decide) ?_
        refine lv_iadd hx hb dX9_unlike_72 ?_
        refine lv_istore (lv' := [(4, .int (x4 + (1 : Int32))), (0, .ref (a 0)), (1, .int x1), (2, .int x2), (3, .int x3), (5, .int x5)]) hx hb dX9_unlike_73 hl (by decide) rfl (fun ls hl => ?_)
        refine lv_aload_n hx hb dX9_unlike_75 rfl (lv_at hl 1 rfl) ?_
        refine va_get (D := D) (ci := 9) (v := .ref (a 20)) (C := RX9) (T := TX9) (N := 34) hx hb hts inlX9 hown hK hP 0 gM_0 rfl 21 (by decide) (hts _ mw_136) (fun _ h9 => h9) rfl dX9_unlike_76 ?_
        refine lv_aload_n hx hb dX9_unlike_79 rfl (lv_at hl 1 rfl) ?_
        refine va_get (D := D) (ci := 9) (v := .ref (a 19)) (C := RX9) (T := TX9) (N := 34) hx hb hts inlX9 hown hK hP 0 gM_0 rfl 20 (by decide) (hts _ mw_135) (fun _ h9 => h9) rfl dX9_unlike_80 ?_
        refine lv_iload hx hb dX9_unlike_83 (lv_at hl 5 rfl) ?_
        obtain ⟨v8, e9, hF⟩ := Option.bind_eq_some_iff.mp hF
        refine z_ild hx hb hK hP 19 gM_19 e9 dX9_unlike_85 ?_
        refine lv_iconst (v := (1 : Int32)) hx hb dX9_unlike_86 (by decide) ?_
        obtain ⟨σ10, e11, hF⟩ := Option.bind_eq_some_iff.mp hF
        refine z_zst (wM cyI cyZ a) hx hb hK hP hD hS 20 gM_20 sM_20 e11 dX9_unlike_87 (fun H locs hP hD hS => ?_)
        refine lv_iinc (v := (x5 + (1 : Int32))) (lv' := [(5, .int (x5 + (1 : Int32))), (4, .int (x4 + (1 : Int32))), (0, .ref (a 0)), (1, .int x1), (2, .int x2), (3, .int x3)]) hx hb dX9_unlike_88 hl (k := 5) rfl rfl (by decide) rfl (fun ls hl => ?_)
        refine lv_goto (tgt := 29) hx hb dX9_unlike_91 (by decide) ?_
        cases hF
        exact ih _ _ _ _ _ _ hgo (Or.inr (Or.inr (⟨rfl, _, _, _, _, _, rfl, lv_sub hl [2, 3, 4, 5, 1, 0] rfl⟩))) hP hD hS
      · rw [if_neg c7] at hF
        refine lv_iconst (v := (0 : Int32)) hx hb dX9_unlike_67 (by decide) ?_
        refine lv_goto (tgt := 72) hx hb dX9_unlike_68 (by decide) ?_
        refine lv_iadd hx hb dX9_unlike_72 ?_
        refine lv_istore (lv' := [(4, .int (x4 + (0 : Int32))), (0, .ref (a 0)), (1, .int x1), (2, .int x2), (3, .int x3), (5, .int x5)]) hx hb dX9_unlike_73 hl (by decide) rfl (fun ls hl => ?_)
        refine lv_aload_n hx hb dX9_unlike_75 rfl (lv_at hl 1 rfl) ?_
        refine va_get (D := D) (ci := 9) (v := .ref (a 20)) (C := RX9) (T := TX9) (N := 34) hx hb hts inlX9 hown hK hP 0 gM_0 rfl 21 (by decide) (hts _ mw_136) (fun _ h9 => h9) rfl dX9_unlike_76 ?_
        refine lv_aload_n hx hb dX9_unlike_79 rfl (lv_at hl 1 rfl) ?_
        refine va_get (D := D) (ci := 9) (v := .ref (a 19)) (C := RX9) (T := TX9) (N := 34) hx hb hts inlX9 hown hK hP 0 gM_0 rfl 20 (by decide) (hts _ mw_135) (fun _ h9 => h9) rfl dX9_unlike_80 ?_
        refine lv_iload hx hb dX9_unlike_83 (lv_at hl 5 rfl) ?_
        obtain ⟨v12, e13, hF⟩ := Option.bind_eq_some_iff.mp hF
        refine z_ild hx hb hK hP 19 gM_19 e13 dX9_unlike_85 ?_
        refine lv_iconst (v := (1 : Int32)) hx hb dX9_unlike_86 (by decide) ?_
        obtain ⟨σ14, e15, hF⟩ := Option.bind_eq_some_iff.mp hF
        refine z_zst (wM cyI cyZ a) hx hb hK hP hD hS 20 gM_20 sM_20 e15 dX9_unlike_87 (fun H locs hP hD hS => ?_)
        refine lv_iinc (v := (x5 + (1 : Int32))) (lv' := [(5, .int (x5 + (1 : Int32))), (4, .int (x4 + (0 : Int32))), (0, .ref (a 0)), (1, .int x1), (2, .int x2), (3, .int x3)]) hx hb dX9_unlike_88 hl (k := 5) rfl rfl (by decide) rfl (fun ls hl => ?_)
        refine lv_goto (tgt := 29) hx hb dX9_unlike_91 (by decide) ?_
        cases hF
        exact ih _ _ _ _ _ _ hgo (Or.inr (Or.inr (⟨rfl, _, _, _, _, _, rfl, lv_sub hl [2, 3, 4, 5, 1, 0] rfl⟩))) hP hD hS
    · rw [if_neg c2] at hF
      refine lv_aload_n hx hb dX9_unlike_39 rfl (lv_at hl 0 rfl) ?_
      refine lv_iload hx hb dX9_unlike_40 (lv_at hl 5 rfl) ?_
      refine lv_iload_n hx hb dX9_unlike_42 rfl (lv_at hl 2 rfl) ?_
      obtain ⟨v16, e17, hF⟩ := Option.bind_eq_some_iff.mp hF
      refine z_callVI (w' := (wM cyI cyZ a σ)) (As := [.int x5, .int x2]) (rest := []) ⟨hx, hb, hml, hown, hts⟩ (c_X9_meaningAt l D cyI cyZ a A σ x5 x2 _ e17) (cwV 2 hts (gd_V mw_773 mw_774 mw_775 mw_5 mw_776) rfl rfl rfl (by decide +kernel) ⟨Nat.le_of_ble_eq_true rfl, Nat.le_of_ble_eq_true rfl⟩) hK hN hP hD hS 9 0 rfl rfl gM_0 rfl hl.1 rfl (Nat.le_of_ble_eq_true rfl) dX9_unlike_43 ⟨Nat.zero_le _, Nat.zero_le _⟩ (fun H locs hP hD hS => ?_)
      refine lv_iload_n hx hb dX9_unlike_46 rfl (lv_at hl 3 rfl) ?_
      refine lv_icmp_ne (tgt := 88) hx hb dX9_unlike_47 (by decide) (fun c18 => ?_) (fun c18 => ?_)
      · rw [if_neg c18] at hF
        refine lv_iinc (v := (x5 + (1 : Int32))) (lv' := [(5, .int (x5 + (1 : Int32))), (0, .ref (a 0)), (1, .int x1), (2, .int x2), (3, .int x3), (4, .int x4)]) hx hb dX9_unlike_88 hl (k := 5) rfl rfl (by decide) rfl (fun ls hl => ?_)
        refine lv_goto (tgt := 29) hx hb dX9_unlike_91 (by decide) ?_
        cases hF
        exact ih _ _ _ _ _ _ hgo (Or.inr (Or.inr (⟨rfl, _, _, _, _, _, rfl, lv_sub hl [1, 2, 3, 4, 5, 0] rfl⟩))) hP hD hS
      · rw [if_pos c18] at hF
        refine lv_iload hx hb dX9_unlike_50 (lv_at hl 4 rfl) ?_
        refine lv_aload_n hx hb dX9_unlike_52 rfl (lv_at hl 0 rfl) ?_
        refine va_get (D := D) (ci := 9) (v := .ref (a 20)) (C := RX9) (T := TX9) (N := 34) hx hb hts inlX9 hown hK hP 0 gM_0 rfl 21 (by decide) (hts _ mw_136) (fun _ h9 => h9) rfl dX9_unlike_53 ?_
        refine lv_aload_n hx hb dX9_unlike_56 rfl (lv_at hl 0 rfl) ?_
        refine va_get (D := D) (ci := 9) (v := .ref (a 19)) (C := RX9) (T := TX9) (N := 34) hx hb hts inlX9 hown hK hP 0 gM_0 rfl 20 (by decide) (hts _ mw_135) (fun _ h9 => h9) rfl dX9_unlike_57 ?_
        refine lv_iload hx hb dX9_unlike_60 (lv_at hl 5 rfl) ?_
        obtain ⟨v19, e20, hF⟩ := Option.bind_eq_some_iff.mp hF
        refine z_ild hx hb hK hP 19 gM_19 e20 dX9_unlike_62 ?_
        obtain ⟨v21, e22, hF⟩ := Option.bind_eq_some_iff.mp hF
        refine z_zld hx hb hK hP 20 gM_20 e22 dX9_unlike_63 ?_
        refine lv_if_eq (tgt := 71) hx hb dX9_unlike_64 (by decide) (fun c23 => ?_) (fun c23 => ?_)
        · rw [if_pos c23] at hF
          refine lv_iconst (v := (1 : Int32)) hx hb dX9_unlike_71 (by decide) ?_
          refine lv_iadd hx hb dX9_unlike_72 ?_
          refine lv_istore (lv' := [(4, .int (x4 + (1 : Int32))), (0, .ref (a 0)), (1, .int x1), (2, .int x2), (3, .int x3), (5, .int x5)]) hx hb dX9_unlike_73 hl (by decide) rfl (fun ls hl => ?_)
          refine lv_aload_n hx hb dX9_unlike_75 rfl (lv_at hl 1 rfl) ?_
          refine va_get (D := D) (ci := 9) (v := .ref (a 20)) (C := RX9) (T := TX9) (N := 34) hx hb hts inlX9 hown hK hP 0 gM_0 rfl 21 (by decide) (hts _ mw_136) (fun _ h9 => h9) rfl dX9_unlike_76 ?_
          refine lv_aload_n hx hb dX9_unlike_79 rfl (lv_at hl 1 rfl) ?_
          refine va_get (D := D) (ci := 9) (v := .ref (a 19)) (C := RX9) (T := TX9) (N := 34) hx hb hts inlX9 hown hK hP 0 gM_0 rfl 20 (by decide) (hts _ mw_135) (fun _ h9 => h9) rfl dX9_unlike_80 ?_
          refine lv_iload hx hb dX9_unlike_83 (lv_at hl 5 rfl) ?_
          obtain ⟨v24, e25, hF⟩ := Option.bind_eq_some_iff.mp hF
          refine z_ild hx hb hK hP 19 gM_19 e25 dX9_unlike_85 ?_
          refine lv_iconst (v := (1 : Int32)) hx hb dX9_unlike_86 (by decide) ?_
          obtain ⟨σ26, e27, hF⟩ := Option.bind_eq_some_iff.mp hF
          refine z_zst (wM cyI cyZ a) hx hb hK hP hD hS 20 gM_20 sM_20 e27 dX9_unlike_87 (fun H locs hP hD hS => ?_)
          refine lv_iinc (v := (x5 + (1 : Int32))) (lv' := [(5, .int (x5 + (1 : Int32))), (4, .int (x4 + (1 : Int32))), (0, .ref (a 0)), (1, .int x1), (2, .int x2), (3, .int x3)]) hx hb dX9_unlike_88 hl (k := 5) rfl rfl (by decide) rfl (fun ls hl => ?_)
          refine lv_goto (tgt := 29) hx hb dX9_unlike_91 (by decide) ?_
          cases hF
          exact ih _ _ _ _ _ _ hgo (Or.inr (Or.inr (⟨rfl, _, _, _, _, _, rfl, lv_sub hl [2, 3, 4, 5, 1, 0] rfl⟩))) hP hD hS
        · rw [if_neg c23] at hF
          refine lv_iconst (v := (0 : Int32)) hx hb dX9_unlike_67 (by decide) ?_
          refine lv_goto (tgt := 72) hx hb dX9_unlike_68 (by decide) ?_
          refine lv_iadd hx hb dX9_unlike_72 ?_
          refine lv_istore (lv' := [(4, .int (x4 + (0 : Int32))), (0, .ref (a 0)), (1, .int x1), (2, .int x2), (3, .int x3), (5, .int x5)]) hx hb dX9_unlike_73 hl (by decide) rfl (fun ls hl => ?_)
          refine lv_aload_n hx hb dX9_unlike_75 rfl (lv_at hl 1 rfl) ?_
          refine va_get (D := D) (ci := 9) (v := .ref (a 20)) (C := RX9) (T := TX9) (N := 34) hx hb hts inlX9 hown hK hP 0 gM_0 rfl 21 (by decide) (hts _ mw_136) (fun _ h9 => h9) rfl dX9_unlike_76 ?_
          refine lv_aload_n hx hb dX9_unlike_79 rfl (lv_at hl 1 rfl) ?_
          refine va_get (D := D) (ci := 9) (v := .ref (a 19)) (C := RX9) (T := TX9) (N := 34) hx hb hts inlX9 hown hK hP 0 gM_0 rfl 20 (by decide) (hts _ mw_135) (fun _ h9 => h9) rfl dX9_unlike_80 ?_
          refine lv_iload hx hb dX9_unlike_83 (lv_at hl 5 rfl) ?_
          obtain ⟨v28, e29, hF⟩ := Option.bind_eq_some_iff.mp hF
          refine z_ild hx hb hK hP 19 gM_19 e29 dX9_unlike_85 ?_
          refine lv_iconst (v := (1 : Int32)) hx hb dX9_unlike_86 (by decide) ?_
          obtain ⟨σ30, e31, hF⟩ := Option.bind_eq_some_iff.mp hF
          refine z_zst (wM cyI cyZ a) hx hb hK hP hD hS 20 gM_20 sM_20 e31 dX9_unlike_87 (fun H locs hP hD hS => ?_)
          refine lv_iinc (v := (x5 + (1 : Int32))) (lv' := [(5, .int (x5 + (1 : Int32))), (4, .int (x4 + (0 : Int32))), (0, .ref (a 0)), (1, .int x1), (2, .int x2), (3, .int x3)]) hx hb dX9_unlike_88 hl (k := 5) rfl rfl (by decide) rfl (fun ls hl => ?_)
          refine lv_goto (tgt := 29) hx hb dX9_unlike_91 (by decide) ?_
          cases hF
          exact ih _ _ _ _ _ _ hgo (Or.inr (Or.inr (⟨rfl, _, _, _, _, _, rfl, lv_sub hl [2, 3, 4, 5, 1, 0] rfl⟩))) hP hD hS
theorem wk_X9_unlike (hC : CX p c cX9_unlike meth (some .int) s m args yX9_unlike.cls 6 D cyI cyZ) (hq : extM q = some (r, σ')) : ∀ (n : Nat), ∀ (pc : Nat) (x : Mem) (vs : List Int32) (ls : Array Slot) (H : Heap) (locs : List Loc), goL B_X9_unlike n pc x vs = some q → SH_X9_unlike a ls pc vs → va_P D vwCl (wM cyI cyZ a x) H → va_D A (wM cyI cyZ a x) → va_S A s.heap H locs → W p l e (headSpec ts_X9_unlike ({ frames := 1, cells := 0, slots := 0, locals := 24 } : Room)).room s m args below meth c H locs 0 0 (MQ below (QcI D cyI cyZ A (wM cyI cyZ a σ') r) args s 0 0 A) (F0 m pc ls []) := by
  intro n
  induction n with
  | zero => intro pc x vs ls H locs h; exact absurd h (by simp [goL])
  | succ n ih =>
    intro pc x vs ls H locs hgo hsh hP hD hS
    rcases hsh with ⟨rfl, x1, x2, x3, rfl, hl⟩ | ⟨rfl, x1, x2, x3, x4, x5, rfl, hl⟩ | ⟨rfl, x1, x2, x3, x4, x5, rfl, hl⟩
    · exact wl_X9_unlike_0 x hC hq n ih x1 x2 x3 ls H locs hgo hl hP hD hS
    · exact wl_X9_unlike_6 x hC hq n ih x1 x2 x3 x4 x5 ls H locs hgo hl hP hD hS
    · exact wl_X9_unlike_29 x hC hq n ih x1 x2 x3 x4 x5 ls H locs hgo hl hP hD hS
end
theorem c_X9_unlike (l : Launch) (D : va_G) (cyI cyZ : ClassId) (a : Nat → Nat) (A : Nat → Prop) (σ : Mem) (x1 : Int32) (x2 : Int32) (x3 : Int32) (r : Int32) (σ' : Mem) (hF : F_X9_unlike σ x1 x2 x3 = some (r, σ')) : CtI l yX9_unlike ts_X9_unlike ({ frames := 1, cells := 0, slots := 0, locals := 24 } : Room) [.ref (a 0), .int x1, .int x2, .int x3] D cyI cyZ A (wM cyI cyZ a σ) (wM cyI cyZ a σ') r := by
  refine CtI.of (cc := cX9_unlike) (maxL := 6) (ret := (some .int)) (by decide) rfl (Nat.le_of_ble_eq_true rfl) ?_
  intro p e s m below meth c ls hC hP hD hl
  obtain ⟨q, hq, hr1⟩ := Option.bind_eq_some_iff.mp hF
  obtain ⟨n, hn⟩ := finL_some hq
  exact wk_X9_unlike hC hr1 n 0 _ _ ls _ _ hn (Or.inl ⟨rfl, _, _, _, rfl, hl⟩) hP hD va_S.rf
abbrev ts_X9_answers : List Cond := .code yX9_answers cX9_answers 2 (some .int) :: wsL_law
set_option maxHeartbeats 4000000 in
set_option maxRecDepth 100000 in
theorem c_X9_answers (l : Launch) (D : va_G) (cyI cyZ : ClassId) (a : Nat → Nat) (A : Nat → Prop) (σ : Mem) (x1 : Int32) (r : Int32) (σ' : Mem) (hF : F_X9_answers σ x1 = some (r, σ')) : CtI l yX9_answers ts_X9_answers ({ frames := 6, cells := 0, slots := 0, locals := 144 } : Room) [.ref (a 0), .int x1] D cyI cyZ A (wM cyI cyZ a σ) (wM cyI cyZ a σ') r := by
  refine CtI.of (cc := cX9_answers) (maxL := 2) (ret := (some .int)) (by decide) rfl (Nat.le_of_ble_eq_true rfl) ?_
  intro p e s m below meth c ls hC hP hD hl
  obtain ⟨hx, hb, hr, hml, hown, hts, hK, hN, hlocks⟩ := hC
  have hown : s.vm.findClass RX9 = some m.cls := hown
  have hS : va_S A s.heap s.heap [] := va_S.rf
  have hl : lv_has ls 2 [(0, .ref (a 0)), (1, .int x1)] := hl
  unfold F_X9_answers at hF
  refine lv_iload_n hx hb dX9_answers_0 rfl (lv_at hl 1 rfl) ?_
  refine lv_iconst (v := (0 : Int32)) hx hb dX9_answers_1 (by decide) ?_
  refine lv_sipush (v := (1000 : Int32)) hx hb dX9_answers_2 (by decide) ?_
  refine z_callSI (w' := (wM cyI cyZ a σ)) (As := [.int x1, .int (0 : Int32), .int (1000 : Int32)]) (rest := []) ⟨hx, hb, hml, hown, hts⟩ (c_X9_within l D cyI cyZ A (wM cyI cyZ a σ) x1 (0 : Int32) (1000 : Int32) _ rfl) (va_cwS 3 hts (gd_S mw_161 mw_162 mw_5 mw_163) rfl rfl rfl (by decide +kernel) ⟨Nat.le_of_ble_eq_true rfl, Nat.le_of_ble_eq_true rfl⟩) hK hN hP hD hS rfl hl.1 rfl (Nat.le_of_ble_eq_true rfl) dX9_answers_5 ⟨Nat.zero_le _, Nat.zero_le _⟩ (fun H locs hP hD hS => ?_)
  refine lv_if_eq (tgt := 25) hx hb dX9_answers_8 (by decide) (fun c1 => ?_) (fun c1 => ?_)
  · rw [if_pos c1] at hF
    refine lv_iconst (v := (-1 : Int32)) hx hb dX9_answers_25 (by decide) ?_
    cases hF
    exact z_iret hx hb hr hlocks hK hP hD hS dX9_answers_26
  · rw [if_neg c1] at hF
    refine lv_aload_n hx hb dX9_answers_11 rfl (lv_at hl 0 rfl) ?_
    refine lv_aload_n hx hb dX9_answers_12 rfl (lv_at hl 0 rfl) ?_
    refine lv_iload_n hx hb dX9_answers_13 rfl (lv_at hl 1 rfl) ?_
    obtain ⟨p2, e3, hF⟩ := Option.bind_eq_some_iff.mp hF
    refine z_callVI (w' := (wM cyI cyZ a p2.2)) (As := [.int x1]) (rest := [.ref (a 0)]) ⟨hx, hb, hml, hown, hts⟩ (c_X9_findNear l D cyI cyZ a A σ x1 p2.1 p2.2 e3) (cwV 1 hts (gd_V mw_764 mw_765 mw_766 mw_5 mw_767) rfl rfl rfl (by decide +kernel) ⟨Nat.le_of_ble_eq_true rfl, Nat.le_of_ble_eq_true rfl⟩) hK hN hP hD hS 9 0 rfl rfl gM_0 rfl hl.1 rfl (Nat.le_of_ble_eq_true rfl) dX9_answers_14 ⟨Nat.zero_le _, Nat.zero_le _⟩ (fun H locs hP hD hS => ?_)
    refine lv_iconst (v := (-1 : Int32)) hx hb dX9_answers_17 (by decide) ?_
    refine lv_iconst (v := (0 : Int32)) hx hb dX9_answers_18 (by decide) ?_
    obtain ⟨p4, e5, hF⟩ := Option.bind_eq_some_iff.mp hF
    refine z_callVI (w' := (wM cyI cyZ a p4.2)) (As := [.int p2.1, .int (-1 : Int32), .int (0 : Int32)]) (rest := []) ⟨hx, hb, hml, hown, hts⟩ (c_X9_unlike l D cyI cyZ a A p2.2 p2.1 (-1 : Int32) (0 : Int32) p4.1 p4.2 e5) (cwV 3 hts (gd_V mw_769 mw_770 mw_771 mw_5 mw_772) rfl rfl rfl (by decide +kernel) ⟨Nat.le_of_ble_eq_true rfl, Nat.le_of_ble_eq_true rfl⟩) hK hN hP hD hS 9 0 rfl rfl gM_0 rfl hl.1 rfl (Nat.le_of_ble_eq_true rfl) dX9_answers_19 ⟨Nat.zero_le _, Nat.zero_le _⟩ (fun H locs hP hD hS => ?_)
    refine lv_goto (tgt := 26) hx hb dX9_answers_22 (by decide) ?_
    cases hF
    exact z_iret hx hb hr hlocks hK hP hD hS dX9_answers_26
abbrev ts_X9_back : List Cond := .code yX9_back cX9_back 10 (some .int) :: wsL_law
def SH_X9_back (a : Nat → Nat) (ls : Array Slot) (pc : Nat) (vs : List Int32) : Prop := (pc = 0 ∧ ∃ x1 : Int32, vs = [x1] ∧ lv_has ls 10 [(0, .ref (a 0)), (1, .int x1)]) ∨ (pc = 28 ∧ ∃ x2 x3 x4 x5 : Int32, vs = [x2, x3, x4, x5] ∧ lv_has ls 10 [(0, .ref (a 0)), (2, .int x2), (3, .int x3), (4, .int x4), (5, .int x5)]) ∨ (pc = 46 ∧ ∃ x2 x3 x4 x5 x6 x7 x8 : Int32, vs = [x2, x3, x4, x5, x6, x7, x8] ∧ lv_has ls 10 [(0, .ref (a 0)), (2, .int x2), (3, .int x3), (4, .int x4), (5, .int x5), (6, .int x6), (7, .int x7), (8, .int x8)])
section
variable {p : Program} {l : Launch} {e : Env} {s : State} {m : MethodId} {args : Array Value} {below : List Frame} {meth : Method} {c : Code} {D : va_G} {A : Nat → Prop} {a : Nat → Nat} {cyI cyZ : ClassId} {r : Int32} {σ' : Mem} {q : Mem × List Int32}
set_option maxHeartbeats 4000000 in
set_option maxRecDepth 100000 in
theorem wl_X9_back_0 (σ : Mem) (hC : CX p c cX9_back meth (some .int) s m args yX9_back.cls 10 D cyI cyZ) (hq : extM q = some (r, σ')) (n : Nat) (ih : ∀ (pc : Nat) (x : Mem) (vs : List Int32) (ls : Array Slot) (H : Heap) (locs : List Loc), goL B_X9_back n pc x vs = some q → SH_X9_back a ls pc vs → va_P D vwCl (wM cyI cyZ a x) H → va_D A (wM cyI cyZ a x) → va_S A s.heap H locs → W p l e (headSpec ts_X9_back ({ frames := 6, cells := 0, slots := 0, locals := 144 } : Room)).room s m args below meth c H locs 0 0 (MQ below (QcI D cyI cyZ A (wM cyI cyZ a σ') r) args s 0 0 A) (F0 m pc ls [])) (x1 : Int32) (ls : Array Slot) (H : Heap) (locs : List Loc) (hgo : goL B_X9_back (n + 1) 0 σ [x1] = some q) (hl : lv_has ls 10 [(0, .ref (a 0)), (1, .int x1)]) (hP : va_P D vwCl (wM cyI cyZ a σ) H) (hD : va_D A (wM cyI cyZ a σ)) (hS : va_S A s.heap H locs) : W p l e (headSpec ts_X9_back ({ frames := 6, cells := 0, slots := 0, locals := 144 } : Room)).room s m args below meth c H locs 0 0 (MQ below (QcI D cyI cyZ A (wM cyI cyZ a σ') r) args s 0 0 A) (F0 m 0 ls []) := by
  obtain ⟨hx, hb, hr, hml, hown, hts, hK, hN, hlocks⟩ := hC
  have hown : s.vm.findClass RX9 = some m.cls := hown
  obtain ⟨yy, hF, hgo⟩ := goL_step (by decide) hgo
  have hF : B_X9_back_0 σ x1 = some yy := hF
  unfold B_X9_back_0 at hF
  refine lv_iload_n hx hb dX9_back_0 rfl (lv_at hl 1 rfl) ?_
  refine lv_iconst (v := (0 : Int32)) hx hb dX9_back_1 (by decide) ?_
  refine lv_sipush (v := (1000 : Int32)) hx hb dX9_back_2 (by decide) ?_
  refine z_callSI (w' := (wM cyI cyZ a σ)) (As := [.int x1, .int (0 : Int32), .int (1000 : Int32)]) (rest := []) ⟨hx, hb, hml, hown, hts⟩ (c_X9_within l D cyI cyZ A (wM cyI cyZ a σ) x1 (0 : Int32) (1000 : Int32) _ rfl) (va_cwS 3 hts (gd_S mw_161 mw_162 mw_5 mw_163) rfl rfl rfl (by decide +kernel) ⟨Nat.le_of_ble_eq_true rfl, Nat.le_of_ble_eq_true rfl⟩) hK hN hP hD hS rfl hl.1 rfl (Nat.le_of_ble_eq_true rfl) dX9_back_5 ⟨Nat.zero_le _, Nat.zero_le _⟩ (fun H locs hP hD hS => ?_)
  refine lv_if_ne (tgt := 13) hx hb dX9_back_8 (by decide) (fun c1 => ?_) (fun c1 => ?_)
  · rw [if_neg c1] at hF
    refine lv_aload_n hx hb dX9_back_13 rfl (lv_at hl 0 rfl) ?_
    refine lv_iload_n hx hb dX9_back_14 rfl (lv_at hl 1 rfl) ?_
    obtain ⟨p2, e3, hF⟩ := Option.bind_eq_some_iff.mp hF
    refine z_callVI (w' := (wM cyI cyZ a p2.2)) (As := [.int x1]) (rest := []) ⟨hx, hb, hml, hown, hts⟩ (c_X9_findNear l D cyI cyZ a A σ x1 p2.1 p2.2 e3) (cwV 1 hts (gd_V mw_764 mw_765 mw_766 mw_5 mw_767) rfl rfl rfl (by decide +kernel) ⟨Nat.le_of_ble_eq_true rfl, Nat.le_of_ble_eq_true rfl⟩) hK hN hP hD hS 9 0 rfl rfl gM_0 rfl hl.1 rfl (Nat.le_of_ble_eq_true rfl) dX9_back_15 ⟨Nat.zero_le _, Nat.zero_le _⟩ (fun H locs hP hD hS => ?_)
    refine lv_istore_n (lv' := [(2, .int p2.1), (0, .ref (a 0)), (1, .int x1)]) hx hb dX9_back_18 rfl hl (by decide) rfl (fun ls hl => ?_)
    refine lv_bipush (v := (-5 : Int32)) hx hb dX9_back_19 (by decide) ?_
    refine lv_istore_n (lv' := [(3, .int (-5 : Int32)), (2, .int p2.1), (0, .ref (a 0)), (1, .int x1)]) hx hb dX9_back_21 rfl hl (by decide) rfl (fun ls hl => ?_)
    refine lv_iconst (v := (0 : Int32)) hx hb dX9_back_22 (by decide) ?_
    refine lv_istore (lv' := [(4, .int (0 : Int32)), (3, .int (-5 : Int32)), (2, .int p2.1), (0, .ref (a 0)), (1, .int x1)]) hx hb dX9_back_23 hl (by decide) rfl (fun ls hl => ?_)
    refine lv_iconst (v := (0 : Int32)) hx hb dX9_back_25 (by decide) ?_
    refine lv_istore (lv' := [(5, .int (0 : Int32)), (4, .int (0 : Int32)), (3, .int (-5 : Int32)), (2, .int p2.1), (0, .ref (a 0)), (1, .int x1)]) hx hb dX9_back_26 hl (by decide) rfl (fun ls hl => ?_)
    cases hF
    exact ih _ _ _ _ _ _ hgo (Or.inr (Or.inl ⟨rfl, _, _, _, _, rfl, lv_sub hl [4, 3, 2, 1, 0] rfl⟩)) hP hD hS
  · rw [if_pos c1] at hF
    refine lv_iconst (v := (-1 : Int32)) hx hb dX9_back_11 (by decide) ?_
    cases hF
    obtain ⟨rfl, rfl⟩ := extM_ret hq (goL_ret hgo)
    exact z_iret hx hb hr hlocks hK hP hD hS dX9_back_12
set_option maxHeartbeats 4000000 in
set_option maxRecDepth 100000 in
theorem wl_X9_back_28 (σ : Mem) (hC : CX p c cX9_back meth (some .int) s m args yX9_back.cls 10 D cyI cyZ) (hq : extM q = some (r, σ')) (n : Nat) (ih : ∀ (pc : Nat) (x : Mem) (vs : List Int32) (ls : Array Slot) (H : Heap) (locs : List Loc), goL B_X9_back n pc x vs = some q → SH_X9_back a ls pc vs → va_P D vwCl (wM cyI cyZ a x) H → va_D A (wM cyI cyZ a x) → va_S A s.heap H locs → W p l e (headSpec ts_X9_back ({ frames := 6, cells := 0, slots := 0, locals := 144 } : Room)).room s m args below meth c H locs 0 0 (MQ below (QcI D cyI cyZ A (wM cyI cyZ a σ') r) args s 0 0 A) (F0 m pc ls [])) (x2 : Int32) (x3 : Int32) (x4 : Int32) (x5 : Int32) (ls : Array Slot) (H : Heap) (locs : List Loc) (hgo : goL B_X9_back (n + 1) 28 σ [x2, x3, x4, x5] = some q) (hl : lv_has ls 10 [(0, .ref (a 0)), (2, .int x2), (3, .int x3), (4, .int x4), (5, .int x5)]) (hP : va_P D vwCl (wM cyI cyZ a σ) H) (hD : va_D A (wM cyI cyZ a σ)) (hS : va_S A s.heap H locs) : W p l e (headSpec ts_X9_back ({ frames := 6, cells := 0, slots := 0, locals := 144 } : Room)).room s m args below meth c H locs 0 0 (MQ below (QcI D cyI cyZ A (wM cyI cyZ a σ') r) args s 0 0 A) (F0 m 28 ls []) := by
  obtain ⟨hx, hb, hr, hml, hown, hts, hK, hN, hlocks⟩ := hC
  have hown : s.vm.findClass RX9 = some m.cls := hown
  obtain ⟨yy, hF, hgo⟩ := goL_step (by decide) hgo
  have hF : B_X9_back_28 σ x2 x3 x4 x5 = some yy := hF
  unfold B_X9_back_28 at hF
  refine lv_iload hx hb dX9_back_28 (lv_at hl 4 rfl) ?_
  refine lv_aload_n hx hb dX9_back_30 rfl (lv_at hl 0 rfl) ?_
  refine va_get (D := D) (ci := 9) (v := .int (σ 0 13)) (C := RX9) (T := TX9) (N := 34) hx hb hts inlX9 hown hK hP 0 gM_0 rfl 13 (by decide) (hts _ mw_360) (fun _ h9 => h9) rfl dX9_back_31 ?_
  refine lv_icmp_ge (tgt := 140) hx hb dX9_back_34 (by decide) (fun c1 => ?_) (fun c1 => ?_)
  · rw [if_pos c1] at hF
    refine lv_iload_n hx hb dX9_back_140 rfl (lv_at hl 2 rfl) ?_
    cases hF
    obtain ⟨rfl, rfl⟩ := extM_ret hq (goL_ret hgo)
    exact z_iret hx hb hr hlocks hK hP hD hS dX9_back_141
  · rw [if_neg c1] at hF
    refine lv_iconst (v := (0 : Int32)) hx hb dX9_back_37 (by decide) ?_
    refine lv_istore (lv' := [(6, .int (0 : Int32)), (0, .ref (a 0)), (2, .int x2), (3, .int x3), (4, .int x4), (5, .int x5)]) hx hb dX9_back_38 hl (by decide) rfl (fun ls hl => ?_)
    refine lv_iconst (v := (0 : Int32)) hx hb dX9_back_40 (by decide) ?_
    refine lv_istore (lv' := [(7, .int (0 : Int32)), (6, .int (0 : Int32)), (0, .ref (a 0)), (2, .int x2), (3, .int x3), (4, .int x4), (5, .int x5)]) hx hb dX9_back_41 hl (by decide) rfl (fun ls hl => ?_)
    refine lv_iconst (v := (0 : Int32)) hx hb dX9_back_43 (by decide) ?_
    refine lv_istore (lv' := [(8, .int (0 : Int32)), (7, .int (0 : Int32)), (6, .int (0 : Int32)), (0, .ref (a 0)), (2, .int x2), (3, .int x3), (4, .int x4), (5, .int x5)]) hx hb dX9_back_44 hl (by decide) rfl (fun ls hl => ?_)
    cases hF
    exact ih _ _ _ _ _ _ hgo (Or.inr (Or.inr (⟨rfl, _, _, _, _, _, _, _, rfl, lv_sub hl [3, 4, 5, 6, 7, 2, 1, 0] rfl⟩))) hP hD hS
set_option maxHeartbeats 4000000 in
set_option maxRecDepth 100000 in
theorem wl_X9_back_46 (σ : Mem) (hC : CX p c cX9_back meth (some .int) s m args yX9_back.cls 10 D cyI cyZ) (hq : extM q = some (r, σ')) (n : Nat) (ih : ∀ (pc : Nat) (x : Mem) (vs : List Int32) (ls : Array Slot) (H : Heap) (locs : List Loc), goL B_X9_back n pc x vs = some q → SH_X9_back a ls pc vs → va_P D vwCl (wM cyI cyZ a x) H → va_D A (wM cyI cyZ a x) → va_S A s.heap H locs → W p l e (headSpec ts_X9_back ({ frames := 6, cells := 0, slots := 0, locals := 144 } : Room)).room s m args below meth c H locs 0 0 (MQ below (QcI D cyI cyZ A (wM cyI cyZ a σ') r) args s 0 0 A) (F0 m pc ls [])) (x2 : Int32) (x3 : Int32) (x4 : Int32) (x5 : Int32) (x6 : Int32) (x7 : Int32) (x8 : Int32) (ls : Array Slot) (H : Heap) (locs : List Loc) (hgo : goL B_X9_back (n + 1) 46 σ [x2, x3, x4, x5, x6, x7, x8] = some q) (hl : lv_has ls 10 [(0, .ref (a 0)), (2, .int x2), (3, .int x3), (4, .int x4), (5, .int x5), (6, .int x6), (7, .int x7), (8, .int x8)]) (hP : va_P D vwCl (wM cyI cyZ a σ) H) (hD : va_D A (wM cyI cyZ a σ)) (hS : va_S A s.heap H locs) : W p l e (headSpec ts_X9_back ({ frames := 6, cells := 0, slots := 0, locals := 144 } : Room)).room s m args below meth c H locs 0 0 (MQ below (QcI D cyI cyZ A (wM cyI cyZ a σ') r) args s 0 0 A) (F0 m 46 ls []) := by
  obtain ⟨hx, hb, hr, hml, hown, hts, hK, hN, hlocks⟩ := hC
  have hown : s.vm.findClass RX9 = some m.cls := hown
  obtain ⟨yy, hF, hgo⟩ := goL_step (by decide) hgo
  have hF : B_X9_back_46 σ x2 x3 x4 x5 x6 x7 x8 = some yy := hF
  unfold B_X9_back_46 at hF
  refine lv_iload hx hb dX9_back_46 (lv_at hl 7 rfl) ?_
  refine lv_iconst (v := (3 : Int32)) hx hb dX9_back_48 (by decide) ?_
  refine lv_icmp_ge (tgt := 110) hx hb dX9_back_49 (by decide) (fun c1 => ?_) (fun c1 => ?_)
  · rw [if_pos c1] at hF
    refine lv_iload hx hb dX9_back_110 (lv_at hl 5 rfl) ?_
    refine lv_iconst (v := (1 : Int32)) hx hb dX9_back_112 (by decide) ?_
    refine lv_icmp_le (tgt := 134) hx hb dX9_back_113 (by decide) (fun c2 => ?_) (fun c2 => ?_)
    · rw [if_pos c2] at hF
      refine lv_iinc (v := (x5 + (1 : Int32))) (lv' := [(5, .int (x5 + (1 : Int32))), (0, .ref (a 0)), (2, .int x2), (3, .int x3), (4, .int x4), (6, .int x6), (7, .int x7), (8, .int x8)]) hx hb dX9_back_134 hl (k := 4) rfl rfl (by decide) rfl (fun ls hl => ?_)
      refine lv_goto (tgt := 28) hx hb dX9_back_137 (by decide) ?_
      cases hF
      exact ih _ _ _ _ _ _ hgo (Or.inr (Or.inl ⟨rfl, _, _, _, _, rfl, lv_sub hl [1, 2, 3, 4, 0] rfl⟩)) hP hD hS
    · rw [if_neg c2] at hF
      refine lv_iload_n hx hb dX9_back_116 rfl (lv_at hl 2 rfl) ?_
      refine lv_if_lt (tgt := 127) hx hb dX9_back_117 (by decide) (fun c3 => ?_) (fun c3 => ?_)
      · rw [if_pos c3] at hF
        refine lv_iload hx hb dX9_back_127 (lv_at hl 4 rfl) ?_
        refine lv_istore_n (lv' := [(3, .int x5), (0, .ref (a 0)), (2, .int x2), (4, .int x4), (5, .int x5), (6, .int x6), (7, .int x7), (8, .int x8)]) hx hb dX9_back_129 rfl hl (by decide) rfl (fun ls hl => ?_)
        refine lv_iload hx hb dX9_back_130 (lv_at hl 6 rfl) ?_
        refine lv_istore (lv' := [(4, .int x7), (3, .int x5), (0, .ref (a 0)), (2, .int x2), (5, .int x5), (6, .int x6), (7, .int x7), (8, .int x8)]) hx hb dX9_back_132 hl (by decide) rfl (fun ls hl => ?_)
        refine lv_iinc (v := (x5 + (1 : Int32))) (lv' := [(5, .int (x5 + (1 : Int32))), (4, .int x7), (3, .int x5), (0, .ref (a 0)), (2, .int x2), (6, .int x6), (7, .int x7), (8, .int x8)]) hx hb dX9_back_134 hl (k := 4) rfl rfl (by decide) rfl (fun ls hl => ?_)
        refine lv_goto (tgt := 28) hx hb dX9_back_137 (by decide) ?_
        cases hF
        exact ih _ _ _ _ _ _ hgo (Or.inr (Or.inl ⟨rfl, _, _, _, _, rfl, lv_sub hl [3, 4, 2, 1, 0] rfl⟩)) hP hD hS
      · rw [if_neg c3] at hF
        refine lv_iload hx hb dX9_back_120 (lv_at hl 6 rfl) ?_
        refine lv_iload hx hb dX9_back_122 (lv_at hl 3 rfl) ?_
        refine lv_icmp_ge (tgt := 134) hx hb dX9_back_124 (by decide) (fun c4 => ?_) (fun c4 => ?_)
        · rw [if_pos c4] at hF
          refine lv_iinc (v := (x5 + (1 : Int32))) (lv' := [(5, .int (x5 + (1 : Int32))), (0, .ref (a 0)), (2, .int x2), (3, .int x3), (4, .int x4), (6, .int x6), (7, .int x7), (8, .int x8)]) hx hb dX9_back_134 hl (k := 4) rfl rfl (by decide) rfl (fun ls hl => ?_)
          refine lv_goto (tgt := 28) hx hb dX9_back_137 (by decide) ?_
          cases hF
          exact ih _ _ _ _ _ _ hgo (Or.inr (Or.inl ⟨rfl, _, _, _, _, rfl, lv_sub hl [1, 2, 3, 4, 0] rfl⟩)) hP hD hS
        · rw [if_neg c4] at hF
          refine lv_iload hx hb dX9_back_127 (lv_at hl 4 rfl) ?_
          refine lv_istore_n (lv' := [(3, .int x5), (0, .ref (a 0)), (2, .int x2), (4, .int x4), (5, .int x5), (6, .int x6), (7, .int x7), (8, .int x8)]) hx hb dX9_back_129 rfl hl (by decide) rfl (fun ls hl => ?_)
          refine lv_iload hx hb dX9_back_130 (lv_at hl 6 rfl) ?_
          refine lv_istore (lv' := [(4, .int x7), (3, .int x5), (0, .ref (a 0)), (2, .int x2), (5, .int x5), (6, .int x6), (7, .int x7), (8, .int x8)]) hx hb dX9_back_132 hl (by decide) rfl (fun ls hl => ?_)
          refine lv_iinc (v := (x5 + (1 : Int32))) (lv' := [(5, .int (x5 + (1 : Int32))), (4, .int x7), (3, .int x5), (0, .ref (a 0)), (2, .int x2), (6, .int x6), (7, .int x7), (8, .int x8)]) hx hb dX9_back_134 hl (k := 4) rfl rfl (by decide) rfl (fun ls hl => ?_)
          refine lv_goto (tgt := 28) hx hb dX9_back_137 (by decide) ?_
          cases hF
          exact ih _ _ _ _ _ _ hgo (Or.inr (Or.inl ⟨rfl, _, _, _, _, rfl, lv_sub hl [3, 4, 2, 1, 0] rfl⟩)) hP hD hS
  · rw [if_neg c1] at hF
    refine lv_aload_n hx hb dX9_back_52 rfl (lv_at hl 0 rfl) ?_
    refine va_get (D := D) (ci := 9) (v := .ref (a 12)) (C := RX9) (T := TX9) (N := 34) hx hb hts inlX9 hown hK hP 0 gM_0 rfl 12 (by decide) (hts _ mw_128) (fun _ h9 => h9) rfl dX9_back_53 ?_
    refine lv_iload hx hb dX9_back_56 (lv_at hl 4 rfl) ?_
    obtain ⟨v5, e6, hF⟩ := Option.bind_eq_some_iff.mp hF
    refine z_zld hx hb hK hP 12 gM_12 e6 dX9_back_58 ?_
    refine lv_if_ne (tgt := 110) hx hb dX9_back_59 (by decide) (fun c7 => ?_) (fun c7 => ?_)
    · rw [if_neg c7] at hF
      refine lv_iload hx hb dX9_back_110 (lv_at hl 5 rfl) ?_
      refine lv_iconst (v := (1 : Int32)) hx hb dX9_back_112 (by decide) ?_
      refine lv_icmp_le (tgt := 134) hx hb dX9_back_113 (by decide) (fun c8 => ?_) (fun c8 => ?_)
      · rw [if_pos c8] at hF
        refine lv_iinc (v := (x5 + (1 : Int32))) (lv' := [(5, .int (x5 + (1 : Int32))), (0, .ref (a 0)), (2, .int x2), (3, .int x3), (4, .int x4), (6, .int x6), (7, .int x7), (8, .int x8)]) hx hb dX9_back_134 hl (k := 4) rfl rfl (by decide) rfl (fun ls hl => ?_)
        refine lv_goto (tgt := 28) hx hb dX9_back_137 (by decide) ?_
        cases hF
        exact ih _ _ _ _ _ _ hgo (Or.inr (Or.inl ⟨rfl, _, _, _, _, rfl, lv_sub hl [1, 2, 3, 4, 0] rfl⟩)) hP hD hS
      · rw [if_neg c8] at hF
        refine lv_iload_n hx hb dX9_back_116 rfl (lv_at hl 2 rfl) ?_
        refine lv_if_lt (tgt := 127) hx hb dX9_back_117 (by decide) (fun c9 => ?_) (fun c9 => ?_)
        · rw [if_pos c9] at hF
          refine lv_iload hx hb dX9_back_127 (lv_at hl 4 rfl) ?_
          refine lv_istore_n (lv' := [(3, .int x5), (0, .ref (a 0)), (2, .int x2), (4, .int x4), (5, .int x5), (6, .int x6), (7, .int x7), (8, .int x8)]) hx hb dX9_back_129 rfl hl (by decide) rfl (fun ls hl => ?_)
          refine lv_iload hx hb dX9_back_130 (lv_at hl 6 rfl) ?_
          refine lv_istore (lv' := [(4, .int x7), (3, .int x5), (0, .ref (a 0)), (2, .int x2), (5, .int x5), (6, .int x6), (7, .int x7), (8, .int x8)]) hx hb dX9_back_132 hl (by decide) rfl (fun ls hl => ?_)
          refine lv_iinc (v := (x5 + (1 : Int32))) (lv' := [(5, .int (x5 + (1 : Int32))), (4, .int x7), (3, .int x5), (0, .ref (a 0)), (2, .int x2), (6, .int x6), (7, .int x7), (8, .int x8)]) hx hb dX9_back_134 hl (k := 4) rfl rfl (by decide) rfl (fun ls hl => ?_)
          refine lv_goto (tgt := 28) hx hb dX9_back_137 (by decide) ?_
          cases hF
          exact ih _ _ _ _ _ _ hgo (Or.inr (Or.inl ⟨rfl, _, _, _, _, rfl, lv_sub hl [3, 4, 2, 1, 0] rfl⟩)) hP hD hS
        · rw [if_neg c9] at hF
          refine lv_iload hx hb dX9_back_120 (lv_at hl 6 rfl) ?_
          refine lv_iload hx hb dX9_back_122 (lv_at hl 3 rfl) ?_
          refine lv_icmp_ge (tgt := 134) hx hb dX9_back_124 (by decide) (fun c10 => ?_) (fun c10 => ?_)
          · rw [if_pos c10] at hF
            refine lv_iinc (v := (x5 + (1 : Int32))) (lv' := [(5, .int (x5 + (1 : Int32))), (0, .ref (a 0)), (2, .int x2), (3, .int x3), (4, .int x4), (6, .int x6), (7, .int x7), (8, .int x8)]) hx hb dX9_back_134 hl (k := 4) rfl rfl (by decide) rfl (fun ls hl => ?_)
            refine lv_goto (tgt := 28) hx hb dX9_back_137 (by decide) ?_
            cases hF
            exact ih _ _ _ _ _ _ hgo (Or.inr (Or.inl ⟨rfl, _, _, _, _, rfl, lv_sub hl [1, 2, 3, 4, 0] rfl⟩)) hP hD hS
          · rw [if_neg c10] at hF
            refine lv_iload hx hb dX9_back_127 (lv_at hl 4 rfl) ?_
            refine lv_istore_n (lv' := [(3, .int x5), (0, .ref (a 0)), (2, .int x2), (4, .int x4), (5, .int x5), (6, .int x6), (7, .int x7), (8, .int x8)]) hx hb dX9_back_129 rfl hl (by decide) rfl (fun ls hl => ?_)
            refine lv_iload hx hb dX9_back_130 (lv_at hl 6 rfl) ?_
            refine lv_istore (lv' := [(4, .int x7), (3, .int x5), (0, .ref (a 0)), (2, .int x2), (5, .int x5), (6, .int x6), (7, .int x7), (8, .int x8)]) hx hb dX9_back_132 hl (by decide) rfl (fun ls hl => ?_)
            refine lv_iinc (v := (x5 + (1 : Int32))) (lv' := [(5, .int (x5 + (1 : Int32))), (4, .int x7), (3, .int x5), (0, .ref (a 0)), (2, .int x2), (6, .int x6), (7, .int x7), (8, .int x8)]) hx hb dX9_back_134 hl (k := 4) rfl rfl (by decide) rfl (fun ls hl => ?_)
            refine lv_goto (tgt := 28) hx hb dX9_back_137 (by decide) ?_
            cases hF
            exact ih _ _ _ _ _ _ hgo (Or.inr (Or.inl ⟨rfl, _, _, _, _, rfl, lv_sub hl [3, 4, 2, 1, 0] rfl⟩)) hP hD hS
    · rw [if_pos c7] at hF
      refine lv_aload_n hx hb dX9_back_62 rfl (lv_at hl 0 rfl) ?_
      refine lv_iload_n hx hb dX9_back_63 rfl (lv_at hl 1 rfl) ?_
      refine lv_iload hx hb dX9_back_64 (lv_at hl 4 rfl) ?_
      refine lv_iload hx hb dX9_back_66 (lv_at hl 7 rfl) ?_
      obtain ⟨p11, e12, hF⟩ := Option.bind_eq_some_iff.mp hF
      refine z_callVI (w' := (wM cyI cyZ a p11.2)) (As := [.int x2, .int x5, .int x8]) (rest := []) ⟨hx, hb, hml, hown, hts⟩ (c_X9_unlike l D cyI cyZ a A σ x2 x5 x8 p11.1 p11.2 e12) (cwV 3 hts (gd_V mw_769 mw_770 mw_771 mw_5 mw_772) rfl rfl rfl (by decide +kernel) ⟨Nat.le_of_ble_eq_true rfl, Nat.le_of_ble_eq_true rfl⟩) hK hN hP hD hS 9 0 rfl rfl gM_0 rfl hl.1 rfl (Nat.le_of_ble_eq_true rfl) dX9_back_68 ⟨Nat.zero_le _, Nat.zero_le _⟩ (fun H locs hP hD hS => ?_)
      refine lv_istore (lv' := [(9, .int p11.1), (0, .ref (a 0)), (2, .int x2), (3, .int x3), (4, .int x4), (5, .int x5), (6, .int x6), (7, .int x7), (8, .int x8)]) hx hb dX9_back_71 hl (by decide) rfl (fun ls hl => ?_)
      refine lv_iload hx hb dX9_back_73 (lv_at hl 6 rfl) ?_
      refine lv_iload hx hb dX9_back_75 (lv_at hl 0 rfl) ?_
      refine lv_if_le (tgt := 84) hx hb dX9_back_77 (by decide) (fun c13 => ?_) (fun c13 => ?_)
      · rw [if_pos c13] at hF
        refine lv_iconst (v := (0 : Int32)) hx hb dX9_back_84 (by decide) ?_
        refine lv_iadd hx hb dX9_back_85 ?_
        refine lv_istore (lv' := [(6, .int (x6 + (0 : Int32))), (9, .int p11.1), (0, .ref (a 0)), (2, .int x2), (3, .int x3), (4, .int x4), (5, .int x5), (7, .int x7), (8, .int x8)]) hx hb dX9_back_86 hl (by decide) rfl (fun ls hl => ?_)
        refine lv_iload hx hb dX9_back_88 (lv_at hl 1 rfl) ?_
        refine lv_iload hx hb dX9_back_90 (lv_at hl 7 rfl) ?_
        refine lv_icmp_le (tgt := 100) hx hb dX9_back_92 (by decide) (fun c14 => ?_) (fun c14 => ?_)
        · rw [if_pos c14] at hF
          refine lv_iload hx hb dX9_back_100 (lv_at hl 7 rfl) ?_
          refine lv_istore (lv' := [(7, .int x7), (6, .int (x6 + (0 : Int32))), (9, .int p11.1), (0, .ref (a 0)), (2, .int x2), (3, .int x3), (4, .int x4), (5, .int x5), (8, .int x8)]) hx hb dX9_back_102 hl (by decide) rfl (fun ls hl => ?_)
          refine lv_iinc (v := (x8 + (1 : Int32))) (lv' := [(8, .int (x8 + (1 : Int32))), (7, .int x7), (6, .int (x6 + (0 : Int32))), (9, .int p11.1), (0, .ref (a 0)), (2, .int x2), (3, .int x3), (4, .int x4), (5, .int x5)]) hx hb dX9_back_104 hl (k := 8) rfl rfl (by decide) rfl (fun ls hl => ?_)
          refine lv_goto (tgt := 46) hx hb dX9_back_107 (by decide) ?_
          cases hF
          exact ih _ _ _ _ _ _ hgo (Or.inr (Or.inr (⟨rfl, _, _, _, _, _, _, _, rfl, lv_sub hl [4, 5, 6, 7, 8, 2, 1, 0] rfl⟩))) hP hD hS
        · rw [if_neg c14] at hF
          refine lv_iload hx hb dX9_back_95 (lv_at hl 1 rfl) ?_
          refine lv_goto (tgt := 102) hx hb dX9_back_97 (by decide) ?_
          refine lv_istore (lv' := [(7, .int p11.1), (6, .int (x6 + (0 : Int32))), (9, .int p11.1), (0, .ref (a 0)), (2, .int x2), (3, .int x3), (4, .int x4), (5, .int x5), (8, .int x8)]) hx hb dX9_back_102 hl (by decide) rfl (fun ls hl => ?_)
          refine lv_iinc (v := (x8 + (1 : Int32))) (lv' := [(8, .int (x8 + (1 : Int32))), (7, .int p11.1), (6, .int (x6 + (0 : Int32))), (9, .int p11.1), (0, .ref (a 0)), (2, .int x2), (3, .int x3), (4, .int x4), (5, .int x5)]) hx hb dX9_back_104 hl (k := 8) rfl rfl (by decide) rfl (fun ls hl => ?_)
          refine lv_goto (tgt := 46) hx hb dX9_back_107 (by decide) ?_
          cases hF
          exact ih _ _ _ _ _ _ hgo (Or.inr (Or.inr (⟨rfl, _, _, _, _, _, _, _, rfl, lv_sub hl [4, 5, 6, 7, 8, 2, 1, 0] rfl⟩))) hP hD hS
      · rw [if_neg c13] at hF
        refine lv_iconst (v := (1 : Int32)) hx hb dX9_back_80 (by decide) ?_
        refine lv_goto (tgt := 85) hx hb dX9_back_81 (by decide) ?_
        refine lv_iadd hx hb dX9_back_85 ?_
        refine lv_istore (lv' := [(6, .int (x6 + (1 : Int32))), (9, .int p11.1), (0, .ref (a 0)), (2, .int x2), (3, .int x3), (4, .int x4), (5, .int x5), (7, .int x7), (8, .int x8)]) hx hb dX9_back_86 hl (by decide) rfl (fun ls hl => ?_)
        refine lv_iload hx hb dX9_back_88 (lv_at hl 1 rfl) ?_
        refine lv_iload hx hb dX9_back_90 (lv_at hl 7 rfl) ?_
        refine lv_icmp_le (tgt := 100) hx hb dX9_back_92 (by decide) (fun c15 => ?_) (fun c15 => ?_)
        · rw [if_pos c15] at hF
          refine lv_iload hx hb dX9_back_100 (lv_at hl 7 rfl) ?_
          refine lv_istore (lv' := [(7, .int x7), (6, .int (x6 + (1 : Int32))), (9, .int p11.1), (0, .ref (a 0)), (2, .int x2), (3, .int x3), (4, .int x4), (5, .int x5), (8, .int x8)]) hx hb dX9_back_102 hl (by decide) rfl (fun ls hl => ?_)
          refine lv_iinc (v := (x8 + (1 : Int32))) (lv' := [(8, .int (x8 + (1 : Int32))), (7, .int x7), (6, .int (x6 + (1 : Int32))), (9, .int p11.1), (0, .ref (a 0)), (2, .int x2), (3, .int x3), (4, .int x4), (5, .int x5)]) hx hb dX9_back_104 hl (k := 8) rfl rfl (by decide) rfl (fun ls hl => ?_)
          refine lv_goto (tgt := 46) hx hb dX9_back_107 (by decide) ?_
          cases hF
          exact ih _ _ _ _ _ _ hgo (Or.inr (Or.inr (⟨rfl, _, _, _, _, _, _, _, rfl, lv_sub hl [4, 5, 6, 7, 8, 2, 1, 0] rfl⟩))) hP hD hS
        · rw [if_neg c15] at hF
          refine lv_iload hx hb dX9_back_95 (lv_at hl 1 rfl) ?_
          refine lv_goto (tgt := 102) hx hb dX9_back_97 (by decide) ?_
          refine lv_istore (lv' := [(7, .int p11.1), (6, .int (x6 + (1 : Int32))), (9, .int p11.1), (0, .ref (a 0)), (2, .int x2), (3, .int x3), (4, .int x4), (5, .int x5), (8, .int x8)]) hx hb dX9_back_102 hl (by decide) rfl (fun ls hl => ?_)
          refine lv_iinc (v := (x8 + (1 : Int32))) (lv' := [(8, .int (x8 + (1 : Int32))), (7, .int p11.1), (6, .int (x6 + (1 : Int32))), (9, .int p11.1), (0, .ref (a 0)), (2, .int x2), (3, .int x3), (4, .int x4), (5, .int x5)]) hx hb dX9_back_104 hl (k := 8) rfl rfl (by decide) rfl (fun ls hl => ?_)
          refine lv_goto (tgt := 46) hx hb dX9_back_107 (by decide) ?_
          cases hF
          exact ih _ _ _ _ _ _ hgo (Or.inr (Or.inr (⟨rfl, _, _, _, _, _, _, _, rfl, lv_sub hl [4, 5, 6, 7, 8, 2, 1, 0] rfl⟩))) hP hD hS
theorem wk_X9_back (hC : CX p c cX9_back meth (some .int) s m args yX9_back.cls 10 D cyI cyZ) (hq : extM q = some (r, σ')) : ∀ (n : Nat), ∀ (pc : Nat) (x : Mem) (vs : List Int32) (ls : Array Slot) (H : Heap) (locs : List Loc), goL B_X9_back n pc x vs = some q → SH_X9_back a ls pc vs → va_P D vwCl (wM cyI cyZ a x) H → va_D A (wM cyI cyZ a x) → va_S A s.heap H locs → W p l e (headSpec ts_X9_back ({ frames := 6, cells := 0, slots := 0, locals := 144 } : Room)).room s m args below meth c H locs 0 0 (MQ below (QcI D cyI cyZ A (wM cyI cyZ a σ') r) args s 0 0 A) (F0 m pc ls []) := by
  intro n
  induction n with
  | zero => intro pc x vs ls H locs h; exact absurd h (by simp [goL])
  | succ n ih =>
    intro pc x vs ls H locs hgo hsh hP hD hS
    rcases hsh with ⟨rfl, x1, rfl, hl⟩ | ⟨rfl, x2, x3, x4, x5, rfl, hl⟩ | ⟨rfl, x2, x3, x4, x5, x6, x7, x8, rfl, hl⟩
    · exact wl_X9_back_0 x hC hq n ih x1 ls H locs hgo hl hP hD hS
    · exact wl_X9_back_28 x hC hq n ih x2 x3 x4 x5 ls H locs hgo hl hP hD hS
    · exact wl_X9_back_46 x hC hq n ih x2 x3 x4 x5 x6 x7 x8 ls H locs hgo hl hP hD hS
end
theorem c_X9_back (l : Launch) (D : va_G) (cyI cyZ : ClassId) (a : Nat → Nat) (A : Nat → Prop) (σ : Mem) (x1 : Int32) (r : Int32) (σ' : Mem) (hF : F_X9_back σ x1 = some (r, σ')) : CtI l yX9_back ts_X9_back ({ frames := 6, cells := 0, slots := 0, locals := 144 } : Room) [.ref (a 0), .int x1] D cyI cyZ A (wM cyI cyZ a σ) (wM cyI cyZ a σ') r := by
  refine CtI.of (cc := cX9_back) (maxL := 10) (ret := (some .int)) (by decide) rfl (Nat.le_of_ble_eq_true rfl) ?_
  intro p e s m below meth c ls hC hP hD hl
  obtain ⟨q, hq, hr1⟩ := Option.bind_eq_some_iff.mp hF
  obtain ⟨n, hn⟩ := finL_some hq
  exact wk_X9_back hC hr1 n 0 _ _ ls _ _ hn (Or.inl ⟨rfl, _, rfl, hl⟩) hP hD va_S.rf
abbrev ts_X9_agree : List Cond := .code yX9_agree cX9_agree 7 (some .int) :: wsL_law
def SH_X9_agree (a : Nat → Nat) (ls : Array Slot) (pc : Nat) (vs : List Int32) : Prop := (pc = 0 ∧ ∃ x1 x2 x3 : Int32, vs = [x1, x2, x3] ∧ lv_has ls 7 [(0, .ref (a 0)), (1, .int x1), (2, .int x2), (3, .int x3)]) ∨ (pc = 47 ∧ ∃ x2 x3 x4 x5 x6 : Int32, vs = [x2, x3, x4, x5, x6] ∧ lv_has ls 7 [(0, .ref (a 0)), (2, .int x2), (3, .int x3), (4, .int x4), (5, .int x5), (6, .int x6)])
section
variable {p : Program} {l : Launch} {e : Env} {s : State} {m : MethodId} {args : Array Value} {below : List Frame} {meth : Method} {c : Code} {D : va_G} {A : Nat → Prop} {a : Nat → Nat} {cyI cyZ : ClassId} {r : Int32} {σ' : Mem} {q : Mem × List Int32}
set_option maxHeartbeats 4000000 in
set_option maxRecDepth 100000 in
theorem wl_X9_agree_0 (σ : Mem) (hC : CX p c cX9_agree meth (some .int) s m args yX9_agree.cls 7 D cyI cyZ) (hq : extM q = some (r, σ')) (n : Nat) (ih : ∀ (pc : Nat) (x : Mem) (vs : List Int32) (ls : Array Slot) (H : Heap) (locs : List Loc), goL B_X9_agree n pc x vs = some q → SH_X9_agree a ls pc vs → va_P D vwCl (wM cyI cyZ a x) H → va_D A (wM cyI cyZ a x) → va_S A s.heap H locs → W p l e (headSpec ts_X9_agree ({ frames := 6, cells := 0, slots := 0, locals := 144 } : Room)).room s m args below meth c H locs 0 0 (MQ below (QcI D cyI cyZ A (wM cyI cyZ a σ') r) args s 0 0 A) (F0 m pc ls [])) (x1 : Int32) (x2 : Int32) (x3 : Int32) (ls : Array Slot) (H : Heap) (locs : List Loc) (hgo : goL B_X9_agree (n + 1) 0 σ [x1, x2, x3] = some q) (hl : lv_has ls 7 [(0, .ref (a 0)), (1, .int x1), (2, .int x2), (3, .int x3)]) (hP : va_P D vwCl (wM cyI cyZ a σ) H) (hD : va_D A (wM cyI cyZ a σ)) (hS : va_S A s.heap H locs) : W p l e (headSpec ts_X9_agree ({ frames := 6, cells := 0, slots := 0, locals := 144 } : Room)).room s m args below meth c H locs 0 0 (MQ below (QcI D cyI cyZ A (wM cyI cyZ a σ') r) args s 0 0 A) (F0 m 0 ls []) := by
  obtain ⟨hx, hb, hr, hml, hown, hts, hK, hN, hlocks⟩ := hC
  have hown : s.vm.findClass RX9 = some m.cls := hown
  obtain ⟨yy, hF, hgo⟩ := goL_step (by decide) hgo
  have hF : B_X9_agree_0 σ x1 x2 x3 = some yy := hF
  unfold B_X9_agree_0 at hF
  refine lv_iload_n hx hb dX9_agree_0 rfl (lv_at hl 1 rfl) ?_
  refine lv_iconst (v := (0 : Int32)) hx hb dX9_agree_1 (by decide) ?_
  refine lv_sipush (v := (1000 : Int32)) hx hb dX9_agree_2 (by decide) ?_
  refine z_callSI (w' := (wM cyI cyZ a σ)) (As := [.int x1, .int (0 : Int32), .int (1000 : Int32)]) (rest := []) ⟨hx, hb, hml, hown, hts⟩ (c_X9_within l D cyI cyZ A (wM cyI cyZ a σ) x1 (0 : Int32) (1000 : Int32) _ rfl) (va_cwS 3 hts (gd_S mw_161 mw_162 mw_5 mw_163) rfl rfl rfl (by decide +kernel) ⟨Nat.le_of_ble_eq_true rfl, Nat.le_of_ble_eq_true rfl⟩) hK hN hP hD hS rfl hl.1 rfl (Nat.le_of_ble_eq_true rfl) dX9_agree_5 ⟨Nat.zero_le _, Nat.zero_le _⟩ (fun H locs hP hD hS => ?_)
  refine lv_if_eq (tgt := 32) hx hb dX9_agree_8 (by decide) (fun c1 => ?_) (fun c1 => ?_)
  · rw [if_pos c1] at hF
    refine lv_iconst (v := (-1 : Int32)) hx hb dX9_agree_32 (by decide) ?_
    cases hF
    obtain ⟨rfl, rfl⟩ := extM_ret hq (goL_ret hgo)
    exact z_iret hx hb hr hlocks hK hP hD hS dX9_agree_33
  · rw [if_neg c1] at hF
    refine lv_iload_n hx hb dX9_agree_11 rfl (lv_at hl 2 rfl) ?_
    refine lv_if_lt (tgt := 32) hx hb dX9_agree_12 (by decide) (fun c2 => ?_) (fun c2 => ?_)
    · rw [if_pos c2] at hF
      refine lv_iconst (v := (-1 : Int32)) hx hb dX9_agree_32 (by decide) ?_
      cases hF
      obtain ⟨rfl, rfl⟩ := extM_ret hq (goL_ret hgo)
      exact z_iret hx hb hr hlocks hK hP hD hS dX9_agree_33
    · rw [if_neg c2] at hF
      refine lv_iload_n hx hb dX9_agree_15 rfl (lv_at hl 2 rfl) ?_
      refine lv_aload_n hx hb dX9_agree_16 rfl (lv_at hl 0 rfl) ?_
      refine va_get (D := D) (ci := 9) (v := .int (σ 0 13)) (C := RX9) (T := TX9) (N := 34) hx hb hts inlX9 hown hK hP 0 gM_0 rfl 13 (by decide) (hts _ mw_360) (fun _ h9 => h9) rfl dX9_agree_17 ?_
      refine lv_icmp_ge (tgt := 32) hx hb dX9_agree_20 (by decide) (fun c3 => ?_) (fun c3 => ?_)
      · rw [if_pos c3] at hF
        refine lv_iconst (v := (-1 : Int32)) hx hb dX9_agree_32 (by decide) ?_
        cases hF
        obtain ⟨rfl, rfl⟩ := extM_ret hq (goL_ret hgo)
        exact z_iret hx hb hr hlocks hK hP hD hS dX9_agree_33
      · rw [if_neg c3] at hF
        refine lv_aload_n hx hb dX9_agree_23 rfl (lv_at hl 0 rfl) ?_
        refine va_get (D := D) (ci := 9) (v := .ref (a 12)) (C := RX9) (T := TX9) (N := 34) hx hb hts inlX9 hown hK hP 0 gM_0 rfl 12 (by decide) (hts _ mw_128) (fun _ h9 => h9) rfl dX9_agree_24 ?_
        refine lv_iload_n hx hb dX9_agree_27 rfl (lv_at hl 2 rfl) ?_
        obtain ⟨v4, e5, hF⟩ := Option.bind_eq_some_iff.mp hF
        refine z_zld hx hb hK hP 12 gM_12 e5 dX9_agree_28 ?_
        refine lv_if_eq (tgt := 34) hx hb dX9_agree_29 (by decide) (fun c6 => ?_) (fun c6 => ?_)
        · rw [if_pos c6] at hF
          refine lv_aload_n hx hb dX9_agree_34 rfl (lv_at hl 0 rfl) ?_
          refine lv_iload_n hx hb dX9_agree_35 rfl (lv_at hl 1 rfl) ?_
          obtain ⟨p7, e8, hF⟩ := Option.bind_eq_some_iff.mp hF
          refine z_callVI (w' := (wM cyI cyZ a p7.2)) (As := [.int x1]) (rest := []) ⟨hx, hb, hml, hown, hts⟩ (c_X9_findNear l D cyI cyZ a A σ x1 p7.1 p7.2 e8) (cwV 1 hts (gd_V mw_764 mw_765 mw_766 mw_5 mw_767) rfl rfl rfl (by decide +kernel) ⟨Nat.le_of_ble_eq_true rfl, Nat.le_of_ble_eq_true rfl⟩) hK hN hP hD hS 9 0 rfl rfl gM_0 rfl hl.1 rfl (Nat.le_of_ble_eq_true rfl) dX9_agree_36 ⟨Nat.zero_le _, Nat.zero_le _⟩ (fun H locs hP hD hS => ?_)
          refine lv_istore (lv' := [(4, .int p7.1), (0, .ref (a 0)), (1, .int x1), (2, .int x2), (3, .int x3)]) hx hb dX9_agree_39 hl (by decide) rfl (fun ls hl => ?_)
          refine lv_iconst (v := (0 : Int32)) hx hb dX9_agree_41 (by decide) ?_
          refine lv_istore (lv' := [(5, .int (0 : Int32)), (4, .int p7.1), (0, .ref (a 0)), (1, .int x1), (2, .int x2), (3, .int x3)]) hx hb dX9_agree_42 hl (by decide) rfl (fun ls hl => ?_)
          refine lv_iconst (v := (0 : Int32)) hx hb dX9_agree_44 (by decide) ?_
          refine lv_istore (lv' := [(6, .int (0 : Int32)), (5, .int (0 : Int32)), (4, .int p7.1), (0, .ref (a 0)), (1, .int x1), (2, .int x2), (3, .int x3)]) hx hb dX9_agree_45 hl (by decide) rfl (fun ls hl => ?_)
          cases hF
          exact ih _ _ _ _ _ _ hgo (Or.inr (⟨rfl, _, _, _, _, _, rfl, lv_sub hl [3, 5, 6, 2, 1, 0] rfl⟩)) hP hD hS
        · rw [if_neg c6] at hF
          refine lv_iconst (v := (-1 : Int32)) hx hb dX9_agree_32 (by decide) ?_
          cases hF
          obtain ⟨rfl, rfl⟩ := extM_ret hq (goL_ret hgo)
          exact z_iret hx hb hr hlocks hK hP hD hS dX9_agree_33
set_option maxHeartbeats 4000000 in
set_option maxRecDepth 100000 in
theorem wl_X9_agree_47 (σ : Mem) (hC : CX p c cX9_agree meth (some .int) s m args yX9_agree.cls 7 D cyI cyZ) (hq : extM q = some (r, σ')) (n : Nat) (ih : ∀ (pc : Nat) (x : Mem) (vs : List Int32) (ls : Array Slot) (H : Heap) (locs : List Loc), goL B_X9_agree n pc x vs = some q → SH_X9_agree a ls pc vs → va_P D vwCl (wM cyI cyZ a x) H → va_D A (wM cyI cyZ a x) → va_S A s.heap H locs → W p l e (headSpec ts_X9_agree ({ frames := 6, cells := 0, slots := 0, locals := 144 } : Room)).room s m args below meth c H locs 0 0 (MQ below (QcI D cyI cyZ A (wM cyI cyZ a σ') r) args s 0 0 A) (F0 m pc ls [])) (x2 : Int32) (x3 : Int32) (x4 : Int32) (x5 : Int32) (x6 : Int32) (ls : Array Slot) (H : Heap) (locs : List Loc) (hgo : goL B_X9_agree (n + 1) 47 σ [x2, x3, x4, x5, x6] = some q) (hl : lv_has ls 7 [(0, .ref (a 0)), (2, .int x2), (3, .int x3), (4, .int x4), (5, .int x5), (6, .int x6)]) (hP : va_P D vwCl (wM cyI cyZ a σ) H) (hD : va_D A (wM cyI cyZ a σ)) (hS : va_S A s.heap H locs) : W p l e (headSpec ts_X9_agree ({ frames := 6, cells := 0, slots := 0, locals := 144 } : Room)).room s m args below meth c H locs 0 0 (MQ below (QcI D cyI cyZ A (wM cyI cyZ a σ') r) args s 0 0 A) (F0 m 47 ls []) := by
  obtain ⟨hx, hb, hr, hml, hown, hts, hK, hN, hlocks⟩ := hC
  have hown : s.vm.findClass RX9 = some m.cls := hown
  obtain ⟨yy, hF, hgo⟩ := goL_step (by decide) hgo
  have hF : B_X9_agree_47 σ x2 x3 x4 x5 x6 = some yy := hF
  unfold B_X9_agree_47 at hF
  refine lv_iload hx hb dX9_agree_47 (lv_at hl 5 rfl) ?_
  refine lv_iload hx hb dX9_agree_49 (lv_at hl 3 rfl) ?_
  refine lv_icmp_ge (tgt := 81) hx hb dX9_agree_51 (by decide) (fun c1 => ?_) (fun c1 => ?_)
  · rw [if_pos c1] at hF
    refine lv_iload hx hb dX9_agree_81 (lv_at hl 4 rfl) ?_
    cases hF
    obtain ⟨rfl, rfl⟩ := extM_ret hq (goL_ret hgo)
    exact z_iret hx hb hr hlocks hK hP hD hS dX9_agree_83
  · rw [if_neg c1] at hF
    refine lv_iload hx hb dX9_agree_54 (lv_at hl 4 rfl) ?_
    refine lv_aload_n hx hb dX9_agree_56 rfl (lv_at hl 0 rfl) ?_
    refine lv_iload hx hb dX9_agree_57 (lv_at hl 5 rfl) ?_
    refine lv_iload_n hx hb dX9_agree_59 rfl (lv_at hl 1 rfl) ?_
    obtain ⟨v2, e3, hF⟩ := Option.bind_eq_some_iff.mp hF
    refine z_callVI (w' := (wM cyI cyZ a σ)) (As := [.int x6, .int x2]) (rest := [.int x5]) ⟨hx, hb, hml, hown, hts⟩ (c_X9_meaningAt l D cyI cyZ a A σ x6 x2 _ e3) (cwV 2 hts (gd_V mw_773 mw_774 mw_775 mw_5 mw_776) rfl rfl rfl (by decide +kernel) ⟨Nat.le_of_ble_eq_true rfl, Nat.le_of_ble_eq_true rfl⟩) hK hN hP hD hS 9 0 rfl rfl gM_0 rfl hl.1 rfl (Nat.le_of_ble_eq_true rfl) dX9_agree_60 ⟨Nat.zero_le _, Nat.zero_le _⟩ (fun H locs hP hD hS => ?_)
    refine lv_iload_n hx hb dX9_agree_63 rfl (lv_at hl 2 rfl) ?_
    refine lv_icmp_ne (tgt := 71) hx hb dX9_agree_64 (by decide) (fun c4 => ?_) (fun c4 => ?_)
    · rw [if_neg c4] at hF
      refine lv_iconst (v := (0 : Int32)) hx hb dX9_agree_71 (by decide) ?_
      refine lv_iadd hx hb dX9_agree_72 ?_
      refine lv_istore (lv' := [(5, .int (x5 + (0 : Int32))), (0, .ref (a 0)), (2, .int x2), (3, .int x3), (4, .int x4), (6, .int x6)]) hx hb dX9_agree_73 hl (by decide) rfl (fun ls hl => ?_)
      refine lv_iinc (v := (x6 + (1 : Int32))) (lv' := [(6, .int (x6 + (1 : Int32))), (5, .int (x5 + (0 : Int32))), (0, .ref (a 0)), (2, .int x2), (3, .int x3), (4, .int x4)]) hx hb dX9_agree_75 hl (k := 5) rfl rfl (by decide) rfl (fun ls hl => ?_)
      refine lv_goto (tgt := 47) hx hb dX9_agree_78 (by decide) ?_
      cases hF
      exact ih _ _ _ _ _ _ hgo (Or.inr (⟨rfl, _, _, _, _, _, rfl, lv_sub hl [2, 3, 4, 5, 1, 0] rfl⟩)) hP hD hS
    · rw [if_pos c4] at hF
      refine lv_iconst (v := (1 : Int32)) hx hb dX9_agree_67 (by decide) ?_
      refine lv_goto (tgt := 72) hx hb dX9_agree_68 (by decide) ?_
      refine lv_iadd hx hb dX9_agree_72 ?_
      refine lv_istore (lv' := [(5, .int (x5 + (1 : Int32))), (0, .ref (a 0)), (2, .int x2), (3, .int x3), (4, .int x4), (6, .int x6)]) hx hb dX9_agree_73 hl (by decide) rfl (fun ls hl => ?_)
      refine lv_iinc (v := (x6 + (1 : Int32))) (lv' := [(6, .int (x6 + (1 : Int32))), (5, .int (x5 + (1 : Int32))), (0, .ref (a 0)), (2, .int x2), (3, .int x3), (4, .int x4)]) hx hb dX9_agree_75 hl (k := 5) rfl rfl (by decide) rfl (fun ls hl => ?_)
      refine lv_goto (tgt := 47) hx hb dX9_agree_78 (by decide) ?_
      cases hF
      exact ih _ _ _ _ _ _ hgo (Or.inr (⟨rfl, _, _, _, _, _, rfl, lv_sub hl [2, 3, 4, 5, 1, 0] rfl⟩)) hP hD hS
theorem wk_X9_agree (hC : CX p c cX9_agree meth (some .int) s m args yX9_agree.cls 7 D cyI cyZ) (hq : extM q = some (r, σ')) : ∀ (n : Nat), ∀ (pc : Nat) (x : Mem) (vs : List Int32) (ls : Array Slot) (H : Heap) (locs : List Loc), goL B_X9_agree n pc x vs = some q → SH_X9_agree a ls pc vs → va_P D vwCl (wM cyI cyZ a x) H → va_D A (wM cyI cyZ a x) → va_S A s.heap H locs → W p l e (headSpec ts_X9_agree ({ frames := 6, cells := 0, slots := 0, locals := 144 } : Room)).room s m args below meth c H locs 0 0 (MQ below (QcI D cyI cyZ A (wM cyI cyZ a σ') r) args s 0 0 A) (F0 m pc ls []) := by
  intro n
  induction n with
  | zero => intro pc x vs ls H locs h; exact absurd h (by simp [goL])
  | succ n ih =>
    intro pc x vs ls H locs hgo hsh hP hD hS
    rcases hsh with ⟨rfl, x1, x2, x3, rfl, hl⟩ | ⟨rfl, x2, x3, x4, x5, x6, rfl, hl⟩
    · exact wl_X9_agree_0 x hC hq n ih x1 x2 x3 ls H locs hgo hl hP hD hS
    · exact wl_X9_agree_47 x hC hq n ih x2 x3 x4 x5 x6 ls H locs hgo hl hP hD hS
end
theorem c_X9_agree (l : Launch) (D : va_G) (cyI cyZ : ClassId) (a : Nat → Nat) (A : Nat → Prop) (σ : Mem) (x1 : Int32) (x2 : Int32) (x3 : Int32) (r : Int32) (σ' : Mem) (hF : F_X9_agree σ x1 x2 x3 = some (r, σ')) : CtI l yX9_agree ts_X9_agree ({ frames := 6, cells := 0, slots := 0, locals := 144 } : Room) [.ref (a 0), .int x1, .int x2, .int x3] D cyI cyZ A (wM cyI cyZ a σ) (wM cyI cyZ a σ') r := by
  refine CtI.of (cc := cX9_agree) (maxL := 7) (ret := (some .int)) (by decide) rfl (Nat.le_of_ble_eq_true rfl) ?_
  intro p e s m below meth c ls hC hP hD hl
  obtain ⟨q, hq, hr1⟩ := Option.bind_eq_some_iff.mp hF
  obtain ⟨n, hn⟩ := finL_some hq
  exact wk_X9_agree hC hr1 n 0 _ _ ls _ _ hn (Or.inl ⟨rfl, _, _, _, rfl, hl⟩) hP hD va_S.rf
