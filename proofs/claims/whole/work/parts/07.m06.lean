-- X5_growByWord X5_growKeys X5_keepStanding X5_costAt
abbrev ts_X5_growByWord : List Cond := .code yX5_growByWord cX5_growByWord 10 (some .int) :: wsL_law
def SH_X5_growByWord (a : Nat → Nat) (ls : Array Slot) (pc : Nat) (vs : List Int32) : Prop := (pc = 0 ∧ ∃ x1 x2 : Int32, vs = [x1, x2] ∧ lv_has ls 10 [(0, .ref (a 16)), (1, .int x1), (2, .int x2)]) ∨ (pc = 27 ∧ ∃ x1 x2 x3 x4 x5 x6 : Int32, vs = [x1, x2, x3, x4, x5, x6] ∧ lv_has ls 10 [(0, .ref (a 16)), (1, .int x1), (2, .int x2), (3, .int x3), (4, .int x4), (5, .int x5), (6, .int x6)]) ∨ (pc = 66 ∧ ∃ x1 x2 x3 x4 x5 x6 x7 x8 : Int32, vs = [x1, x2, x3, x4, x5, x6, x7, x8] ∧ lv_has ls 10 [(0, .ref (a 16)), (1, .int x1), (2, .int x2), (3, .int x3), (4, .int x4), (5, .int x5), (6, .int x6), (7, .int x7), (8, .int x8)])
section
variable {p : Program} {l : Launch} {e : Env} {s : State} {m : MethodId} {args : Array Value} {below : List Frame} {meth : Method} {c : Code} {D : va_G} {A : Nat → Prop} {a : Nat → Nat} {cyI cyZ : ClassId} {r : Int32} {σ' : Mem} {q : Mem × List Int32}
set_option maxHeartbeats 4000000 in
set_option maxRecDepth 100000 in
theorem wl_X5_growByWord_0 (σ : Mem) (hC : CX p c cX5_growByWord meth (some .int) s m args yX5_growByWord.cls 10 D cyI cyZ) (hq : extM q = some (r, σ')) (n : Nat) (ih : ∀ (pc : Nat) (x : Mem) (vs : List Int32) (ls : Array Slot) (H : Heap) (locs : List Loc), goL B_X5_growByWord n pc x vs = some q → SH_X5_growByWord a ls pc vs → va_P D vwCl (wC cyI cyZ a x) H → va_D A (wC cyI cyZ a x) → va_S A s.heap H locs → W p l e (headSpec ts_X5_growByWord ({ frames := 2, cells := 0, slots := 0, locals := 45 } : Room)).room s m args below meth c H locs 0 0 (MQ below (QcI D cyI cyZ A (wC cyI cyZ a σ') r) args s 0 0 A) (F0 m pc ls [])) (x1 : Int32) (x2 : Int32) (ls : Array Slot) (H : Heap) (locs : List Loc) (hgo : goL B_X5_growByWord (n + 1) 0 σ [x1, x2] = some q) (hl : lv_has ls 10 [(0, .ref (a 16)), (1, .int x1), (2, .int x2)]) (hP : va_P D vwCl (wC cyI cyZ a σ) H) (hD : va_D A (wC cyI cyZ a σ)) (hS : va_S A s.heap H locs) : W p l e (headSpec ts_X5_growByWord ({ frames := 2, cells := 0, slots := 0, locals := 45 } : Room)).room s m args below meth c H locs 0 0 (MQ below (QcI D cyI cyZ A (wC cyI cyZ a σ') r) args s 0 0 A) (F0 m 0 ls []) := by
  obtain ⟨hx, hb, hr, hml, hown, hts, hK, hN, hlocks⟩ := hC
  have hown : s.vm.findClass RX5 = some m.cls := hown
  obtain ⟨yy, hF, hgo⟩ := goL_step (by decide) hgo
  have hF : B_X5_growByWord_0 σ x1 x2 = some yy := hF
  unfold B_X5_growByWord_0 at hF
  refine lv_aload_n hx hb dX5_growByWord_0 rfl (lv_at hl 0 rfl) ?_
  refine va_get (D := D) (ci := 5) (v := .ref (a 13)) (C := RX5) (T := TX5) (N := 11) hx hb hts inlX5 hown hK hP 16 gC_16 rfl 2 (by decide) (hts _ mw_80) (fun _ h9 => h9) rfl dX5_growByWord_1 ?_
  refine lv_iload_n hx hb dX5_growByWord_4 rfl (lv_at hl 1 rfl) ?_
  obtain ⟨v1, e2, hF⟩ := Option.bind_eq_some_iff.mp hF
  refine z_callVI (w' := (wC cyI cyZ a σ)) (As := [.int x1]) (rest := []) ⟨hx, hb, hml, hown, hts⟩ (c_X3_tokenAt l D cyI cyZ a A σ x1 _ e2) (cwV 1 hts (gd_V mw_419 mw_420 mw_421 mw_22 mw_422) rfl rfl rfl (by decide +kernel) ⟨Nat.le_of_ble_eq_true rfl, Nat.le_of_ble_eq_true rfl⟩) hK hN hP hD hS 3 13 rfl rfl gC_13 rfl hl.1 rfl (Nat.le_of_ble_eq_true rfl) dX5_growByWord_5 ⟨Nat.zero_le _, Nat.zero_le _⟩ (fun H locs hP hD hS => ?_)
  refine lv_istore_n (lv' := [(3, .int v1), (0, .ref (a 16)), (1, .int x1), (2, .int x2)]) hx hb dX5_growByWord_8 rfl hl (by decide) rfl (fun ls hl => ?_)
  refine lv_aload_n hx hb dX5_growByWord_9 rfl (lv_at hl 1 rfl) ?_
  refine va_get (D := D) (ci := 5) (v := .ref (a 13)) (C := RX5) (T := TX5) (N := 11) hx hb hts inlX5 hown hK hP 16 gC_16 rfl 2 (by decide) (hts _ mw_80) (fun _ h9 => h9) rfl dX5_growByWord_10 ?_
  refine lv_iload_n hx hb dX5_growByWord_13 rfl (lv_at hl 2 rfl) ?_
  refine lv_iconst (v := (1 : Int32)) hx hb dX5_growByWord_14 (by decide) ?_
  refine lv_iadd hx hb dX5_growByWord_15 ?_
  obtain ⟨v3, e4, hF⟩ := Option.bind_eq_some_iff.mp hF
  refine z_callVI (w' := (wC cyI cyZ a σ)) (As := [.int (x1 + (1 : Int32))]) (rest := []) ⟨hx, hb, hml, hown, hts⟩ (c_X3_isNumber l D cyI cyZ a A σ (x1 + (1 : Int32)) _ e4) (cwV 1 hts (gd_V mw_403 mw_404 mw_405 mw_22 mw_406) rfl rfl rfl (by decide +kernel) ⟨Nat.le_of_ble_eq_true rfl, Nat.le_of_ble_eq_true rfl⟩) hK hN hP hD hS 3 13 rfl rfl gC_13 rfl hl.1 rfl (Nat.le_of_ble_eq_true rfl) dX5_growByWord_16 ⟨Nat.zero_le _, Nat.zero_le _⟩ (fun H locs hP hD hS => ?_)
  refine lv_istore (lv' := [(4, .int v3), (3, .int v1), (0, .ref (a 16)), (1, .int x1), (2, .int x2)]) hx hb dX5_growByWord_19 hl (by decide) rfl (fun ls hl => ?_)
  refine lv_iconst (v := (0 : Int32)) hx hb dX5_growByWord_21 (by decide) ?_
  refine lv_istore (lv' := [(5, .int (0 : Int32)), (4, .int v3), (3, .int v1), (0, .ref (a 16)), (1, .int x1), (2, .int x2)]) hx hb dX5_growByWord_22 hl (by decide) rfl (fun ls hl => ?_)
  refine lv_iconst (v := (0 : Int32)) hx hb dX5_growByWord_24 (by decide) ?_
  refine lv_istore (lv' := [(6, .int (0 : Int32)), (5, .int (0 : Int32)), (4, .int v3), (3, .int v1), (0, .ref (a 16)), (1, .int x1), (2, .int x2)]) hx hb dX5_growByWord_25 hl (by decide) rfl (fun ls hl => ?_)
  cases hF
  exact ih _ _ _ _ _ _ hgo (Or.inr (Or.inl ⟨rfl, _, _, _, _, _, _, rfl, lv_sub hl [4, 5, 6, 3, 2, 1, 0] rfl⟩)) hP hD hS
set_option maxHeartbeats 4000000 in
set_option maxRecDepth 100000 in
theorem wl_X5_growByWord_27 (σ : Mem) (hC : CX p c cX5_growByWord meth (some .int) s m args yX5_growByWord.cls 10 D cyI cyZ) (hq : extM q = some (r, σ')) (n : Nat) (ih : ∀ (pc : Nat) (x : Mem) (vs : List Int32) (ls : Array Slot) (H : Heap) (locs : List Loc), goL B_X5_growByWord n pc x vs = some q → SH_X5_growByWord a ls pc vs → va_P D vwCl (wC cyI cyZ a x) H → va_D A (wC cyI cyZ a x) → va_S A s.heap H locs → W p l e (headSpec ts_X5_growByWord ({ frames := 2, cells := 0, slots := 0, locals := 45 } : Room)).room s m args below meth c H locs 0 0 (MQ below (QcI D cyI cyZ A (wC cyI cyZ a σ') r) args s 0 0 A) (F0 m pc ls [])) (x1 : Int32) (x2 : Int32) (x3 : Int32) (x4 : Int32) (x5 : Int32) (x6 : Int32) (ls : Array Slot) (H : Heap) (locs : List Loc) (hgo : goL B_X5_growByWord (n + 1) 27 σ [x1, x2, x3, x4, x5, x6] = some q) (hl : lv_has ls 10 [(0, .ref (a 16)), (1, .int x1), (2, .int x2), (3, .int x3), (4, .int x4), (5, .int x5), (6, .int x6)]) (hP : va_P D vwCl (wC cyI cyZ a σ) H) (hD : va_D A (wC cyI cyZ a σ)) (hS : va_S A s.heap H locs) : W p l e (headSpec ts_X5_growByWord ({ frames := 2, cells := 0, slots := 0, locals := 45 } : Room)).room s m args below meth c H locs 0 0 (MQ below (QcI D cyI cyZ A (wC cyI cyZ a σ') r) args s 0 0 A) (F0 m 27 ls []) := by
  obtain ⟨hx, hb, hr, hml, hown, hts, hK, hN, hlocks⟩ := hC
  have hown : s.vm.findClass RX5 = some m.cls := hown
  obtain ⟨yy, hF, hgo⟩ := goL_step (by decide) hgo
  have hF : B_X5_growByWord_27 σ x1 x2 x3 x4 x5 x6 = some yy := hF
  unfold B_X5_growByWord_27 at hF
  refine lv_iload hx hb dX5_growByWord_27 (lv_at hl 6 rfl) ?_
  refine lv_iload_n hx hb dX5_growByWord_29 rfl (lv_at hl 2 rfl) ?_
  refine lv_icmp_ge (tgt := 162) hx hb dX5_growByWord_30 (by decide) (fun c1 => ?_) (fun c1 => ?_)
  · rw [if_pos c1] at hF
    refine lv_aload_n hx hb dX5_growByWord_162 rfl (lv_at hl 0 rfl) ?_
    obtain ⟨σ2, e3, hF⟩ := Option.bind_eq_some_iff.mp hF
    refine z_callVV (w' := (wC cyI cyZ a σ2)) (As := []) (rest := []) ⟨hx, hb, hml, hown, hts⟩ (c_X5_swap l D cyI cyZ a A σ  σ2 e3) (cwV 0 hts (gd_V mw_440 mw_441 mw_442 mw_26 mw_443) rfl rfl rfl (by decide +kernel) ⟨Nat.le_of_ble_eq_true rfl, Nat.le_of_ble_eq_true rfl⟩) hK hN hP hD hS 5 16 rfl rfl gC_16 rfl hl.1 rfl (Nat.le_of_ble_eq_true rfl) dX5_growByWord_163 ⟨Nat.zero_le _, Nat.zero_le _⟩ (fun H locs hP hD hS => ?_)
    refine lv_iload hx hb dX5_growByWord_166 (lv_at hl 5 rfl) ?_
    cases hF
    obtain ⟨rfl, rfl⟩ := extM_ret hq (goL_ret hgo)
    exact z_iret hx hb hr hlocks hK hP hD hS dX5_growByWord_168
  · rw [if_neg c1] at hF
    refine lv_iload hx hb dX5_growByWord_33 (lv_at hl 4 rfl) ?_
    refine lv_if_eq (tgt := 60) hx hb dX5_growByWord_35 (by decide) (fun c4 => ?_) (fun c4 => ?_)
    · rw [if_pos c4] at hF
      refine lv_iconst (v := (0 : Int32)) hx hb dX5_growByWord_60 (by decide) ?_
      refine lv_istore (lv' := [(7, .int (0 : Int32)), (0, .ref (a 16)), (1, .int x1), (2, .int x2), (3, .int x3), (4, .int x4), (5, .int x5), (6, .int x6)]) hx hb dX5_growByWord_61 hl (by decide) rfl (fun ls hl => ?_)
      refine lv_iconst (v := (0 : Int32)) hx hb dX5_growByWord_63 (by decide) ?_
      refine lv_istore (lv' := [(8, .int (0 : Int32)), (7, .int (0 : Int32)), (0, .ref (a 16)), (1, .int x1), (2, .int x2), (3, .int x3), (4, .int x4), (5, .int x5), (6, .int x6)]) hx hb dX5_growByWord_64 hl (by decide) rfl (fun ls hl => ?_)
      cases hF
      exact ih _ _ _ _ _ _ hgo (Or.inr (Or.inr (⟨rfl, _, _, _, _, _, _, _, _, rfl, lv_sub hl [2, 3, 4, 5, 6, 7, 8, 1, 0] rfl⟩))) hP hD hS
    · rw [if_neg c4] at hF
      refine lv_aload_n hx hb dX5_growByWord_38 rfl (lv_at hl 0 rfl) ?_
      refine lv_aload_n hx hb dX5_growByWord_39 rfl (lv_at hl 0 rfl) ?_
      refine va_get (D := D) (ci := 5) (v := .ref (a (kx σ))) (C := RX5) (T := TX5) (N := 11) hx hb hts inlX5 hown hK hP 16 gC_16 rfl 7 (by decide) (hts _ mw_76) (fun _ h9 => h9) rfl dX5_growByWord_40 ?_
      refine lv_iload hx hb dX5_growByWord_43 (lv_at hl 6 rfl) ?_
      obtain ⟨v5, e6, hF⟩ := Option.bind_eq_some_iff.mp hF
      refine z_ild hx hb hK hP (kx σ) gC_K e6 dX5_growByWord_45 ?_
      refine lv_iload_n hx hb dX5_growByWord_46 rfl (lv_at hl 1 rfl) ?_
      refine lv_iconst (v := (1 : Int32)) hx hb dX5_growByWord_47 (by decide) ?_
      refine lv_isub hx hb dX5_growByWord_48 ?_
      refine lv_iconst (v := (1 : Int32)) hx hb dX5_growByWord_49 (by decide) ?_
      obtain ⟨v7, e8, hF⟩ := Option.bind_eq_some_iff.mp hF
      refine z_callVI (w' := (wC cyI cyZ a σ)) (As := [.int v5, .int (x1 - (1 : Int32)), .int (1 : Int32)]) (rest := []) ⟨hx, hb, hml, hown, hts⟩ (c_X5_hasSort l D cyI cyZ a A σ v5 (x1 - (1 : Int32)) (1 : Int32) _ e8) (cwV 3 hts (gd_V mw_411 mw_412 mw_413 mw_26 mw_414) rfl rfl rfl (by decide +kernel) ⟨Nat.le_of_ble_eq_true rfl, Nat.le_of_ble_eq_true rfl⟩) hK hN hP hD hS 5 16 rfl rfl gC_16 rfl hl.1 rfl (Nat.le_of_ble_eq_true rfl) dX5_growByWord_50 ⟨Nat.zero_le _, Nat.zero_le _⟩ (fun H locs hP hD hS => ?_)
      refine lv_if_eq (tgt := 60) hx hb dX5_growByWord_53 (by decide) (fun c9 => ?_) (fun c9 => ?_)
      · rw [if_pos c9] at hF
        refine lv_iconst (v := (0 : Int32)) hx hb dX5_growByWord_60 (by decide) ?_
        refine lv_istore (lv' := [(7, .int (0 : Int32)), (0, .ref (a 16)), (1, .int x1), (2, .int x2), (3, .int x3), (4, .int x4), (5, .int x5), (6, .int x6)]) hx hb dX5_growByWord_61 hl (by decide) rfl (fun ls hl => ?_)
        refine lv_iconst (v := (0 : Int32)) hx hb dX5_growByWord_63 (by decide) ?_
        refine lv_istore (lv' := [(8, .int (0 : Int32)), (7, .int (0 : Int32)), (0, .ref (a 16)), (1, .int x1), (2, .int x2), (3, .int x3), (4, .int x4), (5, .int x5), (6, .int x6)]) hx hb dX5_growByWord_64 hl (by decide) rfl (fun ls hl => ?_)
        cases hF
        exact ih _ _ _ _ _ _ hgo (Or.inr (Or.inr (⟨rfl, _, _, _, _, _, _, _, _, rfl, lv_sub hl [2, 3, 4, 5, 6, 7, 8, 1, 0] rfl⟩))) hP hD hS
      · rw [if_neg c9] at hF
        refine lv_iconst (v := (1 : Int32)) hx hb dX5_growByWord_56 (by decide) ?_
        refine lv_goto (tgt := 61) hx hb dX5_growByWord_57 (by decide) ?_
        refine lv_istore (lv' := [(7, .int (1 : Int32)), (0, .ref (a 16)), (1, .int x1), (2, .int x2), (3, .int x3), (4, .int x4), (5, .int x5), (6, .int x6)]) hx hb dX5_growByWord_61 hl (by decide) rfl (fun ls hl => ?_)
        refine lv_iconst (v := (0 : Int32)) hx hb dX5_growByWord_63 (by decide) ?_
        refine lv_istore (lv' := [(8, .int (0 : Int32)), (7, .int (1 : Int32)), (0, .ref (a 16)), (1, .int x1), (2, .int x2), (3, .int x3), (4, .int x4), (5, .int x5), (6, .int x6)]) hx hb dX5_growByWord_64 hl (by decide) rfl (fun ls hl => ?_)
        cases hF
        exact ih _ _ _ _ _ _ hgo (Or.inr (Or.inr (⟨rfl, _, _, _, _, _, _, _, _, rfl, lv_sub hl [2, 3, 4, 5, 6, 7, 8, 1, 0] rfl⟩))) hP hD hS
set_option maxHeartbeats 4000000 in
set_option maxRecDepth 100000 in
theorem wl_X5_growByWord_66 (σ : Mem) (hC : CX p c cX5_growByWord meth (some .int) s m args yX5_growByWord.cls 10 D cyI cyZ) (hq : extM q = some (r, σ')) (n : Nat) (ih : ∀ (pc : Nat) (x : Mem) (vs : List Int32) (ls : Array Slot) (H : Heap) (locs : List Loc), goL B_X5_growByWord n pc x vs = some q → SH_X5_growByWord a ls pc vs → va_P D vwCl (wC cyI cyZ a x) H → va_D A (wC cyI cyZ a x) → va_S A s.heap H locs → W p l e (headSpec ts_X5_growByWord ({ frames := 2, cells := 0, slots := 0, locals := 45 } : Room)).room s m args below meth c H locs 0 0 (MQ below (QcI D cyI cyZ A (wC cyI cyZ a σ') r) args s 0 0 A) (F0 m pc ls [])) (x1 : Int32) (x2 : Int32) (x3 : Int32) (x4 : Int32) (x5 : Int32) (x6 : Int32) (x7 : Int32) (x8 : Int32) (ls : Array Slot) (H : Heap) (locs : List Loc) (hgo : goL B_X5_growByWord (n + 1) 66 σ [x1, x2, x3, x4, x5, x6, x7, x8] = some q) (hl : lv_has ls 10 [(0, .ref (a 16)), (1, .int x1), (2, .int x2), (3, .int x3), (4, .int x4), (5, .int x5), (6, .int x6), (7, .int x7), (8, .int x8)]) (hP : va_P D vwCl (wC cyI cyZ a σ) H) (hD : va_D A (wC cyI cyZ a σ)) (hS : va_S A s.heap H locs) : W p l e (headSpec ts_X5_growByWord ({ frames := 2, cells := 0, slots := 0, locals := 45 } : Room)).room s m args below meth c H locs 0 0 (MQ below (QcI D cyI cyZ A (wC cyI cyZ a σ') r) args s 0 0 A) (F0 m 66 ls []) := by
  obtain ⟨hx, hb, hr, hml, hown, hts, hK, hN, hlocks⟩ := hC
  have hown : s.vm.findClass RX5 = some m.cls := hown
  obtain ⟨yy, hF, hgo⟩ := goL_step (by decide) hgo
  have hF : B_X5_growByWord_66 σ x1 x2 x3 x4 x5 x6 x7 x8 = some yy := hF
  unfold B_X5_growByWord_66 at hF
  refine lv_iload hx hb dX5_growByWord_66 (lv_at hl 8 rfl) ?_
  refine lv_aload_n hx hb dX5_growByWord_68 rfl (lv_at hl 0 rfl) ?_
  refine va_get (D := D) (ci := 5) (v := .ref (a 6)) (C := RX5) (T := TX5) (N := 11) hx hb hts inlX5 hown hK hP 16 gC_16 rfl 1 (by decide) (hts _ mw_79) (fun _ h9 => h9) rfl dX5_growByWord_69 ?_
  refine lv_iload_n hx hb dX5_growByWord_72 rfl (lv_at hl 3 rfl) ?_
  obtain ⟨v1, e2, hF⟩ := Option.bind_eq_some_iff.mp hF
  refine z_callVI (w' := (wC cyI cyZ a σ)) (As := [.int x3]) (rest := [.int x8]) ⟨hx, hb, hml, hown, hts⟩ (c_X7_meaningsOf l D cyI cyZ a A σ x3 _ e2) (cwV 1 hts (gd_V mw_435 mw_287 mw_288 mw_18 mw_289) rfl rfl rfl (by decide +kernel) ⟨Nat.le_of_ble_eq_true rfl, Nat.le_of_ble_eq_true rfl⟩) hK hN hP hD hS 7 6 rfl rfl gC_6 rfl hl.1 rfl (Nat.le_of_ble_eq_true rfl) dX5_growByWord_73 ⟨Nat.zero_le _, Nat.zero_le _⟩ (fun H locs hP hD hS => ?_)
  refine lv_icmp_ge (tgt := 156) hx hb dX5_growByWord_76 (by decide) (fun c3 => ?_) (fun c3 => ?_)
  · rw [if_pos c3] at hF
    refine lv_iinc (v := (x6 + (1 : Int32))) (lv' := [(6, .int (x6 + (1 : Int32))), (0, .ref (a 16)), (1, .int x1), (2, .int x2), (3, .int x3), (4, .int x4), (5, .int x5), (7, .int x7), (8, .int x8)]) hx hb dX5_growByWord_156 hl (k := 6) rfl rfl (by decide) rfl (fun ls hl => ?_)
    refine lv_goto (tgt := 27) hx hb dX5_growByWord_159 (by decide) ?_
    cases hF
    exact ih _ _ _ _ _ _ hgo (Or.inr (Or.inl ⟨rfl, _, _, _, _, _, _, rfl, lv_sub hl [1, 2, 3, 4, 5, 6, 0] rfl⟩)) hP hD hS
  · rw [if_neg c3] at hF
    refine lv_iload hx hb dX5_growByWord_79 (lv_at hl 5 rfl) ?_
    refine lv_sipush (v := (6561 : Int32)) hx hb dX5_growByWord_81 (by decide) ?_
    refine lv_icmp_ge (tgt := 156) hx hb dX5_growByWord_84 (by decide) (fun c4 => ?_) (fun c4 => ?_)
    · rw [if_pos c4] at hF
      refine lv_iinc (v := (x6 + (1 : Int32))) (lv' := [(6, .int (x6 + (1 : Int32))), (0, .ref (a 16)), (1, .int x1), (2, .int x2), (3, .int x3), (4, .int x4), (5, .int x5), (7, .int x7), (8, .int x8)]) hx hb dX5_growByWord_156 hl (k := 6) rfl rfl (by decide) rfl (fun ls hl => ?_)
      refine lv_goto (tgt := 27) hx hb dX5_growByWord_159 (by decide) ?_
      cases hF
      exact ih _ _ _ _ _ _ hgo (Or.inr (Or.inl ⟨rfl, _, _, _, _, _, _, rfl, lv_sub hl [1, 2, 3, 4, 5, 6, 0] rfl⟩)) hP hD hS
    · rw [if_neg c4] at hF
      refine lv_aload_n hx hb dX5_growByWord_87 rfl (lv_at hl 0 rfl) ?_
      refine va_get (D := D) (ci := 5) (v := .ref (a 6)) (C := RX5) (T := TX5) (N := 11) hx hb hts inlX5 hown hK hP 16 gC_16 rfl 1 (by decide) (hts _ mw_79) (fun _ h9 => h9) rfl dX5_growByWord_88 ?_
      refine lv_iload_n hx hb dX5_growByWord_91 rfl (lv_at hl 3 rfl) ?_
      refine lv_iload hx hb dX5_growByWord_92 (lv_at hl 8 rfl) ?_
      refine z_callVI (w' := (wC cyI cyZ a σ)) (As := [.int x3, .int x8]) (rest := []) ⟨hx, hb, hml, hown, hts⟩ (c_X7_spotOf l D cyI cyZ a A σ x3 x8 _ rfl) (cwV 2 hts (gd_V mw_426 mw_296 mw_297 mw_18 mw_298) rfl rfl rfl (by decide +kernel) ⟨Nat.le_of_ble_eq_true rfl, Nat.le_of_ble_eq_true rfl⟩) hK hN hP hD hS 7 6 rfl rfl gC_6 rfl hl.1 rfl (Nat.le_of_ble_eq_true rfl) dX5_growByWord_94 ⟨Nat.zero_le _, Nat.zero_le _⟩ (fun H locs hP hD hS => ?_)
      refine lv_istore (lv' := [(9, .int (F_X7_spotOf σ x3 x8)), (0, .ref (a 16)), (1, .int x1), (2, .int x2), (3, .int x3), (4, .int x4), (5, .int x5), (6, .int x6), (7, .int x7), (8, .int x8)]) hx hb dX5_growByWord_97 hl (by decide) rfl (fun ls hl => ?_)
      refine lv_iload hx hb dX5_growByWord_99 (lv_at hl 8 rfl) ?_
      refine lv_if_ne (tgt := 117) hx hb dX5_growByWord_101 (by decide) (fun c5 => ?_) (fun c5 => ?_)
      · rw [if_neg c5] at hF
        refine lv_aload_n hx hb dX5_growByWord_117 rfl (lv_at hl 1 rfl) ?_
        refine va_get (D := D) (ci := 5) (v := .ref (a (ky σ))) (C := RX5) (T := TX5) (N := 11) hx hb hts inlX5 hown hK hP 16 gC_16 rfl 8 (by decide) (hts _ mw_77) (fun _ h9 => h9) rfl dX5_growByWord_118 ?_
        refine lv_iload hx hb dX5_growByWord_121 (lv_at hl 6 rfl) ?_
        refine lv_aload_n hx hb dX5_growByWord_123 rfl (lv_at hl 1 rfl) ?_
        refine va_get (D := D) (ci := 5) (v := .ref (a (kx σ))) (C := RX5) (T := TX5) (N := 11) hx hb hts inlX5 hown hK hP 16 gC_16 rfl 7 (by decide) (hts _ mw_76) (fun _ h9 => h9) rfl dX5_growByWord_124 ?_
        refine lv_iload hx hb dX5_growByWord_127 (lv_at hl 7 rfl) ?_
        obtain ⟨v6, e7, hF⟩ := Option.bind_eq_some_iff.mp hF
        refine z_ild hx hb hK hP (kx σ) gC_K e7 dX5_growByWord_129 ?_
        refine lv_iload_n hx hb dX5_growByWord_130 rfl (lv_at hl 2 rfl) ?_
        refine lv_iload hx hb dX5_growByWord_131 (lv_at hl 9 rfl) ?_
        refine lv_aload_n hx hb dX5_growByWord_133 rfl (lv_at hl 1 rfl) ?_
        refine va_get (D := D) (ci := 5) (v := .ref (a 6)) (C := RX5) (T := TX5) (N := 11) hx hb hts inlX5 hown hK hP 16 gC_16 rfl 1 (by decide) (hts _ mw_79) (fun _ h9 => h9) rfl dX5_growByWord_134 ?_
        refine lv_iload hx hb dX5_growByWord_137 (lv_at hl 0 rfl) ?_
        obtain ⟨v8, e9, hF⟩ := Option.bind_eq_some_iff.mp hF
        refine z_callVI (w' := (wC cyI cyZ a σ)) (As := [.int (F_X7_spotOf σ x3 x8)]) (rest := [.int x8, .int x1, .int v6, .int x5, .ref (a (ky σ))]) ⟨hx, hb, hml, hown, hts⟩ (c_X7_costAt l D cyI cyZ a A σ (F_X7_spotOf σ x3 x8) _ e9) (cwV 1 hts (gd_V mw_436 mw_316 mw_317 mw_18 mw_318) rfl rfl rfl (by decide +kernel) ⟨Nat.le_of_ble_eq_true rfl, Nat.le_of_ble_eq_true rfl⟩) hK hN hP hD hS 7 6 rfl rfl gC_6 rfl hl.1 rfl (Nat.le_of_ble_eq_true rfl) dX5_growByWord_139 ⟨Nat.zero_le _, Nat.zero_le _⟩ (fun H locs hP hD hS => ?_)
        refine z_callSI (w' := (wC cyI cyZ a σ)) (As := [.int x1, .int x8, .int v8]) (rest := [.int v6, .int x5, .ref (a (ky σ))]) ⟨hx, hb, hml, hown, hts⟩ (c_X5_keyPart l D cyI cyZ A (wC cyI cyZ a σ) x1 x8 v8 _ rfl) (va_cwS 3 hts (gd_S mw_437 mw_438 mw_26 mw_439) rfl rfl rfl (by decide +kernel) ⟨Nat.le_of_ble_eq_true rfl, Nat.le_of_ble_eq_true rfl⟩) hK hN hP hD hS rfl hl.1 rfl (Nat.le_of_ble_eq_true rfl) dX5_growByWord_142 ⟨Nat.zero_le _, Nat.zero_le _⟩ (fun H locs hP hD hS => ?_)
        refine lv_iadd hx hb dX5_growByWord_145 ?_
        obtain ⟨σ10, e11, hF⟩ := Option.bind_eq_some_iff.mp hF
        refine z_ist (wC cyI cyZ a) hx hb hK hP hD hS (ky σ) gC_S sC_S e11 dX5_growByWord_146 (fun H locs hP hD hS => ?_)
        refine lv_iinc (v := (x5 + (1 : Int32))) (lv' := [(5, .int (x5 + (1 : Int32))), (9, .int (F_X7_spotOf σ x3 x8)), (0, .ref (a 16)), (1, .int x1), (2, .int x2), (3, .int x3), (4, .int x4), (6, .int x6), (7, .int x7), (8, .int x8)]) hx hb dX5_growByWord_147 hl (k := 6) rfl rfl (by decide) rfl (fun ls hl => ?_)
        refine lv_iinc (v := (x8 + (1 : Int32))) (lv' := [(8, .int (x8 + (1 : Int32))), (5, .int (x5 + (1 : Int32))), (9, .int (F_X7_spotOf σ x3 x8)), (0, .ref (a 16)), (1, .int x1), (2, .int x2), (3, .int x3), (4, .int x4), (6, .int x6), (7, .int x7)]) hx hb dX5_growByWord_150 hl (k := 9) rfl rfl (by decide) rfl (fun ls hl => ?_)
        refine lv_goto (tgt := 66) hx hb dX5_growByWord_153 (by decide) ?_
        cases hF
        exact ih _ _ _ _ _ _ hgo (Or.inr (Or.inr (⟨rfl, _, _, _, _, _, _, _, _, rfl, lv_sub hl [3, 4, 5, 6, 7, 1, 8, 9, 0] rfl⟩))) hP hD hS
      · rw [if_pos c5] at hF
        refine lv_aload_n hx hb dX5_growByWord_104 rfl (lv_at hl 1 rfl) ?_
        refine va_get (D := D) (ci := 5) (v := .ref (a 6)) (C := RX5) (T := TX5) (N := 11) hx hb hts inlX5 hown hK hP 16 gC_16 rfl 1 (by decide) (hts _ mw_79) (fun _ h9 => h9) rfl dX5_growByWord_105 ?_
        refine lv_iload hx hb dX5_growByWord_108 (lv_at hl 0 rfl) ?_
        obtain ⟨v12, e13, hF⟩ := Option.bind_eq_some_iff.mp hF
        refine z_callVI (w' := (wC cyI cyZ a σ)) (As := [.int (F_X7_spotOf σ x3 x8)]) (rest := []) ⟨hx, hb, hml, hown, hts⟩ (c_X7_sortAt l D cyI cyZ a A σ (F_X7_spotOf σ x3 x8) _ e13) (cwV 1 hts (gd_V mw_427 mw_428 mw_429 mw_18 mw_430) rfl rfl rfl (by decide +kernel) ⟨Nat.le_of_ble_eq_true rfl, Nat.le_of_ble_eq_true rfl⟩) hK hN hP hD hS 7 6 rfl rfl gC_6 rfl hl.1 rfl (Nat.le_of_ble_eq_true rfl) dX5_growByWord_110 ⟨Nat.zero_le _, Nat.zero_le _⟩ (fun H locs hP hD hS => ?_)
        refine lv_iconst (v := (4 : Int32)) hx hb dX5_growByWord_113 (by decide) ?_
        refine lv_icmp_eq (tgt := 150) hx hb dX5_growByWord_114 (by decide) (fun c14 => ?_) (fun c14 => ?_)
        · rw [if_pos c14] at hF
          refine lv_iinc (v := (x8 + (1 : Int32))) (lv' := [(8, .int (x8 + (1 : Int32))), (9, .int (F_X7_spotOf σ x3 x8)), (0, .ref (a 16)), (1, .int x1), (2, .int x2), (3, .int x3), (4, .int x4), (5, .int x5), (6, .int x6), (7, .int x7)]) hx hb dX5_growByWord_150 hl (k := 9) rfl rfl (by decide) rfl (fun ls hl => ?_)
          refine lv_goto (tgt := 66) hx hb dX5_growByWord_153 (by decide) ?_
          cases hF
          exact ih _ _ _ _ _ _ hgo (Or.inr (Or.inr (⟨rfl, _, _, _, _, _, _, _, _, rfl, lv_sub hl [2, 3, 4, 5, 6, 7, 8, 9, 0] rfl⟩))) hP hD hS
        · rw [if_neg c14] at hF
          refine lv_aload_n hx hb dX5_growByWord_117 rfl (lv_at hl 1 rfl) ?_
          refine va_get (D := D) (ci := 5) (v := .ref (a (ky σ))) (C := RX5) (T := TX5) (N := 11) hx hb hts inlX5 hown hK hP 16 gC_16 rfl 8 (by decide) (hts _ mw_77) (fun _ h9 => h9) rfl dX5_growByWord_118 ?_
          refine lv_iload hx hb dX5_growByWord_121 (lv_at hl 6 rfl) ?_
          refine lv_aload_n hx hb dX5_growByWord_123 rfl (lv_at hl 1 rfl) ?_
          refine va_get (D := D) (ci := 5) (v := .ref (a (kx σ))) (C := RX5) (T := TX5) (N := 11) hx hb hts inlX5 hown hK hP 16 gC_16 rfl 7 (by decide) (hts _ mw_76) (fun _ h9 => h9) rfl dX5_growByWord_124 ?_
          refine lv_iload hx hb dX5_growByWord_127 (lv_at hl 7 rfl) ?_
          obtain ⟨v15, e16, hF⟩ := Option.bind_eq_some_iff.mp hF
          refine z_ild hx hb hK hP (kx σ) gC_K e16 dX5_growByWord_129 ?_
          refine lv_iload_n hx hb dX5_growByWord_130 rfl (lv_at hl 2 rfl) ?_
          refine lv_iload hx hb dX5_growByWord_131 (lv_at hl 9 rfl) ?_
          refine lv_aload_n hx hb dX5_growByWord_133 rfl (lv_at hl 1 rfl) ?_
          refine va_get (D := D) (ci := 5) (v := .ref (a 6)) (C := RX5) (T := TX5) (N := 11) hx hb hts inlX5 hown hK hP 16 gC_16 rfl 1 (by decide) (hts _ mw_79) (fun _ h9 => h9) rfl dX5_growByWord_134 ?_
          refine lv_iload hx hb dX5_growByWord_137 (lv_at hl 0 rfl) ?_
          obtain ⟨v17, e18, hF⟩ := Option.bind_eq_some_iff.mp hF
          refine z_callVI (w' := (wC cyI cyZ a σ)) (As := [.int (F_X7_spotOf σ x3 x8)]) (rest := [.int x8, .int x1, .int v15, .int x5, .ref (a (ky σ))]) ⟨hx, hb, hml, hown, hts⟩ (c_X7_costAt l D cyI cyZ a A σ (F_X7_spotOf σ x3 x8) _ e18) (cwV 1 hts (gd_V mw_436 mw_316 mw_317 mw_18 mw_318) rfl rfl rfl (by decide +kernel) ⟨Nat.le_of_ble_eq_true rfl, Nat.le_of_ble_eq_true rfl⟩) hK hN hP hD hS 7 6 rfl rfl gC_6 rfl hl.1 rfl (Nat.le_of_ble_eq_true rfl) dX5_growByWord_139 ⟨Nat.zero_le _, Nat.zero_le _⟩ (fun H locs hP hD hS => ?_)
          refine z_callSI (w' := (wC cyI cyZ a σ)) (As := [.int x1, .int x8, .int v17]) (rest := [.int v15, .int x5, .ref (a (ky σ))]) ⟨hx, hb, hml, hown, hts⟩ (c_X5_keyPart l D cyI cyZ A (wC cyI cyZ a σ) x1 x8 v17 _ rfl) (va_cwS 3 hts (gd_S mw_437 mw_438 mw_26 mw_439) rfl rfl rfl (by decide +kernel) ⟨Nat.le_of_ble_eq_true rfl, Nat.le_of_ble_eq_true rfl⟩) hK hN hP hD hS rfl hl.1 rfl (Nat.le_of_ble_eq_true rfl) dX5_growByWord_142 ⟨Nat.zero_le _, Nat.zero_le _⟩ (fun H locs hP hD hS => ?_)
          refine lv_iadd hx hb dX5_growByWord_145 ?_
          obtain ⟨σ19, e20, hF⟩ := Option.bind_eq_some_iff.mp hF
          refine z_ist (wC cyI cyZ a) hx hb hK hP hD hS (ky σ) gC_S sC_S e20 dX5_growByWord_146 (fun H locs hP hD hS => ?_)
          refine lv_iinc (v := (x5 + (1 : Int32))) (lv' := [(5, .int (x5 + (1 : Int32))), (9, .int (F_X7_spotOf σ x3 x8)), (0, .ref (a 16)), (1, .int x1), (2, .int x2), (3, .int x3), (4, .int x4), (6, .int x6), (7, .int x7), (8, .int x8)]) hx hb dX5_growByWord_147 hl (k := 6) rfl rfl (by decide) rfl (fun ls hl => ?_)
          refine lv_iinc (v := (x8 + (1 : Int32))) (lv' := [(8, .int (x8 + (1 : Int32))), (5, .int (x5 + (1 : Int32))), (9, .int (F_X7_spotOf σ x3 x8)), (0, .ref (a 16)), (1, .int x1), (2, .int x2), (3, .int x3), (4, .int x4), (6, .int x6), (7, .int x7)]) hx hb dX5_growByWord_150 hl (k := 9) rfl rfl (by decide) rfl (fun ls hl => ?_)
          refine lv_goto (tgt := 66) hx hb dX5_growByWord_153 (by decide) ?_
          cases hF
          exact ih _ _ _ _ _ _ hgo (Or.inr (Or.inr (⟨rfl, _, _, _, _, _, _, _, _, rfl, lv_sub hl [3, 4, 5, 6, 7, 1, 8, 9, 0] rfl⟩))) hP hD hS
theorem wk_X5_growByWord (hC : CX p c cX5_growByWord meth (some .int) s m args yX5_growByWord.cls 10 D cyI cyZ) (hq : extM q = some (r, σ')) : ∀ (n : Nat), ∀ (pc : Nat) (x : Mem) (vs : List Int32) (ls : Array Slot) (H : Heap) (locs : List Loc), goL B_X5_growByWord n pc x vs = some q → SH_X5_growByWord a ls pc vs → va_P D vwCl (wC cyI cyZ a x) H → va_D A (wC cyI cyZ a x) → va_S A s.heap H locs → W p l e (headSpec ts_X5_growByWord ({ frames := 2, cells := 0, slots := 0, locals := 45 } : Room)).room s m args below meth c H locs 0 0 (MQ below (QcI D cyI cyZ A (wC cyI cyZ a σ') r) args s 0 0 A) (F0 m pc ls []) := by
  intro n
  induction n with
  | zero => intro pc x vs ls H locs h; exact absurd h (by simp [goL])
  | succ n ih =>
    intro pc x vs ls H locs hgo hsh hP hD hS
    rcases hsh with ⟨rfl, x1, x2, rfl, hl⟩ | ⟨rfl, x1, x2, x3, x4, x5, x6, rfl, hl⟩ | ⟨rfl, x1, x2, x3, x4, x5, x6, x7, x8, rfl, hl⟩
    · exact wl_X5_growByWord_0 x hC hq n ih x1 x2 ls H locs hgo hl hP hD hS
    · exact wl_X5_growByWord_27 x hC hq n ih x1 x2 x3 x4 x5 x6 ls H locs hgo hl hP hD hS
    · exact wl_X5_growByWord_66 x hC hq n ih x1 x2 x3 x4 x5 x6 x7 x8 ls H locs hgo hl hP hD hS
end
theorem c_X5_growByWord (l : Launch) (D : va_G) (cyI cyZ : ClassId) (a : Nat → Nat) (A : Nat → Prop) (σ : Mem) (x1 : Int32) (x2 : Int32) (r : Int32) (σ' : Mem) (hF : F_X5_growByWord σ x1 x2 = some (r, σ')) : CtI l yX5_growByWord ts_X5_growByWord ({ frames := 2, cells := 0, slots := 0, locals := 45 } : Room) [.ref (a 16), .int x1, .int x2] D cyI cyZ A (wC cyI cyZ a σ) (wC cyI cyZ a σ') r := by
  refine CtI.of (cc := cX5_growByWord) (maxL := 10) (ret := (some .int)) (by decide) rfl (Nat.le_of_ble_eq_true rfl) ?_
  intro p e s m below meth c ls hC hP hD hl
  obtain ⟨q, hq, hr1⟩ := Option.bind_eq_some_iff.mp hF
  obtain ⟨n, hn⟩ := finL_some hq
  exact wk_X5_growByWord hC hr1 n 0 _ _ ls _ _ hn (Or.inl ⟨rfl, _, _, rfl, hl⟩) hP hD va_S.rf
abbrev ts_X5_growKeys : List Cond := .code yX5_growKeys cX5_growKeys 3 (some .int) :: wsL_law
def SH_X5_growKeys (a : Nat → Nat) (ls : Array Slot) (pc : Nat) (vs : List Int32) : Prop := (pc = 0 ∧ vs = [] ∧ lv_has ls 3 [(0, .ref (a 16))]) ∨ (pc = 11 ∧ ∃ x1 x2 : Int32, vs = [x1, x2] ∧ lv_has ls 3 [(0, .ref (a 16)), (1, .int x1), (2, .int x2)])
section
variable {p : Program} {l : Launch} {e : Env} {s : State} {m : MethodId} {args : Array Value} {below : List Frame} {meth : Method} {c : Code} {D : va_G} {A : Nat → Prop} {a : Nat → Nat} {cyI cyZ : ClassId} {r : Int32} {σ' : Mem} {q : Mem × List Int32}
set_option maxHeartbeats 4000000 in
set_option maxRecDepth 100000 in
theorem wl_X5_growKeys_0 (σ : Mem) (hC : CX p c cX5_growKeys meth (some .int) s m args yX5_growKeys.cls 3 D cyI cyZ) (hq : extM q = some (r, σ')) (n : Nat) (ih : ∀ (pc : Nat) (x : Mem) (vs : List Int32) (ls : Array Slot) (H : Heap) (locs : List Loc), goL B_X5_growKeys n pc x vs = some q → SH_X5_growKeys a ls pc vs → va_P D vwCl (wC cyI cyZ a x) H → va_D A (wC cyI cyZ a x) → va_S A s.heap H locs → W p l e (headSpec ts_X5_growKeys ({ frames := 3, cells := 0, slots := 0, locals := 74 } : Room)).room s m args below meth c H locs 0 0 (MQ below (QcI D cyI cyZ A (wC cyI cyZ a σ') r) args s 0 0 A) (F0 m pc ls [])) (ls : Array Slot) (H : Heap) (locs : List Loc) (hgo : goL B_X5_growKeys (n + 1) 0 σ [] = some q) (hl : lv_has ls 3 [(0, .ref (a 16))]) (hP : va_P D vwCl (wC cyI cyZ a σ) H) (hD : va_D A (wC cyI cyZ a σ)) (hS : va_S A s.heap H locs) : W p l e (headSpec ts_X5_growKeys ({ frames := 3, cells := 0, slots := 0, locals := 74 } : Room)).room s m args below meth c H locs 0 0 (MQ below (QcI D cyI cyZ A (wC cyI cyZ a σ') r) args s 0 0 A) (F0 m 0 ls []) := by
  obtain ⟨hx, hb, hr, hml, hown, hts, hK, hN, hlocks⟩ := hC
  have hown : s.vm.findClass RX5 = some m.cls := hown
  obtain ⟨yy, hF, hgo⟩ := goL_step (by decide) hgo
  have hF : B_X5_growKeys_0 σ  = some yy := hF
  unfold B_X5_growKeys_0 at hF
  refine lv_aload_n hx hb dX5_growKeys_0 rfl (lv_at hl 0 rfl) ?_
  refine va_get (D := D) (ci := 5) (v := .ref (a (kx σ))) (C := RX5) (T := TX5) (N := 11) hx hb hts inlX5 hown hK hP 16 gC_16 rfl 7 (by decide) (hts _ mw_76) (fun _ h9 => h9) rfl dX5_growKeys_1 ?_
  refine lv_iconst (v := (0 : Int32)) hx hb dX5_growKeys_4 (by decide) ?_
  refine lv_iconst (v := (0 : Int32)) hx hb dX5_growKeys_5 (by decide) ?_
  obtain ⟨σ1, e2, hF⟩ := Option.bind_eq_some_iff.mp hF
  refine z_ist (wC cyI cyZ a) hx hb hK hP hD hS (kx σ) gC_K sC_K e2 dX5_growKeys_6 (fun H locs hP hD hS => ?_)
  refine lv_iconst (v := (1 : Int32)) hx hb dX5_growKeys_7 (by decide) ?_
  refine lv_istore_n (lv' := [(1, .int (1 : Int32)), (0, .ref (a 16))]) hx hb dX5_growKeys_8 rfl hl (by decide) rfl (fun ls hl => ?_)
  refine lv_iconst (v := (0 : Int32)) hx hb dX5_growKeys_9 (by decide) ?_
  refine lv_istore_n (lv' := [(2, .int (0 : Int32)), (1, .int (1 : Int32)), (0, .ref (a 16))]) hx hb dX5_growKeys_10 rfl hl (by decide) rfl (fun ls hl => ?_)
  cases hF
  exact ih _ _ _ _ _ _ hgo (Or.inr (⟨rfl, _, _, rfl, lv_sub hl [2, 1, 0] rfl⟩)) hP hD hS
set_option maxHeartbeats 4000000 in
set_option maxRecDepth 100000 in
theorem wl_X5_growKeys_11 (σ : Mem) (hC : CX p c cX5_growKeys meth (some .int) s m args yX5_growKeys.cls 3 D cyI cyZ) (hq : extM q = some (r, σ')) (n : Nat) (ih : ∀ (pc : Nat) (x : Mem) (vs : List Int32) (ls : Array Slot) (H : Heap) (locs : List Loc), goL B_X5_growKeys n pc x vs = some q → SH_X5_growKeys a ls pc vs → va_P D vwCl (wC cyI cyZ a x) H → va_D A (wC cyI cyZ a x) → va_S A s.heap H locs → W p l e (headSpec ts_X5_growKeys ({ frames := 3, cells := 0, slots := 0, locals := 74 } : Room)).room s m args below meth c H locs 0 0 (MQ below (QcI D cyI cyZ A (wC cyI cyZ a σ') r) args s 0 0 A) (F0 m pc ls [])) (x1 : Int32) (x2 : Int32) (ls : Array Slot) (H : Heap) (locs : List Loc) (hgo : goL B_X5_growKeys (n + 1) 11 σ [x1, x2] = some q) (hl : lv_has ls 3 [(0, .ref (a 16)), (1, .int x1), (2, .int x2)]) (hP : va_P D vwCl (wC cyI cyZ a σ) H) (hD : va_D A (wC cyI cyZ a σ)) (hS : va_S A s.heap H locs) : W p l e (headSpec ts_X5_growKeys ({ frames := 3, cells := 0, slots := 0, locals := 74 } : Room)).room s m args below meth c H locs 0 0 (MQ below (QcI D cyI cyZ A (wC cyI cyZ a σ') r) args s 0 0 A) (F0 m 11 ls []) := by
  obtain ⟨hx, hb, hr, hml, hown, hts, hK, hN, hlocks⟩ := hC
  have hown : s.vm.findClass RX5 = some m.cls := hown
  obtain ⟨yy, hF, hgo⟩ := goL_step (by decide) hgo
  have hF : B_X5_growKeys_11 σ x1 x2 = some yy := hF
  unfold B_X5_growKeys_11 at hF
  refine lv_iload_n hx hb dX5_growKeys_11 rfl (lv_at hl 2 rfl) ?_
  refine lv_aload_n hx hb dX5_growKeys_12 rfl (lv_at hl 0 rfl) ?_
  refine va_get (D := D) (ci := 5) (v := .ref (a 13)) (C := RX5) (T := TX5) (N := 11) hx hb hts inlX5 hown hK hP 16 gC_16 rfl 2 (by decide) (hts _ mw_80) (fun _ h9 => h9) rfl dX5_growKeys_13 ?_
  refine z_callVI (w' := (wC cyI cyZ a σ)) (As := []) (rest := [.int x2]) ⟨hx, hb, hml, hown, hts⟩ (c_X3_size l D cyI cyZ a A σ  _ rfl) (cwV 0 hts (gd_V mw_402 mw_340 mw_341 mw_22 mw_342) rfl rfl rfl (by decide +kernel) ⟨Nat.le_of_ble_eq_true rfl, Nat.le_of_ble_eq_true rfl⟩) hK hN hP hD hS 3 13 rfl rfl gC_13 rfl hl.1 rfl (Nat.le_of_ble_eq_true rfl) dX5_growKeys_16 ⟨Nat.zero_le _, Nat.zero_le _⟩ (fun H locs hP hD hS => ?_)
  refine lv_icmp_ge (tgt := 55) hx hb dX5_growKeys_19 (by decide) (fun c1 => ?_) (fun c1 => ?_)
  · rw [if_pos c1] at hF
    refine lv_iload_n hx hb dX5_growKeys_55 rfl (lv_at hl 1 rfl) ?_
    cases hF
    obtain ⟨rfl, rfl⟩ := extM_ret hq (goL_ret hgo)
    exact z_iret hx hb hr hlocks hK hP hD hS dX5_growKeys_56
  · rw [if_neg c1] at hF
    refine lv_aload_n hx hb dX5_growKeys_22 rfl (lv_at hl 0 rfl) ?_
    refine va_get (D := D) (ci := 5) (v := .ref (a 13)) (C := RX5) (T := TX5) (N := 11) hx hb hts inlX5 hown hK hP 16 gC_16 rfl 2 (by decide) (hts _ mw_80) (fun _ h9 => h9) rfl dX5_growKeys_23 ?_
    refine lv_iload_n hx hb dX5_growKeys_26 rfl (lv_at hl 2 rfl) ?_
    obtain ⟨v2, e3, hF⟩ := Option.bind_eq_some_iff.mp hF
    refine z_callVI (w' := (wC cyI cyZ a σ)) (As := [.int x2]) (rest := []) ⟨hx, hb, hml, hown, hts⟩ (c_X3_isNumber l D cyI cyZ a A σ x2 _ e3) (cwV 1 hts (gd_V mw_403 mw_404 mw_405 mw_22 mw_406) rfl rfl rfl (by decide +kernel) ⟨Nat.le_of_ble_eq_true rfl, Nat.le_of_ble_eq_true rfl⟩) hK hN hP hD hS 3 13 rfl rfl gC_13 rfl hl.1 rfl (Nat.le_of_ble_eq_true rfl) dX5_growKeys_27 ⟨Nat.zero_le _, Nat.zero_le _⟩ (fun H locs hP hD hS => ?_)
    refine lv_if_eq (tgt := 42) hx hb dX5_growKeys_30 (by decide) (fun c4 => ?_) (fun c4 => ?_)
    · rw [if_pos c4] at hF
      refine lv_aload_n hx hb dX5_growKeys_42 rfl (lv_at hl 0 rfl) ?_
      refine lv_iload_n hx hb dX5_growKeys_43 rfl (lv_at hl 2 rfl) ?_
      refine lv_iload_n hx hb dX5_growKeys_44 rfl (lv_at hl 1 rfl) ?_
      obtain ⟨p5, e6, hF⟩ := Option.bind_eq_some_iff.mp hF
      refine z_callVI (w' := (wC cyI cyZ a p5.2)) (As := [.int x2, .int x1]) (rest := []) ⟨hx, hb, hml, hown, hts⟩ (c_X5_growByWord l D cyI cyZ a A σ x2 x1 p5.1 p5.2 e6) (cwV 2 hts (gd_V mw_431 mw_432 mw_433 mw_26 mw_434) rfl rfl rfl (by decide +kernel) ⟨Nat.le_of_ble_eq_true rfl, Nat.le_of_ble_eq_true rfl⟩) hK hN hP hD hS 5 16 rfl rfl gC_16 rfl hl.1 rfl (Nat.le_of_ble_eq_true rfl) dX5_growKeys_45 ⟨Nat.zero_le _, Nat.zero_le _⟩ (fun H locs hP hD hS => ?_)
      refine lv_istore_n (lv' := [(1, .int p5.1), (0, .ref (a 16)), (2, .int x2)]) hx hb dX5_growKeys_48 rfl hl (by decide) rfl (fun ls hl => ?_)
      refine lv_iinc (v := (x2 + (1 : Int32))) (lv' := [(2, .int (x2 + (1 : Int32))), (1, .int p5.1), (0, .ref (a 16))]) hx hb dX5_growKeys_49 hl (k := 2) rfl rfl (by decide) rfl (fun ls hl => ?_)
      refine lv_goto (tgt := 11) hx hb dX5_growKeys_52 (by decide) ?_
      cases hF
      exact ih _ _ _ _ _ _ hgo (Or.inr (⟨rfl, _, _, rfl, lv_sub hl [2, 1, 0] rfl⟩)) hP hD hS
    · rw [if_neg c4] at hF
      refine lv_aload_n hx hb dX5_growKeys_33 rfl (lv_at hl 0 rfl) ?_
      refine lv_iload_n hx hb dX5_growKeys_34 rfl (lv_at hl 2 rfl) ?_
      refine lv_iload_n hx hb dX5_growKeys_35 rfl (lv_at hl 1 rfl) ?_
      obtain ⟨p7, e8, hF⟩ := Option.bind_eq_some_iff.mp hF
      refine z_callVI (w' := (wC cyI cyZ a p7.2)) (As := [.int x2, .int x1]) (rest := []) ⟨hx, hb, hml, hown, hts⟩ (c_X5_passNumber l D cyI cyZ a A σ x2 x1 p7.1 p7.2 e8) (cwV 2 hts (gd_V mw_407 mw_408 mw_409 mw_26 mw_410) rfl rfl rfl (by decide +kernel) ⟨Nat.le_of_ble_eq_true rfl, Nat.le_of_ble_eq_true rfl⟩) hK hN hP hD hS 5 16 rfl rfl gC_16 rfl hl.1 rfl (Nat.le_of_ble_eq_true rfl) dX5_growKeys_36 ⟨Nat.zero_le _, Nat.zero_le _⟩ (fun H locs hP hD hS => ?_)
      refine lv_goto (tgt := 48) hx hb dX5_growKeys_39 (by decide) ?_
      refine lv_istore_n (lv' := [(1, .int p7.1), (0, .ref (a 16)), (2, .int x2)]) hx hb dX5_growKeys_48 rfl hl (by decide) rfl (fun ls hl => ?_)
      refine lv_iinc (v := (x2 + (1 : Int32))) (lv' := [(2, .int (x2 + (1 : Int32))), (1, .int p7.1), (0, .ref (a 16))]) hx hb dX5_growKeys_49 hl (k := 2) rfl rfl (by decide) rfl (fun ls hl => ?_)
      refine lv_goto (tgt := 11) hx hb dX5_growKeys_52 (by decide) ?_
      cases hF
      exact ih _ _ _ _ _ _ hgo (Or.inr (⟨rfl, _, _, rfl, lv_sub hl [2, 1, 0] rfl⟩)) hP hD hS
theorem wk_X5_growKeys (hC : CX p c cX5_growKeys meth (some .int) s m args yX5_growKeys.cls 3 D cyI cyZ) (hq : extM q = some (r, σ')) : ∀ (n : Nat), ∀ (pc : Nat) (x : Mem) (vs : List Int32) (ls : Array Slot) (H : Heap) (locs : List Loc), goL B_X5_growKeys n pc x vs = some q → SH_X5_growKeys a ls pc vs → va_P D vwCl (wC cyI cyZ a x) H → va_D A (wC cyI cyZ a x) → va_S A s.heap H locs → W p l e (headSpec ts_X5_growKeys ({ frames := 3, cells := 0, slots := 0, locals := 74 } : Room)).room s m args below meth c H locs 0 0 (MQ below (QcI D cyI cyZ A (wC cyI cyZ a σ') r) args s 0 0 A) (F0 m pc ls []) := by
  intro n
  induction n with
  | zero => intro pc x vs ls H locs h; exact absurd h (by simp [goL])
  | succ n ih =>
    intro pc x vs ls H locs hgo hsh hP hD hS
    rcases hsh with ⟨rfl, rfl, hl⟩ | ⟨rfl, x1, x2, rfl, hl⟩
    · exact wl_X5_growKeys_0 x hC hq n ih  ls H locs hgo hl hP hD hS
    · exact wl_X5_growKeys_11 x hC hq n ih x1 x2 ls H locs hgo hl hP hD hS
end
theorem c_X5_growKeys (l : Launch) (D : va_G) (cyI cyZ : ClassId) (a : Nat → Nat) (A : Nat → Prop) (σ : Mem) (r : Int32) (σ' : Mem) (hF : F_X5_growKeys σ  = some (r, σ')) : CtI l yX5_growKeys ts_X5_growKeys ({ frames := 3, cells := 0, slots := 0, locals := 74 } : Room) [.ref (a 16)] D cyI cyZ A (wC cyI cyZ a σ) (wC cyI cyZ a σ') r := by
  refine CtI.of (cc := cX5_growKeys) (maxL := 3) (ret := (some .int)) (by decide) rfl (Nat.le_of_ble_eq_true rfl) ?_
  intro p e s m below meth c ls hC hP hD hl
  obtain ⟨q, hq, hr1⟩ := Option.bind_eq_some_iff.mp hF
  obtain ⟨n, hn⟩ := finL_some hq
  exact wk_X5_growKeys hC hr1 n 0 _ _ ls _ _ hn (Or.inl ⟨rfl, rfl, hl⟩) hP hD va_S.rf
abbrev ts_X5_keepStanding : List Cond := .code yX5_keepStanding cX5_keepStanding 4 (some .int) :: wsL_law
def SH_X5_keepStanding (a : Nat → Nat) (ls : Array Slot) (pc : Nat) (vs : List Int32) : Prop := (pc = 0 ∧ ∃ x1 : Int32, vs = [x1] ∧ lv_has ls 4 [(0, .ref (a 16)), (1, .int x1)]) ∨ (pc = 4 ∧ ∃ x1 x2 x3 : Int32, vs = [x1, x2, x3] ∧ lv_has ls 4 [(0, .ref (a 16)), (1, .int x1), (2, .int x2), (3, .int x3)])
section
variable {p : Program} {l : Launch} {e : Env} {s : State} {m : MethodId} {args : Array Value} {below : List Frame} {meth : Method} {c : Code} {D : va_G} {A : Nat → Prop} {a : Nat → Nat} {cyI cyZ : ClassId} {r : Int32} {σ' : Mem} {q : Mem × List Int32}
set_option maxHeartbeats 4000000 in
set_option maxRecDepth 100000 in
theorem wl_X5_keepStanding_0 (σ : Mem) (hC : CX p c cX5_keepStanding meth (some .int) s m args yX5_keepStanding.cls 4 D cyI cyZ) (hq : extM q = some (r, σ')) (n : Nat) (ih : ∀ (pc : Nat) (x : Mem) (vs : List Int32) (ls : Array Slot) (H : Heap) (locs : List Loc), goL B_X5_keepStanding n pc x vs = some q → SH_X5_keepStanding a ls pc vs → va_P D vwCl (wC cyI cyZ a x) H → va_D A (wC cyI cyZ a x) → va_S A s.heap H locs → W p l e (headSpec ts_X5_keepStanding ({ frames := 3, cells := 0, slots := 0, locals := 73 } : Room)).room s m args below meth c H locs 0 0 (MQ below (QcI D cyI cyZ A (wC cyI cyZ a σ') r) args s 0 0 A) (F0 m pc ls [])) (x1 : Int32) (ls : Array Slot) (H : Heap) (locs : List Loc) (hgo : goL B_X5_keepStanding (n + 1) 0 σ [x1] = some q) (hl : lv_has ls 4 [(0, .ref (a 16)), (1, .int x1)]) (hP : va_P D vwCl (wC cyI cyZ a σ) H) (hD : va_D A (wC cyI cyZ a σ)) (hS : va_S A s.heap H locs) : W p l e (headSpec ts_X5_keepStanding ({ frames := 3, cells := 0, slots := 0, locals := 73 } : Room)).room s m args below meth c H locs 0 0 (MQ below (QcI D cyI cyZ A (wC cyI cyZ a σ') r) args s 0 0 A) (F0 m 0 ls []) := by
  obtain ⟨hx, hb, hr, hml, hown, hts, hK, hN, hlocks⟩ := hC
  have hown : s.vm.findClass RX5 = some m.cls := hown
  obtain ⟨yy, hF, hgo⟩ := goL_step (by decide) hgo
  have hF : B_X5_keepStanding_0 σ x1 = some yy := hF
  unfold B_X5_keepStanding_0 at hF
  refine lv_iconst (v := (0 : Int32)) hx hb dX5_keepStanding_0 (by decide) ?_
  refine lv_istore_n (lv' := [(2, .int (0 : Int32)), (0, .ref (a 16)), (1, .int x1)]) hx hb dX5_keepStanding_1 rfl hl (by decide) rfl (fun ls hl => ?_)
  refine lv_iconst (v := (0 : Int32)) hx hb dX5_keepStanding_2 (by decide) ?_
  refine lv_istore_n (lv' := [(3, .int (0 : Int32)), (2, .int (0 : Int32)), (0, .ref (a 16)), (1, .int x1)]) hx hb dX5_keepStanding_3 rfl hl (by decide) rfl (fun ls hl => ?_)
  cases hF
  exact ih _ _ _ _ _ _ hgo (Or.inr (⟨rfl, _, _, _, rfl, lv_sub hl [2, 3, 1, 0] rfl⟩)) hP hD hS
set_option maxHeartbeats 4000000 in
set_option maxRecDepth 100000 in
theorem wl_X5_keepStanding_4 (σ : Mem) (hC : CX p c cX5_keepStanding meth (some .int) s m args yX5_keepStanding.cls 4 D cyI cyZ) (hq : extM q = some (r, σ')) (n : Nat) (ih : ∀ (pc : Nat) (x : Mem) (vs : List Int32) (ls : Array Slot) (H : Heap) (locs : List Loc), goL B_X5_keepStanding n pc x vs = some q → SH_X5_keepStanding a ls pc vs → va_P D vwCl (wC cyI cyZ a x) H → va_D A (wC cyI cyZ a x) → va_S A s.heap H locs → W p l e (headSpec ts_X5_keepStanding ({ frames := 3, cells := 0, slots := 0, locals := 73 } : Room)).room s m args below meth c H locs 0 0 (MQ below (QcI D cyI cyZ A (wC cyI cyZ a σ') r) args s 0 0 A) (F0 m pc ls [])) (x1 : Int32) (x2 : Int32) (x3 : Int32) (ls : Array Slot) (H : Heap) (locs : List Loc) (hgo : goL B_X5_keepStanding (n + 1) 4 σ [x1, x2, x3] = some q) (hl : lv_has ls 4 [(0, .ref (a 16)), (1, .int x1), (2, .int x2), (3, .int x3)]) (hP : va_P D vwCl (wC cyI cyZ a σ) H) (hD : va_D A (wC cyI cyZ a σ)) (hS : va_S A s.heap H locs) : W p l e (headSpec ts_X5_keepStanding ({ frames := 3, cells := 0, slots := 0, locals := 73 } : Room)).room s m args below meth c H locs 0 0 (MQ below (QcI D cyI cyZ A (wC cyI cyZ a σ') r) args s 0 0 A) (F0 m 4 ls []) := by
  obtain ⟨hx, hb, hr, hml, hown, hts, hK, hN, hlocks⟩ := hC
  have hown : s.vm.findClass RX5 = some m.cls := hown
  obtain ⟨yy, hF, hgo⟩ := goL_step (by decide) hgo
  have hF : B_X5_keepStanding_4 σ x1 x2 x3 = some yy := hF
  unfold B_X5_keepStanding_4 at hF
  refine lv_iload_n hx hb dX5_keepStanding_4 rfl (lv_at hl 3 rfl) ?_
  refine lv_iload_n hx hb dX5_keepStanding_5 rfl (lv_at hl 1 rfl) ?_
  refine lv_icmp_ge (tgt := 54) hx hb dX5_keepStanding_6 (by decide) (fun c1 => ?_) (fun c1 => ?_)
  · rw [if_pos c1] at hF
    refine lv_iload_n hx hb dX5_keepStanding_54 rfl (lv_at hl 2 rfl) ?_
    cases hF
    obtain ⟨rfl, rfl⟩ := extM_ret hq (goL_ret hgo)
    exact z_iret hx hb hr hlocks hK hP hD hS dX5_keepStanding_55
  · rw [if_neg c1] at hF
    refine lv_aload_n hx hb dX5_keepStanding_9 rfl (lv_at hl 0 rfl) ?_
    refine lv_aload_n hx hb dX5_keepStanding_10 rfl (lv_at hl 0 rfl) ?_
    refine va_get (D := D) (ci := 5) (v := .ref (a (kx σ))) (C := RX5) (T := TX5) (N := 11) hx hb hts inlX5 hown hK hP 16 gC_16 rfl 7 (by decide) (hts _ mw_76) (fun _ h9 => h9) rfl dX5_keepStanding_11 ?_
    refine lv_iload_n hx hb dX5_keepStanding_14 rfl (lv_at hl 3 rfl) ?_
    obtain ⟨v2, e3, hF⟩ := Option.bind_eq_some_iff.mp hF
    refine z_ild hx hb hK hP (kx σ) gC_K e3 dX5_keepStanding_15 ?_
    obtain ⟨σ4, e5, hF⟩ := Option.bind_eq_some_iff.mp hF
    refine z_callVV (w' := (wC cyI cyZ a σ4)) (As := [.int v2]) (rest := []) ⟨hx, hb, hml, hown, hts⟩ (c_X5_fillForm l D cyI cyZ a A σ v2 σ4 e5) (cwV 1 hts (gd_V mw_448 mw_449 mw_450 mw_26 mw_451) rfl rfl rfl (by decide +kernel) ⟨Nat.le_of_ble_eq_true rfl, Nat.le_of_ble_eq_true rfl⟩) hK hN hP hD hS 5 16 rfl rfl gC_16 rfl hl.1 rfl (Nat.le_of_ble_eq_true rfl) dX5_keepStanding_16 ⟨Nat.zero_le _, Nat.zero_le _⟩ (fun H locs hP hD hS => ?_)
    refine lv_aload_n hx hb dX5_keepStanding_19 rfl (lv_at hl 0 rfl) ?_
    refine va_get (D := D) (ci := 5) (v := .ref (a 17)) (C := RX5) (T := TX5) (N := 11) hx hb hts inlX5 hown hK hP 16 gC_16 rfl 3 (by decide) (hts _ mw_72) (fun _ h9 => h9) rfl dX5_keepStanding_20 ?_
    refine lv_aload_n hx hb dX5_keepStanding_23 rfl (lv_at hl 0 rfl) ?_
    refine va_get (D := D) (ci := 5) (v := .ref (a 1)) (C := RX5) (T := TX5) (N := 11) hx hb hts inlX5 hown hK hP 16 gC_16 rfl 0 (by decide) (hts _ mw_78) (fun _ h9 => h9) rfl dX5_keepStanding_24 ?_
    obtain ⟨v6, e7, hF⟩ := Option.bind_eq_some_iff.mp hF
    refine z_callVI (w' := (wC cyI cyZ a σ4)) (As := [.ref (a 1)]) (rest := []) ⟨hx, hb, hml, hown, hts⟩ (c_X2_stands l D cyI cyZ a A σ4  _ e7) (cwV 1 hts (gd_V mw_503 mw_504 mw_505 mw_71 mw_506) rfl rfl rfl (by decide +kernel) ⟨Nat.le_of_ble_eq_true rfl, Nat.le_of_ble_eq_true rfl⟩) hK hN hP hD hS 2 17 rfl rfl gC_17 rfl hl.1 rfl (Nat.le_of_ble_eq_true rfl) dX5_keepStanding_27 ⟨Nat.zero_le _, Nat.zero_le _⟩ (fun H locs hP hD hS => ?_)
    refine lv_if_eq (tgt := 48) hx hb dX5_keepStanding_30 (by decide) (fun c8 => ?_) (fun c8 => ?_)
    · rw [if_pos c8] at hF
      refine lv_iinc (v := (x3 + (1 : Int32))) (lv' := [(3, .int (x3 + (1 : Int32))), (0, .ref (a 16)), (1, .int x1), (2, .int x2)]) hx hb dX5_keepStanding_48 hl (k := 3) rfl rfl (by decide) rfl (fun ls hl => ?_)
      refine lv_goto (tgt := 4) hx hb dX5_keepStanding_51 (by decide) ?_
      cases hF
      exact ih _ _ _ _ _ _ hgo (Or.inr (⟨rfl, _, _, _, rfl, lv_sub hl [1, 2, 3, 0] rfl⟩)) hP hD hS
    · rw [if_neg c8] at hF
      refine lv_aload_n hx hb dX5_keepStanding_33 rfl (lv_at hl 0 rfl) ?_
      refine va_get (D := D) (ci := 5) (v := .ref (a (kx σ4))) (C := RX5) (T := TX5) (N := 11) hx hb hts inlX5 hown hK hP 16 gC_16 rfl 7 (by decide) (hts _ mw_76) (fun _ h9 => h9) rfl dX5_keepStanding_34 ?_
      refine lv_iload_n hx hb dX5_keepStanding_37 rfl (lv_at hl 2 rfl) ?_
      refine lv_aload_n hx hb dX5_keepStanding_38 rfl (lv_at hl 0 rfl) ?_
      refine va_get (D := D) (ci := 5) (v := .ref (a (kx σ4))) (C := RX5) (T := TX5) (N := 11) hx hb hts inlX5 hown hK hP 16 gC_16 rfl 7 (by decide) (hts _ mw_76) (fun _ h9 => h9) rfl dX5_keepStanding_39 ?_
      refine lv_iload_n hx hb dX5_keepStanding_42 rfl (lv_at hl 3 rfl) ?_
      obtain ⟨v9, e10, hF⟩ := Option.bind_eq_some_iff.mp hF
      refine z_ild hx hb hK hP (kx σ4) gC_K e10 dX5_keepStanding_43 ?_
      obtain ⟨σ11, e12, hF⟩ := Option.bind_eq_some_iff.mp hF
      refine z_ist (wC cyI cyZ a) hx hb hK hP hD hS (kx σ4) gC_K sC_K e12 dX5_keepStanding_44 (fun H locs hP hD hS => ?_)
      refine lv_iinc (v := (x2 + (1 : Int32))) (lv' := [(2, .int (x2 + (1 : Int32))), (0, .ref (a 16)), (1, .int x1), (3, .int x3)]) hx hb dX5_keepStanding_45 hl (k := 2) rfl rfl (by decide) rfl (fun ls hl => ?_)
      refine lv_iinc (v := (x3 + (1 : Int32))) (lv' := [(3, .int (x3 + (1 : Int32))), (2, .int (x2 + (1 : Int32))), (0, .ref (a 16)), (1, .int x1)]) hx hb dX5_keepStanding_48 hl (k := 3) rfl rfl (by decide) rfl (fun ls hl => ?_)
      refine lv_goto (tgt := 4) hx hb dX5_keepStanding_51 (by decide) ?_
      cases hF
      exact ih _ _ _ _ _ _ hgo (Or.inr (⟨rfl, _, _, _, rfl, lv_sub hl [2, 3, 1, 0] rfl⟩)) hP hD hS
theorem wk_X5_keepStanding (hC : CX p c cX5_keepStanding meth (some .int) s m args yX5_keepStanding.cls 4 D cyI cyZ) (hq : extM q = some (r, σ')) : ∀ (n : Nat), ∀ (pc : Nat) (x : Mem) (vs : List Int32) (ls : Array Slot) (H : Heap) (locs : List Loc), goL B_X5_keepStanding n pc x vs = some q → SH_X5_keepStanding a ls pc vs → va_P D vwCl (wC cyI cyZ a x) H → va_D A (wC cyI cyZ a x) → va_S A s.heap H locs → W p l e (headSpec ts_X5_keepStanding ({ frames := 3, cells := 0, slots := 0, locals := 73 } : Room)).room s m args below meth c H locs 0 0 (MQ below (QcI D cyI cyZ A (wC cyI cyZ a σ') r) args s 0 0 A) (F0 m pc ls []) := by
  intro n
  induction n with
  | zero => intro pc x vs ls H locs h; exact absurd h (by simp [goL])
  | succ n ih =>
    intro pc x vs ls H locs hgo hsh hP hD hS
    rcases hsh with ⟨rfl, x1, rfl, hl⟩ | ⟨rfl, x1, x2, x3, rfl, hl⟩
    · exact wl_X5_keepStanding_0 x hC hq n ih x1 ls H locs hgo hl hP hD hS
    · exact wl_X5_keepStanding_4 x hC hq n ih x1 x2 x3 ls H locs hgo hl hP hD hS
end
theorem c_X5_keepStanding (l : Launch) (D : va_G) (cyI cyZ : ClassId) (a : Nat → Nat) (A : Nat → Prop) (σ : Mem) (x1 : Int32) (r : Int32) (σ' : Mem) (hF : F_X5_keepStanding σ x1 = some (r, σ')) : CtI l yX5_keepStanding ts_X5_keepStanding ({ frames := 3, cells := 0, slots := 0, locals := 73 } : Room) [.ref (a 16), .int x1] D cyI cyZ A (wC cyI cyZ a σ) (wC cyI cyZ a σ') r := by
  refine CtI.of (cc := cX5_keepStanding) (maxL := 4) (ret := (some .int)) (by decide) rfl (Nat.le_of_ble_eq_true rfl) ?_
  intro p e s m below meth c ls hC hP hD hl
  obtain ⟨q, hq, hr1⟩ := Option.bind_eq_some_iff.mp hF
  obtain ⟨n, hn⟩ := finL_some hq
  exact wk_X5_keepStanding hC hr1 n 0 _ _ ls _ _ hn (Or.inl ⟨rfl, _, rfl, hl⟩) hP hD va_S.rf
abbrev ts_X5_costAt : List Cond := .code yX5_costAt cX5_costAt 2 (some .int) :: wsL_law
set_option maxHeartbeats 4000000 in
set_option maxRecDepth 100000 in
theorem c_X5_costAt (l : Launch) (D : va_G) (cyI cyZ : ClassId) (a : Nat → Nat) (A : Nat → Prop) (σ : Mem) (x1 : Int32) (r : Int32) (hF : F_X5_costAt σ x1 = some r) : CtI l yX5_costAt ts_X5_costAt ({ frames := 0, cells := 0, slots := 0, locals := 0 } : Room) [.ref (a 16), .int x1] D cyI cyZ A (wC cyI cyZ a σ) (wC cyI cyZ a σ) r := by
  refine CtI.of (cc := cX5_costAt) (maxL := 2) (ret := (some .int)) (by decide) rfl (Nat.le_of_ble_eq_true rfl) ?_
  intro p e s m below meth c ls hC hP hD hl
  obtain ⟨hx, hb, hr, hml, hown, hts, hK, hN, hlocks⟩ := hC
  have hown : s.vm.findClass RX5 = some m.cls := hown
  have hS : va_S A s.heap s.heap [] := va_S.rf
  have hl : lv_has ls 2 [(0, .ref (a 16)), (1, .int x1)] := hl
  unfold F_X5_costAt at hF
  refine lv_aload_n hx hb dX5_costAt_0 rfl (lv_at hl 0 rfl) ?_
  refine va_get (D := D) (ci := 5) (v := .ref (a (kx σ))) (C := RX5) (T := TX5) (N := 11) hx hb hts inlX5 hown hK hP 16 gC_16 rfl 7 (by decide) (hts _ mw_76) (fun _ h9 => h9) rfl dX5_costAt_1 ?_
  refine lv_iload_n hx hb dX5_costAt_4 rfl (lv_at hl 1 rfl) ?_
  obtain ⟨v1, e2, hF⟩ := Option.bind_eq_some_iff.mp hF
  refine z_ild hx hb hK hP (kx σ) gC_K e2 dX5_costAt_5 ?_
  refine lv_bipush (v := (16 : Int32)) hx hb dX5_costAt_6 (by decide) ?_
  refine lv_ishr hx hb dX5_costAt_8 ?_
  cases hF
  exact z_iret hx hb hr hlocks hK hP hD hS dX5_costAt_9
