-- X8_found X8_isDistance X8_answers X8_back X8_agree X8_take X8_why X8_count X9_within X9_isTable X9_isColumn X9_isCell
abbrev ts_X8_found : List Cond := .code yX8_found cX8_found 6 (some .int) :: wsL_law
def SH_X8_found (a : Nat → Nat) (ls : Array Slot) (pc : Nat) (vs : List Int32) : Prop := (pc = 0 ∧ ∃ x1 x2 : Int32, vs = [x1, x2] ∧ lv_has ls 6 [(0, .ref (a 0)), (1, .int x1), (2, .int x2)]) ∨ (pc = 39 ∧ ∃ x3 x4 x5 : Int32, vs = [x3, x4, x5] ∧ lv_has ls 6 [(3, .int x3), (4, .int x4), (5, .int x5)])
section
variable {p : Program} {l : Launch} {e : Env} {s : State} {m : MethodId} {args : Array Value} {below : List Frame} {meth : Method} {c : Code} {D : va_G} {A : Nat → Prop} {a : Nat → Nat} {cyI cyZ : ClassId} {r : Int32} {σ' : Mem} {q : Mem × List Int32}
set_option maxHeartbeats 4000000 in
set_option maxRecDepth 100000 in
theorem wl_X8_found_0 (σ : Mem) (hC : CX p c cX8_found meth (some .int) s m args yX8_found.cls 6 D cyI cyZ) (hq : extM q = some (r, σ')) (n : Nat) (ih : ∀ (pc : Nat) (x : Mem) (vs : List Int32) (ls : Array Slot) (H : Heap) (locs : List Loc), goL B_X8_found n pc x vs = some q → SH_X8_found a ls pc vs → va_P D vwCl (wC cyI cyZ a x) H → va_D A (wC cyI cyZ a x) → va_S A s.heap H locs → W p l e (headSpec ts_X8_found ({ frames := 6, cells := 0, slots := 0, locals := 137 } : Room)).room s m args below meth c H locs 0 0 (MQ below (QcI D cyI cyZ A (wC cyI cyZ a σ') r) args s 0 0 A) (F0 m pc ls [])) (x1 : Int32) (x2 : Int32) (ls : Array Slot) (H : Heap) (locs : List Loc) (hgo : goL B_X8_found (n + 1) 0 σ [x1, x2] = some q) (hl : lv_has ls 6 [(0, .ref (a 0)), (1, .int x1), (2, .int x2)]) (hP : va_P D vwCl (wC cyI cyZ a σ) H) (hD : va_D A (wC cyI cyZ a σ)) (hS : va_S A s.heap H locs) : W p l e (headSpec ts_X8_found ({ frames := 6, cells := 0, slots := 0, locals := 137 } : Room)).room s m args below meth c H locs 0 0 (MQ below (QcI D cyI cyZ A (wC cyI cyZ a σ') r) args s 0 0 A) (F0 m 0 ls []) := by
  obtain ⟨hx, hb, hr, hml, hown, hts, hK, hN, hlocks⟩ := hC
  have hown : s.vm.findClass RX8 = some m.cls := hown
  obtain ⟨yy, hF, hgo⟩ := goL_step (by decide) hgo
  have hF : B_X8_found_0 σ x1 x2 = some yy := hF
  unfold B_X8_found_0 at hF
  refine lv_aload_n hx hb dX8_found_0 rfl (lv_at hl 0 rfl) ?_
  refine va_get (D := D) (ci := 8) (v := .ref (a 16)) (C := RX8) (T := TX8) (N := 6) hx hb hts inlX8 hown hK hP 0 gC_0 rfl 3 (by decide) (hts _ mw_27) (fun _ h9 => h9) rfl dX8_found_1 ?_
  refine lv_iload_n hx hb dX8_found_4 rfl (lv_at hl 1 rfl) ?_
  obtain ⟨p1, e2, hF⟩ := Option.bind_eq_some_iff.mp hF
  refine z_callVI (w' := (wC cyI cyZ a p1.2)) (As := [.int x1]) (rest := []) ⟨hx, hb, hml, hown, hts⟩ (c_X5_has l D cyI cyZ a A σ x1 p1.1 p1.2 e2) (cwV 1 hts (gd_V mw_566 mw_567 mw_568 mw_26 mw_569) rfl rfl rfl (by decide +kernel) ⟨Nat.le_of_ble_eq_true rfl, Nat.le_of_ble_eq_true rfl⟩) hK hN hP hD hS 5 16 rfl rfl gC_16 rfl hl.1 rfl (Nat.le_of_ble_eq_true rfl) dX8_found_5 ⟨Nat.zero_le _, Nat.zero_le _⟩ (fun H locs hP hD hS => ?_)
  refine lv_if_eq (tgt := 15) hx hb dX8_found_8 (by decide) (fun c3 => ?_) (fun c3 => ?_)
  · rw [if_pos c3] at hF
    refine lv_iconst (v := (-1 : Int32)) hx hb dX8_found_15 (by decide) ?_
    cases hF
    obtain ⟨rfl, rfl⟩ := extM_ret hq (goL_ret hgo)
    exact z_iret hx hb hr hlocks hK hP hD hS dX8_found_16
  · rw [if_neg c3] at hF
    refine lv_iload_n hx hb dX8_found_11 rfl (lv_at hl 2 rfl) ?_
    refine lv_if_ge (tgt := 17) hx hb dX8_found_12 (by decide) (fun c4 => ?_) (fun c4 => ?_)
    · rw [if_pos c4] at hF
      refine lv_aload_n hx hb dX8_found_17 rfl (lv_at hl 0 rfl) ?_
      refine va_get (D := D) (ci := 8) (v := .ref (a 27)) (C := RX8) (T := TX8) (N := 6) hx hb hts inlX8 hown hK hP 0 gC_0 rfl 4 (by decide) (hts _ mw_31) (fun _ h9 => h9) rfl dX8_found_18 ?_
      refine lv_aload_n hx hb dX8_found_21 rfl (lv_at hl 0 rfl) ?_
      refine va_get (D := D) (ci := 8) (v := .ref (a 16)) (C := RX8) (T := TX8) (N := 6) hx hb hts inlX8 hown hK hP 0 gC_0 rfl 3 (by decide) (hts _ mw_27) (fun _ h9 => h9) rfl dX8_found_22 ?_
      refine lv_iload_n hx hb dX8_found_25 rfl (lv_at hl 1 rfl) ?_
      obtain ⟨σ5, e6, hF⟩ := Option.bind_eq_some_iff.mp hF
      refine z_callVR (w' := (wC cyI cyZ a σ5)) (As := [.int x1]) (rest := [.ref (a 27)]) ⟨hx, hb, hml, hown, hts⟩ (c_X5_formOf l D cyI cyZ a A p1.2 x1 σ5 e6) (cwV 1 hts (gd_V mw_578 mw_579 mw_580 mw_26 mw_581) rfl rfl rfl (by decide +kernel) ⟨Nat.le_of_ble_eq_true rfl, Nat.le_of_ble_eq_true rfl⟩) hK hN hP hD hS 5 16 rfl rfl gC_16 rfl hl.1 rfl (Nat.le_of_ble_eq_true rfl) dX8_found_26 ⟨Nat.zero_le _, Nat.zero_le _⟩ (fun H locs hP hD hS => ?_)
      obtain ⟨p7, e8, hF⟩ := Option.bind_eq_some_iff.mp hF
      refine z_callVI (w' := (wC cyI cyZ a p7.2)) (As := [.ref (a 17)]) (rest := []) ⟨hx, hb, hml, hown, hts⟩ (c_X1_rowsFound l D cyI cyZ a A σ5  p7.1 p7.2 e8) (cwV 1 hts (gd_V mw_599 mw_600 mw_601 mw_30 mw_602) rfl rfl rfl (by decide +kernel) ⟨Nat.le_of_ble_eq_true rfl, Nat.le_of_ble_eq_true rfl⟩) hK hN hP hD hS 1 27 rfl rfl gC_27 rfl hl.1 rfl (Nat.le_of_ble_eq_true rfl) dX8_found_29 ⟨Nat.zero_le _, Nat.zero_le _⟩ (fun H locs hP hD hS => ?_)
      refine lv_istore_n (lv' := [(3, .int p7.1), (0, .ref (a 0)), (1, .int x1), (2, .int x2)]) hx hb dX8_found_32 rfl hl (by decide) rfl (fun ls hl => ?_)
      refine lv_iload_n hx hb dX8_found_33 rfl (lv_at hl 3 rfl) ?_
      refine lv_istore (lv' := [(4, .int x2), (3, .int p7.1), (0, .ref (a 0)), (1, .int x1), (2, .int x2)]) hx hb dX8_found_34 hl (by decide) rfl (fun ls hl => ?_)
      refine lv_iconst (v := (0 : Int32)) hx hb dX8_found_36 (by decide) ?_
      refine lv_istore (lv' := [(5, .int (0 : Int32)), (4, .int x2), (3, .int p7.1), (0, .ref (a 0)), (1, .int x1), (2, .int x2)]) hx hb dX8_found_37 hl (by decide) rfl (fun ls hl => ?_)
      cases hF
      exact ih _ _ _ _ _ _ hgo (Or.inr (⟨rfl, _, _, _, rfl, lv_sub hl [2, 1, 0] rfl⟩)) hP hD hS
    · rw [if_neg c4] at hF
      refine lv_iconst (v := (-1 : Int32)) hx hb dX8_found_15 (by decide) ?_
      cases hF
      obtain ⟨rfl, rfl⟩ := extM_ret hq (goL_ret hgo)
      exact z_iret hx hb hr hlocks hK hP hD hS dX8_found_16
set_option maxHeartbeats 4000000 in
set_option maxRecDepth 100000 in
theorem wl_X8_found_39 (σ : Mem) (hC : CX p c cX8_found meth (some .int) s m args yX8_found.cls 6 D cyI cyZ) (hq : extM q = some (r, σ')) (n : Nat) (ih : ∀ (pc : Nat) (x : Mem) (vs : List Int32) (ls : Array Slot) (H : Heap) (locs : List Loc), goL B_X8_found n pc x vs = some q → SH_X8_found a ls pc vs → va_P D vwCl (wC cyI cyZ a x) H → va_D A (wC cyI cyZ a x) → va_S A s.heap H locs → W p l e (headSpec ts_X8_found ({ frames := 6, cells := 0, slots := 0, locals := 137 } : Room)).room s m args below meth c H locs 0 0 (MQ below (QcI D cyI cyZ A (wC cyI cyZ a σ') r) args s 0 0 A) (F0 m pc ls [])) (x3 : Int32) (x4 : Int32) (x5 : Int32) (ls : Array Slot) (H : Heap) (locs : List Loc) (hgo : goL B_X8_found (n + 1) 39 σ [x3, x4, x5] = some q) (hl : lv_has ls 6 [(3, .int x3), (4, .int x4), (5, .int x5)]) (hP : va_P D vwCl (wC cyI cyZ a σ) H) (hD : va_D A (wC cyI cyZ a σ)) (hS : va_S A s.heap H locs) : W p l e (headSpec ts_X8_found ({ frames := 6, cells := 0, slots := 0, locals := 137 } : Room)).room s m args below meth c H locs 0 0 (MQ below (QcI D cyI cyZ A (wC cyI cyZ a σ') r) args s 0 0 A) (F0 m 39 ls []) := by
  obtain ⟨hx, hb, hr, hml, hown, hts, hK, hN, hlocks⟩ := hC
  have hown : s.vm.findClass RX8 = some m.cls := hown
  obtain ⟨yy, hF, hgo⟩ := goL_step (by decide) hgo
  have hF : B_X8_found_39 σ x3 x4 x5 = some yy := hF
  unfold B_X8_found_39 at hF
  refine lv_iload hx hb dX8_found_39 (lv_at hl 2 rfl) ?_
  refine lv_bipush (v := (20 : Int32)) hx hb dX8_found_41 (by decide) ?_
  refine lv_icmp_ge (tgt := 75) hx hb dX8_found_43 (by decide) (fun c1 => ?_) (fun c1 => ?_)
  · rw [if_pos c1] at hF
    refine lv_iconst (v := (-1 : Int32)) hx hb dX8_found_75 (by decide) ?_
    cases hF
    obtain ⟨rfl, rfl⟩ := extM_ret hq (goL_ret hgo)
    exact z_iret hx hb hr hlocks hK hP hD hS dX8_found_76
  · rw [if_neg c1] at hF
    refine lv_iload_n hx hb dX8_found_46 rfl (lv_at hl 0 rfl) ?_
    refine lv_iload hx hb dX8_found_47 (lv_at hl 2 rfl) ?_
    refine z_callSI (w' := (wC cyI cyZ a σ)) (As := [.int x3, .int x5]) (rest := []) ⟨hx, hb, hml, hown, hts⟩ (c_X8_holdsBit l D cyI cyZ A (wC cyI cyZ a σ) x3 x5 _ rfl) (va_cwS 2 hts (gd_S mw_719 mw_694 mw_2 mw_695) rfl rfl rfl (by decide +kernel) ⟨Nat.le_of_ble_eq_true rfl, Nat.le_of_ble_eq_true rfl⟩) hK hN hP hD hS rfl hl.1 rfl (Nat.le_of_ble_eq_true rfl) dX8_found_49 ⟨Nat.zero_le _, Nat.zero_le _⟩ (fun H locs hP hD hS => ?_)
    refine lv_if_ne (tgt := 58) hx hb dX8_found_52 (by decide) (fun c2 => ?_) (fun c2 => ?_)
    · rw [if_neg c2] at hF
      refine lv_iload hx hb dX8_found_58 (lv_at hl 1 rfl) ?_
      refine lv_if_ne (tgt := 66) hx hb dX8_found_60 (by decide) (fun c3 => ?_) (fun c3 => ?_)
      · rw [if_neg c3] at hF
        refine lv_iinc (v := (x4 + (-1 : Int32))) (lv' := [(4, .int (x4 + (-1 : Int32))), (3, .int x3), (5, .int x5)]) hx hb dX8_found_66 hl (k := 1) rfl rfl (by decide) rfl (fun ls hl => ?_)
        refine lv_iinc (v := (x5 + (1 : Int32))) (lv' := [(5, .int (x5 + (1 : Int32))), (4, .int (x4 + (-1 : Int32))), (3, .int x3)]) hx hb dX8_found_69 hl (k := 2) rfl rfl (by decide) rfl (fun ls hl => ?_)
        refine lv_goto (tgt := 39) hx hb dX8_found_72 (by decide) ?_
        cases hF
        exact ih _ _ _ _ _ _ hgo (Or.inr (⟨rfl, _, _, _, rfl, lv_sub hl [2, 1, 0] rfl⟩)) hP hD hS
      · rw [if_pos c3] at hF
        refine lv_iload hx hb dX8_found_63 (lv_at hl 2 rfl) ?_
        cases hF
        obtain ⟨rfl, rfl⟩ := extM_ret hq (goL_ret hgo)
        exact z_iret hx hb hr hlocks hK hP hD hS dX8_found_65
    · rw [if_pos c2] at hF
      refine lv_goto (tgt := 69) hx hb dX8_found_55 (by decide) ?_
      refine lv_iinc (v := (x5 + (1 : Int32))) (lv' := [(5, .int (x5 + (1 : Int32))), (3, .int x3), (4, .int x4)]) hx hb dX8_found_69 hl (k := 2) rfl rfl (by decide) rfl (fun ls hl => ?_)
      refine lv_goto (tgt := 39) hx hb dX8_found_72 (by decide) ?_
      cases hF
      exact ih _ _ _ _ _ _ hgo (Or.inr (⟨rfl, _, _, _, rfl, lv_sub hl [1, 2, 0] rfl⟩)) hP hD hS
theorem wk_X8_found (hC : CX p c cX8_found meth (some .int) s m args yX8_found.cls 6 D cyI cyZ) (hq : extM q = some (r, σ')) : ∀ (n : Nat), ∀ (pc : Nat) (x : Mem) (vs : List Int32) (ls : Array Slot) (H : Heap) (locs : List Loc), goL B_X8_found n pc x vs = some q → SH_X8_found a ls pc vs → va_P D vwCl (wC cyI cyZ a x) H → va_D A (wC cyI cyZ a x) → va_S A s.heap H locs → W p l e (headSpec ts_X8_found ({ frames := 6, cells := 0, slots := 0, locals := 137 } : Room)).room s m args below meth c H locs 0 0 (MQ below (QcI D cyI cyZ A (wC cyI cyZ a σ') r) args s 0 0 A) (F0 m pc ls []) := by
  intro n
  induction n with
  | zero => intro pc x vs ls H locs h; exact absurd h (by simp [goL])
  | succ n ih =>
    intro pc x vs ls H locs hgo hsh hP hD hS
    rcases hsh with ⟨rfl, x1, x2, rfl, hl⟩ | ⟨rfl, x3, x4, x5, rfl, hl⟩
    · exact wl_X8_found_0 x hC hq n ih x1 x2 ls H locs hgo hl hP hD hS
    · exact wl_X8_found_39 x hC hq n ih x3 x4 x5 ls H locs hgo hl hP hD hS
end
theorem c_X8_found (l : Launch) (D : va_G) (cyI cyZ : ClassId) (a : Nat → Nat) (A : Nat → Prop) (σ : Mem) (x1 : Int32) (x2 : Int32) (r : Int32) (σ' : Mem) (hF : F_X8_found σ x1 x2 = some (r, σ')) : CtI l yX8_found ts_X8_found ({ frames := 6, cells := 0, slots := 0, locals := 137 } : Room) [.ref (a 0), .int x1, .int x2] D cyI cyZ A (wC cyI cyZ a σ) (wC cyI cyZ a σ') r := by
  refine CtI.of (cc := cX8_found) (maxL := 6) (ret := (some .int)) (by decide) rfl (Nat.le_of_ble_eq_true rfl) ?_
  intro p e s m below meth c ls hC hP hD hl
  obtain ⟨q, hq, hr1⟩ := Option.bind_eq_some_iff.mp hF
  obtain ⟨n, hn⟩ := finL_some hq
  exact wk_X8_found hC hr1 n 0 _ _ ls _ _ hn (Or.inl ⟨rfl, _, _, rfl, hl⟩) hP hD va_S.rf
abbrev ts_X8_isDistance : List Cond := .code yX8_isDistance cX8_isDistance 1 (some .boolean) :: wsL_law
set_option maxHeartbeats 4000000 in
set_option maxRecDepth 100000 in
theorem c_X8_isDistance (l : Launch) (D : va_G) (cyI cyZ : ClassId) (A : Nat → Prop) (w : va_W) (x0 : Int32) (r : Int32) (hF : F_X8_isDistance x0 = r) : CtI l yX8_isDistance ts_X8_isDistance ({ frames := 0, cells := 0, slots := 0, locals := 0 } : Room) [.int x0] D cyI cyZ A w w r := by
  refine CtI.of (cc := cX8_isDistance) (maxL := 1) (ret := (some .boolean)) (by decide) rfl (Nat.le_of_ble_eq_true rfl) ?_
  intro p e s m below meth c ls hC hP hD hl
  obtain ⟨hx, hb, hr, hml, hown, hts, hK, hN, hlocks⟩ := hC
  have hown : s.vm.findClass RX8 = some m.cls := hown
  have hS : va_S A s.heap s.heap [] := va_S.rf
  have hl : lv_has ls 1 [(0, .int x0)] := hl
  unfold F_X8_isDistance at hF
  refine lv_iload_n hx hb dX8_isDistance_0 rfl (lv_at hl 0 rfl) ?_
  refine lv_if_lt (tgt := 15) hx hb dX8_isDistance_1 (by decide) (fun c1 => ?_) (fun c1 => ?_)
  · rw [if_pos c1] at hF
    refine lv_iconst (v := (0 : Int32)) hx hb dX8_isDistance_15 (by decide) ?_
    subst hF
    exact z_zret hx hb hr hlocks hK hP hD hS rfl dX8_isDistance_16
  · rw [if_neg c1] at hF
    refine lv_iload_n hx hb dX8_isDistance_4 rfl (lv_at hl 0 rfl) ?_
    refine lv_sipush (v := (1000 : Int32)) hx hb dX8_isDistance_5 (by decide) ?_
    refine lv_icmp_gt (tgt := 15) hx hb dX8_isDistance_8 (by decide) (fun c2 => ?_) (fun c2 => ?_)
    · rw [if_pos c2] at hF
      refine lv_iconst (v := (0 : Int32)) hx hb dX8_isDistance_15 (by decide) ?_
      subst hF
      exact z_zret hx hb hr hlocks hK hP hD hS rfl dX8_isDistance_16
    · rw [if_neg c2] at hF
      refine lv_iconst (v := (1 : Int32)) hx hb dX8_isDistance_11 (by decide) ?_
      refine lv_goto (tgt := 16) hx hb dX8_isDistance_12 (by decide) ?_
      subst hF
      exact z_zret hx hb hr hlocks hK hP hD hS rfl dX8_isDistance_16
abbrev ts_X8_answers : List Cond := .code yX8_answers cX8_answers 3 (some .int) :: wsL_law
set_option maxHeartbeats 4000000 in
set_option maxRecDepth 100000 in
theorem c_X8_answers (l : Launch) (D : va_G) (cyI cyZ : ClassId) (a : Nat → Nat) (A : Nat → Prop) (σ : Mem) (x1 : Int32) (r : Int32) (σ' : Mem) (hF : F_X8_answers σ x1 = some (r, σ')) : CtI l yX8_answers ts_X8_answers ({ frames := 6, cells := 0, slots := 0, locals := 144 } : Room) [.ref (a 0), .int x1] D cyI cyZ A (wC cyI cyZ a σ) (wC cyI cyZ a σ') r := by
  refine CtI.of (cc := cX8_answers) (maxL := 3) (ret := (some .int)) (by decide) rfl (Nat.le_of_ble_eq_true rfl) ?_
  intro p e s m below meth c ls hC hP hD hl
  obtain ⟨hx, hb, hr, hml, hown, hts, hK, hN, hlocks⟩ := hC
  have hown : s.vm.findClass RX8 = some m.cls := hown
  have hS : va_S A s.heap s.heap [] := va_S.rf
  have hl : lv_has ls 3 [(0, .ref (a 0)), (1, .int x1)] := hl
  unfold F_X8_answers at hF
  refine lv_iload_n hx hb dX8_answers_0 rfl (lv_at hl 1 rfl) ?_
  refine z_callSI (w' := (wC cyI cyZ a σ)) (As := [.int x1]) (rest := []) ⟨hx, hb, hml, hown, hts⟩ (c_X8_isDistance l D cyI cyZ A (wC cyI cyZ a σ) x1 _ rfl) (va_cwS 1 hts (gd_S mw_728 mw_729 mw_2 mw_730) rfl rfl rfl (by decide +kernel) ⟨Nat.le_of_ble_eq_true rfl, Nat.le_of_ble_eq_true rfl⟩) hK hN hP hD hS rfl hl.1 rfl (Nat.le_of_ble_eq_true rfl) dX8_answers_1 ⟨Nat.zero_le _, Nat.zero_le _⟩ (fun H locs hP hD hS => ?_)
  refine lv_if_ne (tgt := 9) hx hb dX8_answers_4 (by decide) (fun c1 => ?_) (fun c1 => ?_)
  · rw [if_neg c1] at hF
    refine lv_aload_n hx hb dX8_answers_9 rfl (lv_at hl 0 rfl) ?_
    refine va_get (D := D) (ci := 8) (v := .ref (a 16)) (C := RX8) (T := TX8) (N := 6) hx hb hts inlX8 hown hK hP 0 gC_0 rfl 3 (by decide) (hts _ mw_27) (fun _ h9 => h9) rfl dX8_answers_10 ?_
    refine lv_iload_n hx hb dX8_answers_13 rfl (lv_at hl 1 rfl) ?_
    obtain ⟨p2, e3, hF⟩ := Option.bind_eq_some_iff.mp hF
    refine z_callVI (w' := (wC cyI cyZ a p2.2)) (As := [.int x1]) (rest := []) ⟨hx, hb, hml, hown, hts⟩ (c_X5_near l D cyI cyZ a A σ x1 p2.1 p2.2 e3) (cwV 1 hts (gd_V mw_731 mw_732 mw_733 mw_26 mw_734) rfl rfl rfl (by decide +kernel) ⟨Nat.le_of_ble_eq_true rfl, Nat.le_of_ble_eq_true rfl⟩) hK hN hP hD hS 5 16 rfl rfl gC_16 rfl hl.1 rfl (Nat.le_of_ble_eq_true rfl) dX8_answers_14 ⟨Nat.zero_le _, Nat.zero_le _⟩ (fun H locs hP hD hS => ?_)
    refine lv_istore_n (lv' := [(2, .int p2.1), (0, .ref (a 0)), (1, .int x1)]) hx hb dX8_answers_17 rfl hl (by decide) rfl (fun ls hl => ?_)
    refine lv_aload_n hx hb dX8_answers_18 rfl (lv_at hl 1 rfl) ?_
    refine va_get (D := D) (ci := 8) (v := .ref (a 29)) (C := RX8) (T := TX8) (N := 6) hx hb hts inlX8 hown hK hP 0 gC_0 rfl 5 (by decide) (hts _ mw_35) (fun _ h9 => h9) rfl dX8_answers_19 ?_
    refine lv_iload_n hx hb dX8_answers_22 rfl (lv_at hl 0 rfl) ?_
    obtain ⟨σ4, e5, hF⟩ := Option.bind_eq_some_iff.mp hF
    refine z_callVV (w' := (wC cyI cyZ a σ4)) (As := [.int p2.1]) (rest := []) ⟨hx, hb, hml, hown, hts⟩ (c_X0_learnAnswers l D cyI cyZ a A p2.2 p2.1 σ4 e5) (cwV 1 hts (gd_V mw_735 mw_736 mw_737 mw_34 mw_738) rfl rfl rfl (by decide +kernel) ⟨Nat.le_of_ble_eq_true rfl, Nat.le_of_ble_eq_true rfl⟩) hK hN hP hD hS 0 29 rfl rfl gC_29 rfl hl.1 rfl (Nat.le_of_ble_eq_true rfl) dX8_answers_23 ⟨Nat.zero_le _, Nat.zero_le _⟩ (fun H locs hP hD hS => ?_)
    refine lv_aload_n hx hb dX8_answers_26 rfl (lv_at hl 1 rfl) ?_
    refine va_get (D := D) (ci := 8) (v := .ref (a 29)) (C := RX8) (T := TX8) (N := 6) hx hb hts inlX8 hown hK hP 0 gC_0 rfl 5 (by decide) (hts _ mw_35) (fun _ h9 => h9) rfl dX8_answers_27 ?_
    refine lv_iload_n hx hb dX8_answers_30 rfl (lv_at hl 0 rfl) ?_
    obtain ⟨p6, e7, hF⟩ := Option.bind_eq_some_iff.mp hF
    refine z_callVI (w' := (wC cyI cyZ a p6.2)) (As := [.int p2.1]) (rest := []) ⟨hx, hb, hml, hown, hts⟩ (c_X0_unlikeAnswers l D cyI cyZ a A σ4 p2.1 p6.1 p6.2 e7) (cwV 1 hts (gd_V mw_741 mw_742 mw_743 mw_34 mw_744) rfl rfl rfl (by decide +kernel) ⟨Nat.le_of_ble_eq_true rfl, Nat.le_of_ble_eq_true rfl⟩) hK hN hP hD hS 0 29 rfl rfl gC_29 rfl hl.1 rfl (Nat.le_of_ble_eq_true rfl) dX8_answers_31 ⟨Nat.zero_le _, Nat.zero_le _⟩ (fun H locs hP hD hS => ?_)
    cases hF
    exact z_iret hx hb hr hlocks hK hP hD hS dX8_answers_34
  · rw [if_pos c1] at hF
    refine lv_iconst (v := (-1 : Int32)) hx hb dX8_answers_7 (by decide) ?_
    cases hF
    exact z_iret hx hb hr hlocks hK hP hD hS dX8_answers_8
abbrev ts_X8_back : List Cond := .code yX8_back cX8_back 3 (some .int) :: wsL_law
set_option maxHeartbeats 4000000 in
set_option maxRecDepth 100000 in
theorem c_X8_back (l : Launch) (D : va_G) (cyI cyZ : ClassId) (a : Nat → Nat) (A : Nat → Prop) (σ : Mem) (x1 : Int32) (r : Int32) (σ' : Mem) (hF : F_X8_back σ x1 = some (r, σ')) : CtI l yX8_back ts_X8_back ({ frames := 6, cells := 0, slots := 0, locals := 144 } : Room) [.ref (a 0), .int x1] D cyI cyZ A (wC cyI cyZ a σ) (wC cyI cyZ a σ') r := by
  refine CtI.of (cc := cX8_back) (maxL := 3) (ret := (some .int)) (by decide) rfl (Nat.le_of_ble_eq_true rfl) ?_
  intro p e s m below meth c ls hC hP hD hl
  obtain ⟨hx, hb, hr, hml, hown, hts, hK, hN, hlocks⟩ := hC
  have hown : s.vm.findClass RX8 = some m.cls := hown
  have hS : va_S A s.heap s.heap [] := va_S.rf
  have hl : lv_has ls 3 [(0, .ref (a 0)), (1, .int x1)] := hl
  unfold F_X8_back at hF
  refine lv_iload_n hx hb dX8_back_0 rfl (lv_at hl 1 rfl) ?_
  refine z_callSI (w' := (wC cyI cyZ a σ)) (As := [.int x1]) (rest := []) ⟨hx, hb, hml, hown, hts⟩ (c_X8_isDistance l D cyI cyZ A (wC cyI cyZ a σ) x1 _ rfl) (va_cwS 1 hts (gd_S mw_728 mw_729 mw_2 mw_730) rfl rfl rfl (by decide +kernel) ⟨Nat.le_of_ble_eq_true rfl, Nat.le_of_ble_eq_true rfl⟩) hK hN hP hD hS rfl hl.1 rfl (Nat.le_of_ble_eq_true rfl) dX8_back_1 ⟨Nat.zero_le _, Nat.zero_le _⟩ (fun H locs hP hD hS => ?_)
  refine lv_if_ne (tgt := 9) hx hb dX8_back_4 (by decide) (fun c1 => ?_) (fun c1 => ?_)
  · rw [if_neg c1] at hF
    refine lv_aload_n hx hb dX8_back_9 rfl (lv_at hl 0 rfl) ?_
    refine va_get (D := D) (ci := 8) (v := .ref (a 16)) (C := RX8) (T := TX8) (N := 6) hx hb hts inlX8 hown hK hP 0 gC_0 rfl 3 (by decide) (hts _ mw_27) (fun _ h9 => h9) rfl dX8_back_10 ?_
    refine lv_iload_n hx hb dX8_back_13 rfl (lv_at hl 1 rfl) ?_
    obtain ⟨p2, e3, hF⟩ := Option.bind_eq_some_iff.mp hF
    refine z_callVI (w' := (wC cyI cyZ a p2.2)) (As := [.int x1]) (rest := []) ⟨hx, hb, hml, hown, hts⟩ (c_X5_near l D cyI cyZ a A σ x1 p2.1 p2.2 e3) (cwV 1 hts (gd_V mw_731 mw_732 mw_733 mw_26 mw_734) rfl rfl rfl (by decide +kernel) ⟨Nat.le_of_ble_eq_true rfl, Nat.le_of_ble_eq_true rfl⟩) hK hN hP hD hS 5 16 rfl rfl gC_16 rfl hl.1 rfl (Nat.le_of_ble_eq_true rfl) dX8_back_14 ⟨Nat.zero_le _, Nat.zero_le _⟩ (fun H locs hP hD hS => ?_)
    refine lv_istore_n (lv' := [(2, .int p2.1), (0, .ref (a 0)), (1, .int x1)]) hx hb dX8_back_17 rfl hl (by decide) rfl (fun ls hl => ?_)
    refine lv_aload_n hx hb dX8_back_18 rfl (lv_at hl 1 rfl) ?_
    refine va_get (D := D) (ci := 8) (v := .ref (a 29)) (C := RX8) (T := TX8) (N := 6) hx hb hts inlX8 hown hK hP 0 gC_0 rfl 5 (by decide) (hts _ mw_35) (fun _ h9 => h9) rfl dX8_back_19 ?_
    refine lv_iload_n hx hb dX8_back_22 rfl (lv_at hl 0 rfl) ?_
    obtain ⟨σ4, e5, hF⟩ := Option.bind_eq_some_iff.mp hF
    refine z_callVV (w' := (wC cyI cyZ a σ4)) (As := [.int p2.1]) (rest := []) ⟨hx, hb, hml, hown, hts⟩ (c_X0_learnAnswers l D cyI cyZ a A p2.2 p2.1 σ4 e5) (cwV 1 hts (gd_V mw_735 mw_736 mw_737 mw_34 mw_738) rfl rfl rfl (by decide +kernel) ⟨Nat.le_of_ble_eq_true rfl, Nat.le_of_ble_eq_true rfl⟩) hK hN hP hD hS 0 29 rfl rfl gC_29 rfl hl.1 rfl (Nat.le_of_ble_eq_true rfl) dX8_back_23 ⟨Nat.zero_le _, Nat.zero_le _⟩ (fun H locs hP hD hS => ?_)
    refine lv_aload_n hx hb dX8_back_26 rfl (lv_at hl 1 rfl) ?_
    refine va_get (D := D) (ci := 8) (v := .ref (a 29)) (C := RX8) (T := TX8) (N := 6) hx hb hts inlX8 hown hK hP 0 gC_0 rfl 5 (by decide) (hts _ mw_35) (fun _ h9 => h9) rfl dX8_back_27 ?_
    refine lv_iload_n hx hb dX8_back_30 rfl (lv_at hl 0 rfl) ?_
    obtain ⟨p6, e7, hF⟩ := Option.bind_eq_some_iff.mp hF
    refine z_callVI (w' := (wC cyI cyZ a p6.2)) (As := [.int p2.1]) (rest := []) ⟨hx, hb, hml, hown, hts⟩ (c_X0_placeToAsk l D cyI cyZ a A σ4 p2.1 p6.1 p6.2 e7) (cwV 1 hts (gd_V mw_781 mw_782 mw_783 mw_34 mw_784) rfl rfl rfl (by decide +kernel) ⟨Nat.le_of_ble_eq_true rfl, Nat.le_of_ble_eq_true rfl⟩) hK hN hP hD hS 0 29 rfl rfl gC_29 rfl hl.1 rfl (Nat.le_of_ble_eq_true rfl) dX8_back_31 ⟨Nat.zero_le _, Nat.zero_le _⟩ (fun H locs hP hD hS => ?_)
    cases hF
    exact z_iret hx hb hr hlocks hK hP hD hS dX8_back_34
  · rw [if_pos c1] at hF
    refine lv_iconst (v := (-1 : Int32)) hx hb dX8_back_7 (by decide) ?_
    cases hF
    exact z_iret hx hb hr hlocks hK hP hD hS dX8_back_8
abbrev ts_X8_agree : List Cond := .code yX8_agree cX8_agree 7 (some .int) :: wsL_law
def SH_X8_agree (a : Nat → Nat) (ls : Array Slot) (pc : Nat) (vs : List Int32) : Prop := (pc = 0 ∧ ∃ x1 x2 x3 : Int32, vs = [x1, x2, x3] ∧ lv_has ls 7 [(0, .ref (a 0)), (1, .int x1), (2, .int x2), (3, .int x3)]) ∨ (pc = 47 ∧ ∃ x2 x3 x4 x5 x6 : Int32, vs = [x2, x3, x4, x5, x6] ∧ lv_has ls 7 [(0, .ref (a 0)), (2, .int x2), (3, .int x3), (4, .int x4), (5, .int x5), (6, .int x6)])
section
variable {p : Program} {l : Launch} {e : Env} {s : State} {m : MethodId} {args : Array Value} {below : List Frame} {meth : Method} {c : Code} {D : va_G} {A : Nat → Prop} {a : Nat → Nat} {cyI cyZ : ClassId} {r : Int32} {σ' : Mem} {q : Mem × List Int32}
set_option maxHeartbeats 4000000 in
set_option maxRecDepth 100000 in
theorem wl_X8_agree_0 (σ : Mem) (hC : CX p c cX8_agree meth (some .int) s m args yX8_agree.cls 7 D cyI cyZ) (hq : extM q = some (r, σ')) (n : Nat) (ih : ∀ (pc : Nat) (x : Mem) (vs : List Int32) (ls : Array Slot) (H : Heap) (locs : List Loc), goL B_X8_agree n pc x vs = some q → SH_X8_agree a ls pc vs → va_P D vwCl (wC cyI cyZ a x) H → va_D A (wC cyI cyZ a x) → va_S A s.heap H locs → W p l e (headSpec ts_X8_agree ({ frames := 6, cells := 0, slots := 0, locals := 138 } : Room)).room s m args below meth c H locs 0 0 (MQ below (QcI D cyI cyZ A (wC cyI cyZ a σ') r) args s 0 0 A) (F0 m pc ls [])) (x1 : Int32) (x2 : Int32) (x3 : Int32) (ls : Array Slot) (H : Heap) (locs : List Loc) (hgo : goL B_X8_agree (n + 1) 0 σ [x1, x2, x3] = some q) (hl : lv_has ls 7 [(0, .ref (a 0)), (1, .int x1), (2, .int x2), (3, .int x3)]) (hP : va_P D vwCl (wC cyI cyZ a σ) H) (hD : va_D A (wC cyI cyZ a σ)) (hS : va_S A s.heap H locs) : W p l e (headSpec ts_X8_agree ({ frames := 6, cells := 0, slots := 0, locals := 138 } : Room)).room s m args below meth c H locs 0 0 (MQ below (QcI D cyI cyZ A (wC cyI cyZ a σ') r) args s 0 0 A) (F0 m 0 ls []) := by
  obtain ⟨hx, hb, hr, hml, hown, hts, hK, hN, hlocks⟩ := hC
  have hown : s.vm.findClass RX8 = some m.cls := hown
  obtain ⟨yy, hF, hgo⟩ := goL_step (by decide) hgo
  have hF : B_X8_agree_0 σ x1 x2 x3 = some yy := hF
  unfold B_X8_agree_0 at hF
  refine lv_iload_n hx hb dX8_agree_0 rfl (lv_at hl 1 rfl) ?_
  refine z_callSI (w' := (wC cyI cyZ a σ)) (As := [.int x1]) (rest := []) ⟨hx, hb, hml, hown, hts⟩ (c_X8_isDistance l D cyI cyZ A (wC cyI cyZ a σ) x1 _ rfl) (va_cwS 1 hts (gd_S mw_728 mw_729 mw_2 mw_730) rfl rfl rfl (by decide +kernel) ⟨Nat.le_of_ble_eq_true rfl, Nat.le_of_ble_eq_true rfl⟩) hK hN hP hD hS rfl hl.1 rfl (Nat.le_of_ble_eq_true rfl) dX8_agree_1 ⟨Nat.zero_le _, Nat.zero_le _⟩ (fun H locs hP hD hS => ?_)
  refine lv_if_eq (tgt := 29) hx hb dX8_agree_4 (by decide) (fun c1 => ?_) (fun c1 => ?_)
  · rw [if_pos c1] at hF
    refine lv_iconst (v := (-1 : Int32)) hx hb dX8_agree_29 (by decide) ?_
    cases hF
    obtain ⟨rfl, rfl⟩ := extM_ret hq (goL_ret hgo)
    exact z_iret hx hb hr hlocks hK hP hD hS dX8_agree_30
  · rw [if_neg c1] at hF
    refine lv_aload_n hx hb dX8_agree_7 rfl (lv_at hl 0 rfl) ?_
    refine va_get (D := D) (ci := 8) (v := .ref (a 13)) (C := RX8) (T := TX8) (N := 6) hx hb hts inlX8 hown hK hP 0 gC_0 rfl 2 (by decide) (hts _ mw_23) (fun _ h9 => h9) rfl dX8_agree_8 ?_
    refine lv_iload_n hx hb dX8_agree_11 rfl (lv_at hl 2 rfl) ?_
    refine z_callVI (w' := (wC cyI cyZ a σ)) (As := [.int x2]) (rest := []) ⟨hx, hb, hml, hown, hts⟩ (c_X3_has l D cyI cyZ a A σ x2 _ rfl) (cwV 1 hts (gd_V mw_570 mw_571 mw_572 mw_22 mw_573) rfl rfl rfl (by decide +kernel) ⟨Nat.le_of_ble_eq_true rfl, Nat.le_of_ble_eq_true rfl⟩) hK hN hP hD hS 3 13 rfl rfl gC_13 rfl hl.1 rfl (Nat.le_of_ble_eq_true rfl) dX8_agree_12 ⟨Nat.zero_le _, Nat.zero_le _⟩ (fun H locs hP hD hS => ?_)
    refine lv_if_eq (tgt := 29) hx hb dX8_agree_15 (by decide) (fun c2 => ?_) (fun c2 => ?_)
    · rw [if_pos c2] at hF
      refine lv_iconst (v := (-1 : Int32)) hx hb dX8_agree_29 (by decide) ?_
      cases hF
      obtain ⟨rfl, rfl⟩ := extM_ret hq (goL_ret hgo)
      exact z_iret hx hb hr hlocks hK hP hD hS dX8_agree_30
    · rw [if_neg c2] at hF
      refine lv_aload_n hx hb dX8_agree_18 rfl (lv_at hl 0 rfl) ?_
      refine va_get (D := D) (ci := 8) (v := .ref (a 13)) (C := RX8) (T := TX8) (N := 6) hx hb hts inlX8 hown hK hP 0 gC_0 rfl 2 (by decide) (hts _ mw_23) (fun _ h9 => h9) rfl dX8_agree_19 ?_
      refine lv_iload_n hx hb dX8_agree_22 rfl (lv_at hl 2 rfl) ?_
      obtain ⟨v3, e4, hF⟩ := Option.bind_eq_some_iff.mp hF
      refine z_callVI (w' := (wC cyI cyZ a σ)) (As := [.int x2]) (rest := []) ⟨hx, hb, hml, hown, hts⟩ (c_X3_isNumber l D cyI cyZ a A σ x2 _ e4) (cwV 1 hts (gd_V mw_804 mw_404 mw_405 mw_22 mw_406) rfl rfl rfl (by decide +kernel) ⟨Nat.le_of_ble_eq_true rfl, Nat.le_of_ble_eq_true rfl⟩) hK hN hP hD hS 3 13 rfl rfl gC_13 rfl hl.1 rfl (Nat.le_of_ble_eq_true rfl) dX8_agree_23 ⟨Nat.zero_le _, Nat.zero_le _⟩ (fun H locs hP hD hS => ?_)
      refine lv_if_eq (tgt := 31) hx hb dX8_agree_26 (by decide) (fun c5 => ?_) (fun c5 => ?_)
      · rw [if_pos c5] at hF
        refine lv_aload_n hx hb dX8_agree_31 rfl (lv_at hl 0 rfl) ?_
        refine va_get (D := D) (ci := 8) (v := .ref (a 16)) (C := RX8) (T := TX8) (N := 6) hx hb hts inlX8 hown hK hP 0 gC_0 rfl 3 (by decide) (hts _ mw_27) (fun _ h9 => h9) rfl dX8_agree_32 ?_
        refine lv_iload_n hx hb dX8_agree_35 rfl (lv_at hl 1 rfl) ?_
        obtain ⟨p6, e7, hF⟩ := Option.bind_eq_some_iff.mp hF
        refine z_callVI (w' := (wC cyI cyZ a p6.2)) (As := [.int x1]) (rest := []) ⟨hx, hb, hml, hown, hts⟩ (c_X5_near l D cyI cyZ a A σ x1 p6.1 p6.2 e7) (cwV 1 hts (gd_V mw_731 mw_732 mw_733 mw_26 mw_734) rfl rfl rfl (by decide +kernel) ⟨Nat.le_of_ble_eq_true rfl, Nat.le_of_ble_eq_true rfl⟩) hK hN hP hD hS 5 16 rfl rfl gC_16 rfl hl.1 rfl (Nat.le_of_ble_eq_true rfl) dX8_agree_36 ⟨Nat.zero_le _, Nat.zero_le _⟩ (fun H locs hP hD hS => ?_)
        refine lv_istore (lv' := [(4, .int p6.1), (0, .ref (a 0)), (1, .int x1), (2, .int x2), (3, .int x3)]) hx hb dX8_agree_39 hl (by decide) rfl (fun ls hl => ?_)
        refine lv_iconst (v := (0 : Int32)) hx hb dX8_agree_41 (by decide) ?_
        refine lv_istore (lv' := [(5, .int (0 : Int32)), (4, .int p6.1), (0, .ref (a 0)), (1, .int x1), (2, .int x2), (3, .int x3)]) hx hb dX8_agree_42 hl (by decide) rfl (fun ls hl => ?_)
        refine lv_iconst (v := (0 : Int32)) hx hb dX8_agree_44 (by decide) ?_
        refine lv_istore (lv' := [(6, .int (0 : Int32)), (5, .int (0 : Int32)), (4, .int p6.1), (0, .ref (a 0)), (1, .int x1), (2, .int x2), (3, .int x3)]) hx hb dX8_agree_45 hl (by decide) rfl (fun ls hl => ?_)
        cases hF
        exact ih _ _ _ _ _ _ hgo (Or.inr (⟨rfl, _, _, _, _, _, rfl, lv_sub hl [3, 5, 6, 2, 1, 0] rfl⟩)) hP hD hS
      · rw [if_neg c5] at hF
        refine lv_iconst (v := (-1 : Int32)) hx hb dX8_agree_29 (by decide) ?_
        cases hF
        obtain ⟨rfl, rfl⟩ := extM_ret hq (goL_ret hgo)
        exact z_iret hx hb hr hlocks hK hP hD hS dX8_agree_30
set_option maxHeartbeats 4000000 in
set_option maxRecDepth 100000 in
theorem wl_X8_agree_47 (σ : Mem) (hC : CX p c cX8_agree meth (some .int) s m args yX8_agree.cls 7 D cyI cyZ) (hq : extM q = some (r, σ')) (n : Nat) (ih : ∀ (pc : Nat) (x : Mem) (vs : List Int32) (ls : Array Slot) (H : Heap) (locs : List Loc), goL B_X8_agree n pc x vs = some q → SH_X8_agree a ls pc vs → va_P D vwCl (wC cyI cyZ a x) H → va_D A (wC cyI cyZ a x) → va_S A s.heap H locs → W p l e (headSpec ts_X8_agree ({ frames := 6, cells := 0, slots := 0, locals := 138 } : Room)).room s m args below meth c H locs 0 0 (MQ below (QcI D cyI cyZ A (wC cyI cyZ a σ') r) args s 0 0 A) (F0 m pc ls [])) (x2 : Int32) (x3 : Int32) (x4 : Int32) (x5 : Int32) (x6 : Int32) (ls : Array Slot) (H : Heap) (locs : List Loc) (hgo : goL B_X8_agree (n + 1) 47 σ [x2, x3, x4, x5, x6] = some q) (hl : lv_has ls 7 [(0, .ref (a 0)), (2, .int x2), (3, .int x3), (4, .int x4), (5, .int x5), (6, .int x6)]) (hP : va_P D vwCl (wC cyI cyZ a σ) H) (hD : va_D A (wC cyI cyZ a σ)) (hS : va_S A s.heap H locs) : W p l e (headSpec ts_X8_agree ({ frames := 6, cells := 0, slots := 0, locals := 138 } : Room)).room s m args below meth c H locs 0 0 (MQ below (QcI D cyI cyZ A (wC cyI cyZ a σ') r) args s 0 0 A) (F0 m 47 ls []) := by
  obtain ⟨hx, hb, hr, hml, hown, hts, hK, hN, hlocks⟩ := hC
  have hown : s.vm.findClass RX8 = some m.cls := hown
  obtain ⟨yy, hF, hgo⟩ := goL_step (by decide) hgo
  have hF : B_X8_agree_47 σ x2 x3 x4 x5 x6 = some yy := hF
  unfold B_X8_agree_47 at hF
  refine lv_iload hx hb dX8_agree_47 (lv_at hl 5 rfl) ?_
  refine lv_iload hx hb dX8_agree_49 (lv_at hl 3 rfl) ?_
  refine lv_icmp_ge (tgt := 77) hx hb dX8_agree_51 (by decide) (fun c1 => ?_) (fun c1 => ?_)
  · rw [if_pos c1] at hF
    refine lv_iload hx hb dX8_agree_77 (lv_at hl 4 rfl) ?_
    cases hF
    obtain ⟨rfl, rfl⟩ := extM_ret hq (goL_ret hgo)
    exact z_iret hx hb hr hlocks hK hP hD hS dX8_agree_79
  · rw [if_neg c1] at hF
    refine lv_aload_n hx hb dX8_agree_54 rfl (lv_at hl 0 rfl) ?_
    refine va_get (D := D) (ci := 8) (v := .ref (a 16)) (C := RX8) (T := TX8) (N := 6) hx hb hts inlX8 hown hK hP 0 gC_0 rfl 3 (by decide) (hts _ mw_27) (fun _ h9 => h9) rfl dX8_agree_55 ?_
    refine lv_iload hx hb dX8_agree_58 (lv_at hl 5 rfl) ?_
    refine lv_iload_n hx hb dX8_agree_60 rfl (lv_at hl 1 rfl) ?_
    obtain ⟨v2, e3, hF⟩ := Option.bind_eq_some_iff.mp hF
    refine z_callVI (w' := (wC cyI cyZ a σ)) (As := [.int x6, .int x2]) (rest := []) ⟨hx, hb, hml, hown, hts⟩ (c_X5_meaningAt l D cyI cyZ a A σ x6 x2 _ e3) (cwV 2 hts (gd_V mw_574 mw_575 mw_576 mw_26 mw_577) rfl rfl rfl (by decide +kernel) ⟨Nat.le_of_ble_eq_true rfl, Nat.le_of_ble_eq_true rfl⟩) hK hN hP hD hS 5 16 rfl rfl gC_16 rfl hl.1 rfl (Nat.le_of_ble_eq_true rfl) dX8_agree_61 ⟨Nat.zero_le _, Nat.zero_le _⟩ (fun H locs hP hD hS => ?_)
    refine lv_iload_n hx hb dX8_agree_64 rfl (lv_at hl 2 rfl) ?_
    refine lv_icmp_ne (tgt := 71) hx hb dX8_agree_65 (by decide) (fun c4 => ?_) (fun c4 => ?_)
    · rw [if_neg c4] at hF
      refine lv_iinc (v := (x6 + (1 : Int32))) (lv' := [(6, .int (x6 + (1 : Int32))), (0, .ref (a 0)), (2, .int x2), (3, .int x3), (4, .int x4), (5, .int x5)]) hx hb dX8_agree_71 hl (k := 5) rfl rfl (by decide) rfl (fun ls hl => ?_)
      refine lv_goto (tgt := 47) hx hb dX8_agree_74 (by decide) ?_
      cases hF
      exact ih _ _ _ _ _ _ hgo (Or.inr (⟨rfl, _, _, _, _, _, rfl, lv_sub hl [1, 2, 3, 4, 5, 0] rfl⟩)) hP hD hS
    · rw [if_pos c4] at hF
      refine lv_iinc (v := (x5 + (1 : Int32))) (lv' := [(5, .int (x5 + (1 : Int32))), (0, .ref (a 0)), (2, .int x2), (3, .int x3), (4, .int x4), (6, .int x6)]) hx hb dX8_agree_68 hl (k := 4) rfl rfl (by decide) rfl (fun ls hl => ?_)
      refine lv_iinc (v := (x6 + (1 : Int32))) (lv' := [(6, .int (x6 + (1 : Int32))), (5, .int (x5 + (1 : Int32))), (0, .ref (a 0)), (2, .int x2), (3, .int x3), (4, .int x4)]) hx hb dX8_agree_71 hl (k := 5) rfl rfl (by decide) rfl (fun ls hl => ?_)
      refine lv_goto (tgt := 47) hx hb dX8_agree_74 (by decide) ?_
      cases hF
      exact ih _ _ _ _ _ _ hgo (Or.inr (⟨rfl, _, _, _, _, _, rfl, lv_sub hl [2, 3, 4, 5, 1, 0] rfl⟩)) hP hD hS
theorem wk_X8_agree (hC : CX p c cX8_agree meth (some .int) s m args yX8_agree.cls 7 D cyI cyZ) (hq : extM q = some (r, σ')) : ∀ (n : Nat), ∀ (pc : Nat) (x : Mem) (vs : List Int32) (ls : Array Slot) (H : Heap) (locs : List Loc), goL B_X8_agree n pc x vs = some q → SH_X8_agree a ls pc vs → va_P D vwCl (wC cyI cyZ a x) H → va_D A (wC cyI cyZ a x) → va_S A s.heap H locs → W p l e (headSpec ts_X8_agree ({ frames := 6, cells := 0, slots := 0, locals := 138 } : Room)).room s m args below meth c H locs 0 0 (MQ below (QcI D cyI cyZ A (wC cyI cyZ a σ') r) args s 0 0 A) (F0 m pc ls []) := by
  intro n
  induction n with
  | zero => intro pc x vs ls H locs h; exact absurd h (by simp [goL])
  | succ n ih =>
    intro pc x vs ls H locs hgo hsh hP hD hS
    rcases hsh with ⟨rfl, x1, x2, x3, rfl, hl⟩ | ⟨rfl, x2, x3, x4, x5, x6, rfl, hl⟩
    · exact wl_X8_agree_0 x hC hq n ih x1 x2 x3 ls H locs hgo hl hP hD hS
    · exact wl_X8_agree_47 x hC hq n ih x2 x3 x4 x5 x6 ls H locs hgo hl hP hD hS
end
theorem c_X8_agree (l : Launch) (D : va_G) (cyI cyZ : ClassId) (a : Nat → Nat) (A : Nat → Prop) (σ : Mem) (x1 : Int32) (x2 : Int32) (x3 : Int32) (r : Int32) (σ' : Mem) (hF : F_X8_agree σ x1 x2 x3 = some (r, σ')) : CtI l yX8_agree ts_X8_agree ({ frames := 6, cells := 0, slots := 0, locals := 138 } : Room) [.ref (a 0), .int x1, .int x2, .int x3] D cyI cyZ A (wC cyI cyZ a σ) (wC cyI cyZ a σ') r := by
  refine CtI.of (cc := cX8_agree) (maxL := 7) (ret := (some .int)) (by decide) rfl (Nat.le_of_ble_eq_true rfl) ?_
  intro p e s m below meth c ls hC hP hD hl
  obtain ⟨q, hq, hr1⟩ := Option.bind_eq_some_iff.mp hF
  obtain ⟨n, hn⟩ := finL_some hq
  exact wk_X8_agree hC hr1 n 0 _ _ ls _ _ hn (Or.inl ⟨rfl, _, _, _, rfl, hl⟩) hP hD va_S.rf
abbrev ts_X8_take : List Cond := .code yX8_take cX8_take 4 (some .int) :: wsL_law
def SH_X8_take (a : Nat → Nat) (ls : Array Slot) (pc : Nat) (vs : List Int32) : Prop := (pc = 0 ∧ ∃ x1 : Int32, vs = [x1] ∧ lv_has ls 4 [(0, .ref (a 0)), (1, .int x1)]) ∨ (pc = 17 ∧ ∃ x1 x2 x3 : Int32, vs = [x1, x2, x3] ∧ lv_has ls 4 [(0, .ref (a 0)), (1, .int x1), (2, .int x2), (3, .int x3)])
section
variable {p : Program} {l : Launch} {e : Env} {s : State} {m : MethodId} {args : Array Value} {below : List Frame} {meth : Method} {c : Code} {D : va_G} {A : Nat → Prop} {a : Nat → Nat} {cyI cyZ : ClassId} {r : Int32} {σ' : Mem} {q : Mem × List Int32}
set_option maxHeartbeats 4000000 in
set_option maxRecDepth 100000 in
theorem wl_X8_take_0 (σ : Mem) (hC : CX p c cX8_take meth (some .int) s m args yX8_take.cls 4 D cyI cyZ) (hq : extM q = some (r, σ')) (n : Nat) (ih : ∀ (pc : Nat) (x : Mem) (vs : List Int32) (ls : Array Slot) (H : Heap) (locs : List Loc), goL B_X8_take n pc x vs = some q → SH_X8_take a ls pc vs → va_P D vwCl (wC cyI cyZ a x) H → va_D A (wC cyI cyZ a x) → va_S A s.heap H locs → W p l e (headSpec ts_X8_take ({ frames := 6, cells := 0, slots := 0, locals := 137 } : Room)).room s m args below meth c H locs 0 0 (MQ below (QcI D cyI cyZ A (wC cyI cyZ a σ') r) args s 0 0 A) (F0 m pc ls [])) (x1 : Int32) (ls : Array Slot) (H : Heap) (locs : List Loc) (hgo : goL B_X8_take (n + 1) 0 σ [x1] = some q) (hl : lv_has ls 4 [(0, .ref (a 0)), (1, .int x1)]) (hP : va_P D vwCl (wC cyI cyZ a σ) H) (hD : va_D A (wC cyI cyZ a σ)) (hS : va_S A s.heap H locs) : W p l e (headSpec ts_X8_take ({ frames := 6, cells := 0, slots := 0, locals := 137 } : Room)).room s m args below meth c H locs 0 0 (MQ below (QcI D cyI cyZ A (wC cyI cyZ a σ') r) args s 0 0 A) (F0 m 0 ls []) := by
  obtain ⟨hx, hb, hr, hml, hown, hts, hK, hN, hlocks⟩ := hC
  have hown : s.vm.findClass RX8 = some m.cls := hown
  obtain ⟨yy, hF, hgo⟩ := goL_step (by decide) hgo
  have hF : B_X8_take_0 σ x1 = some yy := hF
  unfold B_X8_take_0 at hF
  refine lv_aload_n hx hb dX8_take_0 rfl (lv_at hl 0 rfl) ?_
  refine va_get (D := D) (ci := 8) (v := .ref (a 16)) (C := RX8) (T := TX8) (N := 6) hx hb hts inlX8 hown hK hP 0 gC_0 rfl 3 (by decide) (hts _ mw_27) (fun _ h9 => h9) rfl dX8_take_1 ?_
  refine lv_iload_n hx hb dX8_take_4 rfl (lv_at hl 1 rfl) ?_
  obtain ⟨p1, e2, hF⟩ := Option.bind_eq_some_iff.mp hF
  refine z_callVI (w' := (wC cyI cyZ a p1.2)) (As := [.int x1]) (rest := []) ⟨hx, hb, hml, hown, hts⟩ (c_X5_has l D cyI cyZ a A σ x1 p1.1 p1.2 e2) (cwV 1 hts (gd_V mw_566 mw_567 mw_568 mw_26 mw_569) rfl rfl rfl (by decide +kernel) ⟨Nat.le_of_ble_eq_true rfl, Nat.le_of_ble_eq_true rfl⟩) hK hN hP hD hS 5 16 rfl rfl gC_16 rfl hl.1 rfl (Nat.le_of_ble_eq_true rfl) dX8_take_5 ⟨Nat.zero_le _, Nat.zero_le _⟩ (fun H locs hP hD hS => ?_)
  refine lv_if_ne (tgt := 13) hx hb dX8_take_8 (by decide) (fun c3 => ?_) (fun c3 => ?_)
  · rw [if_neg c3] at hF
    refine lv_iconst (v := (0 : Int32)) hx hb dX8_take_13 (by decide) ?_
    refine lv_istore_n (lv' := [(2, .int (0 : Int32)), (0, .ref (a 0)), (1, .int x1)]) hx hb dX8_take_14 rfl hl (by decide) rfl (fun ls hl => ?_)
    refine lv_iconst (v := (0 : Int32)) hx hb dX8_take_15 (by decide) ?_
    refine lv_istore_n (lv' := [(3, .int (0 : Int32)), (2, .int (0 : Int32)), (0, .ref (a 0)), (1, .int x1)]) hx hb dX8_take_16 rfl hl (by decide) rfl (fun ls hl => ?_)
    cases hF
    exact ih _ _ _ _ _ _ hgo (Or.inr (⟨rfl, _, _, _, rfl, lv_sub hl [2, 3, 1, 0] rfl⟩)) hP hD hS
  · rw [if_pos c3] at hF
    refine lv_iconst (v := (-1 : Int32)) hx hb dX8_take_11 (by decide) ?_
    cases hF
    obtain ⟨rfl, rfl⟩ := extM_ret hq (goL_ret hgo)
    exact z_iret hx hb hr hlocks hK hP hD hS dX8_take_12
set_option maxHeartbeats 4000000 in
set_option maxRecDepth 100000 in
theorem wl_X8_take_17 (σ : Mem) (hC : CX p c cX8_take meth (some .int) s m args yX8_take.cls 4 D cyI cyZ) (hq : extM q = some (r, σ')) (n : Nat) (ih : ∀ (pc : Nat) (x : Mem) (vs : List Int32) (ls : Array Slot) (H : Heap) (locs : List Loc), goL B_X8_take n pc x vs = some q → SH_X8_take a ls pc vs → va_P D vwCl (wC cyI cyZ a x) H → va_D A (wC cyI cyZ a x) → va_S A s.heap H locs → W p l e (headSpec ts_X8_take ({ frames := 6, cells := 0, slots := 0, locals := 137 } : Room)).room s m args below meth c H locs 0 0 (MQ below (QcI D cyI cyZ A (wC cyI cyZ a σ') r) args s 0 0 A) (F0 m pc ls [])) (x1 : Int32) (x2 : Int32) (x3 : Int32) (ls : Array Slot) (H : Heap) (locs : List Loc) (hgo : goL B_X8_take (n + 1) 17 σ [x1, x2, x3] = some q) (hl : lv_has ls 4 [(0, .ref (a 0)), (1, .int x1), (2, .int x2), (3, .int x3)]) (hP : va_P D vwCl (wC cyI cyZ a σ) H) (hD : va_D A (wC cyI cyZ a σ)) (hS : va_S A s.heap H locs) : W p l e (headSpec ts_X8_take ({ frames := 6, cells := 0, slots := 0, locals := 137 } : Room)).room s m args below meth c H locs 0 0 (MQ below (QcI D cyI cyZ A (wC cyI cyZ a σ') r) args s 0 0 A) (F0 m 17 ls []) := by
  obtain ⟨hx, hb, hr, hml, hown, hts, hK, hN, hlocks⟩ := hC
  have hown : s.vm.findClass RX8 = some m.cls := hown
  obtain ⟨yy, hF, hgo⟩ := goL_step (by decide) hgo
  have hF : B_X8_take_17 σ x1 x2 x3 = some yy := hF
  unfold B_X8_take_17 at hF
  refine lv_iload_n hx hb dX8_take_17 rfl (lv_at hl 3 rfl) ?_
  refine lv_aload_n hx hb dX8_take_18 rfl (lv_at hl 0 rfl) ?_
  refine va_get (D := D) (ci := 8) (v := .ref (a 13)) (C := RX8) (T := TX8) (N := 6) hx hb hts inlX8 hown hK hP 0 gC_0 rfl 2 (by decide) (hts _ mw_23) (fun _ h9 => h9) rfl dX8_take_19 ?_
  refine z_callVI (w' := (wC cyI cyZ a σ)) (As := []) (rest := [.int x3]) ⟨hx, hb, hml, hown, hts⟩ (c_X3_size l D cyI cyZ a A σ  _ rfl) (cwV 0 hts (gd_V mw_339 mw_340 mw_341 mw_22 mw_342) rfl rfl rfl (by decide +kernel) ⟨Nat.le_of_ble_eq_true rfl, Nat.le_of_ble_eq_true rfl⟩) hK hN hP hD hS 3 13 rfl rfl gC_13 rfl hl.1 rfl (Nat.le_of_ble_eq_true rfl) dX8_take_22 ⟨Nat.zero_le _, Nat.zero_le _⟩ (fun H locs hP hD hS => ?_)
  refine lv_icmp_ge (tgt := 72) hx hb dX8_take_25 (by decide) (fun c1 => ?_) (fun c1 => ?_)
  · rw [if_pos c1] at hF
    refine lv_aload_n hx hb dX8_take_72 rfl (lv_at hl 0 rfl) ?_
    obtain ⟨σ2, e3, hF⟩ := Option.bind_eq_some_iff.mp hF
    refine z_callVV (w' := (wC cyI cyZ a σ2)) (As := []) (rest := []) ⟨hx, hb, hml, hown, hts⟩ (c_X8_questionChanged l D cyI cyZ a A σ  σ2 e3) (cwV 0 hts (gd_V mw_258 mw_259 mw_260 mw_2 mw_261) rfl rfl rfl (by decide +kernel) ⟨Nat.le_of_ble_eq_true rfl, Nat.le_of_ble_eq_true rfl⟩) hK hN hP hD hS 8 0 rfl rfl gC_0 rfl hl.1 rfl (Nat.le_of_ble_eq_true rfl) dX8_take_73 ⟨Nat.zero_le _, Nat.zero_le _⟩ (fun H locs hP hD hS => ?_)
    refine lv_iload_n hx hb dX8_take_76 rfl (lv_at hl 2 rfl) ?_
    cases hF
    obtain ⟨rfl, rfl⟩ := extM_ret hq (goL_ret hgo)
    exact z_iret hx hb hr hlocks hK hP hD hS dX8_take_77
  · rw [if_neg c1] at hF
    refine lv_aload_n hx hb dX8_take_28 rfl (lv_at hl 0 rfl) ?_
    refine va_get (D := D) (ci := 8) (v := .ref (a 13)) (C := RX8) (T := TX8) (N := 6) hx hb hts inlX8 hown hK hP 0 gC_0 rfl 2 (by decide) (hts _ mw_23) (fun _ h9 => h9) rfl dX8_take_29 ?_
    refine lv_iload_n hx hb dX8_take_32 rfl (lv_at hl 3 rfl) ?_
    obtain ⟨v4, e5, hF⟩ := Option.bind_eq_some_iff.mp hF
    refine z_callVI (w' := (wC cyI cyZ a σ)) (As := [.int x3]) (rest := []) ⟨hx, hb, hml, hown, hts⟩ (c_X3_isFirstOfWord l D cyI cyZ a A σ x3 _ e5) (cwV 1 hts (gd_V mw_813 mw_814 mw_815 mw_22 mw_816) rfl rfl rfl (by decide +kernel) ⟨Nat.le_of_ble_eq_true rfl, Nat.le_of_ble_eq_true rfl⟩) hK hN hP hD hS 3 13 rfl rfl gC_13 rfl hl.1 rfl (Nat.le_of_ble_eq_true rfl) dX8_take_33 ⟨Nat.zero_le _, Nat.zero_le _⟩ (fun H locs hP hD hS => ?_)
    refine lv_if_eq (tgt := 66) hx hb dX8_take_36 (by decide) (fun c6 => ?_) (fun c6 => ?_)
    · rw [if_pos c6] at hF
      refine lv_iinc (v := (x3 + (1 : Int32))) (lv' := [(3, .int (x3 + (1 : Int32))), (0, .ref (a 0)), (1, .int x1), (2, .int x2)]) hx hb dX8_take_66 hl (k := 3) rfl rfl (by decide) rfl (fun ls hl => ?_)
      refine lv_goto (tgt := 17) hx hb dX8_take_69 (by decide) ?_
      cases hF
      exact ih _ _ _ _ _ _ hgo (Or.inr (⟨rfl, _, _, _, rfl, lv_sub hl [1, 2, 3, 0] rfl⟩)) hP hD hS
    · rw [if_neg c6] at hF
      refine lv_iload_n hx hb dX8_take_39 rfl (lv_at hl 2 rfl) ?_
      refine lv_aload_n hx hb dX8_take_40 rfl (lv_at hl 0 rfl) ?_
      refine va_get (D := D) (ci := 8) (v := .ref (a 6)) (C := RX8) (T := TX8) (N := 6) hx hb hts inlX8 hown hK hP 0 gC_0 rfl 1 (by decide) (hts _ mw_19) (fun _ h9 => h9) rfl dX8_take_41 ?_
      refine lv_aload_n hx hb dX8_take_44 rfl (lv_at hl 0 rfl) ?_
      refine va_get (D := D) (ci := 8) (v := .ref (a 13)) (C := RX8) (T := TX8) (N := 6) hx hb hts inlX8 hown hK hP 0 gC_0 rfl 2 (by decide) (hts _ mw_23) (fun _ h9 => h9) rfl dX8_take_45 ?_
      refine lv_iload_n hx hb dX8_take_48 rfl (lv_at hl 3 rfl) ?_
      obtain ⟨v7, e8, hF⟩ := Option.bind_eq_some_iff.mp hF
      refine z_callVI (w' := (wC cyI cyZ a σ)) (As := [.int x3]) (rest := [.ref (a 6), .int x2]) ⟨hx, hb, hml, hown, hts⟩ (c_X3_tokenAt l D cyI cyZ a A σ x3 _ e8) (cwV 1 hts (gd_V mw_818 mw_420 mw_421 mw_22 mw_422) rfl rfl rfl (by decide +kernel) ⟨Nat.le_of_ble_eq_true rfl, Nat.le_of_ble_eq_true rfl⟩) hK hN hP hD hS 3 13 rfl rfl gC_13 rfl hl.1 rfl (Nat.le_of_ble_eq_true rfl) dX8_take_49 ⟨Nat.zero_le _, Nat.zero_le _⟩ (fun H locs hP hD hS => ?_)
      refine lv_aload_n hx hb dX8_take_52 rfl (lv_at hl 0 rfl) ?_
      refine va_get (D := D) (ci := 8) (v := .ref (a 16)) (C := RX8) (T := TX8) (N := 6) hx hb hts inlX8 hown hK hP 0 gC_0 rfl 3 (by decide) (hts _ mw_27) (fun _ h9 => h9) rfl dX8_take_53 ?_
      refine lv_iload_n hx hb dX8_take_56 rfl (lv_at hl 1 rfl) ?_
      refine lv_iload_n hx hb dX8_take_57 rfl (lv_at hl 3 rfl) ?_
      obtain ⟨v9, e10, hF⟩ := Option.bind_eq_some_iff.mp hF
      refine z_callVI (w' := (wC cyI cyZ a σ)) (As := [.int x1, .int x3]) (rest := [.int v7, .ref (a 6), .int x2]) ⟨hx, hb, hml, hown, hts⟩ (c_X5_meaningAt l D cyI cyZ a A σ x1 x3 _ e10) (cwV 2 hts (gd_V mw_574 mw_575 mw_576 mw_26 mw_577) rfl rfl rfl (by decide +kernel) ⟨Nat.le_of_ble_eq_true rfl, Nat.le_of_ble_eq_true rfl⟩) hK hN hP hD hS 5 16 rfl rfl gC_16 rfl hl.1 rfl (Nat.le_of_ble_eq_true rfl) dX8_take_58 ⟨Nat.zero_le _, Nat.zero_le _⟩ (fun H locs hP hD hS => ?_)
      obtain ⟨p11, e12, hF⟩ := Option.bind_eq_some_iff.mp hF
      refine z_callVI (w' := (wC cyI cyZ a p11.2)) (As := [.int v7, .int v9]) (rest := [.int x2]) ⟨hx, hb, hml, hown, hts⟩ (c_X7_learn l D cyI cyZ a A σ v7 v9 p11.1 p11.2 e12) (cwV 2 hts (gd_V mw_819 mw_820 mw_821 mw_18 mw_822) rfl rfl rfl (by decide +kernel) ⟨Nat.le_of_ble_eq_true rfl, Nat.le_of_ble_eq_true rfl⟩) hK hN hP hD hS 7 6 rfl rfl gC_6 rfl hl.1 rfl (Nat.le_of_ble_eq_true rfl) dX8_take_61 ⟨Nat.zero_le _, Nat.zero_le _⟩ (fun H locs hP hD hS => ?_)
      refine lv_iadd hx hb dX8_take_64 ?_
      refine lv_istore_n (lv' := [(2, .int (x2 + p11.1)), (0, .ref (a 0)), (1, .int x1), (3, .int x3)]) hx hb dX8_take_65 rfl hl (by decide) rfl (fun ls hl => ?_)
      refine lv_iinc (v := (x3 + (1 : Int32))) (lv' := [(3, .int (x3 + (1 : Int32))), (2, .int (x2 + p11.1)), (0, .ref (a 0)), (1, .int x1)]) hx hb dX8_take_66 hl (k := 3) rfl rfl (by decide) rfl (fun ls hl => ?_)
      refine lv_goto (tgt := 17) hx hb dX8_take_69 (by decide) ?_
      cases hF
      exact ih _ _ _ _ _ _ hgo (Or.inr (⟨rfl, _, _, _, rfl, lv_sub hl [2, 3, 1, 0] rfl⟩)) hP hD hS
theorem wk_X8_take (hC : CX p c cX8_take meth (some .int) s m args yX8_take.cls 4 D cyI cyZ) (hq : extM q = some (r, σ')) : ∀ (n : Nat), ∀ (pc : Nat) (x : Mem) (vs : List Int32) (ls : Array Slot) (H : Heap) (locs : List Loc), goL B_X8_take n pc x vs = some q → SH_X8_take a ls pc vs → va_P D vwCl (wC cyI cyZ a x) H → va_D A (wC cyI cyZ a x) → va_S A s.heap H locs → W p l e (headSpec ts_X8_take ({ frames := 6, cells := 0, slots := 0, locals := 137 } : Room)).room s m args below meth c H locs 0 0 (MQ below (QcI D cyI cyZ A (wC cyI cyZ a σ') r) args s 0 0 A) (F0 m pc ls []) := by
  intro n
  induction n with
  | zero => intro pc x vs ls H locs h; exact absurd h (by simp [goL])
  | succ n ih =>
    intro pc x vs ls H locs hgo hsh hP hD hS
    rcases hsh with ⟨rfl, x1, rfl, hl⟩ | ⟨rfl, x1, x2, x3, rfl, hl⟩
    · exact wl_X8_take_0 x hC hq n ih x1 ls H locs hgo hl hP hD hS
    · exact wl_X8_take_17 x hC hq n ih x1 x2 x3 ls H locs hgo hl hP hD hS
end
theorem c_X8_take (l : Launch) (D : va_G) (cyI cyZ : ClassId) (a : Nat → Nat) (A : Nat → Prop) (σ : Mem) (x1 : Int32) (r : Int32) (σ' : Mem) (hF : F_X8_take σ x1 = some (r, σ')) : CtI l yX8_take ts_X8_take ({ frames := 6, cells := 0, slots := 0, locals := 137 } : Room) [.ref (a 0), .int x1] D cyI cyZ A (wC cyI cyZ a σ) (wC cyI cyZ a σ') r := by
  refine CtI.of (cc := cX8_take) (maxL := 4) (ret := (some .int)) (by decide) rfl (Nat.le_of_ble_eq_true rfl) ?_
  intro p e s m below meth c ls hC hP hD hl
  obtain ⟨q, hq, hr1⟩ := Option.bind_eq_some_iff.mp hF
  obtain ⟨n, hn⟩ := finL_some hq
  exact wk_X8_take hC hr1 n 0 _ _ ls _ _ hn (Or.inl ⟨rfl, _, rfl, hl⟩) hP hD va_S.rf
abbrev ts_X8_why : List Cond := .code yX8_why cX8_why 2 (some .int) :: wsL_law
set_option maxHeartbeats 4000000 in
set_option maxRecDepth 100000 in
theorem c_X8_why (l : Launch) (D : va_G) (cyI cyZ : ClassId) (a : Nat → Nat) (A : Nat → Prop) (σ : Mem) (x1 : Int32) (r : Int32) (σ' : Mem) (hF : F_X8_why σ x1 = some (r, σ')) : CtI l yX8_why ts_X8_why ({ frames := 6, cells := 0, slots := 0, locals := 137 } : Room) [.ref (a 0), .int x1] D cyI cyZ A (wC cyI cyZ a σ) (wC cyI cyZ a σ') r := by
  refine CtI.of (cc := cX8_why) (maxL := 2) (ret := (some .int)) (by decide) rfl (Nat.le_of_ble_eq_true rfl) ?_
  intro p e s m below meth c ls hC hP hD hl
  obtain ⟨hx, hb, hr, hml, hown, hts, hK, hN, hlocks⟩ := hC
  have hown : s.vm.findClass RX8 = some m.cls := hown
  have hS : va_S A s.heap s.heap [] := va_S.rf
  have hl : lv_has ls 2 [(0, .ref (a 0)), (1, .int x1)] := hl
  unfold F_X8_why at hF
  refine lv_aload_n hx hb dX8_why_0 rfl (lv_at hl 0 rfl) ?_
  refine va_get (D := D) (ci := 8) (v := .ref (a 16)) (C := RX8) (T := TX8) (N := 6) hx hb hts inlX8 hown hK hP 0 gC_0 rfl 3 (by decide) (hts _ mw_27) (fun _ h9 => h9) rfl dX8_why_1 ?_
  refine lv_iload_n hx hb dX8_why_4 rfl (lv_at hl 1 rfl) ?_
  obtain ⟨p1, e2, hF⟩ := Option.bind_eq_some_iff.mp hF
  refine z_callVI (w' := (wC cyI cyZ a p1.2)) (As := [.int x1]) (rest := []) ⟨hx, hb, hml, hown, hts⟩ (c_X5_has l D cyI cyZ a A σ x1 p1.1 p1.2 e2) (cwV 1 hts (gd_V mw_566 mw_567 mw_568 mw_26 mw_569) rfl rfl rfl (by decide +kernel) ⟨Nat.le_of_ble_eq_true rfl, Nat.le_of_ble_eq_true rfl⟩) hK hN hP hD hS 5 16 rfl rfl gC_16 rfl hl.1 rfl (Nat.le_of_ble_eq_true rfl) dX8_why_5 ⟨Nat.zero_le _, Nat.zero_le _⟩ (fun H locs hP hD hS => ?_)
  refine lv_if_eq (tgt := 29) hx hb dX8_why_8 (by decide) (fun c3 => ?_) (fun c3 => ?_)
  · rw [if_pos c3] at hF
    refine lv_iconst (v := (-1 : Int32)) hx hb dX8_why_29 (by decide) ?_
    cases hF
    exact z_iret hx hb hr hlocks hK hP hD hS dX8_why_30
  · rw [if_neg c3] at hF
    refine lv_aload_n hx hb dX8_why_11 rfl (lv_at hl 0 rfl) ?_
    refine va_get (D := D) (ci := 8) (v := .ref (a 27)) (C := RX8) (T := TX8) (N := 6) hx hb hts inlX8 hown hK hP 0 gC_0 rfl 4 (by decide) (hts _ mw_31) (fun _ h9 => h9) rfl dX8_why_12 ?_
    refine lv_aload_n hx hb dX8_why_15 rfl (lv_at hl 0 rfl) ?_
    refine va_get (D := D) (ci := 8) (v := .ref (a 16)) (C := RX8) (T := TX8) (N := 6) hx hb hts inlX8 hown hK hP 0 gC_0 rfl 3 (by decide) (hts _ mw_27) (fun _ h9 => h9) rfl dX8_why_16 ?_
    refine lv_iload_n hx hb dX8_why_19 rfl (lv_at hl 1 rfl) ?_
    obtain ⟨σ4, e5, hF⟩ := Option.bind_eq_some_iff.mp hF
    refine z_callVR (w' := (wC cyI cyZ a σ4)) (As := [.int x1]) (rest := [.ref (a 27)]) ⟨hx, hb, hml, hown, hts⟩ (c_X5_formOf l D cyI cyZ a A p1.2 x1 σ4 e5) (cwV 1 hts (gd_V mw_578 mw_579 mw_580 mw_26 mw_581) rfl rfl rfl (by decide +kernel) ⟨Nat.le_of_ble_eq_true rfl, Nat.le_of_ble_eq_true rfl⟩) hK hN hP hD hS 5 16 rfl rfl gC_16 rfl hl.1 rfl (Nat.le_of_ble_eq_true rfl) dX8_why_20 ⟨Nat.zero_le _, Nat.zero_le _⟩ (fun H locs hP hD hS => ?_)
    obtain ⟨p6, e7, hF⟩ := Option.bind_eq_some_iff.mp hF
    refine z_callVI (w' := (wC cyI cyZ a p6.2)) (As := [.ref (a 17)]) (rest := []) ⟨hx, hb, hml, hown, hts⟩ (c_X1_testsInTheWay l D cyI cyZ a A σ4  p6.1 p6.2 e7) (cwV 1 hts (gd_V mw_833 mw_834 mw_835 mw_30 mw_836) rfl rfl rfl (by decide +kernel) ⟨Nat.le_of_ble_eq_true rfl, Nat.le_of_ble_eq_true rfl⟩) hK hN hP hD hS 1 27 rfl rfl gC_27 rfl hl.1 rfl (Nat.le_of_ble_eq_true rfl) dX8_why_23 ⟨Nat.zero_le _, Nat.zero_le _⟩ (fun H locs hP hD hS => ?_)
    refine lv_goto (tgt := 30) hx hb dX8_why_26 (by decide) ?_
    cases hF
    exact z_iret hx hb hr hlocks hK hP hD hS dX8_why_30
abbrev ts_X8_count : List Cond := .code yX8_count cX8_count 2 (some .int) :: wsL_law
set_option maxHeartbeats 4000000 in
set_option maxRecDepth 100000 in
theorem c_X8_count (l : Launch) (D : va_G) (cyI cyZ : ClassId) (a : Nat → Nat) (A : Nat → Prop) (σ : Mem) (x1 : Int32) (r : Int32) (hF : F_X8_count σ x1 = r) : CtI l yX8_count ts_X8_count ({ frames := 1, cells := 0, slots := 0, locals := 20 } : Room) [.ref (a 0), .int x1] D cyI cyZ A (wC cyI cyZ a σ) (wC cyI cyZ a σ) r := by
  refine CtI.of (cc := cX8_count) (maxL := 2) (ret := (some .int)) (by decide) rfl (Nat.le_of_ble_eq_true rfl) ?_
  intro p e s m below meth c ls hC hP hD hl
  obtain ⟨hx, hb, hr, hml, hown, hts, hK, hN, hlocks⟩ := hC
  have hown : s.vm.findClass RX8 = some m.cls := hown
  have hS : va_S A s.heap s.heap [] := va_S.rf
  have hl : lv_has ls 2 [(0, .ref (a 0)), (1, .int x1)] := hl
  unfold F_X8_count at hF
  refine lv_iload_n hx hb dX8_count_0 rfl (lv_at hl 1 rfl) ?_
  by_cases c1 : x1 = (0 : Int32)
  · rw [if_pos c1] at hF
    refine lv_tableIn (off := 27) (tgt := 28) hx hb dX8_count_1 (by rw [c1]; decide) (by rw [c1]; decide) (by rw [c1]; rfl) (by decide) ?_
    refine lv_aload_n hx hb dX8_count_28 rfl (lv_at hl 0 rfl) ?_
    refine va_get (D := D) (ci := 8) (v := .ref (a 1)) (C := RX8) (T := TX8) (N := 6) hx hb hts inlX8 hown hK hP 0 gC_0 rfl 0 (by decide) (hts _ mw_15) (fun _ h9 => h9) rfl dX8_count_29 ?_
    refine z_callVI (w' := (wC cyI cyZ a σ)) (As := []) (rest := []) ⟨hx, hb, hml, hown, hts⟩ (c_X6_size l D cyI cyZ a A σ  _ rfl) (cwV 0 hts (gd_V mw_147 mw_148 mw_149 mw_14 mw_150) rfl rfl rfl (by decide +kernel) ⟨Nat.le_of_ble_eq_true rfl, Nat.le_of_ble_eq_true rfl⟩) hK hN hP hD hS 6 1 rfl rfl gC_1 rfl hl.1 rfl (Nat.le_of_ble_eq_true rfl) dX8_count_32 ⟨Nat.zero_le _, Nat.zero_le _⟩ (fun H locs hP hD hS => ?_)
    subst hF
    exact z_iret hx hb hr hlocks hK hP hD hS dX8_count_35
  · rw [if_neg c1] at hF
    by_cases c2 : x1 = (1 : Int32)
    · rw [if_pos c2] at hF
      refine lv_tableIn (off := 35) (tgt := 36) hx hb dX8_count_1 (by rw [c2]; decide) (by rw [c2]; decide) (by rw [c2]; rfl) (by decide) ?_
      refine lv_aload_n hx hb dX8_count_36 rfl (lv_at hl 0 rfl) ?_
      refine va_get (D := D) (ci := 8) (v := .ref (a 13)) (C := RX8) (T := TX8) (N := 6) hx hb hts inlX8 hown hK hP 0 gC_0 rfl 2 (by decide) (hts _ mw_23) (fun _ h9 => h9) rfl dX8_count_37 ?_
      refine z_callVI (w' := (wC cyI cyZ a σ)) (As := []) (rest := []) ⟨hx, hb, hml, hown, hts⟩ (c_X3_size l D cyI cyZ a A σ  _ rfl) (cwV 0 hts (gd_V mw_339 mw_340 mw_341 mw_22 mw_342) rfl rfl rfl (by decide +kernel) ⟨Nat.le_of_ble_eq_true rfl, Nat.le_of_ble_eq_true rfl⟩) hK hN hP hD hS 3 13 rfl rfl gC_13 rfl hl.1 rfl (Nat.le_of_ble_eq_true rfl) dX8_count_40 ⟨Nat.zero_le _, Nat.zero_le _⟩ (fun H locs hP hD hS => ?_)
      subst hF
      exact z_iret hx hb hr hlocks hK hP hD hS dX8_count_43
    · rw [if_neg c2] at hF
      by_cases c3 : x1 = (2 : Int32)
      · rw [if_pos c3] at hF
        refine lv_tableIn (off := 43) (tgt := 44) hx hb dX8_count_1 (by rw [c3]; decide) (by rw [c3]; decide) (by rw [c3]; rfl) (by decide) ?_
        refine lv_aload_n hx hb dX8_count_44 rfl (lv_at hl 0 rfl) ?_
        refine va_get (D := D) (ci := 8) (v := .ref (a 6)) (C := RX8) (T := TX8) (N := 6) hx hb hts inlX8 hown hK hP 0 gC_0 rfl 1 (by decide) (hts _ mw_19) (fun _ h9 => h9) rfl dX8_count_45 ?_
        refine z_callVI (w' := (wC cyI cyZ a σ)) (As := []) (rest := []) ⟨hx, hb, hml, hown, hts⟩ (c_X7_size l D cyI cyZ a A σ  _ rfl) (cwV 0 hts (gd_V mw_855 mw_856 mw_857 mw_18 mw_858) rfl rfl rfl (by decide +kernel) ⟨Nat.le_of_ble_eq_true rfl, Nat.le_of_ble_eq_true rfl⟩) hK hN hP hD hS 7 6 rfl rfl gC_6 rfl hl.1 rfl (Nat.le_of_ble_eq_true rfl) dX8_count_48 ⟨Nat.zero_le _, Nat.zero_le _⟩ (fun H locs hP hD hS => ?_)
        subst hF
        exact z_iret hx hb hr hlocks hK hP hD hS dX8_count_51
      · rw [if_neg c3] at hF
        refine lv_tableOut (tgt := 52) hx hb dX8_count_1 (z_notin3 c1 c2 c3) (by decide) ?_
        refine lv_iconst (v := (-1 : Int32)) hx hb dX8_count_52 (by decide) ?_
        subst hF
        exact z_iret hx hb hr hlocks hK hP hD hS dX8_count_53
abbrev ts_X9_within : List Cond := .code yX9_within cX9_within 3 (some .boolean) :: wsL_law
set_option maxHeartbeats 4000000 in
set_option maxRecDepth 100000 in
theorem c_X9_within (l : Launch) (D : va_G) (cyI cyZ : ClassId) (A : Nat → Prop) (w : va_W) (x0 : Int32) (x1 : Int32) (x2 : Int32) (r : Int32) (hF : F_X9_within x0 x1 x2 = r) : CtI l yX9_within ts_X9_within ({ frames := 0, cells := 0, slots := 0, locals := 0 } : Room) [.int x0, .int x1, .int x2] D cyI cyZ A w w r := by
  refine CtI.of (cc := cX9_within) (maxL := 3) (ret := (some .boolean)) (by decide) rfl (Nat.le_of_ble_eq_true rfl) ?_
  intro p e s m below meth c ls hC hP hD hl
  obtain ⟨hx, hb, hr, hml, hown, hts, hK, hN, hlocks⟩ := hC
  have hown : s.vm.findClass RX9 = some m.cls := hown
  have hS : va_S A s.heap s.heap [] := va_S.rf
  have hl : lv_has ls 3 [(0, .int x0), (1, .int x1), (2, .int x2)] := hl
  unfold F_X9_within at hF
  refine lv_iload_n hx hb dX9_within_0 rfl (lv_at hl 0 rfl) ?_
  refine lv_iload_n hx hb dX9_within_1 rfl (lv_at hl 1 rfl) ?_
  refine lv_icmp_lt (tgt := 14) hx hb dX9_within_2 (by decide) (fun c1 => ?_) (fun c1 => ?_)
  · rw [if_pos c1] at hF
    refine lv_iconst (v := (0 : Int32)) hx hb dX9_within_14 (by decide) ?_
    subst hF
    exact z_zret hx hb hr hlocks hK hP hD hS rfl dX9_within_15
  · rw [if_neg c1] at hF
    refine lv_iload_n hx hb dX9_within_5 rfl (lv_at hl 0 rfl) ?_
    refine lv_iload_n hx hb dX9_within_6 rfl (lv_at hl 2 rfl) ?_
    refine lv_icmp_gt (tgt := 14) hx hb dX9_within_7 (by decide) (fun c2 => ?_) (fun c2 => ?_)
    · rw [if_pos c2] at hF
      refine lv_iconst (v := (0 : Int32)) hx hb dX9_within_14 (by decide) ?_
      subst hF
      exact z_zret hx hb hr hlocks hK hP hD hS rfl dX9_within_15
    · rw [if_neg c2] at hF
      refine lv_iconst (v := (1 : Int32)) hx hb dX9_within_10 (by decide) ?_
      refine lv_goto (tgt := 15) hx hb dX9_within_11 (by decide) ?_
      subst hF
      exact z_zret hx hb hr hlocks hK hP hD hS rfl dX9_within_15
abbrev ts_X9_isTable : List Cond := .code yX9_isTable cX9_isTable 2 (some .boolean) :: wsL_law
set_option maxHeartbeats 4000000 in
set_option maxRecDepth 100000 in
theorem c_X9_isTable (l : Launch) (D : va_G) (cyI cyZ : ClassId) (a : Nat → Nat) (A : Nat → Prop) (σ : Mem) (x1 : Int32) (r : Int32) (hF : F_X9_isTable σ x1 = r) : CtI l yX9_isTable ts_X9_isTable ({ frames := 0, cells := 0, slots := 0, locals := 0 } : Room) [.ref (a 0), .int x1] D cyI cyZ A (wM cyI cyZ a σ) (wM cyI cyZ a σ) r := by
  refine CtI.of (cc := cX9_isTable) (maxL := 2) (ret := (some .boolean)) (by decide) rfl (Nat.le_of_ble_eq_true rfl) ?_
  intro p e s m below meth c ls hC hP hD hl
  obtain ⟨hx, hb, hr, hml, hown, hts, hK, hN, hlocks⟩ := hC
  have hown : s.vm.findClass RX9 = some m.cls := hown
  have hS : va_S A s.heap s.heap [] := va_S.rf
  have hl : lv_has ls 2 [(0, .ref (a 0)), (1, .int x1)] := hl
  unfold F_X9_isTable at hF
  refine lv_iload_n hx hb dX9_isTable_0 rfl (lv_at hl 1 rfl) ?_
  refine lv_if_lt (tgt := 16) hx hb dX9_isTable_1 (by decide) (fun c1 => ?_) (fun c1 => ?_)
  · rw [if_pos c1] at hF
    refine lv_iconst (v := (0 : Int32)) hx hb dX9_isTable_16 (by decide) ?_
    subst hF
    exact z_zret hx hb hr hlocks hK hP hD hS rfl dX9_isTable_17
  · rw [if_neg c1] at hF
    refine lv_iload_n hx hb dX9_isTable_4 rfl (lv_at hl 1 rfl) ?_
    refine lv_aload_n hx hb dX9_isTable_5 rfl (lv_at hl 0 rfl) ?_
    refine va_get (D := D) (ci := 9) (v := .int (σ 0 4)) (C := RX9) (T := TX9) (N := 34) hx hb hts inlX9 hown hK hP 0 gM_0 rfl 4 (by decide) (hts _ mw_160) (fun _ h9 => h9) rfl dX9_isTable_6 ?_
    refine lv_icmp_ge (tgt := 16) hx hb dX9_isTable_9 (by decide) (fun c2 => ?_) (fun c2 => ?_)
    · rw [if_pos c2] at hF
      refine lv_iconst (v := (0 : Int32)) hx hb dX9_isTable_16 (by decide) ?_
      subst hF
      exact z_zret hx hb hr hlocks hK hP hD hS rfl dX9_isTable_17
    · rw [if_neg c2] at hF
      refine lv_iconst (v := (1 : Int32)) hx hb dX9_isTable_12 (by decide) ?_
      refine lv_goto (tgt := 17) hx hb dX9_isTable_13 (by decide) ?_
      subst hF
      exact z_zret hx hb hr hlocks hK hP hD hS rfl dX9_isTable_17
abbrev ts_X9_isColumn : List Cond := .code yX9_isColumn cX9_isColumn 3 (some .boolean) :: wsL_law
set_option maxHeartbeats 4000000 in
set_option maxRecDepth 100000 in
theorem c_X9_isColumn (l : Launch) (D : va_G) (cyI cyZ : ClassId) (a : Nat → Nat) (A : Nat → Prop) (σ : Mem) (x1 : Int32) (x2 : Int32) (r : Int32) (hF : F_X9_isColumn σ x1 x2 = some r) : CtI l yX9_isColumn ts_X9_isColumn ({ frames := 1, cells := 0, slots := 0, locals := 21 } : Room) [.ref (a 0), .int x1, .int x2] D cyI cyZ A (wM cyI cyZ a σ) (wM cyI cyZ a σ) r := by
  refine CtI.of (cc := cX9_isColumn) (maxL := 3) (ret := (some .boolean)) (by decide) rfl (Nat.le_of_ble_eq_true rfl) ?_
  intro p e s m below meth c ls hC hP hD hl
  obtain ⟨hx, hb, hr, hml, hown, hts, hK, hN, hlocks⟩ := hC
  have hown : s.vm.findClass RX9 = some m.cls := hown
  have hS : va_S A s.heap s.heap [] := va_S.rf
  have hl : lv_has ls 3 [(0, .ref (a 0)), (1, .int x1), (2, .int x2)] := hl
  unfold F_X9_isColumn at hF
  refine lv_aload_n hx hb dX9_isColumn_0 rfl (lv_at hl 0 rfl) ?_
  refine lv_iload_n hx hb dX9_isColumn_1 rfl (lv_at hl 1 rfl) ?_
  refine z_callVI (w' := (wM cyI cyZ a σ)) (As := [.int x1]) (rest := []) ⟨hx, hb, hml, hown, hts⟩ (c_X9_isTable l D cyI cyZ a A σ x1 _ rfl) (cwV 1 hts (gd_V mw_197 mw_198 mw_199 mw_5 mw_200) rfl rfl rfl (by decide +kernel) ⟨Nat.le_of_ble_eq_true rfl, Nat.le_of_ble_eq_true rfl⟩) hK hN hP hD hS 9 0 rfl rfl gM_0 rfl hl.1 rfl (Nat.le_of_ble_eq_true rfl) dX9_isColumn_2 ⟨Nat.zero_le _, Nat.zero_le _⟩ (fun H locs hP hD hS => ?_)
  refine lv_if_eq (tgt := 26) hx hb dX9_isColumn_5 (by decide) (fun c1 => ?_) (fun c1 => ?_)
  · rw [if_pos c1] at hF
    refine lv_iconst (v := (0 : Int32)) hx hb dX9_isColumn_26 (by decide) ?_
    cases hF
    exact z_zret hx hb hr hlocks hK hP hD hS rfl dX9_isColumn_27
  · rw [if_neg c1] at hF
    refine lv_iload_n hx hb dX9_isColumn_8 rfl (lv_at hl 2 rfl) ?_
    refine lv_if_lt (tgt := 26) hx hb dX9_isColumn_9 (by decide) (fun c2 => ?_) (fun c2 => ?_)
    · rw [if_pos c2] at hF
      refine lv_iconst (v := (0 : Int32)) hx hb dX9_isColumn_26 (by decide) ?_
      cases hF
      exact z_zret hx hb hr hlocks hK hP hD hS rfl dX9_isColumn_27
    · rw [if_neg c2] at hF
      refine lv_iload_n hx hb dX9_isColumn_12 rfl (lv_at hl 2 rfl) ?_
      refine lv_aload_n hx hb dX9_isColumn_13 rfl (lv_at hl 0 rfl) ?_
      refine va_get (D := D) (ci := 9) (v := .ref (a 1)) (C := RX9) (T := TX9) (N := 34) hx hb hts inlX9 hown hK hP 0 gM_0 rfl 0 (by decide) (hts _ mw_117) (fun _ h9 => h9) rfl dX9_isColumn_14 ?_
      refine lv_iload_n hx hb dX9_isColumn_17 rfl (lv_at hl 1 rfl) ?_
      obtain ⟨v3, e4, hF⟩ := Option.bind_eq_some_iff.mp hF
      refine z_ild hx hb hK hP 1 gM_1 e4 dX9_isColumn_18 ?_
      refine lv_icmp_ge (tgt := 26) hx hb dX9_isColumn_19 (by decide) (fun c5 => ?_) (fun c5 => ?_)
      · rw [if_pos c5] at hF
        refine lv_iconst (v := (0 : Int32)) hx hb dX9_isColumn_26 (by decide) ?_
        cases hF
        exact z_zret hx hb hr hlocks hK hP hD hS rfl dX9_isColumn_27
      · rw [if_neg c5] at hF
        refine lv_iconst (v := (1 : Int32)) hx hb dX9_isColumn_22 (by decide) ?_
        refine lv_goto (tgt := 27) hx hb dX9_isColumn_23 (by decide) ?_
        cases hF
        exact z_zret hx hb hr hlocks hK hP hD hS rfl dX9_isColumn_27
abbrev ts_X9_isCell : List Cond := .code yX9_isCell cX9_isCell 4 (some .boolean) :: wsL_law
set_option maxHeartbeats 4000000 in
set_option maxRecDepth 100000 in
theorem c_X9_isCell (l : Launch) (D : va_G) (cyI cyZ : ClassId) (a : Nat → Nat) (A : Nat → Prop) (σ : Mem) (x1 : Int32) (x2 : Int32) (x3 : Int32) (r : Int32) (hF : F_X9_isCell σ x1 x2 x3 = some r) : CtI l yX9_isCell ts_X9_isCell ({ frames := 2, cells := 0, slots := 0, locals := 43 } : Room) [.ref (a 0), .int x1, .int x2, .int x3] D cyI cyZ A (wM cyI cyZ a σ) (wM cyI cyZ a σ) r := by
  refine CtI.of (cc := cX9_isCell) (maxL := 4) (ret := (some .boolean)) (by decide) rfl (Nat.le_of_ble_eq_true rfl) ?_
  intro p e s m below meth c ls hC hP hD hl
  obtain ⟨hx, hb, hr, hml, hown, hts, hK, hN, hlocks⟩ := hC
  have hown : s.vm.findClass RX9 = some m.cls := hown
  have hS : va_S A s.heap s.heap [] := va_S.rf
  have hl : lv_has ls 4 [(0, .ref (a 0)), (1, .int x1), (2, .int x2), (3, .int x3)] := hl
  unfold F_X9_isCell at hF
  refine lv_aload_n hx hb dX9_isCell_0 rfl (lv_at hl 0 rfl) ?_
  refine lv_iload_n hx hb dX9_isCell_1 rfl (lv_at hl 1 rfl) ?_
  refine lv_iload_n hx hb dX9_isCell_2 rfl (lv_at hl 3 rfl) ?_
  obtain ⟨v1, e2, hF⟩ := Option.bind_eq_some_iff.mp hF
  refine z_callVI (w' := (wM cyI cyZ a σ)) (As := [.int x1, .int x3]) (rest := []) ⟨hx, hb, hml, hown, hts⟩ (c_X9_isColumn l D cyI cyZ a A σ x1 x3 _ e2) (cwV 2 hts (gd_V mw_230 mw_231 mw_232 mw_5 mw_233) rfl rfl rfl (by decide +kernel) ⟨Nat.le_of_ble_eq_true rfl, Nat.le_of_ble_eq_true rfl⟩) hK hN hP hD hS 9 0 rfl rfl gM_0 rfl hl.1 rfl (Nat.le_of_ble_eq_true rfl) dX9_isCell_3 ⟨Nat.zero_le _, Nat.zero_le _⟩ (fun H locs hP hD hS => ?_)
  refine lv_if_eq (tgt := 27) hx hb dX9_isCell_6 (by decide) (fun c3 => ?_) (fun c3 => ?_)
  · rw [if_pos c3] at hF
    refine lv_iconst (v := (0 : Int32)) hx hb dX9_isCell_27 (by decide) ?_
    cases hF
    exact z_zret hx hb hr hlocks hK hP hD hS rfl dX9_isCell_28
  · rw [if_neg c3] at hF
    refine lv_iload_n hx hb dX9_isCell_9 rfl (lv_at hl 2 rfl) ?_
    refine lv_if_lt (tgt := 27) hx hb dX9_isCell_10 (by decide) (fun c4 => ?_) (fun c4 => ?_)
    · rw [if_pos c4] at hF
      refine lv_iconst (v := (0 : Int32)) hx hb dX9_isCell_27 (by decide) ?_
      cases hF
      exact z_zret hx hb hr hlocks hK hP hD hS rfl dX9_isCell_28
    · rw [if_neg c4] at hF
      refine lv_iload_n hx hb dX9_isCell_13 rfl (lv_at hl 2 rfl) ?_
      refine lv_aload_n hx hb dX9_isCell_14 rfl (lv_at hl 0 rfl) ?_
      refine va_get (D := D) (ci := 9) (v := .ref (a 2)) (C := RX9) (T := TX9) (N := 34) hx hb hts inlX9 hown hK hP 0 gM_0 rfl 1 (by decide) (hts _ mw_118) (fun _ h9 => h9) rfl dX9_isCell_15 ?_
      refine lv_iload_n hx hb dX9_isCell_18 rfl (lv_at hl 1 rfl) ?_
      obtain ⟨v5, e6, hF⟩ := Option.bind_eq_some_iff.mp hF
      refine z_ild hx hb hK hP 2 gM_2 e6 dX9_isCell_19 ?_
      refine lv_icmp_ge (tgt := 27) hx hb dX9_isCell_20 (by decide) (fun c7 => ?_) (fun c7 => ?_)
      · rw [if_pos c7] at hF
        refine lv_iconst (v := (0 : Int32)) hx hb dX9_isCell_27 (by decide) ?_
        cases hF
        exact z_zret hx hb hr hlocks hK hP hD hS rfl dX9_isCell_28
      · rw [if_neg c7] at hF
        refine lv_iconst (v := (1 : Int32)) hx hb dX9_isCell_23 (by decide) ?_
        refine lv_goto (tgt := 28) hx hb dX9_isCell_24 (by decide) ?_
        cases hF
        exact z_zret hx hb hr hlocks hK hP hD hS rfl dX9_isCell_28
