-- X0_worstAt X0_placeToAsk X1_spoil X1_testsFailing J6_compare_7cf53 X1_isLesserSet X1_testsInTheWay X2_testsReach
abbrev ts_X0_worstAt : List Cond := .code yX0_worstAt cX0_worstAt 6 (some .int) :: wsL_law
def SH_X0_worstAt (a : Nat → Nat) (ls : Array Slot) (pc : Nat) (vs : List Int32) : Prop := (pc = 0 ∧ ∃ x1 x2 : Int32, vs = [x1, x2] ∧ lv_has ls 6 [(0, .ref (a 29)), (1, .int x1), (2, .int x2)]) ∨ (pc = 5 ∧ ∃ x1 x2 x3 x4 : Int32, vs = [x1, x2, x3, x4] ∧ lv_has ls 6 [(0, .ref (a 29)), (1, .int x1), (2, .int x2), (3, .int x3), (4, .int x4)]) ∨ (pc = 21 ∧ ∃ x1 x2 x3 x4 x5 : Int32, vs = [x1, x2, x3, x4, x5] ∧ lv_has ls 6 [(0, .ref (a 29)), (1, .int x1), (2, .int x2), (3, .int x3), (4, .int x4), (5, .int x5)])
section
variable {p : Program} {l : Launch} {e : Env} {s : State} {m : MethodId} {args : Array Value} {below : List Frame} {meth : Method} {c : Code} {D : va_G} {A : Nat → Prop} {a : Nat → Nat} {cyI cyZ : ClassId} {r : Int32} {σ' : Mem} {q : Mem × List Int32}
set_option maxHeartbeats 4000000 in
set_option maxRecDepth 100000 in
theorem wl_X0_worstAt_0 (σ : Mem) (hC : CX p c cX0_worstAt meth (some .int) s m args yX0_worstAt.cls 6 D cyI cyZ) (hq : extM q = some (r, σ')) (n : Nat) (ih : ∀ (pc : Nat) (x : Mem) (vs : List Int32) (ls : Array Slot) (H : Heap) (locs : List Loc), goL B_X0_worstAt n pc x vs = some q → SH_X0_worstAt a ls pc vs → va_P D vwCl (wC cyI cyZ a x) H → va_D A (wC cyI cyZ a x) → va_S A s.heap H locs → W p l e (headSpec ts_X0_worstAt ({ frames := 2, cells := 0, slots := 0, locals := 43 } : Room)).room s m args below meth c H locs 0 0 (MQ below (QcI D cyI cyZ A (wC cyI cyZ a σ') r) args s 0 0 A) (F0 m pc ls [])) (x1 : Int32) (x2 : Int32) (ls : Array Slot) (H : Heap) (locs : List Loc) (hgo : goL B_X0_worstAt (n + 1) 0 σ [x1, x2] = some q) (hl : lv_has ls 6 [(0, .ref (a 29)), (1, .int x1), (2, .int x2)]) (hP : va_P D vwCl (wC cyI cyZ a σ) H) (hD : va_D A (wC cyI cyZ a σ)) (hS : va_S A s.heap H locs) : W p l e (headSpec ts_X0_worstAt ({ frames := 2, cells := 0, slots := 0, locals := 43 } : Room)).room s m args below meth c H locs 0 0 (MQ below (QcI D cyI cyZ A (wC cyI cyZ a σ') r) args s 0 0 A) (F0 m 0 ls []) := by
  obtain ⟨hx, hb, hr, hml, hown, hts, hK, hN, hlocks⟩ := hC
  have hown : s.vm.findClass RX0 = some m.cls := hown
  obtain ⟨yy, hF, hgo⟩ := goL_step (by decide) hgo
  have hF : B_X0_worstAt_0 σ x1 x2 = some yy := hF
  unfold B_X0_worstAt_0 at hF
  refine lv_iconst (v := (0 : Int32)) hx hb dX0_worstAt_0 (by decide) ?_
  refine lv_istore_n (lv' := [(3, .int (0 : Int32)), (0, .ref (a 29)), (1, .int x1), (2, .int x2)]) hx hb dX0_worstAt_1 rfl hl (by decide) rfl (fun ls hl => ?_)
  refine lv_iconst (v := (0 : Int32)) hx hb dX0_worstAt_2 (by decide) ?_
  refine lv_istore (lv' := [(4, .int (0 : Int32)), (3, .int (0 : Int32)), (0, .ref (a 29)), (1, .int x1), (2, .int x2)]) hx hb dX0_worstAt_3 hl (by decide) rfl (fun ls hl => ?_)
  cases hF
  exact ih _ _ _ _ _ _ hgo (Or.inr (Or.inl ⟨rfl, _, _, _, _, rfl, lv_sub hl [2, 3, 4, 1, 0] rfl⟩)) hP hD hS
set_option maxHeartbeats 4000000 in
set_option maxRecDepth 100000 in
theorem wl_X0_worstAt_5 (σ : Mem) (hC : CX p c cX0_worstAt meth (some .int) s m args yX0_worstAt.cls 6 D cyI cyZ) (hq : extM q = some (r, σ')) (n : Nat) (ih : ∀ (pc : Nat) (x : Mem) (vs : List Int32) (ls : Array Slot) (H : Heap) (locs : List Loc), goL B_X0_worstAt n pc x vs = some q → SH_X0_worstAt a ls pc vs → va_P D vwCl (wC cyI cyZ a x) H → va_D A (wC cyI cyZ a x) → va_S A s.heap H locs → W p l e (headSpec ts_X0_worstAt ({ frames := 2, cells := 0, slots := 0, locals := 43 } : Room)).room s m args below meth c H locs 0 0 (MQ below (QcI D cyI cyZ A (wC cyI cyZ a σ') r) args s 0 0 A) (F0 m pc ls [])) (x1 : Int32) (x2 : Int32) (x3 : Int32) (x4 : Int32) (ls : Array Slot) (H : Heap) (locs : List Loc) (hgo : goL B_X0_worstAt (n + 1) 5 σ [x1, x2, x3, x4] = some q) (hl : lv_has ls 6 [(0, .ref (a 29)), (1, .int x1), (2, .int x2), (3, .int x3), (4, .int x4)]) (hP : va_P D vwCl (wC cyI cyZ a σ) H) (hD : va_D A (wC cyI cyZ a σ)) (hS : va_S A s.heap H locs) : W p l e (headSpec ts_X0_worstAt ({ frames := 2, cells := 0, slots := 0, locals := 43 } : Room)).room s m args below meth c H locs 0 0 (MQ below (QcI D cyI cyZ A (wC cyI cyZ a σ') r) args s 0 0 A) (F0 m 5 ls []) := by
  obtain ⟨hx, hb, hr, hml, hown, hts, hK, hN, hlocks⟩ := hC
  have hown : s.vm.findClass RX0 = some m.cls := hown
  obtain ⟨yy, hF, hgo⟩ := goL_step (by decide) hgo
  have hF : B_X0_worstAt_5 σ x1 x2 x3 x4 = some yy := hF
  unfold B_X0_worstAt_5 at hF
  refine lv_iload hx hb dX0_worstAt_5 (lv_at hl 4 rfl) ?_
  refine lv_iconst (v := (3 : Int32)) hx hb dX0_worstAt_7 (by decide) ?_
  refine lv_icmp_ge (tgt := 80) hx hb dX0_worstAt_8 (by decide) (fun c1 => ?_) (fun c1 => ?_)
  · rw [if_pos c1] at hF
    refine lv_iload_n hx hb dX0_worstAt_80 rfl (lv_at hl 3 rfl) ?_
    cases hF
    obtain ⟨rfl, rfl⟩ := extM_ret hq (goL_ret hgo)
    exact z_iret hx hb hr hlocks hK hP hD hS dX0_worstAt_81
  · rw [if_neg c1] at hF
    refine lv_aload_n hx hb dX0_worstAt_11 rfl (lv_at hl 0 rfl) ?_
    refine va_get (D := D) (ci := 0) (v := .ref (a 30)) (C := RX0) (T := TX0) (N := 6) hx hb hts inlX0 hown hK hP 29 gC_29 rfl 3 (by decide) (hts _ mw_103) (fun _ h9 => h9) rfl dX0_worstAt_12 ?_
    obtain ⟨σ2, e3, hF⟩ := Option.bind_eq_some_iff.mp hF
    refine z_callVV (w' := (wC cyI cyZ a σ2)) (As := []) (rest := []) ⟨hx, hb, hml, hown, hts⟩ (c_X4_empty l D cyI cyZ a A σ  σ2 e3) (cwV 0 hts (gd_V mw_745 mw_746 mw_747 mw_102 mw_748) rfl rfl rfl (by decide +kernel) ⟨Nat.le_of_ble_eq_true rfl, Nat.le_of_ble_eq_true rfl⟩) hK hN hP hD hS 4 30 rfl rfl gC_30 rfl hl.1 rfl (Nat.le_of_ble_eq_true rfl) dX0_worstAt_15 ⟨Nat.zero_le _, Nat.zero_le _⟩ (fun H locs hP hD hS => ?_)
    refine lv_iconst (v := (0 : Int32)) hx hb dX0_worstAt_18 (by decide) ?_
    refine lv_istore (lv' := [(5, .int (0 : Int32)), (0, .ref (a 29)), (1, .int x1), (2, .int x2), (3, .int x3), (4, .int x4)]) hx hb dX0_worstAt_19 hl (by decide) rfl (fun ls hl => ?_)
    cases hF
    exact ih _ _ _ _ _ _ hgo (Or.inr (Or.inr (⟨rfl, _, _, _, _, _, rfl, lv_sub hl [1, 2, 3, 4, 5, 0] rfl⟩))) hP hD hS
set_option maxHeartbeats 4000000 in
set_option maxRecDepth 100000 in
theorem wl_X0_worstAt_21 (σ : Mem) (hC : CX p c cX0_worstAt meth (some .int) s m args yX0_worstAt.cls 6 D cyI cyZ) (hq : extM q = some (r, σ')) (n : Nat) (ih : ∀ (pc : Nat) (x : Mem) (vs : List Int32) (ls : Array Slot) (H : Heap) (locs : List Loc), goL B_X0_worstAt n pc x vs = some q → SH_X0_worstAt a ls pc vs → va_P D vwCl (wC cyI cyZ a x) H → va_D A (wC cyI cyZ a x) → va_S A s.heap H locs → W p l e (headSpec ts_X0_worstAt ({ frames := 2, cells := 0, slots := 0, locals := 43 } : Room)).room s m args below meth c H locs 0 0 (MQ below (QcI D cyI cyZ A (wC cyI cyZ a σ') r) args s 0 0 A) (F0 m pc ls [])) (x1 : Int32) (x2 : Int32) (x3 : Int32) (x4 : Int32) (x5 : Int32) (ls : Array Slot) (H : Heap) (locs : List Loc) (hgo : goL B_X0_worstAt (n + 1) 21 σ [x1, x2, x3, x4, x5] = some q) (hl : lv_has ls 6 [(0, .ref (a 29)), (1, .int x1), (2, .int x2), (3, .int x3), (4, .int x4), (5, .int x5)]) (hP : va_P D vwCl (wC cyI cyZ a σ) H) (hD : va_D A (wC cyI cyZ a σ)) (hS : va_S A s.heap H locs) : W p l e (headSpec ts_X0_worstAt ({ frames := 2, cells := 0, slots := 0, locals := 43 } : Room)).room s m args below meth c H locs 0 0 (MQ below (QcI D cyI cyZ A (wC cyI cyZ a σ') r) args s 0 0 A) (F0 m 21 ls []) := by
  obtain ⟨hx, hb, hr, hml, hown, hts, hK, hN, hlocks⟩ := hC
  have hown : s.vm.findClass RX0 = some m.cls := hown
  obtain ⟨yy, hF, hgo⟩ := goL_step (by decide) hgo
  have hF : B_X0_worstAt_21 σ x1 x2 x3 x4 x5 = some yy := hF
  unfold B_X0_worstAt_21 at hF
  refine lv_iload hx hb dX0_worstAt_21 (lv_at hl 5 rfl) ?_
  refine lv_iload_n hx hb dX0_worstAt_23 rfl (lv_at hl 2 rfl) ?_
  refine lv_icmp_ge (tgt := 62) hx hb dX0_worstAt_24 (by decide) (fun c1 => ?_) (fun c1 => ?_)
  · rw [if_pos c1] at hF
    refine lv_iload_n hx hb dX0_worstAt_62 rfl (lv_at hl 3 rfl) ?_
    refine lv_aload_n hx hb dX0_worstAt_63 rfl (lv_at hl 0 rfl) ?_
    refine va_get (D := D) (ci := 0) (v := .ref (a 30)) (C := RX0) (T := TX0) (N := 6) hx hb hts inlX0 hown hK hP 29 gC_29 rfl 3 (by decide) (hts _ mw_103) (fun _ h9 => h9) rfl dX0_worstAt_64 ?_
    refine z_callVI (w' := (wC cyI cyZ a σ)) (As := []) (rest := [.int x3]) ⟨hx, hb, hml, hown, hts⟩ (c_X4_size l D cyI cyZ a A σ  _ rfl) (cwV 0 hts (gd_V mw_756 mw_757 mw_758 mw_102 mw_759) rfl rfl rfl (by decide +kernel) ⟨Nat.le_of_ble_eq_true rfl, Nat.le_of_ble_eq_true rfl⟩) hK hN hP hD hS 4 30 rfl rfl gC_30 rfl hl.1 rfl (Nat.le_of_ble_eq_true rfl) dX0_worstAt_67 ⟨Nat.zero_le _, Nat.zero_le _⟩ (fun H locs hP hD hS => ?_)
    refine va_mmax hx hb (hml.trans hl.1.symm) hown (hts _ mw_795) (hts _ mw_701) (hts _ mw_702) (hts _ mw_703) (Nat.le_of_ble_eq_true rfl) (Nat.le_of_ble_eq_true rfl) (Nat.zero_le _) (Nat.zero_le _) dX0_worstAt_70 ?_
    obtain ⟨y2, e3, hF⟩ := Option.bind_eq_some_iff.mp hF
    refine z_top e3 ?_
    refine lv_istore_n (lv' := [(3, .int y2), (0, .ref (a 29)), (1, .int x1), (2, .int x2), (4, .int x4), (5, .int x5)]) hx hb dX0_worstAt_73 rfl hl (by decide) rfl (fun ls hl => ?_)
    refine lv_iinc (v := (x4 + (1 : Int32))) (lv' := [(4, .int (x4 + (1 : Int32))), (3, .int y2), (0, .ref (a 29)), (1, .int x1), (2, .int x2), (5, .int x5)]) hx hb dX0_worstAt_74 hl (k := 4) rfl rfl (by decide) rfl (fun ls hl => ?_)
    refine lv_goto (tgt := 5) hx hb dX0_worstAt_77 (by decide) ?_
    cases hF
    exact ih _ _ _ _ _ _ hgo (Or.inr (Or.inl ⟨rfl, _, _, _, _, rfl, lv_sub hl [2, 3, 4, 1, 0] rfl⟩)) hP hD hS
  · rw [if_neg c1] at hF
    refine lv_aload_n hx hb dX0_worstAt_27 rfl (lv_at hl 0 rfl) ?_
    refine va_get (D := D) (ci := 0) (v := .ref (a 16)) (C := RX0) (T := TX0) (N := 6) hx hb hts inlX0 hown hK hP 29 gC_29 rfl 1 (by decide) (hts _ mw_106) (fun _ h9 => h9) rfl dX0_worstAt_28 ?_
    refine lv_iload hx hb dX0_worstAt_31 (lv_at hl 5 rfl) ?_
    refine lv_iload_n hx hb dX0_worstAt_33 rfl (lv_at hl 1 rfl) ?_
    obtain ⟨v4, e5, hF⟩ := Option.bind_eq_some_iff.mp hF
    refine z_callVI (w' := (wC cyI cyZ a σ)) (As := [.int x5, .int x1]) (rest := []) ⟨hx, hb, hml, hown, hts⟩ (c_X5_meaningAt l D cyI cyZ a A σ x5 x1 _ e5) (cwV 2 hts (gd_V mw_790 mw_575 mw_576 mw_26 mw_577) rfl rfl rfl (by decide +kernel) ⟨Nat.le_of_ble_eq_true rfl, Nat.le_of_ble_eq_true rfl⟩) hK hN hP hD hS 5 16 rfl rfl gC_16 rfl hl.1 rfl (Nat.le_of_ble_eq_true rfl) dX0_worstAt_34 ⟨Nat.zero_le _, Nat.zero_le _⟩ (fun H locs hP hD hS => ?_)
    refine lv_iload hx hb dX0_worstAt_37 (lv_at hl 4 rfl) ?_
    refine lv_icmp_ne (tgt := 56) hx hb dX0_worstAt_39 (by decide) (fun c6 => ?_) (fun c6 => ?_)
    · rw [if_neg c6] at hF
      refine lv_iinc (v := (x5 + (1 : Int32))) (lv' := [(5, .int (x5 + (1 : Int32))), (0, .ref (a 29)), (1, .int x1), (2, .int x2), (3, .int x3), (4, .int x4)]) hx hb dX0_worstAt_56 hl (k := 5) rfl rfl (by decide) rfl (fun ls hl => ?_)
      refine lv_goto (tgt := 21) hx hb dX0_worstAt_59 (by decide) ?_
      cases hF
      exact ih _ _ _ _ _ _ hgo (Or.inr (Or.inr (⟨rfl, _, _, _, _, _, rfl, lv_sub hl [1, 2, 3, 4, 5, 0] rfl⟩))) hP hD hS
    · rw [if_pos c6] at hF
      refine lv_aload_n hx hb dX0_worstAt_42 rfl (lv_at hl 0 rfl) ?_
      refine va_get (D := D) (ci := 0) (v := .ref (a 30)) (C := RX0) (T := TX0) (N := 6) hx hb hts inlX0 hown hK hP 29 gC_29 rfl 3 (by decide) (hts _ mw_103) (fun _ h9 => h9) rfl dX0_worstAt_43 ?_
      refine lv_aload_n hx hb dX0_worstAt_46 rfl (lv_at hl 0 rfl) ?_
      refine va_get (D := D) (ci := 0) (v := .ref (a 33)) (C := RX0) (T := TX0) (N := 6) hx hb hts inlX0 hown hK hP 29 gC_29 rfl 4 (by decide) (hts _ mw_104) (fun _ h9 => h9) rfl dX0_worstAt_47 ?_
      refine lv_iload hx hb dX0_worstAt_50 (lv_at hl 5 rfl) ?_
      obtain ⟨v7, e8, hF⟩ := Option.bind_eq_some_iff.mp hF
      refine z_ild hx hb hK hP 33 gC_33 e8 dX0_worstAt_52 ?_
      obtain ⟨σ9, e10, hF⟩ := Option.bind_eq_some_iff.mp hF
      refine z_callVV (w' := (wC cyI cyZ a σ9)) (As := [.int v7]) (rest := []) ⟨hx, hb, hml, hown, hts⟩ (c_X4_add l D cyI cyZ a A σ v7 σ9 e10) (cwV 1 hts (gd_V mw_751 mw_752 mw_753 mw_102 mw_754) rfl rfl rfl (by decide +kernel) ⟨Nat.le_of_ble_eq_true rfl, Nat.le_of_ble_eq_true rfl⟩) hK hN hP hD hS 4 30 rfl rfl gC_30 rfl hl.1 rfl (Nat.le_of_ble_eq_true rfl) dX0_worstAt_53 ⟨Nat.zero_le _, Nat.zero_le _⟩ (fun H locs hP hD hS => ?_)
      refine lv_iinc (v := (x5 + (1 : Int32))) (lv' := [(5, .int (x5 + (1 : Int32))), (0, .ref (a 29)), (1, .int x1), (2, .int x2), (3, .int x3), (4, .int x4)]) hx hb dX0_worstAt_56 hl (k := 5) rfl rfl (by decide) rfl (fun ls hl => ?_)
      refine lv_goto (tgt := 21) hx hb dX0_worstAt_59 (by decide) ?_
      cases hF
      exact ih _ _ _ _ _ _ hgo (Or.inr (Or.inr (⟨rfl, _, _, _, _, _, rfl, lv_sub hl [1, 2, 3, 4, 5, 0] rfl⟩))) hP hD hS
theorem wk_X0_worstAt (hC : CX p c cX0_worstAt meth (some .int) s m args yX0_worstAt.cls 6 D cyI cyZ) (hq : extM q = some (r, σ')) : ∀ (n : Nat), ∀ (pc : Nat) (x : Mem) (vs : List Int32) (ls : Array Slot) (H : Heap) (locs : List Loc), goL B_X0_worstAt n pc x vs = some q → SH_X0_worstAt a ls pc vs → va_P D vwCl (wC cyI cyZ a x) H → va_D A (wC cyI cyZ a x) → va_S A s.heap H locs → W p l e (headSpec ts_X0_worstAt ({ frames := 2, cells := 0, slots := 0, locals := 43 } : Room)).room s m args below meth c H locs 0 0 (MQ below (QcI D cyI cyZ A (wC cyI cyZ a σ') r) args s 0 0 A) (F0 m pc ls []) := by
  intro n
  induction n with
  | zero => intro pc x vs ls H locs h; exact absurd h (by simp [goL])
  | succ n ih =>
    intro pc x vs ls H locs hgo hsh hP hD hS
    rcases hsh with ⟨rfl, x1, x2, rfl, hl⟩ | ⟨rfl, x1, x2, x3, x4, rfl, hl⟩ | ⟨rfl, x1, x2, x3, x4, x5, rfl, hl⟩
    · exact wl_X0_worstAt_0 x hC hq n ih x1 x2 ls H locs hgo hl hP hD hS
    · exact wl_X0_worstAt_5 x hC hq n ih x1 x2 x3 x4 ls H locs hgo hl hP hD hS
    · exact wl_X0_worstAt_21 x hC hq n ih x1 x2 x3 x4 x5 ls H locs hgo hl hP hD hS
end
theorem c_X0_worstAt (l : Launch) (D : va_G) (cyI cyZ : ClassId) (a : Nat → Nat) (A : Nat → Prop) (σ : Mem) (x1 : Int32) (x2 : Int32) (r : Int32) (σ' : Mem) (hF : F_X0_worstAt σ x1 x2 = some (r, σ')) : CtI l yX0_worstAt ts_X0_worstAt ({ frames := 2, cells := 0, slots := 0, locals := 43 } : Room) [.ref (a 29), .int x1, .int x2] D cyI cyZ A (wC cyI cyZ a σ) (wC cyI cyZ a σ') r := by
  refine CtI.of (cc := cX0_worstAt) (maxL := 6) (ret := (some .int)) (by decide) rfl (Nat.le_of_ble_eq_true rfl) ?_
  intro p e s m below meth c ls hC hP hD hl
  obtain ⟨q, hq, hr1⟩ := Option.bind_eq_some_iff.mp hF
  obtain ⟨n, hn⟩ := finL_some hq
  exact wk_X0_worstAt hC hr1 n 0 _ _ ls _ _ hn (Or.inl ⟨rfl, _, _, rfl, hl⟩) hP hD va_S.rf
abbrev ts_X0_placeToAsk : List Cond := .code yX0_placeToAsk cX0_placeToAsk 6 (some .int) :: wsL_law
def SH_X0_placeToAsk (a : Nat → Nat) (ls : Array Slot) (pc : Nat) (vs : List Int32) : Prop := (pc = 0 ∧ ∃ x1 : Int32, vs = [x1] ∧ lv_has ls 6 [(0, .ref (a 29)), (1, .int x1)]) ∨ (pc = 10 ∧ ∃ x1 x2 x3 x4 : Int32, vs = [x1, x2, x3, x4] ∧ lv_has ls 6 [(0, .ref (a 29)), (1, .int x1), (2, .int x2), (3, .int x3), (4, .int x4)])
section
variable {p : Program} {l : Launch} {e : Env} {s : State} {m : MethodId} {args : Array Value} {below : List Frame} {meth : Method} {c : Code} {D : va_G} {A : Nat → Prop} {a : Nat → Nat} {cyI cyZ : ClassId} {r : Int32} {σ' : Mem} {q : Mem × List Int32}
set_option maxHeartbeats 4000000 in
set_option maxRecDepth 100000 in
theorem wl_X0_placeToAsk_0 (σ : Mem) (hC : CX p c cX0_placeToAsk meth (some .int) s m args yX0_placeToAsk.cls 6 D cyI cyZ) (hq : extM q = some (r, σ')) (n : Nat) (ih : ∀ (pc : Nat) (x : Mem) (vs : List Int32) (ls : Array Slot) (H : Heap) (locs : List Loc), goL B_X0_placeToAsk n pc x vs = some q → SH_X0_placeToAsk a ls pc vs → va_P D vwCl (wC cyI cyZ a x) H → va_D A (wC cyI cyZ a x) → va_S A s.heap H locs → W p l e (headSpec ts_X0_placeToAsk ({ frames := 3, cells := 0, slots := 0, locals := 68 } : Room)).room s m args below meth c H locs 0 0 (MQ below (QcI D cyI cyZ A (wC cyI cyZ a σ') r) args s 0 0 A) (F0 m pc ls [])) (x1 : Int32) (ls : Array Slot) (H : Heap) (locs : List Loc) (hgo : goL B_X0_placeToAsk (n + 1) 0 σ [x1] = some q) (hl : lv_has ls 6 [(0, .ref (a 29)), (1, .int x1)]) (hP : va_P D vwCl (wC cyI cyZ a σ) H) (hD : va_D A (wC cyI cyZ a σ)) (hS : va_S A s.heap H locs) : W p l e (headSpec ts_X0_placeToAsk ({ frames := 3, cells := 0, slots := 0, locals := 68 } : Room)).room s m args below meth c H locs 0 0 (MQ below (QcI D cyI cyZ A (wC cyI cyZ a σ') r) args s 0 0 A) (F0 m 0 ls []) := by
  obtain ⟨hx, hb, hr, hml, hown, hts, hK, hN, hlocks⟩ := hC
  have hown : s.vm.findClass RX0 = some m.cls := hown
  obtain ⟨yy, hF, hgo⟩ := goL_step (by decide) hgo
  have hF : B_X0_placeToAsk_0 σ x1 = some yy := hF
  unfold B_X0_placeToAsk_0 at hF
  refine lv_bipush (v := (-5 : Int32)) hx hb dX0_placeToAsk_0 (by decide) ?_
  refine lv_istore_n (lv' := [(2, .int (-5 : Int32)), (0, .ref (a 29)), (1, .int x1)]) hx hb dX0_placeToAsk_2 rfl hl (by decide) rfl (fun ls hl => ?_)
  refine lv_sipush (v := (6562 : Int32)) hx hb dX0_placeToAsk_3 (by decide) ?_
  refine lv_istore_n (lv' := [(3, .int (6562 : Int32)), (2, .int (-5 : Int32)), (0, .ref (a 29)), (1, .int x1)]) hx hb dX0_placeToAsk_6 rfl hl (by decide) rfl (fun ls hl => ?_)
  refine lv_iconst (v := (0 : Int32)) hx hb dX0_placeToAsk_7 (by decide) ?_
  refine lv_istore (lv' := [(4, .int (0 : Int32)), (3, .int (6562 : Int32)), (2, .int (-5 : Int32)), (0, .ref (a 29)), (1, .int x1)]) hx hb dX0_placeToAsk_8 hl (by decide) rfl (fun ls hl => ?_)
  cases hF
  exact ih _ _ _ _ _ _ hgo (Or.inr (⟨rfl, _, _, _, _, rfl, lv_sub hl [3, 4, 2, 1, 0] rfl⟩)) hP hD hS
set_option maxHeartbeats 4000000 in
set_option maxRecDepth 100000 in
theorem wl_X0_placeToAsk_10 (σ : Mem) (hC : CX p c cX0_placeToAsk meth (some .int) s m args yX0_placeToAsk.cls 6 D cyI cyZ) (hq : extM q = some (r, σ')) (n : Nat) (ih : ∀ (pc : Nat) (x : Mem) (vs : List Int32) (ls : Array Slot) (H : Heap) (locs : List Loc), goL B_X0_placeToAsk n pc x vs = some q → SH_X0_placeToAsk a ls pc vs → va_P D vwCl (wC cyI cyZ a x) H → va_D A (wC cyI cyZ a x) → va_S A s.heap H locs → W p l e (headSpec ts_X0_placeToAsk ({ frames := 3, cells := 0, slots := 0, locals := 68 } : Room)).room s m args below meth c H locs 0 0 (MQ below (QcI D cyI cyZ A (wC cyI cyZ a σ') r) args s 0 0 A) (F0 m pc ls [])) (x1 : Int32) (x2 : Int32) (x3 : Int32) (x4 : Int32) (ls : Array Slot) (H : Heap) (locs : List Loc) (hgo : goL B_X0_placeToAsk (n + 1) 10 σ [x1, x2, x3, x4] = some q) (hl : lv_has ls 6 [(0, .ref (a 29)), (1, .int x1), (2, .int x2), (3, .int x3), (4, .int x4)]) (hP : va_P D vwCl (wC cyI cyZ a σ) H) (hD : va_D A (wC cyI cyZ a σ)) (hS : va_S A s.heap H locs) : W p l e (headSpec ts_X0_placeToAsk ({ frames := 3, cells := 0, slots := 0, locals := 68 } : Room)).room s m args below meth c H locs 0 0 (MQ below (QcI D cyI cyZ A (wC cyI cyZ a σ') r) args s 0 0 A) (F0 m 10 ls []) := by
  obtain ⟨hx, hb, hr, hml, hown, hts, hK, hN, hlocks⟩ := hC
  have hown : s.vm.findClass RX0 = some m.cls := hown
  obtain ⟨yy, hF, hgo⟩ := goL_step (by decide) hgo
  have hF : B_X0_placeToAsk_10 σ x1 x2 x3 x4 = some yy := hF
  unfold B_X0_placeToAsk_10 at hF
  refine lv_iload hx hb dX0_placeToAsk_10 (lv_at hl 4 rfl) ?_
  refine lv_aload_n hx hb dX0_placeToAsk_12 rfl (lv_at hl 0 rfl) ?_
  refine va_get (D := D) (ci := 0) (v := .ref (a 13)) (C := RX0) (T := TX0) (N := 6) hx hb hts inlX0 hown hK hP 29 gC_29 rfl 0 (by decide) (hts _ mw_105) (fun _ h9 => h9) rfl dX0_placeToAsk_13 ?_
  refine z_callVI (w' := (wC cyI cyZ a σ)) (As := []) (rest := [.int x4]) ⟨hx, hb, hml, hown, hts⟩ (c_X3_size l D cyI cyZ a A σ  _ rfl) (cwV 0 hts (gd_V mw_785 mw_340 mw_341 mw_22 mw_342) rfl rfl rfl (by decide +kernel) ⟨Nat.le_of_ble_eq_true rfl, Nat.le_of_ble_eq_true rfl⟩) hK hN hP hD hS 3 13 rfl rfl gC_13 rfl hl.1 rfl (Nat.le_of_ble_eq_true rfl) dX0_placeToAsk_16 ⟨Nat.zero_le _, Nat.zero_le _⟩ (fun H locs hP hD hS => ?_)
  refine lv_icmp_ge (tgt := 63) hx hb dX0_placeToAsk_19 (by decide) (fun c1 => ?_) (fun c1 => ?_)
  · rw [if_pos c1] at hF
    refine lv_iload_n hx hb dX0_placeToAsk_63 rfl (lv_at hl 2 rfl) ?_
    cases hF
    obtain ⟨rfl, rfl⟩ := extM_ret hq (goL_ret hgo)
    exact z_iret hx hb hr hlocks hK hP hD hS dX0_placeToAsk_64
  · rw [if_neg c1] at hF
    refine lv_aload_n hx hb dX0_placeToAsk_22 rfl (lv_at hl 0 rfl) ?_
    refine lv_iload hx hb dX0_placeToAsk_23 (lv_at hl 4 rfl) ?_
    refine lv_iload_n hx hb dX0_placeToAsk_25 rfl (lv_at hl 1 rfl) ?_
    obtain ⟨v2, e3, hF⟩ := Option.bind_eq_some_iff.mp hF
    refine z_callVI (w' := (wC cyI cyZ a σ)) (As := [.int x4, .int x1]) (rest := []) ⟨hx, hb, hml, hown, hts⟩ (c_X0_parts l D cyI cyZ a A σ x4 x1 _ e3) (cwV 2 hts (gd_V mw_786 mw_787 mw_788 mw_34 mw_789) rfl rfl rfl (by decide +kernel) ⟨Nat.le_of_ble_eq_true rfl, Nat.le_of_ble_eq_true rfl⟩) hK hN hP hD hS 0 29 rfl rfl gC_29 rfl hl.1 rfl (Nat.le_of_ble_eq_true rfl) dX0_placeToAsk_26 ⟨Nat.zero_le _, Nat.zero_le _⟩ (fun H locs hP hD hS => ?_)
    refine lv_if_eq (tgt := 42) hx hb dX0_placeToAsk_29 (by decide) (fun c4 => ?_) (fun c4 => ?_)
    · rw [if_pos c4] at hF
      refine lv_iload_n hx hb dX0_placeToAsk_42 rfl (lv_at hl 3 rfl) ?_
      refine lv_istore (lv' := [(5, .int x3), (0, .ref (a 29)), (1, .int x1), (2, .int x2), (3, .int x3), (4, .int x4)]) hx hb dX0_placeToAsk_43 hl (by decide) rfl (fun ls hl => ?_)
      refine lv_iload hx hb dX0_placeToAsk_45 (lv_at hl 0 rfl) ?_
      refine lv_iload_n hx hb dX0_placeToAsk_47 rfl (lv_at hl 4 rfl) ?_
      refine lv_icmp_ge (tgt := 57) hx hb dX0_placeToAsk_48 (by decide) (fun c5 => ?_) (fun c5 => ?_)
      · rw [if_pos c5] at hF
        refine lv_iinc (v := (x4 + (1 : Int32))) (lv' := [(4, .int (x4 + (1 : Int32))), (5, .int x3), (0, .ref (a 29)), (1, .int x1), (2, .int x2), (3, .int x3)]) hx hb dX0_placeToAsk_57 hl (k := 5) rfl rfl (by decide) rfl (fun ls hl => ?_)
        refine lv_goto (tgt := 10) hx hb dX0_placeToAsk_60 (by decide) ?_
        cases hF
        exact ih _ _ _ _ _ _ hgo (Or.inr (⟨rfl, _, _, _, _, rfl, lv_sub hl [2, 3, 4, 5, 0] rfl⟩)) hP hD hS
      · rw [if_neg c5] at hF
        refine lv_iload hx hb dX0_placeToAsk_51 (lv_at hl 0 rfl) ?_
        refine lv_istore_n (lv' := [(3, .int x3), (5, .int x3), (0, .ref (a 29)), (1, .int x1), (2, .int x2), (4, .int x4)]) hx hb dX0_placeToAsk_53 rfl hl (by decide) rfl (fun ls hl => ?_)
        refine lv_iload hx hb dX0_placeToAsk_54 (lv_at hl 5 rfl) ?_
        refine lv_istore_n (lv' := [(2, .int x4), (3, .int x3), (5, .int x3), (0, .ref (a 29)), (1, .int x1), (4, .int x4)]) hx hb dX0_placeToAsk_56 rfl hl (by decide) rfl (fun ls hl => ?_)
        refine lv_iinc (v := (x4 + (1 : Int32))) (lv' := [(4, .int (x4 + (1 : Int32))), (2, .int x4), (3, .int x3), (5, .int x3), (0, .ref (a 29)), (1, .int x1)]) hx hb dX0_placeToAsk_57 hl (k := 5) rfl rfl (by decide) rfl (fun ls hl => ?_)
        refine lv_goto (tgt := 10) hx hb dX0_placeToAsk_60 (by decide) ?_
        cases hF
        exact ih _ _ _ _ _ _ hgo (Or.inr (⟨rfl, _, _, _, _, rfl, lv_sub hl [4, 5, 1, 2, 0] rfl⟩)) hP hD hS
    · rw [if_neg c4] at hF
      refine lv_aload_n hx hb dX0_placeToAsk_32 rfl (lv_at hl 0 rfl) ?_
      refine lv_iload hx hb dX0_placeToAsk_33 (lv_at hl 4 rfl) ?_
      refine lv_iload_n hx hb dX0_placeToAsk_35 rfl (lv_at hl 1 rfl) ?_
      obtain ⟨p6, e7, hF⟩ := Option.bind_eq_some_iff.mp hF
      refine z_callVI (w' := (wC cyI cyZ a p6.2)) (As := [.int x4, .int x1]) (rest := []) ⟨hx, hb, hml, hown, hts⟩ (c_X0_worstAt l D cyI cyZ a A σ x4 x1 p6.1 p6.2 e7) (cwV 2 hts (gd_V mw_791 mw_792 mw_793 mw_34 mw_794) rfl rfl rfl (by decide +kernel) ⟨Nat.le_of_ble_eq_true rfl, Nat.le_of_ble_eq_true rfl⟩) hK hN hP hD hS 0 29 rfl rfl gC_29 rfl hl.1 rfl (Nat.le_of_ble_eq_true rfl) dX0_placeToAsk_36 ⟨Nat.zero_le _, Nat.zero_le _⟩ (fun H locs hP hD hS => ?_)
      refine lv_goto (tgt := 43) hx hb dX0_placeToAsk_39 (by decide) ?_
      refine lv_istore (lv' := [(5, .int p6.1), (0, .ref (a 29)), (1, .int x1), (2, .int x2), (3, .int x3), (4, .int x4)]) hx hb dX0_placeToAsk_43 hl (by decide) rfl (fun ls hl => ?_)
      refine lv_iload hx hb dX0_placeToAsk_45 (lv_at hl 0 rfl) ?_
      refine lv_iload_n hx hb dX0_placeToAsk_47 rfl (lv_at hl 4 rfl) ?_
      refine lv_icmp_ge (tgt := 57) hx hb dX0_placeToAsk_48 (by decide) (fun c8 => ?_) (fun c8 => ?_)
      · rw [if_pos c8] at hF
        refine lv_iinc (v := (x4 + (1 : Int32))) (lv' := [(4, .int (x4 + (1 : Int32))), (5, .int p6.1), (0, .ref (a 29)), (1, .int x1), (2, .int x2), (3, .int x3)]) hx hb dX0_placeToAsk_57 hl (k := 5) rfl rfl (by decide) rfl (fun ls hl => ?_)
        refine lv_goto (tgt := 10) hx hb dX0_placeToAsk_60 (by decide) ?_
        cases hF
        exact ih _ _ _ _ _ _ hgo (Or.inr (⟨rfl, _, _, _, _, rfl, lv_sub hl [2, 3, 4, 5, 0] rfl⟩)) hP hD hS
      · rw [if_neg c8] at hF
        refine lv_iload hx hb dX0_placeToAsk_51 (lv_at hl 0 rfl) ?_
        refine lv_istore_n (lv' := [(3, .int p6.1), (5, .int p6.1), (0, .ref (a 29)), (1, .int x1), (2, .int x2), (4, .int x4)]) hx hb dX0_placeToAsk_53 rfl hl (by decide) rfl (fun ls hl => ?_)
        refine lv_iload hx hb dX0_placeToAsk_54 (lv_at hl 5 rfl) ?_
        refine lv_istore_n (lv' := [(2, .int x4), (3, .int p6.1), (5, .int p6.1), (0, .ref (a 29)), (1, .int x1), (4, .int x4)]) hx hb dX0_placeToAsk_56 rfl hl (by decide) rfl (fun ls hl => ?_)
        refine lv_iinc (v := (x4 + (1 : Int32))) (lv' := [(4, .int (x4 + (1 : Int32))), (2, .int x4), (3, .int p6.1), (5, .int p6.1), (0, .ref (a 29)), (1, .int x1)]) hx hb dX0_placeToAsk_57 hl (k := 5) rfl rfl (by decide) rfl (fun ls hl => ?_)
        refine lv_goto (tgt := 10) hx hb dX0_placeToAsk_60 (by decide) ?_
        cases hF
        exact ih _ _ _ _ _ _ hgo (Or.inr (⟨rfl, _, _, _, _, rfl, lv_sub hl [4, 5, 1, 2, 0] rfl⟩)) hP hD hS
theorem wk_X0_placeToAsk (hC : CX p c cX0_placeToAsk meth (some .int) s m args yX0_placeToAsk.cls 6 D cyI cyZ) (hq : extM q = some (r, σ')) : ∀ (n : Nat), ∀ (pc : Nat) (x : Mem) (vs : List Int32) (ls : Array Slot) (H : Heap) (locs : List Loc), goL B_X0_placeToAsk n pc x vs = some q → SH_X0_placeToAsk a ls pc vs → va_P D vwCl (wC cyI cyZ a x) H → va_D A (wC cyI cyZ a x) → va_S A s.heap H locs → W p l e (headSpec ts_X0_placeToAsk ({ frames := 3, cells := 0, slots := 0, locals := 68 } : Room)).room s m args below meth c H locs 0 0 (MQ below (QcI D cyI cyZ A (wC cyI cyZ a σ') r) args s 0 0 A) (F0 m pc ls []) := by
  intro n
  induction n with
  | zero => intro pc x vs ls H locs h; exact absurd h (by simp [goL])
  | succ n ih =>
    intro pc x vs ls H locs hgo hsh hP hD hS
    rcases hsh with ⟨rfl, x1, rfl, hl⟩ | ⟨rfl, x1, x2, x3, x4, rfl, hl⟩
    · exact wl_X0_placeToAsk_0 x hC hq n ih x1 ls H locs hgo hl hP hD hS
    · exact wl_X0_placeToAsk_10 x hC hq n ih x1 x2 x3 x4 ls H locs hgo hl hP hD hS
end
theorem c_X0_placeToAsk (l : Launch) (D : va_G) (cyI cyZ : ClassId) (a : Nat → Nat) (A : Nat → Prop) (σ : Mem) (x1 : Int32) (r : Int32) (σ' : Mem) (hF : F_X0_placeToAsk σ x1 = some (r, σ')) : CtI l yX0_placeToAsk ts_X0_placeToAsk ({ frames := 3, cells := 0, slots := 0, locals := 68 } : Room) [.ref (a 29), .int x1] D cyI cyZ A (wC cyI cyZ a σ) (wC cyI cyZ a σ') r := by
  refine CtI.of (cc := cX0_placeToAsk) (maxL := 6) (ret := (some .int)) (by decide) rfl (Nat.le_of_ble_eq_true rfl) ?_
  intro p e s m below meth c ls hC hP hD hl
  obtain ⟨q, hq, hr1⟩ := Option.bind_eq_some_iff.mp hF
  obtain ⟨n, hn⟩ := finL_some hq
  exact wk_X0_placeToAsk hC hr1 n 0 _ _ ls _ _ hn (Or.inl ⟨rfl, _, rfl, hl⟩) hP hD va_S.rf
abbrev ts_X1_spoil : List Cond := .code yX1_spoil cX1_spoil 1 none :: wsL_law
set_option maxHeartbeats 4000000 in
set_option maxRecDepth 100000 in
theorem c_X1_spoil (l : Launch) (D : va_G) (cyI cyZ : ClassId) (a : Nat → Nat) (A : Nat → Prop) (σ : Mem) (σ' : Mem) (hF : F_X1_spoil σ  = some σ') : CtV l yX1_spoil ts_X1_spoil ({ frames := 1, cells := 0, slots := 0, locals := 23 } : Room) [.ref (a 27)] D cyI cyZ A (wC cyI cyZ a σ) (wC cyI cyZ a σ') := by
  refine CtV.of (cc := cX1_spoil) (maxL := 1) (ret := none) (by decide) rfl (Nat.le_of_ble_eq_true rfl) ?_
  intro p e s m below meth c ls hC hP hD hl
  obtain ⟨hx, hb, hr, hml, hown, hts, hK, hN, hlocks⟩ := hC
  have hown : s.vm.findClass RX1 = some m.cls := hown
  have hS : va_S A s.heap s.heap [] := va_S.rf
  have hl : lv_has ls 1 [(0, .ref (a 27))] := hl
  unfold F_X1_spoil at hF
  refine lv_aload_n hx hb dX1_spoil_0 rfl (lv_at hl 0 rfl) ?_
  refine va_get (D := D) (ci := 1) (v := .ref (a 28)) (C := RX1) (T := TX1) (N := 2) hx hb hts inlX1 hown hK hP 27 gC_27 rfl 1 (by decide) (hts _ mw_93) (fun _ h9 => h9) rfl dX1_spoil_1 ?_
  refine lv_iconst (v := (-1 : Int32)) hx hb dX1_spoil_4 (by decide) ?_
  obtain ⟨σ1, e2, hF⟩ := Option.bind_eq_some_iff.mp hF
  refine z_callSV (w' := (wC cyI cyZ a σ1)) (As := [.ref (a 28), .int (-1 : Int32)]) (rest := []) ⟨hx, hb, hml, hown, hts⟩ (c_fill28 l D cyI cyZ a A σ (-1 : Int32) σ1 e2) (va_cwS 2 hts (gd_S mw_95 mw_47 mw_48 mw_49) rfl rfl rfl (by decide +kernel) ⟨Nat.le_of_ble_eq_true rfl, Nat.le_of_ble_eq_true rfl⟩) hK hN hP hD hS rfl hl.1 rfl (Nat.le_of_ble_eq_true rfl) dX1_spoil_5 ⟨Nat.zero_le _, Nat.zero_le _⟩ (fun H locs hP hD hS => ?_)
  cases hF
  exact z_vret hx hb hr hlocks hK hP hD hS dX1_spoil_8
abbrev ts_X1_testsFailing : List Cond := .code yX1_testsFailing cX1_testsFailing 5 (some .int) :: wsL_law
def SH_X1_testsFailing (a : Nat → Nat) (ls : Array Slot) (pc : Nat) (vs : List Int32) : Prop := (pc = 0 ∧ ∃ x2 : Int32, vs = [x2] ∧ lv_has ls 5 [(0, .ref (a 27)), (1, .ref (a 17)), (2, .int x2)]) ∨ (pc = 5 ∧ ∃ x2 x3 x4 : Int32, vs = [x2, x3, x4] ∧ lv_has ls 5 [(0, .ref (a 27)), (1, .ref (a 17)), (2, .int x2), (3, .int x3), (4, .int x4)])
section
variable {p : Program} {l : Launch} {e : Env} {s : State} {m : MethodId} {args : Array Value} {below : List Frame} {meth : Method} {c : Code} {D : va_G} {A : Nat → Prop} {a : Nat → Nat} {cyI cyZ : ClassId} {r : Int32} {σ' : Mem} {q : Mem × List Int32}
set_option maxHeartbeats 4000000 in
set_option maxRecDepth 100000 in
theorem wl_X1_testsFailing_0 (σ : Mem) (hC : CX p c cX1_testsFailing meth (some .int) s m args yX1_testsFailing.cls 5 D cyI cyZ) (hq : extM q = some (r, σ')) (n : Nat) (ih : ∀ (pc : Nat) (x : Mem) (vs : List Int32) (ls : Array Slot) (H : Heap) (locs : List Loc), goL B_X1_testsFailing n pc x vs = some q → SH_X1_testsFailing a ls pc vs → va_P D vwCl (wC cyI cyZ a x) H → va_D A (wC cyI cyZ a x) → va_S A s.heap H locs → W p l e (headSpec ts_X1_testsFailing ({ frames := 3, cells := 0, slots := 0, locals := 75 } : Room)).room s m args below meth c H locs 0 0 (MQ below (QcI D cyI cyZ A (wC cyI cyZ a σ') r) args s 0 0 A) (F0 m pc ls [])) (x2 : Int32) (ls : Array Slot) (H : Heap) (locs : List Loc) (hgo : goL B_X1_testsFailing (n + 1) 0 σ [x2] = some q) (hl : lv_has ls 5 [(0, .ref (a 27)), (1, .ref (a 17)), (2, .int x2)]) (hP : va_P D vwCl (wC cyI cyZ a σ) H) (hD : va_D A (wC cyI cyZ a σ)) (hS : va_S A s.heap H locs) : W p l e (headSpec ts_X1_testsFailing ({ frames := 3, cells := 0, slots := 0, locals := 75 } : Room)).room s m args below meth c H locs 0 0 (MQ below (QcI D cyI cyZ A (wC cyI cyZ a σ') r) args s 0 0 A) (F0 m 0 ls []) := by
  obtain ⟨hx, hb, hr, hml, hown, hts, hK, hN, hlocks⟩ := hC
  have hown : s.vm.findClass RX1 = some m.cls := hown
  obtain ⟨yy, hF, hgo⟩ := goL_step (by decide) hgo
  have hF : B_X1_testsFailing_0 σ x2 = some yy := hF
  unfold B_X1_testsFailing_0 at hF
  refine lv_iconst (v := (0 : Int32)) hx hb dX1_testsFailing_0 (by decide) ?_
  refine lv_istore_n (lv' := [(3, .int (0 : Int32)), (0, .ref (a 27)), (1, .ref (a 17)), (2, .int x2)]) hx hb dX1_testsFailing_1 rfl hl (by decide) rfl (fun ls hl => ?_)
  refine lv_iconst (v := (0 : Int32)) hx hb dX1_testsFailing_2 (by decide) ?_
  refine lv_istore (lv' := [(4, .int (0 : Int32)), (3, .int (0 : Int32)), (0, .ref (a 27)), (1, .ref (a 17)), (2, .int x2)]) hx hb dX1_testsFailing_3 hl (by decide) rfl (fun ls hl => ?_)
  cases hF
  exact ih _ _ _ _ _ _ hgo (Or.inr (⟨rfl, _, _, _, rfl, lv_sub hl [2, 3, 4, 1, 0] rfl⟩)) hP hD hS
set_option maxHeartbeats 4000000 in
set_option maxRecDepth 100000 in
theorem wl_X1_testsFailing_5 (σ : Mem) (hC : CX p c cX1_testsFailing meth (some .int) s m args yX1_testsFailing.cls 5 D cyI cyZ) (hq : extM q = some (r, σ')) (n : Nat) (ih : ∀ (pc : Nat) (x : Mem) (vs : List Int32) (ls : Array Slot) (H : Heap) (locs : List Loc), goL B_X1_testsFailing n pc x vs = some q → SH_X1_testsFailing a ls pc vs → va_P D vwCl (wC cyI cyZ a x) H → va_D A (wC cyI cyZ a x) → va_S A s.heap H locs → W p l e (headSpec ts_X1_testsFailing ({ frames := 3, cells := 0, slots := 0, locals := 75 } : Room)).room s m args below meth c H locs 0 0 (MQ below (QcI D cyI cyZ A (wC cyI cyZ a σ') r) args s 0 0 A) (F0 m pc ls [])) (x2 : Int32) (x3 : Int32) (x4 : Int32) (ls : Array Slot) (H : Heap) (locs : List Loc) (hgo : goL B_X1_testsFailing (n + 1) 5 σ [x2, x3, x4] = some q) (hl : lv_has ls 5 [(0, .ref (a 27)), (1, .ref (a 17)), (2, .int x2), (3, .int x3), (4, .int x4)]) (hP : va_P D vwCl (wC cyI cyZ a σ) H) (hD : va_D A (wC cyI cyZ a σ)) (hS : va_S A s.heap H locs) : W p l e (headSpec ts_X1_testsFailing ({ frames := 3, cells := 0, slots := 0, locals := 75 } : Room)).room s m args below meth c H locs 0 0 (MQ below (QcI D cyI cyZ A (wC cyI cyZ a σ') r) args s 0 0 A) (F0 m 5 ls []) := by
  obtain ⟨hx, hb, hr, hml, hown, hts, hK, hN, hlocks⟩ := hC
  have hown : s.vm.findClass RX1 = some m.cls := hown
  obtain ⟨yy, hF, hgo⟩ := goL_step (by decide) hgo
  have hF : B_X1_testsFailing_5 σ x2 x3 x4 = some yy := hF
  unfold B_X1_testsFailing_5 at hF
  refine lv_iload hx hb dX1_testsFailing_5 (lv_at hl 4 rfl) ?_
  refine lv_aload_n hx hb dX1_testsFailing_7 rfl (lv_at hl 1 rfl) ?_
  refine z_callVI (w' := (wC cyI cyZ a σ)) (As := []) (rest := [.int x4]) ⟨hx, hb, hml, hown, hts⟩ (c_X2_tests l D cyI cyZ a A σ  _ rfl) (cwV 0 hts (gd_V mw_605 mw_596 mw_597 mw_71 mw_598) rfl rfl rfl (by decide +kernel) ⟨Nat.le_of_ble_eq_true rfl, Nat.le_of_ble_eq_true rfl⟩) hK hN hP hD hS 2 17 rfl rfl gC_17 rfl hl.1 rfl (Nat.le_of_ble_eq_true rfl) dX1_testsFailing_8 ⟨Nat.zero_le _, Nat.zero_le _⟩ (fun H locs hP hD hS => ?_)
  refine lv_icmp_ge (tgt := 41) hx hb dX1_testsFailing_11 (by decide) (fun c1 => ?_) (fun c1 => ?_)
  · rw [if_pos c1] at hF
    refine lv_iload_n hx hb dX1_testsFailing_41 rfl (lv_at hl 3 rfl) ?_
    cases hF
    obtain ⟨rfl, rfl⟩ := extM_ret hq (goL_ret hgo)
    exact z_iret hx hb hr hlocks hK hP hD hS dX1_testsFailing_42
  · rw [if_neg c1] at hF
    refine lv_aload_n hx hb dX1_testsFailing_14 rfl (lv_at hl 0 rfl) ?_
    refine lv_aload_n hx hb dX1_testsFailing_15 rfl (lv_at hl 1 rfl) ?_
    refine lv_iload hx hb dX1_testsFailing_16 (lv_at hl 4 rfl) ?_
    obtain ⟨p2, e3, hF⟩ := Option.bind_eq_some_iff.mp hF
    refine z_callVI (w' := (wC cyI cyZ a p2.2)) (As := [.ref (a 17), .int x4]) (rest := []) ⟨hx, hb, hml, hown, hts⟩ (c_X1_rowsHolding l D cyI cyZ a A σ x4 p2.1 p2.2 e3) (cwV 2 hts (gd_V mw_606 mw_607 mw_608 mw_30 mw_609) rfl rfl rfl (by decide +kernel) ⟨Nat.le_of_ble_eq_true rfl, Nat.le_of_ble_eq_true rfl⟩) hK hN hP hD hS 1 27 rfl rfl gC_27 rfl hl.1 rfl (Nat.le_of_ble_eq_true rfl) dX1_testsFailing_18 ⟨Nat.zero_le _, Nat.zero_le _⟩ (fun H locs hP hD hS => ?_)
    refine lv_iload_n hx hb dX1_testsFailing_21 rfl (lv_at hl 2 rfl) ?_
    refine z_callNI (w' := (wC cyI cyZ a p2.2)) (As := [.int p2.1, .int x2]) (rest := []) ⟨hx, hb, hml, hown, hts⟩ (c_X8_holdsBit l D cyI cyZ A (wC cyI cyZ a p2.2) p2.1 x2 _ rfl) ⟨va_cnB 2 hts (gd_C mw_695) rfl rfl rfl hN (hts _ mw_2) (by decide +kernel) ⟨Nat.le_of_ble_eq_true rfl, Nat.le_of_ble_eq_true rfl⟩, (hts _ mw_694), trivial⟩ hK hN hP hD hS rfl hl.1 rfl (Nat.le_of_ble_eq_true rfl) dX1_testsFailing_22 ⟨Nat.zero_le _, Nat.zero_le _⟩ (fun H locs hP hD hS => ?_)
    refine lv_if_ne (tgt := 35) hx hb dX1_testsFailing_25 (by decide) (fun c4 => ?_) (fun c4 => ?_)
    · rw [if_neg c4] at hF
      refine lv_iinc (v := (x4 + (1 : Int32))) (lv' := [(4, .int (x4 + (1 : Int32))), (0, .ref (a 27)), (1, .ref (a 17)), (2, .int x2), (3, .int x3)]) hx hb dX1_testsFailing_35 hl (k := 4) rfl rfl (by decide) rfl (fun ls hl => ?_)
      refine lv_goto (tgt := 5) hx hb dX1_testsFailing_38 (by decide) ?_
      cases hF
      exact ih _ _ _ _ _ _ hgo (Or.inr (⟨rfl, _, _, _, rfl, lv_sub hl [1, 2, 3, 4, 0] rfl⟩)) hP hD hS
    · rw [if_pos c4] at hF
      refine lv_iload_n hx hb dX1_testsFailing_28 rfl (lv_at hl 3 rfl) ?_
      refine lv_iconst (v := (1 : Int32)) hx hb dX1_testsFailing_29 (by decide) ?_
      refine lv_iload hx hb dX1_testsFailing_30 (lv_at hl 4 rfl) ?_
      refine lv_ishl hx hb dX1_testsFailing_32 ?_
      refine lv_ior hx hb dX1_testsFailing_33 ?_
      refine lv_istore_n (lv' := [(3, .int (x3 ||| ((1 : Int32) <<< (x4 &&& 31)))), (0, .ref (a 27)), (1, .ref (a 17)), (2, .int x2), (4, .int x4)]) hx hb dX1_testsFailing_34 rfl hl (by decide) rfl (fun ls hl => ?_)
      refine lv_iinc (v := (x4 + (1 : Int32))) (lv' := [(4, .int (x4 + (1 : Int32))), (3, .int (x3 ||| ((1 : Int32) <<< (x4 &&& 31)))), (0, .ref (a 27)), (1, .ref (a 17)), (2, .int x2)]) hx hb dX1_testsFailing_35 hl (k := 4) rfl rfl (by decide) rfl (fun ls hl => ?_)
      refine lv_goto (tgt := 5) hx hb dX1_testsFailing_38 (by decide) ?_
      cases hF
      exact ih _ _ _ _ _ _ hgo (Or.inr (⟨rfl, _, _, _, rfl, lv_sub hl [2, 3, 4, 1, 0] rfl⟩)) hP hD hS
theorem wk_X1_testsFailing (hC : CX p c cX1_testsFailing meth (some .int) s m args yX1_testsFailing.cls 5 D cyI cyZ) (hq : extM q = some (r, σ')) : ∀ (n : Nat), ∀ (pc : Nat) (x : Mem) (vs : List Int32) (ls : Array Slot) (H : Heap) (locs : List Loc), goL B_X1_testsFailing n pc x vs = some q → SH_X1_testsFailing a ls pc vs → va_P D vwCl (wC cyI cyZ a x) H → va_D A (wC cyI cyZ a x) → va_S A s.heap H locs → W p l e (headSpec ts_X1_testsFailing ({ frames := 3, cells := 0, slots := 0, locals := 75 } : Room)).room s m args below meth c H locs 0 0 (MQ below (QcI D cyI cyZ A (wC cyI cyZ a σ') r) args s 0 0 A) (F0 m pc ls []) := by
  intro n
  induction n with
  | zero => intro pc x vs ls H locs h; exact absurd h (by simp [goL])
  | succ n ih =>
    intro pc x vs ls H locs hgo hsh hP hD hS
    rcases hsh with ⟨rfl, x2, rfl, hl⟩ | ⟨rfl, x2, x3, x4, rfl, hl⟩
    · exact wl_X1_testsFailing_0 x hC hq n ih x2 ls H locs hgo hl hP hD hS
    · exact wl_X1_testsFailing_5 x hC hq n ih x2 x3 x4 ls H locs hgo hl hP hD hS
end
theorem c_X1_testsFailing (l : Launch) (D : va_G) (cyI cyZ : ClassId) (a : Nat → Nat) (A : Nat → Prop) (σ : Mem) (x2 : Int32) (r : Int32) (σ' : Mem) (hF : F_X1_testsFailing σ x2 = some (r, σ')) : CtI l yX1_testsFailing ts_X1_testsFailing ({ frames := 3, cells := 0, slots := 0, locals := 75 } : Room) [.ref (a 27), .ref (a 17), .int x2] D cyI cyZ A (wC cyI cyZ a σ) (wC cyI cyZ a σ') r := by
  refine CtI.of (cc := cX1_testsFailing) (maxL := 5) (ret := (some .int)) (by decide) rfl (Nat.le_of_ble_eq_true rfl) ?_
  intro p e s m below meth c ls hC hP hD hl
  obtain ⟨q, hq, hr1⟩ := Option.bind_eq_some_iff.mp hF
  obtain ⟨n, hn⟩ := finL_some hq
  exact wk_X1_testsFailing hC hr1 n 0 _ _ ls _ _ hn (Or.inl ⟨rfl, _, rfl, hl⟩) hP hD va_S.rf
abbrev ts_J6_compare_7cf53 : List Cond := .code yJ6_compare_7cf53 cJ6_compare_7cf53 2 (some .int) :: wsL_law
set_option maxHeartbeats 4000000 in
set_option maxRecDepth 100000 in
theorem c_J6_compare_7cf53 (l : Launch) (D : va_G) (cyI cyZ : ClassId) (A : Nat → Prop) (w : va_W) (x0 : Int32) (x1 : Int32) (r : Int32) (hF : F_J6_compare_7cf53 x0 x1 = r) : CtI l yJ6_compare_7cf53 ts_J6_compare_7cf53 ({ frames := 0, cells := 0, slots := 0, locals := 0 } : Room) [.int x0, .int x1] D cyI cyZ A w w r := by
  refine CtI.of (cc := cJ6_compare_7cf53) (maxL := 2) (ret := (some .int)) (by decide) rfl (Nat.le_of_ble_eq_true rfl) ?_
  intro p e s m below meth c ls hC hP hD hl
  obtain ⟨hx, hb, hr, hml, hown, hts, hK, hN, hlocks⟩ := hC
  have hown : s.vm.findClass RJ6 = some m.cls := hown
  have hS : va_S A s.heap s.heap [] := va_S.rf
  have hl : lv_has ls 2 [(0, .int x0), (1, .int x1)] := hl
  unfold F_J6_compare_7cf53 at hF
  refine lv_iload_n hx hb dJ6_compare_7cf53_0 rfl (lv_at hl 0 rfl) ?_
  refine lv_iload_n hx hb dJ6_compare_7cf53_1 rfl (lv_at hl 1 rfl) ?_
  refine lv_icmp_ge (tgt := 9) hx hb dJ6_compare_7cf53_2 (by decide) (fun c1 => ?_) (fun c1 => ?_)
  · rw [if_pos c1] at hF
    refine lv_iload_n hx hb dJ6_compare_7cf53_9 rfl (lv_at hl 0 rfl) ?_
    refine lv_iload_n hx hb dJ6_compare_7cf53_10 rfl (lv_at hl 1 rfl) ?_
    refine lv_icmp_ne (tgt := 18) hx hb dJ6_compare_7cf53_11 (by decide) (fun c2 => ?_) (fun c2 => ?_)
    · rw [if_neg c2] at hF
      refine lv_iconst (v := (1 : Int32)) hx hb dJ6_compare_7cf53_18 (by decide) ?_
      subst hF
      exact z_iret hx hb hr hlocks hK hP hD hS dJ6_compare_7cf53_19
    · rw [if_pos c2] at hF
      refine lv_iconst (v := (0 : Int32)) hx hb dJ6_compare_7cf53_14 (by decide) ?_
      refine lv_goto (tgt := 19) hx hb dJ6_compare_7cf53_15 (by decide) ?_
      subst hF
      exact z_iret hx hb hr hlocks hK hP hD hS dJ6_compare_7cf53_19
  · rw [if_neg c1] at hF
    refine lv_iconst (v := (-1 : Int32)) hx hb dJ6_compare_7cf53_5 (by decide) ?_
    refine lv_goto (tgt := 19) hx hb dJ6_compare_7cf53_6 (by decide) ?_
    subst hF
    exact z_iret hx hb hr hlocks hK hP hD hS dJ6_compare_7cf53_19
abbrev ts_X1_isLesserSet : List Cond := .code yX1_isLesserSet cX1_isLesserSet 3 (some .boolean) :: wsL_law
set_option maxHeartbeats 4000000 in
set_option maxRecDepth 100000 in
theorem c_X1_isLesserSet (l : Launch) (D : va_G) (cyI cyZ : ClassId) (A : Nat → Prop) (w : va_W) (x0 : Int32) (x1 : Int32) (r : Int32) (hF : F_X1_isLesserSet x0 x1 = r) : CtI l yX1_isLesserSet ts_X1_isLesserSet ({ frames := 1, cells := 0, slots := 0, locals := 21 } : Room) [.int x0, .int x1] D cyI cyZ A w w r := by
  refine CtI.of (cc := cX1_isLesserSet) (maxL := 3) (ret := (some .boolean)) (by decide) rfl (Nat.le_of_ble_eq_true rfl) ?_
  intro p e s m below meth c ls hC hP hD hl
  obtain ⟨hx, hb, hr, hml, hown, hts, hK, hN, hlocks⟩ := hC
  have hown : s.vm.findClass RX1 = some m.cls := hown
  have hS : va_S A s.heap s.heap [] := va_S.rf
  have hl : lv_has ls 3 [(0, .int x0), (1, .int x1)] := hl
  unfold F_X1_isLesserSet at hF
  refine lv_iload_n hx hb dX1_isLesserSet_0 rfl (lv_at hl 0 rfl) ?_
  refine z_callSI (w' := w) (As := [.int x0]) (rest := []) ⟨hx, hb, hml, hown, hts⟩ (c_J6_bitCount_0f7a4 l D cyI cyZ A w x0 _ rfl) (va_cwS 1 hts (gd_S mw_693 mw_645 mw_646 mw_647) rfl rfl rfl (by decide +kernel) ⟨Nat.le_of_ble_eq_true rfl, Nat.le_of_ble_eq_true rfl⟩) hK hN hP hD hS rfl hl.1 rfl (Nat.le_of_ble_eq_true rfl) dX1_isLesserSet_1 ⟨Nat.zero_le _, Nat.zero_le _⟩ (fun H locs hP hD hS => ?_)
  refine lv_iload_n hx hb dX1_isLesserSet_4 rfl (lv_at hl 1 rfl) ?_
  refine z_callSI (w' := w) (As := [.int x1]) (rest := [.int (F_J6_bitCount_0f7a4 x0)]) ⟨hx, hb, hml, hown, hts⟩ (c_J6_bitCount_0f7a4 l D cyI cyZ A w x1 _ rfl) (va_cwS 1 hts (gd_S mw_693 mw_645 mw_646 mw_647) rfl rfl rfl (by decide +kernel) ⟨Nat.le_of_ble_eq_true rfl, Nat.le_of_ble_eq_true rfl⟩) hK hN hP hD hS rfl hl.1 rfl (Nat.le_of_ble_eq_true rfl) dX1_isLesserSet_5 ⟨Nat.zero_le _, Nat.zero_le _⟩ (fun H locs hP hD hS => ?_)
  refine z_callSI (w' := w) (As := [.int (F_J6_bitCount_0f7a4 x0), .int (F_J6_bitCount_0f7a4 x1)]) (rest := []) ⟨hx, hb, hml, hown, hts⟩ (c_J6_compare_7cf53 l D cyI cyZ A w (F_J6_bitCount_0f7a4 x0) (F_J6_bitCount_0f7a4 x1) _ rfl) (va_cwS 2 hts (gd_S mw_844 mw_845 mw_646 mw_846) rfl rfl rfl (by decide +kernel) ⟨Nat.le_of_ble_eq_true rfl, Nat.le_of_ble_eq_true rfl⟩) hK hN hP hD hS rfl hl.1 rfl (Nat.le_of_ble_eq_true rfl) dX1_isLesserSet_8 ⟨Nat.zero_le _, Nat.zero_le _⟩ (fun H locs hP hD hS => ?_)
  refine lv_istore_n (lv' := [(2, .int (F_J6_compare_7cf53 (F_J6_bitCount_0f7a4 x0) (F_J6_bitCount_0f7a4 x1))), (0, .int x0), (1, .int x1)]) hx hb dX1_isLesserSet_11 rfl hl (by decide) rfl (fun ls hl => ?_)
  refine lv_iload_n hx hb dX1_isLesserSet_12 rfl (lv_at hl 0 rfl) ?_
  refine lv_if_lt (tgt := 25) hx hb dX1_isLesserSet_13 (by decide) (fun c1 => ?_) (fun c1 => ?_)
  · rw [if_pos c1] at hF
    refine lv_iconst (v := (1 : Int32)) hx hb dX1_isLesserSet_25 (by decide) ?_
    refine lv_goto (tgt := 30) hx hb dX1_isLesserSet_26 (by decide) ?_
    subst hF
    exact z_zret hx hb hr hlocks hK hP hD hS rfl dX1_isLesserSet_30
  · rw [if_neg c1] at hF
    refine lv_iload_n hx hb dX1_isLesserSet_16 rfl (lv_at hl 0 rfl) ?_
    refine lv_if_ne (tgt := 29) hx hb dX1_isLesserSet_17 (by decide) (fun c2 => ?_) (fun c2 => ?_)
    · rw [if_neg c2] at hF
      refine lv_iconst (v := (0 : Int32)) hx hb dX1_isLesserSet_29 (by decide) ?_
      subst hF
      exact z_zret hx hb hr hlocks hK hP hD hS rfl dX1_isLesserSet_30
    · rw [if_pos c2] at hF
      refine lv_iload_n hx hb dX1_isLesserSet_20 rfl (lv_at hl 1 rfl) ?_
      refine lv_iload_n hx hb dX1_isLesserSet_21 rfl (lv_at hl 2 rfl) ?_
      refine lv_icmp_ge (tgt := 29) hx hb dX1_isLesserSet_22 (by decide) (fun c3 => ?_) (fun c3 => ?_)
      · rw [if_pos c3] at hF
        refine lv_iconst (v := (0 : Int32)) hx hb dX1_isLesserSet_29 (by decide) ?_
        subst hF
        exact z_zret hx hb hr hlocks hK hP hD hS rfl dX1_isLesserSet_30
      · rw [if_neg c3] at hF
        refine lv_iconst (v := (1 : Int32)) hx hb dX1_isLesserSet_25 (by decide) ?_
        refine lv_goto (tgt := 30) hx hb dX1_isLesserSet_26 (by decide) ?_
        subst hF
        exact z_zret hx hb hr hlocks hK hP hD hS rfl dX1_isLesserSet_30
abbrev ts_X1_testsInTheWay : List Cond := .code yX1_testsInTheWay cX1_testsInTheWay 5 (some .int) :: wsL_law
def SH_X1_testsInTheWay (a : Nat → Nat) (ls : Array Slot) (pc : Nat) (vs : List Int32) : Prop := (pc = 0 ∧ vs = [] ∧ lv_has ls 5 [(0, .ref (a 27)), (1, .ref (a 17))]) ∨ (pc = 5 ∧ ∃ x2 x3 : Int32, vs = [x2, x3] ∧ lv_has ls 5 [(0, .ref (a 27)), (1, .ref (a 17)), (2, .int x2), (3, .int x3)])
section
variable {p : Program} {l : Launch} {e : Env} {s : State} {m : MethodId} {args : Array Value} {below : List Frame} {meth : Method} {c : Code} {D : va_G} {A : Nat → Prop} {a : Nat → Nat} {cyI cyZ : ClassId} {r : Int32} {σ' : Mem} {q : Mem × List Int32}
set_option maxHeartbeats 4000000 in
set_option maxRecDepth 100000 in
theorem wl_X1_testsInTheWay_0 (σ : Mem) (hC : CX p c cX1_testsInTheWay meth (some .int) s m args yX1_testsInTheWay.cls 5 D cyI cyZ) (hq : extM q = some (r, σ')) (n : Nat) (ih : ∀ (pc : Nat) (x : Mem) (vs : List Int32) (ls : Array Slot) (H : Heap) (locs : List Loc), goL B_X1_testsInTheWay n pc x vs = some q → SH_X1_testsInTheWay a ls pc vs → va_P D vwCl (wC cyI cyZ a x) H → va_D A (wC cyI cyZ a x) → va_S A s.heap H locs → W p l e (headSpec ts_X1_testsInTheWay ({ frames := 4, cells := 0, slots := 0, locals := 99 } : Room)).room s m args below meth c H locs 0 0 (MQ below (QcI D cyI cyZ A (wC cyI cyZ a σ') r) args s 0 0 A) (F0 m pc ls [])) (ls : Array Slot) (H : Heap) (locs : List Loc) (hgo : goL B_X1_testsInTheWay (n + 1) 0 σ [] = some q) (hl : lv_has ls 5 [(0, .ref (a 27)), (1, .ref (a 17))]) (hP : va_P D vwCl (wC cyI cyZ a σ) H) (hD : va_D A (wC cyI cyZ a σ)) (hS : va_S A s.heap H locs) : W p l e (headSpec ts_X1_testsInTheWay ({ frames := 4, cells := 0, slots := 0, locals := 99 } : Room)).room s m args below meth c H locs 0 0 (MQ below (QcI D cyI cyZ A (wC cyI cyZ a σ') r) args s 0 0 A) (F0 m 0 ls []) := by
  obtain ⟨hx, hb, hr, hml, hown, hts, hK, hN, hlocks⟩ := hC
  have hown : s.vm.findClass RX1 = some m.cls := hown
  obtain ⟨yy, hF, hgo⟩ := goL_step (by decide) hgo
  have hF : B_X1_testsInTheWay_0 σ  = some yy := hF
  unfold B_X1_testsInTheWay_0 at hF
  refine lv_bipush (v := (-5 : Int32)) hx hb dX1_testsInTheWay_0 (by decide) ?_
  refine lv_istore_n (lv' := [(2, .int (-5 : Int32)), (0, .ref (a 27)), (1, .ref (a 17))]) hx hb dX1_testsInTheWay_2 rfl hl (by decide) rfl (fun ls hl => ?_)
  refine lv_iconst (v := (0 : Int32)) hx hb dX1_testsInTheWay_3 (by decide) ?_
  refine lv_istore_n (lv' := [(3, .int (0 : Int32)), (2, .int (-5 : Int32)), (0, .ref (a 27)), (1, .ref (a 17))]) hx hb dX1_testsInTheWay_4 rfl hl (by decide) rfl (fun ls hl => ?_)
  cases hF
  exact ih _ _ _ _ _ _ hgo (Or.inr (⟨rfl, _, _, rfl, lv_sub hl [2, 3, 1, 0] rfl⟩)) hP hD hS
set_option maxHeartbeats 4000000 in
set_option maxRecDepth 100000 in
theorem wl_X1_testsInTheWay_5 (σ : Mem) (hC : CX p c cX1_testsInTheWay meth (some .int) s m args yX1_testsInTheWay.cls 5 D cyI cyZ) (hq : extM q = some (r, σ')) (n : Nat) (ih : ∀ (pc : Nat) (x : Mem) (vs : List Int32) (ls : Array Slot) (H : Heap) (locs : List Loc), goL B_X1_testsInTheWay n pc x vs = some q → SH_X1_testsInTheWay a ls pc vs → va_P D vwCl (wC cyI cyZ a x) H → va_D A (wC cyI cyZ a x) → va_S A s.heap H locs → W p l e (headSpec ts_X1_testsInTheWay ({ frames := 4, cells := 0, slots := 0, locals := 99 } : Room)).room s m args below meth c H locs 0 0 (MQ below (QcI D cyI cyZ A (wC cyI cyZ a σ') r) args s 0 0 A) (F0 m pc ls [])) (x2 : Int32) (x3 : Int32) (ls : Array Slot) (H : Heap) (locs : List Loc) (hgo : goL B_X1_testsInTheWay (n + 1) 5 σ [x2, x3] = some q) (hl : lv_has ls 5 [(0, .ref (a 27)), (1, .ref (a 17)), (2, .int x2), (3, .int x3)]) (hP : va_P D vwCl (wC cyI cyZ a σ) H) (hD : va_D A (wC cyI cyZ a σ)) (hS : va_S A s.heap H locs) : W p l e (headSpec ts_X1_testsInTheWay ({ frames := 4, cells := 0, slots := 0, locals := 99 } : Room)).room s m args below meth c H locs 0 0 (MQ below (QcI D cyI cyZ A (wC cyI cyZ a σ') r) args s 0 0 A) (F0 m 5 ls []) := by
  obtain ⟨hx, hb, hr, hml, hown, hts, hK, hN, hlocks⟩ := hC
  have hown : s.vm.findClass RX1 = some m.cls := hown
  obtain ⟨yy, hF, hgo⟩ := goL_step (by decide) hgo
  have hF : B_X1_testsInTheWay_5 σ x2 x3 = some yy := hF
  unfold B_X1_testsInTheWay_5 at hF
  refine lv_iload_n hx hb dX1_testsInTheWay_5 rfl (lv_at hl 3 rfl) ?_
  refine lv_aload_n hx hb dX1_testsInTheWay_6 rfl (lv_at hl 0 rfl) ?_
  refine va_get (D := D) (ci := 1) (v := .ref (a 1)) (C := RX1) (T := TX1) (N := 2) hx hb hts inlX1 hown hK hP 27 gC_27 rfl 0 (by decide) (hts _ mw_94) (fun _ h9 => h9) rfl dX1_testsInTheWay_7 ?_
  refine lv_aload_n hx hb dX1_testsInTheWay_10 rfl (lv_at hl 1 rfl) ?_
  refine z_callVI (w' := (wC cyI cyZ a σ)) (As := []) (rest := [.ref (a 1), .int x3]) ⟨hx, hb, hml, hown, hts⟩ (c_X2_from l D cyI cyZ a A σ  _ rfl) (cwV 0 hts (gd_V mw_603 mw_588 mw_589 mw_71 mw_590) rfl rfl rfl (by decide +kernel) ⟨Nat.le_of_ble_eq_true rfl, Nat.le_of_ble_eq_true rfl⟩) hK hN hP hD hS 2 17 rfl rfl gC_17 rfl hl.1 rfl (Nat.le_of_ble_eq_true rfl) dX1_testsInTheWay_11 ⟨Nat.zero_le _, Nat.zero_le _⟩ (fun H locs hP hD hS => ?_)
  obtain ⟨v1, e2, hF⟩ := Option.bind_eq_some_iff.mp hF
  refine z_callVI (w' := (wC cyI cyZ a σ)) (As := [.int (F_X2_from σ)]) (rest := [.int x3]) ⟨hx, hb, hml, hown, hts⟩ (c_X6_rowsOf l D cyI cyZ a A σ (F_X2_from σ) _ e2) (cwV 1 hts (gd_V mw_604 mw_173 mw_174 mw_14 mw_175) rfl rfl rfl (by decide +kernel) ⟨Nat.le_of_ble_eq_true rfl, Nat.le_of_ble_eq_true rfl⟩) hK hN hP hD hS 6 1 rfl rfl gC_1 rfl hl.1 rfl (Nat.le_of_ble_eq_true rfl) dX1_testsInTheWay_14 ⟨Nat.zero_le _, Nat.zero_le _⟩ (fun H locs hP hD hS => ?_)
  refine lv_icmp_ge (tgt := 52) hx hb dX1_testsInTheWay_17 (by decide) (fun c3 => ?_) (fun c3 => ?_)
  · rw [if_pos c3] at hF
    refine lv_iload_n hx hb dX1_testsInTheWay_52 rfl (lv_at hl 2 rfl) ?_
    cases hF
    obtain ⟨rfl, rfl⟩ := extM_ret hq (goL_ret hgo)
    exact z_iret hx hb hr hlocks hK hP hD hS dX1_testsInTheWay_53
  · rw [if_neg c3] at hF
    refine lv_aload_n hx hb dX1_testsInTheWay_20 rfl (lv_at hl 0 rfl) ?_
    refine lv_aload_n hx hb dX1_testsInTheWay_21 rfl (lv_at hl 1 rfl) ?_
    refine lv_iload_n hx hb dX1_testsInTheWay_22 rfl (lv_at hl 3 rfl) ?_
    obtain ⟨p4, e5, hF⟩ := Option.bind_eq_some_iff.mp hF
    refine z_callVI (w' := (wC cyI cyZ a p4.2)) (As := [.ref (a 17), .int x3]) (rest := []) ⟨hx, hb, hml, hown, hts⟩ (c_X1_testsFailing l D cyI cyZ a A σ x3 p4.1 p4.2 e5) (cwV 2 hts (gd_V mw_837 mw_838 mw_839 mw_30 mw_840) rfl rfl rfl (by decide +kernel) ⟨Nat.le_of_ble_eq_true rfl, Nat.le_of_ble_eq_true rfl⟩) hK hN hP hD hS 1 27 rfl rfl gC_27 rfl hl.1 rfl (Nat.le_of_ble_eq_true rfl) dX1_testsInTheWay_23 ⟨Nat.zero_le _, Nat.zero_le _⟩ (fun H locs hP hD hS => ?_)
    refine lv_istore (lv' := [(4, .int p4.1), (0, .ref (a 27)), (1, .ref (a 17)), (2, .int x2), (3, .int x3)]) hx hb dX1_testsInTheWay_26 hl (by decide) rfl (fun ls hl => ?_)
    refine lv_iload_n hx hb dX1_testsInTheWay_28 rfl (lv_at hl 3 rfl) ?_
    refine lv_bipush (v := (-5 : Int32)) hx hb dX1_testsInTheWay_29 (by decide) ?_
    refine lv_icmp_eq (tgt := 43) hx hb dX1_testsInTheWay_31 (by decide) (fun c6 => ?_) (fun c6 => ?_)
    · rw [if_pos c6] at hF
      refine lv_iload hx hb dX1_testsInTheWay_43 (lv_at hl 0 rfl) ?_
      refine lv_istore_n (lv' := [(2, .int p4.1), (4, .int p4.1), (0, .ref (a 27)), (1, .ref (a 17)), (3, .int x3)]) hx hb dX1_testsInTheWay_45 rfl hl (by decide) rfl (fun ls hl => ?_)
      refine lv_iinc (v := (x3 + (1 : Int32))) (lv' := [(3, .int (x3 + (1 : Int32))), (2, .int p4.1), (4, .int p4.1), (0, .ref (a 27)), (1, .ref (a 17))]) hx hb dX1_testsInTheWay_46 hl (k := 4) rfl rfl (by decide) rfl (fun ls hl => ?_)
      refine lv_goto (tgt := 5) hx hb dX1_testsInTheWay_49 (by decide) ?_
      cases hF
      exact ih _ _ _ _ _ _ hgo (Or.inr (⟨rfl, _, _, rfl, lv_sub hl [3, 4, 1, 0] rfl⟩)) hP hD hS
    · rw [if_neg c6] at hF
      refine lv_iload hx hb dX1_testsInTheWay_34 (lv_at hl 0 rfl) ?_
      refine lv_iload_n hx hb dX1_testsInTheWay_36 rfl (lv_at hl 3 rfl) ?_
      refine z_callSI (w' := (wC cyI cyZ a p4.2)) (As := [.int p4.1, .int x2]) (rest := []) ⟨hx, hb, hml, hown, hts⟩ (c_X1_isLesserSet l D cyI cyZ A (wC cyI cyZ a p4.2) p4.1 x2 _ rfl) (va_cwS 2 hts (gd_S mw_841 mw_842 mw_30 mw_843) rfl rfl rfl (by decide +kernel) ⟨Nat.le_of_ble_eq_true rfl, Nat.le_of_ble_eq_true rfl⟩) hK hN hP hD hS rfl hl.1 rfl (Nat.le_of_ble_eq_true rfl) dX1_testsInTheWay_37 ⟨Nat.zero_le _, Nat.zero_le _⟩ (fun H locs hP hD hS => ?_)
      refine lv_if_eq (tgt := 46) hx hb dX1_testsInTheWay_40 (by decide) (fun c7 => ?_) (fun c7 => ?_)
      · rw [if_pos c7] at hF
        refine lv_iinc (v := (x3 + (1 : Int32))) (lv' := [(3, .int (x3 + (1 : Int32))), (4, .int p4.1), (0, .ref (a 27)), (1, .ref (a 17)), (2, .int x2)]) hx hb dX1_testsInTheWay_46 hl (k := 4) rfl rfl (by decide) rfl (fun ls hl => ?_)
        refine lv_goto (tgt := 5) hx hb dX1_testsInTheWay_49 (by decide) ?_
        cases hF
        exact ih _ _ _ _ _ _ hgo (Or.inr (⟨rfl, _, _, rfl, lv_sub hl [2, 3, 4, 0] rfl⟩)) hP hD hS
      · rw [if_neg c7] at hF
        refine lv_iload hx hb dX1_testsInTheWay_43 (lv_at hl 0 rfl) ?_
        refine lv_istore_n (lv' := [(2, .int p4.1), (4, .int p4.1), (0, .ref (a 27)), (1, .ref (a 17)), (3, .int x3)]) hx hb dX1_testsInTheWay_45 rfl hl (by decide) rfl (fun ls hl => ?_)
        refine lv_iinc (v := (x3 + (1 : Int32))) (lv' := [(3, .int (x3 + (1 : Int32))), (2, .int p4.1), (4, .int p4.1), (0, .ref (a 27)), (1, .ref (a 17))]) hx hb dX1_testsInTheWay_46 hl (k := 4) rfl rfl (by decide) rfl (fun ls hl => ?_)
        refine lv_goto (tgt := 5) hx hb dX1_testsInTheWay_49 (by decide) ?_
        cases hF
        exact ih _ _ _ _ _ _ hgo (Or.inr (⟨rfl, _, _, rfl, lv_sub hl [3, 4, 1, 0] rfl⟩)) hP hD hS
theorem wk_X1_testsInTheWay (hC : CX p c cX1_testsInTheWay meth (some .int) s m args yX1_testsInTheWay.cls 5 D cyI cyZ) (hq : extM q = some (r, σ')) : ∀ (n : Nat), ∀ (pc : Nat) (x : Mem) (vs : List Int32) (ls : Array Slot) (H : Heap) (locs : List Loc), goL B_X1_testsInTheWay n pc x vs = some q → SH_X1_testsInTheWay a ls pc vs → va_P D vwCl (wC cyI cyZ a x) H → va_D A (wC cyI cyZ a x) → va_S A s.heap H locs → W p l e (headSpec ts_X1_testsInTheWay ({ frames := 4, cells := 0, slots := 0, locals := 99 } : Room)).room s m args below meth c H locs 0 0 (MQ below (QcI D cyI cyZ A (wC cyI cyZ a σ') r) args s 0 0 A) (F0 m pc ls []) := by
  intro n
  induction n with
  | zero => intro pc x vs ls H locs h; exact absurd h (by simp [goL])
  | succ n ih =>
    intro pc x vs ls H locs hgo hsh hP hD hS
    rcases hsh with ⟨rfl, rfl, hl⟩ | ⟨rfl, x2, x3, rfl, hl⟩
    · exact wl_X1_testsInTheWay_0 x hC hq n ih  ls H locs hgo hl hP hD hS
    · exact wl_X1_testsInTheWay_5 x hC hq n ih x2 x3 ls H locs hgo hl hP hD hS
end
theorem c_X1_testsInTheWay (l : Launch) (D : va_G) (cyI cyZ : ClassId) (a : Nat → Nat) (A : Nat → Prop) (σ : Mem) (r : Int32) (σ' : Mem) (hF : F_X1_testsInTheWay σ  = some (r, σ')) : CtI l yX1_testsInTheWay ts_X1_testsInTheWay ({ frames := 4, cells := 0, slots := 0, locals := 99 } : Room) [.ref (a 27), .ref (a 17)] D cyI cyZ A (wC cyI cyZ a σ) (wC cyI cyZ a σ') r := by
  refine CtI.of (cc := cX1_testsInTheWay) (maxL := 5) (ret := (some .int)) (by decide) rfl (Nat.le_of_ble_eq_true rfl) ?_
  intro p e s m below meth c ls hC hP hD hl
  obtain ⟨q, hq, hr1⟩ := Option.bind_eq_some_iff.mp hF
  obtain ⟨n, hn⟩ := finL_some hq
  exact wk_X1_testsInTheWay hC hr1 n 0 _ _ ls _ _ hn (Or.inl ⟨rfl, rfl, hl⟩) hP hD va_S.rf
abbrev ts_X2_testsReach : List Cond := .code yX2_testsReach cX2_testsReach 3 (some .boolean) :: wsL_law
def SH_X2_testsReach (a : Nat → Nat) (ls : Array Slot) (pc : Nat) (vs : List Int32) : Prop := (pc = 0 ∧ vs = [] ∧ lv_has ls 3 [(0, .ref (a 17)), (1, .ref (a 1))]) ∨ (pc = 2 ∧ ∃ x2 : Int32, vs = [x2] ∧ lv_has ls 3 [(0, .ref (a 17)), (1, .ref (a 1)), (2, .int x2)])
section
variable {p : Program} {l : Launch} {e : Env} {s : State} {m : MethodId} {args : Array Value} {below : List Frame} {meth : Method} {c : Code} {D : va_G} {A : Nat → Prop} {a : Nat → Nat} {cyI cyZ : ClassId} {r : Int32} {q : Unit × List Int32}
set_option maxHeartbeats 4000000 in
set_option maxRecDepth 100000 in
theorem wl_X2_testsReach_0 (σ : Mem) (hC : CX p c cX2_testsReach meth (some .boolean) s m args yX2_testsReach.cls 3 D cyI cyZ) (hq : extR q = some r) (n : Nat) (ih : ∀ (pc : Nat) (x : Unit) (vs : List Int32) (ls : Array Slot) (H : Heap) (locs : List Loc), goL (B_X2_testsReach σ) n pc x vs = some q → SH_X2_testsReach a ls pc vs → va_P D vwCl (wC cyI cyZ a σ) H → va_D A (wC cyI cyZ a σ) → va_S A s.heap H locs → W p l e (headSpec ts_X2_testsReach ({ frames := 1, cells := 0, slots := 0, locals := 23 } : Room)).room s m args below meth c H locs 0 0 (MQ below (QcI D cyI cyZ A (wC cyI cyZ a σ) r) args s 0 0 A) (F0 m pc ls [])) (ls : Array Slot) (H : Heap) (locs : List Loc) (hgo : goL (B_X2_testsReach σ) (n + 1) 0 () [] = some q) (hl : lv_has ls 3 [(0, .ref (a 17)), (1, .ref (a 1))]) (hP : va_P D vwCl (wC cyI cyZ a σ) H) (hD : va_D A (wC cyI cyZ a σ)) (hS : va_S A s.heap H locs) : W p l e (headSpec ts_X2_testsReach ({ frames := 1, cells := 0, slots := 0, locals := 23 } : Room)).room s m args below meth c H locs 0 0 (MQ below (QcI D cyI cyZ A (wC cyI cyZ a σ) r) args s 0 0 A) (F0 m 0 ls []) := by
  obtain ⟨hx, hb, hr, hml, hown, hts, hK, hN, hlocks⟩ := hC
  have hown : s.vm.findClass RX2 = some m.cls := hown
  obtain ⟨yy, hF, hgo⟩ := goL_step (by decide) hgo
  have hF : B_X2_testsReach_0 σ  = some yy := hF
  unfold B_X2_testsReach_0 at hF
  refine lv_iconst (v := (0 : Int32)) hx hb dX2_testsReach_0 (by decide) ?_
  refine lv_istore_n (lv' := [(2, .int (0 : Int32)), (0, .ref (a 17)), (1, .ref (a 1))]) hx hb dX2_testsReach_1 rfl hl (by decide) rfl (fun ls hl => ?_)
  cases hF
  exact ih _ _ _ _ _ _ hgo (Or.inr (⟨rfl, _, rfl, lv_sub hl [1, 2, 0] rfl⟩)) hP hD hS
set_option maxHeartbeats 4000000 in
set_option maxRecDepth 100000 in
theorem wl_X2_testsReach_2 (σ : Mem) (hC : CX p c cX2_testsReach meth (some .boolean) s m args yX2_testsReach.cls 3 D cyI cyZ) (hq : extR q = some r) (n : Nat) (ih : ∀ (pc : Nat) (x : Unit) (vs : List Int32) (ls : Array Slot) (H : Heap) (locs : List Loc), goL (B_X2_testsReach σ) n pc x vs = some q → SH_X2_testsReach a ls pc vs → va_P D vwCl (wC cyI cyZ a σ) H → va_D A (wC cyI cyZ a σ) → va_S A s.heap H locs → W p l e (headSpec ts_X2_testsReach ({ frames := 1, cells := 0, slots := 0, locals := 23 } : Room)).room s m args below meth c H locs 0 0 (MQ below (QcI D cyI cyZ A (wC cyI cyZ a σ) r) args s 0 0 A) (F0 m pc ls [])) (x2 : Int32) (ls : Array Slot) (H : Heap) (locs : List Loc) (hgo : goL (B_X2_testsReach σ) (n + 1) 2 () [x2] = some q) (hl : lv_has ls 3 [(0, .ref (a 17)), (1, .ref (a 1)), (2, .int x2)]) (hP : va_P D vwCl (wC cyI cyZ a σ) H) (hD : va_D A (wC cyI cyZ a σ)) (hS : va_S A s.heap H locs) : W p l e (headSpec ts_X2_testsReach ({ frames := 1, cells := 0, slots := 0, locals := 23 } : Room)).room s m args below meth c H locs 0 0 (MQ below (QcI D cyI cyZ A (wC cyI cyZ a σ) r) args s 0 0 A) (F0 m 2 ls []) := by
  obtain ⟨hx, hb, hr, hml, hown, hts, hK, hN, hlocks⟩ := hC
  have hown : s.vm.findClass RX2 = some m.cls := hown
  obtain ⟨yy, hF, hgo⟩ := goL_step (by decide) hgo
  have hF : B_X2_testsReach_2 σ x2 = some yy := hF
  unfold B_X2_testsReach_2 at hF
  refine lv_iload_n hx hb dX2_testsReach_2 rfl (lv_at hl 2 rfl) ?_
  refine lv_aload_n hx hb dX2_testsReach_3 rfl (lv_at hl 0 rfl) ?_
  refine va_get (D := D) (ci := 2) (v := .int (σ 17 7)) (C := RX2) (T := TX2) (N := 13) hx hb hts inlX2 hown hK hP 17 gC_17 rfl 7 (by decide) (hts _ mw_463) (fun _ h9 => h9) rfl dX2_testsReach_4 ?_
  refine lv_icmp_ge (tgt := 48) hx hb dX2_testsReach_7 (by decide) (fun c1 => ?_) (fun c1 => ?_)
  · rw [if_pos c1] at hF
    refine lv_iconst (v := (1 : Int32)) hx hb dX2_testsReach_48 (by decide) ?_
    cases hF
    obtain rfl := extR_ret hq (goL_ret hgo)
    exact z_zret hx hb hr hlocks hK hP hD hS rfl dX2_testsReach_49
  · rw [if_neg c1] at hF
    refine lv_aload_n hx hb dX2_testsReach_10 rfl (lv_at hl 0 rfl) ?_
    refine va_get (D := D) (ci := 2) (v := .ref (a 18)) (C := RX2) (T := TX2) (N := 13) hx hb hts inlX2 hown hK hP 17 gC_17 rfl 8 (by decide) (hts _ mw_84) (fun _ h9 => h9) rfl dX2_testsReach_11 ?_
    refine lv_iload_n hx hb dX2_testsReach_14 rfl (lv_at hl 2 rfl) ?_
    obtain ⟨v2, e3, hF⟩ := Option.bind_eq_some_iff.mp hF
    refine z_ild hx hb hK hP 18 gC_18 e3 dX2_testsReach_15 ?_
    refine lv_aload_n hx hb dX2_testsReach_16 rfl (lv_at hl 0 rfl) ?_
    refine va_get (D := D) (ci := 2) (v := .int (σ 17 3)) (C := RX2) (T := TX2) (N := 13) hx hb hts inlX2 hown hK hP 17 gC_17 rfl 3 (by decide) (hts _ mw_459) (fun _ h9 => h9) rfl dX2_testsReach_17 ?_
    refine lv_icmp_eq (tgt := 42) hx hb dX2_testsReach_20 (by decide) (fun c4 => ?_) (fun c4 => ?_)
    · rw [if_pos c4] at hF
      refine lv_iinc (v := (x2 + (1 : Int32))) (lv' := [(2, .int (x2 + (1 : Int32))), (0, .ref (a 17)), (1, .ref (a 1))]) hx hb dX2_testsReach_42 hl (k := 2) rfl rfl (by decide) rfl (fun ls hl => ?_)
      refine lv_goto (tgt := 2) hx hb dX2_testsReach_45 (by decide) ?_
      cases hF
      exact ih _ _ _ _ _ _ hgo (Or.inr (⟨rfl, _, rfl, lv_sub hl [1, 2, 0] rfl⟩)) hP hD hS
    · rw [if_neg c4] at hF
      refine lv_aload_n hx hb dX2_testsReach_23 rfl (lv_at hl 1 rfl) ?_
      refine lv_aload_n hx hb dX2_testsReach_24 rfl (lv_at hl 0 rfl) ?_
      refine va_get (D := D) (ci := 2) (v := .int (σ 17 3)) (C := RX2) (T := TX2) (N := 13) hx hb hts inlX2 hown hK hP 17 gC_17 rfl 3 (by decide) (hts _ mw_459) (fun _ h9 => h9) rfl dX2_testsReach_25 ?_
      refine lv_aload_n hx hb dX2_testsReach_28 rfl (lv_at hl 0 rfl) ?_
      refine va_get (D := D) (ci := 2) (v := .ref (a 18)) (C := RX2) (T := TX2) (N := 13) hx hb hts inlX2 hown hK hP 17 gC_17 rfl 8 (by decide) (hts _ mw_84) (fun _ h9 => h9) rfl dX2_testsReach_29 ?_
      refine lv_iload_n hx hb dX2_testsReach_32 rfl (lv_at hl 2 rfl) ?_
      obtain ⟨v5, e6, hF⟩ := Option.bind_eq_some_iff.mp hF
      refine z_ild hx hb hK hP 18 gC_18 e6 dX2_testsReach_33 ?_
      obtain ⟨v7, e8, hF⟩ := Option.bind_eq_some_iff.mp hF
      refine z_callVI (w' := (wC cyI cyZ a σ)) (As := [.int (σ 17 3), .int v5]) (rest := []) ⟨hx, hb, hml, hown, hts⟩ (c_X6_linkingColumn l D cyI cyZ a A σ (σ 17 3) v5 _ e8) (cwV 2 hts (gd_V mw_511 mw_512 mw_513 mw_14 mw_514) rfl rfl rfl (by decide +kernel) ⟨Nat.le_of_ble_eq_true rfl, Nat.le_of_ble_eq_true rfl⟩) hK hN hP hD hS 6 1 rfl rfl gC_1 rfl hl.1 rfl (Nat.le_of_ble_eq_true rfl) dX2_testsReach_34 ⟨Nat.zero_le _, Nat.zero_le _⟩ (fun H locs hP hD hS => ?_)
      refine lv_if_ge (tgt := 42) hx hb dX2_testsReach_37 (by decide) (fun c9 => ?_) (fun c9 => ?_)
      · rw [if_pos c9] at hF
        refine lv_iinc (v := (x2 + (1 : Int32))) (lv' := [(2, .int (x2 + (1 : Int32))), (0, .ref (a 17)), (1, .ref (a 1))]) hx hb dX2_testsReach_42 hl (k := 2) rfl rfl (by decide) rfl (fun ls hl => ?_)
        refine lv_goto (tgt := 2) hx hb dX2_testsReach_45 (by decide) ?_
        cases hF
        exact ih _ _ _ _ _ _ hgo (Or.inr (⟨rfl, _, rfl, lv_sub hl [1, 2, 0] rfl⟩)) hP hD hS
      · rw [if_neg c9] at hF
        refine lv_iconst (v := (0 : Int32)) hx hb dX2_testsReach_40 (by decide) ?_
        cases hF
        obtain rfl := extR_ret hq (goL_ret hgo)
        exact z_zret hx hb hr hlocks hK hP hD hS rfl dX2_testsReach_41
theorem wk_X2_testsReach (σ : Mem) (hC : CX p c cX2_testsReach meth (some .boolean) s m args yX2_testsReach.cls 3 D cyI cyZ) (hq : extR q = some r) : ∀ (n : Nat), ∀ (pc : Nat) (x : Unit) (vs : List Int32) (ls : Array Slot) (H : Heap) (locs : List Loc), goL (B_X2_testsReach σ) n pc x vs = some q → SH_X2_testsReach a ls pc vs → va_P D vwCl (wC cyI cyZ a σ) H → va_D A (wC cyI cyZ a σ) → va_S A s.heap H locs → W p l e (headSpec ts_X2_testsReach ({ frames := 1, cells := 0, slots := 0, locals := 23 } : Room)).room s m args below meth c H locs 0 0 (MQ below (QcI D cyI cyZ A (wC cyI cyZ a σ) r) args s 0 0 A) (F0 m pc ls []) := by
  intro n
  induction n with
  | zero => intro pc x vs ls H locs h; exact absurd h (by simp [goL])
  | succ n ih =>
    intro pc x vs ls H locs hgo hsh hP hD hS
    rcases hsh with ⟨rfl, rfl, hl⟩ | ⟨rfl, x2, rfl, hl⟩
    · exact wl_X2_testsReach_0 σ hC hq n ih  ls H locs hgo hl hP hD hS
    · exact wl_X2_testsReach_2 σ hC hq n ih x2 ls H locs hgo hl hP hD hS
end
theorem c_X2_testsReach (l : Launch) (D : va_G) (cyI cyZ : ClassId) (a : Nat → Nat) (A : Nat → Prop) (σ : Mem) (r : Int32) (hF : F_X2_testsReach σ  = some r) : CtI l yX2_testsReach ts_X2_testsReach ({ frames := 1, cells := 0, slots := 0, locals := 23 } : Room) [.ref (a 17), .ref (a 1)] D cyI cyZ A (wC cyI cyZ a σ) (wC cyI cyZ a σ) r := by
  refine CtI.of (cc := cX2_testsReach) (maxL := 3) (ret := (some .boolean)) (by decide) rfl (Nat.le_of_ble_eq_true rfl) ?_
  intro p e s m below meth c ls hC hP hD hl
  obtain ⟨q, hq, hr1⟩ := Option.bind_eq_some_iff.mp hF
  obtain ⟨n, hn⟩ := finL_some hq
  exact wk_X2_testsReach σ hC hr1 n 0 _ _ ls _ _ hn (Or.inl ⟨rfl, rfl, hl⟩) hP hD va_S.rf
