-- X1_answerOf X0_learnAnswers X4_empty X4_add X4_size X0_unlikeAnswers X3_size X5_meaningAt X0_parts
abbrev ts_X1_answerOf : List Cond := .code yX1_answerOf cX1_answerOf 6 (some .int) :: wsL_law
def SH_X1_answerOf (a : Nat → Nat) (ls : Array Slot) (pc : Nat) (vs : List Int32) : Prop := (pc = 0 ∧ vs = [] ∧ lv_has ls 6 [(0, .ref (a 27)), (1, .ref (a 17))]) ∨ (pc = 36 ∧ ∃ x2 x3 x4 : Int32, vs = [x2, x3, x4] ∧ lv_has ls 6 [(0, .ref (a 27)), (1, .ref (a 17)), (2, .int x2), (3, .int x3), (4, .int x4)])
section
variable {p : Program} {l : Launch} {e : Env} {s : State} {m : MethodId} {args : Array Value} {below : List Frame} {meth : Method} {c : Code} {D : va_G} {A : Nat → Prop} {a : Nat → Nat} {cyI cyZ : ClassId} {r : Int32} {σ' : Mem} {q : Mem × List Int32}
set_option maxHeartbeats 4000000 in
set_option maxRecDepth 100000 in
theorem wl_X1_answerOf_0 (σ : Mem) (hC : CX p c cX1_answerOf meth (some .int) s m args yX1_answerOf.cls 6 D cyI cyZ) (hq : extM q = some (r, σ')) (n : Nat) (ih : ∀ (pc : Nat) (x : Mem) (vs : List Int32) (ls : Array Slot) (H : Heap) (locs : List Loc), goL B_X1_answerOf n pc x vs = some q → SH_X1_answerOf a ls pc vs → va_P D vwCl (wC cyI cyZ a x) H → va_D A (wC cyI cyZ a x) → va_S A s.heap H locs → W p l e (headSpec ts_X1_answerOf ({ frames := 4, cells := 0, slots := 0, locals := 98 } : Room)).room s m args below meth c H locs 0 0 (MQ below (QcI D cyI cyZ A (wC cyI cyZ a σ') r) args s 0 0 A) (F0 m pc ls [])) (ls : Array Slot) (H : Heap) (locs : List Loc) (hgo : goL B_X1_answerOf (n + 1) 0 σ [] = some q) (hl : lv_has ls 6 [(0, .ref (a 27)), (1, .ref (a 17))]) (hP : va_P D vwCl (wC cyI cyZ a σ) H) (hD : va_D A (wC cyI cyZ a σ)) (hS : va_S A s.heap H locs) : W p l e (headSpec ts_X1_answerOf ({ frames := 4, cells := 0, slots := 0, locals := 98 } : Room)).room s m args below meth c H locs 0 0 (MQ below (QcI D cyI cyZ A (wC cyI cyZ a σ') r) args s 0 0 A) (F0 m 0 ls []) := by
  obtain ⟨hx, hb, hr, hml, hown, hts, hK, hN, hlocks⟩ := hC
  have hown : s.vm.findClass RX1 = some m.cls := hown
  obtain ⟨yy, hF, hgo⟩ := goL_step (by decide) hgo
  have hF : B_X1_answerOf_0 σ  = some yy := hF
  unfold B_X1_answerOf_0 at hF
  refine lv_aload_n hx hb dX1_answerOf_0 rfl (lv_at hl 0 rfl) ?_
  refine lv_aload_n hx hb dX1_answerOf_1 rfl (lv_at hl 1 rfl) ?_
  obtain ⟨p1, e2, hF⟩ := Option.bind_eq_some_iff.mp hF
  refine z_callVI (w' := (wC cyI cyZ a p1.2)) (As := [.ref (a 17)]) (rest := []) ⟨hx, hb, hml, hown, hts⟩ (c_X1_rowsFound l D cyI cyZ a A σ  p1.1 p1.2 e2) (cwV 1 hts (gd_V mw_691 mw_600 mw_601 mw_30 mw_602) rfl rfl rfl (by decide +kernel) ⟨Nat.le_of_ble_eq_true rfl, Nat.le_of_ble_eq_true rfl⟩) hK hN hP hD hS 1 27 rfl rfl gC_27 rfl hl.1 rfl (Nat.le_of_ble_eq_true rfl) dX1_answerOf_2 ⟨Nat.zero_le _, Nat.zero_le _⟩ (fun H locs hP hD hS => ?_)
  refine lv_istore_n (lv' := [(2, .int p1.1), (0, .ref (a 27)), (1, .ref (a 17))]) hx hb dX1_answerOf_5 rfl hl (by decide) rfl (fun ls hl => ?_)
  refine lv_aload_n hx hb dX1_answerOf_6 rfl (lv_at hl 2 rfl) ?_
  refine z_callVI (w' := (wC cyI cyZ a p1.2)) (As := []) (rest := []) ⟨hx, hb, hml, hown, hts⟩ (c_X2_doing l D cyI cyZ a A p1.2  _ rfl) (cwV 0 hts (gd_V mw_692 mw_584 mw_585 mw_71 mw_586) rfl rfl rfl (by decide +kernel) ⟨Nat.le_of_ble_eq_true rfl, Nat.le_of_ble_eq_true rfl⟩) hK hN hP hD hS 2 17 rfl rfl gC_17 rfl hl.1 rfl (Nat.le_of_ble_eq_true rfl) dX1_answerOf_7 ⟨Nat.zero_le _, Nat.zero_le _⟩ (fun H locs hP hD hS => ?_)
  refine lv_if_ne (tgt := 18) hx hb dX1_answerOf_10 (by decide) (fun c3 => ?_) (fun c3 => ?_)
  · rw [if_neg c3] at hF
    refine lv_aload_n hx hb dX1_answerOf_18 rfl (lv_at hl 2 rfl) ?_
    refine z_callVI (w' := (wC cyI cyZ a p1.2)) (As := []) (rest := []) ⟨hx, hb, hml, hown, hts⟩ (c_X2_doing l D cyI cyZ a A p1.2  _ rfl) (cwV 0 hts (gd_V mw_692 mw_584 mw_585 mw_71 mw_586) rfl rfl rfl (by decide +kernel) ⟨Nat.le_of_ble_eq_true rfl, Nat.le_of_ble_eq_true rfl⟩) hK hN hP hD hS 2 17 rfl rfl gC_17 rfl hl.1 rfl (Nat.le_of_ble_eq_true rfl) dX1_answerOf_19 ⟨Nat.zero_le _, Nat.zero_le _⟩ (fun H locs hP hD hS => ?_)
    refine lv_iconst (v := (1 : Int32)) hx hb dX1_answerOf_22 (by decide) ?_
    refine lv_icmp_ne (tgt := 30) hx hb dX1_answerOf_23 (by decide) (fun c4 => ?_) (fun c4 => ?_)
    · rw [if_neg c4] at hF
      refine lv_ldc (v := (-1000000 : Int32)) hx hb hown (hts _ mw_618) dX1_answerOf_30 ?_
      refine lv_istore_n (lv' := [(3, .int (-1000000 : Int32)), (2, .int p1.1), (0, .ref (a 27)), (1, .ref (a 17))]) hx hb dX1_answerOf_32 rfl hl (by decide) rfl (fun ls hl => ?_)
      refine lv_iconst (v := (0 : Int32)) hx hb dX1_answerOf_33 (by decide) ?_
      refine lv_istore (lv' := [(4, .int (0 : Int32)), (3, .int (-1000000 : Int32)), (2, .int p1.1), (0, .ref (a 27)), (1, .ref (a 17))]) hx hb dX1_answerOf_34 hl (by decide) rfl (fun ls hl => ?_)
      cases hF
      exact ih _ _ _ _ _ _ hgo (Or.inr (⟨rfl, _, _, _, rfl, lv_sub hl [3, 4, 2, 1, 0] rfl⟩)) hP hD hS
    · rw [if_pos c4] at hF
      refine lv_iconst (v := (0 : Int32)) hx hb dX1_answerOf_26 (by decide) ?_
      refine lv_goto (tgt := 32) hx hb dX1_answerOf_27 (by decide) ?_
      refine lv_istore_n (lv' := [(3, .int (0 : Int32)), (2, .int p1.1), (0, .ref (a 27)), (1, .ref (a 17))]) hx hb dX1_answerOf_32 rfl hl (by decide) rfl (fun ls hl => ?_)
      refine lv_iconst (v := (0 : Int32)) hx hb dX1_answerOf_33 (by decide) ?_
      refine lv_istore (lv' := [(4, .int (0 : Int32)), (3, .int (0 : Int32)), (2, .int p1.1), (0, .ref (a 27)), (1, .ref (a 17))]) hx hb dX1_answerOf_34 hl (by decide) rfl (fun ls hl => ?_)
      cases hF
      exact ih _ _ _ _ _ _ hgo (Or.inr (⟨rfl, _, _, _, rfl, lv_sub hl [3, 4, 2, 1, 0] rfl⟩)) hP hD hS
  · rw [if_pos c3] at hF
    refine lv_iload_n hx hb dX1_answerOf_13 rfl (lv_at hl 0 rfl) ?_
    refine z_callSI (w' := (wC cyI cyZ a p1.2)) (As := [.int p1.1]) (rest := []) ⟨hx, hb, hml, hown, hts⟩ (c_J6_bitCount_0f7a4 l D cyI cyZ A (wC cyI cyZ a p1.2) p1.1 _ rfl) (va_cwS 1 hts (gd_S mw_693 mw_645 mw_646 mw_647) rfl rfl rfl (by decide +kernel) ⟨Nat.le_of_ble_eq_true rfl, Nat.le_of_ble_eq_true rfl⟩) hK hN hP hD hS rfl hl.1 rfl (Nat.le_of_ble_eq_true rfl) dX1_answerOf_14 ⟨Nat.zero_le _, Nat.zero_le _⟩ (fun H locs hP hD hS => ?_)
    cases hF
    obtain ⟨rfl, rfl⟩ := extM_ret hq (goL_ret hgo)
    exact z_iret hx hb hr hlocks hK hP hD hS dX1_answerOf_17
set_option maxHeartbeats 4000000 in
set_option maxRecDepth 100000 in
theorem wl_X1_answerOf_36 (σ : Mem) (hC : CX p c cX1_answerOf meth (some .int) s m args yX1_answerOf.cls 6 D cyI cyZ) (hq : extM q = some (r, σ')) (n : Nat) (ih : ∀ (pc : Nat) (x : Mem) (vs : List Int32) (ls : Array Slot) (H : Heap) (locs : List Loc), goL B_X1_answerOf n pc x vs = some q → SH_X1_answerOf a ls pc vs → va_P D vwCl (wC cyI cyZ a x) H → va_D A (wC cyI cyZ a x) → va_S A s.heap H locs → W p l e (headSpec ts_X1_answerOf ({ frames := 4, cells := 0, slots := 0, locals := 98 } : Room)).room s m args below meth c H locs 0 0 (MQ below (QcI D cyI cyZ A (wC cyI cyZ a σ') r) args s 0 0 A) (F0 m pc ls [])) (x2 : Int32) (x3 : Int32) (x4 : Int32) (ls : Array Slot) (H : Heap) (locs : List Loc) (hgo : goL B_X1_answerOf (n + 1) 36 σ [x2, x3, x4] = some q) (hl : lv_has ls 6 [(0, .ref (a 27)), (1, .ref (a 17)), (2, .int x2), (3, .int x3), (4, .int x4)]) (hP : va_P D vwCl (wC cyI cyZ a σ) H) (hD : va_D A (wC cyI cyZ a σ)) (hS : va_S A s.heap H locs) : W p l e (headSpec ts_X1_answerOf ({ frames := 4, cells := 0, slots := 0, locals := 98 } : Room)).room s m args below meth c H locs 0 0 (MQ below (QcI D cyI cyZ A (wC cyI cyZ a σ') r) args s 0 0 A) (F0 m 36 ls []) := by
  obtain ⟨hx, hb, hr, hml, hown, hts, hK, hN, hlocks⟩ := hC
  have hown : s.vm.findClass RX1 = some m.cls := hown
  obtain ⟨yy, hF, hgo⟩ := goL_step (by decide) hgo
  have hF : B_X1_answerOf_36 σ x2 x3 x4 = some yy := hF
  unfold B_X1_answerOf_36 at hF
  refine lv_iload hx hb dX1_answerOf_36 (lv_at hl 4 rfl) ?_
  refine lv_bipush (v := (20 : Int32)) hx hb dX1_answerOf_38 (by decide) ?_
  refine lv_icmp_ge (tgt := 100) hx hb dX1_answerOf_40 (by decide) (fun c1 => ?_) (fun c1 => ?_)
  · rw [if_pos c1] at hF
    refine lv_iload_n hx hb dX1_answerOf_100 rfl (lv_at hl 3 rfl) ?_
    cases hF
    obtain ⟨rfl, rfl⟩ := extM_ret hq (goL_ret hgo)
    exact z_iret hx hb hr hlocks hK hP hD hS dX1_answerOf_101
  · rw [if_neg c1] at hF
    refine lv_iload_n hx hb dX1_answerOf_43 rfl (lv_at hl 2 rfl) ?_
    refine lv_iload hx hb dX1_answerOf_44 (lv_at hl 4 rfl) ?_
    refine z_callNI (w' := (wC cyI cyZ a σ)) (As := [.int x2, .int x4]) (rest := []) ⟨hx, hb, hml, hown, hts⟩ (c_X8_holdsBit l D cyI cyZ A (wC cyI cyZ a σ) x2 x4 _ rfl) ⟨va_cnB 2 hts (gd_C mw_695) rfl rfl rfl hN (hts _ mw_2) (by decide +kernel) ⟨Nat.le_of_ble_eq_true rfl, Nat.le_of_ble_eq_true rfl⟩, (hts _ mw_694), trivial⟩ hK hN hP hD hS rfl hl.1 rfl (Nat.le_of_ble_eq_true rfl) dX1_answerOf_46 ⟨Nat.zero_le _, Nat.zero_le _⟩ (fun H locs hP hD hS => ?_)
    refine lv_if_eq (tgt := 72) hx hb dX1_answerOf_49 (by decide) (fun c2 => ?_) (fun c2 => ?_)
    · rw [if_pos c2] at hF
      refine lv_ldc (v := (-1000000 : Int32)) hx hb hown (hts _ mw_618) dX1_answerOf_72 ?_
      refine lv_istore (lv' := [(5, .int (-1000000 : Int32)), (0, .ref (a 27)), (1, .ref (a 17)), (2, .int x2), (3, .int x3), (4, .int x4)]) hx hb dX1_answerOf_74 hl (by decide) rfl (fun ls hl => ?_)
      refine lv_iload hx hb dX1_answerOf_76 (lv_at hl 0 rfl) ?_
      refine lv_ldc (v := (-1000000 : Int32)) hx hb hown (hts _ mw_618) dX1_answerOf_78 ?_
      refine lv_icmp_eq (tgt := 94) hx hb dX1_answerOf_80 (by decide) (fun c3 => ?_) (fun c3 => ?_)
      · rw [if_pos c3] at hF
        refine lv_iinc (v := (x4 + (1 : Int32))) (lv' := [(4, .int (x4 + (1 : Int32))), (5, .int (-1000000 : Int32)), (0, .ref (a 27)), (1, .ref (a 17)), (2, .int x2), (3, .int x3)]) hx hb dX1_answerOf_94 hl (k := 5) rfl rfl (by decide) rfl (fun ls hl => ?_)
        refine lv_goto (tgt := 36) hx hb dX1_answerOf_97 (by decide) ?_
        cases hF
        exact ih _ _ _ _ _ _ hgo (Or.inr (⟨rfl, _, _, _, rfl, lv_sub hl [2, 3, 4, 5, 0] rfl⟩)) hP hD hS
      · rw [if_neg c3] at hF
        refine lv_aload_n hx hb dX1_answerOf_83 rfl (lv_at hl 2 rfl) ?_
        refine z_callVI (w' := (wC cyI cyZ a σ)) (As := []) (rest := []) ⟨hx, hb, hml, hown, hts⟩ (c_X2_doing l D cyI cyZ a A σ  _ rfl) (cwV 0 hts (gd_V mw_692 mw_584 mw_585 mw_71 mw_586) rfl rfl rfl (by decide +kernel) ⟨Nat.le_of_ble_eq_true rfl, Nat.le_of_ble_eq_true rfl⟩) hK hN hP hD hS 2 17 rfl rfl gC_17 rfl hl.1 rfl (Nat.le_of_ble_eq_true rfl) dX1_answerOf_84 ⟨Nat.zero_le _, Nat.zero_le _⟩ (fun H locs hP hD hS => ?_)
        refine lv_iload_n hx hb dX1_answerOf_87 rfl (lv_at hl 4 rfl) ?_
        refine lv_iload hx hb dX1_answerOf_88 (lv_at hl 0 rfl) ?_
        refine z_callSI (w' := (wC cyI cyZ a σ)) (As := [.int (F_X2_doing σ), .int x3, .int (-1000000 : Int32)]) (rest := []) ⟨hx, hb, hml, hown, hts⟩ (c_X1_joined l D cyI cyZ A (wC cyI cyZ a σ) (F_X2_doing σ) x3 (-1000000 : Int32) _ rfl) (va_cwS 3 hts (gd_S mw_697 mw_698 mw_30 mw_699) rfl rfl rfl (by decide +kernel) ⟨Nat.le_of_ble_eq_true rfl, Nat.le_of_ble_eq_true rfl⟩) hK hN hP hD hS rfl hl.1 rfl (Nat.le_of_ble_eq_true rfl) dX1_answerOf_90 ⟨Nat.zero_le _, Nat.zero_le _⟩ (fun H locs hP hD hS => ?_)
        obtain ⟨y4, e5, hF⟩ := Option.bind_eq_some_iff.mp hF
        refine z_top e5 ?_
        refine lv_istore_n (lv' := [(3, .int y4), (5, .int (-1000000 : Int32)), (0, .ref (a 27)), (1, .ref (a 17)), (2, .int x2), (4, .int x4)]) hx hb dX1_answerOf_93 rfl hl (by decide) rfl (fun ls hl => ?_)
        refine lv_iinc (v := (x4 + (1 : Int32))) (lv' := [(4, .int (x4 + (1 : Int32))), (3, .int y4), (5, .int (-1000000 : Int32)), (0, .ref (a 27)), (1, .ref (a 17)), (2, .int x2)]) hx hb dX1_answerOf_94 hl (k := 5) rfl rfl (by decide) rfl (fun ls hl => ?_)
        refine lv_goto (tgt := 36) hx hb dX1_answerOf_97 (by decide) ?_
        cases hF
        exact ih _ _ _ _ _ _ hgo (Or.inr (⟨rfl, _, _, _, rfl, lv_sub hl [3, 4, 5, 1, 0] rfl⟩)) hP hD hS
    · rw [if_neg c2] at hF
      refine lv_aload_n hx hb dX1_answerOf_52 rfl (lv_at hl 0 rfl) ?_
      refine va_get (D := D) (ci := 1) (v := .ref (a 1)) (C := RX1) (T := TX1) (N := 2) hx hb hts inlX1 hown hK hP 27 gC_27 rfl 0 (by decide) (hts _ mw_94) (fun _ h9 => h9) rfl dX1_answerOf_53 ?_
      refine lv_aload_n hx hb dX1_answerOf_56 rfl (lv_at hl 1 rfl) ?_
      refine z_callVI (w' := (wC cyI cyZ a σ)) (As := []) (rest := [.ref (a 1)]) ⟨hx, hb, hml, hown, hts⟩ (c_X2_from l D cyI cyZ a A σ  _ rfl) (cwV 0 hts (gd_V mw_603 mw_588 mw_589 mw_71 mw_590) rfl rfl rfl (by decide +kernel) ⟨Nat.le_of_ble_eq_true rfl, Nat.le_of_ble_eq_true rfl⟩) hK hN hP hD hS 2 17 rfl rfl gC_17 rfl hl.1 rfl (Nat.le_of_ble_eq_true rfl) dX1_answerOf_57 ⟨Nat.zero_le _, Nat.zero_le _⟩ (fun H locs hP hD hS => ?_)
      refine lv_iload hx hb dX1_answerOf_60 (lv_at hl 4 rfl) ?_
      refine lv_aload_n hx hb dX1_answerOf_62 rfl (lv_at hl 1 rfl) ?_
      refine z_callVI (w' := (wC cyI cyZ a σ)) (As := []) (rest := [.int x4, .int (F_X2_from σ), .ref (a 1)]) ⟨hx, hb, hml, hown, hts⟩ (c_X2_wanted l D cyI cyZ a A σ  _ rfl) (cwV 0 hts (gd_V mw_696 mw_592 mw_593 mw_71 mw_594) rfl rfl rfl (by decide +kernel) ⟨Nat.le_of_ble_eq_true rfl, Nat.le_of_ble_eq_true rfl⟩) hK hN hP hD hS 2 17 rfl rfl gC_17 rfl hl.1 rfl (Nat.le_of_ble_eq_true rfl) dX1_answerOf_63 ⟨Nat.zero_le _, Nat.zero_le _⟩ (fun H locs hP hD hS => ?_)
      obtain ⟨v6, e7, hF⟩ := Option.bind_eq_some_iff.mp hF
      refine z_callVI (w' := (wC cyI cyZ a σ)) (As := [.int (F_X2_from σ), .int x4, .int (F_X2_wanted σ)]) (rest := []) ⟨hx, hb, hml, hown, hts⟩ (c_X6_cell l D cyI cyZ a A σ (F_X2_from σ) x4 (F_X2_wanted σ) _ e7) (cwV 3 hts (gd_V mw_628 mw_240 mw_241 mw_14 mw_242) rfl rfl rfl (by decide +kernel) ⟨Nat.le_of_ble_eq_true rfl, Nat.le_of_ble_eq_true rfl⟩) hK hN hP hD hS 6 1 rfl rfl gC_1 rfl hl.1 rfl (Nat.le_of_ble_eq_true rfl) dX1_answerOf_66 ⟨Nat.zero_le _, Nat.zero_le _⟩ (fun H locs hP hD hS => ?_)
      refine lv_goto (tgt := 74) hx hb dX1_answerOf_69 (by decide) ?_
      refine lv_istore (lv' := [(5, .int v6), (0, .ref (a 27)), (1, .ref (a 17)), (2, .int x2), (3, .int x3), (4, .int x4)]) hx hb dX1_answerOf_74 hl (by decide) rfl (fun ls hl => ?_)
      refine lv_iload hx hb dX1_answerOf_76 (lv_at hl 0 rfl) ?_
      refine lv_ldc (v := (-1000000 : Int32)) hx hb hown (hts _ mw_618) dX1_answerOf_78 ?_
      refine lv_icmp_eq (tgt := 94) hx hb dX1_answerOf_80 (by decide) (fun c8 => ?_) (fun c8 => ?_)
      · rw [if_pos c8] at hF
        refine lv_iinc (v := (x4 + (1 : Int32))) (lv' := [(4, .int (x4 + (1 : Int32))), (5, .int v6), (0, .ref (a 27)), (1, .ref (a 17)), (2, .int x2), (3, .int x3)]) hx hb dX1_answerOf_94 hl (k := 5) rfl rfl (by decide) rfl (fun ls hl => ?_)
        refine lv_goto (tgt := 36) hx hb dX1_answerOf_97 (by decide) ?_
        cases hF
        exact ih _ _ _ _ _ _ hgo (Or.inr (⟨rfl, _, _, _, rfl, lv_sub hl [2, 3, 4, 5, 0] rfl⟩)) hP hD hS
      · rw [if_neg c8] at hF
        refine lv_aload_n hx hb dX1_answerOf_83 rfl (lv_at hl 2 rfl) ?_
        refine z_callVI (w' := (wC cyI cyZ a σ)) (As := []) (rest := []) ⟨hx, hb, hml, hown, hts⟩ (c_X2_doing l D cyI cyZ a A σ  _ rfl) (cwV 0 hts (gd_V mw_692 mw_584 mw_585 mw_71 mw_586) rfl rfl rfl (by decide +kernel) ⟨Nat.le_of_ble_eq_true rfl, Nat.le_of_ble_eq_true rfl⟩) hK hN hP hD hS 2 17 rfl rfl gC_17 rfl hl.1 rfl (Nat.le_of_ble_eq_true rfl) dX1_answerOf_84 ⟨Nat.zero_le _, Nat.zero_le _⟩ (fun H locs hP hD hS => ?_)
        refine lv_iload_n hx hb dX1_answerOf_87 rfl (lv_at hl 4 rfl) ?_
        refine lv_iload hx hb dX1_answerOf_88 (lv_at hl 0 rfl) ?_
        refine z_callSI (w' := (wC cyI cyZ a σ)) (As := [.int (F_X2_doing σ), .int x3, .int v6]) (rest := []) ⟨hx, hb, hml, hown, hts⟩ (c_X1_joined l D cyI cyZ A (wC cyI cyZ a σ) (F_X2_doing σ) x3 v6 _ rfl) (va_cwS 3 hts (gd_S mw_697 mw_698 mw_30 mw_699) rfl rfl rfl (by decide +kernel) ⟨Nat.le_of_ble_eq_true rfl, Nat.le_of_ble_eq_true rfl⟩) hK hN hP hD hS rfl hl.1 rfl (Nat.le_of_ble_eq_true rfl) dX1_answerOf_90 ⟨Nat.zero_le _, Nat.zero_le _⟩ (fun H locs hP hD hS => ?_)
        refine lv_istore_n (lv' := [(3, .int (F_X1_joined (F_X2_doing σ) x3 v6)), (5, .int v6), (0, .ref (a 27)), (1, .ref (a 17)), (2, .int x2), (4, .int x4)]) hx hb dX1_answerOf_93 rfl hl (by decide) rfl (fun ls hl => ?_)
        refine lv_iinc (v := (x4 + (1 : Int32))) (lv' := [(4, .int (x4 + (1 : Int32))), (3, .int (F_X1_joined (F_X2_doing σ) x3 v6)), (5, .int v6), (0, .ref (a 27)), (1, .ref (a 17)), (2, .int x2)]) hx hb dX1_answerOf_94 hl (k := 5) rfl rfl (by decide) rfl (fun ls hl => ?_)
        refine lv_goto (tgt := 36) hx hb dX1_answerOf_97 (by decide) ?_
        cases hF
        exact ih _ _ _ _ _ _ hgo (Or.inr (⟨rfl, _, _, _, rfl, lv_sub hl [3, 4, 5, 1, 0] rfl⟩)) hP hD hS
theorem wk_X1_answerOf (hC : CX p c cX1_answerOf meth (some .int) s m args yX1_answerOf.cls 6 D cyI cyZ) (hq : extM q = some (r, σ')) : ∀ (n : Nat), ∀ (pc : Nat) (x : Mem) (vs : List Int32) (ls : Array Slot) (H : Heap) (locs : List Loc), goL B_X1_answerOf n pc x vs = some q → SH_X1_answerOf a ls pc vs → va_P D vwCl (wC cyI cyZ a x) H → va_D A (wC cyI cyZ a x) → va_S A s.heap H locs → W p l e (headSpec ts_X1_answerOf ({ frames := 4, cells := 0, slots := 0, locals := 98 } : Room)).room s m args below meth c H locs 0 0 (MQ below (QcI D cyI cyZ A (wC cyI cyZ a σ') r) args s 0 0 A) (F0 m pc ls []) := by
  intro n
  induction n with
  | zero => intro pc x vs ls H locs h; exact absurd h (by simp [goL])
  | succ n ih =>
    intro pc x vs ls H locs hgo hsh hP hD hS
    rcases hsh with ⟨rfl, rfl, hl⟩ | ⟨rfl, x2, x3, x4, rfl, hl⟩
    · exact wl_X1_answerOf_0 x hC hq n ih  ls H locs hgo hl hP hD hS
    · exact wl_X1_answerOf_36 x hC hq n ih x2 x3 x4 ls H locs hgo hl hP hD hS
end
theorem c_X1_answerOf (l : Launch) (D : va_G) (cyI cyZ : ClassId) (a : Nat → Nat) (A : Nat → Prop) (σ : Mem) (r : Int32) (σ' : Mem) (hF : F_X1_answerOf σ  = some (r, σ')) : CtI l yX1_answerOf ts_X1_answerOf ({ frames := 4, cells := 0, slots := 0, locals := 98 } : Room) [.ref (a 27), .ref (a 17)] D cyI cyZ A (wC cyI cyZ a σ) (wC cyI cyZ a σ') r := by
  refine CtI.of (cc := cX1_answerOf) (maxL := 6) (ret := (some .int)) (by decide) rfl (Nat.le_of_ble_eq_true rfl) ?_
  intro p e s m below meth c ls hC hP hD hl
  obtain ⟨q, hq, hr1⟩ := Option.bind_eq_some_iff.mp hF
  obtain ⟨n, hn⟩ := finL_some hq
  exact wk_X1_answerOf hC hr1 n 0 _ _ ls _ _ hn (Or.inl ⟨rfl, rfl, hl⟩) hP hD va_S.rf
abbrev ts_X0_learnAnswers : List Cond := .code yX0_learnAnswers cX0_learnAnswers 2 none :: wsL_law
def SH_X0_learnAnswers (a : Nat → Nat) (ls : Array Slot) (pc : Nat) (vs : List Int32) : Prop := (pc = 0 ∧ ∃ x1 : Int32, vs = [x1] ∧ lv_has ls 2 [(0, .ref (a 29)), (1, .int x1)])
section
variable {p : Program} {l : Launch} {e : Env} {s : State} {m : MethodId} {args : Array Value} {below : List Frame} {meth : Method} {c : Code} {D : va_G} {A : Nat → Prop} {a : Nat → Nat} {cyI cyZ : ClassId} {σ' : Mem} {q : Mem × List Int32}
set_option maxHeartbeats 4000000 in
set_option maxRecDepth 100000 in
theorem wl_X0_learnAnswers_0 (σ : Mem) (hC : CX p c cX0_learnAnswers meth none s m args yX0_learnAnswers.cls 2 D cyI cyZ) (hq : extV q = some σ') (n : Nat) (ih : ∀ (pc : Nat) (x : Mem) (vs : List Int32) (ls : Array Slot) (H : Heap) (locs : List Loc), goL B_X0_learnAnswers n pc x vs = some q → SH_X0_learnAnswers a ls pc vs → va_P D vwCl (wC cyI cyZ a x) H → va_D A (wC cyI cyZ a x) → va_S A s.heap H locs → W p l e (headSpec ts_X0_learnAnswers ({ frames := 5, cells := 0, slots := 0, locals := 123 } : Room)).room s m args below meth c H locs 0 0 (MQ below (QcV D cyI cyZ A (wC cyI cyZ a σ')) args s 0 0 A) (F0 m pc ls [])) (x1 : Int32) (ls : Array Slot) (H : Heap) (locs : List Loc) (hgo : goL B_X0_learnAnswers (n + 1) 0 σ [x1] = some q) (hl : lv_has ls 2 [(0, .ref (a 29)), (1, .int x1)]) (hP : va_P D vwCl (wC cyI cyZ a σ) H) (hD : va_D A (wC cyI cyZ a σ)) (hS : va_S A s.heap H locs) : W p l e (headSpec ts_X0_learnAnswers ({ frames := 5, cells := 0, slots := 0, locals := 123 } : Room)).room s m args below meth c H locs 0 0 (MQ below (QcV D cyI cyZ A (wC cyI cyZ a σ')) args s 0 0 A) (F0 m 0 ls []) := by
  obtain ⟨hx, hb, hr, hml, hown, hts, hK, hN, hlocks⟩ := hC
  have hown : s.vm.findClass RX0 = some m.cls := hown
  obtain ⟨yy, hF, hgo⟩ := goL_step (by decide) hgo
  have hF : B_X0_learnAnswers_0 σ x1 = some yy := hF
  unfold B_X0_learnAnswers_0 at hF
  refine lv_aload_n hx hb dX0_learnAnswers_0 rfl (lv_at hl 0 rfl) ?_
  refine va_get (D := D) (ci := 0) (v := .int (σ 29 5)) (C := RX0) (T := TX0) (N := 6) hx hb hts inlX0 hown hK hP 29 gC_29 rfl 5 (by decide) (hts _ mw_188) (fun _ h9 => h9) rfl dX0_learnAnswers_1 ?_
  refine lv_iload_n hx hb dX0_learnAnswers_4 rfl (lv_at hl 1 rfl) ?_
  refine lv_icmp_ge (tgt := 48) hx hb dX0_learnAnswers_5 (by decide) (fun c1 => ?_) (fun c1 => ?_)
  · rw [if_pos c1] at hF
    cases hF
    obtain rfl := extV_ret hq (goL_ret hgo)
    exact z_vret hx hb hr hlocks hK hP hD hS dX0_learnAnswers_48
  · rw [if_neg c1] at hF
    refine lv_aload_n hx hb dX0_learnAnswers_8 rfl (lv_at hl 0 rfl) ?_
    refine va_get (D := D) (ci := 0) (v := .ref (a 33)) (C := RX0) (T := TX0) (N := 6) hx hb hts inlX0 hown hK hP 29 gC_29 rfl 4 (by decide) (hts _ mw_104) (fun _ h9 => h9) rfl dX0_learnAnswers_9 ?_
    refine lv_aload_n hx hb dX0_learnAnswers_12 rfl (lv_at hl 0 rfl) ?_
    refine va_get (D := D) (ci := 0) (v := .int (σ 29 5)) (C := RX0) (T := TX0) (N := 6) hx hb hts inlX0 hown hK hP 29 gC_29 rfl 5 (by decide) (hts _ mw_188) (fun _ h9 => h9) rfl dX0_learnAnswers_13 ?_
    refine lv_aload_n hx hb dX0_learnAnswers_16 rfl (lv_at hl 0 rfl) ?_
    refine va_get (D := D) (ci := 0) (v := .ref (a 27)) (C := RX0) (T := TX0) (N := 6) hx hb hts inlX0 hown hK hP 29 gC_29 rfl 2 (by decide) (hts _ mw_107) (fun _ h9 => h9) rfl dX0_learnAnswers_17 ?_
    refine lv_aload_n hx hb dX0_learnAnswers_20 rfl (lv_at hl 0 rfl) ?_
    refine va_get (D := D) (ci := 0) (v := .ref (a 16)) (C := RX0) (T := TX0) (N := 6) hx hb hts inlX0 hown hK hP 29 gC_29 rfl 1 (by decide) (hts _ mw_106) (fun _ h9 => h9) rfl dX0_learnAnswers_21 ?_
    refine lv_aload_n hx hb dX0_learnAnswers_24 rfl (lv_at hl 0 rfl) ?_
    refine va_get (D := D) (ci := 0) (v := .int (σ 29 5)) (C := RX0) (T := TX0) (N := 6) hx hb hts inlX0 hown hK hP 29 gC_29 rfl 5 (by decide) (hts _ mw_188) (fun _ h9 => h9) rfl dX0_learnAnswers_25 ?_
    obtain ⟨σ2, e3, hF⟩ := Option.bind_eq_some_iff.mp hF
    refine z_callVR (w' := (wC cyI cyZ a σ2)) (As := [.int (σ 29 5)]) (rest := [.ref (a 27), .int (σ 29 5), .ref (a 33)]) ⟨hx, hb, hml, hown, hts⟩ (c_X5_formOf l D cyI cyZ a A σ (σ 29 5) σ2 e3) (cwV 1 hts (gd_V mw_739 mw_579 mw_580 mw_26 mw_581) rfl rfl rfl (by decide +kernel) ⟨Nat.le_of_ble_eq_true rfl, Nat.le_of_ble_eq_true rfl⟩) hK hN hP hD hS 5 16 rfl rfl gC_16 rfl hl.1 rfl (Nat.le_of_ble_eq_true rfl) dX0_learnAnswers_28 ⟨Nat.zero_le _, Nat.zero_le _⟩ (fun H locs hP hD hS => ?_)
    obtain ⟨p4, e5, hF⟩ := Option.bind_eq_some_iff.mp hF
    refine z_callVI (w' := (wC cyI cyZ a p4.2)) (As := [.ref (a 17)]) (rest := [.int (σ 29 5), .ref (a 33)]) ⟨hx, hb, hml, hown, hts⟩ (c_X1_answerOf l D cyI cyZ a A σ2  p4.1 p4.2 e5) (cwV 1 hts (gd_V mw_740 mw_688 mw_689 mw_30 mw_690) rfl rfl rfl (by decide +kernel) ⟨Nat.le_of_ble_eq_true rfl, Nat.le_of_ble_eq_true rfl⟩) hK hN hP hD hS 1 27 rfl rfl gC_27 rfl hl.1 rfl (Nat.le_of_ble_eq_true rfl) dX0_learnAnswers_31 ⟨Nat.zero_le _, Nat.zero_le _⟩ (fun H locs hP hD hS => ?_)
    obtain ⟨σ6, e7, hF⟩ := Option.bind_eq_some_iff.mp hF
    refine z_ist (wC cyI cyZ a) hx hb hK hP hD hS 33 gC_33 sC_33 e7 dX0_learnAnswers_34 (fun H locs hP hD hS => ?_)
    refine lv_aload_n hx hb dX0_learnAnswers_35 rfl (lv_at hl 0 rfl) ?_
    refine lv_dup hx hb dX0_learnAnswers_36 rfl ?_
    refine va_get (D := D) (ci := 0) (v := .int (σ6 29 5)) (C := RX0) (T := TX0) (N := 6) hx hb hts inlX0 hown hK hP 29 gC_29 rfl 5 (by decide) (hts _ mw_188) (fun _ h9 => h9) rfl dX0_learnAnswers_37 ?_
    refine lv_iconst (v := (1 : Int32)) hx hb dX0_learnAnswers_40 (by decide) ?_
    refine lv_iadd hx hb dX0_learnAnswers_41 ?_
    obtain ⟨σ8, e9, hF⟩ := Option.bind_eq_some_iff.mp hF
    refine va_put (D := D) (ci := 0) (v := .int ((σ6 29 5) + (1 : Int32))) (ty := .int) (C := RX0) (T := TX0) (N := 6) hx hb hts inlX0 tyX0 tyX0_ok nmX0 hown hK hP hD hS 29 gC_29 rfl 5 (by decide) (hts _ mw_188) (fun _ h9 => h9) rfl (by decide +kernel) rfl rfl (Nat.le_of_ble_eq_true rfl) dX0_learnAnswers_42 (fun H locs hP hD hS => ?_)
    rw [sC_29_5, Option.some.inj e9] at hP hD
    refine lv_goto (tgt := 0) hx hb dX0_learnAnswers_45 (by decide) ?_
    cases hF
    exact ih _ _ _ _ _ _ hgo (⟨rfl, _, rfl, lv_sub hl [0, 1] rfl⟩) hP hD hS
theorem wk_X0_learnAnswers (hC : CX p c cX0_learnAnswers meth none s m args yX0_learnAnswers.cls 2 D cyI cyZ) (hq : extV q = some σ') : ∀ (n : Nat), ∀ (pc : Nat) (x : Mem) (vs : List Int32) (ls : Array Slot) (H : Heap) (locs : List Loc), goL B_X0_learnAnswers n pc x vs = some q → SH_X0_learnAnswers a ls pc vs → va_P D vwCl (wC cyI cyZ a x) H → va_D A (wC cyI cyZ a x) → va_S A s.heap H locs → W p l e (headSpec ts_X0_learnAnswers ({ frames := 5, cells := 0, slots := 0, locals := 123 } : Room)).room s m args below meth c H locs 0 0 (MQ below (QcV D cyI cyZ A (wC cyI cyZ a σ')) args s 0 0 A) (F0 m pc ls []) := by
  intro n
  induction n with
  | zero => intro pc x vs ls H locs h; exact absurd h (by simp [goL])
  | succ n ih =>
    intro pc x vs ls H locs hgo hsh hP hD hS
    rcases hsh with ⟨rfl, x1, rfl, hl⟩
    · exact wl_X0_learnAnswers_0 x hC hq n ih x1 ls H locs hgo hl hP hD hS
end
theorem c_X0_learnAnswers (l : Launch) (D : va_G) (cyI cyZ : ClassId) (a : Nat → Nat) (A : Nat → Prop) (σ : Mem) (x1 : Int32) (σ' : Mem) (hF : F_X0_learnAnswers σ x1 = some σ') : CtV l yX0_learnAnswers ts_X0_learnAnswers ({ frames := 5, cells := 0, slots := 0, locals := 123 } : Room) [.ref (a 29), .int x1] D cyI cyZ A (wC cyI cyZ a σ) (wC cyI cyZ a σ') := by
  refine CtV.of (cc := cX0_learnAnswers) (maxL := 2) (ret := none) (by decide) rfl (Nat.le_of_ble_eq_true rfl) ?_
  intro p e s m below meth c ls hC hP hD hl
  obtain ⟨q, hq, hr1⟩ := Option.bind_eq_some_iff.mp hF
  obtain ⟨n, hn⟩ := finL_some hq
  exact wk_X0_learnAnswers hC hr1 n 0 _ _ ls _ _ hn (⟨rfl, _, rfl, hl⟩) hP hD va_S.rf
abbrev ts_X4_empty : List Cond := .code yX4_empty cX4_empty 1 none :: wsL_law
set_option maxHeartbeats 4000000 in
set_option maxRecDepth 100000 in
theorem c_X4_empty (l : Launch) (D : va_G) (cyI cyZ : ClassId) (a : Nat → Nat) (A : Nat → Prop) (σ : Mem) (σ' : Mem) (hF : F_X4_empty σ  = some σ') : CtV l yX4_empty ts_X4_empty ({ frames := 0, cells := 0, slots := 0, locals := 0 } : Room) [.ref (a 30)] D cyI cyZ A (wC cyI cyZ a σ) (wC cyI cyZ a σ') := by
  refine CtV.of (cc := cX4_empty) (maxL := 1) (ret := none) (by decide) rfl (Nat.le_of_ble_eq_true rfl) ?_
  intro p e s m below meth c ls hC hP hD hl
  obtain ⟨hx, hb, hr, hml, hown, hts, hK, hN, hlocks⟩ := hC
  have hown : s.vm.findClass RX4 = some m.cls := hown
  have hS : va_S A s.heap s.heap [] := va_S.rf
  have hl : lv_has ls 1 [(0, .ref (a 30))] := hl
  unfold F_X4_empty at hF
  refine lv_aload_n hx hb dX4_empty_0 rfl (lv_at hl 0 rfl) ?_
  refine lv_dup hx hb dX4_empty_1 rfl ?_
  refine va_get (D := D) (ci := 4) (v := .int (σ 30 2)) (C := RX4) (T := TX4) (N := 4) hx hb hts inlX4 hown hK hP 30 gC_30 rfl 2 (by decide) (hts _ mw_749) (fun _ h9 => h9) rfl dX4_empty_2 ?_
  refine lv_iconst (v := (1 : Int32)) hx hb dX4_empty_5 (by decide) ?_
  refine lv_iadd hx hb dX4_empty_6 ?_
  obtain ⟨σ1, e2, hF⟩ := Option.bind_eq_some_iff.mp hF
  refine va_put (D := D) (ci := 4) (v := .int ((σ 30 2) + (1 : Int32))) (ty := .int) (C := RX4) (T := TX4) (N := 4) hx hb hts inlX4 tyX4 tyX4_ok nmX4 hown hK hP hD hS 30 gC_30 rfl 2 (by decide) (hts _ mw_749) (fun _ h9 => h9) rfl (by decide +kernel) rfl rfl (Nat.le_of_ble_eq_true rfl) dX4_empty_7 (fun H locs hP hD hS => ?_)
  rw [sC_30_2, Option.some.inj e2] at hP hD
  refine lv_aload_n hx hb dX4_empty_10 rfl (lv_at hl 0 rfl) ?_
  refine lv_iconst (v := (0 : Int32)) hx hb dX4_empty_11 (by decide) ?_
  obtain ⟨σ3, e4, hF⟩ := Option.bind_eq_some_iff.mp hF
  refine va_put (D := D) (ci := 4) (v := .int (0 : Int32)) (ty := .int) (C := RX4) (T := TX4) (N := 4) hx hb hts inlX4 tyX4 tyX4_ok nmX4 hown hK hP hD hS 30 gC_30 rfl 3 (by decide) (hts _ mw_750) (fun _ h9 => h9) rfl (by decide +kernel) rfl rfl (Nat.le_of_ble_eq_true rfl) dX4_empty_12 (fun H locs hP hD hS => ?_)
  rw [sC_30_3, Option.some.inj e4] at hP hD
  cases hF
  exact z_vret hx hb hr hlocks hK hP hD hS dX4_empty_15
abbrev ts_X4_add : List Cond := .code yX4_add cX4_add 4 none :: wsL_law
def SH_X4_add (a : Nat → Nat) (ls : Array Slot) (pc : Nat) (vs : List Int32) : Prop := (pc = 0 ∧ ∃ x1 : Int32, vs = [x1] ∧ lv_has ls 4 [(0, .ref (a 30)), (1, .int x1)]) ∨ (pc = 10 ∧ ∃ x1 x2 x3 : Int32, vs = [x1, x2, x3] ∧ lv_has ls 4 [(0, .ref (a 30)), (1, .int x1), (2, .int x2), (3, .int x3)])
section
variable {p : Program} {l : Launch} {e : Env} {s : State} {m : MethodId} {args : Array Value} {below : List Frame} {meth : Method} {c : Code} {D : va_G} {A : Nat → Prop} {a : Nat → Nat} {cyI cyZ : ClassId} {σ' : Mem} {q : Mem × List Int32}
set_option maxHeartbeats 4000000 in
set_option maxRecDepth 100000 in
theorem wl_X4_add_0 (σ : Mem) (hC : CX p c cX4_add meth none s m args yX4_add.cls 4 D cyI cyZ) (hq : extV q = some σ') (n : Nat) (ih : ∀ (pc : Nat) (x : Mem) (vs : List Int32) (ls : Array Slot) (H : Heap) (locs : List Loc), goL B_X4_add n pc x vs = some q → SH_X4_add a ls pc vs → va_P D vwCl (wC cyI cyZ a x) H → va_D A (wC cyI cyZ a x) → va_S A s.heap H locs → W p l e (headSpec ts_X4_add ({ frames := 0, cells := 0, slots := 0, locals := 0 } : Room)).room s m args below meth c H locs 0 0 (MQ below (QcV D cyI cyZ A (wC cyI cyZ a σ')) args s 0 0 A) (F0 m pc ls [])) (x1 : Int32) (ls : Array Slot) (H : Heap) (locs : List Loc) (hgo : goL B_X4_add (n + 1) 0 σ [x1] = some q) (hl : lv_has ls 4 [(0, .ref (a 30)), (1, .int x1)]) (hP : va_P D vwCl (wC cyI cyZ a σ) H) (hD : va_D A (wC cyI cyZ a σ)) (hS : va_S A s.heap H locs) : W p l e (headSpec ts_X4_add ({ frames := 0, cells := 0, slots := 0, locals := 0 } : Room)).room s m args below meth c H locs 0 0 (MQ below (QcV D cyI cyZ A (wC cyI cyZ a σ')) args s 0 0 A) (F0 m 0 ls []) := by
  obtain ⟨hx, hb, hr, hml, hown, hts, hK, hN, hlocks⟩ := hC
  have hown : s.vm.findClass RX4 = some m.cls := hown
  obtain ⟨yy, hF, hgo⟩ := goL_step (by decide) hgo
  have hF : B_X4_add_0 σ x1 = some yy := hF
  unfold B_X4_add_0 at hF
  refine lv_iload_n hx hb dX4_add_0 rfl (lv_at hl 1 rfl) ?_
  refine lv_ldc (v := (-1640531535 : Int32)) hx hb hown (hts _ mw_755) dX4_add_1 ?_
  refine lv_imul hx hb dX4_add_3 ?_
  refine lv_bipush (v := (19 : Int32)) hx hb dX4_add_4 (by decide) ?_
  refine lv_iushr hx hb dX4_add_6 rfl ?_
  obtain ⟨y1, e2, hF⟩ := Option.bind_eq_some_iff.mp hF
  refine z_top e2 ?_
  refine lv_istore_n (lv' := [(2, .int y1), (0, .ref (a 30)), (1, .int x1)]) hx hb dX4_add_7 rfl hl (by decide) rfl (fun ls hl => ?_)
  refine lv_iconst (v := (0 : Int32)) hx hb dX4_add_8 (by decide) ?_
  refine lv_istore_n (lv' := [(3, .int (0 : Int32)), (2, .int y1), (0, .ref (a 30)), (1, .int x1)]) hx hb dX4_add_9 rfl hl (by decide) rfl (fun ls hl => ?_)
  cases hF
  exact ih _ _ _ _ _ _ hgo (Or.inr (⟨rfl, _, _, _, rfl, lv_sub hl [2, 3, 1, 0] rfl⟩)) hP hD hS
set_option maxHeartbeats 4000000 in
set_option maxRecDepth 100000 in
theorem wl_X4_add_10 (σ : Mem) (hC : CX p c cX4_add meth none s m args yX4_add.cls 4 D cyI cyZ) (hq : extV q = some σ') (n : Nat) (ih : ∀ (pc : Nat) (x : Mem) (vs : List Int32) (ls : Array Slot) (H : Heap) (locs : List Loc), goL B_X4_add n pc x vs = some q → SH_X4_add a ls pc vs → va_P D vwCl (wC cyI cyZ a x) H → va_D A (wC cyI cyZ a x) → va_S A s.heap H locs → W p l e (headSpec ts_X4_add ({ frames := 0, cells := 0, slots := 0, locals := 0 } : Room)).room s m args below meth c H locs 0 0 (MQ below (QcV D cyI cyZ A (wC cyI cyZ a σ')) args s 0 0 A) (F0 m pc ls [])) (x1 : Int32) (x2 : Int32) (x3 : Int32) (ls : Array Slot) (H : Heap) (locs : List Loc) (hgo : goL B_X4_add (n + 1) 10 σ [x1, x2, x3] = some q) (hl : lv_has ls 4 [(0, .ref (a 30)), (1, .int x1), (2, .int x2), (3, .int x3)]) (hP : va_P D vwCl (wC cyI cyZ a σ) H) (hD : va_D A (wC cyI cyZ a σ)) (hS : va_S A s.heap H locs) : W p l e (headSpec ts_X4_add ({ frames := 0, cells := 0, slots := 0, locals := 0 } : Room)).room s m args below meth c H locs 0 0 (MQ below (QcV D cyI cyZ A (wC cyI cyZ a σ')) args s 0 0 A) (F0 m 10 ls []) := by
  obtain ⟨hx, hb, hr, hml, hown, hts, hK, hN, hlocks⟩ := hC
  have hown : s.vm.findClass RX4 = some m.cls := hown
  obtain ⟨yy, hF, hgo⟩ := goL_step (by decide) hgo
  have hF : B_X4_add_10 σ x1 x2 x3 = some yy := hF
  unfold B_X4_add_10 at hF
  refine lv_iload_n hx hb dX4_add_10 rfl (lv_at hl 3 rfl) ?_
  refine lv_sipush (v := (8192 : Int32)) hx hb dX4_add_11 (by decide) ?_
  refine lv_icmp_ge (tgt := 83) hx hb dX4_add_14 (by decide) (fun c1 => ?_) (fun c1 => ?_)
  · rw [if_pos c1] at hF
    cases hF
    obtain rfl := extV_ret hq (goL_ret hgo)
    exact z_vret hx hb hr hlocks hK hP hD hS dX4_add_83
  · rw [if_neg c1] at hF
    refine lv_aload_n hx hb dX4_add_17 rfl (lv_at hl 0 rfl) ?_
    refine va_get (D := D) (ci := 4) (v := .ref (a 32)) (C := RX4) (T := TX4) (N := 4) hx hb hts inlX4 hown hK hP 30 gC_30 rfl 1 (by decide) (hts _ mw_112) (fun _ h9 => h9) rfl dX4_add_18 ?_
    refine lv_iload_n hx hb dX4_add_21 rfl (lv_at hl 2 rfl) ?_
    obtain ⟨v2, e3, hF⟩ := Option.bind_eq_some_iff.mp hF
    refine z_ild hx hb hK hP 32 gC_32 e3 dX4_add_22 ?_
    refine lv_aload_n hx hb dX4_add_23 rfl (lv_at hl 0 rfl) ?_
    refine va_get (D := D) (ci := 4) (v := .int (σ 30 2)) (C := RX4) (T := TX4) (N := 4) hx hb hts inlX4 hown hK hP 30 gC_30 rfl 2 (by decide) (hts _ mw_749) (fun _ h9 => h9) rfl dX4_add_24 ?_
    refine lv_icmp_eq (tgt := 58) hx hb dX4_add_27 (by decide) (fun c4 => ?_) (fun c4 => ?_)
    · rw [if_pos c4] at hF
      refine lv_aload_n hx hb dX4_add_58 rfl (lv_at hl 0 rfl) ?_
      refine va_get (D := D) (ci := 4) (v := .ref (a 31)) (C := RX4) (T := TX4) (N := 4) hx hb hts inlX4 hown hK hP 30 gC_30 rfl 0 (by decide) (hts _ mw_111) (fun _ h9 => h9) rfl dX4_add_59 ?_
      refine lv_iload_n hx hb dX4_add_62 rfl (lv_at hl 2 rfl) ?_
      obtain ⟨v5, e6, hF⟩ := Option.bind_eq_some_iff.mp hF
      refine z_ild hx hb hK hP 31 gC_31 e6 dX4_add_63 ?_
      refine lv_iload_n hx hb dX4_add_64 rfl (lv_at hl 1 rfl) ?_
      refine lv_icmp_ne (tgt := 69) hx hb dX4_add_65 (by decide) (fun c7 => ?_) (fun c7 => ?_)
      · rw [if_neg c7] at hF
        refine lv_iload_n hx hb dX4_add_69 rfl (lv_at hl 2 rfl) ?_
        refine lv_iconst (v := (1 : Int32)) hx hb dX4_add_70 (by decide) ?_
        refine lv_iadd hx hb dX4_add_71 ?_
        refine lv_sipush (v := (8192 : Int32)) hx hb dX4_add_72 (by decide) ?_
        refine lv_irem hx hb dX4_add_75 (by decide) ?_
        obtain ⟨y8, e9, hF⟩ := Option.bind_eq_some_iff.mp hF
        refine z_top e9 ?_
        refine lv_istore_n (lv' := [(2, .int y8), (0, .ref (a 30)), (1, .int x1), (3, .int x3)]) hx hb dX4_add_76 rfl hl (by decide) rfl (fun ls hl => ?_)
        refine lv_iinc (v := (x3 + (1 : Int32))) (lv' := [(3, .int (x3 + (1 : Int32))), (2, .int y8), (0, .ref (a 30)), (1, .int x1)]) hx hb dX4_add_77 hl (k := 3) rfl rfl (by decide) rfl (fun ls hl => ?_)
        refine lv_goto (tgt := 10) hx hb dX4_add_80 (by decide) ?_
        cases hF
        exact ih _ _ _ _ _ _ hgo (Or.inr (⟨rfl, _, _, _, rfl, lv_sub hl [2, 3, 1, 0] rfl⟩)) hP hD hS
      · rw [if_pos c7] at hF
        cases hF
        obtain rfl := extV_ret hq (goL_ret hgo)
        exact z_vret hx hb hr hlocks hK hP hD hS dX4_add_68
    · rw [if_neg c4] at hF
      refine lv_aload_n hx hb dX4_add_30 rfl (lv_at hl 0 rfl) ?_
      refine va_get (D := D) (ci := 4) (v := .ref (a 32)) (C := RX4) (T := TX4) (N := 4) hx hb hts inlX4 hown hK hP 30 gC_30 rfl 1 (by decide) (hts _ mw_112) (fun _ h9 => h9) rfl dX4_add_31 ?_
      refine lv_iload_n hx hb dX4_add_34 rfl (lv_at hl 2 rfl) ?_
      refine lv_aload_n hx hb dX4_add_35 rfl (lv_at hl 0 rfl) ?_
      refine va_get (D := D) (ci := 4) (v := .int (σ 30 2)) (C := RX4) (T := TX4) (N := 4) hx hb hts inlX4 hown hK hP 30 gC_30 rfl 2 (by decide) (hts _ mw_749) (fun _ h9 => h9) rfl dX4_add_36 ?_
      obtain ⟨σ10, e11, hF⟩ := Option.bind_eq_some_iff.mp hF
      refine z_ist (wC cyI cyZ a) hx hb hK hP hD hS 32 gC_32 sC_32 e11 dX4_add_39 (fun H locs hP hD hS => ?_)
      refine lv_aload_n hx hb dX4_add_40 rfl (lv_at hl 0 rfl) ?_
      refine va_get (D := D) (ci := 4) (v := .ref (a 31)) (C := RX4) (T := TX4) (N := 4) hx hb hts inlX4 hown hK hP 30 gC_30 rfl 0 (by decide) (hts _ mw_111) (fun _ h9 => h9) rfl dX4_add_41 ?_
      refine lv_iload_n hx hb dX4_add_44 rfl (lv_at hl 2 rfl) ?_
      refine lv_iload_n hx hb dX4_add_45 rfl (lv_at hl 1 rfl) ?_
      obtain ⟨σ12, e13, hF⟩ := Option.bind_eq_some_iff.mp hF
      refine z_ist (wC cyI cyZ a) hx hb hK hP hD hS 31 gC_31 sC_31 e13 dX4_add_46 (fun H locs hP hD hS => ?_)
      refine lv_aload_n hx hb dX4_add_47 rfl (lv_at hl 0 rfl) ?_
      refine lv_dup hx hb dX4_add_48 rfl ?_
      refine va_get (D := D) (ci := 4) (v := .int (σ12 30 3)) (C := RX4) (T := TX4) (N := 4) hx hb hts inlX4 hown hK hP 30 gC_30 rfl 3 (by decide) (hts _ mw_750) (fun _ h9 => h9) rfl dX4_add_49 ?_
      refine lv_iconst (v := (1 : Int32)) hx hb dX4_add_52 (by decide) ?_
      refine lv_iadd hx hb dX4_add_53 ?_
      obtain ⟨σ14, e15, hF⟩ := Option.bind_eq_some_iff.mp hF
      refine va_put (D := D) (ci := 4) (v := .int ((σ12 30 3) + (1 : Int32))) (ty := .int) (C := RX4) (T := TX4) (N := 4) hx hb hts inlX4 tyX4 tyX4_ok nmX4 hown hK hP hD hS 30 gC_30 rfl 3 (by decide) (hts _ mw_750) (fun _ h9 => h9) rfl (by decide +kernel) rfl rfl (Nat.le_of_ble_eq_true rfl) dX4_add_54 (fun H locs hP hD hS => ?_)
      rw [sC_30_3, Option.some.inj e15] at hP hD
      cases hF
      obtain rfl := extV_ret hq (goL_ret hgo)
      exact z_vret hx hb hr hlocks hK hP hD hS dX4_add_57
theorem wk_X4_add (hC : CX p c cX4_add meth none s m args yX4_add.cls 4 D cyI cyZ) (hq : extV q = some σ') : ∀ (n : Nat), ∀ (pc : Nat) (x : Mem) (vs : List Int32) (ls : Array Slot) (H : Heap) (locs : List Loc), goL B_X4_add n pc x vs = some q → SH_X4_add a ls pc vs → va_P D vwCl (wC cyI cyZ a x) H → va_D A (wC cyI cyZ a x) → va_S A s.heap H locs → W p l e (headSpec ts_X4_add ({ frames := 0, cells := 0, slots := 0, locals := 0 } : Room)).room s m args below meth c H locs 0 0 (MQ below (QcV D cyI cyZ A (wC cyI cyZ a σ')) args s 0 0 A) (F0 m pc ls []) := by
  intro n
  induction n with
  | zero => intro pc x vs ls H locs h; exact absurd h (by simp [goL])
  | succ n ih =>
    intro pc x vs ls H locs hgo hsh hP hD hS
    rcases hsh with ⟨rfl, x1, rfl, hl⟩ | ⟨rfl, x1, x2, x3, rfl, hl⟩
    · exact wl_X4_add_0 x hC hq n ih x1 ls H locs hgo hl hP hD hS
    · exact wl_X4_add_10 x hC hq n ih x1 x2 x3 ls H locs hgo hl hP hD hS
end
theorem c_X4_add (l : Launch) (D : va_G) (cyI cyZ : ClassId) (a : Nat → Nat) (A : Nat → Prop) (σ : Mem) (x1 : Int32) (σ' : Mem) (hF : F_X4_add σ x1 = some σ') : CtV l yX4_add ts_X4_add ({ frames := 0, cells := 0, slots := 0, locals := 0 } : Room) [.ref (a 30), .int x1] D cyI cyZ A (wC cyI cyZ a σ) (wC cyI cyZ a σ') := by
  refine CtV.of (cc := cX4_add) (maxL := 4) (ret := none) (by decide) rfl (Nat.le_of_ble_eq_true rfl) ?_
  intro p e s m below meth c ls hC hP hD hl
  obtain ⟨q, hq, hr1⟩ := Option.bind_eq_some_iff.mp hF
  obtain ⟨n, hn⟩ := finL_some hq
  exact wk_X4_add hC hr1 n 0 _ _ ls _ _ hn (Or.inl ⟨rfl, _, rfl, hl⟩) hP hD va_S.rf
abbrev ts_X4_size : List Cond := .code yX4_size cX4_size 1 (some .int) :: wsL_law
set_option maxHeartbeats 4000000 in
set_option maxRecDepth 100000 in
theorem c_X4_size (l : Launch) (D : va_G) (cyI cyZ : ClassId) (a : Nat → Nat) (A : Nat → Prop) (σ : Mem) (r : Int32) (hF : F_X4_size σ  = r) : CtI l yX4_size ts_X4_size ({ frames := 0, cells := 0, slots := 0, locals := 0 } : Room) [.ref (a 30)] D cyI cyZ A (wC cyI cyZ a σ) (wC cyI cyZ a σ) r := by
  refine CtI.of (cc := cX4_size) (maxL := 1) (ret := (some .int)) (by decide) rfl (Nat.le_of_ble_eq_true rfl) ?_
  intro p e s m below meth c ls hC hP hD hl
  obtain ⟨hx, hb, hr, hml, hown, hts, hK, hN, hlocks⟩ := hC
  have hown : s.vm.findClass RX4 = some m.cls := hown
  have hS : va_S A s.heap s.heap [] := va_S.rf
  have hl : lv_has ls 1 [(0, .ref (a 30))] := hl
  unfold F_X4_size at hF
  refine lv_aload_n hx hb dX4_size_0 rfl (lv_at hl 0 rfl) ?_
  refine va_get (D := D) (ci := 4) (v := .int (σ 30 3)) (C := RX4) (T := TX4) (N := 4) hx hb hts inlX4 hown hK hP 30 gC_30 rfl 3 (by decide) (hts _ mw_750) (fun _ h9 => h9) rfl dX4_size_1 ?_
  subst hF
  exact z_iret hx hb hr hlocks hK hP hD hS dX4_size_4
abbrev ts_X0_unlikeAnswers : List Cond := .code yX0_unlikeAnswers cX0_unlikeAnswers 3 (some .int) :: wsL_law
def SH_X0_unlikeAnswers (a : Nat → Nat) (ls : Array Slot) (pc : Nat) (vs : List Int32) : Prop := (pc = 0 ∧ ∃ x1 : Int32, vs = [x1] ∧ lv_has ls 3 [(0, .ref (a 29)), (1, .int x1)]) ∨ (pc = 9 ∧ ∃ x1 x2 : Int32, vs = [x1, x2] ∧ lv_has ls 3 [(0, .ref (a 29)), (1, .int x1), (2, .int x2)])
section
variable {p : Program} {l : Launch} {e : Env} {s : State} {m : MethodId} {args : Array Value} {below : List Frame} {meth : Method} {c : Code} {D : va_G} {A : Nat → Prop} {a : Nat → Nat} {cyI cyZ : ClassId} {r : Int32} {σ' : Mem} {q : Mem × List Int32}
set_option maxHeartbeats 4000000 in
set_option maxRecDepth 100000 in
theorem wl_X0_unlikeAnswers_0 (σ : Mem) (hC : CX p c cX0_unlikeAnswers meth (some .int) s m args yX0_unlikeAnswers.cls 3 D cyI cyZ) (hq : extM q = some (r, σ')) (n : Nat) (ih : ∀ (pc : Nat) (x : Mem) (vs : List Int32) (ls : Array Slot) (H : Heap) (locs : List Loc), goL B_X0_unlikeAnswers n pc x vs = some q → SH_X0_unlikeAnswers a ls pc vs → va_P D vwCl (wC cyI cyZ a x) H → va_D A (wC cyI cyZ a x) → va_S A s.heap H locs → W p l e (headSpec ts_X0_unlikeAnswers ({ frames := 1, cells := 0, slots := 0, locals := 23 } : Room)).room s m args below meth c H locs 0 0 (MQ below (QcI D cyI cyZ A (wC cyI cyZ a σ') r) args s 0 0 A) (F0 m pc ls [])) (x1 : Int32) (ls : Array Slot) (H : Heap) (locs : List Loc) (hgo : goL B_X0_unlikeAnswers (n + 1) 0 σ [x1] = some q) (hl : lv_has ls 3 [(0, .ref (a 29)), (1, .int x1)]) (hP : va_P D vwCl (wC cyI cyZ a σ) H) (hD : va_D A (wC cyI cyZ a σ)) (hS : va_S A s.heap H locs) : W p l e (headSpec ts_X0_unlikeAnswers ({ frames := 1, cells := 0, slots := 0, locals := 23 } : Room)).room s m args below meth c H locs 0 0 (MQ below (QcI D cyI cyZ A (wC cyI cyZ a σ') r) args s 0 0 A) (F0 m 0 ls []) := by
  obtain ⟨hx, hb, hr, hml, hown, hts, hK, hN, hlocks⟩ := hC
  have hown : s.vm.findClass RX0 = some m.cls := hown
  obtain ⟨yy, hF, hgo⟩ := goL_step (by decide) hgo
  have hF : B_X0_unlikeAnswers_0 σ x1 = some yy := hF
  unfold B_X0_unlikeAnswers_0 at hF
  refine lv_aload_n hx hb dX0_unlikeAnswers_0 rfl (lv_at hl 0 rfl) ?_
  refine va_get (D := D) (ci := 0) (v := .ref (a 30)) (C := RX0) (T := TX0) (N := 6) hx hb hts inlX0 hown hK hP 29 gC_29 rfl 3 (by decide) (hts _ mw_103) (fun _ h9 => h9) rfl dX0_unlikeAnswers_1 ?_
  obtain ⟨σ1, e2, hF⟩ := Option.bind_eq_some_iff.mp hF
  refine z_callVV (w' := (wC cyI cyZ a σ1)) (As := []) (rest := []) ⟨hx, hb, hml, hown, hts⟩ (c_X4_empty l D cyI cyZ a A σ  σ1 e2) (cwV 0 hts (gd_V mw_745 mw_746 mw_747 mw_102 mw_748) rfl rfl rfl (by decide +kernel) ⟨Nat.le_of_ble_eq_true rfl, Nat.le_of_ble_eq_true rfl⟩) hK hN hP hD hS 4 30 rfl rfl gC_30 rfl hl.1 rfl (Nat.le_of_ble_eq_true rfl) dX0_unlikeAnswers_4 ⟨Nat.zero_le _, Nat.zero_le _⟩ (fun H locs hP hD hS => ?_)
  refine lv_iconst (v := (0 : Int32)) hx hb dX0_unlikeAnswers_7 (by decide) ?_
  refine lv_istore_n (lv' := [(2, .int (0 : Int32)), (0, .ref (a 29)), (1, .int x1)]) hx hb dX0_unlikeAnswers_8 rfl hl (by decide) rfl (fun ls hl => ?_)
  cases hF
  exact ih _ _ _ _ _ _ hgo (Or.inr (⟨rfl, _, _, rfl, lv_sub hl [1, 2, 0] rfl⟩)) hP hD hS
set_option maxHeartbeats 4000000 in
set_option maxRecDepth 100000 in
theorem wl_X0_unlikeAnswers_9 (σ : Mem) (hC : CX p c cX0_unlikeAnswers meth (some .int) s m args yX0_unlikeAnswers.cls 3 D cyI cyZ) (hq : extM q = some (r, σ')) (n : Nat) (ih : ∀ (pc : Nat) (x : Mem) (vs : List Int32) (ls : Array Slot) (H : Heap) (locs : List Loc), goL B_X0_unlikeAnswers n pc x vs = some q → SH_X0_unlikeAnswers a ls pc vs → va_P D vwCl (wC cyI cyZ a x) H → va_D A (wC cyI cyZ a x) → va_S A s.heap H locs → W p l e (headSpec ts_X0_unlikeAnswers ({ frames := 1, cells := 0, slots := 0, locals := 23 } : Room)).room s m args below meth c H locs 0 0 (MQ below (QcI D cyI cyZ A (wC cyI cyZ a σ') r) args s 0 0 A) (F0 m pc ls [])) (x1 : Int32) (x2 : Int32) (ls : Array Slot) (H : Heap) (locs : List Loc) (hgo : goL B_X0_unlikeAnswers (n + 1) 9 σ [x1, x2] = some q) (hl : lv_has ls 3 [(0, .ref (a 29)), (1, .int x1), (2, .int x2)]) (hP : va_P D vwCl (wC cyI cyZ a σ) H) (hD : va_D A (wC cyI cyZ a σ)) (hS : va_S A s.heap H locs) : W p l e (headSpec ts_X0_unlikeAnswers ({ frames := 1, cells := 0, slots := 0, locals := 23 } : Room)).room s m args below meth c H locs 0 0 (MQ below (QcI D cyI cyZ A (wC cyI cyZ a σ') r) args s 0 0 A) (F0 m 9 ls []) := by
  obtain ⟨hx, hb, hr, hml, hown, hts, hK, hN, hlocks⟩ := hC
  have hown : s.vm.findClass RX0 = some m.cls := hown
  obtain ⟨yy, hF, hgo⟩ := goL_step (by decide) hgo
  have hF : B_X0_unlikeAnswers_9 σ x1 x2 = some yy := hF
  unfold B_X0_unlikeAnswers_9 at hF
  refine lv_iload_n hx hb dX0_unlikeAnswers_9 rfl (lv_at hl 2 rfl) ?_
  refine lv_iload_n hx hb dX0_unlikeAnswers_10 rfl (lv_at hl 1 rfl) ?_
  refine lv_icmp_ge (tgt := 33) hx hb dX0_unlikeAnswers_11 (by decide) (fun c1 => ?_) (fun c1 => ?_)
  · rw [if_pos c1] at hF
    refine lv_aload_n hx hb dX0_unlikeAnswers_33 rfl (lv_at hl 0 rfl) ?_
    refine va_get (D := D) (ci := 0) (v := .ref (a 30)) (C := RX0) (T := TX0) (N := 6) hx hb hts inlX0 hown hK hP 29 gC_29 rfl 3 (by decide) (hts _ mw_103) (fun _ h9 => h9) rfl dX0_unlikeAnswers_34 ?_
    refine z_callVI (w' := (wC cyI cyZ a σ)) (As := []) (rest := []) ⟨hx, hb, hml, hown, hts⟩ (c_X4_size l D cyI cyZ a A σ  _ rfl) (cwV 0 hts (gd_V mw_756 mw_757 mw_758 mw_102 mw_759) rfl rfl rfl (by decide +kernel) ⟨Nat.le_of_ble_eq_true rfl, Nat.le_of_ble_eq_true rfl⟩) hK hN hP hD hS 4 30 rfl rfl gC_30 rfl hl.1 rfl (Nat.le_of_ble_eq_true rfl) dX0_unlikeAnswers_37 ⟨Nat.zero_le _, Nat.zero_le _⟩ (fun H locs hP hD hS => ?_)
    cases hF
    obtain ⟨rfl, rfl⟩ := extM_ret hq (goL_ret hgo)
    exact z_iret hx hb hr hlocks hK hP hD hS dX0_unlikeAnswers_40
  · rw [if_neg c1] at hF
    refine lv_aload_n hx hb dX0_unlikeAnswers_14 rfl (lv_at hl 0 rfl) ?_
    refine va_get (D := D) (ci := 0) (v := .ref (a 30)) (C := RX0) (T := TX0) (N := 6) hx hb hts inlX0 hown hK hP 29 gC_29 rfl 3 (by decide) (hts _ mw_103) (fun _ h9 => h9) rfl dX0_unlikeAnswers_15 ?_
    refine lv_aload_n hx hb dX0_unlikeAnswers_18 rfl (lv_at hl 0 rfl) ?_
    refine va_get (D := D) (ci := 0) (v := .ref (a 33)) (C := RX0) (T := TX0) (N := 6) hx hb hts inlX0 hown hK hP 29 gC_29 rfl 4 (by decide) (hts _ mw_104) (fun _ h9 => h9) rfl dX0_unlikeAnswers_19 ?_
    refine lv_iload_n hx hb dX0_unlikeAnswers_22 rfl (lv_at hl 2 rfl) ?_
    obtain ⟨v2, e3, hF⟩ := Option.bind_eq_some_iff.mp hF
    refine z_ild hx hb hK hP 33 gC_33 e3 dX0_unlikeAnswers_23 ?_
    obtain ⟨σ4, e5, hF⟩ := Option.bind_eq_some_iff.mp hF
    refine z_callVV (w' := (wC cyI cyZ a σ4)) (As := [.int v2]) (rest := []) ⟨hx, hb, hml, hown, hts⟩ (c_X4_add l D cyI cyZ a A σ v2 σ4 e5) (cwV 1 hts (gd_V mw_751 mw_752 mw_753 mw_102 mw_754) rfl rfl rfl (by decide +kernel) ⟨Nat.le_of_ble_eq_true rfl, Nat.le_of_ble_eq_true rfl⟩) hK hN hP hD hS 4 30 rfl rfl gC_30 rfl hl.1 rfl (Nat.le_of_ble_eq_true rfl) dX0_unlikeAnswers_24 ⟨Nat.zero_le _, Nat.zero_le _⟩ (fun H locs hP hD hS => ?_)
    refine lv_iinc (v := (x2 + (1 : Int32))) (lv' := [(2, .int (x2 + (1 : Int32))), (0, .ref (a 29)), (1, .int x1)]) hx hb dX0_unlikeAnswers_27 hl (k := 2) rfl rfl (by decide) rfl (fun ls hl => ?_)
    refine lv_goto (tgt := 9) hx hb dX0_unlikeAnswers_30 (by decide) ?_
    cases hF
    exact ih _ _ _ _ _ _ hgo (Or.inr (⟨rfl, _, _, rfl, lv_sub hl [1, 2, 0] rfl⟩)) hP hD hS
theorem wk_X0_unlikeAnswers (hC : CX p c cX0_unlikeAnswers meth (some .int) s m args yX0_unlikeAnswers.cls 3 D cyI cyZ) (hq : extM q = some (r, σ')) : ∀ (n : Nat), ∀ (pc : Nat) (x : Mem) (vs : List Int32) (ls : Array Slot) (H : Heap) (locs : List Loc), goL B_X0_unlikeAnswers n pc x vs = some q → SH_X0_unlikeAnswers a ls pc vs → va_P D vwCl (wC cyI cyZ a x) H → va_D A (wC cyI cyZ a x) → va_S A s.heap H locs → W p l e (headSpec ts_X0_unlikeAnswers ({ frames := 1, cells := 0, slots := 0, locals := 23 } : Room)).room s m args below meth c H locs 0 0 (MQ below (QcI D cyI cyZ A (wC cyI cyZ a σ') r) args s 0 0 A) (F0 m pc ls []) := by
  intro n
  induction n with
  | zero => intro pc x vs ls H locs h; exact absurd h (by simp [goL])
  | succ n ih =>
    intro pc x vs ls H locs hgo hsh hP hD hS
    rcases hsh with ⟨rfl, x1, rfl, hl⟩ | ⟨rfl, x1, x2, rfl, hl⟩
    · exact wl_X0_unlikeAnswers_0 x hC hq n ih x1 ls H locs hgo hl hP hD hS
    · exact wl_X0_unlikeAnswers_9 x hC hq n ih x1 x2 ls H locs hgo hl hP hD hS
end
theorem c_X0_unlikeAnswers (l : Launch) (D : va_G) (cyI cyZ : ClassId) (a : Nat → Nat) (A : Nat → Prop) (σ : Mem) (x1 : Int32) (r : Int32) (σ' : Mem) (hF : F_X0_unlikeAnswers σ x1 = some (r, σ')) : CtI l yX0_unlikeAnswers ts_X0_unlikeAnswers ({ frames := 1, cells := 0, slots := 0, locals := 23 } : Room) [.ref (a 29), .int x1] D cyI cyZ A (wC cyI cyZ a σ) (wC cyI cyZ a σ') r := by
  refine CtI.of (cc := cX0_unlikeAnswers) (maxL := 3) (ret := (some .int)) (by decide) rfl (Nat.le_of_ble_eq_true rfl) ?_
  intro p e s m below meth c ls hC hP hD hl
  obtain ⟨q, hq, hr1⟩ := Option.bind_eq_some_iff.mp hF
  obtain ⟨n, hn⟩ := finL_some hq
  exact wk_X0_unlikeAnswers hC hr1 n 0 _ _ ls _ _ hn (Or.inl ⟨rfl, _, rfl, hl⟩) hP hD va_S.rf
abbrev ts_X3_size : List Cond := .code yX3_size cX3_size 1 (some .int) :: wsL_law
set_option maxHeartbeats 4000000 in
set_option maxRecDepth 100000 in
theorem c_X3_size (l : Launch) (D : va_G) (cyI cyZ : ClassId) (a : Nat → Nat) (A : Nat → Prop) (σ : Mem) (r : Int32) (hF : F_X3_size σ  = r) : CtI l yX3_size ts_X3_size ({ frames := 0, cells := 0, slots := 0, locals := 0 } : Room) [.ref (a 13)] D cyI cyZ A (wC cyI cyZ a σ) (wC cyI cyZ a σ) r := by
  refine CtI.of (cc := cX3_size) (maxL := 1) (ret := (some .int)) (by decide) rfl (Nat.le_of_ble_eq_true rfl) ?_
  intro p e s m below meth c ls hC hP hD hl
  obtain ⟨hx, hb, hr, hml, hown, hts, hK, hN, hlocks⟩ := hC
  have hown : s.vm.findClass RX3 = some m.cls := hown
  have hS : va_S A s.heap s.heap [] := va_S.rf
  have hl : lv_has ls 1 [(0, .ref (a 13))] := hl
  unfold F_X3_size at hF
  refine lv_aload_n hx hb dX3_size_0 rfl (lv_at hl 0 rfl) ?_
  refine va_get (D := D) (ci := 3) (v := .int (σ 13 0)) (C := RX3) (T := TX3) (N := 3) hx hb hts inlX3 hown hK hP 13 gC_13 rfl 0 (by decide) (hts _ mw_343) (fun _ h9 => h9) rfl dX3_size_1 ?_
  subst hF
  exact z_iret hx hb hr hlocks hK hP hD hS dX3_size_4
abbrev ts_X5_meaningAt : List Cond := .code yX5_meaningAt cX5_meaningAt 3 (some .int) :: wsL_law
set_option maxHeartbeats 4000000 in
set_option maxRecDepth 100000 in
theorem c_X5_meaningAt (l : Launch) (D : va_G) (cyI cyZ : ClassId) (a : Nat → Nat) (A : Nat → Prop) (σ : Mem) (x1 : Int32) (x2 : Int32) (r : Int32) (hF : F_X5_meaningAt σ x1 x2 = some r) : CtI l yX5_meaningAt ts_X5_meaningAt ({ frames := 1, cells := 0, slots := 0, locals := 21 } : Room) [.ref (a 16), .int x1, .int x2] D cyI cyZ A (wC cyI cyZ a σ) (wC cyI cyZ a σ) r := by
  refine CtI.of (cc := cX5_meaningAt) (maxL := 3) (ret := (some .int)) (by decide) rfl (Nat.le_of_ble_eq_true rfl) ?_
  intro p e s m below meth c ls hC hP hD hl
  obtain ⟨hx, hb, hr, hml, hown, hts, hK, hN, hlocks⟩ := hC
  have hown : s.vm.findClass RX5 = some m.cls := hown
  have hS : va_S A s.heap s.heap [] := va_S.rf
  have hl : lv_has ls 3 [(0, .ref (a 16)), (1, .int x1), (2, .int x2)] := hl
  unfold F_X5_meaningAt at hF
  refine lv_aload_n hx hb dX5_meaningAt_0 rfl (lv_at hl 0 rfl) ?_
  refine va_get (D := D) (ci := 5) (v := .ref (a 13)) (C := RX5) (T := TX5) (N := 11) hx hb hts inlX5 hown hK hP 16 gC_16 rfl 2 (by decide) (hts _ mw_80) (fun _ h9 => h9) rfl dX5_meaningAt_1 ?_
  refine lv_iload_n hx hb dX5_meaningAt_4 rfl (lv_at hl 2 rfl) ?_
  obtain ⟨v1, e2, hF⟩ := Option.bind_eq_some_iff.mp hF
  refine z_callVI (w' := (wC cyI cyZ a σ)) (As := [.int x2]) (rest := []) ⟨hx, hb, hml, hown, hts⟩ (c_X3_isNumber l D cyI cyZ a A σ x2 _ e2) (cwV 1 hts (gd_V mw_403 mw_404 mw_405 mw_22 mw_406) rfl rfl rfl (by decide +kernel) ⟨Nat.le_of_ble_eq_true rfl, Nat.le_of_ble_eq_true rfl⟩) hK hN hP hD hS 3 13 rfl rfl gC_13 rfl hl.1 rfl (Nat.le_of_ble_eq_true rfl) dX5_meaningAt_5 ⟨Nat.zero_le _, Nat.zero_le _⟩ (fun H locs hP hD hS => ?_)
  refine lv_if_eq (tgt := 15) hx hb dX5_meaningAt_8 (by decide) (fun c3 => ?_) (fun c3 => ?_)
  · rw [if_pos c3] at hF
    refine lv_aload_n hx hb dX5_meaningAt_15 rfl (lv_at hl 0 rfl) ?_
    refine va_get (D := D) (ci := 5) (v := .ref (a (kx σ))) (C := RX5) (T := TX5) (N := 11) hx hb hts inlX5 hown hK hP 16 gC_16 rfl 7 (by decide) (hts _ mw_76) (fun _ h9 => h9) rfl dX5_meaningAt_16 ?_
    refine lv_iload_n hx hb dX5_meaningAt_19 rfl (lv_at hl 1 rfl) ?_
    obtain ⟨v4, e5, hF⟩ := Option.bind_eq_some_iff.mp hF
    refine z_ild hx hb hK hP (kx σ) gC_K e5 dX5_meaningAt_20 ?_
    refine lv_iload_n hx hb dX5_meaningAt_21 rfl (lv_at hl 2 rfl) ?_
    refine z_callSI (w' := (wC cyI cyZ a σ)) (As := [.int v4, .int x2]) (rest := []) ⟨hx, hb, hml, hown, hts⟩ (c_X5_meaningIn l D cyI cyZ A (wC cyI cyZ a σ) v4 x2 _ rfl) (va_cwS 2 hts (gd_S mw_423 mw_424 mw_26 mw_425) rfl rfl rfl (by decide +kernel) ⟨Nat.le_of_ble_eq_true rfl, Nat.le_of_ble_eq_true rfl⟩) hK hN hP hD hS rfl hl.1 rfl (Nat.le_of_ble_eq_true rfl) dX5_meaningAt_22 ⟨Nat.zero_le _, Nat.zero_le _⟩ (fun H locs hP hD hS => ?_)
    cases hF
    exact z_iret hx hb hr hlocks hK hP hD hS dX5_meaningAt_25
  · rw [if_neg c3] at hF
    refine lv_iconst (v := (-1 : Int32)) hx hb dX5_meaningAt_11 (by decide) ?_
    refine lv_goto (tgt := 25) hx hb dX5_meaningAt_12 (by decide) ?_
    cases hF
    exact z_iret hx hb hr hlocks hK hP hD hS dX5_meaningAt_25
abbrev ts_X0_parts : List Cond := .code yX0_parts cX0_parts 4 (some .boolean) :: wsL_law
def SH_X0_parts (a : Nat → Nat) (ls : Array Slot) (pc : Nat) (vs : List Int32) : Prop := (pc = 0 ∧ ∃ x1 x2 : Int32, vs = [x1, x2] ∧ lv_has ls 4 [(0, .ref (a 29)), (1, .int x1), (2, .int x2)]) ∨ (pc = 2 ∧ ∃ x1 x2 x3 : Int32, vs = [x1, x2, x3] ∧ lv_has ls 4 [(0, .ref (a 29)), (1, .int x1), (2, .int x2), (3, .int x3)])
section
variable {p : Program} {l : Launch} {e : Env} {s : State} {m : MethodId} {args : Array Value} {below : List Frame} {meth : Method} {c : Code} {D : va_G} {A : Nat → Prop} {a : Nat → Nat} {cyI cyZ : ClassId} {r : Int32} {q : Unit × List Int32}
set_option maxHeartbeats 4000000 in
set_option maxRecDepth 100000 in
theorem wl_X0_parts_0 (σ : Mem) (hC : CX p c cX0_parts meth (some .boolean) s m args yX0_parts.cls 4 D cyI cyZ) (hq : extR q = some r) (n : Nat) (ih : ∀ (pc : Nat) (x : Unit) (vs : List Int32) (ls : Array Slot) (H : Heap) (locs : List Loc), goL (B_X0_parts σ) n pc x vs = some q → SH_X0_parts a ls pc vs → va_P D vwCl (wC cyI cyZ a σ) H → va_D A (wC cyI cyZ a σ) → va_S A s.heap H locs → W p l e (headSpec ts_X0_parts ({ frames := 2, cells := 0, slots := 0, locals := 43 } : Room)).room s m args below meth c H locs 0 0 (MQ below (QcI D cyI cyZ A (wC cyI cyZ a σ) r) args s 0 0 A) (F0 m pc ls [])) (x1 : Int32) (x2 : Int32) (ls : Array Slot) (H : Heap) (locs : List Loc) (hgo : goL (B_X0_parts σ) (n + 1) 0 () [x1, x2] = some q) (hl : lv_has ls 4 [(0, .ref (a 29)), (1, .int x1), (2, .int x2)]) (hP : va_P D vwCl (wC cyI cyZ a σ) H) (hD : va_D A (wC cyI cyZ a σ)) (hS : va_S A s.heap H locs) : W p l e (headSpec ts_X0_parts ({ frames := 2, cells := 0, slots := 0, locals := 43 } : Room)).room s m args below meth c H locs 0 0 (MQ below (QcI D cyI cyZ A (wC cyI cyZ a σ) r) args s 0 0 A) (F0 m 0 ls []) := by
  obtain ⟨hx, hb, hr, hml, hown, hts, hK, hN, hlocks⟩ := hC
  have hown : s.vm.findClass RX0 = some m.cls := hown
  obtain ⟨yy, hF, hgo⟩ := goL_step (by decide) hgo
  have hF : B_X0_parts_0 σ x1 x2 = some yy := hF
  unfold B_X0_parts_0 at hF
  refine lv_iconst (v := (1 : Int32)) hx hb dX0_parts_0 (by decide) ?_
  refine lv_istore_n (lv' := [(3, .int (1 : Int32)), (0, .ref (a 29)), (1, .int x1), (2, .int x2)]) hx hb dX0_parts_1 rfl hl (by decide) rfl (fun ls hl => ?_)
  cases hF
  exact ih _ _ _ _ _ _ hgo (Or.inr (⟨rfl, _, _, _, rfl, lv_sub hl [1, 2, 3, 0] rfl⟩)) hP hD hS
set_option maxHeartbeats 4000000 in
set_option maxRecDepth 100000 in
theorem wl_X0_parts_2 (σ : Mem) (hC : CX p c cX0_parts meth (some .boolean) s m args yX0_parts.cls 4 D cyI cyZ) (hq : extR q = some r) (n : Nat) (ih : ∀ (pc : Nat) (x : Unit) (vs : List Int32) (ls : Array Slot) (H : Heap) (locs : List Loc), goL (B_X0_parts σ) n pc x vs = some q → SH_X0_parts a ls pc vs → va_P D vwCl (wC cyI cyZ a σ) H → va_D A (wC cyI cyZ a σ) → va_S A s.heap H locs → W p l e (headSpec ts_X0_parts ({ frames := 2, cells := 0, slots := 0, locals := 43 } : Room)).room s m args below meth c H locs 0 0 (MQ below (QcI D cyI cyZ A (wC cyI cyZ a σ) r) args s 0 0 A) (F0 m pc ls [])) (x1 : Int32) (x2 : Int32) (x3 : Int32) (ls : Array Slot) (H : Heap) (locs : List Loc) (hgo : goL (B_X0_parts σ) (n + 1) 2 () [x1, x2, x3] = some q) (hl : lv_has ls 4 [(0, .ref (a 29)), (1, .int x1), (2, .int x2), (3, .int x3)]) (hP : va_P D vwCl (wC cyI cyZ a σ) H) (hD : va_D A (wC cyI cyZ a σ)) (hS : va_S A s.heap H locs) : W p l e (headSpec ts_X0_parts ({ frames := 2, cells := 0, slots := 0, locals := 43 } : Room)).room s m args below meth c H locs 0 0 (MQ below (QcI D cyI cyZ A (wC cyI cyZ a σ) r) args s 0 0 A) (F0 m 2 ls []) := by
  obtain ⟨hx, hb, hr, hml, hown, hts, hK, hN, hlocks⟩ := hC
  have hown : s.vm.findClass RX0 = some m.cls := hown
  obtain ⟨yy, hF, hgo⟩ := goL_step (by decide) hgo
  have hF : B_X0_parts_2 σ x1 x2 x3 = some yy := hF
  unfold B_X0_parts_2 at hF
  refine lv_iload_n hx hb dX0_parts_2 rfl (lv_at hl 3 rfl) ?_
  refine lv_iload_n hx hb dX0_parts_3 rfl (lv_at hl 2 rfl) ?_
  refine lv_icmp_ge (tgt := 36) hx hb dX0_parts_4 (by decide) (fun c1 => ?_) (fun c1 => ?_)
  · rw [if_pos c1] at hF
    refine lv_iconst (v := (0 : Int32)) hx hb dX0_parts_36 (by decide) ?_
    cases hF
    obtain rfl := extR_ret hq (goL_ret hgo)
    exact z_zret hx hb hr hlocks hK hP hD hS rfl dX0_parts_37
  · rw [if_neg c1] at hF
    refine lv_aload_n hx hb dX0_parts_7 rfl (lv_at hl 0 rfl) ?_
    refine va_get (D := D) (ci := 0) (v := .ref (a 16)) (C := RX0) (T := TX0) (N := 6) hx hb hts inlX0 hown hK hP 29 gC_29 rfl 1 (by decide) (hts _ mw_106) (fun _ h9 => h9) rfl dX0_parts_8 ?_
    refine lv_iload_n hx hb dX0_parts_11 rfl (lv_at hl 3 rfl) ?_
    refine lv_iload_n hx hb dX0_parts_12 rfl (lv_at hl 1 rfl) ?_
    obtain ⟨v2, e3, hF⟩ := Option.bind_eq_some_iff.mp hF
    refine z_callVI (w' := (wC cyI cyZ a σ)) (As := [.int x3, .int x1]) (rest := []) ⟨hx, hb, hml, hown, hts⟩ (c_X5_meaningAt l D cyI cyZ a A σ x3 x1 _ e3) (cwV 2 hts (gd_V mw_790 mw_575 mw_576 mw_26 mw_577) rfl rfl rfl (by decide +kernel) ⟨Nat.le_of_ble_eq_true rfl, Nat.le_of_ble_eq_true rfl⟩) hK hN hP hD hS 5 16 rfl rfl gC_16 rfl hl.1 rfl (Nat.le_of_ble_eq_true rfl) dX0_parts_13 ⟨Nat.zero_le _, Nat.zero_le _⟩ (fun H locs hP hD hS => ?_)
    refine lv_aload_n hx hb dX0_parts_16 rfl (lv_at hl 0 rfl) ?_
    refine va_get (D := D) (ci := 0) (v := .ref (a 16)) (C := RX0) (T := TX0) (N := 6) hx hb hts inlX0 hown hK hP 29 gC_29 rfl 1 (by decide) (hts _ mw_106) (fun _ h9 => h9) rfl dX0_parts_17 ?_
    refine lv_iconst (v := (0 : Int32)) hx hb dX0_parts_20 (by decide) ?_
    refine lv_iload_n hx hb dX0_parts_21 rfl (lv_at hl 1 rfl) ?_
    obtain ⟨v4, e5, hF⟩ := Option.bind_eq_some_iff.mp hF
    refine z_callVI (w' := (wC cyI cyZ a σ)) (As := [.int (0 : Int32), .int x1]) (rest := [.int v2]) ⟨hx, hb, hml, hown, hts⟩ (c_X5_meaningAt l D cyI cyZ a A σ (0 : Int32) x1 _ e5) (cwV 2 hts (gd_V mw_790 mw_575 mw_576 mw_26 mw_577) rfl rfl rfl (by decide +kernel) ⟨Nat.le_of_ble_eq_true rfl, Nat.le_of_ble_eq_true rfl⟩) hK hN hP hD hS 5 16 rfl rfl gC_16 rfl hl.1 rfl (Nat.le_of_ble_eq_true rfl) dX0_parts_22 ⟨Nat.zero_le _, Nat.zero_le _⟩ (fun H locs hP hD hS => ?_)
    refine lv_icmp_eq (tgt := 30) hx hb dX0_parts_25 (by decide) (fun c6 => ?_) (fun c6 => ?_)
    · rw [if_pos c6] at hF
      refine lv_iinc (v := (x3 + (1 : Int32))) (lv' := [(3, .int (x3 + (1 : Int32))), (0, .ref (a 29)), (1, .int x1), (2, .int x2)]) hx hb dX0_parts_30 hl (k := 3) rfl rfl (by decide) rfl (fun ls hl => ?_)
      refine lv_goto (tgt := 2) hx hb dX0_parts_33 (by decide) ?_
      cases hF
      exact ih _ _ _ _ _ _ hgo (Or.inr (⟨rfl, _, _, _, rfl, lv_sub hl [1, 2, 3, 0] rfl⟩)) hP hD hS
    · rw [if_neg c6] at hF
      refine lv_iconst (v := (1 : Int32)) hx hb dX0_parts_28 (by decide) ?_
      cases hF
      obtain rfl := extR_ret hq (goL_ret hgo)
      exact z_zret hx hb hr hlocks hK hP hD hS rfl dX0_parts_29
theorem wk_X0_parts (σ : Mem) (hC : CX p c cX0_parts meth (some .boolean) s m args yX0_parts.cls 4 D cyI cyZ) (hq : extR q = some r) : ∀ (n : Nat), ∀ (pc : Nat) (x : Unit) (vs : List Int32) (ls : Array Slot) (H : Heap) (locs : List Loc), goL (B_X0_parts σ) n pc x vs = some q → SH_X0_parts a ls pc vs → va_P D vwCl (wC cyI cyZ a σ) H → va_D A (wC cyI cyZ a σ) → va_S A s.heap H locs → W p l e (headSpec ts_X0_parts ({ frames := 2, cells := 0, slots := 0, locals := 43 } : Room)).room s m args below meth c H locs 0 0 (MQ below (QcI D cyI cyZ A (wC cyI cyZ a σ) r) args s 0 0 A) (F0 m pc ls []) := by
  intro n
  induction n with
  | zero => intro pc x vs ls H locs h; exact absurd h (by simp [goL])
  | succ n ih =>
    intro pc x vs ls H locs hgo hsh hP hD hS
    rcases hsh with ⟨rfl, x1, x2, rfl, hl⟩ | ⟨rfl, x1, x2, x3, rfl, hl⟩
    · exact wl_X0_parts_0 σ hC hq n ih x1 x2 ls H locs hgo hl hP hD hS
    · exact wl_X0_parts_2 σ hC hq n ih x1 x2 x3 ls H locs hgo hl hP hD hS
end
theorem c_X0_parts (l : Launch) (D : va_G) (cyI cyZ : ClassId) (a : Nat → Nat) (A : Nat → Prop) (σ : Mem) (x1 : Int32) (x2 : Int32) (r : Int32) (hF : F_X0_parts σ x1 x2 = some r) : CtI l yX0_parts ts_X0_parts ({ frames := 2, cells := 0, slots := 0, locals := 43 } : Room) [.ref (a 29), .int x1, .int x2] D cyI cyZ A (wC cyI cyZ a σ) (wC cyI cyZ a σ) r := by
  refine CtI.of (cc := cX0_parts) (maxL := 4) (ret := (some .boolean)) (by decide) rfl (Nat.le_of_ble_eq_true rfl) ?_
  intro p e s m below meth c ls hC hP hD hl
  obtain ⟨q, hq, hr1⟩ := Option.bind_eq_some_iff.mp hF
  obtain ⟨n, hn⟩ := finL_some hq
  exact wk_X0_parts σ hC hr1 n 0 _ _ ls _ _ hn (Or.inl ⟨rfl, _, _, rfl, hl⟩) hP hD va_S.rf
