-- X1_seekRows X1_rowsHolding X1_rowsFound X2_doing J6_bitCount_0f7a4 X8_holdsBit X2_wanted X1_joined
abbrev ts_X1_seekRows : List Cond := .code yX1_seekRows cX1_seekRows 10 (some .int) :: wsL_law
def SH_X1_seekRows (a : Nat → Nat) (ls : Array Slot) (pc : Nat) (vs : List Int32) : Prop := (pc = 0 ∧ ∃ x2 : Int32, vs = [x2] ∧ lv_has ls 10 [(0, .ref (a 27)), (1, .ref (a 17)), (2, .int x2)]) ∨ (pc = 48 ∧ ∃ x2 x3 x4 x5 x6 x7 x8 : Int32, vs = [x2, x3, x4, x5, x6, x7, x8] ∧ lv_has ls 10 [(0, .ref (a 27)), (1, .ref (a 17)), (2, .int x2), (3, .int x3), (4, .int x4), (5, .int x5), (6, .int x6), (7, .int x7), (8, .int x8)])
section
variable {p : Program} {l : Launch} {e : Env} {s : State} {m : MethodId} {args : Array Value} {below : List Frame} {meth : Method} {c : Code} {D : va_G} {A : Nat → Prop} {a : Nat → Nat} {cyI cyZ : ClassId} {r : Int32} {q : Unit × List Int32}
set_option maxHeartbeats 4000000 in
set_option maxRecDepth 100000 in
theorem wl_X1_seekRows_0 (σ : Mem) (hC : CX p c cX1_seekRows meth (some .int) s m args yX1_seekRows.cls 10 D cyI cyZ) (hq : extR q = some r) (n : Nat) (ih : ∀ (pc : Nat) (x : Unit) (vs : List Int32) (ls : Array Slot) (H : Heap) (locs : List Loc), goL (B_X1_seekRows σ) n pc x vs = some q → SH_X1_seekRows a ls pc vs → va_P D vwCl (wC cyI cyZ a σ) H → va_D A (wC cyI cyZ a σ) → va_S A s.heap H locs → W p l e (headSpec ts_X1_seekRows ({ frames := 1, cells := 0, slots := 0, locals := 23 } : Room)).room s m args below meth c H locs 0 0 (MQ below (QcI D cyI cyZ A (wC cyI cyZ a σ) r) args s 0 0 A) (F0 m pc ls [])) (x2 : Int32) (ls : Array Slot) (H : Heap) (locs : List Loc) (hgo : goL (B_X1_seekRows σ) (n + 1) 0 () [x2] = some q) (hl : lv_has ls 10 [(0, .ref (a 27)), (1, .ref (a 17)), (2, .int x2)]) (hP : va_P D vwCl (wC cyI cyZ a σ) H) (hD : va_D A (wC cyI cyZ a σ)) (hS : va_S A s.heap H locs) : W p l e (headSpec ts_X1_seekRows ({ frames := 1, cells := 0, slots := 0, locals := 23 } : Room)).room s m args below meth c H locs 0 0 (MQ below (QcI D cyI cyZ A (wC cyI cyZ a σ) r) args s 0 0 A) (F0 m 0 ls []) := by
  obtain ⟨hx, hb, hr, hml, hown, hts, hK, hN, hlocks⟩ := hC
  have hown : s.vm.findClass RX1 = some m.cls := hown
  obtain ⟨yy, hF, hgo⟩ := goL_step (by decide) hgo
  have hF : B_X1_seekRows_0 σ x2 = some yy := hF
  unfold B_X1_seekRows_0 at hF
  refine lv_aload_n hx hb dX1_seekRows_0 rfl (lv_at hl 1 rfl) ?_
  refine z_callVI (w' := (wC cyI cyZ a σ)) (As := []) (rest := []) ⟨hx, hb, hml, hown, hts⟩ (c_X2_from l D cyI cyZ a A σ  _ rfl) (cwV 0 hts (gd_V mw_603 mw_588 mw_589 mw_71 mw_590) rfl rfl rfl (by decide +kernel) ⟨Nat.le_of_ble_eq_true rfl, Nat.le_of_ble_eq_true rfl⟩) hK hN hP hD hS 2 17 rfl rfl gC_17 rfl hl.1 rfl (Nat.le_of_ble_eq_true rfl) dX1_seekRows_1 ⟨Nat.zero_le _, Nat.zero_le _⟩ (fun H locs hP hD hS => ?_)
  refine lv_istore_n (lv' := [(3, .int (F_X2_from σ)), (0, .ref (a 27)), (1, .ref (a 17)), (2, .int x2)]) hx hb dX1_seekRows_4 rfl hl (by decide) rfl (fun ls hl => ?_)
  refine lv_aload_n hx hb dX1_seekRows_5 rfl (lv_at hl 2 rfl) ?_
  refine lv_iload_n hx hb dX1_seekRows_6 rfl (lv_at hl 3 rfl) ?_
  obtain ⟨v1, e2, hF⟩ := Option.bind_eq_some_iff.mp hF
  refine z_callVI (w' := (wC cyI cyZ a σ)) (As := [.int x2]) (rest := []) ⟨hx, hb, hml, hown, hts⟩ (c_X2_tableOf l D cyI cyZ a A σ x2 _ e2) (cwV 1 hts (gd_V mw_619 mw_620 mw_621 mw_71 mw_622) rfl rfl rfl (by decide +kernel) ⟨Nat.le_of_ble_eq_true rfl, Nat.le_of_ble_eq_true rfl⟩) hK hN hP hD hS 2 17 rfl rfl gC_17 rfl hl.1 rfl (Nat.le_of_ble_eq_true rfl) dX1_seekRows_7 ⟨Nat.zero_le _, Nat.zero_le _⟩ (fun H locs hP hD hS => ?_)
  refine lv_istore (lv' := [(4, .int v1), (3, .int (F_X2_from σ)), (0, .ref (a 27)), (1, .ref (a 17)), (2, .int x2)]) hx hb dX1_seekRows_10 hl (by decide) rfl (fun ls hl => ?_)
  refine lv_aload_n hx hb dX1_seekRows_12 rfl (lv_at hl 3 rfl) ?_
  refine lv_iload_n hx hb dX1_seekRows_13 rfl (lv_at hl 4 rfl) ?_
  obtain ⟨v3, e4, hF⟩ := Option.bind_eq_some_iff.mp hF
  refine z_callVI (w' := (wC cyI cyZ a σ)) (As := [.int x2]) (rest := []) ⟨hx, hb, hml, hown, hts⟩ (c_X2_columnOf l D cyI cyZ a A σ x2 _ e4) (cwV 1 hts (gd_V mw_623 mw_624 mw_625 mw_71 mw_626) rfl rfl rfl (by decide +kernel) ⟨Nat.le_of_ble_eq_true rfl, Nat.le_of_ble_eq_true rfl⟩) hK hN hP hD hS 2 17 rfl rfl gC_17 rfl hl.1 rfl (Nat.le_of_ble_eq_true rfl) dX1_seekRows_14 ⟨Nat.zero_le _, Nat.zero_le _⟩ (fun H locs hP hD hS => ?_)
  refine lv_istore (lv' := [(5, .int v3), (4, .int v1), (3, .int (F_X2_from σ)), (0, .ref (a 27)), (1, .ref (a 17)), (2, .int x2)]) hx hb dX1_seekRows_17 hl (by decide) rfl (fun ls hl => ?_)
  refine lv_iload hx hb dX1_seekRows_19 (lv_at hl 1 rfl) ?_
  refine lv_iload_n hx hb dX1_seekRows_21 rfl (lv_at hl 2 rfl) ?_
  refine lv_icmp_ne (tgt := 30) hx hb dX1_seekRows_22 (by decide) (fun c5 => ?_) (fun c5 => ?_)
  · rw [if_neg c5] at hF
    refine lv_aload_n hx hb dX1_seekRows_30 rfl (lv_at hl 3 rfl) ?_
    refine va_get (D := D) (ci := 1) (v := .ref (a 1)) (C := RX1) (T := TX1) (N := 2) hx hb hts inlX1 hown hK hP 27 gC_27 rfl 0 (by decide) (hts _ mw_94) (fun _ h9 => h9) rfl dX1_seekRows_31 ?_
    refine lv_iload_n hx hb dX1_seekRows_34 rfl (lv_at hl 2 rfl) ?_
    refine lv_iload hx hb dX1_seekRows_35 (lv_at hl 1 rfl) ?_
    obtain ⟨v6, e7, hF⟩ := Option.bind_eq_some_iff.mp hF
    refine z_callVI (w' := (wC cyI cyZ a σ)) (As := [.int (F_X2_from σ), .int v1]) (rest := []) ⟨hx, hb, hml, hown, hts⟩ (c_X6_linkingColumn l D cyI cyZ a A σ (F_X2_from σ) v1 _ e7) (cwV 2 hts (gd_V mw_627 mw_512 mw_513 mw_14 mw_514) rfl rfl rfl (by decide +kernel) ⟨Nat.le_of_ble_eq_true rfl, Nat.le_of_ble_eq_true rfl⟩) hK hN hP hD hS 6 1 rfl rfl gC_1 rfl hl.1 rfl (Nat.le_of_ble_eq_true rfl) dX1_seekRows_37 ⟨Nat.zero_le _, Nat.zero_le _⟩ (fun H locs hP hD hS => ?_)
    refine lv_istore (lv' := [(6, .int v6), (5, .int v3), (4, .int v1), (3, .int (F_X2_from σ)), (0, .ref (a 27)), (1, .ref (a 17)), (2, .int x2)]) hx hb dX1_seekRows_40 hl (by decide) rfl (fun ls hl => ?_)
    refine lv_iconst (v := (0 : Int32)) hx hb dX1_seekRows_42 (by decide) ?_
    refine lv_istore (lv' := [(7, .int (0 : Int32)), (6, .int v6), (5, .int v3), (4, .int v1), (3, .int (F_X2_from σ)), (0, .ref (a 27)), (1, .ref (a 17)), (2, .int x2)]) hx hb dX1_seekRows_43 hl (by decide) rfl (fun ls hl => ?_)
    refine lv_iconst (v := (0 : Int32)) hx hb dX1_seekRows_45 (by decide) ?_
    refine lv_istore (lv' := [(8, .int (0 : Int32)), (7, .int (0 : Int32)), (6, .int v6), (5, .int v3), (4, .int v1), (3, .int (F_X2_from σ)), (0, .ref (a 27)), (1, .ref (a 17)), (2, .int x2)]) hx hb dX1_seekRows_46 hl (by decide) rfl (fun ls hl => ?_)
    cases hF
    exact ih _ _ _ _ _ _ hgo (Or.inr (⟨rfl, _, _, _, _, _, _, _, rfl, lv_sub hl [6, 7, 8, 5, 4, 3, 2, 1, 0] rfl⟩)) hP hD hS
  · rw [if_pos c5] at hF
    refine lv_iload hx hb dX1_seekRows_25 (lv_at hl 0 rfl) ?_
    refine lv_goto (tgt := 40) hx hb dX1_seekRows_27 (by decide) ?_
    refine lv_istore (lv' := [(6, .int v3), (5, .int v3), (4, .int v1), (3, .int (F_X2_from σ)), (0, .ref (a 27)), (1, .ref (a 17)), (2, .int x2)]) hx hb dX1_seekRows_40 hl (by decide) rfl (fun ls hl => ?_)
    refine lv_iconst (v := (0 : Int32)) hx hb dX1_seekRows_42 (by decide) ?_
    refine lv_istore (lv' := [(7, .int (0 : Int32)), (6, .int v3), (5, .int v3), (4, .int v1), (3, .int (F_X2_from σ)), (0, .ref (a 27)), (1, .ref (a 17)), (2, .int x2)]) hx hb dX1_seekRows_43 hl (by decide) rfl (fun ls hl => ?_)
    refine lv_iconst (v := (0 : Int32)) hx hb dX1_seekRows_45 (by decide) ?_
    refine lv_istore (lv' := [(8, .int (0 : Int32)), (7, .int (0 : Int32)), (6, .int v3), (5, .int v3), (4, .int v1), (3, .int (F_X2_from σ)), (0, .ref (a 27)), (1, .ref (a 17)), (2, .int x2)]) hx hb dX1_seekRows_46 hl (by decide) rfl (fun ls hl => ?_)
    cases hF
    exact ih _ _ _ _ _ _ hgo (Or.inr (⟨rfl, _, _, _, _, _, _, _, rfl, lv_sub hl [6, 7, 8, 5, 4, 3, 2, 1, 0] rfl⟩)) hP hD hS
set_option maxHeartbeats 4000000 in
set_option maxRecDepth 100000 in
theorem wl_X1_seekRows_48 (σ : Mem) (hC : CX p c cX1_seekRows meth (some .int) s m args yX1_seekRows.cls 10 D cyI cyZ) (hq : extR q = some r) (n : Nat) (ih : ∀ (pc : Nat) (x : Unit) (vs : List Int32) (ls : Array Slot) (H : Heap) (locs : List Loc), goL (B_X1_seekRows σ) n pc x vs = some q → SH_X1_seekRows a ls pc vs → va_P D vwCl (wC cyI cyZ a σ) H → va_D A (wC cyI cyZ a σ) → va_S A s.heap H locs → W p l e (headSpec ts_X1_seekRows ({ frames := 1, cells := 0, slots := 0, locals := 23 } : Room)).room s m args below meth c H locs 0 0 (MQ below (QcI D cyI cyZ A (wC cyI cyZ a σ) r) args s 0 0 A) (F0 m pc ls [])) (x2 : Int32) (x3 : Int32) (x4 : Int32) (x5 : Int32) (x6 : Int32) (x7 : Int32) (x8 : Int32) (ls : Array Slot) (H : Heap) (locs : List Loc) (hgo : goL (B_X1_seekRows σ) (n + 1) 48 () [x2, x3, x4, x5, x6, x7, x8] = some q) (hl : lv_has ls 10 [(0, .ref (a 27)), (1, .ref (a 17)), (2, .int x2), (3, .int x3), (4, .int x4), (5, .int x5), (6, .int x6), (7, .int x7), (8, .int x8)]) (hP : va_P D vwCl (wC cyI cyZ a σ) H) (hD : va_D A (wC cyI cyZ a σ)) (hS : va_S A s.heap H locs) : W p l e (headSpec ts_X1_seekRows ({ frames := 1, cells := 0, slots := 0, locals := 23 } : Room)).room s m args below meth c H locs 0 0 (MQ below (QcI D cyI cyZ A (wC cyI cyZ a σ) r) args s 0 0 A) (F0 m 48 ls []) := by
  obtain ⟨hx, hb, hr, hml, hown, hts, hK, hN, hlocks⟩ := hC
  have hown : s.vm.findClass RX1 = some m.cls := hown
  obtain ⟨yy, hF, hgo⟩ := goL_step (by decide) hgo
  have hF : B_X1_seekRows_48 σ x2 x3 x4 x5 x6 x7 x8 = some yy := hF
  unfold B_X1_seekRows_48 at hF
  refine lv_iload hx hb dX1_seekRows_48 (lv_at hl 6 rfl) ?_
  refine lv_if_lt (tgt := 160) hx hb dX1_seekRows_50 (by decide) (fun c1 => ?_) (fun c1 => ?_)
  · rw [if_pos c1] at hF
    refine lv_iload hx hb dX1_seekRows_160 (lv_at hl 7 rfl) ?_
    cases hF
    obtain rfl := extR_ret hq (goL_ret hgo)
    exact z_iret hx hb hr hlocks hK hP hD hS dX1_seekRows_162
  · rw [if_neg c1] at hF
    refine lv_iload hx hb dX1_seekRows_53 (lv_at hl 8 rfl) ?_
    refine lv_aload_n hx hb dX1_seekRows_55 rfl (lv_at hl 0 rfl) ?_
    refine va_get (D := D) (ci := 1) (v := .ref (a 1)) (C := RX1) (T := TX1) (N := 2) hx hb hts inlX1 hown hK hP 27 gC_27 rfl 0 (by decide) (hts _ mw_94) (fun _ h9 => h9) rfl dX1_seekRows_56 ?_
    refine lv_iload_n hx hb dX1_seekRows_59 rfl (lv_at hl 3 rfl) ?_
    obtain ⟨v2, e3, hF⟩ := Option.bind_eq_some_iff.mp hF
    refine z_callVI (w' := (wC cyI cyZ a σ)) (As := [.int x3]) (rest := [.int x8]) ⟨hx, hb, hml, hown, hts⟩ (c_X6_rowsOf l D cyI cyZ a A σ x3 _ e3) (cwV 1 hts (gd_V mw_604 mw_173 mw_174 mw_14 mw_175) rfl rfl rfl (by decide +kernel) ⟨Nat.le_of_ble_eq_true rfl, Nat.le_of_ble_eq_true rfl⟩) hK hN hP hD hS 6 1 rfl rfl gC_1 rfl hl.1 rfl (Nat.le_of_ble_eq_true rfl) dX1_seekRows_60 ⟨Nat.zero_le _, Nat.zero_le _⟩ (fun H locs hP hD hS => ?_)
    refine lv_icmp_ge (tgt := 160) hx hb dX1_seekRows_63 (by decide) (fun c4 => ?_) (fun c4 => ?_)
    · rw [if_pos c4] at hF
      refine lv_iload hx hb dX1_seekRows_160 (lv_at hl 7 rfl) ?_
      cases hF
      obtain rfl := extR_ret hq (goL_ret hgo)
      exact z_iret hx hb hr hlocks hK hP hD hS dX1_seekRows_162
    · rw [if_neg c4] at hF
      refine lv_aload_n hx hb dX1_seekRows_66 rfl (lv_at hl 0 rfl) ?_
      refine va_get (D := D) (ci := 1) (v := .ref (a 1)) (C := RX1) (T := TX1) (N := 2) hx hb hts inlX1 hown hK hP 27 gC_27 rfl 0 (by decide) (hts _ mw_94) (fun _ h9 => h9) rfl dX1_seekRows_67 ?_
      refine lv_iload_n hx hb dX1_seekRows_70 rfl (lv_at hl 3 rfl) ?_
      refine lv_iload hx hb dX1_seekRows_71 (lv_at hl 8 rfl) ?_
      refine lv_iload hx hb dX1_seekRows_73 (lv_at hl 6 rfl) ?_
      obtain ⟨v5, e6, hF⟩ := Option.bind_eq_some_iff.mp hF
      refine z_callVI (w' := (wC cyI cyZ a σ)) (As := [.int x3, .int x8, .int x6]) (rest := []) ⟨hx, hb, hml, hown, hts⟩ (c_X6_cell l D cyI cyZ a A σ x3 x8 x6 _ e6) (cwV 3 hts (gd_V mw_628 mw_240 mw_241 mw_14 mw_242) rfl rfl rfl (by decide +kernel) ⟨Nat.le_of_ble_eq_true rfl, Nat.le_of_ble_eq_true rfl⟩) hK hN hP hD hS 6 1 rfl rfl gC_1 rfl hl.1 rfl (Nat.le_of_ble_eq_true rfl) dX1_seekRows_75 ⟨Nat.zero_le _, Nat.zero_le _⟩ (fun H locs hP hD hS => ?_)
      refine lv_istore (lv' := [(9, .int v5), (0, .ref (a 27)), (1, .ref (a 17)), (2, .int x2), (3, .int x3), (4, .int x4), (5, .int x5), (6, .int x6), (7, .int x7), (8, .int x8)]) hx hb dX1_seekRows_78 hl (by decide) rfl (fun ls hl => ?_)
      refine lv_iload hx hb dX1_seekRows_80 (lv_at hl 5 rfl) ?_
      refine lv_iload_n hx hb dX1_seekRows_82 rfl (lv_at hl 4 rfl) ?_
      refine lv_icmp_eq (tgt := 120) hx hb dX1_seekRows_83 (by decide) (fun c7 => ?_) (fun c7 => ?_)
      · rw [if_pos c7] at hF
        refine lv_iload hx hb dX1_seekRows_120 (lv_at hl 0 rfl) ?_
        refine lv_ldc (v := (-1000000 : Int32)) hx hb hown (hts _ mw_618) dX1_seekRows_122 ?_
        refine lv_icmp_eq (tgt := 154) hx hb dX1_seekRows_124 (by decide) (fun c8 => ?_) (fun c8 => ?_)
        · rw [if_pos c8] at hF
          refine lv_iinc (v := (x8 + (1 : Int32))) (lv' := [(8, .int (x8 + (1 : Int32))), (9, .int v5), (0, .ref (a 27)), (1, .ref (a 17)), (2, .int x2), (3, .int x3), (4, .int x4), (5, .int x5), (6, .int x6), (7, .int x7)]) hx hb dX1_seekRows_154 hl (k := 9) rfl rfl (by decide) rfl (fun ls hl => ?_)
          refine lv_goto (tgt := 48) hx hb dX1_seekRows_157 (by decide) ?_
          cases hF
          exact ih _ _ _ _ _ _ hgo (Or.inr (⟨rfl, _, _, _, _, _, _, _, rfl, lv_sub hl [2, 3, 4, 5, 6, 7, 8, 9, 0] rfl⟩)) hP hD hS
        · rw [if_neg c8] at hF
          refine lv_iload hx hb dX1_seekRows_127 (lv_at hl 0 rfl) ?_
          refine lv_aload_n hx hb dX1_seekRows_129 rfl (lv_at hl 2 rfl) ?_
          refine lv_iload_n hx hb dX1_seekRows_130 rfl (lv_at hl 3 rfl) ?_
          obtain ⟨v9, e10, hF⟩ := Option.bind_eq_some_iff.mp hF
          refine z_callVI (w' := (wC cyI cyZ a σ)) (As := [.int x2]) (rest := [.int v5]) ⟨hx, hb, hml, hown, hts⟩ (c_X2_thanOf l D cyI cyZ a A σ x2 _ e10) (cwV 1 hts (gd_V mw_633 mw_634 mw_635 mw_71 mw_636) rfl rfl rfl (by decide +kernel) ⟨Nat.le_of_ble_eq_true rfl, Nat.le_of_ble_eq_true rfl⟩) hK hN hP hD hS 2 17 rfl rfl gC_17 rfl hl.1 rfl (Nat.le_of_ble_eq_true rfl) dX1_seekRows_131 ⟨Nat.zero_le _, Nat.zero_le _⟩ (fun H locs hP hD hS => ?_)
          refine lv_aload_n hx hb dX1_seekRows_134 rfl (lv_at hl 2 rfl) ?_
          refine lv_iload_n hx hb dX1_seekRows_135 rfl (lv_at hl 3 rfl) ?_
          obtain ⟨v11, e12, hF⟩ := Option.bind_eq_some_iff.mp hF
          refine z_callVI (w' := (wC cyI cyZ a σ)) (As := [.int x2]) (rest := [.int v9, .int v5]) ⟨hx, hb, hml, hown, hts⟩ (c_X2_numberOf l D cyI cyZ a A σ x2 _ e12) (cwV 1 hts (gd_V mw_637 mw_638 mw_639 mw_71 mw_640) rfl rfl rfl (by decide +kernel) ⟨Nat.le_of_ble_eq_true rfl, Nat.le_of_ble_eq_true rfl⟩) hK hN hP hD hS 2 17 rfl rfl gC_17 rfl hl.1 rfl (Nat.le_of_ble_eq_true rfl) dX1_seekRows_136 ⟨Nat.zero_le _, Nat.zero_le _⟩ (fun H locs hP hD hS => ?_)
          refine z_callSI (w' := (wC cyI cyZ a σ)) (As := [.int v5, .int v9, .int v11]) (rest := []) ⟨hx, hb, hml, hown, hts⟩ (c_X1_holds l D cyI cyZ A (wC cyI cyZ a σ) v5 v9 v11 _ rfl) (va_cwS 3 hts (gd_S mw_641 mw_642 mw_30 mw_643) rfl rfl rfl (by decide +kernel) ⟨Nat.le_of_ble_eq_true rfl, Nat.le_of_ble_eq_true rfl⟩) hK hN hP hD hS rfl hl.1 rfl (Nat.le_of_ble_eq_true rfl) dX1_seekRows_139 ⟨Nat.zero_le _, Nat.zero_le _⟩ (fun H locs hP hD hS => ?_)
          refine lv_if_eq (tgt := 154) hx hb dX1_seekRows_142 (by decide) (fun c13 => ?_) (fun c13 => ?_)
          · rw [if_pos c13] at hF
            refine lv_iinc (v := (x8 + (1 : Int32))) (lv' := [(8, .int (x8 + (1 : Int32))), (9, .int v5), (0, .ref (a 27)), (1, .ref (a 17)), (2, .int x2), (3, .int x3), (4, .int x4), (5, .int x5), (6, .int x6), (7, .int x7)]) hx hb dX1_seekRows_154 hl (k := 9) rfl rfl (by decide) rfl (fun ls hl => ?_)
            refine lv_goto (tgt := 48) hx hb dX1_seekRows_157 (by decide) ?_
            cases hF
            exact ih _ _ _ _ _ _ hgo (Or.inr (⟨rfl, _, _, _, _, _, _, _, rfl, lv_sub hl [2, 3, 4, 5, 6, 7, 8, 9, 0] rfl⟩)) hP hD hS
          · rw [if_neg c13] at hF
            refine lv_iload hx hb dX1_seekRows_145 (lv_at hl 8 rfl) ?_
            refine lv_iconst (v := (1 : Int32)) hx hb dX1_seekRows_147 (by decide) ?_
            refine lv_iload hx hb dX1_seekRows_148 (lv_at hl 9 rfl) ?_
            refine lv_ishl hx hb dX1_seekRows_150 ?_
            refine lv_ior hx hb dX1_seekRows_151 ?_
            refine lv_istore (lv' := [(7, .int (x7 ||| ((1 : Int32) <<< (x8 &&& 31)))), (9, .int v5), (0, .ref (a 27)), (1, .ref (a 17)), (2, .int x2), (3, .int x3), (4, .int x4), (5, .int x5), (6, .int x6), (8, .int x8)]) hx hb dX1_seekRows_152 hl (by decide) rfl (fun ls hl => ?_)
            refine lv_iinc (v := (x8 + (1 : Int32))) (lv' := [(8, .int (x8 + (1 : Int32))), (7, .int (x7 ||| ((1 : Int32) <<< (x8 &&& 31)))), (9, .int v5), (0, .ref (a 27)), (1, .ref (a 17)), (2, .int x2), (3, .int x3), (4, .int x4), (5, .int x5), (6, .int x6)]) hx hb dX1_seekRows_154 hl (k := 9) rfl rfl (by decide) rfl (fun ls hl => ?_)
            refine lv_goto (tgt := 48) hx hb dX1_seekRows_157 (by decide) ?_
            cases hF
            exact ih _ _ _ _ _ _ hgo (Or.inr (⟨rfl, _, _, _, _, _, _, _, rfl, lv_sub hl [3, 4, 5, 6, 7, 8, 9, 1, 0] rfl⟩)) hP hD hS
      · rw [if_neg c7] at hF
        refine lv_aload_n hx hb dX1_seekRows_86 rfl (lv_at hl 1 rfl) ?_
        refine va_get (D := D) (ci := 1) (v := .ref (a 1)) (C := RX1) (T := TX1) (N := 2) hx hb hts inlX1 hown hK hP 27 gC_27 rfl 0 (by decide) (hts _ mw_94) (fun _ h9 => h9) rfl dX1_seekRows_87 ?_
        refine lv_iload hx hb dX1_seekRows_90 (lv_at hl 5 rfl) ?_
        refine lv_iload hx hb dX1_seekRows_92 (lv_at hl 0 rfl) ?_
        obtain ⟨v14, e15, hF⟩ := Option.bind_eq_some_iff.mp hF
        refine z_callVI (w' := (wC cyI cyZ a σ)) (As := [.int x4, .int v5]) (rest := []) ⟨hx, hb, hml, hown, hts⟩ (c_X6_hasRow l D cyI cyZ a A σ x4 v5 _ e15) (cwV 2 hts (gd_V mw_629 mw_630 mw_631 mw_14 mw_632) rfl rfl rfl (by decide +kernel) ⟨Nat.le_of_ble_eq_true rfl, Nat.le_of_ble_eq_true rfl⟩) hK hN hP hD hS 6 1 rfl rfl gC_1 rfl hl.1 rfl (Nat.le_of_ble_eq_true rfl) dX1_seekRows_94 ⟨Nat.zero_le _, Nat.zero_le _⟩ (fun H locs hP hD hS => ?_)
        refine lv_if_eq (tgt := 116) hx hb dX1_seekRows_97 (by decide) (fun c16 => ?_) (fun c16 => ?_)
        · rw [if_pos c16] at hF
          refine lv_ldc (v := (-1000000 : Int32)) hx hb hown (hts _ mw_618) dX1_seekRows_116 ?_
          refine lv_istore (lv' := [(9, .int (-1000000 : Int32)), (0, .ref (a 27)), (1, .ref (a 17)), (2, .int x2), (3, .int x3), (4, .int x4), (5, .int x5), (6, .int x6), (7, .int x7), (8, .int x8)]) hx hb dX1_seekRows_118 hl (by decide) rfl (fun ls hl => ?_)
          refine lv_iload hx hb dX1_seekRows_120 (lv_at hl 0 rfl) ?_
          refine lv_ldc (v := (-1000000 : Int32)) hx hb hown (hts _ mw_618) dX1_seekRows_122 ?_
          refine lv_icmp_eq (tgt := 154) hx hb dX1_seekRows_124 (by decide) (fun c17 => ?_) (fun c17 => ?_)
          · rw [if_pos c17] at hF
            refine lv_iinc (v := (x8 + (1 : Int32))) (lv' := [(8, .int (x8 + (1 : Int32))), (9, .int (-1000000 : Int32)), (0, .ref (a 27)), (1, .ref (a 17)), (2, .int x2), (3, .int x3), (4, .int x4), (5, .int x5), (6, .int x6), (7, .int x7)]) hx hb dX1_seekRows_154 hl (k := 9) rfl rfl (by decide) rfl (fun ls hl => ?_)
            refine lv_goto (tgt := 48) hx hb dX1_seekRows_157 (by decide) ?_
            cases hF
            exact ih _ _ _ _ _ _ hgo (Or.inr (⟨rfl, _, _, _, _, _, _, _, rfl, lv_sub hl [2, 3, 4, 5, 6, 7, 8, 9, 0] rfl⟩)) hP hD hS
          · rw [if_neg c17] at hF
            refine lv_iload hx hb dX1_seekRows_127 (lv_at hl 0 rfl) ?_
            refine lv_aload_n hx hb dX1_seekRows_129 rfl (lv_at hl 2 rfl) ?_
            refine lv_iload_n hx hb dX1_seekRows_130 rfl (lv_at hl 3 rfl) ?_
            obtain ⟨v18, e19, hF⟩ := Option.bind_eq_some_iff.mp hF
            refine z_callVI (w' := (wC cyI cyZ a σ)) (As := [.int x2]) (rest := [.int (-1000000 : Int32)]) ⟨hx, hb, hml, hown, hts⟩ (c_X2_thanOf l D cyI cyZ a A σ x2 _ e19) (cwV 1 hts (gd_V mw_633 mw_634 mw_635 mw_71 mw_636) rfl rfl rfl (by decide +kernel) ⟨Nat.le_of_ble_eq_true rfl, Nat.le_of_ble_eq_true rfl⟩) hK hN hP hD hS 2 17 rfl rfl gC_17 rfl hl.1 rfl (Nat.le_of_ble_eq_true rfl) dX1_seekRows_131 ⟨Nat.zero_le _, Nat.zero_le _⟩ (fun H locs hP hD hS => ?_)
            refine lv_aload_n hx hb dX1_seekRows_134 rfl (lv_at hl 2 rfl) ?_
            refine lv_iload_n hx hb dX1_seekRows_135 rfl (lv_at hl 3 rfl) ?_
            obtain ⟨v20, e21, hF⟩ := Option.bind_eq_some_iff.mp hF
            refine z_callVI (w' := (wC cyI cyZ a σ)) (As := [.int x2]) (rest := [.int v18, .int (-1000000 : Int32)]) ⟨hx, hb, hml, hown, hts⟩ (c_X2_numberOf l D cyI cyZ a A σ x2 _ e21) (cwV 1 hts (gd_V mw_637 mw_638 mw_639 mw_71 mw_640) rfl rfl rfl (by decide +kernel) ⟨Nat.le_of_ble_eq_true rfl, Nat.le_of_ble_eq_true rfl⟩) hK hN hP hD hS 2 17 rfl rfl gC_17 rfl hl.1 rfl (Nat.le_of_ble_eq_true rfl) dX1_seekRows_136 ⟨Nat.zero_le _, Nat.zero_le _⟩ (fun H locs hP hD hS => ?_)
            refine z_callSI (w' := (wC cyI cyZ a σ)) (As := [.int (-1000000 : Int32), .int v18, .int v20]) (rest := []) ⟨hx, hb, hml, hown, hts⟩ (c_X1_holds l D cyI cyZ A (wC cyI cyZ a σ) (-1000000 : Int32) v18 v20 _ rfl) (va_cwS 3 hts (gd_S mw_641 mw_642 mw_30 mw_643) rfl rfl rfl (by decide +kernel) ⟨Nat.le_of_ble_eq_true rfl, Nat.le_of_ble_eq_true rfl⟩) hK hN hP hD hS rfl hl.1 rfl (Nat.le_of_ble_eq_true rfl) dX1_seekRows_139 ⟨Nat.zero_le _, Nat.zero_le _⟩ (fun H locs hP hD hS => ?_)
            refine lv_if_eq (tgt := 154) hx hb dX1_seekRows_142 (by decide) (fun c22 => ?_) (fun c22 => ?_)
            · rw [if_pos c22] at hF
              refine lv_iinc (v := (x8 + (1 : Int32))) (lv' := [(8, .int (x8 + (1 : Int32))), (9, .int (-1000000 : Int32)), (0, .ref (a 27)), (1, .ref (a 17)), (2, .int x2), (3, .int x3), (4, .int x4), (5, .int x5), (6, .int x6), (7, .int x7)]) hx hb dX1_seekRows_154 hl (k := 9) rfl rfl (by decide) rfl (fun ls hl => ?_)
              refine lv_goto (tgt := 48) hx hb dX1_seekRows_157 (by decide) ?_
              cases hF
              exact ih _ _ _ _ _ _ hgo (Or.inr (⟨rfl, _, _, _, _, _, _, _, rfl, lv_sub hl [2, 3, 4, 5, 6, 7, 8, 9, 0] rfl⟩)) hP hD hS
            · rw [if_neg c22] at hF
              refine lv_iload hx hb dX1_seekRows_145 (lv_at hl 8 rfl) ?_
              refine lv_iconst (v := (1 : Int32)) hx hb dX1_seekRows_147 (by decide) ?_
              refine lv_iload hx hb dX1_seekRows_148 (lv_at hl 9 rfl) ?_
              refine lv_ishl hx hb dX1_seekRows_150 ?_
              refine lv_ior hx hb dX1_seekRows_151 ?_
              refine lv_istore (lv' := [(7, .int (x7 ||| ((1 : Int32) <<< (x8 &&& 31)))), (9, .int (-1000000 : Int32)), (0, .ref (a 27)), (1, .ref (a 17)), (2, .int x2), (3, .int x3), (4, .int x4), (5, .int x5), (6, .int x6), (8, .int x8)]) hx hb dX1_seekRows_152 hl (by decide) rfl (fun ls hl => ?_)
              refine lv_iinc (v := (x8 + (1 : Int32))) (lv' := [(8, .int (x8 + (1 : Int32))), (7, .int (x7 ||| ((1 : Int32) <<< (x8 &&& 31)))), (9, .int (-1000000 : Int32)), (0, .ref (a 27)), (1, .ref (a 17)), (2, .int x2), (3, .int x3), (4, .int x4), (5, .int x5), (6, .int x6)]) hx hb dX1_seekRows_154 hl (k := 9) rfl rfl (by decide) rfl (fun ls hl => ?_)
              refine lv_goto (tgt := 48) hx hb dX1_seekRows_157 (by decide) ?_
              cases hF
              exact ih _ _ _ _ _ _ hgo (Or.inr (⟨rfl, _, _, _, _, _, _, _, rfl, lv_sub hl [3, 4, 5, 6, 7, 8, 9, 1, 0] rfl⟩)) hP hD hS
        · rw [if_neg c16] at hF
          refine lv_aload_n hx hb dX1_seekRows_100 rfl (lv_at hl 1 rfl) ?_
          refine va_get (D := D) (ci := 1) (v := .ref (a 1)) (C := RX1) (T := TX1) (N := 2) hx hb hts inlX1 hown hK hP 27 gC_27 rfl 0 (by decide) (hts _ mw_94) (fun _ h9 => h9) rfl dX1_seekRows_101 ?_
          refine lv_iload hx hb dX1_seekRows_104 (lv_at hl 5 rfl) ?_
          refine lv_iload hx hb dX1_seekRows_106 (lv_at hl 0 rfl) ?_
          refine lv_iload hx hb dX1_seekRows_108 (lv_at hl 6 rfl) ?_
          obtain ⟨v23, e24, hF⟩ := Option.bind_eq_some_iff.mp hF
          refine z_callVI (w' := (wC cyI cyZ a σ)) (As := [.int x4, .int v5, .int x5]) (rest := []) ⟨hx, hb, hml, hown, hts⟩ (c_X6_cell l D cyI cyZ a A σ x4 v5 x5 _ e24) (cwV 3 hts (gd_V mw_628 mw_240 mw_241 mw_14 mw_242) rfl rfl rfl (by decide +kernel) ⟨Nat.le_of_ble_eq_true rfl, Nat.le_of_ble_eq_true rfl⟩) hK hN hP hD hS 6 1 rfl rfl gC_1 rfl hl.1 rfl (Nat.le_of_ble_eq_true rfl) dX1_seekRows_110 ⟨Nat.zero_le _, Nat.zero_le _⟩ (fun H locs hP hD hS => ?_)
          refine lv_goto (tgt := 118) hx hb dX1_seekRows_113 (by decide) ?_
          refine lv_istore (lv' := [(9, .int v23), (0, .ref (a 27)), (1, .ref (a 17)), (2, .int x2), (3, .int x3), (4, .int x4), (5, .int x5), (6, .int x6), (7, .int x7), (8, .int x8)]) hx hb dX1_seekRows_118 hl (by decide) rfl (fun ls hl => ?_)
          refine lv_iload hx hb dX1_seekRows_120 (lv_at hl 0 rfl) ?_
          refine lv_ldc (v := (-1000000 : Int32)) hx hb hown (hts _ mw_618) dX1_seekRows_122 ?_
          refine lv_icmp_eq (tgt := 154) hx hb dX1_seekRows_124 (by decide) (fun c25 => ?_) (fun c25 => ?_)
          · rw [if_pos c25] at hF
            refine lv_iinc (v := (x8 + (1 : Int32))) (lv' := [(8, .int (x8 + (1 : Int32))), (9, .int v23), (0, .ref (a 27)), (1, .ref (a 17)), (2, .int x2), (3, .int x3), (4, .int x4), (5, .int x5), (6, .int x6), (7, .int x7)]) hx hb dX1_seekRows_154 hl (k := 9) rfl rfl (by decide) rfl (fun ls hl => ?_)
            refine lv_goto (tgt := 48) hx hb dX1_seekRows_157 (by decide) ?_
            cases hF
            exact ih _ _ _ _ _ _ hgo (Or.inr (⟨rfl, _, _, _, _, _, _, _, rfl, lv_sub hl [2, 3, 4, 5, 6, 7, 8, 9, 0] rfl⟩)) hP hD hS
          · rw [if_neg c25] at hF
            refine lv_iload hx hb dX1_seekRows_127 (lv_at hl 0 rfl) ?_
            refine lv_aload_n hx hb dX1_seekRows_129 rfl (lv_at hl 2 rfl) ?_
            refine lv_iload_n hx hb dX1_seekRows_130 rfl (lv_at hl 3 rfl) ?_
            obtain ⟨v26, e27, hF⟩ := Option.bind_eq_some_iff.mp hF
            refine z_callVI (w' := (wC cyI cyZ a σ)) (As := [.int x2]) (rest := [.int v23]) ⟨hx, hb, hml, hown, hts⟩ (c_X2_thanOf l D cyI cyZ a A σ x2 _ e27) (cwV 1 hts (gd_V mw_633 mw_634 mw_635 mw_71 mw_636) rfl rfl rfl (by decide +kernel) ⟨Nat.le_of_ble_eq_true rfl, Nat.le_of_ble_eq_true rfl⟩) hK hN hP hD hS 2 17 rfl rfl gC_17 rfl hl.1 rfl (Nat.le_of_ble_eq_true rfl) dX1_seekRows_131 ⟨Nat.zero_le _, Nat.zero_le _⟩ (fun H locs hP hD hS => ?_)
            refine lv_aload_n hx hb dX1_seekRows_134 rfl (lv_at hl 2 rfl) ?_
            refine lv_iload_n hx hb dX1_seekRows_135 rfl (lv_at hl 3 rfl) ?_
            obtain ⟨v28, e29, hF⟩ := Option.bind_eq_some_iff.mp hF
            refine z_callVI (w' := (wC cyI cyZ a σ)) (As := [.int x2]) (rest := [.int v26, .int v23]) ⟨hx, hb, hml, hown, hts⟩ (c_X2_numberOf l D cyI cyZ a A σ x2 _ e29) (cwV 1 hts (gd_V mw_637 mw_638 mw_639 mw_71 mw_640) rfl rfl rfl (by decide +kernel) ⟨Nat.le_of_ble_eq_true rfl, Nat.le_of_ble_eq_true rfl⟩) hK hN hP hD hS 2 17 rfl rfl gC_17 rfl hl.1 rfl (Nat.le_of_ble_eq_true rfl) dX1_seekRows_136 ⟨Nat.zero_le _, Nat.zero_le _⟩ (fun H locs hP hD hS => ?_)
            refine z_callSI (w' := (wC cyI cyZ a σ)) (As := [.int v23, .int v26, .int v28]) (rest := []) ⟨hx, hb, hml, hown, hts⟩ (c_X1_holds l D cyI cyZ A (wC cyI cyZ a σ) v23 v26 v28 _ rfl) (va_cwS 3 hts (gd_S mw_641 mw_642 mw_30 mw_643) rfl rfl rfl (by decide +kernel) ⟨Nat.le_of_ble_eq_true rfl, Nat.le_of_ble_eq_true rfl⟩) hK hN hP hD hS rfl hl.1 rfl (Nat.le_of_ble_eq_true rfl) dX1_seekRows_139 ⟨Nat.zero_le _, Nat.zero_le _⟩ (fun H locs hP hD hS => ?_)
            refine lv_if_eq (tgt := 154) hx hb dX1_seekRows_142 (by decide) (fun c30 => ?_) (fun c30 => ?_)
            · rw [if_pos c30] at hF
              refine lv_iinc (v := (x8 + (1 : Int32))) (lv' := [(8, .int (x8 + (1 : Int32))), (9, .int v23), (0, .ref (a 27)), (1, .ref (a 17)), (2, .int x2), (3, .int x3), (4, .int x4), (5, .int x5), (6, .int x6), (7, .int x7)]) hx hb dX1_seekRows_154 hl (k := 9) rfl rfl (by decide) rfl (fun ls hl => ?_)
              refine lv_goto (tgt := 48) hx hb dX1_seekRows_157 (by decide) ?_
              cases hF
              exact ih _ _ _ _ _ _ hgo (Or.inr (⟨rfl, _, _, _, _, _, _, _, rfl, lv_sub hl [2, 3, 4, 5, 6, 7, 8, 9, 0] rfl⟩)) hP hD hS
            · rw [if_neg c30] at hF
              refine lv_iload hx hb dX1_seekRows_145 (lv_at hl 8 rfl) ?_
              refine lv_iconst (v := (1 : Int32)) hx hb dX1_seekRows_147 (by decide) ?_
              refine lv_iload hx hb dX1_seekRows_148 (lv_at hl 9 rfl) ?_
              refine lv_ishl hx hb dX1_seekRows_150 ?_
              refine lv_ior hx hb dX1_seekRows_151 ?_
              refine lv_istore (lv' := [(7, .int (x7 ||| ((1 : Int32) <<< (x8 &&& 31)))), (9, .int v23), (0, .ref (a 27)), (1, .ref (a 17)), (2, .int x2), (3, .int x3), (4, .int x4), (5, .int x5), (6, .int x6), (8, .int x8)]) hx hb dX1_seekRows_152 hl (by decide) rfl (fun ls hl => ?_)
              refine lv_iinc (v := (x8 + (1 : Int32))) (lv' := [(8, .int (x8 + (1 : Int32))), (7, .int (x7 ||| ((1 : Int32) <<< (x8 &&& 31)))), (9, .int v23), (0, .ref (a 27)), (1, .ref (a 17)), (2, .int x2), (3, .int x3), (4, .int x4), (5, .int x5), (6, .int x6)]) hx hb dX1_seekRows_154 hl (k := 9) rfl rfl (by decide) rfl (fun ls hl => ?_)
              refine lv_goto (tgt := 48) hx hb dX1_seekRows_157 (by decide) ?_
              cases hF
              exact ih _ _ _ _ _ _ hgo (Or.inr (⟨rfl, _, _, _, _, _, _, _, rfl, lv_sub hl [3, 4, 5, 6, 7, 8, 9, 1, 0] rfl⟩)) hP hD hS
theorem wk_X1_seekRows (σ : Mem) (hC : CX p c cX1_seekRows meth (some .int) s m args yX1_seekRows.cls 10 D cyI cyZ) (hq : extR q = some r) : ∀ (n : Nat), ∀ (pc : Nat) (x : Unit) (vs : List Int32) (ls : Array Slot) (H : Heap) (locs : List Loc), goL (B_X1_seekRows σ) n pc x vs = some q → SH_X1_seekRows a ls pc vs → va_P D vwCl (wC cyI cyZ a σ) H → va_D A (wC cyI cyZ a σ) → va_S A s.heap H locs → W p l e (headSpec ts_X1_seekRows ({ frames := 1, cells := 0, slots := 0, locals := 23 } : Room)).room s m args below meth c H locs 0 0 (MQ below (QcI D cyI cyZ A (wC cyI cyZ a σ) r) args s 0 0 A) (F0 m pc ls []) := by
  intro n
  induction n with
  | zero => intro pc x vs ls H locs h; exact absurd h (by simp [goL])
  | succ n ih =>
    intro pc x vs ls H locs hgo hsh hP hD hS
    rcases hsh with ⟨rfl, x2, rfl, hl⟩ | ⟨rfl, x2, x3, x4, x5, x6, x7, x8, rfl, hl⟩
    · exact wl_X1_seekRows_0 σ hC hq n ih x2 ls H locs hgo hl hP hD hS
    · exact wl_X1_seekRows_48 σ hC hq n ih x2 x3 x4 x5 x6 x7 x8 ls H locs hgo hl hP hD hS
end
theorem c_X1_seekRows (l : Launch) (D : va_G) (cyI cyZ : ClassId) (a : Nat → Nat) (A : Nat → Prop) (σ : Mem) (x2 : Int32) (r : Int32) (hF : F_X1_seekRows σ x2 = some r) : CtI l yX1_seekRows ts_X1_seekRows ({ frames := 1, cells := 0, slots := 0, locals := 23 } : Room) [.ref (a 27), .ref (a 17), .int x2] D cyI cyZ A (wC cyI cyZ a σ) (wC cyI cyZ a σ) r := by
  refine CtI.of (cc := cX1_seekRows) (maxL := 10) (ret := (some .int)) (by decide) rfl (Nat.le_of_ble_eq_true rfl) ?_
  intro p e s m below meth c ls hC hP hD hl
  obtain ⟨q, hq, hr1⟩ := Option.bind_eq_some_iff.mp hF
  obtain ⟨n, hn⟩ := finL_some hq
  exact wk_X1_seekRows σ hC hr1 n 0 _ _ ls _ _ hn (Or.inl ⟨rfl, _, rfl, hl⟩) hP hD va_S.rf
abbrev ts_X1_rowsHolding : List Cond := .code yX1_rowsHolding cX1_rowsHolding 4 (some .int) :: wsL_law
set_option maxHeartbeats 4000000 in
set_option maxRecDepth 100000 in
theorem c_X1_rowsHolding (l : Launch) (D : va_G) (cyI cyZ : ClassId) (a : Nat → Nat) (A : Nat → Prop) (σ : Mem) (x2 : Int32) (r : Int32) (σ' : Mem) (hF : F_X1_rowsHolding σ x2 = some (r, σ')) : CtI l yX1_rowsHolding ts_X1_rowsHolding ({ frames := 2, cells := 0, slots := 0, locals := 52 } : Room) [.ref (a 27), .ref (a 17), .int x2] D cyI cyZ A (wC cyI cyZ a σ) (wC cyI cyZ a σ') r := by
  refine CtI.of (cc := cX1_rowsHolding) (maxL := 4) (ret := (some .int)) (by decide) rfl (Nat.le_of_ble_eq_true rfl) ?_
  intro p e s m below meth c ls hC hP hD hl
  obtain ⟨hx, hb, hr, hml, hown, hts, hK, hN, hlocks⟩ := hC
  have hown : s.vm.findClass RX1 = some m.cls := hown
  have hS : va_S A s.heap s.heap [] := va_S.rf
  have hl : lv_has ls 4 [(0, .ref (a 27)), (1, .ref (a 17)), (2, .int x2)] := hl
  unfold F_X1_rowsHolding at hF
  refine lv_aload_n hx hb dX1_rowsHolding_0 rfl (lv_at hl 1 rfl) ?_
  refine lv_iload_n hx hb dX1_rowsHolding_1 rfl (lv_at hl 2 rfl) ?_
  obtain ⟨v1, e2, hF⟩ := Option.bind_eq_some_iff.mp hF
  refine z_callVI (w' := (wC cyI cyZ a σ)) (As := [.int x2]) (rest := []) ⟨hx, hb, hml, hown, hts⟩ (c_X2_originOf l D cyI cyZ a A σ x2 _ e2) (cwV 1 hts (gd_V mw_610 mw_611 mw_612 mw_71 mw_613) rfl rfl rfl (by decide +kernel) ⟨Nat.le_of_ble_eq_true rfl, Nat.le_of_ble_eq_true rfl⟩) hK hN hP hD hS 2 17 rfl rfl gC_17 rfl hl.1 rfl (Nat.le_of_ble_eq_true rfl) dX1_rowsHolding_2 ⟨Nat.zero_le _, Nat.zero_le _⟩ (fun H locs hP hD hS => ?_)
  refine lv_iconst (v := (4 : Int32)) hx hb dX1_rowsHolding_5 (by decide) ?_
  refine lv_imul hx hb dX1_rowsHolding_6 ?_
  refine lv_aload_n hx hb dX1_rowsHolding_7 rfl (lv_at hl 1 rfl) ?_
  refine z_callVI (w' := (wC cyI cyZ a σ)) (As := []) (rest := [.int (v1 * (4 : Int32))]) ⟨hx, hb, hml, hown, hts⟩ (c_X2_from l D cyI cyZ a A σ  _ rfl) (cwV 0 hts (gd_V mw_603 mw_588 mw_589 mw_71 mw_590) rfl rfl rfl (by decide +kernel) ⟨Nat.le_of_ble_eq_true rfl, Nat.le_of_ble_eq_true rfl⟩) hK hN hP hD hS 2 17 rfl rfl gC_17 rfl hl.1 rfl (Nat.le_of_ble_eq_true rfl) dX1_rowsHolding_8 ⟨Nat.zero_le _, Nat.zero_le _⟩ (fun H locs hP hD hS => ?_)
  refine lv_iadd hx hb dX1_rowsHolding_11 ?_
  refine lv_istore_n (lv' := [(3, .int ((v1 * (4 : Int32)) + (F_X2_from σ))), (0, .ref (a 27)), (1, .ref (a 17)), (2, .int x2)]) hx hb dX1_rowsHolding_12 rfl hl (by decide) rfl (fun ls hl => ?_)
  refine lv_aload_n hx hb dX1_rowsHolding_13 rfl (lv_at hl 1 rfl) ?_
  refine va_get (D := D) (ci := 1) (v := .ref (a 28)) (C := RX1) (T := TX1) (N := 2) hx hb hts inlX1 hown hK hP 27 gC_27 rfl 1 (by decide) (hts _ mw_93) (fun _ h9 => h9) rfl dX1_rowsHolding_14 ?_
  refine lv_iload_n hx hb dX1_rowsHolding_17 rfl (lv_at hl 0 rfl) ?_
  obtain ⟨v3, e4, hF⟩ := Option.bind_eq_some_iff.mp hF
  refine z_ild hx hb hK hP 28 gC_28 e4 dX1_rowsHolding_18 ?_
  refine lv_iconst (v := (-1 : Int32)) hx hb dX1_rowsHolding_19 (by decide) ?_
  refine lv_icmp_ne (tgt := 35) hx hb dX1_rowsHolding_20 (by decide) (fun c5 => ?_) (fun c5 => ?_)
  · rw [if_neg c5] at hF
    refine lv_aload_n hx hb dX1_rowsHolding_35 rfl (lv_at hl 1 rfl) ?_
    refine va_get (D := D) (ci := 1) (v := .ref (a 28)) (C := RX1) (T := TX1) (N := 2) hx hb hts inlX1 hown hK hP 27 gC_27 rfl 1 (by decide) (hts _ mw_93) (fun _ h9 => h9) rfl dX1_rowsHolding_36 ?_
    refine lv_iload_n hx hb dX1_rowsHolding_39 rfl (lv_at hl 0 rfl) ?_
    obtain ⟨v6, e7, hF⟩ := Option.bind_eq_some_iff.mp hF
    refine z_ild hx hb hK hP 28 gC_28 e7 dX1_rowsHolding_40 ?_
    cases hF
    exact z_iret hx hb hr hlocks hK hP hD hS dX1_rowsHolding_41
  · rw [if_pos c5] at hF
    refine lv_aload_n hx hb dX1_rowsHolding_23 rfl (lv_at hl 1 rfl) ?_
    refine va_get (D := D) (ci := 1) (v := .ref (a 28)) (C := RX1) (T := TX1) (N := 2) hx hb hts inlX1 hown hK hP 27 gC_27 rfl 1 (by decide) (hts _ mw_93) (fun _ h9 => h9) rfl dX1_rowsHolding_24 ?_
    refine lv_iload_n hx hb dX1_rowsHolding_27 rfl (lv_at hl 0 rfl) ?_
    refine lv_aload_n hx hb dX1_rowsHolding_28 rfl (lv_at hl 1 rfl) ?_
    refine lv_aload_n hx hb dX1_rowsHolding_29 rfl (lv_at hl 2 rfl) ?_
    refine lv_iload_n hx hb dX1_rowsHolding_30 rfl (lv_at hl 3 rfl) ?_
    obtain ⟨v8, e9, hF⟩ := Option.bind_eq_some_iff.mp hF
    refine z_callVI (w' := (wC cyI cyZ a σ)) (As := [.ref (a 17), .int x2]) (rest := [.int ((v1 * (4 : Int32)) + (F_X2_from σ)), .ref (a 28)]) ⟨hx, hb, hml, hown, hts⟩ (c_X1_seekRows l D cyI cyZ a A σ x2 _ e9) (cwV 2 hts (gd_V mw_614 mw_615 mw_616 mw_30 mw_617) rfl rfl rfl (by decide +kernel) ⟨Nat.le_of_ble_eq_true rfl, Nat.le_of_ble_eq_true rfl⟩) hK hN hP hD hS 1 27 rfl rfl gC_27 rfl hl.1 rfl (Nat.le_of_ble_eq_true rfl) dX1_rowsHolding_31 ⟨Nat.zero_le _, Nat.zero_le _⟩ (fun H locs hP hD hS => ?_)
    obtain ⟨σ10, e11, hF⟩ := Option.bind_eq_some_iff.mp hF
    refine z_ist (wC cyI cyZ a) hx hb hK hP hD hS 28 gC_28 sC_28 e11 dX1_rowsHolding_34 (fun H locs hP hD hS => ?_)
    refine lv_aload_n hx hb dX1_rowsHolding_35 rfl (lv_at hl 1 rfl) ?_
    refine va_get (D := D) (ci := 1) (v := .ref (a 28)) (C := RX1) (T := TX1) (N := 2) hx hb hts inlX1 hown hK hP 27 gC_27 rfl 1 (by decide) (hts _ mw_93) (fun _ h9 => h9) rfl dX1_rowsHolding_36 ?_
    refine lv_iload_n hx hb dX1_rowsHolding_39 rfl (lv_at hl 0 rfl) ?_
    obtain ⟨v12, e13, hF⟩ := Option.bind_eq_some_iff.mp hF
    refine z_ild hx hb hK hP 28 gC_28 e13 dX1_rowsHolding_40 ?_
    cases hF
    exact z_iret hx hb hr hlocks hK hP hD hS dX1_rowsHolding_41
abbrev ts_X1_rowsFound : List Cond := .code yX1_rowsFound cX1_rowsFound 4 (some .int) :: wsL_law
def SH_X1_rowsFound (a : Nat → Nat) (ls : Array Slot) (pc : Nat) (vs : List Int32) : Prop := (pc = 0 ∧ vs = [] ∧ lv_has ls 4 [(0, .ref (a 27)), (1, .ref (a 17))]) ∨ (pc = 18 ∧ ∃ x2 x3 : Int32, vs = [x2, x3] ∧ lv_has ls 4 [(0, .ref (a 27)), (1, .ref (a 17)), (2, .int x2), (3, .int x3)])
section
variable {p : Program} {l : Launch} {e : Env} {s : State} {m : MethodId} {args : Array Value} {below : List Frame} {meth : Method} {c : Code} {D : va_G} {A : Nat → Prop} {a : Nat → Nat} {cyI cyZ : ClassId} {r : Int32} {σ' : Mem} {q : Mem × List Int32}
set_option maxHeartbeats 4000000 in
set_option maxRecDepth 100000 in
theorem wl_X1_rowsFound_0 (σ : Mem) (hC : CX p c cX1_rowsFound meth (some .int) s m args yX1_rowsFound.cls 4 D cyI cyZ) (hq : extM q = some (r, σ')) (n : Nat) (ih : ∀ (pc : Nat) (x : Mem) (vs : List Int32) (ls : Array Slot) (H : Heap) (locs : List Loc), goL B_X1_rowsFound n pc x vs = some q → SH_X1_rowsFound a ls pc vs → va_P D vwCl (wC cyI cyZ a x) H → va_D A (wC cyI cyZ a x) → va_S A s.heap H locs → W p l e (headSpec ts_X1_rowsFound ({ frames := 3, cells := 0, slots := 0, locals := 75 } : Room)).room s m args below meth c H locs 0 0 (MQ below (QcI D cyI cyZ A (wC cyI cyZ a σ') r) args s 0 0 A) (F0 m pc ls [])) (ls : Array Slot) (H : Heap) (locs : List Loc) (hgo : goL B_X1_rowsFound (n + 1) 0 σ [] = some q) (hl : lv_has ls 4 [(0, .ref (a 27)), (1, .ref (a 17))]) (hP : va_P D vwCl (wC cyI cyZ a σ) H) (hD : va_D A (wC cyI cyZ a σ)) (hS : va_S A s.heap H locs) : W p l e (headSpec ts_X1_rowsFound ({ frames := 3, cells := 0, slots := 0, locals := 75 } : Room)).room s m args below meth c H locs 0 0 (MQ below (QcI D cyI cyZ A (wC cyI cyZ a σ') r) args s 0 0 A) (F0 m 0 ls []) := by
  obtain ⟨hx, hb, hr, hml, hown, hts, hK, hN, hlocks⟩ := hC
  have hown : s.vm.findClass RX1 = some m.cls := hown
  obtain ⟨yy, hF, hgo⟩ := goL_step (by decide) hgo
  have hF : B_X1_rowsFound_0 σ  = some yy := hF
  unfold B_X1_rowsFound_0 at hF
  refine lv_iconst (v := (1 : Int32)) hx hb dX1_rowsFound_0 (by decide) ?_
  refine lv_aload_n hx hb dX1_rowsFound_1 rfl (lv_at hl 0 rfl) ?_
  refine va_get (D := D) (ci := 1) (v := .ref (a 1)) (C := RX1) (T := TX1) (N := 2) hx hb hts inlX1 hown hK hP 27 gC_27 rfl 0 (by decide) (hts _ mw_94) (fun _ h9 => h9) rfl dX1_rowsFound_2 ?_
  refine lv_aload_n hx hb dX1_rowsFound_5 rfl (lv_at hl 1 rfl) ?_
  refine z_callVI (w' := (wC cyI cyZ a σ)) (As := []) (rest := [.ref (a 1), .int (1 : Int32)]) ⟨hx, hb, hml, hown, hts⟩ (c_X2_from l D cyI cyZ a A σ  _ rfl) (cwV 0 hts (gd_V mw_603 mw_588 mw_589 mw_71 mw_590) rfl rfl rfl (by decide +kernel) ⟨Nat.le_of_ble_eq_true rfl, Nat.le_of_ble_eq_true rfl⟩) hK hN hP hD hS 2 17 rfl rfl gC_17 rfl hl.1 rfl (Nat.le_of_ble_eq_true rfl) dX1_rowsFound_6 ⟨Nat.zero_le _, Nat.zero_le _⟩ (fun H locs hP hD hS => ?_)
  obtain ⟨v1, e2, hF⟩ := Option.bind_eq_some_iff.mp hF
  refine z_callVI (w' := (wC cyI cyZ a σ)) (As := [.int (F_X2_from σ)]) (rest := [.int (1 : Int32)]) ⟨hx, hb, hml, hown, hts⟩ (c_X6_rowsOf l D cyI cyZ a A σ (F_X2_from σ) _ e2) (cwV 1 hts (gd_V mw_604 mw_173 mw_174 mw_14 mw_175) rfl rfl rfl (by decide +kernel) ⟨Nat.le_of_ble_eq_true rfl, Nat.le_of_ble_eq_true rfl⟩) hK hN hP hD hS 6 1 rfl rfl gC_1 rfl hl.1 rfl (Nat.le_of_ble_eq_true rfl) dX1_rowsFound_9 ⟨Nat.zero_le _, Nat.zero_le _⟩ (fun H locs hP hD hS => ?_)
  refine lv_ishl hx hb dX1_rowsFound_12 ?_
  refine lv_iconst (v := (1 : Int32)) hx hb dX1_rowsFound_13 (by decide) ?_
  refine lv_isub hx hb dX1_rowsFound_14 ?_
  obtain ⟨y3, e4, hF⟩ := Option.bind_eq_some_iff.mp hF
  refine z_top e4 ?_
  refine lv_istore_n (lv' := [(2, .int y3), (0, .ref (a 27)), (1, .ref (a 17))]) hx hb dX1_rowsFound_15 rfl hl (by decide) rfl (fun ls hl => ?_)
  refine lv_iconst (v := (0 : Int32)) hx hb dX1_rowsFound_16 (by decide) ?_
  refine lv_istore_n (lv' := [(3, .int (0 : Int32)), (2, .int y3), (0, .ref (a 27)), (1, .ref (a 17))]) hx hb dX1_rowsFound_17 rfl hl (by decide) rfl (fun ls hl => ?_)
  cases hF
  exact ih _ _ _ _ _ _ hgo (Or.inr (⟨rfl, _, _, rfl, lv_sub hl [2, 3, 1, 0] rfl⟩)) hP hD hS
set_option maxHeartbeats 4000000 in
set_option maxRecDepth 100000 in
theorem wl_X1_rowsFound_18 (σ : Mem) (hC : CX p c cX1_rowsFound meth (some .int) s m args yX1_rowsFound.cls 4 D cyI cyZ) (hq : extM q = some (r, σ')) (n : Nat) (ih : ∀ (pc : Nat) (x : Mem) (vs : List Int32) (ls : Array Slot) (H : Heap) (locs : List Loc), goL B_X1_rowsFound n pc x vs = some q → SH_X1_rowsFound a ls pc vs → va_P D vwCl (wC cyI cyZ a x) H → va_D A (wC cyI cyZ a x) → va_S A s.heap H locs → W p l e (headSpec ts_X1_rowsFound ({ frames := 3, cells := 0, slots := 0, locals := 75 } : Room)).room s m args below meth c H locs 0 0 (MQ below (QcI D cyI cyZ A (wC cyI cyZ a σ') r) args s 0 0 A) (F0 m pc ls [])) (x2 : Int32) (x3 : Int32) (ls : Array Slot) (H : Heap) (locs : List Loc) (hgo : goL B_X1_rowsFound (n + 1) 18 σ [x2, x3] = some q) (hl : lv_has ls 4 [(0, .ref (a 27)), (1, .ref (a 17)), (2, .int x2), (3, .int x3)]) (hP : va_P D vwCl (wC cyI cyZ a σ) H) (hD : va_D A (wC cyI cyZ a σ)) (hS : va_S A s.heap H locs) : W p l e (headSpec ts_X1_rowsFound ({ frames := 3, cells := 0, slots := 0, locals := 75 } : Room)).room s m args below meth c H locs 0 0 (MQ below (QcI D cyI cyZ A (wC cyI cyZ a σ') r) args s 0 0 A) (F0 m 18 ls []) := by
  obtain ⟨hx, hb, hr, hml, hown, hts, hK, hN, hlocks⟩ := hC
  have hown : s.vm.findClass RX1 = some m.cls := hown
  obtain ⟨yy, hF, hgo⟩ := goL_step (by decide) hgo
  have hF : B_X1_rowsFound_18 σ x2 x3 = some yy := hF
  unfold B_X1_rowsFound_18 at hF
  refine lv_iload_n hx hb dX1_rowsFound_18 rfl (lv_at hl 3 rfl) ?_
  refine lv_aload_n hx hb dX1_rowsFound_19 rfl (lv_at hl 1 rfl) ?_
  refine z_callVI (w' := (wC cyI cyZ a σ)) (As := []) (rest := [.int x3]) ⟨hx, hb, hml, hown, hts⟩ (c_X2_tests l D cyI cyZ a A σ  _ rfl) (cwV 0 hts (gd_V mw_605 mw_596 mw_597 mw_71 mw_598) rfl rfl rfl (by decide +kernel) ⟨Nat.le_of_ble_eq_true rfl, Nat.le_of_ble_eq_true rfl⟩) hK hN hP hD hS 2 17 rfl rfl gC_17 rfl hl.1 rfl (Nat.le_of_ble_eq_true rfl) dX1_rowsFound_20 ⟨Nat.zero_le _, Nat.zero_le _⟩ (fun H locs hP hD hS => ?_)
  refine lv_icmp_ge (tgt := 41) hx hb dX1_rowsFound_23 (by decide) (fun c1 => ?_) (fun c1 => ?_)
  · rw [if_pos c1] at hF
    refine lv_iload_n hx hb dX1_rowsFound_41 rfl (lv_at hl 2 rfl) ?_
    cases hF
    obtain ⟨rfl, rfl⟩ := extM_ret hq (goL_ret hgo)
    exact z_iret hx hb hr hlocks hK hP hD hS dX1_rowsFound_42
  · rw [if_neg c1] at hF
    refine lv_iload_n hx hb dX1_rowsFound_26 rfl (lv_at hl 2 rfl) ?_
    refine lv_aload_n hx hb dX1_rowsFound_27 rfl (lv_at hl 0 rfl) ?_
    refine lv_aload_n hx hb dX1_rowsFound_28 rfl (lv_at hl 1 rfl) ?_
    refine lv_iload_n hx hb dX1_rowsFound_29 rfl (lv_at hl 3 rfl) ?_
    obtain ⟨p2, e3, hF⟩ := Option.bind_eq_some_iff.mp hF
    refine z_callVI (w' := (wC cyI cyZ a p2.2)) (As := [.ref (a 17), .int x3]) (rest := [.int x2]) ⟨hx, hb, hml, hown, hts⟩ (c_X1_rowsHolding l D cyI cyZ a A σ x3 p2.1 p2.2 e3) (cwV 2 hts (gd_V mw_606 mw_607 mw_608 mw_30 mw_609) rfl rfl rfl (by decide +kernel) ⟨Nat.le_of_ble_eq_true rfl, Nat.le_of_ble_eq_true rfl⟩) hK hN hP hD hS 1 27 rfl rfl gC_27 rfl hl.1 rfl (Nat.le_of_ble_eq_true rfl) dX1_rowsFound_30 ⟨Nat.zero_le _, Nat.zero_le _⟩ (fun H locs hP hD hS => ?_)
    refine lv_iand hx hb dX1_rowsFound_33 ?_
    refine lv_istore_n (lv' := [(2, .int (x2 &&& p2.1)), (0, .ref (a 27)), (1, .ref (a 17)), (3, .int x3)]) hx hb dX1_rowsFound_34 rfl hl (by decide) rfl (fun ls hl => ?_)
    refine lv_iinc (v := (x3 + (1 : Int32))) (lv' := [(3, .int (x3 + (1 : Int32))), (2, .int (x2 &&& p2.1)), (0, .ref (a 27)), (1, .ref (a 17))]) hx hb dX1_rowsFound_35 hl (k := 3) rfl rfl (by decide) rfl (fun ls hl => ?_)
    refine lv_goto (tgt := 18) hx hb dX1_rowsFound_38 (by decide) ?_
    cases hF
    exact ih _ _ _ _ _ _ hgo (Or.inr (⟨rfl, _, _, rfl, lv_sub hl [2, 3, 1, 0] rfl⟩)) hP hD hS
theorem wk_X1_rowsFound (hC : CX p c cX1_rowsFound meth (some .int) s m args yX1_rowsFound.cls 4 D cyI cyZ) (hq : extM q = some (r, σ')) : ∀ (n : Nat), ∀ (pc : Nat) (x : Mem) (vs : List Int32) (ls : Array Slot) (H : Heap) (locs : List Loc), goL B_X1_rowsFound n pc x vs = some q → SH_X1_rowsFound a ls pc vs → va_P D vwCl (wC cyI cyZ a x) H → va_D A (wC cyI cyZ a x) → va_S A s.heap H locs → W p l e (headSpec ts_X1_rowsFound ({ frames := 3, cells := 0, slots := 0, locals := 75 } : Room)).room s m args below meth c H locs 0 0 (MQ below (QcI D cyI cyZ A (wC cyI cyZ a σ') r) args s 0 0 A) (F0 m pc ls []) := by
  intro n
  induction n with
  | zero => intro pc x vs ls H locs h; exact absurd h (by simp [goL])
  | succ n ih =>
    intro pc x vs ls H locs hgo hsh hP hD hS
    rcases hsh with ⟨rfl, rfl, hl⟩ | ⟨rfl, x2, x3, rfl, hl⟩
    · exact wl_X1_rowsFound_0 x hC hq n ih  ls H locs hgo hl hP hD hS
    · exact wl_X1_rowsFound_18 x hC hq n ih x2 x3 ls H locs hgo hl hP hD hS
end
theorem c_X1_rowsFound (l : Launch) (D : va_G) (cyI cyZ : ClassId) (a : Nat → Nat) (A : Nat → Prop) (σ : Mem) (r : Int32) (σ' : Mem) (hF : F_X1_rowsFound σ  = some (r, σ')) : CtI l yX1_rowsFound ts_X1_rowsFound ({ frames := 3, cells := 0, slots := 0, locals := 75 } : Room) [.ref (a 27), .ref (a 17)] D cyI cyZ A (wC cyI cyZ a σ) (wC cyI cyZ a σ') r := by
  refine CtI.of (cc := cX1_rowsFound) (maxL := 4) (ret := (some .int)) (by decide) rfl (Nat.le_of_ble_eq_true rfl) ?_
  intro p e s m below meth c ls hC hP hD hl
  obtain ⟨q, hq, hr1⟩ := Option.bind_eq_some_iff.mp hF
  obtain ⟨n, hn⟩ := finL_some hq
  exact wk_X1_rowsFound hC hr1 n 0 _ _ ls _ _ hn (Or.inl ⟨rfl, rfl, hl⟩) hP hD va_S.rf
abbrev ts_X2_doing : List Cond := .code yX2_doing cX2_doing 1 (some .int) :: wsL_law
set_option maxHeartbeats 4000000 in
set_option maxRecDepth 100000 in
theorem c_X2_doing (l : Launch) (D : va_G) (cyI cyZ : ClassId) (a : Nat → Nat) (A : Nat → Prop) (σ : Mem) (r : Int32) (hF : F_X2_doing σ  = r) : CtI l yX2_doing ts_X2_doing ({ frames := 0, cells := 0, slots := 0, locals := 0 } : Room) [.ref (a 17)] D cyI cyZ A (wC cyI cyZ a σ) (wC cyI cyZ a σ) r := by
  refine CtI.of (cc := cX2_doing) (maxL := 1) (ret := (some .int)) (by decide) rfl (Nat.le_of_ble_eq_true rfl) ?_
  intro p e s m below meth c ls hC hP hD hl
  obtain ⟨hx, hb, hr, hml, hown, hts, hK, hN, hlocks⟩ := hC
  have hown : s.vm.findClass RX2 = some m.cls := hown
  have hS : va_S A s.heap s.heap [] := va_S.rf
  have hl : lv_has ls 1 [(0, .ref (a 17))] := hl
  unfold F_X2_doing at hF
  refine lv_aload_n hx hb dX2_doing_0 rfl (lv_at hl 0 rfl) ?_
  refine va_get (D := D) (ci := 2) (v := .int (σ 17 1)) (C := RX2) (T := TX2) (N := 13) hx hb hts inlX2 hown hK hP 17 gC_17 rfl 1 (by decide) (hts _ mw_457) (fun _ h9 => h9) rfl dX2_doing_1 ?_
  subst hF
  exact z_iret hx hb hr hlocks hK hP hD hS dX2_doing_4
abbrev ts_J6_bitCount_0f7a4 : List Cond := .code yJ6_bitCount_0f7a4 cJ6_bitCount_0f7a4 1 (some .int) :: wsL_law
set_option maxHeartbeats 4000000 in
set_option maxRecDepth 100000 in
theorem c_J6_bitCount_0f7a4 (l : Launch) (D : va_G) (cyI cyZ : ClassId) (A : Nat → Prop) (w : va_W) (x0 : Int32) (r : Int32) (hF : F_J6_bitCount_0f7a4 x0 = r) : CtI l yJ6_bitCount_0f7a4 ts_J6_bitCount_0f7a4 ({ frames := 0, cells := 0, slots := 0, locals := 0 } : Room) [.int x0] D cyI cyZ A w w r := by
  refine CtI.of (cc := cJ6_bitCount_0f7a4) (maxL := 1) (ret := (some .int)) (by decide) rfl (Nat.le_of_ble_eq_true rfl) ?_
  intro p e s m below meth c ls hC hP hD hl
  obtain ⟨hx, hb, hr, hml, hown, hts, hK, hN, hlocks⟩ := hC
  have hown : s.vm.findClass RJ6 = some m.cls := hown
  have hS : va_S A s.heap s.heap [] := va_S.rf
  have hl : lv_has ls 1 [(0, .int x0)] := hl
  unfold F_J6_bitCount_0f7a4 at hF
  refine lv_iload_n hx hb dJ6_bitCount_0f7a4_0 rfl (lv_at hl 0 rfl) ?_
  refine lv_iload_n hx hb dJ6_bitCount_0f7a4_1 rfl (lv_at hl 0 rfl) ?_
  refine lv_iconst (v := (1 : Int32)) hx hb dJ6_bitCount_0f7a4_2 (by decide) ?_
  refine lv_iushr hx hb dJ6_bitCount_0f7a4_3 rfl ?_
  refine lv_ldcw (v := (1431655765 : Int32)) hx hb hown (hts _ mw_648) dJ6_bitCount_0f7a4_4 ?_
  refine lv_iand hx hb dJ6_bitCount_0f7a4_7 ?_
  refine lv_isub hx hb dJ6_bitCount_0f7a4_8 ?_
  refine lv_istore_n (lv' := [(0, .int (x0 - (((Int32.toUInt32 x0 >>> (Int32.toUInt32 (1 : Int32) &&& Int32.toUInt32 31)).toInt32) &&& (1431655765 : Int32))))]) hx hb dJ6_bitCount_0f7a4_9 rfl hl (by decide) rfl (fun ls hl => ?_)
  refine lv_iload_n hx hb dJ6_bitCount_0f7a4_10 rfl (lv_at hl 0 rfl) ?_
  refine lv_ldcw (v := (858993459 : Int32)) hx hb hown (hts _ mw_649) dJ6_bitCount_0f7a4_11 ?_
  refine lv_iand hx hb dJ6_bitCount_0f7a4_14 ?_
  refine lv_iload_n hx hb dJ6_bitCount_0f7a4_15 rfl (lv_at hl 0 rfl) ?_
  refine lv_iconst (v := (2 : Int32)) hx hb dJ6_bitCount_0f7a4_16 (by decide) ?_
  refine lv_iushr hx hb dJ6_bitCount_0f7a4_17 rfl ?_
  refine lv_ldcw (v := (858993459 : Int32)) hx hb hown (hts _ mw_649) dJ6_bitCount_0f7a4_18 ?_
  refine lv_iand hx hb dJ6_bitCount_0f7a4_21 ?_
  refine lv_iadd hx hb dJ6_bitCount_0f7a4_22 ?_
  refine lv_istore_n (lv' := [(0, .int (((x0 - (((Int32.toUInt32 x0 >>> (Int32.toUInt32 (1 : Int32) &&& Int32.toUInt32 31)).toInt32) &&& (1431655765 : Int32))) &&& (858993459 : Int32)) + (((Int32.toUInt32 (x0 - (((Int32.toUInt32 x0 >>> (Int32.toUInt32 (1 : Int32) &&& Int32.toUInt32 31)).toInt32) &&& (1431655765 : Int32))) >>> (Int32.toUInt32 (2 : Int32) &&& Int32.toUInt32 31)).toInt32) &&& (858993459 : Int32))))]) hx hb dJ6_bitCount_0f7a4_23 rfl hl (by decide) rfl (fun ls hl => ?_)
  refine lv_iload_n hx hb dJ6_bitCount_0f7a4_24 rfl (lv_at hl 0 rfl) ?_
  refine lv_iload_n hx hb dJ6_bitCount_0f7a4_25 rfl (lv_at hl 0 rfl) ?_
  refine lv_iconst (v := (4 : Int32)) hx hb dJ6_bitCount_0f7a4_26 (by decide) ?_
  refine lv_iushr hx hb dJ6_bitCount_0f7a4_27 rfl ?_
  refine lv_iadd hx hb dJ6_bitCount_0f7a4_28 ?_
  refine lv_ldcw (v := (252645135 : Int32)) hx hb hown (hts _ mw_650) dJ6_bitCount_0f7a4_29 ?_
  refine lv_iand hx hb dJ6_bitCount_0f7a4_32 ?_
  refine lv_istore_n (lv' := [(0, .int (((((x0 - (((Int32.toUInt32 x0 >>> (Int32.toUInt32 (1 : Int32) &&& Int32.toUInt32 31)).toInt32) &&& (1431655765 : Int32))) &&& (858993459 : Int32)) + (((Int32.toUInt32 (x0 - (((Int32.toUInt32 x0 >>> (Int32.toUInt32 (1 : Int32) &&& Int32.toUInt32 31)).toInt32) &&& (1431655765 : Int32))) >>> (Int32.toUInt32 (2 : Int32) &&& Int32.toUInt32 31)).toInt32) &&& (858993459 : Int32))) + ((Int32.toUInt32 (((x0 - (((Int32.toUInt32 x0 >>> (Int32.toUInt32 (1 : Int32) &&& Int32.toUInt32 31)).toInt32) &&& (1431655765 : Int32))) &&& (858993459 : Int32)) + (((Int32.toUInt32 (x0 - (((Int32.toUInt32 x0 >>> (Int32.toUInt32 (1 : Int32) &&& Int32.toUInt32 31)).toInt32) &&& (1431655765 : Int32))) >>> (Int32.toUInt32 (2 : Int32) &&& Int32.toUInt32 31)).toInt32) &&& (858993459 : Int32))) >>> (Int32.toUInt32 (4 : Int32) &&& Int32.toUInt32 31)).toInt32)) &&& (252645135 : Int32)))]) hx hb dJ6_bitCount_0f7a4_33 rfl hl (by decide) rfl (fun ls hl => ?_)
  refine lv_iload_n hx hb dJ6_bitCount_0f7a4_34 rfl (lv_at hl 0 rfl) ?_
  refine lv_iload_n hx hb dJ6_bitCount_0f7a4_35 rfl (lv_at hl 0 rfl) ?_
  refine lv_bipush (v := (8 : Int32)) hx hb dJ6_bitCount_0f7a4_36 (by decide) ?_
  refine lv_iushr hx hb dJ6_bitCount_0f7a4_38 rfl ?_
  refine lv_iadd hx hb dJ6_bitCount_0f7a4_39 ?_
  refine lv_istore_n (lv' := [(0, .int ((((((x0 - (((Int32.toUInt32 x0 >>> (Int32.toUInt32 (1 : Int32) &&& Int32.toUInt32 31)).toInt32) &&& (1431655765 : Int32))) &&& (858993459 : Int32)) + (((Int32.toUInt32 (x0 - (((Int32.toUInt32 x0 >>> (Int32.toUInt32 (1 : Int32) &&& Int32.toUInt32 31)).toInt32) &&& (1431655765 : Int32))) >>> (Int32.toUInt32 (2 : Int32) &&& Int32.toUInt32 31)).toInt32) &&& (858993459 : Int32))) + ((Int32.toUInt32 (((x0 - (((Int32.toUInt32 x0 >>> (Int32.toUInt32 (1 : Int32) &&& Int32.toUInt32 31)).toInt32) &&& (1431655765 : Int32))) &&& (858993459 : Int32)) + (((Int32.toUInt32 (x0 - (((Int32.toUInt32 x0 >>> (Int32.toUInt32 (1 : Int32) &&& Int32.toUInt32 31)).toInt32) &&& (1431655765 : Int32))) >>> (Int32.toUInt32 (2 : Int32) &&& Int32.toUInt32 31)).toInt32) &&& (858993459 : Int32))) >>> (Int32.toUInt32 (4 : Int32) &&& Int32.toUInt32 31)).toInt32)) &&& (252645135 : Int32)) + ((Int32.toUInt32 (((((x0 - (((Int32.toUInt32 x0 >>> (Int32.toUInt32 (1 : Int32) &&& Int32.toUInt32 31)).toInt32) &&& (1431655765 : Int32))) &&& (858993459 : Int32)) + (((Int32.toUInt32 (x0 - (((Int32.toUInt32 x0 >>> (Int32.toUInt32 (1 : Int32) &&& Int32.toUInt32 31)).toInt32) &&& (1431655765 : Int32))) >>> (Int32.toUInt32 (2 : Int32) &&& Int32.toUInt32 31)).toInt32) &&& (858993459 : Int32))) + ((Int32.toUInt32 (((x0 - (((Int32.toUInt32 x0 >>> (Int32.toUInt32 (1 : Int32) &&& Int32.toUInt32 31)).toInt32) &&& (1431655765 : Int32))) &&& (858993459 : Int32)) + (((Int32.toUInt32 (x0 - (((Int32.toUInt32 x0 >>> (Int32.toUInt32 (1 : Int32) &&& Int32.toUInt32 31)).toInt32) &&& (1431655765 : Int32))) >>> (Int32.toUInt32 (2 : Int32) &&& Int32.toUInt32 31)).toInt32) &&& (858993459 : Int32))) >>> (Int32.toUInt32 (4 : Int32) &&& Int32.toUInt32 31)).toInt32)) &&& (252645135 : Int32)) >>> (Int32.toUInt32 (8 : Int32) &&& Int32.toUInt32 31)).toInt32)))]) hx hb dJ6_bitCount_0f7a4_40 rfl hl (by decide) rfl (fun ls hl => ?_)
  refine lv_iload_n hx hb dJ6_bitCount_0f7a4_41 rfl (lv_at hl 0 rfl) ?_
  refine lv_iload_n hx hb dJ6_bitCount_0f7a4_42 rfl (lv_at hl 0 rfl) ?_
  refine lv_bipush (v := (16 : Int32)) hx hb dJ6_bitCount_0f7a4_43 (by decide) ?_
  refine lv_iushr hx hb dJ6_bitCount_0f7a4_45 rfl ?_
  refine lv_iadd hx hb dJ6_bitCount_0f7a4_46 ?_
  refine lv_istore_n (lv' := [(0, .int (((((((x0 - (((Int32.toUInt32 x0 >>> (Int32.toUInt32 (1 : Int32) &&& Int32.toUInt32 31)).toInt32) &&& (1431655765 : Int32))) &&& (858993459 : Int32)) + (((Int32.toUInt32 (x0 - (((Int32.toUInt32 x0 >>> (Int32.toUInt32 (1 : Int32) &&& Int32.toUInt32 31)).toInt32) &&& (1431655765 : Int32))) >>> (Int32.toUInt32 (2 : Int32) &&& Int32.toUInt32 31)).toInt32) &&& (858993459 : Int32))) + ((Int32.toUInt32 (((x0 - (((Int32.toUInt32 x0 >>> (Int32.toUInt32 (1 : Int32) &&& Int32.toUInt32 31)).toInt32) &&& (1431655765 : Int32))) &&& (858993459 : Int32)) + (((Int32.toUInt32 (x0 - (((Int32.toUInt32 x0 >>> (Int32.toUInt32 (1 : Int32) &&& Int32.toUInt32 31)).toInt32) &&& (1431655765 : Int32))) >>> (Int32.toUInt32 (2 : Int32) &&& Int32.toUInt32 31)).toInt32) &&& (858993459 : Int32))) >>> (Int32.toUInt32 (4 : Int32) &&& Int32.toUInt32 31)).toInt32)) &&& (252645135 : Int32)) + ((Int32.toUInt32 (((((x0 - (((Int32.toUInt32 x0 >>> (Int32.toUInt32 (1 : Int32) &&& Int32.toUInt32 31)).toInt32) &&& (1431655765 : Int32))) &&& (858993459 : Int32)) + (((Int32.toUInt32 (x0 - (((Int32.toUInt32 x0 >>> (Int32.toUInt32 (1 : Int32) &&& Int32.toUInt32 31)).toInt32) &&& (1431655765 : Int32))) >>> (Int32.toUInt32 (2 : Int32) &&& Int32.toUInt32 31)).toInt32) &&& (858993459 : Int32))) + ((Int32.toUInt32 (((x0 - (((Int32.toUInt32 x0 >>> (Int32.toUInt32 (1 : Int32) &&& Int32.toUInt32 31)).toInt32) &&& (1431655765 : Int32))) &&& (858993459 : Int32)) + (((Int32.toUInt32 (x0 - (((Int32.toUInt32 x0 >>> (Int32.toUInt32 (1 : Int32) &&& Int32.toUInt32 31)).toInt32) &&& (1431655765 : Int32))) >>> (Int32.toUInt32 (2 : Int32) &&& Int32.toUInt32 31)).toInt32) &&& (858993459 : Int32))) >>> (Int32.toUInt32 (4 : Int32) &&& Int32.toUInt32 31)).toInt32)) &&& (252645135 : Int32)) >>> (Int32.toUInt32 (8 : Int32) &&& Int32.toUInt32 31)).toInt32)) + ((Int32.toUInt32 ((((((x0 - (((Int32.toUInt32 x0 >>> (Int32.toUInt32 (1 : Int32) &&& Int32.toUInt32 31)).toInt32) &&& (1431655765 : Int32))) &&& (858993459 : Int32)) + (((Int32.toUInt32 (x0 - (((Int32.toUInt32 x0 >>> (Int32.toUInt32 (1 : Int32) &&& Int32.toUInt32 31)).toInt32) &&& (1431655765 : Int32))) >>> (Int32.toUInt32 (2 : Int32) &&& Int32.toUInt32 31)).toInt32) &&& (858993459 : Int32))) + ((Int32.toUInt32 (((x0 - (((Int32.toUInt32 x0 >>> (Int32.toUInt32 (1 : Int32) &&& Int32.toUInt32 31)).toInt32) &&& (1431655765 : Int32))) &&& (858993459 : Int32)) + (((Int32.toUInt32 (x0 - (((Int32.toUInt32 x0 >>> (Int32.toUInt32 (1 : Int32) &&& Int32.toUInt32 31)).toInt32) &&& (1431655765 : Int32))) >>> (Int32.toUInt32 (2 : Int32) &&& Int32.toUInt32 31)).toInt32) &&& (858993459 : Int32))) >>> (Int32.toUInt32 (4 : Int32) &&& Int32.toUInt32 31)).toInt32)) &&& (252645135 : Int32)) + ((Int32.toUInt32 (((((x0 - (((Int32.toUInt32 x0 >>> (Int32.toUInt32 (1 : Int32) &&& Int32.toUInt32 31)).toInt32) &&& (1431655765 : Int32))) &&& (858993459 : Int32)) + (((Int32.toUInt32 (x0 - (((Int32.toUInt32 x0 >>> (Int32.toUInt32 (1 : Int32) &&& Int32.toUInt32 31)).toInt32) &&& (1431655765 : Int32))) >>> (Int32.toUInt32 (2 : Int32) &&& Int32.toUInt32 31)).toInt32) &&& (858993459 : Int32))) + ((Int32.toUInt32 (((x0 - (((Int32.toUInt32 x0 >>> (Int32.toUInt32 (1 : Int32) &&& Int32.toUInt32 31)).toInt32) &&& (1431655765 : Int32))) &&& (858993459 : Int32)) + (((Int32.toUInt32 (x0 - (((Int32.toUInt32 x0 >>> (Int32.toUInt32 (1 : Int32) &&& Int32.toUInt32 31)).toInt32) &&& (1431655765 : Int32))) >>> (Int32.toUInt32 (2 : Int32) &&& Int32.toUInt32 31)).toInt32) &&& (858993459 : Int32))) >>> (Int32.toUInt32 (4 : Int32) &&& Int32.toUInt32 31)).toInt32)) &&& (252645135 : Int32)) >>> (Int32.toUInt32 (8 : Int32) &&& Int32.toUInt32 31)).toInt32)) >>> (Int32.toUInt32 (16 : Int32) &&& Int32.toUInt32 31)).toInt32)))]) hx hb dJ6_bitCount_0f7a4_47 rfl hl (by decide) rfl (fun ls hl => ?_)
  refine lv_iload_n hx hb dJ6_bitCount_0f7a4_48 rfl (lv_at hl 0 rfl) ?_
  refine lv_bipush (v := (63 : Int32)) hx hb dJ6_bitCount_0f7a4_49 (by decide) ?_
  refine lv_iand hx hb dJ6_bitCount_0f7a4_51 ?_
  subst hF
  exact z_iret hx hb hr hlocks hK hP hD hS dJ6_bitCount_0f7a4_52
abbrev ts_X8_holdsBit : List Cond := .code yX8_holdsBit cX8_holdsBit 2 (some .boolean) :: wsL_law
set_option maxHeartbeats 4000000 in
set_option maxRecDepth 100000 in
theorem c_X8_holdsBit (l : Launch) (D : va_G) (cyI cyZ : ClassId) (A : Nat → Prop) (w : va_W) (x0 : Int32) (x1 : Int32) (r : Int32) (hF : F_X8_holdsBit x0 x1 = r) : CtI l yX8_holdsBit ts_X8_holdsBit ({ frames := 0, cells := 0, slots := 0, locals := 0 } : Room) [.int x0, .int x1] D cyI cyZ A w w r := by
  refine CtI.of (cc := cX8_holdsBit) (maxL := 2) (ret := (some .boolean)) (by decide) rfl (Nat.le_of_ble_eq_true rfl) ?_
  intro p e s m below meth c ls hC hP hD hl
  obtain ⟨hx, hb, hr, hml, hown, hts, hK, hN, hlocks⟩ := hC
  have hown : s.vm.findClass RX8 = some m.cls := hown
  have hS : va_S A s.heap s.heap [] := va_S.rf
  have hl : lv_has ls 2 [(0, .int x0), (1, .int x1)] := hl
  unfold F_X8_holdsBit at hF
  refine lv_iload_n hx hb dX8_holdsBit_0 rfl (lv_at hl 0 rfl) ?_
  refine lv_iload_n hx hb dX8_holdsBit_1 rfl (lv_at hl 1 rfl) ?_
  refine lv_ishr hx hb dX8_holdsBit_2 ?_
  refine lv_iconst (v := (1 : Int32)) hx hb dX8_holdsBit_3 (by decide) ?_
  refine lv_iand hx hb dX8_holdsBit_4 ?_
  refine lv_if_eq (tgt := 12) hx hb dX8_holdsBit_5 (by decide) (fun c1 => ?_) (fun c1 => ?_)
  · rw [if_pos c1] at hF
    refine lv_iconst (v := (0 : Int32)) hx hb dX8_holdsBit_12 (by decide) ?_
    subst hF
    exact z_zret hx hb hr hlocks hK hP hD hS rfl dX8_holdsBit_13
  · rw [if_neg c1] at hF
    refine lv_iconst (v := (1 : Int32)) hx hb dX8_holdsBit_8 (by decide) ?_
    refine lv_goto (tgt := 13) hx hb dX8_holdsBit_9 (by decide) ?_
    subst hF
    exact z_zret hx hb hr hlocks hK hP hD hS rfl dX8_holdsBit_13
abbrev ts_X2_wanted : List Cond := .code yX2_wanted cX2_wanted 1 (some .int) :: wsL_law
set_option maxHeartbeats 4000000 in
set_option maxRecDepth 100000 in
theorem c_X2_wanted (l : Launch) (D : va_G) (cyI cyZ : ClassId) (a : Nat → Nat) (A : Nat → Prop) (σ : Mem) (r : Int32) (hF : F_X2_wanted σ  = r) : CtI l yX2_wanted ts_X2_wanted ({ frames := 0, cells := 0, slots := 0, locals := 0 } : Room) [.ref (a 17)] D cyI cyZ A (wC cyI cyZ a σ) (wC cyI cyZ a σ) r := by
  refine CtI.of (cc := cX2_wanted) (maxL := 1) (ret := (some .int)) (by decide) rfl (Nat.le_of_ble_eq_true rfl) ?_
  intro p e s m below meth c ls hC hP hD hl
  obtain ⟨hx, hb, hr, hml, hown, hts, hK, hN, hlocks⟩ := hC
  have hown : s.vm.findClass RX2 = some m.cls := hown
  have hS : va_S A s.heap s.heap [] := va_S.rf
  have hl : lv_has ls 1 [(0, .ref (a 17))] := hl
  unfold F_X2_wanted at hF
  refine lv_aload_n hx hb dX2_wanted_0 rfl (lv_at hl 0 rfl) ?_
  refine va_get (D := D) (ci := 2) (v := .int (σ 17 5)) (C := RX2) (T := TX2) (N := 13) hx hb hts inlX2 hown hK hP 17 gC_17 rfl 5 (by decide) (hts _ mw_461) (fun _ h9 => h9) rfl dX2_wanted_1 ?_
  subst hF
  exact z_iret hx hb hr hlocks hK hP hD hS dX2_wanted_4
abbrev ts_X1_joined : List Cond := .code yX1_joined cX1_joined 3 (some .int) :: wsL_law
set_option maxHeartbeats 4000000 in
set_option maxRecDepth 100000 in
theorem c_X1_joined (l : Launch) (D : va_G) (cyI cyZ : ClassId) (A : Nat → Prop) (w : va_W) (x0 : Int32) (x1 : Int32) (x2 : Int32) (r : Int32) (hF : F_X1_joined x0 x1 x2 = r) : CtI l yX1_joined ts_X1_joined ({ frames := 1, cells := 0, slots := 0, locals := 21 } : Room) [.int x0, .int x1, .int x2] D cyI cyZ A w w r := by
  refine CtI.of (cc := cX1_joined) (maxL := 3) (ret := (some .int)) (by decide) rfl (Nat.le_of_ble_eq_true rfl) ?_
  intro p e s m below meth c ls hC hP hD hl
  obtain ⟨hx, hb, hr, hml, hown, hts, hK, hN, hlocks⟩ := hC
  have hown : s.vm.findClass RX1 = some m.cls := hown
  have hS : va_S A s.heap s.heap [] := va_S.rf
  have hl : lv_has ls 3 [(0, .int x0), (1, .int x1), (2, .int x2)] := hl
  unfold F_X1_joined at hF
  refine lv_iload_n hx hb dX1_joined_0 rfl (lv_at hl 0 rfl) ?_
  refine lv_iconst (v := (1 : Int32)) hx hb dX1_joined_1 (by decide) ?_
  refine lv_icmp_ne (tgt := 9) hx hb dX1_joined_2 (by decide) (fun c1 => ?_) (fun c1 => ?_)
  · rw [if_neg c1] at hF
    refine lv_iload_n hx hb dX1_joined_9 rfl (lv_at hl 1 rfl) ?_
    refine lv_ldc (v := (-1000000 : Int32)) hx hb hown (hts _ mw_618) dX1_joined_10 ?_
    refine lv_icmp_ne (tgt := 17) hx hb dX1_joined_12 (by decide) (fun c2 => ?_) (fun c2 => ?_)
    · rw [if_neg c2] at hF
      refine lv_iload_n hx hb dX1_joined_17 rfl (lv_at hl 0 rfl) ?_
      refine lv_iconst (v := (2 : Int32)) hx hb dX1_joined_18 (by decide) ?_
      refine lv_icmp_ne (tgt := 30) hx hb dX1_joined_19 (by decide) (fun c3 => ?_) (fun c3 => ?_)
      · rw [if_neg c3] at hF
        refine lv_iload_n hx hb dX1_joined_30 rfl (lv_at hl 1 rfl) ?_
        refine lv_iload_n hx hb dX1_joined_31 rfl (lv_at hl 2 rfl) ?_
        refine va_mmin hx hb (hml.trans hl.1.symm) hown (hts _ mw_704) (hts _ mw_705) (hts _ mw_702) (hts _ mw_706) (Nat.le_of_ble_eq_true rfl) (Nat.le_of_ble_eq_true rfl) (Nat.zero_le _) (Nat.zero_le _) dX1_joined_32 ?_
        subst hF
        exact z_iret hx hb hr hlocks hK hP hD hS dX1_joined_35
      · rw [if_pos c3] at hF
        refine lv_iload_n hx hb dX1_joined_22 rfl (lv_at hl 1 rfl) ?_
        refine lv_iload_n hx hb dX1_joined_23 rfl (lv_at hl 2 rfl) ?_
        refine va_mmax hx hb (hml.trans hl.1.symm) hown (hts _ mw_700) (hts _ mw_701) (hts _ mw_702) (hts _ mw_703) (Nat.le_of_ble_eq_true rfl) (Nat.le_of_ble_eq_true rfl) (Nat.zero_le _) (Nat.zero_le _) dX1_joined_24 ?_
        refine lv_goto (tgt := 35) hx hb dX1_joined_27 (by decide) ?_
        subst hF
        exact z_iret hx hb hr hlocks hK hP hD hS dX1_joined_35
    · rw [if_pos c2] at hF
      refine lv_iload_n hx hb dX1_joined_15 rfl (lv_at hl 2 rfl) ?_
      subst hF
      exact z_iret hx hb hr hlocks hK hP hD hS dX1_joined_16
  · rw [if_pos c1] at hF
    refine lv_iload_n hx hb dX1_joined_5 rfl (lv_at hl 1 rfl) ?_
    refine lv_iload_n hx hb dX1_joined_6 rfl (lv_at hl 2 rfl) ?_
    refine lv_iadd hx hb dX1_joined_7 ?_
    subst hF
    exact z_iret hx hb hr hlocks hK hP hD hS dX1_joined_8
