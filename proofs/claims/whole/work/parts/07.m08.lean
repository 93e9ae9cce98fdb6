-- X7_learn X8_table X8_rowsChanged X8_row X8_isValue X8_put X8_value X8_questionChanged X8_link X8_isWord
abbrev ts_X7_learn : List Cond := .code yX7_learn cX7_learn 7 (some .int) :: wsL_law
def SH_X7_learn (a : Nat → Nat) (ls : Array Slot) (pc : Nat) (vs : List Int32) : Prop := (pc = 0 ∧ ∃ x1 x2 : Int32, vs = [x1, x2] ∧ lv_has ls 7 [(0, .ref (a 6)), (1, .int x1), (2, .int x2)]) ∨ (pc = 5 ∧ ∃ x1 x2 x3 x4 : Int32, vs = [x1, x2, x3, x4] ∧ lv_has ls 7 [(0, .ref (a 6)), (1, .int x1), (2, .int x2), (3, .int x3), (4, .int x4)])
section
variable {p : Program} {l : Launch} {e : Env} {s : State} {m : MethodId} {args : Array Value} {below : List Frame} {meth : Method} {c : Code} {D : va_G} {A : Nat → Prop} {a : Nat → Nat} {cyI cyZ : ClassId} {r : Int32} {σ' : Mem} {q : Mem × List Int32}
set_option maxHeartbeats 4000000 in
set_option maxRecDepth 100000 in
theorem wl_X7_learn_0 (σ : Mem) (hC : CX p c cX7_learn meth (some .int) s m args yX7_learn.cls 7 D cyI cyZ) (hq : extM q = some (r, σ')) (n : Nat) (ih : ∀ (pc : Nat) (x : Mem) (vs : List Int32) (ls : Array Slot) (H : Heap) (locs : List Loc), goL B_X7_learn n pc x vs = some q → SH_X7_learn a ls pc vs → va_P D vwCl (wC cyI cyZ a x) H → va_D A (wC cyI cyZ a x) → va_S A s.heap H locs → W p l e (headSpec ts_X7_learn ({ frames := 1, cells := 0, slots := 0, locals := 22 } : Room)).room s m args below meth c H locs 0 0 (MQ below (QcI D cyI cyZ A (wC cyI cyZ a σ') r) args s 0 0 A) (F0 m pc ls [])) (x1 : Int32) (x2 : Int32) (ls : Array Slot) (H : Heap) (locs : List Loc) (hgo : goL B_X7_learn (n + 1) 0 σ [x1, x2] = some q) (hl : lv_has ls 7 [(0, .ref (a 6)), (1, .int x1), (2, .int x2)]) (hP : va_P D vwCl (wC cyI cyZ a σ) H) (hD : va_D A (wC cyI cyZ a σ)) (hS : va_S A s.heap H locs) : W p l e (headSpec ts_X7_learn ({ frames := 1, cells := 0, slots := 0, locals := 22 } : Room)).room s m args below meth c H locs 0 0 (MQ below (QcI D cyI cyZ A (wC cyI cyZ a σ') r) args s 0 0 A) (F0 m 0 ls []) := by
  obtain ⟨hx, hb, hr, hml, hown, hts, hK, hN, hlocks⟩ := hC
  have hown : s.vm.findClass RX7 = some m.cls := hown
  obtain ⟨yy, hF, hgo⟩ := goL_step (by decide) hgo
  have hF : B_X7_learn_0 σ x1 x2 = some yy := hF
  unfold B_X7_learn_0 at hF
  refine lv_iconst (v := (0 : Int32)) hx hb dX7_learn_0 (by decide) ?_
  refine lv_istore_n (lv' := [(3, .int (0 : Int32)), (0, .ref (a 6)), (1, .int x1), (2, .int x2)]) hx hb dX7_learn_1 rfl hl (by decide) rfl (fun ls hl => ?_)
  refine lv_iconst (v := (0 : Int32)) hx hb dX7_learn_2 (by decide) ?_
  refine lv_istore (lv' := [(4, .int (0 : Int32)), (3, .int (0 : Int32)), (0, .ref (a 6)), (1, .int x1), (2, .int x2)]) hx hb dX7_learn_3 hl (by decide) rfl (fun ls hl => ?_)
  cases hF
  exact ih _ _ _ _ _ _ hgo (Or.inr (⟨rfl, _, _, _, _, rfl, lv_sub hl [2, 3, 4, 1, 0] rfl⟩)) hP hD hS
set_option maxHeartbeats 4000000 in
set_option maxRecDepth 100000 in
theorem wl_X7_learn_5 (σ : Mem) (hC : CX p c cX7_learn meth (some .int) s m args yX7_learn.cls 7 D cyI cyZ) (hq : extM q = some (r, σ')) (n : Nat) (ih : ∀ (pc : Nat) (x : Mem) (vs : List Int32) (ls : Array Slot) (H : Heap) (locs : List Loc), goL B_X7_learn n pc x vs = some q → SH_X7_learn a ls pc vs → va_P D vwCl (wC cyI cyZ a x) H → va_D A (wC cyI cyZ a x) → va_S A s.heap H locs → W p l e (headSpec ts_X7_learn ({ frames := 1, cells := 0, slots := 0, locals := 22 } : Room)).room s m args below meth c H locs 0 0 (MQ below (QcI D cyI cyZ A (wC cyI cyZ a σ') r) args s 0 0 A) (F0 m pc ls [])) (x1 : Int32) (x2 : Int32) (x3 : Int32) (x4 : Int32) (ls : Array Slot) (H : Heap) (locs : List Loc) (hgo : goL B_X7_learn (n + 1) 5 σ [x1, x2, x3, x4] = some q) (hl : lv_has ls 7 [(0, .ref (a 6)), (1, .int x1), (2, .int x2), (3, .int x3), (4, .int x4)]) (hP : va_P D vwCl (wC cyI cyZ a σ) H) (hD : va_D A (wC cyI cyZ a σ)) (hS : va_S A s.heap H locs) : W p l e (headSpec ts_X7_learn ({ frames := 1, cells := 0, slots := 0, locals := 22 } : Room)).room s m args below meth c H locs 0 0 (MQ below (QcI D cyI cyZ A (wC cyI cyZ a σ') r) args s 0 0 A) (F0 m 5 ls []) := by
  obtain ⟨hx, hb, hr, hml, hown, hts, hK, hN, hlocks⟩ := hC
  have hown : s.vm.findClass RX7 = some m.cls := hown
  obtain ⟨yy, hF, hgo⟩ := goL_step (by decide) hgo
  have hF : B_X7_learn_5 σ x1 x2 x3 x4 = some yy := hF
  unfold B_X7_learn_5 at hF
  refine lv_iload hx hb dX7_learn_5 (lv_at hl 4 rfl) ?_
  refine lv_aload_n hx hb dX7_learn_7 rfl (lv_at hl 0 rfl) ?_
  refine va_get (D := D) (ci := 7) (v := .ref (a 7)) (C := RX7) (T := TX7) (N := 7) hx hb hts inlX7 hown hK hP 6 gC_6 rfl 1 (by decide) (hts _ mw_53) (fun _ h9 => h9) rfl dX7_learn_8 ?_
  refine lv_iload_n hx hb dX7_learn_11 rfl (lv_at hl 1 rfl) ?_
  obtain ⟨v1, e2, hF⟩ := Option.bind_eq_some_iff.mp hF
  refine z_ild hx hb hK hP 7 gC_7 e2 dX7_learn_12 ?_
  refine lv_icmp_ge (tgt := 88) hx hb dX7_learn_13 (by decide) (fun c3 => ?_) (fun c3 => ?_)
  · rw [if_pos c3] at hF
    refine lv_iload_n hx hb dX7_learn_88 rfl (lv_at hl 3 rfl) ?_
    cases hF
    obtain ⟨rfl, rfl⟩ := extM_ret hq (goL_ret hgo)
    exact z_iret hx hb hr hlocks hK hP hD hS dX7_learn_89
  · rw [if_neg c3] at hF
    refine lv_aload_n hx hb dX7_learn_16 rfl (lv_at hl 0 rfl) ?_
    refine lv_iload_n hx hb dX7_learn_17 rfl (lv_at hl 1 rfl) ?_
    refine lv_iload hx hb dX7_learn_18 (lv_at hl 4 rfl) ?_
    refine z_callVI (w' := (wC cyI cyZ a σ)) (As := [.int x1, .int x4]) (rest := []) ⟨hx, hb, hml, hown, hts⟩ (c_X7_spotOf l D cyI cyZ a A σ x1 x4 _ rfl) (cwV 2 hts (gd_V mw_295 mw_296 mw_297 mw_18 mw_298) rfl rfl rfl (by decide +kernel) ⟨Nat.le_of_ble_eq_true rfl, Nat.le_of_ble_eq_true rfl⟩) hK hN hP hD hS 7 6 rfl rfl gC_6 rfl hl.1 rfl (Nat.le_of_ble_eq_true rfl) dX7_learn_20 ⟨Nat.zero_le _, Nat.zero_le _⟩ (fun H locs hP hD hS => ?_)
    refine lv_istore (lv' := [(5, .int (F_X7_spotOf σ x1 x4)), (0, .ref (a 6)), (1, .int x1), (2, .int x2), (3, .int x3), (4, .int x4)]) hx hb dX7_learn_23 hl (by decide) rfl (fun ls hl => ?_)
    refine lv_aload_n hx hb dX7_learn_25 rfl (lv_at hl 1 rfl) ?_
    refine va_get (D := D) (ci := 7) (v := .ref (a 12)) (C := RX7) (T := TX7) (N := 7) hx hb hts inlX7 hown hK hP 6 gC_6 rfl 6 (by decide) (hts _ mw_58) (fun _ h9 => h9) rfl dX7_learn_26 ?_
    refine lv_iload hx hb dX7_learn_29 (lv_at hl 0 rfl) ?_
    obtain ⟨v4, e5, hF⟩ := Option.bind_eq_some_iff.mp hF
    refine z_ild hx hb hK hP 12 gC_12 e5 dX7_learn_31 ?_
    refine lv_istore (lv' := [(6, .int v4), (5, .int (F_X7_spotOf σ x1 x4)), (0, .ref (a 6)), (1, .int x1), (2, .int x2), (3, .int x3), (4, .int x4)]) hx hb dX7_learn_32 hl (by decide) rfl (fun ls hl => ?_)
    refine lv_aload_n hx hb dX7_learn_34 rfl (lv_at hl 2 rfl) ?_
    refine va_get (D := D) (ci := 7) (v := .ref (a 12)) (C := RX7) (T := TX7) (N := 7) hx hb hts inlX7 hown hK hP 6 gC_6 rfl 6 (by decide) (hts _ mw_58) (fun _ h9 => h9) rfl dX7_learn_35 ?_
    refine lv_iload hx hb dX7_learn_38 (lv_at hl 1 rfl) ?_
    refine lv_iload hx hb dX7_learn_40 (lv_at hl 6 rfl) ?_
    refine lv_iload_n hx hb dX7_learn_42 rfl (lv_at hl 4 rfl) ?_
    refine lv_icmp_ne (tgt := 57) hx hb dX7_learn_43 (by decide) (fun c6 => ?_) (fun c6 => ?_)
    · rw [if_neg c6] at hF
      refine lv_iload hx hb dX7_learn_57 (lv_at hl 0 rfl) ?_
      refine lv_iconst (v := (1 : Int32)) hx hb dX7_learn_59 (by decide) ?_
      refine lv_iadd hx hb dX7_learn_60 ?_
      refine lv_bipush (v := (99 : Int32)) hx hb dX7_learn_61 (by decide) ?_
      refine va_mmin hx hb (hml.trans hl.1.symm) hown (hts _ mw_824) (hts _ mw_705) (hts _ mw_702) (hts _ mw_706) (Nat.le_of_ble_eq_true rfl) (Nat.le_of_ble_eq_true rfl) (Nat.zero_le _) (Nat.zero_le _) dX7_learn_63 ?_
      obtain ⟨σ7, e8, hF⟩ := Option.bind_eq_some_iff.mp hF
      refine z_ist (wC cyI cyZ a) hx hb hK hP hD hS 12 gC_12 sC_12 e8 dX7_learn_66 (fun H locs hP hD hS => ?_)
      refine lv_aload_n hx hb dX7_learn_67 rfl (lv_at hl 2 rfl) ?_
      refine va_get (D := D) (ci := 7) (v := .ref (a 12)) (C := RX7) (T := TX7) (N := 7) hx hb hts inlX7 hown hK hP 6 gC_6 rfl 6 (by decide) (hts _ mw_58) (fun _ h9 => h9) rfl dX7_learn_68 ?_
      refine lv_iload hx hb dX7_learn_71 (lv_at hl 1 rfl) ?_
      obtain ⟨v9, e10, hF⟩ := Option.bind_eq_some_iff.mp hF
      refine z_ild hx hb hK hP 12 gC_12 e10 dX7_learn_73 ?_
      refine lv_iload hx hb dX7_learn_74 (lv_at hl 0 rfl) ?_
      refine lv_icmp_eq (tgt := 82) hx hb dX7_learn_76 (by decide) (fun c11 => ?_) (fun c11 => ?_)
      · rw [if_pos c11] at hF
        refine lv_iinc (v := (x4 + (1 : Int32))) (lv' := [(4, .int (x4 + (1 : Int32))), (6, .int v4), (5, .int (F_X7_spotOf σ x1 x4)), (0, .ref (a 6)), (1, .int x1), (2, .int x2), (3, .int x3)]) hx hb dX7_learn_82 hl (k := 6) rfl rfl (by decide) rfl (fun ls hl => ?_)
        refine lv_goto (tgt := 5) hx hb dX7_learn_85 (by decide) ?_
        cases hF
        exact ih _ _ _ _ _ _ hgo (Or.inr (⟨rfl, _, _, _, _, rfl, lv_sub hl [3, 4, 5, 6, 0] rfl⟩)) hP hD hS
      · rw [if_neg c11] at hF
        refine lv_iinc (v := (x3 + (1 : Int32))) (lv' := [(3, .int (x3 + (1 : Int32))), (6, .int v4), (5, .int (F_X7_spotOf σ x1 x4)), (0, .ref (a 6)), (1, .int x1), (2, .int x2), (4, .int x4)]) hx hb dX7_learn_79 hl (k := 5) rfl rfl (by decide) rfl (fun ls hl => ?_)
        refine lv_iinc (v := (x4 + (1 : Int32))) (lv' := [(4, .int (x4 + (1 : Int32))), (3, .int (x3 + (1 : Int32))), (6, .int v4), (5, .int (F_X7_spotOf σ x1 x4)), (0, .ref (a 6)), (1, .int x1), (2, .int x2)]) hx hb dX7_learn_82 hl (k := 6) rfl rfl (by decide) rfl (fun ls hl => ?_)
        refine lv_goto (tgt := 5) hx hb dX7_learn_85 (by decide) ?_
        cases hF
        exact ih _ _ _ _ _ _ hgo (Or.inr (⟨rfl, _, _, _, _, rfl, lv_sub hl [4, 5, 6, 1, 0] rfl⟩)) hP hD hS
    · rw [if_pos c6] at hF
      refine lv_iload hx hb dX7_learn_46 (lv_at hl 0 rfl) ?_
      refine lv_iconst (v := (1 : Int32)) hx hb dX7_learn_48 (by decide) ?_
      refine lv_isub hx hb dX7_learn_49 ?_
      refine lv_iconst (v := (0 : Int32)) hx hb dX7_learn_50 (by decide) ?_
      refine va_mmax hx hb (hml.trans hl.1.symm) hown (hts _ mw_823) (hts _ mw_701) (hts _ mw_702) (hts _ mw_703) (Nat.le_of_ble_eq_true rfl) (Nat.le_of_ble_eq_true rfl) (Nat.zero_le _) (Nat.zero_le _) dX7_learn_51 ?_
      refine lv_goto (tgt := 66) hx hb dX7_learn_54 (by decide) ?_
      obtain ⟨σ12, e13, hF⟩ := Option.bind_eq_some_iff.mp hF
      refine z_ist (wC cyI cyZ a) hx hb hK hP hD hS 12 gC_12 sC_12 e13 dX7_learn_66 (fun H locs hP hD hS => ?_)
      refine lv_aload_n hx hb dX7_learn_67 rfl (lv_at hl 2 rfl) ?_
      refine va_get (D := D) (ci := 7) (v := .ref (a 12)) (C := RX7) (T := TX7) (N := 7) hx hb hts inlX7 hown hK hP 6 gC_6 rfl 6 (by decide) (hts _ mw_58) (fun _ h9 => h9) rfl dX7_learn_68 ?_
      refine lv_iload hx hb dX7_learn_71 (lv_at hl 1 rfl) ?_
      obtain ⟨v14, e15, hF⟩ := Option.bind_eq_some_iff.mp hF
      refine z_ild hx hb hK hP 12 gC_12 e15 dX7_learn_73 ?_
      refine lv_iload hx hb dX7_learn_74 (lv_at hl 0 rfl) ?_
      refine lv_icmp_eq (tgt := 82) hx hb dX7_learn_76 (by decide) (fun c16 => ?_) (fun c16 => ?_)
      · rw [if_pos c16] at hF
        refine lv_iinc (v := (x4 + (1 : Int32))) (lv' := [(4, .int (x4 + (1 : Int32))), (6, .int v4), (5, .int (F_X7_spotOf σ x1 x4)), (0, .ref (a 6)), (1, .int x1), (2, .int x2), (3, .int x3)]) hx hb dX7_learn_82 hl (k := 6) rfl rfl (by decide) rfl (fun ls hl => ?_)
        refine lv_goto (tgt := 5) hx hb dX7_learn_85 (by decide) ?_
        cases hF
        exact ih _ _ _ _ _ _ hgo (Or.inr (⟨rfl, _, _, _, _, rfl, lv_sub hl [3, 4, 5, 6, 0] rfl⟩)) hP hD hS
      · rw [if_neg c16] at hF
        refine lv_iinc (v := (x3 + (1 : Int32))) (lv' := [(3, .int (x3 + (1 : Int32))), (6, .int v4), (5, .int (F_X7_spotOf σ x1 x4)), (0, .ref (a 6)), (1, .int x1), (2, .int x2), (4, .int x4)]) hx hb dX7_learn_79 hl (k := 5) rfl rfl (by decide) rfl (fun ls hl => ?_)
        refine lv_iinc (v := (x4 + (1 : Int32))) (lv' := [(4, .int (x4 + (1 : Int32))), (3, .int (x3 + (1 : Int32))), (6, .int v4), (5, .int (F_X7_spotOf σ x1 x4)), (0, .ref (a 6)), (1, .int x1), (2, .int x2)]) hx hb dX7_learn_82 hl (k := 6) rfl rfl (by decide) rfl (fun ls hl => ?_)
        refine lv_goto (tgt := 5) hx hb dX7_learn_85 (by decide) ?_
        cases hF
        exact ih _ _ _ _ _ _ hgo (Or.inr (⟨rfl, _, _, _, _, rfl, lv_sub hl [4, 5, 6, 1, 0] rfl⟩)) hP hD hS
theorem wk_X7_learn (hC : CX p c cX7_learn meth (some .int) s m args yX7_learn.cls 7 D cyI cyZ) (hq : extM q = some (r, σ')) : ∀ (n : Nat), ∀ (pc : Nat) (x : Mem) (vs : List Int32) (ls : Array Slot) (H : Heap) (locs : List Loc), goL B_X7_learn n pc x vs = some q → SH_X7_learn a ls pc vs → va_P D vwCl (wC cyI cyZ a x) H → va_D A (wC cyI cyZ a x) → va_S A s.heap H locs → W p l e (headSpec ts_X7_learn ({ frames := 1, cells := 0, slots := 0, locals := 22 } : Room)).room s m args below meth c H locs 0 0 (MQ below (QcI D cyI cyZ A (wC cyI cyZ a σ') r) args s 0 0 A) (F0 m pc ls []) := by
  intro n
  induction n with
  | zero => intro pc x vs ls H locs h; exact absurd h (by simp [goL])
  | succ n ih =>
    intro pc x vs ls H locs hgo hsh hP hD hS
    rcases hsh with ⟨rfl, x1, x2, rfl, hl⟩ | ⟨rfl, x1, x2, x3, x4, rfl, hl⟩
    · exact wl_X7_learn_0 x hC hq n ih x1 x2 ls H locs hgo hl hP hD hS
    · exact wl_X7_learn_5 x hC hq n ih x1 x2 x3 x4 ls H locs hgo hl hP hD hS
end
theorem c_X7_learn (l : Launch) (D : va_G) (cyI cyZ : ClassId) (a : Nat → Nat) (A : Nat → Prop) (σ : Mem) (x1 : Int32) (x2 : Int32) (r : Int32) (σ' : Mem) (hF : F_X7_learn σ x1 x2 = some (r, σ')) : CtI l yX7_learn ts_X7_learn ({ frames := 1, cells := 0, slots := 0, locals := 22 } : Room) [.ref (a 6), .int x1, .int x2] D cyI cyZ A (wC cyI cyZ a σ) (wC cyI cyZ a σ') r := by
  refine CtI.of (cc := cX7_learn) (maxL := 7) (ret := (some .int)) (by decide) rfl (Nat.le_of_ble_eq_true rfl) ?_
  intro p e s m below meth c ls hC hP hD hl
  obtain ⟨q, hq, hr1⟩ := Option.bind_eq_some_iff.mp hF
  obtain ⟨n, hn⟩ := finL_some hq
  exact wk_X7_learn hC hr1 n 0 _ _ ls _ _ hn (Or.inl ⟨rfl, _, _, rfl, hl⟩) hP hD va_S.rf
abbrev ts_X8_table : List Cond := .code yX8_table cX8_table 2 (some .int) :: wsL_law
set_option maxHeartbeats 4000000 in
set_option maxRecDepth 100000 in
theorem c_X8_table (l : Launch) (D : va_G) (cyI cyZ : ClassId) (a : Nat → Nat) (A : Nat → Prop) (σ : Mem) (x1 : Int32) (r : Int32) (σ' : Mem) (hF : F_X8_table σ x1 = some (r, σ')) : CtI l yX8_table ts_X8_table ({ frames := 1, cells := 0, slots := 0, locals := 21 } : Room) [.ref (a 0), .int x1] D cyI cyZ A (wC cyI cyZ a σ) (wC cyI cyZ a σ') r := by
  refine CtI.of (cc := cX8_table) (maxL := 2) (ret := (some .int)) (by decide) rfl (Nat.le_of_ble_eq_true rfl) ?_
  intro p e s m below meth c ls hC hP hD hl
  obtain ⟨hx, hb, hr, hml, hown, hts, hK, hN, hlocks⟩ := hC
  have hown : s.vm.findClass RX8 = some m.cls := hown
  have hS : va_S A s.heap s.heap [] := va_S.rf
  have hl : lv_has ls 2 [(0, .ref (a 0)), (1, .int x1)] := hl
  unfold F_X8_table at hF
  refine lv_iload_n hx hb dX8_table_0 rfl (lv_at hl 1 rfl) ?_
  refine lv_iconst (v := (1 : Int32)) hx hb dX8_table_1 (by decide) ?_
  refine lv_icmp_lt (tgt := 10) hx hb dX8_table_2 (by decide) (fun c1 => ?_) (fun c1 => ?_)
  · rw [if_pos c1] at hF
    refine lv_iconst (v := (-1 : Int32)) hx hb dX8_table_10 (by decide) ?_
    cases hF
    exact z_iret hx hb hr hlocks hK hP hD hS dX8_table_11
  · rw [if_neg c1] at hF
    refine lv_iload_n hx hb dX8_table_5 rfl (lv_at hl 1 rfl) ?_
    refine lv_iconst (v := (4 : Int32)) hx hb dX8_table_6 (by decide) ?_
    refine lv_icmp_le (tgt := 12) hx hb dX8_table_7 (by decide) (fun c2 => ?_) (fun c2 => ?_)
    · rw [if_pos c2] at hF
      refine lv_aload_n hx hb dX8_table_12 rfl (lv_at hl 0 rfl) ?_
      refine va_get (D := D) (ci := 8) (v := .ref (a 1)) (C := RX8) (T := TX8) (N := 6) hx hb hts inlX8 hown hK hP 0 gC_0 rfl 0 (by decide) (hts _ mw_15) (fun _ h9 => h9) rfl dX8_table_13 ?_
      refine z_callVI (w' := (wC cyI cyZ a σ)) (As := []) (rest := []) ⟨hx, hb, hml, hown, hts⟩ (c_X6_size l D cyI cyZ a A σ  _ rfl) (cwV 0 hts (gd_V mw_147 mw_148 mw_149 mw_14 mw_150) rfl rfl rfl (by decide +kernel) ⟨Nat.le_of_ble_eq_true rfl, Nat.le_of_ble_eq_true rfl⟩) hK hN hP hD hS 6 1 rfl rfl gC_1 rfl hl.1 rfl (Nat.le_of_ble_eq_true rfl) dX8_table_16 ⟨Nat.zero_le _, Nat.zero_le _⟩ (fun H locs hP hD hS => ?_)
      refine lv_iconst (v := (4 : Int32)) hx hb dX8_table_19 (by decide) ?_
      refine lv_icmp_lt (tgt := 26) hx hb dX8_table_20 (by decide) (fun c3 => ?_) (fun c3 => ?_)
      · rw [if_pos c3] at hF
        refine lv_aload_n hx hb dX8_table_26 rfl (lv_at hl 0 rfl) ?_
        refine va_get (D := D) (ci := 8) (v := .ref (a 1)) (C := RX8) (T := TX8) (N := 6) hx hb hts inlX8 hown hK hP 0 gC_0 rfl 0 (by decide) (hts _ mw_15) (fun _ h9 => h9) rfl dX8_table_27 ?_
        refine lv_iload_n hx hb dX8_table_30 rfl (lv_at hl 1 rfl) ?_
        obtain ⟨p4, e5, hF⟩ := Option.bind_eq_some_iff.mp hF
        refine z_callVI (w' := (wC cyI cyZ a p4.2)) (As := [.int x1]) (rest := []) ⟨hx, hb, hml, hown, hts⟩ (c_X6_addTable l D cyI cyZ a A σ x1 p4.1 p4.2 e5) (cwV 1 hts (gd_V mw_152 mw_153 mw_154 mw_14 mw_155) rfl rfl rfl (by decide +kernel) ⟨Nat.le_of_ble_eq_true rfl, Nat.le_of_ble_eq_true rfl⟩) hK hN hP hD hS 6 1 rfl rfl gC_1 rfl hl.1 rfl (Nat.le_of_ble_eq_true rfl) dX8_table_31 ⟨Nat.zero_le _, Nat.zero_le _⟩ (fun H locs hP hD hS => ?_)
        cases hF
        exact z_iret hx hb hr hlocks hK hP hD hS dX8_table_34
      · rw [if_neg c3] at hF
        refine lv_bipush (v := (-2 : Int32)) hx hb dX8_table_23 (by decide) ?_
        cases hF
        exact z_iret hx hb hr hlocks hK hP hD hS dX8_table_25
    · rw [if_neg c2] at hF
      refine lv_iconst (v := (-1 : Int32)) hx hb dX8_table_10 (by decide) ?_
      cases hF
      exact z_iret hx hb hr hlocks hK hP hD hS dX8_table_11
abbrev ts_X8_rowsChanged : List Cond := .code yX8_rowsChanged cX8_rowsChanged 1 none :: wsL_law
set_option maxHeartbeats 4000000 in
set_option maxRecDepth 100000 in
theorem c_X8_rowsChanged (l : Launch) (D : va_G) (cyI cyZ : ClassId) (a : Nat → Nat) (A : Nat → Prop) (σ : Mem) (σ' : Mem) (hF : F_X8_rowsChanged σ  = some σ') : CtV l yX8_rowsChanged ts_X8_rowsChanged ({ frames := 2, cells := 0, slots := 0, locals := 43 } : Room) [.ref (a 0)] D cyI cyZ A (wC cyI cyZ a σ) (wC cyI cyZ a σ') := by
  refine CtV.of (cc := cX8_rowsChanged) (maxL := 1) (ret := none) (by decide) rfl (Nat.le_of_ble_eq_true rfl) ?_
  intro p e s m below meth c ls hC hP hD hl
  obtain ⟨hx, hb, hr, hml, hown, hts, hK, hN, hlocks⟩ := hC
  have hown : s.vm.findClass RX8 = some m.cls := hown
  have hS : va_S A s.heap s.heap [] := va_S.rf
  have hl : lv_has ls 1 [(0, .ref (a 0))] := hl
  unfold F_X8_rowsChanged at hF
  refine lv_aload_n hx hb dX8_rowsChanged_0 rfl (lv_at hl 0 rfl) ?_
  refine va_get (D := D) (ci := 8) (v := .ref (a 27)) (C := RX8) (T := TX8) (N := 6) hx hb hts inlX8 hown hK hP 0 gC_0 rfl 4 (by decide) (hts _ mw_31) (fun _ h9 => h9) rfl dX8_rowsChanged_1 ?_
  obtain ⟨σ1, e2, hF⟩ := Option.bind_eq_some_iff.mp hF
  refine z_callVV (w' := (wC cyI cyZ a σ1)) (As := []) (rest := []) ⟨hx, hb, hml, hown, hts⟩ (c_X1_spoil l D cyI cyZ a A σ  σ1 e2) (cwV 0 hts (gd_V mw_180 mw_181 mw_182 mw_30 mw_183) rfl rfl rfl (by decide +kernel) ⟨Nat.le_of_ble_eq_true rfl, Nat.le_of_ble_eq_true rfl⟩) hK hN hP hD hS 1 27 rfl rfl gC_27 rfl hl.1 rfl (Nat.le_of_ble_eq_true rfl) dX8_rowsChanged_4 ⟨Nat.zero_le _, Nat.zero_le _⟩ (fun H locs hP hD hS => ?_)
  refine lv_aload_n hx hb dX8_rowsChanged_7 rfl (lv_at hl 0 rfl) ?_
  refine va_get (D := D) (ci := 8) (v := .ref (a 29)) (C := RX8) (T := TX8) (N := 6) hx hb hts inlX8 hown hK hP 0 gC_0 rfl 5 (by decide) (hts _ mw_35) (fun _ h9 => h9) rfl dX8_rowsChanged_8 ?_
  obtain ⟨σ3, e4, hF⟩ := Option.bind_eq_some_iff.mp hF
  refine z_callVV (w' := (wC cyI cyZ a σ3)) (As := []) (rest := []) ⟨hx, hb, hml, hown, hts⟩ (c_X0_spoil l D cyI cyZ a A σ1  σ3 e4) (cwV 0 hts (gd_V mw_184 mw_185 mw_186 mw_34 mw_187) rfl rfl rfl (by decide +kernel) ⟨Nat.le_of_ble_eq_true rfl, Nat.le_of_ble_eq_true rfl⟩) hK hN hP hD hS 0 29 rfl rfl gC_29 rfl hl.1 rfl (Nat.le_of_ble_eq_true rfl) dX8_rowsChanged_11 ⟨Nat.zero_le _, Nat.zero_le _⟩ (fun H locs hP hD hS => ?_)
  cases hF
  exact z_vret hx hb hr hlocks hK hP hD hS dX8_rowsChanged_14
abbrev ts_X8_row : List Cond := .code yX8_row cX8_row 2 (some .int) :: wsL_law
set_option maxHeartbeats 4000000 in
set_option maxRecDepth 100000 in
theorem c_X8_row (l : Launch) (D : va_G) (cyI cyZ : ClassId) (a : Nat → Nat) (A : Nat → Prop) (σ : Mem) (x1 : Int32) (r : Int32) (σ' : Mem) (hF : F_X8_row σ x1 = some (r, σ')) : CtI l yX8_row ts_X8_row ({ frames := 3, cells := 0, slots := 0, locals := 63 } : Room) [.ref (a 0), .int x1] D cyI cyZ A (wC cyI cyZ a σ) (wC cyI cyZ a σ') r := by
  refine CtI.of (cc := cX8_row) (maxL := 2) (ret := (some .int)) (by decide) rfl (Nat.le_of_ble_eq_true rfl) ?_
  intro p e s m below meth c ls hC hP hD hl
  obtain ⟨hx, hb, hr, hml, hown, hts, hK, hN, hlocks⟩ := hC
  have hown : s.vm.findClass RX8 = some m.cls := hown
  have hS : va_S A s.heap s.heap [] := va_S.rf
  have hl : lv_has ls 2 [(0, .ref (a 0)), (1, .int x1)] := hl
  unfold F_X8_row at hF
  refine lv_aload_n hx hb dX8_row_0 rfl (lv_at hl 0 rfl) ?_
  refine va_get (D := D) (ci := 8) (v := .ref (a 1)) (C := RX8) (T := TX8) (N := 6) hx hb hts inlX8 hown hK hP 0 gC_0 rfl 0 (by decide) (hts _ mw_15) (fun _ h9 => h9) rfl dX8_row_1 ?_
  refine lv_iload_n hx hb dX8_row_4 rfl (lv_at hl 1 rfl) ?_
  refine z_callVI (w' := (wC cyI cyZ a σ)) (As := [.int x1]) (rest := []) ⟨hx, hb, hml, hown, hts⟩ (c_X6_hasTable l D cyI cyZ a A σ x1 _ rfl) (cwV 1 hts (gd_V mw_168 mw_169 mw_170 mw_14 mw_171) rfl rfl rfl (by decide +kernel) ⟨Nat.le_of_ble_eq_true rfl, Nat.le_of_ble_eq_true rfl⟩) hK hN hP hD hS 6 1 rfl rfl gC_1 rfl hl.1 rfl (Nat.le_of_ble_eq_true rfl) dX8_row_5 ⟨Nat.zero_le _, Nat.zero_le _⟩ (fun H locs hP hD hS => ?_)
  refine lv_if_ne (tgt := 13) hx hb dX8_row_8 (by decide) (fun c1 => ?_) (fun c1 => ?_)
  · rw [if_neg c1] at hF
    refine lv_aload_n hx hb dX8_row_13 rfl (lv_at hl 0 rfl) ?_
    refine va_get (D := D) (ci := 8) (v := .ref (a 1)) (C := RX8) (T := TX8) (N := 6) hx hb hts inlX8 hown hK hP 0 gC_0 rfl 0 (by decide) (hts _ mw_15) (fun _ h9 => h9) rfl dX8_row_14 ?_
    refine lv_iload_n hx hb dX8_row_17 rfl (lv_at hl 1 rfl) ?_
    obtain ⟨v2, e3, hF⟩ := Option.bind_eq_some_iff.mp hF
    refine z_callVI (w' := (wC cyI cyZ a σ)) (As := [.int x1]) (rest := []) ⟨hx, hb, hml, hown, hts⟩ (c_X6_rowsOf l D cyI cyZ a A σ x1 _ e3) (cwV 1 hts (gd_V mw_172 mw_173 mw_174 mw_14 mw_175) rfl rfl rfl (by decide +kernel) ⟨Nat.le_of_ble_eq_true rfl, Nat.le_of_ble_eq_true rfl⟩) hK hN hP hD hS 6 1 rfl rfl gC_1 rfl hl.1 rfl (Nat.le_of_ble_eq_true rfl) dX8_row_18 ⟨Nat.zero_le _, Nat.zero_le _⟩ (fun H locs hP hD hS => ?_)
    refine lv_bipush (v := (20 : Int32)) hx hb dX8_row_21 (by decide) ?_
    refine lv_icmp_lt (tgt := 29) hx hb dX8_row_23 (by decide) (fun c4 => ?_) (fun c4 => ?_)
    · rw [if_pos c4] at hF
      refine lv_aload_n hx hb dX8_row_29 rfl (lv_at hl 0 rfl) ?_
      obtain ⟨σ5, e6, hF⟩ := Option.bind_eq_some_iff.mp hF
      refine z_callVV (w' := (wC cyI cyZ a σ5)) (As := []) (rest := []) ⟨hx, hb, hml, hown, hts⟩ (c_X8_rowsChanged l D cyI cyZ a A σ  σ5 e6) (cwV 0 hts (gd_V mw_176 mw_177 mw_178 mw_2 mw_179) rfl rfl rfl (by decide +kernel) ⟨Nat.le_of_ble_eq_true rfl, Nat.le_of_ble_eq_true rfl⟩) hK hN hP hD hS 8 0 rfl rfl gC_0 rfl hl.1 rfl (Nat.le_of_ble_eq_true rfl) dX8_row_30 ⟨Nat.zero_le _, Nat.zero_le _⟩ (fun H locs hP hD hS => ?_)
      refine lv_aload_n hx hb dX8_row_33 rfl (lv_at hl 0 rfl) ?_
      refine va_get (D := D) (ci := 8) (v := .ref (a 1)) (C := RX8) (T := TX8) (N := 6) hx hb hts inlX8 hown hK hP 0 gC_0 rfl 0 (by decide) (hts _ mw_15) (fun _ h9 => h9) rfl dX8_row_34 ?_
      refine lv_iload_n hx hb dX8_row_37 rfl (lv_at hl 1 rfl) ?_
      obtain ⟨p7, e8, hF⟩ := Option.bind_eq_some_iff.mp hF
      refine z_callVI (w' := (wC cyI cyZ a p7.2)) (As := [.int x1]) (rest := []) ⟨hx, hb, hml, hown, hts⟩ (c_X6_addRow l D cyI cyZ a A σ5 x1 p7.1 p7.2 e8) (cwV 1 hts (gd_V mw_189 mw_190 mw_191 mw_14 mw_192) rfl rfl rfl (by decide +kernel) ⟨Nat.le_of_ble_eq_true rfl, Nat.le_of_ble_eq_true rfl⟩) hK hN hP hD hS 6 1 rfl rfl gC_1 rfl hl.1 rfl (Nat.le_of_ble_eq_true rfl) dX8_row_38 ⟨Nat.zero_le _, Nat.zero_le _⟩ (fun H locs hP hD hS => ?_)
      cases hF
      exact z_iret hx hb hr hlocks hK hP hD hS dX8_row_41
    · rw [if_neg c4] at hF
      refine lv_bipush (v := (-2 : Int32)) hx hb dX8_row_26 (by decide) ?_
      cases hF
      exact z_iret hx hb hr hlocks hK hP hD hS dX8_row_28
  · rw [if_pos c1] at hF
    refine lv_iconst (v := (-1 : Int32)) hx hb dX8_row_11 (by decide) ?_
    cases hF
    exact z_iret hx hb hr hlocks hK hP hD hS dX8_row_12
abbrev ts_X8_isValue : List Cond := .code yX8_isValue cX8_isValue 1 (some .boolean) :: wsL_law
set_option maxHeartbeats 4000000 in
set_option maxRecDepth 100000 in
theorem c_X8_isValue (l : Launch) (D : va_G) (cyI cyZ : ClassId) (A : Nat → Prop) (w : va_W) (x0 : Int32) (r : Int32) (hF : F_X8_isValue x0 = r) : CtI l yX8_isValue ts_X8_isValue ({ frames := 0, cells := 0, slots := 0, locals := 0 } : Room) [.int x0] D cyI cyZ A w w r := by
  refine CtI.of (cc := cX8_isValue) (maxL := 1) (ret := (some .boolean)) (by decide) rfl (Nat.le_of_ble_eq_true rfl) ?_
  intro p e s m below meth c ls hC hP hD hl
  obtain ⟨hx, hb, hr, hml, hown, hts, hK, hN, hlocks⟩ := hC
  have hown : s.vm.findClass RX8 = some m.cls := hown
  have hS : va_S A s.heap s.heap [] := va_S.rf
  have hl : lv_has ls 1 [(0, .int x0)] := hl
  unfold F_X8_isValue at hF
  refine lv_iload_n hx hb dX8_isValue_0 rfl (lv_at hl 0 rfl) ?_
  refine lv_sipush (v := (-999 : Int32)) hx hb dX8_isValue_1 (by decide) ?_
  refine lv_icmp_lt (tgt := 18) hx hb dX8_isValue_4 (by decide) (fun c1 => ?_) (fun c1 => ?_)
  · rw [if_pos c1] at hF
    refine lv_iconst (v := (0 : Int32)) hx hb dX8_isValue_18 (by decide) ?_
    subst hF
    exact z_zret hx hb hr hlocks hK hP hD hS rfl dX8_isValue_19
  · rw [if_neg c1] at hF
    refine lv_iload_n hx hb dX8_isValue_7 rfl (lv_at hl 0 rfl) ?_
    refine lv_sipush (v := (999 : Int32)) hx hb dX8_isValue_8 (by decide) ?_
    refine lv_icmp_gt (tgt := 18) hx hb dX8_isValue_11 (by decide) (fun c2 => ?_) (fun c2 => ?_)
    · rw [if_pos c2] at hF
      refine lv_iconst (v := (0 : Int32)) hx hb dX8_isValue_18 (by decide) ?_
      subst hF
      exact z_zret hx hb hr hlocks hK hP hD hS rfl dX8_isValue_19
    · rw [if_neg c2] at hF
      refine lv_iconst (v := (1 : Int32)) hx hb dX8_isValue_14 (by decide) ?_
      refine lv_goto (tgt := 19) hx hb dX8_isValue_15 (by decide) ?_
      subst hF
      exact z_zret hx hb hr hlocks hK hP hD hS rfl dX8_isValue_19
abbrev ts_X8_put : List Cond := .code yX8_put cX8_put 5 (some .int) :: wsL_law
set_option maxHeartbeats 4000000 in
set_option maxRecDepth 100000 in
theorem c_X8_put (l : Launch) (D : va_G) (cyI cyZ : ClassId) (a : Nat → Nat) (A : Nat → Prop) (σ : Mem) (x1 : Int32) (x2 : Int32) (x3 : Int32) (x4 : Int32) (r : Int32) (σ' : Mem) (hF : F_X8_put σ x1 x2 x3 x4 = some (r, σ')) : CtI l yX8_put ts_X8_put ({ frames := 3, cells := 0, slots := 0, locals := 66 } : Room) [.ref (a 0), .int x1, .int x2, .int x3, .int x4] D cyI cyZ A (wC cyI cyZ a σ) (wC cyI cyZ a σ') r := by
  refine CtI.of (cc := cX8_put) (maxL := 5) (ret := (some .int)) (by decide) rfl (Nat.le_of_ble_eq_true rfl) ?_
  intro p e s m below meth c ls hC hP hD hl
  obtain ⟨hx, hb, hr, hml, hown, hts, hK, hN, hlocks⟩ := hC
  have hown : s.vm.findClass RX8 = some m.cls := hown
  have hS : va_S A s.heap s.heap [] := va_S.rf
  have hl : lv_has ls 5 [(0, .ref (a 0)), (1, .int x1), (2, .int x2), (3, .int x3), (4, .int x4)] := hl
  unfold F_X8_put at hF
  refine lv_aload_n hx hb dX8_put_0 rfl (lv_at hl 0 rfl) ?_
  refine va_get (D := D) (ci := 8) (v := .ref (a 1)) (C := RX8) (T := TX8) (N := 6) hx hb hts inlX8 hown hK hP 0 gC_0 rfl 0 (by decide) (hts _ mw_15) (fun _ h9 => h9) rfl dX8_put_1 ?_
  refine lv_iload_n hx hb dX8_put_4 rfl (lv_at hl 1 rfl) ?_
  refine lv_iload_n hx hb dX8_put_5 rfl (lv_at hl 2 rfl) ?_
  refine lv_iload_n hx hb dX8_put_6 rfl (lv_at hl 3 rfl) ?_
  obtain ⟨v1, e2, hF⟩ := Option.bind_eq_some_iff.mp hF
  refine z_callVI (w' := (wC cyI cyZ a σ)) (As := [.int x1, .int x2, .int x3]) (rest := []) ⟨hx, hb, hml, hown, hts⟩ (c_X6_hasCell l D cyI cyZ a A σ x1 x2 x3 _ e2) (cwV 3 hts (gd_V mw_206 mw_207 mw_208 mw_14 mw_209) rfl rfl rfl (by decide +kernel) ⟨Nat.le_of_ble_eq_true rfl, Nat.le_of_ble_eq_true rfl⟩) hK hN hP hD hS 6 1 rfl rfl gC_1 rfl hl.1 rfl (Nat.le_of_ble_eq_true rfl) dX8_put_7 ⟨Nat.zero_le _, Nat.zero_le _⟩ (fun H locs hP hD hS => ?_)
  refine lv_if_eq (tgt := 29) hx hb dX8_put_10 (by decide) (fun c3 => ?_) (fun c3 => ?_)
  · rw [if_pos c3] at hF
    refine lv_iconst (v := (-1 : Int32)) hx hb dX8_put_29 (by decide) ?_
    cases hF
    exact z_iret hx hb hr hlocks hK hP hD hS dX8_put_30
  · rw [if_neg c3] at hF
    refine lv_iload hx hb dX8_put_13 (lv_at hl 4 rfl) ?_
    refine lv_sipush (v := (-1000 : Int32)) hx hb dX8_put_15 (by decide) ?_
    refine lv_icmp_eq (tgt := 31) hx hb dX8_put_18 (by decide) (fun c4 => ?_) (fun c4 => ?_)
    · rw [if_pos c4] at hF
      refine lv_aload_n hx hb dX8_put_31 rfl (lv_at hl 0 rfl) ?_
      obtain ⟨σ5, e6, hF⟩ := Option.bind_eq_some_iff.mp hF
      refine z_callVV (w' := (wC cyI cyZ a σ5)) (As := []) (rest := []) ⟨hx, hb, hml, hown, hts⟩ (c_X8_rowsChanged l D cyI cyZ a A σ  σ5 e6) (cwV 0 hts (gd_V mw_176 mw_177 mw_178 mw_2 mw_179) rfl rfl rfl (by decide +kernel) ⟨Nat.le_of_ble_eq_true rfl, Nat.le_of_ble_eq_true rfl⟩) hK hN hP hD hS 8 0 rfl rfl gC_0 rfl hl.1 rfl (Nat.le_of_ble_eq_true rfl) dX8_put_32 ⟨Nat.zero_le _, Nat.zero_le _⟩ (fun H locs hP hD hS => ?_)
      refine lv_aload_n hx hb dX8_put_35 rfl (lv_at hl 0 rfl) ?_
      refine va_get (D := D) (ci := 8) (v := .ref (a 1)) (C := RX8) (T := TX8) (N := 6) hx hb hts inlX8 hown hK hP 0 gC_0 rfl 0 (by decide) (hts _ mw_15) (fun _ h9 => h9) rfl dX8_put_36 ?_
      refine lv_iload_n hx hb dX8_put_39 rfl (lv_at hl 1 rfl) ?_
      refine lv_iload_n hx hb dX8_put_40 rfl (lv_at hl 2 rfl) ?_
      refine lv_iload_n hx hb dX8_put_41 rfl (lv_at hl 3 rfl) ?_
      refine lv_iload hx hb dX8_put_42 (lv_at hl 4 rfl) ?_
      refine lv_sipush (v := (-1000 : Int32)) hx hb dX8_put_44 (by decide) ?_
      refine lv_icmp_ne (tgt := 55) hx hb dX8_put_47 (by decide) (fun c7 => ?_) (fun c7 => ?_)
      · rw [if_neg c7] at hF
        refine lv_iload hx hb dX8_put_55 (lv_at hl 4 rfl) ?_
        obtain ⟨σ8, e9, hF⟩ := Option.bind_eq_some_iff.mp hF
        refine z_callVV (w' := (wC cyI cyZ a σ8)) (As := [.int x1, .int x2, .int x3, .int x4]) (rest := []) ⟨hx, hb, hml, hown, hts⟩ (c_X6_setCell l D cyI cyZ a A σ5 x1 x2 x3 x4 σ8 e9) (cwV 4 hts (gd_V mw_218 mw_219 mw_220 mw_14 mw_221) rfl rfl rfl (by decide +kernel) ⟨Nat.le_of_ble_eq_true rfl, Nat.le_of_ble_eq_true rfl⟩) hK hN hP hD hS 6 1 rfl rfl gC_1 rfl hl.1 rfl (Nat.le_of_ble_eq_true rfl) dX8_put_57 ⟨Nat.zero_le _, Nat.zero_le _⟩ (fun H locs hP hD hS => ?_)
        refine lv_iconst (v := (1 : Int32)) hx hb dX8_put_60 (by decide) ?_
        cases hF
        exact z_iret hx hb hr hlocks hK hP hD hS dX8_put_61
      · rw [if_pos c7] at hF
        refine lv_ldc (v := (-1000000 : Int32)) hx hb hown (hts _ mw_205) dX8_put_50 ?_
        refine lv_goto (tgt := 57) hx hb dX8_put_52 (by decide) ?_
        obtain ⟨σ10, e11, hF⟩ := Option.bind_eq_some_iff.mp hF
        refine z_callVV (w' := (wC cyI cyZ a σ10)) (As := [.int x1, .int x2, .int x3, .int (-1000000 : Int32)]) (rest := []) ⟨hx, hb, hml, hown, hts⟩ (c_X6_setCell l D cyI cyZ a A σ5 x1 x2 x3 (-1000000 : Int32) σ10 e11) (cwV 4 hts (gd_V mw_218 mw_219 mw_220 mw_14 mw_221) rfl rfl rfl (by decide +kernel) ⟨Nat.le_of_ble_eq_true rfl, Nat.le_of_ble_eq_true rfl⟩) hK hN hP hD hS 6 1 rfl rfl gC_1 rfl hl.1 rfl (Nat.le_of_ble_eq_true rfl) dX8_put_57 ⟨Nat.zero_le _, Nat.zero_le _⟩ (fun H locs hP hD hS => ?_)
        refine lv_iconst (v := (1 : Int32)) hx hb dX8_put_60 (by decide) ?_
        cases hF
        exact z_iret hx hb hr hlocks hK hP hD hS dX8_put_61
    · rw [if_neg c4] at hF
      refine lv_iload hx hb dX8_put_21 (lv_at hl 4 rfl) ?_
      refine z_callSI (w' := (wC cyI cyZ a σ)) (As := [.int x4]) (rest := []) ⟨hx, hb, hml, hown, hts⟩ (c_X8_isValue l D cyI cyZ A (wC cyI cyZ a σ) x4 _ rfl) (va_cwS 1 hts (gd_S mw_215 mw_216 mw_2 mw_217) rfl rfl rfl (by decide +kernel) ⟨Nat.le_of_ble_eq_true rfl, Nat.le_of_ble_eq_true rfl⟩) hK hN hP hD hS rfl hl.1 rfl (Nat.le_of_ble_eq_true rfl) dX8_put_23 ⟨Nat.zero_le _, Nat.zero_le _⟩ (fun H locs hP hD hS => ?_)
      refine lv_if_ne (tgt := 31) hx hb dX8_put_26 (by decide) (fun c12 => ?_) (fun c12 => ?_)
      · rw [if_neg c12] at hF
        refine lv_aload_n hx hb dX8_put_31 rfl (lv_at hl 0 rfl) ?_
        obtain ⟨σ13, e14, hF⟩ := Option.bind_eq_some_iff.mp hF
        refine z_callVV (w' := (wC cyI cyZ a σ13)) (As := []) (rest := []) ⟨hx, hb, hml, hown, hts⟩ (c_X8_rowsChanged l D cyI cyZ a A σ  σ13 e14) (cwV 0 hts (gd_V mw_176 mw_177 mw_178 mw_2 mw_179) rfl rfl rfl (by decide +kernel) ⟨Nat.le_of_ble_eq_true rfl, Nat.le_of_ble_eq_true rfl⟩) hK hN hP hD hS 8 0 rfl rfl gC_0 rfl hl.1 rfl (Nat.le_of_ble_eq_true rfl) dX8_put_32 ⟨Nat.zero_le _, Nat.zero_le _⟩ (fun H locs hP hD hS => ?_)
        refine lv_aload_n hx hb dX8_put_35 rfl (lv_at hl 0 rfl) ?_
        refine va_get (D := D) (ci := 8) (v := .ref (a 1)) (C := RX8) (T := TX8) (N := 6) hx hb hts inlX8 hown hK hP 0 gC_0 rfl 0 (by decide) (hts _ mw_15) (fun _ h9 => h9) rfl dX8_put_36 ?_
        refine lv_iload_n hx hb dX8_put_39 rfl (lv_at hl 1 rfl) ?_
        refine lv_iload_n hx hb dX8_put_40 rfl (lv_at hl 2 rfl) ?_
        refine lv_iload_n hx hb dX8_put_41 rfl (lv_at hl 3 rfl) ?_
        refine lv_iload hx hb dX8_put_42 (lv_at hl 4 rfl) ?_
        refine lv_sipush (v := (-1000 : Int32)) hx hb dX8_put_44 (by decide) ?_
        refine lv_icmp_ne (tgt := 55) hx hb dX8_put_47 (by decide) (fun c15 => ?_) (fun c15 => ?_)
        · rw [if_neg c15] at hF
          refine lv_iload hx hb dX8_put_55 (lv_at hl 4 rfl) ?_
          obtain ⟨σ16, e17, hF⟩ := Option.bind_eq_some_iff.mp hF
          refine z_callVV (w' := (wC cyI cyZ a σ16)) (As := [.int x1, .int x2, .int x3, .int x4]) (rest := []) ⟨hx, hb, hml, hown, hts⟩ (c_X6_setCell l D cyI cyZ a A σ13 x1 x2 x3 x4 σ16 e17) (cwV 4 hts (gd_V mw_218 mw_219 mw_220 mw_14 mw_221) rfl rfl rfl (by decide +kernel) ⟨Nat.le_of_ble_eq_true rfl, Nat.le_of_ble_eq_true rfl⟩) hK hN hP hD hS 6 1 rfl rfl gC_1 rfl hl.1 rfl (Nat.le_of_ble_eq_true rfl) dX8_put_57 ⟨Nat.zero_le _, Nat.zero_le _⟩ (fun H locs hP hD hS => ?_)
          refine lv_iconst (v := (1 : Int32)) hx hb dX8_put_60 (by decide) ?_
          cases hF
          exact z_iret hx hb hr hlocks hK hP hD hS dX8_put_61
        · rw [if_pos c15] at hF
          refine lv_ldc (v := (-1000000 : Int32)) hx hb hown (hts _ mw_205) dX8_put_50 ?_
          refine lv_goto (tgt := 57) hx hb dX8_put_52 (by decide) ?_
          obtain ⟨σ18, e19, hF⟩ := Option.bind_eq_some_iff.mp hF
          refine z_callVV (w' := (wC cyI cyZ a σ18)) (As := [.int x1, .int x2, .int x3, .int (-1000000 : Int32)]) (rest := []) ⟨hx, hb, hml, hown, hts⟩ (c_X6_setCell l D cyI cyZ a A σ13 x1 x2 x3 (-1000000 : Int32) σ18 e19) (cwV 4 hts (gd_V mw_218 mw_219 mw_220 mw_14 mw_221) rfl rfl rfl (by decide +kernel) ⟨Nat.le_of_ble_eq_true rfl, Nat.le_of_ble_eq_true rfl⟩) hK hN hP hD hS 6 1 rfl rfl gC_1 rfl hl.1 rfl (Nat.le_of_ble_eq_true rfl) dX8_put_57 ⟨Nat.zero_le _, Nat.zero_le _⟩ (fun H locs hP hD hS => ?_)
          refine lv_iconst (v := (1 : Int32)) hx hb dX8_put_60 (by decide) ?_
          cases hF
          exact z_iret hx hb hr hlocks hK hP hD hS dX8_put_61
      · rw [if_pos c12] at hF
        refine lv_iconst (v := (-1 : Int32)) hx hb dX8_put_29 (by decide) ?_
        cases hF
        exact z_iret hx hb hr hlocks hK hP hD hS dX8_put_30
abbrev ts_X8_value : List Cond := .code yX8_value cX8_value 4 (some .int) :: wsL_law
set_option maxHeartbeats 4000000 in
set_option maxRecDepth 100000 in
theorem c_X8_value (l : Launch) (D : va_G) (cyI cyZ : ClassId) (a : Nat → Nat) (A : Nat → Prop) (σ : Mem) (x1 : Int32) (x2 : Int32) (x3 : Int32) (r : Int32) (hF : F_X8_value σ x1 x2 x3 = some r) : CtI l yX8_value ts_X8_value ({ frames := 3, cells := 0, slots := 0, locals := 66 } : Room) [.ref (a 0), .int x1, .int x2, .int x3] D cyI cyZ A (wC cyI cyZ a σ) (wC cyI cyZ a σ) r := by
  refine CtI.of (cc := cX8_value) (maxL := 4) (ret := (some .int)) (by decide) rfl (Nat.le_of_ble_eq_true rfl) ?_
  intro p e s m below meth c ls hC hP hD hl
  obtain ⟨hx, hb, hr, hml, hown, hts, hK, hN, hlocks⟩ := hC
  have hown : s.vm.findClass RX8 = some m.cls := hown
  have hS : va_S A s.heap s.heap [] := va_S.rf
  have hl : lv_has ls 4 [(0, .ref (a 0)), (1, .int x1), (2, .int x2), (3, .int x3)] := hl
  unfold F_X8_value at hF
  refine lv_aload_n hx hb dX8_value_0 rfl (lv_at hl 0 rfl) ?_
  refine va_get (D := D) (ci := 8) (v := .ref (a 1)) (C := RX8) (T := TX8) (N := 6) hx hb hts inlX8 hown hK hP 0 gC_0 rfl 0 (by decide) (hts _ mw_15) (fun _ h9 => h9) rfl dX8_value_1 ?_
  refine lv_iload_n hx hb dX8_value_4 rfl (lv_at hl 1 rfl) ?_
  refine lv_iload_n hx hb dX8_value_5 rfl (lv_at hl 2 rfl) ?_
  refine lv_iload_n hx hb dX8_value_6 rfl (lv_at hl 3 rfl) ?_
  obtain ⟨v1, e2, hF⟩ := Option.bind_eq_some_iff.mp hF
  refine z_callVI (w' := (wC cyI cyZ a σ)) (As := [.int x1, .int x2, .int x3]) (rest := []) ⟨hx, hb, hml, hown, hts⟩ (c_X6_hasCell l D cyI cyZ a A σ x1 x2 x3 _ e2) (cwV 3 hts (gd_V mw_206 mw_207 mw_208 mw_14 mw_209) rfl rfl rfl (by decide +kernel) ⟨Nat.le_of_ble_eq_true rfl, Nat.le_of_ble_eq_true rfl⟩) hK hN hP hD hS 6 1 rfl rfl gC_1 rfl hl.1 rfl (Nat.le_of_ble_eq_true rfl) dX8_value_7 ⟨Nat.zero_le _, Nat.zero_le _⟩ (fun H locs hP hD hS => ?_)
  refine lv_if_eq (tgt := 26) hx hb dX8_value_10 (by decide) (fun c3 => ?_) (fun c3 => ?_)
  · rw [if_pos c3] at hF
    refine lv_ldc (v := (-2000000 : Int32)) hx hb hown (hts _ mw_238) dX8_value_26 ?_
    cases hF
    exact z_iret hx hb hr hlocks hK hP hD hS dX8_value_28
  · rw [if_neg c3] at hF
    refine lv_aload_n hx hb dX8_value_13 rfl (lv_at hl 0 rfl) ?_
    refine va_get (D := D) (ci := 8) (v := .ref (a 1)) (C := RX8) (T := TX8) (N := 6) hx hb hts inlX8 hown hK hP 0 gC_0 rfl 0 (by decide) (hts _ mw_15) (fun _ h9 => h9) rfl dX8_value_14 ?_
    refine lv_iload_n hx hb dX8_value_17 rfl (lv_at hl 1 rfl) ?_
    refine lv_iload_n hx hb dX8_value_18 rfl (lv_at hl 2 rfl) ?_
    refine lv_iload_n hx hb dX8_value_19 rfl (lv_at hl 3 rfl) ?_
    obtain ⟨v4, e5, hF⟩ := Option.bind_eq_some_iff.mp hF
    refine z_callVI (w' := (wC cyI cyZ a σ)) (As := [.int x1, .int x2, .int x3]) (rest := []) ⟨hx, hb, hml, hown, hts⟩ (c_X6_cell l D cyI cyZ a A σ x1 x2 x3 _ e5) (cwV 3 hts (gd_V mw_239 mw_240 mw_241 mw_14 mw_242) rfl rfl rfl (by decide +kernel) ⟨Nat.le_of_ble_eq_true rfl, Nat.le_of_ble_eq_true rfl⟩) hK hN hP hD hS 6 1 rfl rfl gC_1 rfl hl.1 rfl (Nat.le_of_ble_eq_true rfl) dX8_value_20 ⟨Nat.zero_le _, Nat.zero_le _⟩ (fun H locs hP hD hS => ?_)
    refine lv_goto (tgt := 28) hx hb dX8_value_23 (by decide) ?_
    cases hF
    exact z_iret hx hb hr hlocks hK hP hD hS dX8_value_28
abbrev ts_X8_questionChanged : List Cond := .code yX8_questionChanged cX8_questionChanged 1 none :: wsL_law
set_option maxHeartbeats 4000000 in
set_option maxRecDepth 100000 in
theorem c_X8_questionChanged (l : Launch) (D : va_G) (cyI cyZ : ClassId) (a : Nat → Nat) (A : Nat → Prop) (σ : Mem) (σ' : Mem) (hF : F_X8_questionChanged σ  = some σ') : CtV l yX8_questionChanged ts_X8_questionChanged ({ frames := 3, cells := 0, slots := 0, locals := 63 } : Room) [.ref (a 0)] D cyI cyZ A (wC cyI cyZ a σ) (wC cyI cyZ a σ') := by
  refine CtV.of (cc := cX8_questionChanged) (maxL := 1) (ret := none) (by decide) rfl (Nat.le_of_ble_eq_true rfl) ?_
  intro p e s m below meth c ls hC hP hD hl
  obtain ⟨hx, hb, hr, hml, hown, hts, hK, hN, hlocks⟩ := hC
  have hown : s.vm.findClass RX8 = some m.cls := hown
  have hS : va_S A s.heap s.heap [] := va_S.rf
  have hl : lv_has ls 1 [(0, .ref (a 0))] := hl
  unfold F_X8_questionChanged at hF
  refine lv_aload_n hx hb dX8_questionChanged_0 rfl (lv_at hl 0 rfl) ?_
  refine va_get (D := D) (ci := 8) (v := .ref (a 16)) (C := RX8) (T := TX8) (N := 6) hx hb hts inlX8 hown hK hP 0 gC_0 rfl 3 (by decide) (hts _ mw_27) (fun _ h9 => h9) rfl dX8_questionChanged_1 ?_
  obtain ⟨σ1, e2, hF⟩ := Option.bind_eq_some_iff.mp hF
  refine z_callVV (w' := (wC cyI cyZ a σ1)) (As := []) (rest := []) ⟨hx, hb, hml, hown, hts⟩ (c_X5_spoil l D cyI cyZ a A σ  σ1 e2) (cwV 0 hts (gd_V mw_262 mw_263 mw_264 mw_26 mw_265) rfl rfl rfl (by decide +kernel) ⟨Nat.le_of_ble_eq_true rfl, Nat.le_of_ble_eq_true rfl⟩) hK hN hP hD hS 5 16 rfl rfl gC_16 rfl hl.1 rfl (Nat.le_of_ble_eq_true rfl) dX8_questionChanged_4 ⟨Nat.zero_le _, Nat.zero_le _⟩ (fun H locs hP hD hS => ?_)
  refine lv_aload_n hx hb dX8_questionChanged_7 rfl (lv_at hl 0 rfl) ?_
  obtain ⟨σ3, e4, hF⟩ := Option.bind_eq_some_iff.mp hF
  refine z_callVV (w' := (wC cyI cyZ a σ3)) (As := []) (rest := []) ⟨hx, hb, hml, hown, hts⟩ (c_X8_rowsChanged l D cyI cyZ a A σ1  σ3 e4) (cwV 0 hts (gd_V mw_176 mw_177 mw_178 mw_2 mw_179) rfl rfl rfl (by decide +kernel) ⟨Nat.le_of_ble_eq_true rfl, Nat.le_of_ble_eq_true rfl⟩) hK hN hP hD hS 8 0 rfl rfl gC_0 rfl hl.1 rfl (Nat.le_of_ble_eq_true rfl) dX8_questionChanged_8 ⟨Nat.zero_le _, Nat.zero_le _⟩ (fun H locs hP hD hS => ?_)
  cases hF
  exact z_vret hx hb hr hlocks hK hP hD hS dX8_questionChanged_11
abbrev ts_X8_link : List Cond := .code yX8_link cX8_link 5 (some .int) :: wsL_law
set_option maxHeartbeats 4000000 in
set_option maxRecDepth 100000 in
theorem c_X8_link (l : Launch) (D : va_G) (cyI cyZ : ClassId) (a : Nat → Nat) (A : Nat → Prop) (σ : Mem) (x1 : Int32) (x2 : Int32) (x3 : Int32) (r : Int32) (σ' : Mem) (hF : F_X8_link σ x1 x2 x3 = some (r, σ')) : CtI l yX8_link ts_X8_link ({ frames := 4, cells := 0, slots := 0, locals := 83 } : Room) [.ref (a 0), .int x1, .int x2, .int x3] D cyI cyZ A (wC cyI cyZ a σ) (wC cyI cyZ a σ') r := by
  refine CtI.of (cc := cX8_link) (maxL := 5) (ret := (some .int)) (by decide) rfl (Nat.le_of_ble_eq_true rfl) ?_
  intro p e s m below meth c ls hC hP hD hl
  obtain ⟨hx, hb, hr, hml, hown, hts, hK, hN, hlocks⟩ := hC
  have hown : s.vm.findClass RX8 = some m.cls := hown
  have hS : va_S A s.heap s.heap [] := va_S.rf
  have hl : lv_has ls 5 [(0, .ref (a 0)), (1, .int x1), (2, .int x2), (3, .int x3)] := hl
  unfold F_X8_link at hF
  refine lv_iload_n hx hb dX8_link_0 rfl (lv_at hl 3 rfl) ?_
  refine lv_iconst (v := (-1 : Int32)) hx hb dX8_link_1 (by decide) ?_
  refine lv_icmp_eq (tgt := 16) hx hb dX8_link_2 (by decide) (fun c1 => ?_) (fun c1 => ?_)
  · rw [if_pos c1] at hF
    refine lv_iconst (v := (1 : Int32)) hx hb dX8_link_16 (by decide) ?_
    refine lv_goto (tgt := 21) hx hb dX8_link_17 (by decide) ?_
    refine lv_istore (lv' := [(4, .int (1 : Int32)), (0, .ref (a 0)), (1, .int x1), (2, .int x2), (3, .int x3)]) hx hb dX8_link_21 hl (by decide) rfl (fun ls hl => ?_)
    refine lv_aload_n hx hb dX8_link_23 rfl (lv_at hl 1 rfl) ?_
    refine va_get (D := D) (ci := 8) (v := .ref (a 1)) (C := RX8) (T := TX8) (N := 6) hx hb hts inlX8 hown hK hP 0 gC_0 rfl 0 (by decide) (hts _ mw_15) (fun _ h9 => h9) rfl dX8_link_24 ?_
    refine lv_iload_n hx hb dX8_link_27 rfl (lv_at hl 2 rfl) ?_
    refine lv_iload_n hx hb dX8_link_28 rfl (lv_at hl 3 rfl) ?_
    obtain ⟨v2, e3, hF⟩ := Option.bind_eq_some_iff.mp hF
    refine z_callVI (w' := (wC cyI cyZ a σ)) (As := [.int x1, .int x2]) (rest := []) ⟨hx, hb, hml, hown, hts⟩ (c_X6_hasColumn l D cyI cyZ a A σ x1 x2 _ e3) (cwV 2 hts (gd_V mw_257 mw_211 mw_212 mw_14 mw_213) rfl rfl rfl (by decide +kernel) ⟨Nat.le_of_ble_eq_true rfl, Nat.le_of_ble_eq_true rfl⟩) hK hN hP hD hS 6 1 rfl rfl gC_1 rfl hl.1 rfl (Nat.le_of_ble_eq_true rfl) dX8_link_29 ⟨Nat.zero_le _, Nat.zero_le _⟩ (fun H locs hP hD hS => ?_)
    refine lv_if_eq (tgt := 45) hx hb dX8_link_32 (by decide) (fun c4 => ?_) (fun c4 => ?_)
    · rw [if_pos c4] at hF
      refine lv_bipush (v := (-9 : Int32)) hx hb dX8_link_45 (by decide) ?_
      cases hF
      exact z_iret hx hb hr hlocks hK hP hD hS dX8_link_47
    · rw [if_neg c4] at hF
      refine lv_iload hx hb dX8_link_35 (lv_at hl 0 rfl) ?_
      refine lv_if_eq (tgt := 45) hx hb dX8_link_37 (by decide) (fun c5 => ?_) (fun c5 => ?_)
      · rw [if_pos c5] at hF
        refine lv_bipush (v := (-9 : Int32)) hx hb dX8_link_45 (by decide) ?_
        cases hF
        exact z_iret hx hb hr hlocks hK hP hD hS dX8_link_47
      · rw [if_neg c5] at hF
        refine lv_iload_n hx hb dX8_link_40 rfl (lv_at hl 4 rfl) ?_
        refine lv_iload_n hx hb dX8_link_41 rfl (lv_at hl 2 rfl) ?_
        refine lv_icmp_ne (tgt := 48) hx hb dX8_link_42 (by decide) (fun c6 => ?_) (fun c6 => ?_)
        · rw [if_neg c6] at hF
          refine lv_aload_n hx hb dX8_link_48 rfl (lv_at hl 1 rfl) ?_
          obtain ⟨σ7, e8, hF⟩ := Option.bind_eq_some_iff.mp hF
          refine z_callVV (w' := (wC cyI cyZ a σ7)) (As := []) (rest := []) ⟨hx, hb, hml, hown, hts⟩ (c_X8_questionChanged l D cyI cyZ a A σ  σ7 e8) (cwV 0 hts (gd_V mw_258 mw_259 mw_260 mw_2 mw_261) rfl rfl rfl (by decide +kernel) ⟨Nat.le_of_ble_eq_true rfl, Nat.le_of_ble_eq_true rfl⟩) hK hN hP hD hS 8 0 rfl rfl gC_0 rfl hl.1 rfl (Nat.le_of_ble_eq_true rfl) dX8_link_49 ⟨Nat.zero_le _, Nat.zero_le _⟩ (fun H locs hP hD hS => ?_)
          refine lv_aload_n hx hb dX8_link_52 rfl (lv_at hl 1 rfl) ?_
          refine va_get (D := D) (ci := 8) (v := .ref (a 1)) (C := RX8) (T := TX8) (N := 6) hx hb hts inlX8 hown hK hP 0 gC_0 rfl 0 (by decide) (hts _ mw_15) (fun _ h9 => h9) rfl dX8_link_53 ?_
          refine lv_iload_n hx hb dX8_link_56 rfl (lv_at hl 2 rfl) ?_
          refine lv_iload_n hx hb dX8_link_57 rfl (lv_at hl 3 rfl) ?_
          refine lv_iload_n hx hb dX8_link_58 rfl (lv_at hl 4 rfl) ?_
          obtain ⟨p9, e10, hF⟩ := Option.bind_eq_some_iff.mp hF
          refine z_callVI (w' := (wC cyI cyZ a p9.2)) (As := [.int x1, .int x2, .int x3]) (rest := []) ⟨hx, hb, hml, hown, hts⟩ (c_X6_changeLink l D cyI cyZ a A σ7 x1 x2 x3 p9.1 p9.2 e10) (cwV 3 hts (gd_V mw_267 mw_268 mw_269 mw_14 mw_270) rfl rfl rfl (by decide +kernel) ⟨Nat.le_of_ble_eq_true rfl, Nat.le_of_ble_eq_true rfl⟩) hK hN hP hD hS 6 1 rfl rfl gC_1 rfl hl.1 rfl (Nat.le_of_ble_eq_true rfl) dX8_link_59 ⟨Nat.zero_le _, Nat.zero_le _⟩ (fun H locs hP hD hS => ?_)
          cases hF
          exact z_iret hx hb hr hlocks hK hP hD hS dX8_link_62
        · rw [if_pos c6] at hF
          refine lv_bipush (v := (-9 : Int32)) hx hb dX8_link_45 (by decide) ?_
          cases hF
          exact z_iret hx hb hr hlocks hK hP hD hS dX8_link_47
  · rw [if_neg c1] at hF
    refine lv_aload_n hx hb dX8_link_5 rfl (lv_at hl 0 rfl) ?_
    refine va_get (D := D) (ci := 8) (v := .ref (a 1)) (C := RX8) (T := TX8) (N := 6) hx hb hts inlX8 hown hK hP 0 gC_0 rfl 0 (by decide) (hts _ mw_15) (fun _ h9 => h9) rfl dX8_link_6 ?_
    refine lv_iload_n hx hb dX8_link_9 rfl (lv_at hl 3 rfl) ?_
    refine z_callVI (w' := (wC cyI cyZ a σ)) (As := [.int x3]) (rest := []) ⟨hx, hb, hml, hown, hts⟩ (c_X6_hasTable l D cyI cyZ a A σ x3 _ rfl) (cwV 1 hts (gd_V mw_168 mw_169 mw_170 mw_14 mw_171) rfl rfl rfl (by decide +kernel) ⟨Nat.le_of_ble_eq_true rfl, Nat.le_of_ble_eq_true rfl⟩) hK hN hP hD hS 6 1 rfl rfl gC_1 rfl hl.1 rfl (Nat.le_of_ble_eq_true rfl) dX8_link_10 ⟨Nat.zero_le _, Nat.zero_le _⟩ (fun H locs hP hD hS => ?_)
    refine lv_if_eq (tgt := 20) hx hb dX8_link_13 (by decide) (fun c11 => ?_) (fun c11 => ?_)
    · rw [if_pos c11] at hF
      refine lv_iconst (v := (0 : Int32)) hx hb dX8_link_20 (by decide) ?_
      refine lv_istore (lv' := [(4, .int (0 : Int32)), (0, .ref (a 0)), (1, .int x1), (2, .int x2), (3, .int x3)]) hx hb dX8_link_21 hl (by decide) rfl (fun ls hl => ?_)
      refine lv_aload_n hx hb dX8_link_23 rfl (lv_at hl 1 rfl) ?_
      refine va_get (D := D) (ci := 8) (v := .ref (a 1)) (C := RX8) (T := TX8) (N := 6) hx hb hts inlX8 hown hK hP 0 gC_0 rfl 0 (by decide) (hts _ mw_15) (fun _ h9 => h9) rfl dX8_link_24 ?_
      refine lv_iload_n hx hb dX8_link_27 rfl (lv_at hl 2 rfl) ?_
      refine lv_iload_n hx hb dX8_link_28 rfl (lv_at hl 3 rfl) ?_
      obtain ⟨v12, e13, hF⟩ := Option.bind_eq_some_iff.mp hF
      refine z_callVI (w' := (wC cyI cyZ a σ)) (As := [.int x1, .int x2]) (rest := []) ⟨hx, hb, hml, hown, hts⟩ (c_X6_hasColumn l D cyI cyZ a A σ x1 x2 _ e13) (cwV 2 hts (gd_V mw_257 mw_211 mw_212 mw_14 mw_213) rfl rfl rfl (by decide +kernel) ⟨Nat.le_of_ble_eq_true rfl, Nat.le_of_ble_eq_true rfl⟩) hK hN hP hD hS 6 1 rfl rfl gC_1 rfl hl.1 rfl (Nat.le_of_ble_eq_true rfl) dX8_link_29 ⟨Nat.zero_le _, Nat.zero_le _⟩ (fun H locs hP hD hS => ?_)
      refine lv_if_eq (tgt := 45) hx hb dX8_link_32 (by decide) (fun c14 => ?_) (fun c14 => ?_)
      · rw [if_pos c14] at hF
        refine lv_bipush (v := (-9 : Int32)) hx hb dX8_link_45 (by decide) ?_
        cases hF
        exact z_iret hx hb hr hlocks hK hP hD hS dX8_link_47
      · rw [if_neg c14] at hF
        refine lv_iload hx hb dX8_link_35 (lv_at hl 0 rfl) ?_
        refine lv_if_eq (tgt := 45) hx hb dX8_link_37 (by decide) (fun c15 => ?_) (fun c15 => ?_)
        · rw [if_pos c15] at hF
          refine lv_bipush (v := (-9 : Int32)) hx hb dX8_link_45 (by decide) ?_
          cases hF
          exact z_iret hx hb hr hlocks hK hP hD hS dX8_link_47
        · rw [if_neg c15] at hF
          refine lv_iload_n hx hb dX8_link_40 rfl (lv_at hl 4 rfl) ?_
          refine lv_iload_n hx hb dX8_link_41 rfl (lv_at hl 2 rfl) ?_
          refine lv_icmp_ne (tgt := 48) hx hb dX8_link_42 (by decide) (fun c16 => ?_) (fun c16 => ?_)
          · rw [if_neg c16] at hF
            refine lv_aload_n hx hb dX8_link_48 rfl (lv_at hl 1 rfl) ?_
            obtain ⟨σ17, e18, hF⟩ := Option.bind_eq_some_iff.mp hF
            refine z_callVV (w' := (wC cyI cyZ a σ17)) (As := []) (rest := []) ⟨hx, hb, hml, hown, hts⟩ (c_X8_questionChanged l D cyI cyZ a A σ  σ17 e18) (cwV 0 hts (gd_V mw_258 mw_259 mw_260 mw_2 mw_261) rfl rfl rfl (by decide +kernel) ⟨Nat.le_of_ble_eq_true rfl, Nat.le_of_ble_eq_true rfl⟩) hK hN hP hD hS 8 0 rfl rfl gC_0 rfl hl.1 rfl (Nat.le_of_ble_eq_true rfl) dX8_link_49 ⟨Nat.zero_le _, Nat.zero_le _⟩ (fun H locs hP hD hS => ?_)
            refine lv_aload_n hx hb dX8_link_52 rfl (lv_at hl 1 rfl) ?_
            refine va_get (D := D) (ci := 8) (v := .ref (a 1)) (C := RX8) (T := TX8) (N := 6) hx hb hts inlX8 hown hK hP 0 gC_0 rfl 0 (by decide) (hts _ mw_15) (fun _ h9 => h9) rfl dX8_link_53 ?_
            refine lv_iload_n hx hb dX8_link_56 rfl (lv_at hl 2 rfl) ?_
            refine lv_iload_n hx hb dX8_link_57 rfl (lv_at hl 3 rfl) ?_
            refine lv_iload_n hx hb dX8_link_58 rfl (lv_at hl 4 rfl) ?_
            obtain ⟨p19, e20, hF⟩ := Option.bind_eq_some_iff.mp hF
            refine z_callVI (w' := (wC cyI cyZ a p19.2)) (As := [.int x1, .int x2, .int x3]) (rest := []) ⟨hx, hb, hml, hown, hts⟩ (c_X6_changeLink l D cyI cyZ a A σ17 x1 x2 x3 p19.1 p19.2 e20) (cwV 3 hts (gd_V mw_267 mw_268 mw_269 mw_14 mw_270) rfl rfl rfl (by decide +kernel) ⟨Nat.le_of_ble_eq_true rfl, Nat.le_of_ble_eq_true rfl⟩) hK hN hP hD hS 6 1 rfl rfl gC_1 rfl hl.1 rfl (Nat.le_of_ble_eq_true rfl) dX8_link_59 ⟨Nat.zero_le _, Nat.zero_le _⟩ (fun H locs hP hD hS => ?_)
            cases hF
            exact z_iret hx hb hr hlocks hK hP hD hS dX8_link_62
          · rw [if_pos c16] at hF
            refine lv_bipush (v := (-9 : Int32)) hx hb dX8_link_45 (by decide) ?_
            cases hF
            exact z_iret hx hb hr hlocks hK hP hD hS dX8_link_47
    · rw [if_neg c11] at hF
      refine lv_iconst (v := (1 : Int32)) hx hb dX8_link_16 (by decide) ?_
      refine lv_goto (tgt := 21) hx hb dX8_link_17 (by decide) ?_
      refine lv_istore (lv' := [(4, .int (1 : Int32)), (0, .ref (a 0)), (1, .int x1), (2, .int x2), (3, .int x3)]) hx hb dX8_link_21 hl (by decide) rfl (fun ls hl => ?_)
      refine lv_aload_n hx hb dX8_link_23 rfl (lv_at hl 1 rfl) ?_
      refine va_get (D := D) (ci := 8) (v := .ref (a 1)) (C := RX8) (T := TX8) (N := 6) hx hb hts inlX8 hown hK hP 0 gC_0 rfl 0 (by decide) (hts _ mw_15) (fun _ h9 => h9) rfl dX8_link_24 ?_
      refine lv_iload_n hx hb dX8_link_27 rfl (lv_at hl 2 rfl) ?_
      refine lv_iload_n hx hb dX8_link_28 rfl (lv_at hl 3 rfl) ?_
      obtain ⟨v21, e22, hF⟩ := Option.bind_eq_some_iff.mp hF
      refine z_callVI (w' := (wC cyI cyZ a σ)) (As := [.int x1, .int x2]) (rest := []) ⟨hx, hb, hml, hown, hts⟩ (c_X6_hasColumn l D cyI cyZ a A σ x1 x2 _ e22) (cwV 2 hts (gd_V mw_257 mw_211 mw_212 mw_14 mw_213) rfl rfl rfl (by decide +kernel) ⟨Nat.le_of_ble_eq_true rfl, Nat.le_of_ble_eq_true rfl⟩) hK hN hP hD hS 6 1 rfl rfl gC_1 rfl hl.1 rfl (Nat.le_of_ble_eq_true rfl) dX8_link_29 ⟨Nat.zero_le _, Nat.zero_le _⟩ (fun H locs hP hD hS => ?_)
      refine lv_if_eq (tgt := 45) hx hb dX8_link_32 (by decide) (fun c23 => ?_) (fun c23 => ?_)
      · rw [if_pos c23] at hF
        refine lv_bipush (v := (-9 : Int32)) hx hb dX8_link_45 (by decide) ?_
        cases hF
        exact z_iret hx hb hr hlocks hK hP hD hS dX8_link_47
      · rw [if_neg c23] at hF
        refine lv_iload hx hb dX8_link_35 (lv_at hl 0 rfl) ?_
        refine lv_if_eq (tgt := 45) hx hb dX8_link_37 (by decide) (fun c24 => ?_) (fun c24 => ?_)
        · rw [if_pos c24] at hF
          refine lv_bipush (v := (-9 : Int32)) hx hb dX8_link_45 (by decide) ?_
          cases hF
          exact z_iret hx hb hr hlocks hK hP hD hS dX8_link_47
        · rw [if_neg c24] at hF
          refine lv_iload_n hx hb dX8_link_40 rfl (lv_at hl 4 rfl) ?_
          refine lv_iload_n hx hb dX8_link_41 rfl (lv_at hl 2 rfl) ?_
          refine lv_icmp_ne (tgt := 48) hx hb dX8_link_42 (by decide) (fun c25 => ?_) (fun c25 => ?_)
          · rw [if_neg c25] at hF
            refine lv_aload_n hx hb dX8_link_48 rfl (lv_at hl 1 rfl) ?_
            obtain ⟨σ26, e27, hF⟩ := Option.bind_eq_some_iff.mp hF
            refine z_callVV (w' := (wC cyI cyZ a σ26)) (As := []) (rest := []) ⟨hx, hb, hml, hown, hts⟩ (c_X8_questionChanged l D cyI cyZ a A σ  σ26 e27) (cwV 0 hts (gd_V mw_258 mw_259 mw_260 mw_2 mw_261) rfl rfl rfl (by decide +kernel) ⟨Nat.le_of_ble_eq_true rfl, Nat.le_of_ble_eq_true rfl⟩) hK hN hP hD hS 8 0 rfl rfl gC_0 rfl hl.1 rfl (Nat.le_of_ble_eq_true rfl) dX8_link_49 ⟨Nat.zero_le _, Nat.zero_le _⟩ (fun H locs hP hD hS => ?_)
            refine lv_aload_n hx hb dX8_link_52 rfl (lv_at hl 1 rfl) ?_
            refine va_get (D := D) (ci := 8) (v := .ref (a 1)) (C := RX8) (T := TX8) (N := 6) hx hb hts inlX8 hown hK hP 0 gC_0 rfl 0 (by decide) (hts _ mw_15) (fun _ h9 => h9) rfl dX8_link_53 ?_
            refine lv_iload_n hx hb dX8_link_56 rfl (lv_at hl 2 rfl) ?_
            refine lv_iload_n hx hb dX8_link_57 rfl (lv_at hl 3 rfl) ?_
            refine lv_iload_n hx hb dX8_link_58 rfl (lv_at hl 4 rfl) ?_
            obtain ⟨p28, e29, hF⟩ := Option.bind_eq_some_iff.mp hF
            refine z_callVI (w' := (wC cyI cyZ a p28.2)) (As := [.int x1, .int x2, .int x3]) (rest := []) ⟨hx, hb, hml, hown, hts⟩ (c_X6_changeLink l D cyI cyZ a A σ26 x1 x2 x3 p28.1 p28.2 e29) (cwV 3 hts (gd_V mw_267 mw_268 mw_269 mw_14 mw_270) rfl rfl rfl (by decide +kernel) ⟨Nat.le_of_ble_eq_true rfl, Nat.le_of_ble_eq_true rfl⟩) hK hN hP hD hS 6 1 rfl rfl gC_1 rfl hl.1 rfl (Nat.le_of_ble_eq_true rfl) dX8_link_59 ⟨Nat.zero_le _, Nat.zero_le _⟩ (fun H locs hP hD hS => ?_)
            cases hF
            exact z_iret hx hb hr hlocks hK hP hD hS dX8_link_62
          · rw [if_pos c25] at hF
            refine lv_bipush (v := (-9 : Int32)) hx hb dX8_link_45 (by decide) ?_
            cases hF
            exact z_iret hx hb hr hlocks hK hP hD hS dX8_link_47
abbrev ts_X8_isWord : List Cond := .code yX8_isWord cX8_isWord 1 (some .boolean) :: wsL_law
set_option maxHeartbeats 4000000 in
set_option maxRecDepth 100000 in
theorem c_X8_isWord (l : Launch) (D : va_G) (cyI cyZ : ClassId) (A : Nat → Prop) (w : va_W) (x0 : Int32) (r : Int32) (hF : F_X8_isWord x0 = r) : CtI l yX8_isWord ts_X8_isWord ({ frames := 0, cells := 0, slots := 0, locals := 0 } : Room) [.int x0] D cyI cyZ A w w r := by
  refine CtI.of (cc := cX8_isWord) (maxL := 1) (ret := (some .boolean)) (by decide) rfl (Nat.le_of_ble_eq_true rfl) ?_
  intro p e s m below meth c ls hC hP hD hl
  obtain ⟨hx, hb, hr, hml, hown, hts, hK, hN, hlocks⟩ := hC
  have hown : s.vm.findClass RX8 = some m.cls := hown
  have hS : va_S A s.heap s.heap [] := va_S.rf
  have hl : lv_has ls 1 [(0, .int x0)] := hl
  unfold F_X8_isWord at hF
  refine lv_iload_n hx hb dX8_isWord_0 rfl (lv_at hl 0 rfl) ?_
  refine lv_if_lt (tgt := 14) hx hb dX8_isWord_1 (by decide) (fun c1 => ?_) (fun c1 => ?_)
  · rw [if_pos c1] at hF
    refine lv_iconst (v := (0 : Int32)) hx hb dX8_isWord_14 (by decide) ?_
    subst hF
    exact z_zret hx hb hr hlocks hK hP hD hS rfl dX8_isWord_15
  · rw [if_neg c1] at hF
    refine lv_iload_n hx hb dX8_isWord_4 rfl (lv_at hl 0 rfl) ?_
    refine lv_bipush (v := (40 : Int32)) hx hb dX8_isWord_5 (by decide) ?_
    refine lv_icmp_ge (tgt := 14) hx hb dX8_isWord_7 (by decide) (fun c2 => ?_) (fun c2 => ?_)
    · rw [if_pos c2] at hF
      refine lv_iconst (v := (0 : Int32)) hx hb dX8_isWord_14 (by decide) ?_
      subst hF
      exact z_zret hx hb hr hlocks hK hP hD hS rfl dX8_isWord_15
    · rw [if_neg c2] at hF
      refine lv_iconst (v := (1 : Int32)) hx hb dX8_isWord_10 (by decide) ?_
      refine lv_goto (tgt := 15) hx hb dX8_isWord_11 (by decide) ?_
      subst hF
      exact z_zret hx hb hr hlocks hK hP hD hS rfl dX8_isWord_15
