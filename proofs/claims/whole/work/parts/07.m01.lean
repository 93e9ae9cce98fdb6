-- X5_fillForm X5_formOf X2_from X6_rowsOf X2_tests X2_originOf X2_tableOf X2_columnOf X6_linkingColumn X6_cell X6_hasRow X2_thanOf X2_numberOf X1_holds
abbrev ts_X5_fillForm : List Cond := .code yX5_fillForm cX5_fillForm 4 none :: wsL_law
def SH_X5_fillForm (a : Nat → Nat) (ls : Array Slot) (pc : Nat) (vs : List Int32) : Prop := (pc = 0 ∧ ∃ x1 : Int32, vs = [x1] ∧ lv_has ls 4 [(0, .ref (a 16)), (1, .int x1)]) ∨ (pc = 2 ∧ ∃ x1 x2 : Int32, vs = [x1, x2] ∧ lv_has ls 4 [(0, .ref (a 16)), (1, .int x1), (2, .int x2)]) ∨ (pc = 93 ∧ ∃ x2 : Int32, vs = [x2] ∧ lv_has ls 4 [(0, .ref (a 16)), (2, .int x2)])
section
variable {p : Program} {l : Launch} {e : Env} {s : State} {m : MethodId} {args : Array Value} {below : List Frame} {meth : Method} {c : Code} {D : va_G} {A : Nat → Prop} {a : Nat → Nat} {cyI cyZ : ClassId} {σ' : Mem} {q : Mem × List Int32}
set_option maxHeartbeats 4000000 in
set_option maxRecDepth 100000 in
theorem wl_X5_fillForm_0 (σ : Mem) (hC : CX p c cX5_fillForm meth none s m args yX5_fillForm.cls 4 D cyI cyZ) (hq : extV q = some σ') (n : Nat) (ih : ∀ (pc : Nat) (x : Mem) (vs : List Int32) (ls : Array Slot) (H : Heap) (locs : List Loc), goL B_X5_fillForm n pc x vs = some q → SH_X5_fillForm a ls pc vs → va_P D vwCl (wC cyI cyZ a x) H → va_D A (wC cyI cyZ a x) → va_S A s.heap H locs → W p l e (headSpec ts_X5_fillForm ({ frames := 2, cells := 0, slots := 0, locals := 50 } : Room)).room s m args below meth c H locs 0 0 (MQ below (QcV D cyI cyZ A (wC cyI cyZ a σ')) args s 0 0 A) (F0 m pc ls [])) (x1 : Int32) (ls : Array Slot) (H : Heap) (locs : List Loc) (hgo : goL B_X5_fillForm (n + 1) 0 σ [x1] = some q) (hl : lv_has ls 4 [(0, .ref (a 16)), (1, .int x1)]) (hP : va_P D vwCl (wC cyI cyZ a σ) H) (hD : va_D A (wC cyI cyZ a σ)) (hS : va_S A s.heap H locs) : W p l e (headSpec ts_X5_fillForm ({ frames := 2, cells := 0, slots := 0, locals := 50 } : Room)).room s m args below meth c H locs 0 0 (MQ below (QcV D cyI cyZ A (wC cyI cyZ a σ')) args s 0 0 A) (F0 m 0 ls []) := by
  obtain ⟨hx, hb, hr, hml, hown, hts, hK, hN, hlocks⟩ := hC
  have hown : s.vm.findClass RX5 = some m.cls := hown
  obtain ⟨yy, hF, hgo⟩ := goL_step (by decide) hgo
  have hF : B_X5_fillForm_0 σ x1 = some yy := hF
  unfold B_X5_fillForm_0 at hF
  refine lv_iconst (v := (0 : Int32)) hx hb dX5_fillForm_0 (by decide) ?_
  refine lv_istore_n (lv' := [(2, .int (0 : Int32)), (0, .ref (a 16)), (1, .int x1)]) hx hb dX5_fillForm_1 rfl hl (by decide) rfl (fun ls hl => ?_)
  cases hF
  exact ih _ _ _ _ _ _ hgo (Or.inr (Or.inl ⟨rfl, _, _, rfl, lv_sub hl [1, 2, 0] rfl⟩)) hP hD hS
set_option maxHeartbeats 4000000 in
set_option maxRecDepth 100000 in
theorem wl_X5_fillForm_2 (σ : Mem) (hC : CX p c cX5_fillForm meth none s m args yX5_fillForm.cls 4 D cyI cyZ) (hq : extV q = some σ') (n : Nat) (ih : ∀ (pc : Nat) (x : Mem) (vs : List Int32) (ls : Array Slot) (H : Heap) (locs : List Loc), goL B_X5_fillForm n pc x vs = some q → SH_X5_fillForm a ls pc vs → va_P D vwCl (wC cyI cyZ a x) H → va_D A (wC cyI cyZ a x) → va_S A s.heap H locs → W p l e (headSpec ts_X5_fillForm ({ frames := 2, cells := 0, slots := 0, locals := 50 } : Room)).room s m args below meth c H locs 0 0 (MQ below (QcV D cyI cyZ A (wC cyI cyZ a σ')) args s 0 0 A) (F0 m pc ls [])) (x1 : Int32) (x2 : Int32) (ls : Array Slot) (H : Heap) (locs : List Loc) (hgo : goL B_X5_fillForm (n + 1) 2 σ [x1, x2] = some q) (hl : lv_has ls 4 [(0, .ref (a 16)), (1, .int x1), (2, .int x2)]) (hP : va_P D vwCl (wC cyI cyZ a σ) H) (hD : va_D A (wC cyI cyZ a σ)) (hS : va_S A s.heap H locs) : W p l e (headSpec ts_X5_fillForm ({ frames := 2, cells := 0, slots := 0, locals := 50 } : Room)).room s m args below meth c H locs 0 0 (MQ below (QcV D cyI cyZ A (wC cyI cyZ a σ')) args s 0 0 A) (F0 m 2 ls []) := by
  obtain ⟨hx, hb, hr, hml, hown, hts, hK, hN, hlocks⟩ := hC
  have hown : s.vm.findClass RX5 = some m.cls := hown
  obtain ⟨yy, hF, hgo⟩ := goL_step (by decide) hgo
  have hF : B_X5_fillForm_2 σ x1 x2 = some yy := hF
  unfold B_X5_fillForm_2 at hF
  refine lv_iload_n hx hb dX5_fillForm_2 rfl (lv_at hl 2 rfl) ?_
  refine lv_bipush (v := (8 : Int32)) hx hb dX5_fillForm_3 (by decide) ?_
  refine lv_icmp_gt (tgt := 84) hx hb dX5_fillForm_5 (by decide) (fun c1 => ?_) (fun c1 => ?_)
  · rw [if_pos c1] at hF
    refine lv_aload_n hx hb dX5_fillForm_84 rfl (lv_at hl 0 rfl) ?_
    refine va_get (D := D) (ci := 5) (v := .ref (a 17)) (C := RX5) (T := TX5) (N := 11) hx hb hts inlX5 hown hK hP 16 gC_16 rfl 3 (by decide) (hts _ mw_72) (fun _ h9 => h9) rfl dX5_fillForm_85 ?_
    obtain ⟨σ2, e3, hF⟩ := Option.bind_eq_some_iff.mp hF
    refine z_callVV (w' := (wC cyI cyZ a σ2)) (As := []) (rest := []) ⟨hx, hb, hml, hown, hts⟩ (c_X2_start l D cyI cyZ a A σ  σ2 e3) (cwV 0 hts (gd_V mw_452 mw_453 mw_454 mw_71 mw_455) rfl rfl rfl (by decide +kernel) ⟨Nat.le_of_ble_eq_true rfl, Nat.le_of_ble_eq_true rfl⟩) hK hN hP hD hS 2 17 rfl rfl gC_17 rfl hl.1 rfl (Nat.le_of_ble_eq_true rfl) dX5_fillForm_88 ⟨Nat.zero_le _, Nat.zero_le _⟩ (fun H locs hP hD hS => ?_)
    refine lv_iconst (v := (0 : Int32)) hx hb dX5_fillForm_91 (by decide) ?_
    refine lv_istore_n (lv' := [(2, .int (0 : Int32)), (0, .ref (a 16)), (1, .int x1)]) hx hb dX5_fillForm_92 rfl hl (by decide) rfl (fun ls hl => ?_)
    cases hF
    exact ih _ _ _ _ _ _ hgo (Or.inr (Or.inr (⟨rfl, _, rfl, lv_sub hl [1, 0] rfl⟩))) hP hD hS
  · rw [if_neg c1] at hF
    refine lv_aload_n hx hb dX5_fillForm_8 rfl (lv_at hl 0 rfl) ?_
    refine va_get (D := D) (ci := 5) (v := .ref (a 13)) (C := RX5) (T := TX5) (N := 11) hx hb hts inlX5 hown hK hP 16 gC_16 rfl 2 (by decide) (hts _ mw_80) (fun _ h9 => h9) rfl dX5_fillForm_9 ?_
    refine lv_iload_n hx hb dX5_fillForm_12 rfl (lv_at hl 2 rfl) ?_
    obtain ⟨v4, e5, hF⟩ := Option.bind_eq_some_iff.mp hF
    refine z_callVI (w' := (wC cyI cyZ a σ)) (As := [.int x2]) (rest := []) ⟨hx, hb, hml, hown, hts⟩ (c_X3_isWordAt l D cyI cyZ a A σ x2 _ e5) (cwV 1 hts (gd_V mw_415 mw_416 mw_417 mw_22 mw_418) rfl rfl rfl (by decide +kernel) ⟨Nat.le_of_ble_eq_true rfl, Nat.le_of_ble_eq_true rfl⟩) hK hN hP hD hS 3 13 rfl rfl gC_13 rfl hl.1 rfl (Nat.le_of_ble_eq_true rfl) dX5_fillForm_13 ⟨Nat.zero_le _, Nat.zero_le _⟩ (fun H locs hP hD hS => ?_)
    refine lv_istore_n (lv' := [(3, .int v4), (0, .ref (a 16)), (1, .int x1), (2, .int x2)]) hx hb dX5_fillForm_16 rfl hl (by decide) rfl (fun ls hl => ?_)
    refine lv_aload_n hx hb dX5_fillForm_17 rfl (lv_at hl 1 rfl) ?_
    refine va_get (D := D) (ci := 5) (v := .ref (a 24)) (C := RX5) (T := TX5) (N := 11) hx hb hts inlX5 hown hK hP 16 gC_16 rfl 5 (by decide) (hts _ mw_74) (fun _ h9 => h9) rfl dX5_fillForm_18 ?_
    refine lv_iload_n hx hb dX5_fillForm_21 rfl (lv_at hl 3 rfl) ?_
    refine lv_iload_n hx hb dX5_fillForm_22 rfl (lv_at hl 0 rfl) ?_
    refine lv_if_eq (tgt := 49) hx hb dX5_fillForm_23 (by decide) (fun c6 => ?_) (fun c6 => ?_)
    · rw [if_pos c6] at hF
      refine lv_iconst (v := (-1 : Int32)) hx hb dX5_fillForm_49 (by decide) ?_
      obtain ⟨σ7, e8, hF⟩ := Option.bind_eq_some_iff.mp hF
      refine z_ist (wC cyI cyZ a) hx hb hK hP hD hS 24 gC_24 sC_24 e8 dX5_fillForm_50 (fun H locs hP hD hS => ?_)
      refine lv_aload_n hx hb dX5_fillForm_51 rfl (lv_at hl 1 rfl) ?_
      refine va_get (D := D) (ci := 5) (v := .ref (a 34)) (C := RX5) (T := TX5) (N := 11) hx hb hts inlX5 hown hK hP 16 gC_16 rfl 6 (by decide) (hts _ mw_75) (fun _ h9 => h9) rfl dX5_fillForm_52 ?_
      refine lv_iload_n hx hb dX5_fillForm_55 rfl (lv_at hl 3 rfl) ?_
      refine lv_iload_n hx hb dX5_fillForm_56 rfl (lv_at hl 0 rfl) ?_
      refine lv_if_eq (tgt := 76) hx hb dX5_fillForm_57 (by decide) (fun c9 => ?_) (fun c9 => ?_)
      · rw [if_pos c9] at hF
        refine lv_iconst (v := (-1 : Int32)) hx hb dX5_fillForm_76 (by decide) ?_
        obtain ⟨σ10, e11, hF⟩ := Option.bind_eq_some_iff.mp hF
        refine z_ist (wC cyI cyZ a) hx hb hK hP hD hS 34 gC_34 sC_34 e11 dX5_fillForm_77 (fun H locs hP hD hS => ?_)
        refine lv_iinc (v := (x2 + (1 : Int32))) (lv' := [(2, .int (x2 + (1 : Int32))), (3, .int v4), (0, .ref (a 16)), (1, .int x1)]) hx hb dX5_fillForm_78 hl (k := 3) rfl rfl (by decide) rfl (fun ls hl => ?_)
        refine lv_goto (tgt := 2) hx hb dX5_fillForm_81 (by decide) ?_
        cases hF
        exact ih _ _ _ _ _ _ hgo (Or.inr (Or.inl ⟨rfl, _, _, rfl, lv_sub hl [2, 3, 0] rfl⟩)) hP hD hS
      · rw [if_neg c9] at hF
        refine lv_aload_n hx hb dX5_fillForm_60 rfl (lv_at hl 1 rfl) ?_
        refine va_get (D := D) (ci := 5) (v := .ref (a 6)) (C := RX5) (T := TX5) (N := 11) hx hb hts inlX5 hown hK hP 16 gC_16 rfl 1 (by decide) (hts _ mw_79) (fun _ h9 => h9) rfl dX5_fillForm_61 ?_
        refine lv_aload_n hx hb dX5_fillForm_64 rfl (lv_at hl 1 rfl) ?_
        refine va_get (D := D) (ci := 5) (v := .ref (a 24)) (C := RX5) (T := TX5) (N := 11) hx hb hts inlX5 hown hK hP 16 gC_16 rfl 5 (by decide) (hts _ mw_74) (fun _ h9 => h9) rfl dX5_fillForm_65 ?_
        refine lv_iload_n hx hb dX5_fillForm_68 rfl (lv_at hl 3 rfl) ?_
        obtain ⟨v12, e13, hF⟩ := Option.bind_eq_some_iff.mp hF
        refine z_ild hx hb hK hP 24 gC_24 e13 dX5_fillForm_69 ?_
        obtain ⟨v14, e15, hF⟩ := Option.bind_eq_some_iff.mp hF
        refine z_callVI (w' := (wC cyI cyZ a σ7)) (As := [.int v12]) (rest := [.int x2, .ref (a 34)]) ⟨hx, hb, hml, hown, hts⟩ (c_X7_sortAt l D cyI cyZ a A σ7 v12 _ e15) (cwV 1 hts (gd_V mw_427 mw_428 mw_429 mw_18 mw_430) rfl rfl rfl (by decide +kernel) ⟨Nat.le_of_ble_eq_true rfl, Nat.le_of_ble_eq_true rfl⟩) hK hN hP hD hS 7 6 rfl rfl gC_6 rfl hl.1 rfl (Nat.le_of_ble_eq_true rfl) dX5_fillForm_70 ⟨Nat.zero_le _, Nat.zero_le _⟩ (fun H locs hP hD hS => ?_)
        refine lv_goto (tgt := 77) hx hb dX5_fillForm_73 (by decide) ?_
        obtain ⟨σ16, e17, hF⟩ := Option.bind_eq_some_iff.mp hF
        refine z_ist (wC cyI cyZ a) hx hb hK hP hD hS 34 gC_34 sC_34 e17 dX5_fillForm_77 (fun H locs hP hD hS => ?_)
        refine lv_iinc (v := (x2 + (1 : Int32))) (lv' := [(2, .int (x2 + (1 : Int32))), (3, .int v4), (0, .ref (a 16)), (1, .int x1)]) hx hb dX5_fillForm_78 hl (k := 3) rfl rfl (by decide) rfl (fun ls hl => ?_)
        refine lv_goto (tgt := 2) hx hb dX5_fillForm_81 (by decide) ?_
        cases hF
        exact ih _ _ _ _ _ _ hgo (Or.inr (Or.inl ⟨rfl, _, _, rfl, lv_sub hl [2, 3, 0] rfl⟩)) hP hD hS
    · rw [if_neg c6] at hF
      refine lv_aload_n hx hb dX5_fillForm_26 rfl (lv_at hl 1 rfl) ?_
      refine va_get (D := D) (ci := 5) (v := .ref (a 6)) (C := RX5) (T := TX5) (N := 11) hx hb hts inlX5 hown hK hP 16 gC_16 rfl 1 (by decide) (hts _ mw_79) (fun _ h9 => h9) rfl dX5_fillForm_27 ?_
      refine lv_aload_n hx hb dX5_fillForm_30 rfl (lv_at hl 1 rfl) ?_
      refine va_get (D := D) (ci := 5) (v := .ref (a 13)) (C := RX5) (T := TX5) (N := 11) hx hb hts inlX5 hown hK hP 16 gC_16 rfl 2 (by decide) (hts _ mw_80) (fun _ h9 => h9) rfl dX5_fillForm_31 ?_
      refine lv_iload_n hx hb dX5_fillForm_34 rfl (lv_at hl 3 rfl) ?_
      obtain ⟨v18, e19, hF⟩ := Option.bind_eq_some_iff.mp hF
      refine z_callVI (w' := (wC cyI cyZ a σ)) (As := [.int x2]) (rest := [.ref (a 6), .int x2, .ref (a 24)]) ⟨hx, hb, hml, hown, hts⟩ (c_X3_tokenAt l D cyI cyZ a A σ x2 _ e19) (cwV 1 hts (gd_V mw_419 mw_420 mw_421 mw_22 mw_422) rfl rfl rfl (by decide +kernel) ⟨Nat.le_of_ble_eq_true rfl, Nat.le_of_ble_eq_true rfl⟩) hK hN hP hD hS 3 13 rfl rfl gC_13 rfl hl.1 rfl (Nat.le_of_ble_eq_true rfl) dX5_fillForm_35 ⟨Nat.zero_le _, Nat.zero_le _⟩ (fun H locs hP hD hS => ?_)
      refine lv_iload_n hx hb dX5_fillForm_38 rfl (lv_at hl 2 rfl) ?_
      refine lv_iload_n hx hb dX5_fillForm_39 rfl (lv_at hl 3 rfl) ?_
      refine z_callSI (w' := (wC cyI cyZ a σ)) (As := [.int x1, .int x2]) (rest := [.int v18, .ref (a 6), .int x2, .ref (a 24)]) ⟨hx, hb, hml, hown, hts⟩ (c_X5_meaningIn l D cyI cyZ A (wC cyI cyZ a σ) x1 x2 _ rfl) (va_cwS 2 hts (gd_S mw_423 mw_424 mw_26 mw_425) rfl rfl rfl (by decide +kernel) ⟨Nat.le_of_ble_eq_true rfl, Nat.le_of_ble_eq_true rfl⟩) hK hN hP hD hS rfl hl.1 rfl (Nat.le_of_ble_eq_true rfl) dX5_fillForm_40 ⟨Nat.zero_le _, Nat.zero_le _⟩ (fun H locs hP hD hS => ?_)
      refine z_callVI (w' := (wC cyI cyZ a σ)) (As := [.int v18, .int (F_X5_meaningIn x1 x2)]) (rest := [.int x2, .ref (a 24)]) ⟨hx, hb, hml, hown, hts⟩ (c_X7_spotOf l D cyI cyZ a A σ v18 (F_X5_meaningIn x1 x2) _ rfl) (cwV 2 hts (gd_V mw_426 mw_296 mw_297 mw_18 mw_298) rfl rfl rfl (by decide +kernel) ⟨Nat.le_of_ble_eq_true rfl, Nat.le_of_ble_eq_true rfl⟩) hK hN hP hD hS 7 6 rfl rfl gC_6 rfl hl.1 rfl (Nat.le_of_ble_eq_true rfl) dX5_fillForm_43 ⟨Nat.zero_le _, Nat.zero_le _⟩ (fun H locs hP hD hS => ?_)
      refine lv_goto (tgt := 50) hx hb dX5_fillForm_46 (by decide) ?_
      obtain ⟨σ20, e21, hF⟩ := Option.bind_eq_some_iff.mp hF
      refine z_ist (wC cyI cyZ a) hx hb hK hP hD hS 24 gC_24 sC_24 e21 dX5_fillForm_50 (fun H locs hP hD hS => ?_)
      refine lv_aload_n hx hb dX5_fillForm_51 rfl (lv_at hl 1 rfl) ?_
      refine va_get (D := D) (ci := 5) (v := .ref (a 34)) (C := RX5) (T := TX5) (N := 11) hx hb hts inlX5 hown hK hP 16 gC_16 rfl 6 (by decide) (hts _ mw_75) (fun _ h9 => h9) rfl dX5_fillForm_52 ?_
      refine lv_iload_n hx hb dX5_fillForm_55 rfl (lv_at hl 3 rfl) ?_
      refine lv_iload_n hx hb dX5_fillForm_56 rfl (lv_at hl 0 rfl) ?_
      refine lv_if_eq (tgt := 76) hx hb dX5_fillForm_57 (by decide) (fun c22 => ?_) (fun c22 => ?_)
      · rw [if_pos c22] at hF
        refine lv_iconst (v := (-1 : Int32)) hx hb dX5_fillForm_76 (by decide) ?_
        obtain ⟨σ23, e24, hF⟩ := Option.bind_eq_some_iff.mp hF
        refine z_ist (wC cyI cyZ a) hx hb hK hP hD hS 34 gC_34 sC_34 e24 dX5_fillForm_77 (fun H locs hP hD hS => ?_)
        refine lv_iinc (v := (x2 + (1 : Int32))) (lv' := [(2, .int (x2 + (1 : Int32))), (3, .int v4), (0, .ref (a 16)), (1, .int x1)]) hx hb dX5_fillForm_78 hl (k := 3) rfl rfl (by decide) rfl (fun ls hl => ?_)
        refine lv_goto (tgt := 2) hx hb dX5_fillForm_81 (by decide) ?_
        cases hF
        exact ih _ _ _ _ _ _ hgo (Or.inr (Or.inl ⟨rfl, _, _, rfl, lv_sub hl [2, 3, 0] rfl⟩)) hP hD hS
      · rw [if_neg c22] at hF
        refine lv_aload_n hx hb dX5_fillForm_60 rfl (lv_at hl 1 rfl) ?_
        refine va_get (D := D) (ci := 5) (v := .ref (a 6)) (C := RX5) (T := TX5) (N := 11) hx hb hts inlX5 hown hK hP 16 gC_16 rfl 1 (by decide) (hts _ mw_79) (fun _ h9 => h9) rfl dX5_fillForm_61 ?_
        refine lv_aload_n hx hb dX5_fillForm_64 rfl (lv_at hl 1 rfl) ?_
        refine va_get (D := D) (ci := 5) (v := .ref (a 24)) (C := RX5) (T := TX5) (N := 11) hx hb hts inlX5 hown hK hP 16 gC_16 rfl 5 (by decide) (hts _ mw_74) (fun _ h9 => h9) rfl dX5_fillForm_65 ?_
        refine lv_iload_n hx hb dX5_fillForm_68 rfl (lv_at hl 3 rfl) ?_
        obtain ⟨v25, e26, hF⟩ := Option.bind_eq_some_iff.mp hF
        refine z_ild hx hb hK hP 24 gC_24 e26 dX5_fillForm_69 ?_
        obtain ⟨v27, e28, hF⟩ := Option.bind_eq_some_iff.mp hF
        refine z_callVI (w' := (wC cyI cyZ a σ20)) (As := [.int v25]) (rest := [.int x2, .ref (a 34)]) ⟨hx, hb, hml, hown, hts⟩ (c_X7_sortAt l D cyI cyZ a A σ20 v25 _ e28) (cwV 1 hts (gd_V mw_427 mw_428 mw_429 mw_18 mw_430) rfl rfl rfl (by decide +kernel) ⟨Nat.le_of_ble_eq_true rfl, Nat.le_of_ble_eq_true rfl⟩) hK hN hP hD hS 7 6 rfl rfl gC_6 rfl hl.1 rfl (Nat.le_of_ble_eq_true rfl) dX5_fillForm_70 ⟨Nat.zero_le _, Nat.zero_le _⟩ (fun H locs hP hD hS => ?_)
        refine lv_goto (tgt := 77) hx hb dX5_fillForm_73 (by decide) ?_
        obtain ⟨σ29, e30, hF⟩ := Option.bind_eq_some_iff.mp hF
        refine z_ist (wC cyI cyZ a) hx hb hK hP hD hS 34 gC_34 sC_34 e30 dX5_fillForm_77 (fun H locs hP hD hS => ?_)
        refine lv_iinc (v := (x2 + (1 : Int32))) (lv' := [(2, .int (x2 + (1 : Int32))), (3, .int v4), (0, .ref (a 16)), (1, .int x1)]) hx hb dX5_fillForm_78 hl (k := 3) rfl rfl (by decide) rfl (fun ls hl => ?_)
        refine lv_goto (tgt := 2) hx hb dX5_fillForm_81 (by decide) ?_
        cases hF
        exact ih _ _ _ _ _ _ hgo (Or.inr (Or.inl ⟨rfl, _, _, rfl, lv_sub hl [2, 3, 0] rfl⟩)) hP hD hS
set_option maxHeartbeats 4000000 in
set_option maxRecDepth 100000 in
theorem wl_X5_fillForm_93 (σ : Mem) (hC : CX p c cX5_fillForm meth none s m args yX5_fillForm.cls 4 D cyI cyZ) (hq : extV q = some σ') (n : Nat) (ih : ∀ (pc : Nat) (x : Mem) (vs : List Int32) (ls : Array Slot) (H : Heap) (locs : List Loc), goL B_X5_fillForm n pc x vs = some q → SH_X5_fillForm a ls pc vs → va_P D vwCl (wC cyI cyZ a x) H → va_D A (wC cyI cyZ a x) → va_S A s.heap H locs → W p l e (headSpec ts_X5_fillForm ({ frames := 2, cells := 0, slots := 0, locals := 50 } : Room)).room s m args below meth c H locs 0 0 (MQ below (QcV D cyI cyZ A (wC cyI cyZ a σ')) args s 0 0 A) (F0 m pc ls [])) (x2 : Int32) (ls : Array Slot) (H : Heap) (locs : List Loc) (hgo : goL B_X5_fillForm (n + 1) 93 σ [x2] = some q) (hl : lv_has ls 4 [(0, .ref (a 16)), (2, .int x2)]) (hP : va_P D vwCl (wC cyI cyZ a σ) H) (hD : va_D A (wC cyI cyZ a σ)) (hS : va_S A s.heap H locs) : W p l e (headSpec ts_X5_fillForm ({ frames := 2, cells := 0, slots := 0, locals := 50 } : Room)).room s m args below meth c H locs 0 0 (MQ below (QcV D cyI cyZ A (wC cyI cyZ a σ')) args s 0 0 A) (F0 m 93 ls []) := by
  obtain ⟨hx, hb, hr, hml, hown, hts, hK, hN, hlocks⟩ := hC
  have hown : s.vm.findClass RX5 = some m.cls := hown
  obtain ⟨yy, hF, hgo⟩ := goL_step (by decide) hgo
  have hF : B_X5_fillForm_93 σ x2 = some yy := hF
  unfold B_X5_fillForm_93 at hF
  refine lv_iload_n hx hb dX5_fillForm_93 rfl (lv_at hl 1 rfl) ?_
  refine lv_bipush (v := (8 : Int32)) hx hb dX5_fillForm_94 (by decide) ?_
  refine lv_icmp_ge (tgt := 125) hx hb dX5_fillForm_96 (by decide) (fun c1 => ?_) (fun c1 => ?_)
  · rw [if_pos c1] at hF
    refine lv_aload_n hx hb dX5_fillForm_125 rfl (lv_at hl 0 rfl) ?_
    refine va_get (D := D) (ci := 5) (v := .ref (a 17)) (C := RX5) (T := TX5) (N := 11) hx hb hts inlX5 hown hK hP 16 gC_16 rfl 3 (by decide) (hts _ mw_72) (fun _ h9 => h9) rfl dX5_fillForm_126 ?_
    obtain ⟨σ2, e3, hF⟩ := Option.bind_eq_some_iff.mp hF
    refine z_callVV (w' := (wC cyI cyZ a σ2)) (As := []) (rest := []) ⟨hx, hb, hml, hown, hts⟩ (c_X2_end l D cyI cyZ a A σ  σ2 e3) (cwV 0 hts (gd_V mw_499 mw_500 mw_501 mw_71 mw_502) rfl rfl rfl (by decide +kernel) ⟨Nat.le_of_ble_eq_true rfl, Nat.le_of_ble_eq_true rfl⟩) hK hN hP hD hS 2 17 rfl rfl gC_17 rfl hl.1 rfl (Nat.le_of_ble_eq_true rfl) dX5_fillForm_129 ⟨Nat.zero_le _, Nat.zero_le _⟩ (fun H locs hP hD hS => ?_)
    cases hF
    obtain rfl := extV_ret hq (goL_ret hgo)
    exact z_vret hx hb hr hlocks hK hP hD hS dX5_fillForm_132
  · rw [if_neg c1] at hF
    refine lv_aload_n hx hb dX5_fillForm_99 rfl (lv_at hl 0 rfl) ?_
    refine va_get (D := D) (ci := 5) (v := .ref (a 24)) (C := RX5) (T := TX5) (N := 11) hx hb hts inlX5 hown hK hP 16 gC_16 rfl 5 (by decide) (hts _ mw_74) (fun _ h9 => h9) rfl dX5_fillForm_100 ?_
    refine lv_iload_n hx hb dX5_fillForm_103 rfl (lv_at hl 1 rfl) ?_
    obtain ⟨v4, e5, hF⟩ := Option.bind_eq_some_iff.mp hF
    refine z_ild hx hb hK hP 24 gC_24 e5 dX5_fillForm_104 ?_
    refine lv_if_lt (tgt := 119) hx hb dX5_fillForm_105 (by decide) (fun c6 => ?_) (fun c6 => ?_)
    · rw [if_pos c6] at hF
      refine lv_iinc (v := (x2 + (1 : Int32))) (lv' := [(2, .int (x2 + (1 : Int32))), (0, .ref (a 16))]) hx hb dX5_fillForm_119 hl (k := 1) rfl rfl (by decide) rfl (fun ls hl => ?_)
      refine lv_goto (tgt := 93) hx hb dX5_fillForm_122 (by decide) ?_
      cases hF
      exact ih _ _ _ _ _ _ hgo (Or.inr (Or.inr (⟨rfl, _, rfl, lv_sub hl [1, 0] rfl⟩))) hP hD hS
    · rw [if_neg c6] at hF
      refine lv_aload_n hx hb dX5_fillForm_108 rfl (lv_at hl 0 rfl) ?_
      refine lv_iload_n hx hb dX5_fillForm_109 rfl (lv_at hl 1 rfl) ?_
      refine lv_aload_n hx hb dX5_fillForm_110 rfl (lv_at hl 0 rfl) ?_
      refine va_get (D := D) (ci := 5) (v := .ref (a 24)) (C := RX5) (T := TX5) (N := 11) hx hb hts inlX5 hown hK hP 16 gC_16 rfl 5 (by decide) (hts _ mw_74) (fun _ h9 => h9) rfl dX5_fillForm_111 ?_
      refine lv_iload_n hx hb dX5_fillForm_114 rfl (lv_at hl 1 rfl) ?_
      obtain ⟨v7, e8, hF⟩ := Option.bind_eq_some_iff.mp hF
      refine z_ild hx hb hK hP 24 gC_24 e8 dX5_fillForm_115 ?_
      obtain ⟨σ9, e10, hF⟩ := Option.bind_eq_some_iff.mp hF
      refine z_callVV (w' := (wC cyI cyZ a σ9)) (As := [.int x2, .int v7]) (rest := []) ⟨hx, hb, hml, hown, hts⟩ (c_X5_tellMeaning l D cyI cyZ a A σ x2 v7 σ9 e10) (cwV 2 hts (gd_V mw_464 mw_465 mw_466 mw_26 mw_467) rfl rfl rfl (by decide +kernel) ⟨Nat.le_of_ble_eq_true rfl, Nat.le_of_ble_eq_true rfl⟩) hK hN hP hD hS 5 16 rfl rfl gC_16 rfl hl.1 rfl (Nat.le_of_ble_eq_true rfl) dX5_fillForm_116 ⟨Nat.zero_le _, Nat.zero_le _⟩ (fun H locs hP hD hS => ?_)
      refine lv_iinc (v := (x2 + (1 : Int32))) (lv' := [(2, .int (x2 + (1 : Int32))), (0, .ref (a 16))]) hx hb dX5_fillForm_119 hl (k := 1) rfl rfl (by decide) rfl (fun ls hl => ?_)
      refine lv_goto (tgt := 93) hx hb dX5_fillForm_122 (by decide) ?_
      cases hF
      exact ih _ _ _ _ _ _ hgo (Or.inr (Or.inr (⟨rfl, _, rfl, lv_sub hl [1, 0] rfl⟩))) hP hD hS
theorem wk_X5_fillForm (hC : CX p c cX5_fillForm meth none s m args yX5_fillForm.cls 4 D cyI cyZ) (hq : extV q = some σ') : ∀ (n : Nat), ∀ (pc : Nat) (x : Mem) (vs : List Int32) (ls : Array Slot) (H : Heap) (locs : List Loc), goL B_X5_fillForm n pc x vs = some q → SH_X5_fillForm a ls pc vs → va_P D vwCl (wC cyI cyZ a x) H → va_D A (wC cyI cyZ a x) → va_S A s.heap H locs → W p l e (headSpec ts_X5_fillForm ({ frames := 2, cells := 0, slots := 0, locals := 50 } : Room)).room s m args below meth c H locs 0 0 (MQ below (QcV D cyI cyZ A (wC cyI cyZ a σ')) args s 0 0 A) (F0 m pc ls []) := by
  intro n
  induction n with
  | zero => intro pc x vs ls H locs h; exact absurd h (by simp [goL])
  | succ n ih =>
    intro pc x vs ls H locs hgo hsh hP hD hS
    rcases hsh with ⟨rfl, x1, rfl, hl⟩ | ⟨rfl, x1, x2, rfl, hl⟩ | ⟨rfl, x2, rfl, hl⟩
    · exact wl_X5_fillForm_0 x hC hq n ih x1 ls H locs hgo hl hP hD hS
    · exact wl_X5_fillForm_2 x hC hq n ih x1 x2 ls H locs hgo hl hP hD hS
    · exact wl_X5_fillForm_93 x hC hq n ih x2 ls H locs hgo hl hP hD hS
end
theorem c_X5_fillForm (l : Launch) (D : va_G) (cyI cyZ : ClassId) (a : Nat → Nat) (A : Nat → Prop) (σ : Mem) (x1 : Int32) (σ' : Mem) (hF : F_X5_fillForm σ x1 = some σ') : CtV l yX5_fillForm ts_X5_fillForm ({ frames := 2, cells := 0, slots := 0, locals := 50 } : Room) [.ref (a 16), .int x1] D cyI cyZ A (wC cyI cyZ a σ) (wC cyI cyZ a σ') := by
  refine CtV.of (cc := cX5_fillForm) (maxL := 4) (ret := none) (by decide) rfl (Nat.le_of_ble_eq_true rfl) ?_
  intro p e s m below meth c ls hC hP hD hl
  obtain ⟨q, hq, hr1⟩ := Option.bind_eq_some_iff.mp hF
  obtain ⟨n, hn⟩ := finL_some hq
  exact wk_X5_fillForm hC hr1 n 0 _ _ ls _ _ hn (Or.inl ⟨rfl, _, rfl, hl⟩) hP hD va_S.rf
abbrev ts_X5_formOf : List Cond := .code yX5_formOf cX5_formOf 2 (some (.object "PlainAsk$Form")) :: wsL_law
set_option maxHeartbeats 4000000 in
set_option maxRecDepth 100000 in
theorem c_X5_formOf (l : Launch) (D : va_G) (cyI cyZ : ClassId) (a : Nat → Nat) (A : Nat → Prop) (σ : Mem) (x1 : Int32) (σ' : Mem) (hF : F_X5_formOf σ x1 = some σ') : CtR l yX5_formOf ts_X5_formOf ({ frames := 3, cells := 0, slots := 0, locals := 73 } : Room) [.ref (a 16), .int x1] D cyI cyZ A (wC cyI cyZ a σ) (wC cyI cyZ a σ') (a 17) := by
  refine CtR.of (cc := cX5_formOf) (maxL := 2) (ret := (some (.object "PlainAsk$Form"))) (by decide) rfl (Nat.le_of_ble_eq_true rfl) ?_
  intro p e s m below meth c ls hC hP hD hl
  obtain ⟨hx, hb, hr, hml, hown, hts, hK, hN, hlocks⟩ := hC
  have hown : s.vm.findClass RX5 = some m.cls := hown
  have hS : va_S A s.heap s.heap [] := va_S.rf
  have hl : lv_has ls 2 [(0, .ref (a 16)), (1, .int x1)] := hl
  unfold F_X5_formOf at hF
  refine lv_aload_n hx hb dX5_formOf_0 rfl (lv_at hl 0 rfl) ?_
  refine lv_aload_n hx hb dX5_formOf_1 rfl (lv_at hl 0 rfl) ?_
  refine va_get (D := D) (ci := 5) (v := .ref (a (kx σ))) (C := RX5) (T := TX5) (N := 11) hx hb hts inlX5 hown hK hP 16 gC_16 rfl 7 (by decide) (hts _ mw_76) (fun _ h9 => h9) rfl dX5_formOf_2 ?_
  refine lv_iload_n hx hb dX5_formOf_5 rfl (lv_at hl 1 rfl) ?_
  obtain ⟨v1, e2, hF⟩ := Option.bind_eq_some_iff.mp hF
  refine z_ild hx hb hK hP (kx σ) gC_K e2 dX5_formOf_6 ?_
  obtain ⟨σ3, e4, hF⟩ := Option.bind_eq_some_iff.mp hF
  refine z_callVV (w' := (wC cyI cyZ a σ3)) (As := [.int v1]) (rest := []) ⟨hx, hb, hml, hown, hts⟩ (c_X5_fillForm l D cyI cyZ a A σ v1 σ3 e4) (cwV 1 hts (gd_V mw_448 mw_449 mw_450 mw_26 mw_451) rfl rfl rfl (by decide +kernel) ⟨Nat.le_of_ble_eq_true rfl, Nat.le_of_ble_eq_true rfl⟩) hK hN hP hD hS 5 16 rfl rfl gC_16 rfl hl.1 rfl (Nat.le_of_ble_eq_true rfl) dX5_formOf_7 ⟨Nat.zero_le _, Nat.zero_le _⟩ (fun H locs hP hD hS => ?_)
  refine lv_aload_n hx hb dX5_formOf_10 rfl (lv_at hl 0 rfl) ?_
  refine va_get (D := D) (ci := 5) (v := .ref (a 17)) (C := RX5) (T := TX5) (N := 11) hx hb hts inlX5 hown hK hP 16 gC_16 rfl 3 (by decide) (hts _ mw_72) (fun _ h9 => h9) rfl dX5_formOf_11 ?_
  cases hF
  exact z_aret hx hb hr hlocks hK hP hD hS dX5_formOf_14
abbrev ts_X2_from : List Cond := .code yX2_from cX2_from 1 (some .int) :: wsL_law
set_option maxHeartbeats 4000000 in
set_option maxRecDepth 100000 in
theorem c_X2_from (l : Launch) (D : va_G) (cyI cyZ : ClassId) (a : Nat → Nat) (A : Nat → Prop) (σ : Mem) (r : Int32) (hF : F_X2_from σ  = r) : CtI l yX2_from ts_X2_from ({ frames := 0, cells := 0, slots := 0, locals := 0 } : Room) [.ref (a 17)] D cyI cyZ A (wC cyI cyZ a σ) (wC cyI cyZ a σ) r := by
  refine CtI.of (cc := cX2_from) (maxL := 1) (ret := (some .int)) (by decide) rfl (Nat.le_of_ble_eq_true rfl) ?_
  intro p e s m below meth c ls hC hP hD hl
  obtain ⟨hx, hb, hr, hml, hown, hts, hK, hN, hlocks⟩ := hC
  have hown : s.vm.findClass RX2 = some m.cls := hown
  have hS : va_S A s.heap s.heap [] := va_S.rf
  have hl : lv_has ls 1 [(0, .ref (a 17))] := hl
  unfold F_X2_from at hF
  refine lv_aload_n hx hb dX2_from_0 rfl (lv_at hl 0 rfl) ?_
  refine va_get (D := D) (ci := 2) (v := .int (σ 17 3)) (C := RX2) (T := TX2) (N := 13) hx hb hts inlX2 hown hK hP 17 gC_17 rfl 3 (by decide) (hts _ mw_459) (fun _ h9 => h9) rfl dX2_from_1 ?_
  subst hF
  exact z_iret hx hb hr hlocks hK hP hD hS dX2_from_4
abbrev ts_X6_rowsOf : List Cond := .code yX6_rowsOf cX6_rowsOf 2 (some .int) :: wsL_law
set_option maxHeartbeats 4000000 in
set_option maxRecDepth 100000 in
theorem c_X6_rowsOf (l : Launch) (D : va_G) (cyI cyZ : ClassId) (a : Nat → Nat) (A : Nat → Prop) (σ : Mem) (x1 : Int32) (r : Int32) (hF : F_X6_rowsOf σ x1 = some r) : CtI l yX6_rowsOf ts_X6_rowsOf ({ frames := 0, cells := 0, slots := 0, locals := 0 } : Room) [.ref (a 1), .int x1] D cyI cyZ A (wC cyI cyZ a σ) (wC cyI cyZ a σ) r := by
  refine CtI.of (cc := cX6_rowsOf) (maxL := 2) (ret := (some .int)) (by decide) rfl (Nat.le_of_ble_eq_true rfl) ?_
  intro p e s m below meth c ls hC hP hD hl
  obtain ⟨hx, hb, hr, hml, hown, hts, hK, hN, hlocks⟩ := hC
  have hown : s.vm.findClass RX6 = some m.cls := hown
  have hS : va_S A s.heap s.heap [] := va_S.rf
  have hl : lv_has ls 2 [(0, .ref (a 1)), (1, .int x1)] := hl
  unfold F_X6_rowsOf at hF
  refine lv_aload_n hx hb dX6_rowsOf_0 rfl (lv_at hl 0 rfl) ?_
  refine va_get (D := D) (ci := 6) (v := .ref (a 3)) (C := RX6) (T := TX6) (N := 5) hx hb hts inlX6 hown hK hP 1 gC_1 rfl 2 (by decide) (hts _ mw_42) (fun _ h9 => h9) rfl dX6_rowsOf_1 ?_
  refine lv_iload_n hx hb dX6_rowsOf_4 rfl (lv_at hl 1 rfl) ?_
  obtain ⟨v1, e2, hF⟩ := Option.bind_eq_some_iff.mp hF
  refine z_ild hx hb hK hP 3 gC_3 e2 dX6_rowsOf_5 ?_
  cases hF
  exact z_iret hx hb hr hlocks hK hP hD hS dX6_rowsOf_6
abbrev ts_X2_tests : List Cond := .code yX2_tests cX2_tests 1 (some .int) :: wsL_law
set_option maxHeartbeats 4000000 in
set_option maxRecDepth 100000 in
theorem c_X2_tests (l : Launch) (D : va_G) (cyI cyZ : ClassId) (a : Nat → Nat) (A : Nat → Prop) (σ : Mem) (r : Int32) (hF : F_X2_tests σ  = r) : CtI l yX2_tests ts_X2_tests ({ frames := 0, cells := 0, slots := 0, locals := 0 } : Room) [.ref (a 17)] D cyI cyZ A (wC cyI cyZ a σ) (wC cyI cyZ a σ) r := by
  refine CtI.of (cc := cX2_tests) (maxL := 1) (ret := (some .int)) (by decide) rfl (Nat.le_of_ble_eq_true rfl) ?_
  intro p e s m below meth c ls hC hP hD hl
  obtain ⟨hx, hb, hr, hml, hown, hts, hK, hN, hlocks⟩ := hC
  have hown : s.vm.findClass RX2 = some m.cls := hown
  have hS : va_S A s.heap s.heap [] := va_S.rf
  have hl : lv_has ls 1 [(0, .ref (a 17))] := hl
  unfold F_X2_tests at hF
  refine lv_aload_n hx hb dX2_tests_0 rfl (lv_at hl 0 rfl) ?_
  refine va_get (D := D) (ci := 2) (v := .int (σ 17 7)) (C := RX2) (T := TX2) (N := 13) hx hb hts inlX2 hown hK hP 17 gC_17 rfl 7 (by decide) (hts _ mw_463) (fun _ h9 => h9) rfl dX2_tests_1 ?_
  subst hF
  exact z_iret hx hb hr hlocks hK hP hD hS dX2_tests_4
abbrev ts_X2_originOf : List Cond := .code yX2_originOf cX2_originOf 2 (some .int) :: wsL_law
set_option maxHeartbeats 4000000 in
set_option maxRecDepth 100000 in
theorem c_X2_originOf (l : Launch) (D : va_G) (cyI cyZ : ClassId) (a : Nat → Nat) (A : Nat → Prop) (σ : Mem) (x1 : Int32) (r : Int32) (hF : F_X2_originOf σ x1 = some r) : CtI l yX2_originOf ts_X2_originOf ({ frames := 0, cells := 0, slots := 0, locals := 0 } : Room) [.ref (a 17), .int x1] D cyI cyZ A (wC cyI cyZ a σ) (wC cyI cyZ a σ) r := by
  refine CtI.of (cc := cX2_originOf) (maxL := 2) (ret := (some .int)) (by decide) rfl (Nat.le_of_ble_eq_true rfl) ?_
  intro p e s m below meth c ls hC hP hD hl
  obtain ⟨hx, hb, hr, hml, hown, hts, hK, hN, hlocks⟩ := hC
  have hown : s.vm.findClass RX2 = some m.cls := hown
  have hS : va_S A s.heap s.heap [] := va_S.rf
  have hl : lv_has ls 2 [(0, .ref (a 17)), (1, .int x1)] := hl
  unfold F_X2_originOf at hF
  refine lv_aload_n hx hb dX2_originOf_0 rfl (lv_at hl 0 rfl) ?_
  refine va_get (D := D) (ci := 2) (v := .ref (a 22)) (C := RX2) (T := TX2) (N := 13) hx hb hts inlX2 hown hK hP 17 gC_17 rfl 12 (by decide) (hts _ mw_88) (fun _ h9 => h9) rfl dX2_originOf_1 ?_
  refine lv_iload_n hx hb dX2_originOf_4 rfl (lv_at hl 1 rfl) ?_
  obtain ⟨v1, e2, hF⟩ := Option.bind_eq_some_iff.mp hF
  refine z_ild hx hb hK hP 22 gC_22 e2 dX2_originOf_5 ?_
  cases hF
  exact z_iret hx hb hr hlocks hK hP hD hS dX2_originOf_6
abbrev ts_X2_tableOf : List Cond := .code yX2_tableOf cX2_tableOf 2 (some .int) :: wsL_law
set_option maxHeartbeats 4000000 in
set_option maxRecDepth 100000 in
theorem c_X2_tableOf (l : Launch) (D : va_G) (cyI cyZ : ClassId) (a : Nat → Nat) (A : Nat → Prop) (σ : Mem) (x1 : Int32) (r : Int32) (hF : F_X2_tableOf σ x1 = some r) : CtI l yX2_tableOf ts_X2_tableOf ({ frames := 0, cells := 0, slots := 0, locals := 0 } : Room) [.ref (a 17), .int x1] D cyI cyZ A (wC cyI cyZ a σ) (wC cyI cyZ a σ) r := by
  refine CtI.of (cc := cX2_tableOf) (maxL := 2) (ret := (some .int)) (by decide) rfl (Nat.le_of_ble_eq_true rfl) ?_
  intro p e s m below meth c ls hC hP hD hl
  obtain ⟨hx, hb, hr, hml, hown, hts, hK, hN, hlocks⟩ := hC
  have hown : s.vm.findClass RX2 = some m.cls := hown
  have hS : va_S A s.heap s.heap [] := va_S.rf
  have hl : lv_has ls 2 [(0, .ref (a 17)), (1, .int x1)] := hl
  unfold F_X2_tableOf at hF
  refine lv_aload_n hx hb dX2_tableOf_0 rfl (lv_at hl 0 rfl) ?_
  refine va_get (D := D) (ci := 2) (v := .ref (a 18)) (C := RX2) (T := TX2) (N := 13) hx hb hts inlX2 hown hK hP 17 gC_17 rfl 8 (by decide) (hts _ mw_84) (fun _ h9 => h9) rfl dX2_tableOf_1 ?_
  refine lv_iload_n hx hb dX2_tableOf_4 rfl (lv_at hl 1 rfl) ?_
  obtain ⟨v1, e2, hF⟩ := Option.bind_eq_some_iff.mp hF
  refine z_ild hx hb hK hP 18 gC_18 e2 dX2_tableOf_5 ?_
  cases hF
  exact z_iret hx hb hr hlocks hK hP hD hS dX2_tableOf_6
abbrev ts_X2_columnOf : List Cond := .code yX2_columnOf cX2_columnOf 2 (some .int) :: wsL_law
set_option maxHeartbeats 4000000 in
set_option maxRecDepth 100000 in
theorem c_X2_columnOf (l : Launch) (D : va_G) (cyI cyZ : ClassId) (a : Nat → Nat) (A : Nat → Prop) (σ : Mem) (x1 : Int32) (r : Int32) (hF : F_X2_columnOf σ x1 = some r) : CtI l yX2_columnOf ts_X2_columnOf ({ frames := 0, cells := 0, slots := 0, locals := 0 } : Room) [.ref (a 17), .int x1] D cyI cyZ A (wC cyI cyZ a σ) (wC cyI cyZ a σ) r := by
  refine CtI.of (cc := cX2_columnOf) (maxL := 2) (ret := (some .int)) (by decide) rfl (Nat.le_of_ble_eq_true rfl) ?_
  intro p e s m below meth c ls hC hP hD hl
  obtain ⟨hx, hb, hr, hml, hown, hts, hK, hN, hlocks⟩ := hC
  have hown : s.vm.findClass RX2 = some m.cls := hown
  have hS : va_S A s.heap s.heap [] := va_S.rf
  have hl : lv_has ls 2 [(0, .ref (a 17)), (1, .int x1)] := hl
  unfold F_X2_columnOf at hF
  refine lv_aload_n hx hb dX2_columnOf_0 rfl (lv_at hl 0 rfl) ?_
  refine va_get (D := D) (ci := 2) (v := .ref (a 19)) (C := RX2) (T := TX2) (N := 13) hx hb hts inlX2 hown hK hP 17 gC_17 rfl 9 (by decide) (hts _ mw_85) (fun _ h9 => h9) rfl dX2_columnOf_1 ?_
  refine lv_iload_n hx hb dX2_columnOf_4 rfl (lv_at hl 1 rfl) ?_
  obtain ⟨v1, e2, hF⟩ := Option.bind_eq_some_iff.mp hF
  refine z_ild hx hb hK hP 19 gC_19 e2 dX2_columnOf_5 ?_
  cases hF
  exact z_iret hx hb hr hlocks hK hP hD hS dX2_columnOf_6
abbrev ts_X6_linkingColumn : List Cond := .code yX6_linkingColumn cX6_linkingColumn 4 (some .int) :: wsL_law
def SH_X6_linkingColumn (a : Nat → Nat) (ls : Array Slot) (pc : Nat) (vs : List Int32) : Prop := (pc = 0 ∧ ∃ x1 x2 : Int32, vs = [x1, x2] ∧ lv_has ls 4 [(0, .ref (a 1)), (1, .int x1), (2, .int x2)]) ∨ (pc = 2 ∧ ∃ x1 x2 x3 : Int32, vs = [x1, x2, x3] ∧ lv_has ls 4 [(0, .ref (a 1)), (1, .int x1), (2, .int x2), (3, .int x3)])
section
variable {p : Program} {l : Launch} {e : Env} {s : State} {m : MethodId} {args : Array Value} {below : List Frame} {meth : Method} {c : Code} {D : va_G} {A : Nat → Prop} {a : Nat → Nat} {cyI cyZ : ClassId} {r : Int32} {q : Unit × List Int32}
set_option maxHeartbeats 4000000 in
set_option maxRecDepth 100000 in
theorem wl_X6_linkingColumn_0 (σ : Mem) (hC : CX p c cX6_linkingColumn meth (some .int) s m args yX6_linkingColumn.cls 4 D cyI cyZ) (hq : extR q = some r) (n : Nat) (ih : ∀ (pc : Nat) (x : Unit) (vs : List Int32) (ls : Array Slot) (H : Heap) (locs : List Loc), goL (B_X6_linkingColumn σ) n pc x vs = some q → SH_X6_linkingColumn a ls pc vs → va_P D vwCl (wC cyI cyZ a σ) H → va_D A (wC cyI cyZ a σ) → va_S A s.heap H locs → W p l e (headSpec ts_X6_linkingColumn ({ frames := 0, cells := 0, slots := 0, locals := 0 } : Room)).room s m args below meth c H locs 0 0 (MQ below (QcI D cyI cyZ A (wC cyI cyZ a σ) r) args s 0 0 A) (F0 m pc ls [])) (x1 : Int32) (x2 : Int32) (ls : Array Slot) (H : Heap) (locs : List Loc) (hgo : goL (B_X6_linkingColumn σ) (n + 1) 0 () [x1, x2] = some q) (hl : lv_has ls 4 [(0, .ref (a 1)), (1, .int x1), (2, .int x2)]) (hP : va_P D vwCl (wC cyI cyZ a σ) H) (hD : va_D A (wC cyI cyZ a σ)) (hS : va_S A s.heap H locs) : W p l e (headSpec ts_X6_linkingColumn ({ frames := 0, cells := 0, slots := 0, locals := 0 } : Room)).room s m args below meth c H locs 0 0 (MQ below (QcI D cyI cyZ A (wC cyI cyZ a σ) r) args s 0 0 A) (F0 m 0 ls []) := by
  obtain ⟨hx, hb, hr, hml, hown, hts, hK, hN, hlocks⟩ := hC
  have hown : s.vm.findClass RX6 = some m.cls := hown
  obtain ⟨yy, hF, hgo⟩ := goL_step (by decide) hgo
  have hF : B_X6_linkingColumn_0 σ x1 x2 = some yy := hF
  unfold B_X6_linkingColumn_0 at hF
  refine lv_iconst (v := (0 : Int32)) hx hb dX6_linkingColumn_0 (by decide) ?_
  refine lv_istore_n (lv' := [(3, .int (0 : Int32)), (0, .ref (a 1)), (1, .int x1), (2, .int x2)]) hx hb dX6_linkingColumn_1 rfl hl (by decide) rfl (fun ls hl => ?_)
  cases hF
  exact ih _ _ _ _ _ _ hgo (Or.inr (⟨rfl, _, _, _, rfl, lv_sub hl [1, 2, 3, 0] rfl⟩)) hP hD hS
set_option maxHeartbeats 4000000 in
set_option maxRecDepth 100000 in
theorem wl_X6_linkingColumn_2 (σ : Mem) (hC : CX p c cX6_linkingColumn meth (some .int) s m args yX6_linkingColumn.cls 4 D cyI cyZ) (hq : extR q = some r) (n : Nat) (ih : ∀ (pc : Nat) (x : Unit) (vs : List Int32) (ls : Array Slot) (H : Heap) (locs : List Loc), goL (B_X6_linkingColumn σ) n pc x vs = some q → SH_X6_linkingColumn a ls pc vs → va_P D vwCl (wC cyI cyZ a σ) H → va_D A (wC cyI cyZ a σ) → va_S A s.heap H locs → W p l e (headSpec ts_X6_linkingColumn ({ frames := 0, cells := 0, slots := 0, locals := 0 } : Room)).room s m args below meth c H locs 0 0 (MQ below (QcI D cyI cyZ A (wC cyI cyZ a σ) r) args s 0 0 A) (F0 m pc ls [])) (x1 : Int32) (x2 : Int32) (x3 : Int32) (ls : Array Slot) (H : Heap) (locs : List Loc) (hgo : goL (B_X6_linkingColumn σ) (n + 1) 2 () [x1, x2, x3] = some q) (hl : lv_has ls 4 [(0, .ref (a 1)), (1, .int x1), (2, .int x2), (3, .int x3)]) (hP : va_P D vwCl (wC cyI cyZ a σ) H) (hD : va_D A (wC cyI cyZ a σ)) (hS : va_S A s.heap H locs) : W p l e (headSpec ts_X6_linkingColumn ({ frames := 0, cells := 0, slots := 0, locals := 0 } : Room)).room s m args below meth c H locs 0 0 (MQ below (QcI D cyI cyZ A (wC cyI cyZ a σ) r) args s 0 0 A) (F0 m 2 ls []) := by
  obtain ⟨hx, hb, hr, hml, hown, hts, hK, hN, hlocks⟩ := hC
  have hown : s.vm.findClass RX6 = some m.cls := hown
  obtain ⟨yy, hF, hgo⟩ := goL_step (by decide) hgo
  have hF : B_X6_linkingColumn_2 σ x1 x2 x3 = some yy := hF
  unfold B_X6_linkingColumn_2 at hF
  refine lv_iload_n hx hb dX6_linkingColumn_2 rfl (lv_at hl 3 rfl) ?_
  refine lv_aload_n hx hb dX6_linkingColumn_3 rfl (lv_at hl 0 rfl) ?_
  refine va_get (D := D) (ci := 6) (v := .ref (a 2)) (C := RX6) (T := TX6) (N := 5) hx hb hts inlX6 hown hK hP 1 gC_1 rfl 1 (by decide) (hts _ mw_41) (fun _ h9 => h9) rfl dX6_linkingColumn_4 ?_
  refine lv_iload_n hx hb dX6_linkingColumn_7 rfl (lv_at hl 1 rfl) ?_
  obtain ⟨v1, e2, hF⟩ := Option.bind_eq_some_iff.mp hF
  refine z_ild hx hb hK hP 2 gC_2 e2 dX6_linkingColumn_8 ?_
  refine lv_icmp_ge (tgt := 34) hx hb dX6_linkingColumn_9 (by decide) (fun c3 => ?_) (fun c3 => ?_)
  · rw [if_pos c3] at hF
    refine lv_iconst (v := (-1 : Int32)) hx hb dX6_linkingColumn_34 (by decide) ?_
    cases hF
    obtain rfl := extR_ret hq (goL_ret hgo)
    exact z_iret hx hb hr hlocks hK hP hD hS dX6_linkingColumn_35
  · rw [if_neg c3] at hF
    refine lv_aload_n hx hb dX6_linkingColumn_12 rfl (lv_at hl 0 rfl) ?_
    refine va_get (D := D) (ci := 6) (v := .ref (a 4)) (C := RX6) (T := TX6) (N := 5) hx hb hts inlX6 hown hK hP 1 gC_1 rfl 3 (by decide) (hts _ mw_43) (fun _ h9 => h9) rfl dX6_linkingColumn_13 ?_
    refine lv_iload_n hx hb dX6_linkingColumn_16 rfl (lv_at hl 1 rfl) ?_
    refine lv_iconst (v := (4 : Int32)) hx hb dX6_linkingColumn_17 (by decide) ?_
    refine lv_imul hx hb dX6_linkingColumn_18 ?_
    refine lv_iload_n hx hb dX6_linkingColumn_19 rfl (lv_at hl 3 rfl) ?_
    refine lv_iadd hx hb dX6_linkingColumn_20 ?_
    obtain ⟨v4, e5, hF⟩ := Option.bind_eq_some_iff.mp hF
    refine z_ild hx hb hK hP 4 gC_4 e5 dX6_linkingColumn_21 ?_
    refine lv_iload_n hx hb dX6_linkingColumn_22 rfl (lv_at hl 2 rfl) ?_
    refine lv_icmp_ne (tgt := 28) hx hb dX6_linkingColumn_23 (by decide) (fun c6 => ?_) (fun c6 => ?_)
    · rw [if_neg c6] at hF
      refine lv_iinc (v := (x3 + (1 : Int32))) (lv' := [(3, .int (x3 + (1 : Int32))), (0, .ref (a 1)), (1, .int x1), (2, .int x2)]) hx hb dX6_linkingColumn_28 hl (k := 3) rfl rfl (by decide) rfl (fun ls hl => ?_)
      refine lv_goto (tgt := 2) hx hb dX6_linkingColumn_31 (by decide) ?_
      cases hF
      exact ih _ _ _ _ _ _ hgo (Or.inr (⟨rfl, _, _, _, rfl, lv_sub hl [1, 2, 3, 0] rfl⟩)) hP hD hS
    · rw [if_pos c6] at hF
      refine lv_iload_n hx hb dX6_linkingColumn_26 rfl (lv_at hl 3 rfl) ?_
      cases hF
      obtain rfl := extR_ret hq (goL_ret hgo)
      exact z_iret hx hb hr hlocks hK hP hD hS dX6_linkingColumn_27
theorem wk_X6_linkingColumn (σ : Mem) (hC : CX p c cX6_linkingColumn meth (some .int) s m args yX6_linkingColumn.cls 4 D cyI cyZ) (hq : extR q = some r) : ∀ (n : Nat), ∀ (pc : Nat) (x : Unit) (vs : List Int32) (ls : Array Slot) (H : Heap) (locs : List Loc), goL (B_X6_linkingColumn σ) n pc x vs = some q → SH_X6_linkingColumn a ls pc vs → va_P D vwCl (wC cyI cyZ a σ) H → va_D A (wC cyI cyZ a σ) → va_S A s.heap H locs → W p l e (headSpec ts_X6_linkingColumn ({ frames := 0, cells := 0, slots := 0, locals := 0 } : Room)).room s m args below meth c H locs 0 0 (MQ below (QcI D cyI cyZ A (wC cyI cyZ a σ) r) args s 0 0 A) (F0 m pc ls []) := by
  intro n
  induction n with
  | zero => intro pc x vs ls H locs h; exact absurd h (by simp [goL])
  | succ n ih =>
    intro pc x vs ls H locs hgo hsh hP hD hS
    rcases hsh with ⟨rfl, x1, x2, rfl, hl⟩ | ⟨rfl, x1, x2, x3, rfl, hl⟩
    · exact wl_X6_linkingColumn_0 σ hC hq n ih x1 x2 ls H locs hgo hl hP hD hS
    · exact wl_X6_linkingColumn_2 σ hC hq n ih x1 x2 x3 ls H locs hgo hl hP hD hS
end
theorem c_X6_linkingColumn (l : Launch) (D : va_G) (cyI cyZ : ClassId) (a : Nat → Nat) (A : Nat → Prop) (σ : Mem) (x1 : Int32) (x2 : Int32) (r : Int32) (hF : F_X6_linkingColumn σ x1 x2 = some r) : CtI l yX6_linkingColumn ts_X6_linkingColumn ({ frames := 0, cells := 0, slots := 0, locals := 0 } : Room) [.ref (a 1), .int x1, .int x2] D cyI cyZ A (wC cyI cyZ a σ) (wC cyI cyZ a σ) r := by
  refine CtI.of (cc := cX6_linkingColumn) (maxL := 4) (ret := (some .int)) (by decide) rfl (Nat.le_of_ble_eq_true rfl) ?_
  intro p e s m below meth c ls hC hP hD hl
  obtain ⟨q, hq, hr1⟩ := Option.bind_eq_some_iff.mp hF
  obtain ⟨n, hn⟩ := finL_some hq
  exact wk_X6_linkingColumn σ hC hr1 n 0 _ _ ls _ _ hn (Or.inl ⟨rfl, _, _, rfl, hl⟩) hP hD va_S.rf
abbrev ts_X6_cell : List Cond := .code yX6_cell cX6_cell 4 (some .int) :: wsL_law
set_option maxHeartbeats 4000000 in
set_option maxRecDepth 100000 in
theorem c_X6_cell (l : Launch) (D : va_G) (cyI cyZ : ClassId) (a : Nat → Nat) (A : Nat → Prop) (σ : Mem) (x1 : Int32) (x2 : Int32) (x3 : Int32) (r : Int32) (hF : F_X6_cell σ x1 x2 x3 = some r) : CtI l yX6_cell ts_X6_cell ({ frames := 0, cells := 0, slots := 0, locals := 0 } : Room) [.ref (a 1), .int x1, .int x2, .int x3] D cyI cyZ A (wC cyI cyZ a σ) (wC cyI cyZ a σ) r := by
  refine CtI.of (cc := cX6_cell) (maxL := 4) (ret := (some .int)) (by decide) rfl (Nat.le_of_ble_eq_true rfl) ?_
  intro p e s m below meth c ls hC hP hD hl
  obtain ⟨hx, hb, hr, hml, hown, hts, hK, hN, hlocks⟩ := hC
  have hown : s.vm.findClass RX6 = some m.cls := hown
  have hS : va_S A s.heap s.heap [] := va_S.rf
  have hl : lv_has ls 4 [(0, .ref (a 1)), (1, .int x1), (2, .int x2), (3, .int x3)] := hl
  unfold F_X6_cell at hF
  refine lv_aload_n hx hb dX6_cell_0 rfl (lv_at hl 0 rfl) ?_
  refine va_get (D := D) (ci := 6) (v := .ref (a 5)) (C := RX6) (T := TX6) (N := 5) hx hb hts inlX6 hown hK hP 1 gC_1 rfl 4 (by decide) (hts _ mw_44) (fun _ h9 => h9) rfl dX6_cell_1 ?_
  refine lv_iload_n hx hb dX6_cell_4 rfl (lv_at hl 1 rfl) ?_
  refine lv_bipush (v := (20 : Int32)) hx hb dX6_cell_5 (by decide) ?_
  refine lv_imul hx hb dX6_cell_7 ?_
  refine lv_iload_n hx hb dX6_cell_8 rfl (lv_at hl 2 rfl) ?_
  refine lv_iadd hx hb dX6_cell_9 ?_
  refine lv_iconst (v := (4 : Int32)) hx hb dX6_cell_10 (by decide) ?_
  refine lv_imul hx hb dX6_cell_11 ?_
  refine lv_iload_n hx hb dX6_cell_12 rfl (lv_at hl 3 rfl) ?_
  refine lv_iadd hx hb dX6_cell_13 ?_
  obtain ⟨v1, e2, hF⟩ := Option.bind_eq_some_iff.mp hF
  refine z_ild hx hb hK hP 5 gC_5 e2 dX6_cell_14 ?_
  cases hF
  exact z_iret hx hb hr hlocks hK hP hD hS dX6_cell_15
abbrev ts_X6_hasRow : List Cond := .code yX6_hasRow cX6_hasRow 3 (some .boolean) :: wsL_law
set_option maxHeartbeats 4000000 in
set_option maxRecDepth 100000 in
theorem c_X6_hasRow (l : Launch) (D : va_G) (cyI cyZ : ClassId) (a : Nat → Nat) (A : Nat → Prop) (σ : Mem) (x1 : Int32) (x2 : Int32) (r : Int32) (hF : F_X6_hasRow σ x1 x2 = some r) : CtI l yX6_hasRow ts_X6_hasRow ({ frames := 0, cells := 0, slots := 0, locals := 0 } : Room) [.ref (a 1), .int x1, .int x2] D cyI cyZ A (wC cyI cyZ a σ) (wC cyI cyZ a σ) r := by
  refine CtI.of (cc := cX6_hasRow) (maxL := 3) (ret := (some .boolean)) (by decide) rfl (Nat.le_of_ble_eq_true rfl) ?_
  intro p e s m below meth c ls hC hP hD hl
  obtain ⟨hx, hb, hr, hml, hown, hts, hK, hN, hlocks⟩ := hC
  have hown : s.vm.findClass RX6 = some m.cls := hown
  have hS : va_S A s.heap s.heap [] := va_S.rf
  have hl : lv_has ls 3 [(0, .ref (a 1)), (1, .int x1), (2, .int x2)] := hl
  unfold F_X6_hasRow at hF
  refine lv_iload_n hx hb dX6_hasRow_0 rfl (lv_at hl 2 rfl) ?_
  refine lv_if_lt (tgt := 18) hx hb dX6_hasRow_1 (by decide) (fun c1 => ?_) (fun c1 => ?_)
  · rw [if_pos c1] at hF
    refine lv_iconst (v := (0 : Int32)) hx hb dX6_hasRow_18 (by decide) ?_
    cases hF
    exact z_zret hx hb hr hlocks hK hP hD hS rfl dX6_hasRow_19
  · rw [if_neg c1] at hF
    refine lv_iload_n hx hb dX6_hasRow_4 rfl (lv_at hl 2 rfl) ?_
    refine lv_aload_n hx hb dX6_hasRow_5 rfl (lv_at hl 0 rfl) ?_
    refine va_get (D := D) (ci := 6) (v := .ref (a 3)) (C := RX6) (T := TX6) (N := 5) hx hb hts inlX6 hown hK hP 1 gC_1 rfl 2 (by decide) (hts _ mw_42) (fun _ h9 => h9) rfl dX6_hasRow_6 ?_
    refine lv_iload_n hx hb dX6_hasRow_9 rfl (lv_at hl 1 rfl) ?_
    obtain ⟨v2, e3, hF⟩ := Option.bind_eq_some_iff.mp hF
    refine z_ild hx hb hK hP 3 gC_3 e3 dX6_hasRow_10 ?_
    refine lv_icmp_ge (tgt := 18) hx hb dX6_hasRow_11 (by decide) (fun c4 => ?_) (fun c4 => ?_)
    · rw [if_pos c4] at hF
      refine lv_iconst (v := (0 : Int32)) hx hb dX6_hasRow_18 (by decide) ?_
      cases hF
      exact z_zret hx hb hr hlocks hK hP hD hS rfl dX6_hasRow_19
    · rw [if_neg c4] at hF
      refine lv_iconst (v := (1 : Int32)) hx hb dX6_hasRow_14 (by decide) ?_
      refine lv_goto (tgt := 19) hx hb dX6_hasRow_15 (by decide) ?_
      cases hF
      exact z_zret hx hb hr hlocks hK hP hD hS rfl dX6_hasRow_19
abbrev ts_X2_thanOf : List Cond := .code yX2_thanOf cX2_thanOf 2 (some .int) :: wsL_law
set_option maxHeartbeats 4000000 in
set_option maxRecDepth 100000 in
theorem c_X2_thanOf (l : Launch) (D : va_G) (cyI cyZ : ClassId) (a : Nat → Nat) (A : Nat → Prop) (σ : Mem) (x1 : Int32) (r : Int32) (hF : F_X2_thanOf σ x1 = some r) : CtI l yX2_thanOf ts_X2_thanOf ({ frames := 0, cells := 0, slots := 0, locals := 0 } : Room) [.ref (a 17), .int x1] D cyI cyZ A (wC cyI cyZ a σ) (wC cyI cyZ a σ) r := by
  refine CtI.of (cc := cX2_thanOf) (maxL := 2) (ret := (some .int)) (by decide) rfl (Nat.le_of_ble_eq_true rfl) ?_
  intro p e s m below meth c ls hC hP hD hl
  obtain ⟨hx, hb, hr, hml, hown, hts, hK, hN, hlocks⟩ := hC
  have hown : s.vm.findClass RX2 = some m.cls := hown
  have hS : va_S A s.heap s.heap [] := va_S.rf
  have hl : lv_has ls 2 [(0, .ref (a 17)), (1, .int x1)] := hl
  unfold F_X2_thanOf at hF
  refine lv_aload_n hx hb dX2_thanOf_0 rfl (lv_at hl 0 rfl) ?_
  refine va_get (D := D) (ci := 2) (v := .ref (a 20)) (C := RX2) (T := TX2) (N := 13) hx hb hts inlX2 hown hK hP 17 gC_17 rfl 10 (by decide) (hts _ mw_86) (fun _ h9 => h9) rfl dX2_thanOf_1 ?_
  refine lv_iload_n hx hb dX2_thanOf_4 rfl (lv_at hl 1 rfl) ?_
  obtain ⟨v1, e2, hF⟩ := Option.bind_eq_some_iff.mp hF
  refine z_ild hx hb hK hP 20 gC_20 e2 dX2_thanOf_5 ?_
  cases hF
  exact z_iret hx hb hr hlocks hK hP hD hS dX2_thanOf_6
abbrev ts_X2_numberOf : List Cond := .code yX2_numberOf cX2_numberOf 2 (some .int) :: wsL_law
set_option maxHeartbeats 4000000 in
set_option maxRecDepth 100000 in
theorem c_X2_numberOf (l : Launch) (D : va_G) (cyI cyZ : ClassId) (a : Nat → Nat) (A : Nat → Prop) (σ : Mem) (x1 : Int32) (r : Int32) (hF : F_X2_numberOf σ x1 = some r) : CtI l yX2_numberOf ts_X2_numberOf ({ frames := 0, cells := 0, slots := 0, locals := 0 } : Room) [.ref (a 17), .int x1] D cyI cyZ A (wC cyI cyZ a σ) (wC cyI cyZ a σ) r := by
  refine CtI.of (cc := cX2_numberOf) (maxL := 2) (ret := (some .int)) (by decide) rfl (Nat.le_of_ble_eq_true rfl) ?_
  intro p e s m below meth c ls hC hP hD hl
  obtain ⟨hx, hb, hr, hml, hown, hts, hK, hN, hlocks⟩ := hC
  have hown : s.vm.findClass RX2 = some m.cls := hown
  have hS : va_S A s.heap s.heap [] := va_S.rf
  have hl : lv_has ls 2 [(0, .ref (a 17)), (1, .int x1)] := hl
  unfold F_X2_numberOf at hF
  refine lv_aload_n hx hb dX2_numberOf_0 rfl (lv_at hl 0 rfl) ?_
  refine va_get (D := D) (ci := 2) (v := .ref (a 21)) (C := RX2) (T := TX2) (N := 13) hx hb hts inlX2 hown hK hP 17 gC_17 rfl 11 (by decide) (hts _ mw_87) (fun _ h9 => h9) rfl dX2_numberOf_1 ?_
  refine lv_iload_n hx hb dX2_numberOf_4 rfl (lv_at hl 1 rfl) ?_
  obtain ⟨v1, e2, hF⟩ := Option.bind_eq_some_iff.mp hF
  refine z_ild hx hb hK hP 21 gC_21 e2 dX2_numberOf_5 ?_
  cases hF
  exact z_iret hx hb hr hlocks hK hP hD hS dX2_numberOf_6
abbrev ts_X1_holds : List Cond := .code yX1_holds cX1_holds 3 (some .boolean) :: wsL_law
set_option maxHeartbeats 4000000 in
set_option maxRecDepth 100000 in
theorem c_X1_holds (l : Launch) (D : va_G) (cyI cyZ : ClassId) (A : Nat → Prop) (w : va_W) (x0 : Int32) (x1 : Int32) (x2 : Int32) (r : Int32) (hF : F_X1_holds x0 x1 x2 = r) : CtI l yX1_holds ts_X1_holds ({ frames := 0, cells := 0, slots := 0, locals := 0 } : Room) [.int x0, .int x1, .int x2] D cyI cyZ A w w r := by
  refine CtI.of (cc := cX1_holds) (maxL := 3) (ret := (some .boolean)) (by decide) rfl (Nat.le_of_ble_eq_true rfl) ?_
  intro p e s m below meth c ls hC hP hD hl
  obtain ⟨hx, hb, hr, hml, hown, hts, hK, hN, hlocks⟩ := hC
  have hown : s.vm.findClass RX1 = some m.cls := hown
  have hS : va_S A s.heap s.heap [] := va_S.rf
  have hl : lv_has ls 3 [(0, .int x0), (1, .int x1), (2, .int x2)] := hl
  unfold F_X1_holds at hF
  refine lv_iload_n hx hb dX1_holds_0 rfl (lv_at hl 1 rfl) ?_
  by_cases c1 : x1 = (0 : Int32)
  · rw [if_pos c1] at hF
    refine lv_lookup (off := 27) (tgt := 28) hx hb dX1_holds_1 (by decide) (by rw [c1]; rfl) (by decide) ?_
    refine lv_iload_n hx hb dX1_holds_28 rfl (lv_at hl 0 rfl) ?_
    refine lv_iload_n hx hb dX1_holds_29 rfl (lv_at hl 2 rfl) ?_
    refine lv_icmp_le (tgt := 37) hx hb dX1_holds_30 (by decide) (fun c2 => ?_) (fun c2 => ?_)
    · rw [if_pos c2] at hF
      refine lv_iconst (v := (0 : Int32)) hx hb dX1_holds_37 (by decide) ?_
      subst hF
      exact z_zret hx hb hr hlocks hK hP hD hS rfl dX1_holds_38
    · rw [if_neg c2] at hF
      refine lv_iconst (v := (1 : Int32)) hx hb dX1_holds_33 (by decide) ?_
      refine lv_goto (tgt := 38) hx hb dX1_holds_34 (by decide) ?_
      subst hF
      exact z_zret hx hb hr hlocks hK hP hD hS rfl dX1_holds_38
  · rw [if_neg c1] at hF
    by_cases c3 : x1 = (1 : Int32)
    · rw [if_pos c3] at hF
      refine lv_lookup (off := 38) (tgt := 39) hx hb dX1_holds_1 (by decide) (by rw [c3]; rfl) (by decide) ?_
      refine lv_iload_n hx hb dX1_holds_39 rfl (lv_at hl 0 rfl) ?_
      refine lv_iload_n hx hb dX1_holds_40 rfl (lv_at hl 2 rfl) ?_
      refine lv_icmp_ge (tgt := 48) hx hb dX1_holds_41 (by decide) (fun c4 => ?_) (fun c4 => ?_)
      · rw [if_pos c4] at hF
        refine lv_iconst (v := (0 : Int32)) hx hb dX1_holds_48 (by decide) ?_
        subst hF
        exact z_zret hx hb hr hlocks hK hP hD hS rfl dX1_holds_49
      · rw [if_neg c4] at hF
        refine lv_iconst (v := (1 : Int32)) hx hb dX1_holds_44 (by decide) ?_
        refine lv_goto (tgt := 49) hx hb dX1_holds_45 (by decide) ?_
        subst hF
        exact z_zret hx hb hr hlocks hK hP hD hS rfl dX1_holds_49
    · rw [if_neg c3] at hF
      refine lv_lookup (off := 49) (tgt := 50) hx hb dX1_holds_1 (by decide) ((lv_osw c1 rfl).trans ((lv_osw c3 rfl).trans (rfl))) (by decide) ?_
      refine lv_iload_n hx hb dX1_holds_50 rfl (lv_at hl 0 rfl) ?_
      refine lv_iload_n hx hb dX1_holds_51 rfl (lv_at hl 2 rfl) ?_
      refine lv_icmp_ne (tgt := 59) hx hb dX1_holds_52 (by decide) (fun c5 => ?_) (fun c5 => ?_)
      · rw [if_neg c5] at hF
        refine lv_iconst (v := (0 : Int32)) hx hb dX1_holds_59 (by decide) ?_
        subst hF
        exact z_zret hx hb hr hlocks hK hP hD hS rfl dX1_holds_60
      · rw [if_pos c5] at hF
        refine lv_iconst (v := (1 : Int32)) hx hb dX1_holds_55 (by decide) ?_
        refine lv_goto (tgt := 60) hx hb dX1_holds_56 (by decide) ?_
        subst hF
        exact z_zret hx hb hr hlocks hK hP hD hS rfl dX1_holds_60
