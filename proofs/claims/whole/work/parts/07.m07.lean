-- X5_sortByCost X5_refresh X5_size X5_has X5_near X6_size X6_hasTable X6_hasColumn X6_hasCell X6_addTable X6_addRow X6_setCell X6_changeLink X7_size X7_addMeaning X7_dropMeanings
abbrev ts_X5_sortByCost : List Cond := .code yX5_sortByCost cX5_sortByCost 3 none :: wsL_law
def SH_X5_sortByCost (a : Nat → Nat) (ls : Array Slot) (pc : Nat) (vs : List Int32) : Prop := (pc = 0 ∧ vs = [] ∧ lv_has ls 3 [(0, .ref (a 16))]) ∨ (pc = 10 ∧ ∃ x1 : Int32, vs = [x1] ∧ lv_has ls 3 [(0, .ref (a 16)), (1, .int x1)]) ∨ (pc = 42 ∧ ∃ x1 : Int32, vs = [x1] ∧ lv_has ls 3 [(0, .ref (a 16)), (1, .int x1)]) ∨ (pc = 76 ∧ ∃ x1 : Int32, vs = [x1] ∧ lv_has ls 3 [(0, .ref (a 16)), (1, .int x1)])
section
variable {p : Program} {l : Launch} {e : Env} {s : State} {m : MethodId} {args : Array Value} {below : List Frame} {meth : Method} {c : Code} {D : va_G} {A : Nat → Prop} {a : Nat → Nat} {cyI cyZ : ClassId} {σ' : Mem} {q : Mem × List Int32}
set_option maxHeartbeats 4000000 in
set_option maxRecDepth 100000 in
theorem wl_X5_sortByCost_0 (σ : Mem) (hC : CX p c cX5_sortByCost meth none s m args yX5_sortByCost.cls 3 D cyI cyZ) (hq : extV q = some σ') (n : Nat) (ih : ∀ (pc : Nat) (x : Mem) (vs : List Int32) (ls : Array Slot) (H : Heap) (locs : List Loc), goL B_X5_sortByCost n pc x vs = some q → SH_X5_sortByCost a ls pc vs → va_P D vwCl (wC cyI cyZ a x) H → va_D A (wC cyI cyZ a x) → va_S A s.heap H locs → W p l e (headSpec ts_X5_sortByCost ({ frames := 1, cells := 0, slots := 0, locals := 23 } : Room)).room s m args below meth c H locs 0 0 (MQ below (QcV D cyI cyZ A (wC cyI cyZ a σ')) args s 0 0 A) (F0 m pc ls [])) (ls : Array Slot) (H : Heap) (locs : List Loc) (hgo : goL B_X5_sortByCost (n + 1) 0 σ [] = some q) (hl : lv_has ls 3 [(0, .ref (a 16))]) (hP : va_P D vwCl (wC cyI cyZ a σ) H) (hD : va_D A (wC cyI cyZ a σ)) (hS : va_S A s.heap H locs) : W p l e (headSpec ts_X5_sortByCost ({ frames := 1, cells := 0, slots := 0, locals := 23 } : Room)).room s m args below meth c H locs 0 0 (MQ below (QcV D cyI cyZ A (wC cyI cyZ a σ')) args s 0 0 A) (F0 m 0 ls []) := by
  obtain ⟨hx, hb, hr, hml, hown, hts, hK, hN, hlocks⟩ := hC
  have hown : s.vm.findClass RX5 = some m.cls := hown
  obtain ⟨yy, hF, hgo⟩ := goL_step (by decide) hgo
  have hF : B_X5_sortByCost_0 σ  = some yy := hF
  unfold B_X5_sortByCost_0 at hF
  refine lv_aload_n hx hb dX5_sortByCost_0 rfl (lv_at hl 0 rfl) ?_
  refine va_get (D := D) (ci := 5) (v := .ref (a 23)) (C := RX5) (T := TX5) (N := 11) hx hb hts inlX5 hown hK hP 16 gC_16 rfl 4 (by decide) (hts _ mw_73) (fun _ h9 => h9) rfl dX5_sortByCost_1 ?_
  refine lv_iconst (v := (0 : Int32)) hx hb dX5_sortByCost_4 (by decide) ?_
  obtain ⟨σ1, e2, hF⟩ := Option.bind_eq_some_iff.mp hF
  refine z_callSV (w' := (wC cyI cyZ a σ1)) (As := [.ref (a 23), .int (0 : Int32)]) (rest := []) ⟨hx, hb, hml, hown, hts⟩ (c_fill23 l D cyI cyZ a A σ (0 : Int32) σ1 e2) (va_cwS 2 hts (gd_S mw_519 mw_47 mw_48 mw_49) rfl rfl rfl (by decide +kernel) ⟨Nat.le_of_ble_eq_true rfl, Nat.le_of_ble_eq_true rfl⟩) hK hN hP hD hS rfl hl.1 rfl (Nat.le_of_ble_eq_true rfl) dX5_sortByCost_5 ⟨Nat.zero_le _, Nat.zero_le _⟩ (fun H locs hP hD hS => ?_)
  refine lv_iconst (v := (0 : Int32)) hx hb dX5_sortByCost_8 (by decide) ?_
  refine lv_istore_n (lv' := [(1, .int (0 : Int32)), (0, .ref (a 16))]) hx hb dX5_sortByCost_9 rfl hl (by decide) rfl (fun ls hl => ?_)
  cases hF
  exact ih _ _ _ _ _ _ hgo (Or.inr (Or.inl ⟨rfl, _, rfl, lv_sub hl [1, 0] rfl⟩)) hP hD hS
set_option maxHeartbeats 4000000 in
set_option maxRecDepth 100000 in
theorem wl_X5_sortByCost_10 (σ : Mem) (hC : CX p c cX5_sortByCost meth none s m args yX5_sortByCost.cls 3 D cyI cyZ) (hq : extV q = some σ') (n : Nat) (ih : ∀ (pc : Nat) (x : Mem) (vs : List Int32) (ls : Array Slot) (H : Heap) (locs : List Loc), goL B_X5_sortByCost n pc x vs = some q → SH_X5_sortByCost a ls pc vs → va_P D vwCl (wC cyI cyZ a x) H → va_D A (wC cyI cyZ a x) → va_S A s.heap H locs → W p l e (headSpec ts_X5_sortByCost ({ frames := 1, cells := 0, slots := 0, locals := 23 } : Room)).room s m args below meth c H locs 0 0 (MQ below (QcV D cyI cyZ A (wC cyI cyZ a σ')) args s 0 0 A) (F0 m pc ls [])) (x1 : Int32) (ls : Array Slot) (H : Heap) (locs : List Loc) (hgo : goL B_X5_sortByCost (n + 1) 10 σ [x1] = some q) (hl : lv_has ls 3 [(0, .ref (a 16)), (1, .int x1)]) (hP : va_P D vwCl (wC cyI cyZ a σ) H) (hD : va_D A (wC cyI cyZ a σ)) (hS : va_S A s.heap H locs) : W p l e (headSpec ts_X5_sortByCost ({ frames := 1, cells := 0, slots := 0, locals := 23 } : Room)).room s m args below meth c H locs 0 0 (MQ below (QcV D cyI cyZ A (wC cyI cyZ a σ')) args s 0 0 A) (F0 m 10 ls []) := by
  obtain ⟨hx, hb, hr, hml, hown, hts, hK, hN, hlocks⟩ := hC
  have hown : s.vm.findClass RX5 = some m.cls := hown
  obtain ⟨yy, hF, hgo⟩ := goL_step (by decide) hgo
  have hF : B_X5_sortByCost_10 σ x1 = some yy := hF
  unfold B_X5_sortByCost_10 at hF
  refine lv_iload_n hx hb dX5_sortByCost_10 rfl (lv_at hl 1 rfl) ?_
  refine lv_aload_n hx hb dX5_sortByCost_11 rfl (lv_at hl 0 rfl) ?_
  refine va_get (D := D) (ci := 5) (v := .int (σ 16 8)) (C := RX5) (T := TX5) (N := 11) hx hb hts inlX5 hown hK hP 16 gC_16 rfl 9 (by decide) (hts _ mw_393) (fun _ h9 => h9) rfl dX5_sortByCost_12 ?_
  refine lv_icmp_ge (tgt := 40) hx hb dX5_sortByCost_15 (by decide) (fun c1 => ?_) (fun c1 => ?_)
  · rw [if_pos c1] at hF
    refine lv_iconst (v := (1 : Int32)) hx hb dX5_sortByCost_40 (by decide) ?_
    refine lv_istore_n (lv' := [(1, .int (1 : Int32)), (0, .ref (a 16))]) hx hb dX5_sortByCost_41 rfl hl (by decide) rfl (fun ls hl => ?_)
    cases hF
    exact ih _ _ _ _ _ _ hgo (Or.inr (Or.inr (Or.inl ⟨rfl, _, rfl, lv_sub hl [1, 0] rfl⟩))) hP hD hS
  · rw [if_neg c1] at hF
    refine lv_aload_n hx hb dX5_sortByCost_18 rfl (lv_at hl 0 rfl) ?_
    refine va_get (D := D) (ci := 5) (v := .ref (a 23)) (C := RX5) (T := TX5) (N := 11) hx hb hts inlX5 hown hK hP 16 gC_16 rfl 4 (by decide) (hts _ mw_73) (fun _ h9 => h9) rfl dX5_sortByCost_19 ?_
    refine lv_aload_n hx hb dX5_sortByCost_22 rfl (lv_at hl 0 rfl) ?_
    refine lv_iload_n hx hb dX5_sortByCost_23 rfl (lv_at hl 1 rfl) ?_
    obtain ⟨v2, e3, hF⟩ := Option.bind_eq_some_iff.mp hF
    refine z_callVI (w' := (wC cyI cyZ a σ)) (As := [.int x1]) (rest := [.ref (a 23)]) ⟨hx, hb, hml, hown, hts⟩ (c_X5_costAt l D cyI cyZ a A σ x1 _ e3) (cwV 1 hts (gd_V mw_520 mw_521 mw_522 mw_26 mw_523) rfl rfl rfl (by decide +kernel) ⟨Nat.le_of_ble_eq_true rfl, Nat.le_of_ble_eq_true rfl⟩) hK hN hP hD hS 5 16 rfl rfl gC_16 rfl hl.1 rfl (Nat.le_of_ble_eq_true rfl) dX5_sortByCost_24 ⟨Nat.zero_le _, Nat.zero_le _⟩ (fun H locs hP hD hS => ?_)
    refine lv_iconst (v := (1 : Int32)) hx hb dX5_sortByCost_27 (by decide) ?_
    refine lv_iadd hx hb dX5_sortByCost_28 ?_
    refine lv_dup2_11 hx hb dX5_sortByCost_29 rfl rfl ?_
    obtain ⟨v4, e5, hF⟩ := Option.bind_eq_some_iff.mp hF
    refine z_ild hx hb hK hP 23 gC_23 e5 dX5_sortByCost_30 ?_
    refine lv_iconst (v := (1 : Int32)) hx hb dX5_sortByCost_31 (by decide) ?_
    refine lv_iadd hx hb dX5_sortByCost_32 ?_
    obtain ⟨σ6, e7, hF⟩ := Option.bind_eq_some_iff.mp hF
    refine z_ist (wC cyI cyZ a) hx hb hK hP hD hS 23 gC_23 sC_23 e7 dX5_sortByCost_33 (fun H locs hP hD hS => ?_)
    refine lv_iinc (v := (x1 + (1 : Int32))) (lv' := [(1, .int (x1 + (1 : Int32))), (0, .ref (a 16))]) hx hb dX5_sortByCost_34 hl (k := 1) rfl rfl (by decide) rfl (fun ls hl => ?_)
    refine lv_goto (tgt := 10) hx hb dX5_sortByCost_37 (by decide) ?_
    cases hF
    exact ih _ _ _ _ _ _ hgo (Or.inr (Or.inl ⟨rfl, _, rfl, lv_sub hl [1, 0] rfl⟩)) hP hD hS
set_option maxHeartbeats 4000000 in
set_option maxRecDepth 100000 in
theorem wl_X5_sortByCost_42 (σ : Mem) (hC : CX p c cX5_sortByCost meth none s m args yX5_sortByCost.cls 3 D cyI cyZ) (hq : extV q = some σ') (n : Nat) (ih : ∀ (pc : Nat) (x : Mem) (vs : List Int32) (ls : Array Slot) (H : Heap) (locs : List Loc), goL B_X5_sortByCost n pc x vs = some q → SH_X5_sortByCost a ls pc vs → va_P D vwCl (wC cyI cyZ a x) H → va_D A (wC cyI cyZ a x) → va_S A s.heap H locs → W p l e (headSpec ts_X5_sortByCost ({ frames := 1, cells := 0, slots := 0, locals := 23 } : Room)).room s m args below meth c H locs 0 0 (MQ below (QcV D cyI cyZ A (wC cyI cyZ a σ')) args s 0 0 A) (F0 m pc ls [])) (x1 : Int32) (ls : Array Slot) (H : Heap) (locs : List Loc) (hgo : goL B_X5_sortByCost (n + 1) 42 σ [x1] = some q) (hl : lv_has ls 3 [(0, .ref (a 16)), (1, .int x1)]) (hP : va_P D vwCl (wC cyI cyZ a σ) H) (hD : va_D A (wC cyI cyZ a σ)) (hS : va_S A s.heap H locs) : W p l e (headSpec ts_X5_sortByCost ({ frames := 1, cells := 0, slots := 0, locals := 23 } : Room)).room s m args below meth c H locs 0 0 (MQ below (QcV D cyI cyZ A (wC cyI cyZ a σ')) args s 0 0 A) (F0 m 42 ls []) := by
  obtain ⟨hx, hb, hr, hml, hown, hts, hK, hN, hlocks⟩ := hC
  have hown : s.vm.findClass RX5 = some m.cls := hown
  obtain ⟨yy, hF, hgo⟩ := goL_step (by decide) hgo
  have hF : B_X5_sortByCost_42 σ x1 = some yy := hF
  unfold B_X5_sortByCost_42 at hF
  refine lv_iload_n hx hb dX5_sortByCost_42 rfl (lv_at hl 1 rfl) ?_
  refine lv_aload_n hx hb dX5_sortByCost_43 rfl (lv_at hl 0 rfl) ?_
  refine va_get (D := D) (ci := 5) (v := .ref (a 23)) (C := RX5) (T := TX5) (N := 11) hx hb hts inlX5 hown hK hP 16 gC_16 rfl 4 (by decide) (hts _ mw_73) (fun _ h9 => h9) rfl dX5_sortByCost_44 ?_
  refine va_alen (v := (794 : Int32)) hx hb hK hP 23 0 gC_23 rfl rfl dX5_sortByCost_47 ?_
  refine lv_icmp_ge (tgt := 74) hx hb dX5_sortByCost_48 (by decide) (fun c1 => ?_) (fun c1 => ?_)
  · rw [if_pos c1] at hF
    refine lv_iconst (v := (0 : Int32)) hx hb dX5_sortByCost_74 (by decide) ?_
    refine lv_istore_n (lv' := [(1, .int (0 : Int32)), (0, .ref (a 16))]) hx hb dX5_sortByCost_75 rfl hl (by decide) rfl (fun ls hl => ?_)
    cases hF
    exact ih _ _ _ _ _ _ hgo (Or.inr (Or.inr (Or.inr (⟨rfl, _, rfl, lv_sub hl [1, 0] rfl⟩)))) hP hD hS
  · rw [if_neg c1] at hF
    refine lv_aload_n hx hb dX5_sortByCost_51 rfl (lv_at hl 0 rfl) ?_
    refine va_get (D := D) (ci := 5) (v := .ref (a 23)) (C := RX5) (T := TX5) (N := 11) hx hb hts inlX5 hown hK hP 16 gC_16 rfl 4 (by decide) (hts _ mw_73) (fun _ h9 => h9) rfl dX5_sortByCost_52 ?_
    refine lv_iload_n hx hb dX5_sortByCost_55 rfl (lv_at hl 1 rfl) ?_
    refine lv_dup2_11 hx hb dX5_sortByCost_56 rfl rfl ?_
    obtain ⟨v2, e3, hF⟩ := Option.bind_eq_some_iff.mp hF
    refine z_ild hx hb hK hP 23 gC_23 e3 dX5_sortByCost_57 ?_
    refine lv_aload_n hx hb dX5_sortByCost_58 rfl (lv_at hl 0 rfl) ?_
    refine va_get (D := D) (ci := 5) (v := .ref (a 23)) (C := RX5) (T := TX5) (N := 11) hx hb hts inlX5 hown hK hP 16 gC_16 rfl 4 (by decide) (hts _ mw_73) (fun _ h9 => h9) rfl dX5_sortByCost_59 ?_
    refine lv_iload_n hx hb dX5_sortByCost_62 rfl (lv_at hl 1 rfl) ?_
    refine lv_iconst (v := (1 : Int32)) hx hb dX5_sortByCost_63 (by decide) ?_
    refine lv_isub hx hb dX5_sortByCost_64 ?_
    obtain ⟨v4, e5, hF⟩ := Option.bind_eq_some_iff.mp hF
    refine z_ild hx hb hK hP 23 gC_23 e5 dX5_sortByCost_65 ?_
    refine lv_iadd hx hb dX5_sortByCost_66 ?_
    obtain ⟨σ6, e7, hF⟩ := Option.bind_eq_some_iff.mp hF
    refine z_ist (wC cyI cyZ a) hx hb hK hP hD hS 23 gC_23 sC_23 e7 dX5_sortByCost_67 (fun H locs hP hD hS => ?_)
    refine lv_iinc (v := (x1 + (1 : Int32))) (lv' := [(1, .int (x1 + (1 : Int32))), (0, .ref (a 16))]) hx hb dX5_sortByCost_68 hl (k := 1) rfl rfl (by decide) rfl (fun ls hl => ?_)
    refine lv_goto (tgt := 42) hx hb dX5_sortByCost_71 (by decide) ?_
    cases hF
    exact ih _ _ _ _ _ _ hgo (Or.inr (Or.inr (Or.inl ⟨rfl, _, rfl, lv_sub hl [1, 0] rfl⟩))) hP hD hS
set_option maxHeartbeats 4000000 in
set_option maxRecDepth 100000 in
theorem wl_X5_sortByCost_76 (σ : Mem) (hC : CX p c cX5_sortByCost meth none s m args yX5_sortByCost.cls 3 D cyI cyZ) (hq : extV q = some σ') (n : Nat) (ih : ∀ (pc : Nat) (x : Mem) (vs : List Int32) (ls : Array Slot) (H : Heap) (locs : List Loc), goL B_X5_sortByCost n pc x vs = some q → SH_X5_sortByCost a ls pc vs → va_P D vwCl (wC cyI cyZ a x) H → va_D A (wC cyI cyZ a x) → va_S A s.heap H locs → W p l e (headSpec ts_X5_sortByCost ({ frames := 1, cells := 0, slots := 0, locals := 23 } : Room)).room s m args below meth c H locs 0 0 (MQ below (QcV D cyI cyZ A (wC cyI cyZ a σ')) args s 0 0 A) (F0 m pc ls [])) (x1 : Int32) (ls : Array Slot) (H : Heap) (locs : List Loc) (hgo : goL B_X5_sortByCost (n + 1) 76 σ [x1] = some q) (hl : lv_has ls 3 [(0, .ref (a 16)), (1, .int x1)]) (hP : va_P D vwCl (wC cyI cyZ a σ) H) (hD : va_D A (wC cyI cyZ a σ)) (hS : va_S A s.heap H locs) : W p l e (headSpec ts_X5_sortByCost ({ frames := 1, cells := 0, slots := 0, locals := 23 } : Room)).room s m args below meth c H locs 0 0 (MQ below (QcV D cyI cyZ A (wC cyI cyZ a σ')) args s 0 0 A) (F0 m 76 ls []) := by
  obtain ⟨hx, hb, hr, hml, hown, hts, hK, hN, hlocks⟩ := hC
  have hown : s.vm.findClass RX5 = some m.cls := hown
  obtain ⟨yy, hF, hgo⟩ := goL_step (by decide) hgo
  have hF : B_X5_sortByCost_76 σ x1 = some yy := hF
  unfold B_X5_sortByCost_76 at hF
  refine lv_iload_n hx hb dX5_sortByCost_76 rfl (lv_at hl 1 rfl) ?_
  refine lv_aload_n hx hb dX5_sortByCost_77 rfl (lv_at hl 0 rfl) ?_
  refine va_get (D := D) (ci := 5) (v := .int (σ 16 8)) (C := RX5) (T := TX5) (N := 11) hx hb hts inlX5 hown hK hP 16 gC_16 rfl 9 (by decide) (hts _ mw_393) (fun _ h9 => h9) rfl dX5_sortByCost_78 ?_
  refine lv_icmp_ge (tgt := 123) hx hb dX5_sortByCost_81 (by decide) (fun c1 => ?_) (fun c1 => ?_)
  · rw [if_pos c1] at hF
    refine lv_aload_n hx hb dX5_sortByCost_123 rfl (lv_at hl 0 rfl) ?_
    obtain ⟨σ2, e3, hF⟩ := Option.bind_eq_some_iff.mp hF
    refine z_callVV (w' := (wC cyI cyZ a σ2)) (As := []) (rest := []) ⟨hx, hb, hml, hown, hts⟩ (c_X5_swap l D cyI cyZ a A σ  σ2 e3) (cwV 0 hts (gd_V mw_440 mw_441 mw_442 mw_26 mw_443) rfl rfl rfl (by decide +kernel) ⟨Nat.le_of_ble_eq_true rfl, Nat.le_of_ble_eq_true rfl⟩) hK hN hP hD hS 5 16 rfl rfl gC_16 rfl hl.1 rfl (Nat.le_of_ble_eq_true rfl) dX5_sortByCost_124 ⟨Nat.zero_le _, Nat.zero_le _⟩ (fun H locs hP hD hS => ?_)
    cases hF
    obtain rfl := extV_ret hq (goL_ret hgo)
    exact z_vret hx hb hr hlocks hK hP hD hS dX5_sortByCost_127
  · rw [if_neg c1] at hF
    refine lv_aload_n hx hb dX5_sortByCost_84 rfl (lv_at hl 0 rfl) ?_
    refine lv_iload_n hx hb dX5_sortByCost_85 rfl (lv_at hl 1 rfl) ?_
    obtain ⟨v4, e5, hF⟩ := Option.bind_eq_some_iff.mp hF
    refine z_callVI (w' := (wC cyI cyZ a σ)) (As := [.int x1]) (rest := []) ⟨hx, hb, hml, hown, hts⟩ (c_X5_costAt l D cyI cyZ a A σ x1 _ e5) (cwV 1 hts (gd_V mw_520 mw_521 mw_522 mw_26 mw_523) rfl rfl rfl (by decide +kernel) ⟨Nat.le_of_ble_eq_true rfl, Nat.le_of_ble_eq_true rfl⟩) hK hN hP hD hS 5 16 rfl rfl gC_16 rfl hl.1 rfl (Nat.le_of_ble_eq_true rfl) dX5_sortByCost_86 ⟨Nat.zero_le _, Nat.zero_le _⟩ (fun H locs hP hD hS => ?_)
    refine lv_istore_n (lv' := [(2, .int v4), (0, .ref (a 16)), (1, .int x1)]) hx hb dX5_sortByCost_89 rfl hl (by decide) rfl (fun ls hl => ?_)
    refine lv_aload_n hx hb dX5_sortByCost_90 rfl (lv_at hl 1 rfl) ?_
    refine va_get (D := D) (ci := 5) (v := .ref (a (ky σ))) (C := RX5) (T := TX5) (N := 11) hx hb hts inlX5 hown hK hP 16 gC_16 rfl 8 (by decide) (hts _ mw_77) (fun _ h9 => h9) rfl dX5_sortByCost_91 ?_
    refine lv_aload_n hx hb dX5_sortByCost_94 rfl (lv_at hl 1 rfl) ?_
    refine va_get (D := D) (ci := 5) (v := .ref (a 23)) (C := RX5) (T := TX5) (N := 11) hx hb hts inlX5 hown hK hP 16 gC_16 rfl 4 (by decide) (hts _ mw_73) (fun _ h9 => h9) rfl dX5_sortByCost_95 ?_
    refine lv_iload_n hx hb dX5_sortByCost_98 rfl (lv_at hl 0 rfl) ?_
    obtain ⟨v6, e7, hF⟩ := Option.bind_eq_some_iff.mp hF
    refine z_ild hx hb hK hP 23 gC_23 e7 dX5_sortByCost_99 ?_
    refine lv_aload_n hx hb dX5_sortByCost_100 rfl (lv_at hl 1 rfl) ?_
    refine va_get (D := D) (ci := 5) (v := .ref (a (kx σ))) (C := RX5) (T := TX5) (N := 11) hx hb hts inlX5 hown hK hP 16 gC_16 rfl 7 (by decide) (hts _ mw_76) (fun _ h9 => h9) rfl dX5_sortByCost_101 ?_
    refine lv_iload_n hx hb dX5_sortByCost_104 rfl (lv_at hl 2 rfl) ?_
    obtain ⟨v8, e9, hF⟩ := Option.bind_eq_some_iff.mp hF
    refine z_ild hx hb hK hP (kx σ) gC_K e9 dX5_sortByCost_105 ?_
    obtain ⟨σ10, e11, hF⟩ := Option.bind_eq_some_iff.mp hF
    refine z_ist (wC cyI cyZ a) hx hb hK hP hD hS (ky σ) gC_S sC_S e11 dX5_sortByCost_106 (fun H locs hP hD hS => ?_)
    refine lv_aload_n hx hb dX5_sortByCost_107 rfl (lv_at hl 1 rfl) ?_
    refine va_get (D := D) (ci := 5) (v := .ref (a 23)) (C := RX5) (T := TX5) (N := 11) hx hb hts inlX5 hown hK hP 16 gC_16 rfl 4 (by decide) (hts _ mw_73) (fun _ h9 => h9) rfl dX5_sortByCost_108 ?_
    refine lv_iload_n hx hb dX5_sortByCost_111 rfl (lv_at hl 0 rfl) ?_
    refine lv_dup2_11 hx hb dX5_sortByCost_112 rfl rfl ?_
    obtain ⟨v12, e13, hF⟩ := Option.bind_eq_some_iff.mp hF
    refine z_ild hx hb hK hP 23 gC_23 e13 dX5_sortByCost_113 ?_
    refine lv_iconst (v := (1 : Int32)) hx hb dX5_sortByCost_114 (by decide) ?_
    refine lv_iadd hx hb dX5_sortByCost_115 ?_
    obtain ⟨σ14, e15, hF⟩ := Option.bind_eq_some_iff.mp hF
    refine z_ist (wC cyI cyZ a) hx hb hK hP hD hS 23 gC_23 sC_23 e15 dX5_sortByCost_116 (fun H locs hP hD hS => ?_)
    refine lv_iinc (v := (x1 + (1 : Int32))) (lv' := [(1, .int (x1 + (1 : Int32))), (2, .int v4), (0, .ref (a 16))]) hx hb dX5_sortByCost_117 hl (k := 2) rfl rfl (by decide) rfl (fun ls hl => ?_)
    refine lv_goto (tgt := 76) hx hb dX5_sortByCost_120 (by decide) ?_
    cases hF
    exact ih _ _ _ _ _ _ hgo (Or.inr (Or.inr (Or.inr (⟨rfl, _, rfl, lv_sub hl [2, 0] rfl⟩)))) hP hD hS
theorem wk_X5_sortByCost (hC : CX p c cX5_sortByCost meth none s m args yX5_sortByCost.cls 3 D cyI cyZ) (hq : extV q = some σ') : ∀ (n : Nat), ∀ (pc : Nat) (x : Mem) (vs : List Int32) (ls : Array Slot) (H : Heap) (locs : List Loc), goL B_X5_sortByCost n pc x vs = some q → SH_X5_sortByCost a ls pc vs → va_P D vwCl (wC cyI cyZ a x) H → va_D A (wC cyI cyZ a x) → va_S A s.heap H locs → W p l e (headSpec ts_X5_sortByCost ({ frames := 1, cells := 0, slots := 0, locals := 23 } : Room)).room s m args below meth c H locs 0 0 (MQ below (QcV D cyI cyZ A (wC cyI cyZ a σ')) args s 0 0 A) (F0 m pc ls []) := by
  intro n
  induction n with
  | zero => intro pc x vs ls H locs h; exact absurd h (by simp [goL])
  | succ n ih =>
    intro pc x vs ls H locs hgo hsh hP hD hS
    rcases hsh with ⟨rfl, rfl, hl⟩ | ⟨rfl, x1, rfl, hl⟩ | ⟨rfl, x1, rfl, hl⟩ | ⟨rfl, x1, rfl, hl⟩
    · exact wl_X5_sortByCost_0 x hC hq n ih  ls H locs hgo hl hP hD hS
    · exact wl_X5_sortByCost_10 x hC hq n ih x1 ls H locs hgo hl hP hD hS
    · exact wl_X5_sortByCost_42 x hC hq n ih x1 ls H locs hgo hl hP hD hS
    · exact wl_X5_sortByCost_76 x hC hq n ih x1 ls H locs hgo hl hP hD hS
end
theorem c_X5_sortByCost (l : Launch) (D : va_G) (cyI cyZ : ClassId) (a : Nat → Nat) (A : Nat → Prop) (σ : Mem) (σ' : Mem) (hF : F_X5_sortByCost σ  = some σ') : CtV l yX5_sortByCost ts_X5_sortByCost ({ frames := 1, cells := 0, slots := 0, locals := 23 } : Room) [.ref (a 16)] D cyI cyZ A (wC cyI cyZ a σ) (wC cyI cyZ a σ') := by
  refine CtV.of (cc := cX5_sortByCost) (maxL := 3) (ret := none) (by decide) rfl (Nat.le_of_ble_eq_true rfl) ?_
  intro p e s m below meth c ls hC hP hD hl
  obtain ⟨q, hq, hr1⟩ := Option.bind_eq_some_iff.mp hF
  obtain ⟨n, hn⟩ := finL_some hq
  exact wk_X5_sortByCost hC hr1 n 0 _ _ ls _ _ hn (Or.inl ⟨rfl, rfl, hl⟩) hP hD va_S.rf
abbrev ts_X5_refresh : List Cond := .code yX5_refresh cX5_refresh 1 none :: wsL_law
set_option maxHeartbeats 4000000 in
set_option maxRecDepth 100000 in
theorem c_X5_refresh (l : Launch) (D : va_G) (cyI cyZ : ClassId) (a : Nat → Nat) (A : Nat → Prop) (σ : Mem) (σ' : Mem) (hF : F_X5_refresh σ  = some σ') : CtV l yX5_refresh ts_X5_refresh ({ frames := 4, cells := 0, slots := 0, locals := 96 } : Room) [.ref (a 16)] D cyI cyZ A (wC cyI cyZ a σ) (wC cyI cyZ a σ') := by
  refine CtV.of (cc := cX5_refresh) (maxL := 1) (ret := none) (by decide) rfl (Nat.le_of_ble_eq_true rfl) ?_
  intro p e s m below meth c ls hC hP hD hl
  obtain ⟨hx, hb, hr, hml, hown, hts, hK, hN, hlocks⟩ := hC
  have hown : s.vm.findClass RX5 = some m.cls := hown
  have hS : va_S A s.heap s.heap [] := va_S.rf
  have hl : lv_has ls 1 [(0, .ref (a 16))] := hl
  unfold F_X5_refresh at hF
  refine lv_aload_n hx hb dX5_refresh_0 rfl (lv_at hl 0 rfl) ?_
  refine va_get (D := D) (ci := 5) (v := .int (σ 16 9)) (C := RX5) (T := TX5) (N := 11) hx hb hts inlX5 hown hK hP 16 gC_16 rfl 10 (by decide) (hts _ mw_266) (fun _ h9 => h9) rfl dX5_refresh_1 ?_
  refine lv_if_eq (tgt := 8) hx hb dX5_refresh_4 (by decide) (fun c1 => ?_) (fun c1 => ?_)
  · rw [if_pos c1] at hF
    refine lv_aload_n hx hb dX5_refresh_8 rfl (lv_at hl 0 rfl) ?_
    refine lv_iconst (v := (1 : Int32)) hx hb dX5_refresh_9 (by decide) ?_
    obtain ⟨σ2, e3, hF⟩ := Option.bind_eq_some_iff.mp hF
    refine va_put (D := D) (ci := 5) (v := .int (1 : Int32)) (ty := .boolean) (C := RX5) (T := TX5) (N := 11) hx hb hts inlX5 tyX5 tyX5_ok nmX5 hown hK hP hD hS 16 gC_16 rfl 10 (by decide) (hts _ mw_266) (fun _ h9 => h9) rfl (by decide +kernel) rfl rfl (Nat.le_of_ble_eq_true rfl) dX5_refresh_10 (fun H locs hP hD hS => ?_)
    rw [sC_16_9, Option.some.inj e3] at hP hD
    refine lv_aload_n hx hb dX5_refresh_13 rfl (lv_at hl 0 rfl) ?_
    refine lv_aload_n hx hb dX5_refresh_14 rfl (lv_at hl 0 rfl) ?_
    refine lv_aload_n hx hb dX5_refresh_15 rfl (lv_at hl 0 rfl) ?_
    obtain ⟨p4, e5, hF⟩ := Option.bind_eq_some_iff.mp hF
    refine z_callVI (w' := (wC cyI cyZ a p4.2)) (As := []) (rest := [.ref (a 16), .ref (a 16)]) ⟨hx, hb, hml, hown, hts⟩ (c_X5_growKeys l D cyI cyZ a A σ2  p4.1 p4.2 e5) (cwV 0 hts (gd_V mw_398 mw_399 mw_400 mw_26 mw_401) rfl rfl rfl (by decide +kernel) ⟨Nat.le_of_ble_eq_true rfl, Nat.le_of_ble_eq_true rfl⟩) hK hN hP hD hS 5 16 rfl rfl gC_16 rfl hl.1 rfl (Nat.le_of_ble_eq_true rfl) dX5_refresh_16 ⟨Nat.zero_le _, Nat.zero_le _⟩ (fun H locs hP hD hS => ?_)
    obtain ⟨p6, e7, hF⟩ := Option.bind_eq_some_iff.mp hF
    refine z_callVI (w' := (wC cyI cyZ a p6.2)) (As := [.int p4.1]) (rest := [.ref (a 16)]) ⟨hx, hb, hml, hown, hts⟩ (c_X5_keepStanding l D cyI cyZ a A p4.2 p4.1 p6.1 p6.2 e7) (cwV 1 hts (gd_V mw_444 mw_445 mw_446 mw_26 mw_447) rfl rfl rfl (by decide +kernel) ⟨Nat.le_of_ble_eq_true rfl, Nat.le_of_ble_eq_true rfl⟩) hK hN hP hD hS 5 16 rfl rfl gC_16 rfl hl.1 rfl (Nat.le_of_ble_eq_true rfl) dX5_refresh_19 ⟨Nat.zero_le _, Nat.zero_le _⟩ (fun H locs hP hD hS => ?_)
    obtain ⟨σ8, e9, hF⟩ := Option.bind_eq_some_iff.mp hF
    refine va_put (D := D) (ci := 5) (v := .int p6.1) (ty := .int) (C := RX5) (T := TX5) (N := 11) hx hb hts inlX5 tyX5 tyX5_ok nmX5 hown hK hP hD hS 16 gC_16 rfl 9 (by decide) (hts _ mw_393) (fun _ h9 => h9) rfl (by decide +kernel) rfl rfl (Nat.le_of_ble_eq_true rfl) dX5_refresh_22 (fun H locs hP hD hS => ?_)
    rw [sC_16_8, Option.some.inj e9] at hP hD
    refine lv_aload_n hx hb dX5_refresh_25 rfl (lv_at hl 0 rfl) ?_
    obtain ⟨σ10, e11, hF⟩ := Option.bind_eq_some_iff.mp hF
    refine z_callVV (w' := (wC cyI cyZ a σ10)) (As := []) (rest := []) ⟨hx, hb, hml, hown, hts⟩ (c_X5_sortByCost l D cyI cyZ a A σ8  σ10 e11) (cwV 0 hts (gd_V mw_515 mw_516 mw_517 mw_26 mw_518) rfl rfl rfl (by decide +kernel) ⟨Nat.le_of_ble_eq_true rfl, Nat.le_of_ble_eq_true rfl⟩) hK hN hP hD hS 5 16 rfl rfl gC_16 rfl hl.1 rfl (Nat.le_of_ble_eq_true rfl) dX5_refresh_26 ⟨Nat.zero_le _, Nat.zero_le _⟩ (fun H locs hP hD hS => ?_)
    cases hF
    exact z_vret hx hb hr hlocks hK hP hD hS dX5_refresh_29
  · rw [if_neg c1] at hF
    cases hF
    exact z_vret hx hb hr hlocks hK hP hD hS dX5_refresh_7
abbrev ts_X5_size : List Cond := .code yX5_size cX5_size 1 (some .int) :: wsL_law
set_option maxHeartbeats 4000000 in
set_option maxRecDepth 100000 in
theorem c_X5_size (l : Launch) (D : va_G) (cyI cyZ : ClassId) (a : Nat → Nat) (A : Nat → Prop) (σ : Mem) (r : Int32) (σ' : Mem) (hF : F_X5_size σ  = some (r, σ')) : CtI l yX5_size ts_X5_size ({ frames := 5, cells := 0, slots := 0, locals := 116 } : Room) [.ref (a 16)] D cyI cyZ A (wC cyI cyZ a σ) (wC cyI cyZ a σ') r := by
  refine CtI.of (cc := cX5_size) (maxL := 1) (ret := (some .int)) (by decide) rfl (Nat.le_of_ble_eq_true rfl) ?_
  intro p e s m below meth c ls hC hP hD hl
  obtain ⟨hx, hb, hr, hml, hown, hts, hK, hN, hlocks⟩ := hC
  have hown : s.vm.findClass RX5 = some m.cls := hown
  have hS : va_S A s.heap s.heap [] := va_S.rf
  have hl : lv_has ls 1 [(0, .ref (a 16))] := hl
  unfold F_X5_size at hF
  refine lv_aload_n hx hb dX5_size_0 rfl (lv_at hl 0 rfl) ?_
  obtain ⟨σ1, e2, hF⟩ := Option.bind_eq_some_iff.mp hF
  refine z_callVV (w' := (wC cyI cyZ a σ1)) (As := []) (rest := []) ⟨hx, hb, hml, hown, hts⟩ (c_X5_refresh l D cyI cyZ a A σ  σ1 e2) (cwV 0 hts (gd_V mw_394 mw_395 mw_396 mw_26 mw_397) rfl rfl rfl (by decide +kernel) ⟨Nat.le_of_ble_eq_true rfl, Nat.le_of_ble_eq_true rfl⟩) hK hN hP hD hS 5 16 rfl rfl gC_16 rfl hl.1 rfl (Nat.le_of_ble_eq_true rfl) dX5_size_1 ⟨Nat.zero_le _, Nat.zero_le _⟩ (fun H locs hP hD hS => ?_)
  refine lv_aload_n hx hb dX5_size_4 rfl (lv_at hl 0 rfl) ?_
  refine va_get (D := D) (ci := 5) (v := .int (σ1 16 8)) (C := RX5) (T := TX5) (N := 11) hx hb hts inlX5 hown hK hP 16 gC_16 rfl 9 (by decide) (hts _ mw_393) (fun _ h9 => h9) rfl dX5_size_5 ?_
  cases hF
  exact z_iret hx hb hr hlocks hK hP hD hS dX5_size_8
abbrev ts_X5_has : List Cond := .code yX5_has cX5_has 2 (some .boolean) :: wsL_law
set_option maxHeartbeats 4000000 in
set_option maxRecDepth 100000 in
theorem c_X5_has (l : Launch) (D : va_G) (cyI cyZ : ClassId) (a : Nat → Nat) (A : Nat → Prop) (σ : Mem) (x1 : Int32) (r : Int32) (σ' : Mem) (hF : F_X5_has σ x1 = some (r, σ')) : CtI l yX5_has ts_X5_has ({ frames := 5, cells := 0, slots := 0, locals := 116 } : Room) [.ref (a 16), .int x1] D cyI cyZ A (wC cyI cyZ a σ) (wC cyI cyZ a σ') r := by
  refine CtI.of (cc := cX5_has) (maxL := 2) (ret := (some .boolean)) (by decide) rfl (Nat.le_of_ble_eq_true rfl) ?_
  intro p e s m below meth c ls hC hP hD hl
  obtain ⟨hx, hb, hr, hml, hown, hts, hK, hN, hlocks⟩ := hC
  have hown : s.vm.findClass RX5 = some m.cls := hown
  have hS : va_S A s.heap s.heap [] := va_S.rf
  have hl : lv_has ls 2 [(0, .ref (a 16)), (1, .int x1)] := hl
  unfold F_X5_has at hF
  refine lv_aload_n hx hb dX5_has_0 rfl (lv_at hl 0 rfl) ?_
  obtain ⟨σ1, e2, hF⟩ := Option.bind_eq_some_iff.mp hF
  refine z_callVV (w' := (wC cyI cyZ a σ1)) (As := []) (rest := []) ⟨hx, hb, hml, hown, hts⟩ (c_X5_refresh l D cyI cyZ a A σ  σ1 e2) (cwV 0 hts (gd_V mw_394 mw_395 mw_396 mw_26 mw_397) rfl rfl rfl (by decide +kernel) ⟨Nat.le_of_ble_eq_true rfl, Nat.le_of_ble_eq_true rfl⟩) hK hN hP hD hS 5 16 rfl rfl gC_16 rfl hl.1 rfl (Nat.le_of_ble_eq_true rfl) dX5_has_1 ⟨Nat.zero_le _, Nat.zero_le _⟩ (fun H locs hP hD hS => ?_)
  refine lv_iload_n hx hb dX5_has_4 rfl (lv_at hl 1 rfl) ?_
  refine lv_if_lt (tgt := 20) hx hb dX5_has_5 (by decide) (fun c3 => ?_) (fun c3 => ?_)
  · rw [if_pos c3] at hF
    refine lv_iconst (v := (0 : Int32)) hx hb dX5_has_20 (by decide) ?_
    cases hF
    exact z_zret hx hb hr hlocks hK hP hD hS rfl dX5_has_21
  · rw [if_neg c3] at hF
    refine lv_iload_n hx hb dX5_has_8 rfl (lv_at hl 1 rfl) ?_
    refine lv_aload_n hx hb dX5_has_9 rfl (lv_at hl 0 rfl) ?_
    refine va_get (D := D) (ci := 5) (v := .int (σ1 16 8)) (C := RX5) (T := TX5) (N := 11) hx hb hts inlX5 hown hK hP 16 gC_16 rfl 9 (by decide) (hts _ mw_393) (fun _ h9 => h9) rfl dX5_has_10 ?_
    refine lv_icmp_ge (tgt := 20) hx hb dX5_has_13 (by decide) (fun c4 => ?_) (fun c4 => ?_)
    · rw [if_pos c4] at hF
      refine lv_iconst (v := (0 : Int32)) hx hb dX5_has_20 (by decide) ?_
      cases hF
      exact z_zret hx hb hr hlocks hK hP hD hS rfl dX5_has_21
    · rw [if_neg c4] at hF
      refine lv_iconst (v := (1 : Int32)) hx hb dX5_has_16 (by decide) ?_
      refine lv_goto (tgt := 21) hx hb dX5_has_17 (by decide) ?_
      cases hF
      exact z_zret hx hb hr hlocks hK hP hD hS rfl dX5_has_21
abbrev ts_X5_near : List Cond := .code yX5_near cX5_near 3 (some .int) :: wsL_law
def SH_X5_near (a : Nat → Nat) (ls : Array Slot) (pc : Nat) (vs : List Int32) : Prop := (pc = 0 ∧ ∃ x1 : Int32, vs = [x1] ∧ lv_has ls 3 [(0, .ref (a 16)), (1, .int x1)]) ∨ (pc = 6 ∧ ∃ x1 x2 : Int32, vs = [x1, x2] ∧ lv_has ls 3 [(0, .ref (a 16)), (1, .int x1), (2, .int x2)])
section
variable {p : Program} {l : Launch} {e : Env} {s : State} {m : MethodId} {args : Array Value} {below : List Frame} {meth : Method} {c : Code} {D : va_G} {A : Nat → Prop} {a : Nat → Nat} {cyI cyZ : ClassId} {r : Int32} {σ' : Mem} {q : Mem × List Int32}
set_option maxHeartbeats 4000000 in
set_option maxRecDepth 100000 in
theorem wl_X5_near_0 (σ : Mem) (hC : CX p c cX5_near meth (some .int) s m args yX5_near.cls 3 D cyI cyZ) (hq : extM q = some (r, σ')) (n : Nat) (ih : ∀ (pc : Nat) (x : Mem) (vs : List Int32) (ls : Array Slot) (H : Heap) (locs : List Loc), goL B_X5_near n pc x vs = some q → SH_X5_near a ls pc vs → va_P D vwCl (wC cyI cyZ a x) H → va_D A (wC cyI cyZ a x) → va_S A s.heap H locs → W p l e (headSpec ts_X5_near ({ frames := 5, cells := 0, slots := 0, locals := 116 } : Room)).room s m args below meth c H locs 0 0 (MQ below (QcI D cyI cyZ A (wC cyI cyZ a σ') r) args s 0 0 A) (F0 m pc ls [])) (x1 : Int32) (ls : Array Slot) (H : Heap) (locs : List Loc) (hgo : goL B_X5_near (n + 1) 0 σ [x1] = some q) (hl : lv_has ls 3 [(0, .ref (a 16)), (1, .int x1)]) (hP : va_P D vwCl (wC cyI cyZ a σ) H) (hD : va_D A (wC cyI cyZ a σ)) (hS : va_S A s.heap H locs) : W p l e (headSpec ts_X5_near ({ frames := 5, cells := 0, slots := 0, locals := 116 } : Room)).room s m args below meth c H locs 0 0 (MQ below (QcI D cyI cyZ A (wC cyI cyZ a σ') r) args s 0 0 A) (F0 m 0 ls []) := by
  obtain ⟨hx, hb, hr, hml, hown, hts, hK, hN, hlocks⟩ := hC
  have hown : s.vm.findClass RX5 = some m.cls := hown
  obtain ⟨yy, hF, hgo⟩ := goL_step (by decide) hgo
  have hF : B_X5_near_0 σ x1 = some yy := hF
  unfold B_X5_near_0 at hF
  refine lv_aload_n hx hb dX5_near_0 rfl (lv_at hl 0 rfl) ?_
  obtain ⟨σ1, e2, hF⟩ := Option.bind_eq_some_iff.mp hF
  refine z_callVV (w' := (wC cyI cyZ a σ1)) (As := []) (rest := []) ⟨hx, hb, hml, hown, hts⟩ (c_X5_refresh l D cyI cyZ a A σ  σ1 e2) (cwV 0 hts (gd_V mw_394 mw_395 mw_396 mw_26 mw_397) rfl rfl rfl (by decide +kernel) ⟨Nat.le_of_ble_eq_true rfl, Nat.le_of_ble_eq_true rfl⟩) hK hN hP hD hS 5 16 rfl rfl gC_16 rfl hl.1 rfl (Nat.le_of_ble_eq_true rfl) dX5_near_1 ⟨Nat.zero_le _, Nat.zero_le _⟩ (fun H locs hP hD hS => ?_)
  refine lv_iconst (v := (0 : Int32)) hx hb dX5_near_4 (by decide) ?_
  refine lv_istore_n (lv' := [(2, .int (0 : Int32)), (0, .ref (a 16)), (1, .int x1)]) hx hb dX5_near_5 rfl hl (by decide) rfl (fun ls hl => ?_)
  cases hF
  exact ih _ _ _ _ _ _ hgo (Or.inr (⟨rfl, _, _, rfl, lv_sub hl [1, 2, 0] rfl⟩)) hP hD hS
set_option maxHeartbeats 4000000 in
set_option maxRecDepth 100000 in
theorem wl_X5_near_6 (σ : Mem) (hC : CX p c cX5_near meth (some .int) s m args yX5_near.cls 3 D cyI cyZ) (hq : extM q = some (r, σ')) (n : Nat) (ih : ∀ (pc : Nat) (x : Mem) (vs : List Int32) (ls : Array Slot) (H : Heap) (locs : List Loc), goL B_X5_near n pc x vs = some q → SH_X5_near a ls pc vs → va_P D vwCl (wC cyI cyZ a x) H → va_D A (wC cyI cyZ a x) → va_S A s.heap H locs → W p l e (headSpec ts_X5_near ({ frames := 5, cells := 0, slots := 0, locals := 116 } : Room)).room s m args below meth c H locs 0 0 (MQ below (QcI D cyI cyZ A (wC cyI cyZ a σ') r) args s 0 0 A) (F0 m pc ls [])) (x1 : Int32) (x2 : Int32) (ls : Array Slot) (H : Heap) (locs : List Loc) (hgo : goL B_X5_near (n + 1) 6 σ [x1, x2] = some q) (hl : lv_has ls 3 [(0, .ref (a 16)), (1, .int x1), (2, .int x2)]) (hP : va_P D vwCl (wC cyI cyZ a σ) H) (hD : va_D A (wC cyI cyZ a σ)) (hS : va_S A s.heap H locs) : W p l e (headSpec ts_X5_near ({ frames := 5, cells := 0, slots := 0, locals := 116 } : Room)).room s m args below meth c H locs 0 0 (MQ below (QcI D cyI cyZ A (wC cyI cyZ a σ') r) args s 0 0 A) (F0 m 6 ls []) := by
  obtain ⟨hx, hb, hr, hml, hown, hts, hK, hN, hlocks⟩ := hC
  have hown : s.vm.findClass RX5 = some m.cls := hown
  obtain ⟨yy, hF, hgo⟩ := goL_step (by decide) hgo
  have hF : B_X5_near_6 σ x1 x2 = some yy := hF
  unfold B_X5_near_6 at hF
  refine lv_iload_n hx hb dX5_near_6 rfl (lv_at hl 2 rfl) ?_
  refine lv_aload_n hx hb dX5_near_7 rfl (lv_at hl 0 rfl) ?_
  refine va_get (D := D) (ci := 5) (v := .int (σ 16 8)) (C := RX5) (T := TX5) (N := 11) hx hb hts inlX5 hown hK hP 16 gC_16 rfl 9 (by decide) (hts _ mw_393) (fun _ h9 => h9) rfl dX5_near_8 ?_
  refine lv_icmp_ge (tgt := 35) hx hb dX5_near_11 (by decide) (fun c1 => ?_) (fun c1 => ?_)
  · rw [if_pos c1] at hF
    refine lv_iload_n hx hb dX5_near_35 rfl (lv_at hl 2 rfl) ?_
    cases hF
    obtain ⟨rfl, rfl⟩ := extM_ret hq (goL_ret hgo)
    exact z_iret hx hb hr hlocks hK hP hD hS dX5_near_36
  · rw [if_neg c1] at hF
    refine lv_aload_n hx hb dX5_near_14 rfl (lv_at hl 0 rfl) ?_
    refine lv_iload_n hx hb dX5_near_15 rfl (lv_at hl 2 rfl) ?_
    obtain ⟨v2, e3, hF⟩ := Option.bind_eq_some_iff.mp hF
    refine z_callVI (w' := (wC cyI cyZ a σ)) (As := [.int x2]) (rest := []) ⟨hx, hb, hml, hown, hts⟩ (c_X5_costAt l D cyI cyZ a A σ x2 _ e3) (cwV 1 hts (gd_V mw_520 mw_521 mw_522 mw_26 mw_523) rfl rfl rfl (by decide +kernel) ⟨Nat.le_of_ble_eq_true rfl, Nat.le_of_ble_eq_true rfl⟩) hK hN hP hD hS 5 16 rfl rfl gC_16 rfl hl.1 rfl (Nat.le_of_ble_eq_true rfl) dX5_near_16 ⟨Nat.zero_le _, Nat.zero_le _⟩ (fun H locs hP hD hS => ?_)
    refine lv_aload_n hx hb dX5_near_19 rfl (lv_at hl 0 rfl) ?_
    refine lv_iconst (v := (0 : Int32)) hx hb dX5_near_20 (by decide) ?_
    obtain ⟨v4, e5, hF⟩ := Option.bind_eq_some_iff.mp hF
    refine z_callVI (w' := (wC cyI cyZ a σ)) (As := [.int (0 : Int32)]) (rest := [.int v2]) ⟨hx, hb, hml, hown, hts⟩ (c_X5_costAt l D cyI cyZ a A σ (0 : Int32) _ e5) (cwV 1 hts (gd_V mw_520 mw_521 mw_522 mw_26 mw_523) rfl rfl rfl (by decide +kernel) ⟨Nat.le_of_ble_eq_true rfl, Nat.le_of_ble_eq_true rfl⟩) hK hN hP hD hS 5 16 rfl rfl gC_16 rfl hl.1 rfl (Nat.le_of_ble_eq_true rfl) dX5_near_21 ⟨Nat.zero_le _, Nat.zero_le _⟩ (fun H locs hP hD hS => ?_)
    refine lv_iload_n hx hb dX5_near_24 rfl (lv_at hl 1 rfl) ?_
    refine lv_iadd hx hb dX5_near_25 ?_
    refine lv_icmp_gt (tgt := 35) hx hb dX5_near_26 (by decide) (fun c6 => ?_) (fun c6 => ?_)
    · rw [if_pos c6] at hF
      refine lv_iload_n hx hb dX5_near_35 rfl (lv_at hl 2 rfl) ?_
      cases hF
      obtain ⟨rfl, rfl⟩ := extM_ret hq (goL_ret hgo)
      exact z_iret hx hb hr hlocks hK hP hD hS dX5_near_36
    · rw [if_neg c6] at hF
      refine lv_iinc (v := (x2 + (1 : Int32))) (lv' := [(2, .int (x2 + (1 : Int32))), (0, .ref (a 16)), (1, .int x1)]) hx hb dX5_near_29 hl (k := 2) rfl rfl (by decide) rfl (fun ls hl => ?_)
      refine lv_goto (tgt := 6) hx hb dX5_near_32 (by decide) ?_
      cases hF
      exact ih _ _ _ _ _ _ hgo (Or.inr (⟨rfl, _, _, rfl, lv_sub hl [1, 2, 0] rfl⟩)) hP hD hS
theorem wk_X5_near (hC : CX p c cX5_near meth (some .int) s m args yX5_near.cls 3 D cyI cyZ) (hq : extM q = some (r, σ')) : ∀ (n : Nat), ∀ (pc : Nat) (x : Mem) (vs : List Int32) (ls : Array Slot) (H : Heap) (locs : List Loc), goL B_X5_near n pc x vs = some q → SH_X5_near a ls pc vs → va_P D vwCl (wC cyI cyZ a x) H → va_D A (wC cyI cyZ a x) → va_S A s.heap H locs → W p l e (headSpec ts_X5_near ({ frames := 5, cells := 0, slots := 0, locals := 116 } : Room)).room s m args below meth c H locs 0 0 (MQ below (QcI D cyI cyZ A (wC cyI cyZ a σ') r) args s 0 0 A) (F0 m pc ls []) := by
  intro n
  induction n with
  | zero => intro pc x vs ls H locs h; exact absurd h (by simp [goL])
  | succ n ih =>
    intro pc x vs ls H locs hgo hsh hP hD hS
    rcases hsh with ⟨rfl, x1, rfl, hl⟩ | ⟨rfl, x1, x2, rfl, hl⟩
    · exact wl_X5_near_0 x hC hq n ih x1 ls H locs hgo hl hP hD hS
    · exact wl_X5_near_6 x hC hq n ih x1 x2 ls H locs hgo hl hP hD hS
end
theorem c_X5_near (l : Launch) (D : va_G) (cyI cyZ : ClassId) (a : Nat → Nat) (A : Nat → Prop) (σ : Mem) (x1 : Int32) (r : Int32) (σ' : Mem) (hF : F_X5_near σ x1 = some (r, σ')) : CtI l yX5_near ts_X5_near ({ frames := 5, cells := 0, slots := 0, locals := 116 } : Room) [.ref (a 16), .int x1] D cyI cyZ A (wC cyI cyZ a σ) (wC cyI cyZ a σ') r := by
  refine CtI.of (cc := cX5_near) (maxL := 3) (ret := (some .int)) (by decide) rfl (Nat.le_of_ble_eq_true rfl) ?_
  intro p e s m below meth c ls hC hP hD hl
  obtain ⟨q, hq, hr1⟩ := Option.bind_eq_some_iff.mp hF
  obtain ⟨n, hn⟩ := finL_some hq
  exact wk_X5_near hC hr1 n 0 _ _ ls _ _ hn (Or.inl ⟨rfl, _, rfl, hl⟩) hP hD va_S.rf
abbrev ts_X6_size : List Cond := .code yX6_size cX6_size 1 (some .int) :: wsL_law
set_option maxHeartbeats 4000000 in
set_option maxRecDepth 100000 in
theorem c_X6_size (l : Launch) (D : va_G) (cyI cyZ : ClassId) (a : Nat → Nat) (A : Nat → Prop) (σ : Mem) (r : Int32) (hF : F_X6_size σ  = r) : CtI l yX6_size ts_X6_size ({ frames := 0, cells := 0, slots := 0, locals := 0 } : Room) [.ref (a 1)] D cyI cyZ A (wC cyI cyZ a σ) (wC cyI cyZ a σ) r := by
  refine CtI.of (cc := cX6_size) (maxL := 1) (ret := (some .int)) (by decide) rfl (Nat.le_of_ble_eq_true rfl) ?_
  intro p e s m below meth c ls hC hP hD hl
  obtain ⟨hx, hb, hr, hml, hown, hts, hK, hN, hlocks⟩ := hC
  have hown : s.vm.findClass RX6 = some m.cls := hown
  have hS : va_S A s.heap s.heap [] := va_S.rf
  have hl : lv_has ls 1 [(0, .ref (a 1))] := hl
  unfold F_X6_size at hF
  refine lv_aload_n hx hb dX6_size_0 rfl (lv_at hl 0 rfl) ?_
  refine va_get (D := D) (ci := 6) (v := .int (σ 1 0)) (C := RX6) (T := TX6) (N := 5) hx hb hts inlX6 hown hK hP 1 gC_1 rfl 0 (by decide) (hts _ mw_151) (fun _ h9 => h9) rfl dX6_size_1 ?_
  subst hF
  exact z_iret hx hb hr hlocks hK hP hD hS dX6_size_4
abbrev ts_X6_hasTable : List Cond := .code yX6_hasTable cX6_hasTable 2 (some .boolean) :: wsL_law
set_option maxHeartbeats 4000000 in
set_option maxRecDepth 100000 in
theorem c_X6_hasTable (l : Launch) (D : va_G) (cyI cyZ : ClassId) (a : Nat → Nat) (A : Nat → Prop) (σ : Mem) (x1 : Int32) (r : Int32) (hF : F_X6_hasTable σ x1 = r) : CtI l yX6_hasTable ts_X6_hasTable ({ frames := 0, cells := 0, slots := 0, locals := 0 } : Room) [.ref (a 1), .int x1] D cyI cyZ A (wC cyI cyZ a σ) (wC cyI cyZ a σ) r := by
  refine CtI.of (cc := cX6_hasTable) (maxL := 2) (ret := (some .boolean)) (by decide) rfl (Nat.le_of_ble_eq_true rfl) ?_
  intro p e s m below meth c ls hC hP hD hl
  obtain ⟨hx, hb, hr, hml, hown, hts, hK, hN, hlocks⟩ := hC
  have hown : s.vm.findClass RX6 = some m.cls := hown
  have hS : va_S A s.heap s.heap [] := va_S.rf
  have hl : lv_has ls 2 [(0, .ref (a 1)), (1, .int x1)] := hl
  unfold F_X6_hasTable at hF
  refine lv_iload_n hx hb dX6_hasTable_0 rfl (lv_at hl 1 rfl) ?_
  refine lv_if_lt (tgt := 16) hx hb dX6_hasTable_1 (by decide) (fun c1 => ?_) (fun c1 => ?_)
  · rw [if_pos c1] at hF
    refine lv_iconst (v := (0 : Int32)) hx hb dX6_hasTable_16 (by decide) ?_
    subst hF
    exact z_zret hx hb hr hlocks hK hP hD hS rfl dX6_hasTable_17
  · rw [if_neg c1] at hF
    refine lv_iload_n hx hb dX6_hasTable_4 rfl (lv_at hl 1 rfl) ?_
    refine lv_aload_n hx hb dX6_hasTable_5 rfl (lv_at hl 0 rfl) ?_
    refine va_get (D := D) (ci := 6) (v := .int (σ 1 0)) (C := RX6) (T := TX6) (N := 5) hx hb hts inlX6 hown hK hP 1 gC_1 rfl 0 (by decide) (hts _ mw_151) (fun _ h9 => h9) rfl dX6_hasTable_6 ?_
    refine lv_icmp_ge (tgt := 16) hx hb dX6_hasTable_9 (by decide) (fun c2 => ?_) (fun c2 => ?_)
    · rw [if_pos c2] at hF
      refine lv_iconst (v := (0 : Int32)) hx hb dX6_hasTable_16 (by decide) ?_
      subst hF
      exact z_zret hx hb hr hlocks hK hP hD hS rfl dX6_hasTable_17
    · rw [if_neg c2] at hF
      refine lv_iconst (v := (1 : Int32)) hx hb dX6_hasTable_12 (by decide) ?_
      refine lv_goto (tgt := 17) hx hb dX6_hasTable_13 (by decide) ?_
      subst hF
      exact z_zret hx hb hr hlocks hK hP hD hS rfl dX6_hasTable_17
abbrev ts_X6_hasColumn : List Cond := .code yX6_hasColumn cX6_hasColumn 3 (some .boolean) :: wsL_law
set_option maxHeartbeats 4000000 in
set_option maxRecDepth 100000 in
theorem c_X6_hasColumn (l : Launch) (D : va_G) (cyI cyZ : ClassId) (a : Nat → Nat) (A : Nat → Prop) (σ : Mem) (x1 : Int32) (x2 : Int32) (r : Int32) (hF : F_X6_hasColumn σ x1 x2 = some r) : CtI l yX6_hasColumn ts_X6_hasColumn ({ frames := 1, cells := 0, slots := 0, locals := 21 } : Room) [.ref (a 1), .int x1, .int x2] D cyI cyZ A (wC cyI cyZ a σ) (wC cyI cyZ a σ) r := by
  refine CtI.of (cc := cX6_hasColumn) (maxL := 3) (ret := (some .boolean)) (by decide) rfl (Nat.le_of_ble_eq_true rfl) ?_
  intro p e s m below meth c ls hC hP hD hl
  obtain ⟨hx, hb, hr, hml, hown, hts, hK, hN, hlocks⟩ := hC
  have hown : s.vm.findClass RX6 = some m.cls := hown
  have hS : va_S A s.heap s.heap [] := va_S.rf
  have hl : lv_has ls 3 [(0, .ref (a 1)), (1, .int x1), (2, .int x2)] := hl
  unfold F_X6_hasColumn at hF
  refine lv_aload_n hx hb dX6_hasColumn_0 rfl (lv_at hl 0 rfl) ?_
  refine lv_iload_n hx hb dX6_hasColumn_1 rfl (lv_at hl 1 rfl) ?_
  refine z_callVI (w' := (wC cyI cyZ a σ)) (As := [.int x1]) (rest := []) ⟨hx, hb, hml, hown, hts⟩ (c_X6_hasTable l D cyI cyZ a A σ x1 _ rfl) (cwV 1 hts (gd_V mw_214 mw_169 mw_170 mw_14 mw_171) rfl rfl rfl (by decide +kernel) ⟨Nat.le_of_ble_eq_true rfl, Nat.le_of_ble_eq_true rfl⟩) hK hN hP hD hS 6 1 rfl rfl gC_1 rfl hl.1 rfl (Nat.le_of_ble_eq_true rfl) dX6_hasColumn_2 ⟨Nat.zero_le _, Nat.zero_le _⟩ (fun H locs hP hD hS => ?_)
  refine lv_if_eq (tgt := 26) hx hb dX6_hasColumn_5 (by decide) (fun c1 => ?_) (fun c1 => ?_)
  · rw [if_pos c1] at hF
    refine lv_iconst (v := (0 : Int32)) hx hb dX6_hasColumn_26 (by decide) ?_
    cases hF
    exact z_zret hx hb hr hlocks hK hP hD hS rfl dX6_hasColumn_27
  · rw [if_neg c1] at hF
    refine lv_iload_n hx hb dX6_hasColumn_8 rfl (lv_at hl 2 rfl) ?_
    refine lv_if_lt (tgt := 26) hx hb dX6_hasColumn_9 (by decide) (fun c2 => ?_) (fun c2 => ?_)
    · rw [if_pos c2] at hF
      refine lv_iconst (v := (0 : Int32)) hx hb dX6_hasColumn_26 (by decide) ?_
      cases hF
      exact z_zret hx hb hr hlocks hK hP hD hS rfl dX6_hasColumn_27
    · rw [if_neg c2] at hF
      refine lv_iload_n hx hb dX6_hasColumn_12 rfl (lv_at hl 2 rfl) ?_
      refine lv_aload_n hx hb dX6_hasColumn_13 rfl (lv_at hl 0 rfl) ?_
      refine va_get (D := D) (ci := 6) (v := .ref (a 2)) (C := RX6) (T := TX6) (N := 5) hx hb hts inlX6 hown hK hP 1 gC_1 rfl 1 (by decide) (hts _ mw_41) (fun _ h9 => h9) rfl dX6_hasColumn_14 ?_
      refine lv_iload_n hx hb dX6_hasColumn_17 rfl (lv_at hl 1 rfl) ?_
      obtain ⟨v3, e4, hF⟩ := Option.bind_eq_some_iff.mp hF
      refine z_ild hx hb hK hP 2 gC_2 e4 dX6_hasColumn_18 ?_
      refine lv_icmp_ge (tgt := 26) hx hb dX6_hasColumn_19 (by decide) (fun c5 => ?_) (fun c5 => ?_)
      · rw [if_pos c5] at hF
        refine lv_iconst (v := (0 : Int32)) hx hb dX6_hasColumn_26 (by decide) ?_
        cases hF
        exact z_zret hx hb hr hlocks hK hP hD hS rfl dX6_hasColumn_27
      · rw [if_neg c5] at hF
        refine lv_iconst (v := (1 : Int32)) hx hb dX6_hasColumn_22 (by decide) ?_
        refine lv_goto (tgt := 27) hx hb dX6_hasColumn_23 (by decide) ?_
        cases hF
        exact z_zret hx hb hr hlocks hK hP hD hS rfl dX6_hasColumn_27
abbrev ts_X6_hasCell : List Cond := .code yX6_hasCell cX6_hasCell 4 (some .boolean) :: wsL_law
set_option maxHeartbeats 4000000 in
set_option maxRecDepth 100000 in
theorem c_X6_hasCell (l : Launch) (D : va_G) (cyI cyZ : ClassId) (a : Nat → Nat) (A : Nat → Prop) (σ : Mem) (x1 : Int32) (x2 : Int32) (x3 : Int32) (r : Int32) (hF : F_X6_hasCell σ x1 x2 x3 = some r) : CtI l yX6_hasCell ts_X6_hasCell ({ frames := 2, cells := 0, slots := 0, locals := 43 } : Room) [.ref (a 1), .int x1, .int x2, .int x3] D cyI cyZ A (wC cyI cyZ a σ) (wC cyI cyZ a σ) r := by
  refine CtI.of (cc := cX6_hasCell) (maxL := 4) (ret := (some .boolean)) (by decide) rfl (Nat.le_of_ble_eq_true rfl) ?_
  intro p e s m below meth c ls hC hP hD hl
  obtain ⟨hx, hb, hr, hml, hown, hts, hK, hN, hlocks⟩ := hC
  have hown : s.vm.findClass RX6 = some m.cls := hown
  have hS : va_S A s.heap s.heap [] := va_S.rf
  have hl : lv_has ls 4 [(0, .ref (a 1)), (1, .int x1), (2, .int x2), (3, .int x3)] := hl
  unfold F_X6_hasCell at hF
  refine lv_aload_n hx hb dX6_hasCell_0 rfl (lv_at hl 0 rfl) ?_
  refine lv_iload_n hx hb dX6_hasCell_1 rfl (lv_at hl 1 rfl) ?_
  refine lv_iload_n hx hb dX6_hasCell_2 rfl (lv_at hl 3 rfl) ?_
  obtain ⟨v1, e2, hF⟩ := Option.bind_eq_some_iff.mp hF
  refine z_callVI (w' := (wC cyI cyZ a σ)) (As := [.int x1, .int x3]) (rest := []) ⟨hx, hb, hml, hown, hts⟩ (c_X6_hasColumn l D cyI cyZ a A σ x1 x3 _ e2) (cwV 2 hts (gd_V mw_210 mw_211 mw_212 mw_14 mw_213) rfl rfl rfl (by decide +kernel) ⟨Nat.le_of_ble_eq_true rfl, Nat.le_of_ble_eq_true rfl⟩) hK hN hP hD hS 6 1 rfl rfl gC_1 rfl hl.1 rfl (Nat.le_of_ble_eq_true rfl) dX6_hasCell_3 ⟨Nat.zero_le _, Nat.zero_le _⟩ (fun H locs hP hD hS => ?_)
  refine lv_if_eq (tgt := 27) hx hb dX6_hasCell_6 (by decide) (fun c3 => ?_) (fun c3 => ?_)
  · rw [if_pos c3] at hF
    refine lv_iconst (v := (0 : Int32)) hx hb dX6_hasCell_27 (by decide) ?_
    cases hF
    exact z_zret hx hb hr hlocks hK hP hD hS rfl dX6_hasCell_28
  · rw [if_neg c3] at hF
    refine lv_iload_n hx hb dX6_hasCell_9 rfl (lv_at hl 2 rfl) ?_
    refine lv_if_lt (tgt := 27) hx hb dX6_hasCell_10 (by decide) (fun c4 => ?_) (fun c4 => ?_)
    · rw [if_pos c4] at hF
      refine lv_iconst (v := (0 : Int32)) hx hb dX6_hasCell_27 (by decide) ?_
      cases hF
      exact z_zret hx hb hr hlocks hK hP hD hS rfl dX6_hasCell_28
    · rw [if_neg c4] at hF
      refine lv_iload_n hx hb dX6_hasCell_13 rfl (lv_at hl 2 rfl) ?_
      refine lv_aload_n hx hb dX6_hasCell_14 rfl (lv_at hl 0 rfl) ?_
      refine va_get (D := D) (ci := 6) (v := .ref (a 3)) (C := RX6) (T := TX6) (N := 5) hx hb hts inlX6 hown hK hP 1 gC_1 rfl 2 (by decide) (hts _ mw_42) (fun _ h9 => h9) rfl dX6_hasCell_15 ?_
      refine lv_iload_n hx hb dX6_hasCell_18 rfl (lv_at hl 1 rfl) ?_
      obtain ⟨v5, e6, hF⟩ := Option.bind_eq_some_iff.mp hF
      refine z_ild hx hb hK hP 3 gC_3 e6 dX6_hasCell_19 ?_
      refine lv_icmp_ge (tgt := 27) hx hb dX6_hasCell_20 (by decide) (fun c7 => ?_) (fun c7 => ?_)
      · rw [if_pos c7] at hF
        refine lv_iconst (v := (0 : Int32)) hx hb dX6_hasCell_27 (by decide) ?_
        cases hF
        exact z_zret hx hb hr hlocks hK hP hD hS rfl dX6_hasCell_28
      · rw [if_neg c7] at hF
        refine lv_iconst (v := (1 : Int32)) hx hb dX6_hasCell_23 (by decide) ?_
        refine lv_goto (tgt := 28) hx hb dX6_hasCell_24 (by decide) ?_
        cases hF
        exact z_zret hx hb hr hlocks hK hP hD hS rfl dX6_hasCell_28
abbrev ts_X6_addTable : List Cond := .code yX6_addTable cX6_addTable 2 (some .int) :: wsL_law
set_option maxHeartbeats 4000000 in
set_option maxRecDepth 100000 in
theorem c_X6_addTable (l : Launch) (D : va_G) (cyI cyZ : ClassId) (a : Nat → Nat) (A : Nat → Prop) (σ : Mem) (x1 : Int32) (r : Int32) (σ' : Mem) (hF : F_X6_addTable σ x1 = some (r, σ')) : CtI l yX6_addTable ts_X6_addTable ({ frames := 0, cells := 0, slots := 0, locals := 0 } : Room) [.ref (a 1), .int x1] D cyI cyZ A (wC cyI cyZ a σ) (wC cyI cyZ a σ') r := by
  refine CtI.of (cc := cX6_addTable) (maxL := 2) (ret := (some .int)) (by decide) rfl (Nat.le_of_ble_eq_true rfl) ?_
  intro p e s m below meth c ls hC hP hD hl
  obtain ⟨hx, hb, hr, hml, hown, hts, hK, hN, hlocks⟩ := hC
  have hown : s.vm.findClass RX6 = some m.cls := hown
  have hS : va_S A s.heap s.heap [] := va_S.rf
  have hl : lv_has ls 2 [(0, .ref (a 1)), (1, .int x1)] := hl
  unfold F_X6_addTable at hF
  refine lv_aload_n hx hb dX6_addTable_0 rfl (lv_at hl 0 rfl) ?_
  refine va_get (D := D) (ci := 6) (v := .ref (a 2)) (C := RX6) (T := TX6) (N := 5) hx hb hts inlX6 hown hK hP 1 gC_1 rfl 1 (by decide) (hts _ mw_41) (fun _ h9 => h9) rfl dX6_addTable_1 ?_
  refine lv_aload_n hx hb dX6_addTable_4 rfl (lv_at hl 0 rfl) ?_
  refine va_get (D := D) (ci := 6) (v := .int (σ 1 0)) (C := RX6) (T := TX6) (N := 5) hx hb hts inlX6 hown hK hP 1 gC_1 rfl 0 (by decide) (hts _ mw_151) (fun _ h9 => h9) rfl dX6_addTable_5 ?_
  refine lv_iload_n hx hb dX6_addTable_8 rfl (lv_at hl 1 rfl) ?_
  obtain ⟨σ1, e2, hF⟩ := Option.bind_eq_some_iff.mp hF
  refine z_ist (wC cyI cyZ a) hx hb hK hP hD hS 2 gC_2 sC_2 e2 dX6_addTable_9 (fun H locs hP hD hS => ?_)
  refine lv_aload_n hx hb dX6_addTable_10 rfl (lv_at hl 0 rfl) ?_
  refine lv_dup hx hb dX6_addTable_11 rfl ?_
  refine va_get (D := D) (ci := 6) (v := .int (σ1 1 0)) (C := RX6) (T := TX6) (N := 5) hx hb hts inlX6 hown hK hP 1 gC_1 rfl 0 (by decide) (hts _ mw_151) (fun _ h9 => h9) rfl dX6_addTable_12 ?_
  refine lv_iconst (v := (1 : Int32)) hx hb dX6_addTable_15 (by decide) ?_
  refine lv_iadd hx hb dX6_addTable_16 ?_
  obtain ⟨σ3, e4, hF⟩ := Option.bind_eq_some_iff.mp hF
  refine va_put (D := D) (ci := 6) (v := .int ((σ1 1 0) + (1 : Int32))) (ty := .int) (C := RX6) (T := TX6) (N := 5) hx hb hts inlX6 tyX6 tyX6_ok nmX6 hown hK hP hD hS 1 gC_1 rfl 0 (by decide) (hts _ mw_151) (fun _ h9 => h9) rfl (by decide +kernel) rfl rfl (Nat.le_of_ble_eq_true rfl) dX6_addTable_17 (fun H locs hP hD hS => ?_)
  rw [sC_1_0, Option.some.inj e4] at hP hD
  refine lv_aload_n hx hb dX6_addTable_20 rfl (lv_at hl 0 rfl) ?_
  refine va_get (D := D) (ci := 6) (v := .int (σ3 1 0)) (C := RX6) (T := TX6) (N := 5) hx hb hts inlX6 hown hK hP 1 gC_1 rfl 0 (by decide) (hts _ mw_151) (fun _ h9 => h9) rfl dX6_addTable_21 ?_
  refine lv_iconst (v := (1 : Int32)) hx hb dX6_addTable_24 (by decide) ?_
  refine lv_isub hx hb dX6_addTable_25 ?_
  cases hF
  exact z_iret hx hb hr hlocks hK hP hD hS dX6_addTable_26
abbrev ts_X6_addRow : List Cond := .code yX6_addRow cX6_addRow 2 (some .int) :: wsL_law
set_option maxHeartbeats 4000000 in
set_option maxRecDepth 100000 in
theorem c_X6_addRow (l : Launch) (D : va_G) (cyI cyZ : ClassId) (a : Nat → Nat) (A : Nat → Prop) (σ : Mem) (x1 : Int32) (r : Int32) (σ' : Mem) (hF : F_X6_addRow σ x1 = some (r, σ')) : CtI l yX6_addRow ts_X6_addRow ({ frames := 0, cells := 0, slots := 0, locals := 0 } : Room) [.ref (a 1), .int x1] D cyI cyZ A (wC cyI cyZ a σ) (wC cyI cyZ a σ') r := by
  refine CtI.of (cc := cX6_addRow) (maxL := 2) (ret := (some .int)) (by decide) rfl (Nat.le_of_ble_eq_true rfl) ?_
  intro p e s m below meth c ls hC hP hD hl
  obtain ⟨hx, hb, hr, hml, hown, hts, hK, hN, hlocks⟩ := hC
  have hown : s.vm.findClass RX6 = some m.cls := hown
  have hS : va_S A s.heap s.heap [] := va_S.rf
  have hl : lv_has ls 2 [(0, .ref (a 1)), (1, .int x1)] := hl
  unfold F_X6_addRow at hF
  refine lv_aload_n hx hb dX6_addRow_0 rfl (lv_at hl 0 rfl) ?_
  refine va_get (D := D) (ci := 6) (v := .ref (a 3)) (C := RX6) (T := TX6) (N := 5) hx hb hts inlX6 hown hK hP 1 gC_1 rfl 2 (by decide) (hts _ mw_42) (fun _ h9 => h9) rfl dX6_addRow_1 ?_
  refine lv_iload_n hx hb dX6_addRow_4 rfl (lv_at hl 1 rfl) ?_
  refine lv_dup2_11 hx hb dX6_addRow_5 rfl rfl ?_
  obtain ⟨v1, e2, hF⟩ := Option.bind_eq_some_iff.mp hF
  refine z_ild hx hb hK hP 3 gC_3 e2 dX6_addRow_6 ?_
  refine lv_iconst (v := (1 : Int32)) hx hb dX6_addRow_7 (by decide) ?_
  refine lv_iadd hx hb dX6_addRow_8 ?_
  obtain ⟨σ3, e4, hF⟩ := Option.bind_eq_some_iff.mp hF
  refine z_ist (wC cyI cyZ a) hx hb hK hP hD hS 3 gC_3 sC_3 e4 dX6_addRow_9 (fun H locs hP hD hS => ?_)
  refine lv_aload_n hx hb dX6_addRow_10 rfl (lv_at hl 0 rfl) ?_
  refine va_get (D := D) (ci := 6) (v := .ref (a 3)) (C := RX6) (T := TX6) (N := 5) hx hb hts inlX6 hown hK hP 1 gC_1 rfl 2 (by decide) (hts _ mw_42) (fun _ h9 => h9) rfl dX6_addRow_11 ?_
  refine lv_iload_n hx hb dX6_addRow_14 rfl (lv_at hl 1 rfl) ?_
  obtain ⟨v5, e6, hF⟩ := Option.bind_eq_some_iff.mp hF
  refine z_ild hx hb hK hP 3 gC_3 e6 dX6_addRow_15 ?_
  refine lv_iconst (v := (1 : Int32)) hx hb dX6_addRow_16 (by decide) ?_
  refine lv_isub hx hb dX6_addRow_17 ?_
  cases hF
  exact z_iret hx hb hr hlocks hK hP hD hS dX6_addRow_18
abbrev ts_X6_setCell : List Cond := .code yX6_setCell cX6_setCell 5 none :: wsL_law
set_option maxHeartbeats 4000000 in
set_option maxRecDepth 100000 in
theorem c_X6_setCell (l : Launch) (D : va_G) (cyI cyZ : ClassId) (a : Nat → Nat) (A : Nat → Prop) (σ : Mem) (x1 : Int32) (x2 : Int32) (x3 : Int32) (x4 : Int32) (σ' : Mem) (hF : F_X6_setCell σ x1 x2 x3 x4 = some σ') : CtV l yX6_setCell ts_X6_setCell ({ frames := 0, cells := 0, slots := 0, locals := 0 } : Room) [.ref (a 1), .int x1, .int x2, .int x3, .int x4] D cyI cyZ A (wC cyI cyZ a σ) (wC cyI cyZ a σ') := by
  refine CtV.of (cc := cX6_setCell) (maxL := 5) (ret := none) (by decide) rfl (Nat.le_of_ble_eq_true rfl) ?_
  intro p e s m below meth c ls hC hP hD hl
  obtain ⟨hx, hb, hr, hml, hown, hts, hK, hN, hlocks⟩ := hC
  have hown : s.vm.findClass RX6 = some m.cls := hown
  have hS : va_S A s.heap s.heap [] := va_S.rf
  have hl : lv_has ls 5 [(0, .ref (a 1)), (1, .int x1), (2, .int x2), (3, .int x3), (4, .int x4)] := hl
  unfold F_X6_setCell at hF
  refine lv_aload_n hx hb dX6_setCell_0 rfl (lv_at hl 0 rfl) ?_
  refine va_get (D := D) (ci := 6) (v := .ref (a 5)) (C := RX6) (T := TX6) (N := 5) hx hb hts inlX6 hown hK hP 1 gC_1 rfl 4 (by decide) (hts _ mw_44) (fun _ h9 => h9) rfl dX6_setCell_1 ?_
  refine lv_iload_n hx hb dX6_setCell_4 rfl (lv_at hl 1 rfl) ?_
  refine lv_bipush (v := (20 : Int32)) hx hb dX6_setCell_5 (by decide) ?_
  refine lv_imul hx hb dX6_setCell_7 ?_
  refine lv_iload_n hx hb dX6_setCell_8 rfl (lv_at hl 2 rfl) ?_
  refine lv_iadd hx hb dX6_setCell_9 ?_
  refine lv_iconst (v := (4 : Int32)) hx hb dX6_setCell_10 (by decide) ?_
  refine lv_imul hx hb dX6_setCell_11 ?_
  refine lv_iload_n hx hb dX6_setCell_12 rfl (lv_at hl 3 rfl) ?_
  refine lv_iadd hx hb dX6_setCell_13 ?_
  refine lv_iload hx hb dX6_setCell_14 (lv_at hl 4 rfl) ?_
  obtain ⟨σ1, e2, hF⟩ := Option.bind_eq_some_iff.mp hF
  refine z_ist (wC cyI cyZ a) hx hb hK hP hD hS 5 gC_5 sC_5 e2 dX6_setCell_16 (fun H locs hP hD hS => ?_)
  cases hF
  exact z_vret hx hb hr hlocks hK hP hD hS dX6_setCell_17
abbrev ts_X6_changeLink : List Cond := .code yX6_changeLink cX6_changeLink 5 (some .int) :: wsL_law
set_option maxHeartbeats 4000000 in
set_option maxRecDepth 100000 in
theorem c_X6_changeLink (l : Launch) (D : va_G) (cyI cyZ : ClassId) (a : Nat → Nat) (A : Nat → Prop) (σ : Mem) (x1 : Int32) (x2 : Int32) (x3 : Int32) (r : Int32) (σ' : Mem) (hF : F_X6_changeLink σ x1 x2 x3 = some (r, σ')) : CtI l yX6_changeLink ts_X6_changeLink ({ frames := 0, cells := 0, slots := 0, locals := 0 } : Room) [.ref (a 1), .int x1, .int x2, .int x3] D cyI cyZ A (wC cyI cyZ a σ) (wC cyI cyZ a σ') r := by
  refine CtI.of (cc := cX6_changeLink) (maxL := 5) (ret := (some .int)) (by decide) rfl (Nat.le_of_ble_eq_true rfl) ?_
  intro p e s m below meth c ls hC hP hD hl
  obtain ⟨hx, hb, hr, hml, hown, hts, hK, hN, hlocks⟩ := hC
  have hown : s.vm.findClass RX6 = some m.cls := hown
  have hS : va_S A s.heap s.heap [] := va_S.rf
  have hl : lv_has ls 5 [(0, .ref (a 1)), (1, .int x1), (2, .int x2), (3, .int x3)] := hl
  unfold F_X6_changeLink at hF
  refine lv_aload_n hx hb dX6_changeLink_0 rfl (lv_at hl 0 rfl) ?_
  refine va_get (D := D) (ci := 6) (v := .ref (a 4)) (C := RX6) (T := TX6) (N := 5) hx hb hts inlX6 hown hK hP 1 gC_1 rfl 3 (by decide) (hts _ mw_43) (fun _ h9 => h9) rfl dX6_changeLink_1 ?_
  refine lv_iload_n hx hb dX6_changeLink_4 rfl (lv_at hl 1 rfl) ?_
  refine lv_iconst (v := (4 : Int32)) hx hb dX6_changeLink_5 (by decide) ?_
  refine lv_imul hx hb dX6_changeLink_6 ?_
  refine lv_iload_n hx hb dX6_changeLink_7 rfl (lv_at hl 2 rfl) ?_
  refine lv_iadd hx hb dX6_changeLink_8 ?_
  obtain ⟨v1, e2, hF⟩ := Option.bind_eq_some_iff.mp hF
  refine z_ild hx hb hK hP 4 gC_4 e2 dX6_changeLink_9 ?_
  refine lv_istore (lv' := [(4, .int v1), (0, .ref (a 1)), (1, .int x1), (2, .int x2), (3, .int x3)]) hx hb dX6_changeLink_10 hl (by decide) rfl (fun ls hl => ?_)
  refine lv_aload_n hx hb dX6_changeLink_12 rfl (lv_at hl 1 rfl) ?_
  refine va_get (D := D) (ci := 6) (v := .ref (a 4)) (C := RX6) (T := TX6) (N := 5) hx hb hts inlX6 hown hK hP 1 gC_1 rfl 3 (by decide) (hts _ mw_43) (fun _ h9 => h9) rfl dX6_changeLink_13 ?_
  refine lv_iload_n hx hb dX6_changeLink_16 rfl (lv_at hl 2 rfl) ?_
  refine lv_iconst (v := (4 : Int32)) hx hb dX6_changeLink_17 (by decide) ?_
  refine lv_imul hx hb dX6_changeLink_18 ?_
  refine lv_iload_n hx hb dX6_changeLink_19 rfl (lv_at hl 3 rfl) ?_
  refine lv_iadd hx hb dX6_changeLink_20 ?_
  refine lv_iload_n hx hb dX6_changeLink_21 rfl (lv_at hl 4 rfl) ?_
  obtain ⟨σ3, e4, hF⟩ := Option.bind_eq_some_iff.mp hF
  refine z_ist (wC cyI cyZ a) hx hb hK hP hD hS 4 gC_4 sC_4 e4 dX6_changeLink_22 (fun H locs hP hD hS => ?_)
  refine lv_iload hx hb dX6_changeLink_23 (lv_at hl 0 rfl) ?_
  cases hF
  exact z_iret hx hb hr hlocks hK hP hD hS dX6_changeLink_25
abbrev ts_X7_size : List Cond := .code yX7_size cX7_size 1 (some .int) :: wsL_law
set_option maxHeartbeats 4000000 in
set_option maxRecDepth 100000 in
theorem c_X7_size (l : Launch) (D : va_G) (cyI cyZ : ClassId) (a : Nat → Nat) (A : Nat → Prop) (σ : Mem) (r : Int32) (hF : F_X7_size σ  = r) : CtI l yX7_size ts_X7_size ({ frames := 0, cells := 0, slots := 0, locals := 0 } : Room) [.ref (a 6)] D cyI cyZ A (wC cyI cyZ a σ) (wC cyI cyZ a σ) r := by
  refine CtI.of (cc := cX7_size) (maxL := 1) (ret := (some .int)) (by decide) rfl (Nat.le_of_ble_eq_true rfl) ?_
  intro p e s m below meth c ls hC hP hD hl
  obtain ⟨hx, hb, hr, hml, hown, hts, hK, hN, hlocks⟩ := hC
  have hown : s.vm.findClass RX7 = some m.cls := hown
  have hS : va_S A s.heap s.heap [] := va_S.rf
  have hl : lv_has ls 1 [(0, .ref (a 6))] := hl
  unfold F_X7_size at hF
  refine lv_aload_n hx hb dX7_size_0 rfl (lv_at hl 0 rfl) ?_
  refine va_get (D := D) (ci := 7) (v := .int (σ 6 0)) (C := RX7) (T := TX7) (N := 7) hx hb hts inlX7 hown hK hP 6 gC_6 rfl 0 (by decide) (hts _ mw_294) (fun _ h9 => h9) rfl dX7_size_1 ?_
  subst hF
  exact z_iret hx hb hr hlocks hK hP hD hS dX7_size_4
abbrev ts_X7_addMeaning : List Cond := .code yX7_addMeaning cX7_addMeaning 8 (some .int) :: wsL_law
set_option maxHeartbeats 4000000 in
set_option maxRecDepth 100000 in
theorem c_X7_addMeaning (l : Launch) (D : va_G) (cyI cyZ : ClassId) (a : Nat → Nat) (A : Nat → Prop) (σ : Mem) (x1 : Int32) (x2 : Int32) (x3 : Int32) (x4 : Int32) (x5 : Int32) (x6 : Int32) (r : Int32) (σ' : Mem) (hF : F_X7_addMeaning σ x1 x2 x3 x4 x5 x6 = some (r, σ')) : CtI l yX7_addMeaning ts_X7_addMeaning ({ frames := 1, cells := 0, slots := 0, locals := 22 } : Room) [.ref (a 6), .int x1, .int x2, .int x3, .int x4, .int x5, .int x6] D cyI cyZ A (wC cyI cyZ a σ) (wC cyI cyZ a σ') r := by
  refine CtI.of (cc := cX7_addMeaning) (maxL := 8) (ret := (some .int)) (by decide) rfl (Nat.le_of_ble_eq_true rfl) ?_
  intro p e s m below meth c ls hC hP hD hl
  obtain ⟨hx, hb, hr, hml, hown, hts, hK, hN, hlocks⟩ := hC
  have hown : s.vm.findClass RX7 = some m.cls := hown
  have hS : va_S A s.heap s.heap [] := va_S.rf
  have hl : lv_has ls 8 [(0, .ref (a 6)), (1, .int x1), (2, .int x2), (3, .int x3), (4, .int x4), (5, .int x5), (6, .int x6)] := hl
  unfold F_X7_addMeaning at hF
  refine lv_aload_n hx hb dX7_addMeaning_0 rfl (lv_at hl 0 rfl) ?_
  refine lv_iload_n hx hb dX7_addMeaning_1 rfl (lv_at hl 1 rfl) ?_
  refine lv_aload_n hx hb dX7_addMeaning_2 rfl (lv_at hl 0 rfl) ?_
  refine va_get (D := D) (ci := 7) (v := .ref (a 7)) (C := RX7) (T := TX7) (N := 7) hx hb hts inlX7 hown hK hP 6 gC_6 rfl 1 (by decide) (hts _ mw_53) (fun _ h9 => h9) rfl dX7_addMeaning_3 ?_
  refine lv_iload_n hx hb dX7_addMeaning_6 rfl (lv_at hl 1 rfl) ?_
  obtain ⟨v1, e2, hF⟩ := Option.bind_eq_some_iff.mp hF
  refine z_ild hx hb hK hP 7 gC_7 e2 dX7_addMeaning_7 ?_
  refine z_callVI (w' := (wC cyI cyZ a σ)) (As := [.int x1, .int v1]) (rest := []) ⟨hx, hb, hml, hown, hts⟩ (c_X7_spotOf l D cyI cyZ a A σ x1 v1 _ rfl) (cwV 2 hts (gd_V mw_295 mw_296 mw_297 mw_18 mw_298) rfl rfl rfl (by decide +kernel) ⟨Nat.le_of_ble_eq_true rfl, Nat.le_of_ble_eq_true rfl⟩) hK hN hP hD hS 7 6 rfl rfl gC_6 rfl hl.1 rfl (Nat.le_of_ble_eq_true rfl) dX7_addMeaning_8 ⟨Nat.zero_le _, Nat.zero_le _⟩ (fun H locs hP hD hS => ?_)
  refine lv_istore (lv' := [(7, .int (F_X7_spotOf σ x1 v1)), (0, .ref (a 6)), (1, .int x1), (2, .int x2), (3, .int x3), (4, .int x4), (5, .int x5), (6, .int x6)]) hx hb dX7_addMeaning_11 hl (by decide) rfl (fun ls hl => ?_)
  refine lv_aload_n hx hb dX7_addMeaning_13 rfl (lv_at hl 1 rfl) ?_
  refine va_get (D := D) (ci := 7) (v := .ref (a 8)) (C := RX7) (T := TX7) (N := 7) hx hb hts inlX7 hown hK hP 6 gC_6 rfl 2 (by decide) (hts _ mw_54) (fun _ h9 => h9) rfl dX7_addMeaning_14 ?_
  refine lv_iload hx hb dX7_addMeaning_17 (lv_at hl 0 rfl) ?_
  refine lv_iload_n hx hb dX7_addMeaning_19 rfl (lv_at hl 3 rfl) ?_
  obtain ⟨σ3, e4, hF⟩ := Option.bind_eq_some_iff.mp hF
  refine z_ist (wC cyI cyZ a) hx hb hK hP hD hS 8 gC_8 sC_8 e4 dX7_addMeaning_20 (fun H locs hP hD hS => ?_)
  refine lv_aload_n hx hb dX7_addMeaning_21 rfl (lv_at hl 1 rfl) ?_
  refine va_get (D := D) (ci := 7) (v := .ref (a 9)) (C := RX7) (T := TX7) (N := 7) hx hb hts inlX7 hown hK hP 6 gC_6 rfl 3 (by decide) (hts _ mw_55) (fun _ h9 => h9) rfl dX7_addMeaning_22 ?_
  refine lv_iload hx hb dX7_addMeaning_25 (lv_at hl 0 rfl) ?_
  refine lv_iload_n hx hb dX7_addMeaning_27 rfl (lv_at hl 4 rfl) ?_
  obtain ⟨σ5, e6, hF⟩ := Option.bind_eq_some_iff.mp hF
  refine z_ist (wC cyI cyZ a) hx hb hK hP hD hS 9 gC_9 sC_9 e6 dX7_addMeaning_28 (fun H locs hP hD hS => ?_)
  refine lv_aload_n hx hb dX7_addMeaning_29 rfl (lv_at hl 1 rfl) ?_
  refine va_get (D := D) (ci := 7) (v := .ref (a 10)) (C := RX7) (T := TX7) (N := 7) hx hb hts inlX7 hown hK hP 6 gC_6 rfl 4 (by decide) (hts _ mw_56) (fun _ h9 => h9) rfl dX7_addMeaning_30 ?_
  refine lv_iload hx hb dX7_addMeaning_33 (lv_at hl 0 rfl) ?_
  refine lv_iload hx hb dX7_addMeaning_35 (lv_at hl 5 rfl) ?_
  obtain ⟨σ7, e8, hF⟩ := Option.bind_eq_some_iff.mp hF
  refine z_ist (wC cyI cyZ a) hx hb hK hP hD hS 10 gC_10 sC_10 e8 dX7_addMeaning_37 (fun H locs hP hD hS => ?_)
  refine lv_aload_n hx hb dX7_addMeaning_38 rfl (lv_at hl 1 rfl) ?_
  refine va_get (D := D) (ci := 7) (v := .ref (a 11)) (C := RX7) (T := TX7) (N := 7) hx hb hts inlX7 hown hK hP 6 gC_6 rfl 5 (by decide) (hts _ mw_57) (fun _ h9 => h9) rfl dX7_addMeaning_39 ?_
  refine lv_iload hx hb dX7_addMeaning_42 (lv_at hl 0 rfl) ?_
  refine lv_iload hx hb dX7_addMeaning_44 (lv_at hl 6 rfl) ?_
  obtain ⟨σ9, e10, hF⟩ := Option.bind_eq_some_iff.mp hF
  refine z_ist (wC cyI cyZ a) hx hb hK hP hD hS 11 gC_11 sC_11 e10 dX7_addMeaning_46 (fun H locs hP hD hS => ?_)
  refine lv_aload_n hx hb dX7_addMeaning_47 rfl (lv_at hl 1 rfl) ?_
  refine va_get (D := D) (ci := 7) (v := .ref (a 12)) (C := RX7) (T := TX7) (N := 7) hx hb hts inlX7 hown hK hP 6 gC_6 rfl 6 (by decide) (hts _ mw_58) (fun _ h9 => h9) rfl dX7_addMeaning_48 ?_
  refine lv_iload hx hb dX7_addMeaning_51 (lv_at hl 0 rfl) ?_
  refine lv_iload hx hb dX7_addMeaning_53 (lv_at hl 7 rfl) ?_
  obtain ⟨σ11, e12, hF⟩ := Option.bind_eq_some_iff.mp hF
  refine z_ist (wC cyI cyZ a) hx hb hK hP hD hS 12 gC_12 sC_12 e12 dX7_addMeaning_55 (fun H locs hP hD hS => ?_)
  refine lv_aload_n hx hb dX7_addMeaning_56 rfl (lv_at hl 1 rfl) ?_
  refine va_get (D := D) (ci := 7) (v := .ref (a 7)) (C := RX7) (T := TX7) (N := 7) hx hb hts inlX7 hown hK hP 6 gC_6 rfl 1 (by decide) (hts _ mw_53) (fun _ h9 => h9) rfl dX7_addMeaning_57 ?_
  refine lv_iload_n hx hb dX7_addMeaning_60 rfl (lv_at hl 2 rfl) ?_
  refine lv_dup2_11 hx hb dX7_addMeaning_61 rfl rfl ?_
  obtain ⟨v13, e14, hF⟩ := Option.bind_eq_some_iff.mp hF
  refine z_ild hx hb hK hP 7 gC_7 e14 dX7_addMeaning_62 ?_
  refine lv_iconst (v := (1 : Int32)) hx hb dX7_addMeaning_63 (by decide) ?_
  refine lv_iadd hx hb dX7_addMeaning_64 ?_
  obtain ⟨σ15, e16, hF⟩ := Option.bind_eq_some_iff.mp hF
  refine z_ist (wC cyI cyZ a) hx hb hK hP hD hS 7 gC_7 sC_7 e16 dX7_addMeaning_65 (fun H locs hP hD hS => ?_)
  refine lv_aload_n hx hb dX7_addMeaning_66 rfl (lv_at hl 1 rfl) ?_
  refine lv_dup hx hb dX7_addMeaning_67 rfl ?_
  refine va_get (D := D) (ci := 7) (v := .int (σ15 6 0)) (C := RX7) (T := TX7) (N := 7) hx hb hts inlX7 hown hK hP 6 gC_6 rfl 0 (by decide) (hts _ mw_294) (fun _ h9 => h9) rfl dX7_addMeaning_68 ?_
  refine lv_iconst (v := (1 : Int32)) hx hb dX7_addMeaning_71 (by decide) ?_
  refine lv_iadd hx hb dX7_addMeaning_72 ?_
  obtain ⟨σ17, e18, hF⟩ := Option.bind_eq_some_iff.mp hF
  refine va_put (D := D) (ci := 7) (v := .int ((σ15 6 0) + (1 : Int32))) (ty := .int) (C := RX7) (T := TX7) (N := 7) hx hb hts inlX7 tyX7 tyX7_ok nmX7 hown hK hP hD hS 6 gC_6 rfl 0 (by decide) (hts _ mw_294) (fun _ h9 => h9) rfl (by decide +kernel) rfl rfl (Nat.le_of_ble_eq_true rfl) dX7_addMeaning_73 (fun H locs hP hD hS => ?_)
  rw [sC_6_0, Option.some.inj e18] at hP hD
  refine lv_aload_n hx hb dX7_addMeaning_76 rfl (lv_at hl 1 rfl) ?_
  refine va_get (D := D) (ci := 7) (v := .ref (a 7)) (C := RX7) (T := TX7) (N := 7) hx hb hts inlX7 hown hK hP 6 gC_6 rfl 1 (by decide) (hts _ mw_53) (fun _ h9 => h9) rfl dX7_addMeaning_77 ?_
  refine lv_iload_n hx hb dX7_addMeaning_80 rfl (lv_at hl 2 rfl) ?_
  obtain ⟨v19, e20, hF⟩ := Option.bind_eq_some_iff.mp hF
  refine z_ild hx hb hK hP 7 gC_7 e20 dX7_addMeaning_81 ?_
  refine lv_iconst (v := (1 : Int32)) hx hb dX7_addMeaning_82 (by decide) ?_
  refine lv_isub hx hb dX7_addMeaning_83 ?_
  cases hF
  exact z_iret hx hb hr hlocks hK hP hD hS dX7_addMeaning_84
abbrev ts_X7_dropMeanings : List Cond := .code yX7_dropMeanings cX7_dropMeanings 3 (some .int) :: wsL_law
set_option maxHeartbeats 4000000 in
set_option maxRecDepth 100000 in
theorem c_X7_dropMeanings (l : Launch) (D : va_G) (cyI cyZ : ClassId) (a : Nat → Nat) (A : Nat → Prop) (σ : Mem) (x1 : Int32) (r : Int32) (σ' : Mem) (hF : F_X7_dropMeanings σ x1 = some (r, σ')) : CtI l yX7_dropMeanings ts_X7_dropMeanings ({ frames := 0, cells := 0, slots := 0, locals := 0 } : Room) [.ref (a 6), .int x1] D cyI cyZ A (wC cyI cyZ a σ) (wC cyI cyZ a σ') r := by
  refine CtI.of (cc := cX7_dropMeanings) (maxL := 3) (ret := (some .int)) (by decide) rfl (Nat.le_of_ble_eq_true rfl) ?_
  intro p e s m below meth c ls hC hP hD hl
  obtain ⟨hx, hb, hr, hml, hown, hts, hK, hN, hlocks⟩ := hC
  have hown : s.vm.findClass RX7 = some m.cls := hown
  have hS : va_S A s.heap s.heap [] := va_S.rf
  have hl : lv_has ls 3 [(0, .ref (a 6)), (1, .int x1)] := hl
  unfold F_X7_dropMeanings at hF
  refine lv_aload_n hx hb dX7_dropMeanings_0 rfl (lv_at hl 0 rfl) ?_
  refine va_get (D := D) (ci := 7) (v := .ref (a 7)) (C := RX7) (T := TX7) (N := 7) hx hb hts inlX7 hown hK hP 6 gC_6 rfl 1 (by decide) (hts _ mw_53) (fun _ h9 => h9) rfl dX7_dropMeanings_1 ?_
  refine lv_iload_n hx hb dX7_dropMeanings_4 rfl (lv_at hl 1 rfl) ?_
  obtain ⟨v1, e2, hF⟩ := Option.bind_eq_some_iff.mp hF
  refine z_ild hx hb hK hP 7 gC_7 e2 dX7_dropMeanings_5 ?_
  refine lv_istore_n (lv' := [(2, .int v1), (0, .ref (a 6)), (1, .int x1)]) hx hb dX7_dropMeanings_6 rfl hl (by decide) rfl (fun ls hl => ?_)
  refine lv_aload_n hx hb dX7_dropMeanings_7 rfl (lv_at hl 1 rfl) ?_
  refine va_get (D := D) (ci := 7) (v := .ref (a 7)) (C := RX7) (T := TX7) (N := 7) hx hb hts inlX7 hown hK hP 6 gC_6 rfl 1 (by decide) (hts _ mw_53) (fun _ h9 => h9) rfl dX7_dropMeanings_8 ?_
  refine lv_iload_n hx hb dX7_dropMeanings_11 rfl (lv_at hl 2 rfl) ?_
  refine lv_iconst (v := (0 : Int32)) hx hb dX7_dropMeanings_12 (by decide) ?_
  obtain ⟨σ3, e4, hF⟩ := Option.bind_eq_some_iff.mp hF
  refine z_ist (wC cyI cyZ a) hx hb hK hP hD hS 7 gC_7 sC_7 e4 dX7_dropMeanings_13 (fun H locs hP hD hS => ?_)
  refine lv_aload_n hx hb dX7_dropMeanings_14 rfl (lv_at hl 1 rfl) ?_
  refine lv_dup hx hb dX7_dropMeanings_15 rfl ?_
  refine va_get (D := D) (ci := 7) (v := .int (σ3 6 0)) (C := RX7) (T := TX7) (N := 7) hx hb hts inlX7 hown hK hP 6 gC_6 rfl 0 (by decide) (hts _ mw_294) (fun _ h9 => h9) rfl dX7_dropMeanings_16 ?_
  refine lv_iload_n hx hb dX7_dropMeanings_19 rfl (lv_at hl 0 rfl) ?_
  refine lv_isub hx hb dX7_dropMeanings_20 ?_
  obtain ⟨σ5, e6, hF⟩ := Option.bind_eq_some_iff.mp hF
  refine va_put (D := D) (ci := 7) (v := .int ((σ3 6 0) - v1)) (ty := .int) (C := RX7) (T := TX7) (N := 7) hx hb hts inlX7 tyX7 tyX7_ok nmX7 hown hK hP hD hS 6 gC_6 rfl 0 (by decide) (hts _ mw_294) (fun _ h9 => h9) rfl (by decide +kernel) rfl rfl (Nat.le_of_ble_eq_true rfl) dX7_dropMeanings_21 (fun H locs hP hD hS => ?_)
  rw [sC_6_0, Option.some.inj e6] at hP hD
  refine lv_iload_n hx hb dX7_dropMeanings_24 rfl (lv_at hl 0 rfl) ?_
  cases hF
  exact z_iret hx hb hr hlocks hK hP hD hS dX7_dropMeanings_25
