-- X9_table X9_row X9_put X9_valueOf X9_value X9_link X9_isWord X9_mayMean X9_mean
abbrev ts_X9_table : List Cond := .code yX9_table cX9_table 3 (some .int) :: wsL_law
def SH_X9_table (a : Nat → Nat) (ls : Array Slot) (pc : Nat) (vs : List Int32) : Prop := (pc = 0 ∧ ∃ x1 : Int32, vs = [x1] ∧ lv_has ls 3 [(0, .ref (a 0)), (1, .int x1)]) ∨ (pc = 34 ∧ ∃ x2 : Int32, vs = [x2] ∧ lv_has ls 3 [(0, .ref (a 0)), (2, .int x2)])
section
variable {p : Program} {l : Launch} {e : Env} {s : State} {m : MethodId} {args : Array Value} {below : List Frame} {meth : Method} {c : Code} {D : va_G} {A : Nat → Prop} {a : Nat → Nat} {cyI cyZ : ClassId} {r : Int32} {σ' : Mem} {q : Mem × List Int32}
set_option maxHeartbeats 4000000 in
set_option maxRecDepth 100000 in
theorem wl_X9_table_0 (σ : Mem) (hC : CX p c cX9_table meth (some .int) s m args yX9_table.cls 3 D cyI cyZ) (hq : extM q = some (r, σ')) (n : Nat) (ih : ∀ (pc : Nat) (x : Mem) (vs : List Int32) (ls : Array Slot) (H : Heap) (locs : List Loc), goL B_X9_table n pc x vs = some q → SH_X9_table a ls pc vs → va_P D vwCl (wM cyI cyZ a x) H → va_D A (wM cyI cyZ a x) → va_S A s.heap H locs → W p l e (headSpec ts_X9_table ({ frames := 1, cells := 0, slots := 0, locals := 22 } : Room)).room s m args below meth c H locs 0 0 (MQ below (QcI D cyI cyZ A (wM cyI cyZ a σ') r) args s 0 0 A) (F0 m pc ls [])) (x1 : Int32) (ls : Array Slot) (H : Heap) (locs : List Loc) (hgo : goL B_X9_table (n + 1) 0 σ [x1] = some q) (hl : lv_has ls 3 [(0, .ref (a 0)), (1, .int x1)]) (hP : va_P D vwCl (wM cyI cyZ a σ) H) (hD : va_D A (wM cyI cyZ a σ)) (hS : va_S A s.heap H locs) : W p l e (headSpec ts_X9_table ({ frames := 1, cells := 0, slots := 0, locals := 22 } : Room)).room s m args below meth c H locs 0 0 (MQ below (QcI D cyI cyZ A (wM cyI cyZ a σ') r) args s 0 0 A) (F0 m 0 ls []) := by
  obtain ⟨hx, hb, hr, hml, hown, hts, hK, hN, hlocks⟩ := hC
  have hown : s.vm.findClass RX9 = some m.cls := hown
  obtain ⟨yy, hF, hgo⟩ := goL_step (by decide) hgo
  have hF : B_X9_table_0 σ x1 = some yy := hF
  unfold B_X9_table_0 at hF
  refine lv_iload_n hx hb dX9_table_0 rfl (lv_at hl 1 rfl) ?_
  refine lv_iconst (v := (1 : Int32)) hx hb dX9_table_1 (by decide) ?_
  refine lv_iconst (v := (4 : Int32)) hx hb dX9_table_2 (by decide) ?_
  refine z_callSI (w' := (wM cyI cyZ a σ)) (As := [.int x1, .int (1 : Int32), .int (4 : Int32)]) (rest := []) ⟨hx, hb, hml, hown, hts⟩ (c_X9_within l D cyI cyZ A (wM cyI cyZ a σ) x1 (1 : Int32) (4 : Int32) _ rfl) (va_cwS 3 hts (gd_S mw_161 mw_162 mw_5 mw_163) rfl rfl rfl (by decide +kernel) ⟨Nat.le_of_ble_eq_true rfl, Nat.le_of_ble_eq_true rfl⟩) hK hN hP hD hS rfl hl.1 rfl (Nat.le_of_ble_eq_true rfl) dX9_table_3 ⟨Nat.zero_le _, Nat.zero_le _⟩ (fun H locs hP hD hS => ?_)
  refine lv_if_ne (tgt := 11) hx hb dX9_table_6 (by decide) (fun c1 => ?_) (fun c1 => ?_)
  · rw [if_neg c1] at hF
    refine lv_aload_n hx hb dX9_table_11 rfl (lv_at hl 0 rfl) ?_
    refine va_get (D := D) (ci := 9) (v := .int (σ 0 4)) (C := RX9) (T := TX9) (N := 34) hx hb hts inlX9 hown hK hP 0 gM_0 rfl 4 (by decide) (hts _ mw_160) (fun _ h9 => h9) rfl dX9_table_12 ?_
    refine lv_iconst (v := (4 : Int32)) hx hb dX9_table_15 (by decide) ?_
    refine lv_icmp_ne (tgt := 22) hx hb dX9_table_16 (by decide) (fun c2 => ?_) (fun c2 => ?_)
    · rw [if_neg c2] at hF
      refine lv_aload_n hx hb dX9_table_22 rfl (lv_at hl 0 rfl) ?_
      refine va_get (D := D) (ci := 9) (v := .ref (a 1)) (C := RX9) (T := TX9) (N := 34) hx hb hts inlX9 hown hK hP 0 gM_0 rfl 0 (by decide) (hts _ mw_117) (fun _ h9 => h9) rfl dX9_table_23 ?_
      refine lv_aload_n hx hb dX9_table_26 rfl (lv_at hl 0 rfl) ?_
      refine va_get (D := D) (ci := 9) (v := .int (σ 0 4)) (C := RX9) (T := TX9) (N := 34) hx hb hts inlX9 hown hK hP 0 gM_0 rfl 4 (by decide) (hts _ mw_160) (fun _ h9 => h9) rfl dX9_table_27 ?_
      refine lv_iload_n hx hb dX9_table_30 rfl (lv_at hl 1 rfl) ?_
      obtain ⟨σ3, e4, hF⟩ := Option.bind_eq_some_iff.mp hF
      refine z_ist (wM cyI cyZ a) hx hb hK hP hD hS 1 gM_1 sM_1 e4 dX9_table_31 (fun H locs hP hD hS => ?_)
      refine lv_iconst (v := (0 : Int32)) hx hb dX9_table_32 (by decide) ?_
      refine lv_istore_n (lv' := [(2, .int (0 : Int32)), (0, .ref (a 0)), (1, .int x1)]) hx hb dX9_table_33 rfl hl (by decide) rfl (fun ls hl => ?_)
      cases hF
      exact ih _ _ _ _ _ _ hgo (Or.inr (⟨rfl, _, rfl, lv_sub hl [1, 0] rfl⟩)) hP hD hS
    · rw [if_pos c2] at hF
      refine lv_bipush (v := (-2 : Int32)) hx hb dX9_table_19 (by decide) ?_
      cases hF
      obtain ⟨rfl, rfl⟩ := extM_ret hq (goL_ret hgo)
      exact z_iret hx hb hr hlocks hK hP hD hS dX9_table_21
  · rw [if_pos c1] at hF
    refine lv_iconst (v := (-1 : Int32)) hx hb dX9_table_9 (by decide) ?_
    cases hF
    obtain ⟨rfl, rfl⟩ := extM_ret hq (goL_ret hgo)
    exact z_iret hx hb hr hlocks hK hP hD hS dX9_table_10
set_option maxHeartbeats 4000000 in
set_option maxRecDepth 100000 in
theorem wl_X9_table_34 (σ : Mem) (hC : CX p c cX9_table meth (some .int) s m args yX9_table.cls 3 D cyI cyZ) (hq : extM q = some (r, σ')) (n : Nat) (ih : ∀ (pc : Nat) (x : Mem) (vs : List Int32) (ls : Array Slot) (H : Heap) (locs : List Loc), goL B_X9_table n pc x vs = some q → SH_X9_table a ls pc vs → va_P D vwCl (wM cyI cyZ a x) H → va_D A (wM cyI cyZ a x) → va_S A s.heap H locs → W p l e (headSpec ts_X9_table ({ frames := 1, cells := 0, slots := 0, locals := 22 } : Room)).room s m args below meth c H locs 0 0 (MQ below (QcI D cyI cyZ A (wM cyI cyZ a σ') r) args s 0 0 A) (F0 m pc ls [])) (x2 : Int32) (ls : Array Slot) (H : Heap) (locs : List Loc) (hgo : goL B_X9_table (n + 1) 34 σ [x2] = some q) (hl : lv_has ls 3 [(0, .ref (a 0)), (2, .int x2)]) (hP : va_P D vwCl (wM cyI cyZ a σ) H) (hD : va_D A (wM cyI cyZ a σ)) (hS : va_S A s.heap H locs) : W p l e (headSpec ts_X9_table ({ frames := 1, cells := 0, slots := 0, locals := 22 } : Room)).room s m args below meth c H locs 0 0 (MQ below (QcI D cyI cyZ A (wM cyI cyZ a σ') r) args s 0 0 A) (F0 m 34 ls []) := by
  obtain ⟨hx, hb, hr, hml, hown, hts, hK, hN, hlocks⟩ := hC
  have hown : s.vm.findClass RX9 = some m.cls := hown
  obtain ⟨yy, hF, hgo⟩ := goL_step (by decide) hgo
  have hF : B_X9_table_34 σ x2 = some yy := hF
  unfold B_X9_table_34 at hF
  refine lv_iload_n hx hb dX9_table_34 rfl (lv_at hl 1 rfl) ?_
  refine lv_iconst (v := (4 : Int32)) hx hb dX9_table_35 (by decide) ?_
  refine lv_icmp_ge (tgt := 59) hx hb dX9_table_36 (by decide) (fun c1 => ?_) (fun c1 => ?_)
  · rw [if_pos c1] at hF
    refine lv_aload_n hx hb dX9_table_59 rfl (lv_at hl 0 rfl) ?_
    refine lv_dup hx hb dX9_table_60 rfl ?_
    refine va_get (D := D) (ci := 9) (v := .int (σ 0 4)) (C := RX9) (T := TX9) (N := 34) hx hb hts inlX9 hown hK hP 0 gM_0 rfl 4 (by decide) (hts _ mw_160) (fun _ h9 => h9) rfl dX9_table_61 ?_
    refine lv_iconst (v := (1 : Int32)) hx hb dX9_table_64 (by decide) ?_
    refine lv_iadd hx hb dX9_table_65 ?_
    obtain ⟨σ2, e3, hF⟩ := Option.bind_eq_some_iff.mp hF
    refine va_put (D := D) (ci := 9) (v := .int ((σ 0 4) + (1 : Int32))) (ty := .int) (C := RX9) (T := TX9) (N := 34) hx hb hts inlX9 tyX9 tyX9_ok nmX9 hown hK hP hD hS 0 gM_0 rfl 4 (by decide) (hts _ mw_160) (fun _ h9 => h9) rfl (by decide +kernel) rfl rfl (Nat.le_of_ble_eq_true rfl) dX9_table_66 (fun H locs hP hD hS => ?_)
    rw [sM_0_4, Option.some.inj e3] at hP hD
    refine lv_aload_n hx hb dX9_table_69 rfl (lv_at hl 0 rfl) ?_
    refine va_get (D := D) (ci := 9) (v := .int (σ2 0 4)) (C := RX9) (T := TX9) (N := 34) hx hb hts inlX9 hown hK hP 0 gM_0 rfl 4 (by decide) (hts _ mw_160) (fun _ h9 => h9) rfl dX9_table_70 ?_
    refine lv_iconst (v := (1 : Int32)) hx hb dX9_table_73 (by decide) ?_
    refine lv_isub hx hb dX9_table_74 ?_
    cases hF
    obtain ⟨rfl, rfl⟩ := extM_ret hq (goL_ret hgo)
    exact z_iret hx hb hr hlocks hK hP hD hS dX9_table_75
  · rw [if_neg c1] at hF
    refine lv_aload_n hx hb dX9_table_39 rfl (lv_at hl 0 rfl) ?_
    refine va_get (D := D) (ci := 9) (v := .ref (a 4)) (C := RX9) (T := TX9) (N := 34) hx hb hts inlX9 hown hK hP 0 gM_0 rfl 3 (by decide) (hts _ mw_120) (fun _ h9 => h9) rfl dX9_table_40 ?_
    refine lv_iconst (v := (4 : Int32)) hx hb dX9_table_43 (by decide) ?_
    refine lv_aload_n hx hb dX9_table_44 rfl (lv_at hl 0 rfl) ?_
    refine va_get (D := D) (ci := 9) (v := .int (σ 0 4)) (C := RX9) (T := TX9) (N := 34) hx hb hts inlX9 hown hK hP 0 gM_0 rfl 4 (by decide) (hts _ mw_160) (fun _ h9 => h9) rfl dX9_table_45 ?_
    refine lv_imul hx hb dX9_table_48 ?_
    refine lv_iload_n hx hb dX9_table_49 rfl (lv_at hl 1 rfl) ?_
    refine lv_iadd hx hb dX9_table_50 ?_
    refine lv_iconst (v := (-1 : Int32)) hx hb dX9_table_51 (by decide) ?_
    obtain ⟨σ4, e5, hF⟩ := Option.bind_eq_some_iff.mp hF
    refine z_ist (wM cyI cyZ a) hx hb hK hP hD hS 4 gM_4 sM_4 e5 dX9_table_52 (fun H locs hP hD hS => ?_)
    refine lv_iinc (v := (x2 + (1 : Int32))) (lv' := [(2, .int (x2 + (1 : Int32))), (0, .ref (a 0))]) hx hb dX9_table_53 hl (k := 1) rfl rfl (by decide) rfl (fun ls hl => ?_)
    refine lv_goto (tgt := 34) hx hb dX9_table_56 (by decide) ?_
    cases hF
    exact ih _ _ _ _ _ _ hgo (Or.inr (⟨rfl, _, rfl, lv_sub hl [1, 0] rfl⟩)) hP hD hS
theorem wk_X9_table (hC : CX p c cX9_table meth (some .int) s m args yX9_table.cls 3 D cyI cyZ) (hq : extM q = some (r, σ')) : ∀ (n : Nat), ∀ (pc : Nat) (x : Mem) (vs : List Int32) (ls : Array Slot) (H : Heap) (locs : List Loc), goL B_X9_table n pc x vs = some q → SH_X9_table a ls pc vs → va_P D vwCl (wM cyI cyZ a x) H → va_D A (wM cyI cyZ a x) → va_S A s.heap H locs → W p l e (headSpec ts_X9_table ({ frames := 1, cells := 0, slots := 0, locals := 22 } : Room)).room s m args below meth c H locs 0 0 (MQ below (QcI D cyI cyZ A (wM cyI cyZ a σ') r) args s 0 0 A) (F0 m pc ls []) := by
  intro n
  induction n with
  | zero => intro pc x vs ls H locs h; exact absurd h (by simp [goL])
  | succ n ih =>
    intro pc x vs ls H locs hgo hsh hP hD hS
    rcases hsh with ⟨rfl, x1, rfl, hl⟩ | ⟨rfl, x2, rfl, hl⟩
    · exact wl_X9_table_0 x hC hq n ih x1 ls H locs hgo hl hP hD hS
    · exact wl_X9_table_34 x hC hq n ih x2 ls H locs hgo hl hP hD hS
end
theorem c_X9_table (l : Launch) (D : va_G) (cyI cyZ : ClassId) (a : Nat → Nat) (A : Nat → Prop) (σ : Mem) (x1 : Int32) (r : Int32) (σ' : Mem) (hF : F_X9_table σ x1 = some (r, σ')) : CtI l yX9_table ts_X9_table ({ frames := 1, cells := 0, slots := 0, locals := 22 } : Room) [.ref (a 0), .int x1] D cyI cyZ A (wM cyI cyZ a σ) (wM cyI cyZ a σ') r := by
  refine CtI.of (cc := cX9_table) (maxL := 3) (ret := (some .int)) (by decide) rfl (Nat.le_of_ble_eq_true rfl) ?_
  intro p e s m below meth c ls hC hP hD hl
  obtain ⟨q, hq, hr1⟩ := Option.bind_eq_some_iff.mp hF
  obtain ⟨n, hn⟩ := finL_some hq
  exact wk_X9_table hC hr1 n 0 _ _ ls _ _ hn (Or.inl ⟨rfl, _, rfl, hl⟩) hP hD va_S.rf
abbrev ts_X9_row : List Cond := .code yX9_row cX9_row 3 (some .int) :: wsL_law
def SH_X9_row (a : Nat → Nat) (ls : Array Slot) (pc : Nat) (vs : List Int32) : Prop := (pc = 0 ∧ ∃ x1 : Int32, vs = [x1] ∧ lv_has ls 3 [(0, .ref (a 0)), (1, .int x1)]) ∨ (pc = 26 ∧ ∃ x1 x2 : Int32, vs = [x1, x2] ∧ lv_has ls 3 [(0, .ref (a 0)), (1, .int x1), (2, .int x2)])
section
variable {p : Program} {l : Launch} {e : Env} {s : State} {m : MethodId} {args : Array Value} {below : List Frame} {meth : Method} {c : Code} {D : va_G} {A : Nat → Prop} {a : Nat → Nat} {cyI cyZ : ClassId} {r : Int32} {σ' : Mem} {q : Mem × List Int32}
set_option maxHeartbeats 4000000 in
set_option maxRecDepth 100000 in
theorem wl_X9_row_0 (σ : Mem) (hC : CX p c cX9_row meth (some .int) s m args yX9_row.cls 3 D cyI cyZ) (hq : extM q = some (r, σ')) (n : Nat) (ih : ∀ (pc : Nat) (x : Mem) (vs : List Int32) (ls : Array Slot) (H : Heap) (locs : List Loc), goL B_X9_row n pc x vs = some q → SH_X9_row a ls pc vs → va_P D vwCl (wM cyI cyZ a x) H → va_D A (wM cyI cyZ a x) → va_S A s.heap H locs → W p l e (headSpec ts_X9_row ({ frames := 1, cells := 0, slots := 0, locals := 21 } : Room)).room s m args below meth c H locs 0 0 (MQ below (QcI D cyI cyZ A (wM cyI cyZ a σ') r) args s 0 0 A) (F0 m pc ls [])) (x1 : Int32) (ls : Array Slot) (H : Heap) (locs : List Loc) (hgo : goL B_X9_row (n + 1) 0 σ [x1] = some q) (hl : lv_has ls 3 [(0, .ref (a 0)), (1, .int x1)]) (hP : va_P D vwCl (wM cyI cyZ a σ) H) (hD : va_D A (wM cyI cyZ a σ)) (hS : va_S A s.heap H locs) : W p l e (headSpec ts_X9_row ({ frames := 1, cells := 0, slots := 0, locals := 21 } : Room)).room s m args below meth c H locs 0 0 (MQ below (QcI D cyI cyZ A (wM cyI cyZ a σ') r) args s 0 0 A) (F0 m 0 ls []) := by
  obtain ⟨hx, hb, hr, hml, hown, hts, hK, hN, hlocks⟩ := hC
  have hown : s.vm.findClass RX9 = some m.cls := hown
  obtain ⟨yy, hF, hgo⟩ := goL_step (by decide) hgo
  have hF : B_X9_row_0 σ x1 = some yy := hF
  unfold B_X9_row_0 at hF
  refine lv_aload_n hx hb dX9_row_0 rfl (lv_at hl 0 rfl) ?_
  refine lv_iload_n hx hb dX9_row_1 rfl (lv_at hl 1 rfl) ?_
  refine z_callVI (w' := (wM cyI cyZ a σ)) (As := [.int x1]) (rest := []) ⟨hx, hb, hml, hown, hts⟩ (c_X9_isTable l D cyI cyZ a A σ x1 _ rfl) (cwV 1 hts (gd_V mw_197 mw_198 mw_199 mw_5 mw_200) rfl rfl rfl (by decide +kernel) ⟨Nat.le_of_ble_eq_true rfl, Nat.le_of_ble_eq_true rfl⟩) hK hN hP hD hS 9 0 rfl rfl gM_0 rfl hl.1 rfl (Nat.le_of_ble_eq_true rfl) dX9_row_2 ⟨Nat.zero_le _, Nat.zero_le _⟩ (fun H locs hP hD hS => ?_)
  refine lv_if_ne (tgt := 10) hx hb dX9_row_5 (by decide) (fun c1 => ?_) (fun c1 => ?_)
  · rw [if_neg c1] at hF
    refine lv_aload_n hx hb dX9_row_10 rfl (lv_at hl 0 rfl) ?_
    refine va_get (D := D) (ci := 9) (v := .ref (a 2)) (C := RX9) (T := TX9) (N := 34) hx hb hts inlX9 hown hK hP 0 gM_0 rfl 1 (by decide) (hts _ mw_118) (fun _ h9 => h9) rfl dX9_row_11 ?_
    refine lv_iload_n hx hb dX9_row_14 rfl (lv_at hl 1 rfl) ?_
    obtain ⟨v2, e3, hF⟩ := Option.bind_eq_some_iff.mp hF
    refine z_ild hx hb hK hP 2 gM_2 e3 dX9_row_15 ?_
    refine lv_bipush (v := (20 : Int32)) hx hb dX9_row_16 (by decide) ?_
    refine lv_icmp_ne (tgt := 24) hx hb dX9_row_18 (by decide) (fun c4 => ?_) (fun c4 => ?_)
    · rw [if_neg c4] at hF
      refine lv_iconst (v := (0 : Int32)) hx hb dX9_row_24 (by decide) ?_
      refine lv_istore_n (lv' := [(2, .int (0 : Int32)), (0, .ref (a 0)), (1, .int x1)]) hx hb dX9_row_25 rfl hl (by decide) rfl (fun ls hl => ?_)
      cases hF
      exact ih _ _ _ _ _ _ hgo (Or.inr (⟨rfl, _, _, rfl, lv_sub hl [1, 2, 0] rfl⟩)) hP hD hS
    · rw [if_pos c4] at hF
      refine lv_bipush (v := (-2 : Int32)) hx hb dX9_row_21 (by decide) ?_
      cases hF
      obtain ⟨rfl, rfl⟩ := extM_ret hq (goL_ret hgo)
      exact z_iret hx hb hr hlocks hK hP hD hS dX9_row_23
  · rw [if_pos c1] at hF
    refine lv_iconst (v := (-1 : Int32)) hx hb dX9_row_8 (by decide) ?_
    cases hF
    obtain ⟨rfl, rfl⟩ := extM_ret hq (goL_ret hgo)
    exact z_iret hx hb hr hlocks hK hP hD hS dX9_row_9
set_option maxHeartbeats 4000000 in
set_option maxRecDepth 100000 in
theorem wl_X9_row_26 (σ : Mem) (hC : CX p c cX9_row meth (some .int) s m args yX9_row.cls 3 D cyI cyZ) (hq : extM q = some (r, σ')) (n : Nat) (ih : ∀ (pc : Nat) (x : Mem) (vs : List Int32) (ls : Array Slot) (H : Heap) (locs : List Loc), goL B_X9_row n pc x vs = some q → SH_X9_row a ls pc vs → va_P D vwCl (wM cyI cyZ a x) H → va_D A (wM cyI cyZ a x) → va_S A s.heap H locs → W p l e (headSpec ts_X9_row ({ frames := 1, cells := 0, slots := 0, locals := 21 } : Room)).room s m args below meth c H locs 0 0 (MQ below (QcI D cyI cyZ A (wM cyI cyZ a σ') r) args s 0 0 A) (F0 m pc ls [])) (x1 : Int32) (x2 : Int32) (ls : Array Slot) (H : Heap) (locs : List Loc) (hgo : goL B_X9_row (n + 1) 26 σ [x1, x2] = some q) (hl : lv_has ls 3 [(0, .ref (a 0)), (1, .int x1), (2, .int x2)]) (hP : va_P D vwCl (wM cyI cyZ a σ) H) (hD : va_D A (wM cyI cyZ a σ)) (hS : va_S A s.heap H locs) : W p l e (headSpec ts_X9_row ({ frames := 1, cells := 0, slots := 0, locals := 21 } : Room)).room s m args below meth c H locs 0 0 (MQ below (QcI D cyI cyZ A (wM cyI cyZ a σ') r) args s 0 0 A) (F0 m 26 ls []) := by
  obtain ⟨hx, hb, hr, hml, hown, hts, hK, hN, hlocks⟩ := hC
  have hown : s.vm.findClass RX9 = some m.cls := hown
  obtain ⟨yy, hF, hgo⟩ := goL_step (by decide) hgo
  have hF : B_X9_row_26 σ x1 x2 = some yy := hF
  unfold B_X9_row_26 at hF
  refine lv_iload_n hx hb dX9_row_26 rfl (lv_at hl 2 rfl) ?_
  refine lv_iconst (v := (4 : Int32)) hx hb dX9_row_27 (by decide) ?_
  refine lv_icmp_ge (tgt := 60) hx hb dX9_row_28 (by decide) (fun c1 => ?_) (fun c1 => ?_)
  · rw [if_pos c1] at hF
    refine lv_aload_n hx hb dX9_row_60 rfl (lv_at hl 0 rfl) ?_
    refine va_get (D := D) (ci := 9) (v := .ref (a 2)) (C := RX9) (T := TX9) (N := 34) hx hb hts inlX9 hown hK hP 0 gM_0 rfl 1 (by decide) (hts _ mw_118) (fun _ h9 => h9) rfl dX9_row_61 ?_
    refine lv_iload_n hx hb dX9_row_64 rfl (lv_at hl 1 rfl) ?_
    refine lv_dup2_11 hx hb dX9_row_65 rfl rfl ?_
    obtain ⟨v2, e3, hF⟩ := Option.bind_eq_some_iff.mp hF
    refine z_ild hx hb hK hP 2 gM_2 e3 dX9_row_66 ?_
    refine lv_iconst (v := (1 : Int32)) hx hb dX9_row_67 (by decide) ?_
    refine lv_iadd hx hb dX9_row_68 ?_
    obtain ⟨σ4, e5, hF⟩ := Option.bind_eq_some_iff.mp hF
    refine z_ist (wM cyI cyZ a) hx hb hK hP hD hS 2 gM_2 sM_2 e5 dX9_row_69 (fun H locs hP hD hS => ?_)
    refine lv_aload_n hx hb dX9_row_70 rfl (lv_at hl 0 rfl) ?_
    refine va_get (D := D) (ci := 9) (v := .ref (a 2)) (C := RX9) (T := TX9) (N := 34) hx hb hts inlX9 hown hK hP 0 gM_0 rfl 1 (by decide) (hts _ mw_118) (fun _ h9 => h9) rfl dX9_row_71 ?_
    refine lv_iload_n hx hb dX9_row_74 rfl (lv_at hl 1 rfl) ?_
    obtain ⟨v6, e7, hF⟩ := Option.bind_eq_some_iff.mp hF
    refine z_ild hx hb hK hP 2 gM_2 e7 dX9_row_75 ?_
    refine lv_iconst (v := (1 : Int32)) hx hb dX9_row_76 (by decide) ?_
    refine lv_isub hx hb dX9_row_77 ?_
    cases hF
    obtain ⟨rfl, rfl⟩ := extM_ret hq (goL_ret hgo)
    exact z_iret hx hb hr hlocks hK hP hD hS dX9_row_78
  · rw [if_neg c1] at hF
    refine lv_aload_n hx hb dX9_row_31 rfl (lv_at hl 0 rfl) ?_
    refine va_get (D := D) (ci := 9) (v := .ref (a 3)) (C := RX9) (T := TX9) (N := 34) hx hb hts inlX9 hown hK hP 0 gM_0 rfl 2 (by decide) (hts _ mw_119) (fun _ h9 => h9) rfl dX9_row_32 ?_
    refine lv_bipush (v := (20 : Int32)) hx hb dX9_row_35 (by decide) ?_
    refine lv_iload_n hx hb dX9_row_37 rfl (lv_at hl 1 rfl) ?_
    refine lv_imul hx hb dX9_row_38 ?_
    refine lv_aload_n hx hb dX9_row_39 rfl (lv_at hl 0 rfl) ?_
    refine va_get (D := D) (ci := 9) (v := .ref (a 2)) (C := RX9) (T := TX9) (N := 34) hx hb hts inlX9 hown hK hP 0 gM_0 rfl 1 (by decide) (hts _ mw_118) (fun _ h9 => h9) rfl dX9_row_40 ?_
    refine lv_iload_n hx hb dX9_row_43 rfl (lv_at hl 1 rfl) ?_
    obtain ⟨v8, e9, hF⟩ := Option.bind_eq_some_iff.mp hF
    refine z_ild hx hb hK hP 2 gM_2 e9 dX9_row_44 ?_
    refine lv_iadd hx hb dX9_row_45 ?_
    refine lv_iconst (v := (4 : Int32)) hx hb dX9_row_46 (by decide) ?_
    refine lv_imul hx hb dX9_row_47 ?_
    refine lv_iload_n hx hb dX9_row_48 rfl (lv_at hl 2 rfl) ?_
    refine lv_iadd hx hb dX9_row_49 ?_
    refine lv_sipush (v := (-1000 : Int32)) hx hb dX9_row_50 (by decide) ?_
    obtain ⟨σ10, e11, hF⟩ := Option.bind_eq_some_iff.mp hF
    refine z_ist (wM cyI cyZ a) hx hb hK hP hD hS 3 gM_3 sM_3 e11 dX9_row_53 (fun H locs hP hD hS => ?_)
    refine lv_iinc (v := (x2 + (1 : Int32))) (lv' := [(2, .int (x2 + (1 : Int32))), (0, .ref (a 0)), (1, .int x1)]) hx hb dX9_row_54 hl (k := 2) rfl rfl (by decide) rfl (fun ls hl => ?_)
    refine lv_goto (tgt := 26) hx hb dX9_row_57 (by decide) ?_
    cases hF
    exact ih _ _ _ _ _ _ hgo (Or.inr (⟨rfl, _, _, rfl, lv_sub hl [1, 2, 0] rfl⟩)) hP hD hS
theorem wk_X9_row (hC : CX p c cX9_row meth (some .int) s m args yX9_row.cls 3 D cyI cyZ) (hq : extM q = some (r, σ')) : ∀ (n : Nat), ∀ (pc : Nat) (x : Mem) (vs : List Int32) (ls : Array Slot) (H : Heap) (locs : List Loc), goL B_X9_row n pc x vs = some q → SH_X9_row a ls pc vs → va_P D vwCl (wM cyI cyZ a x) H → va_D A (wM cyI cyZ a x) → va_S A s.heap H locs → W p l e (headSpec ts_X9_row ({ frames := 1, cells := 0, slots := 0, locals := 21 } : Room)).room s m args below meth c H locs 0 0 (MQ below (QcI D cyI cyZ A (wM cyI cyZ a σ') r) args s 0 0 A) (F0 m pc ls []) := by
  intro n
  induction n with
  | zero => intro pc x vs ls H locs h; exact absurd h (by simp [goL])
  | succ n ih =>
    intro pc x vs ls H locs hgo hsh hP hD hS
    rcases hsh with ⟨rfl, x1, rfl, hl⟩ | ⟨rfl, x1, x2, rfl, hl⟩
    · exact wl_X9_row_0 x hC hq n ih x1 ls H locs hgo hl hP hD hS
    · exact wl_X9_row_26 x hC hq n ih x1 x2 ls H locs hgo hl hP hD hS
end
theorem c_X9_row (l : Launch) (D : va_G) (cyI cyZ : ClassId) (a : Nat → Nat) (A : Nat → Prop) (σ : Mem) (x1 : Int32) (r : Int32) (σ' : Mem) (hF : F_X9_row σ x1 = some (r, σ')) : CtI l yX9_row ts_X9_row ({ frames := 1, cells := 0, slots := 0, locals := 21 } : Room) [.ref (a 0), .int x1] D cyI cyZ A (wM cyI cyZ a σ) (wM cyI cyZ a σ') r := by
  refine CtI.of (cc := cX9_row) (maxL := 3) (ret := (some .int)) (by decide) rfl (Nat.le_of_ble_eq_true rfl) ?_
  intro p e s m below meth c ls hC hP hD hl
  obtain ⟨q, hq, hr1⟩ := Option.bind_eq_some_iff.mp hF
  obtain ⟨n, hn⟩ := finL_some hq
  exact wk_X9_row hC hr1 n 0 _ _ ls _ _ hn (Or.inl ⟨rfl, _, rfl, hl⟩) hP hD va_S.rf
abbrev ts_X9_put : List Cond := .code yX9_put cX9_put 5 (some .int) :: wsL_law
set_option maxHeartbeats 4000000 in
set_option maxRecDepth 100000 in
theorem c_X9_put (l : Launch) (D : va_G) (cyI cyZ : ClassId) (a : Nat → Nat) (A : Nat → Prop) (σ : Mem) (x1 : Int32) (x2 : Int32) (x3 : Int32) (x4 : Int32) (r : Int32) (σ' : Mem) (hF : F_X9_put σ x1 x2 x3 x4 = some (r, σ')) : CtI l yX9_put ts_X9_put ({ frames := 3, cells := 0, slots := 0, locals := 66 } : Room) [.ref (a 0), .int x1, .int x2, .int x3, .int x4] D cyI cyZ A (wM cyI cyZ a σ) (wM cyI cyZ a σ') r := by
  refine CtI.of (cc := cX9_put) (maxL := 5) (ret := (some .int)) (by decide) rfl (Nat.le_of_ble_eq_true rfl) ?_
  intro p e s m below meth c ls hC hP hD hl
  obtain ⟨hx, hb, hr, hml, hown, hts, hK, hN, hlocks⟩ := hC
  have hown : s.vm.findClass RX9 = some m.cls := hown
  have hS : va_S A s.heap s.heap [] := va_S.rf
  have hl : lv_has ls 5 [(0, .ref (a 0)), (1, .int x1), (2, .int x2), (3, .int x3), (4, .int x4)] := hl
  unfold F_X9_put at hF
  refine lv_aload_n hx hb dX9_put_0 rfl (lv_at hl 0 rfl) ?_
  refine lv_iload_n hx hb dX9_put_1 rfl (lv_at hl 1 rfl) ?_
  refine lv_iload_n hx hb dX9_put_2 rfl (lv_at hl 2 rfl) ?_
  refine lv_iload_n hx hb dX9_put_3 rfl (lv_at hl 3 rfl) ?_
  obtain ⟨v1, e2, hF⟩ := Option.bind_eq_some_iff.mp hF
  refine z_callVI (w' := (wM cyI cyZ a σ)) (As := [.int x1, .int x2, .int x3]) (rest := []) ⟨hx, hb, hml, hown, hts⟩ (c_X9_isCell l D cyI cyZ a A σ x1 x2 x3 _ e2) (cwV 3 hts (gd_V mw_226 mw_227 mw_228 mw_5 mw_229) rfl rfl rfl (by decide +kernel) ⟨Nat.le_of_ble_eq_true rfl, Nat.le_of_ble_eq_true rfl⟩) hK hN hP hD hS 9 0 rfl rfl gM_0 rfl hl.1 rfl (Nat.le_of_ble_eq_true rfl) dX9_put_4 ⟨Nat.zero_le _, Nat.zero_le _⟩ (fun H locs hP hD hS => ?_)
  refine lv_if_eq (tgt := 24) hx hb dX9_put_7 (by decide) (fun c3 => ?_) (fun c3 => ?_)
  · rw [if_pos c3] at hF
    refine lv_iconst (v := (-1 : Int32)) hx hb dX9_put_24 (by decide) ?_
    cases hF
    exact z_iret hx hb hr hlocks hK hP hD hS dX9_put_25
  · rw [if_neg c3] at hF
    refine lv_iload hx hb dX9_put_10 (lv_at hl 4 rfl) ?_
    refine lv_sipush (v := (-1000 : Int32)) hx hb dX9_put_12 (by decide) ?_
    refine lv_sipush (v := (999 : Int32)) hx hb dX9_put_15 (by decide) ?_
    refine z_callSI (w' := (wM cyI cyZ a σ)) (As := [.int x4, .int (-1000 : Int32), .int (999 : Int32)]) (rest := []) ⟨hx, hb, hml, hown, hts⟩ (c_X9_within l D cyI cyZ A (wM cyI cyZ a σ) x4 (-1000 : Int32) (999 : Int32) _ rfl) (va_cwS 3 hts (gd_S mw_161 mw_162 mw_5 mw_163) rfl rfl rfl (by decide +kernel) ⟨Nat.le_of_ble_eq_true rfl, Nat.le_of_ble_eq_true rfl⟩) hK hN hP hD hS rfl hl.1 rfl (Nat.le_of_ble_eq_true rfl) dX9_put_18 ⟨Nat.zero_le _, Nat.zero_le _⟩ (fun H locs hP hD hS => ?_)
    refine lv_if_ne (tgt := 26) hx hb dX9_put_21 (by decide) (fun c4 => ?_) (fun c4 => ?_)
    · rw [if_neg c4] at hF
      refine lv_aload_n hx hb dX9_put_26 rfl (lv_at hl 0 rfl) ?_
      refine va_get (D := D) (ci := 9) (v := .ref (a 3)) (C := RX9) (T := TX9) (N := 34) hx hb hts inlX9 hown hK hP 0 gM_0 rfl 2 (by decide) (hts _ mw_119) (fun _ h9 => h9) rfl dX9_put_27 ?_
      refine lv_bipush (v := (20 : Int32)) hx hb dX9_put_30 (by decide) ?_
      refine lv_iload_n hx hb dX9_put_32 rfl (lv_at hl 1 rfl) ?_
      refine lv_imul hx hb dX9_put_33 ?_
      refine lv_iload_n hx hb dX9_put_34 rfl (lv_at hl 2 rfl) ?_
      refine lv_iadd hx hb dX9_put_35 ?_
      refine lv_iconst (v := (4 : Int32)) hx hb dX9_put_36 (by decide) ?_
      refine lv_imul hx hb dX9_put_37 ?_
      refine lv_iload_n hx hb dX9_put_38 rfl (lv_at hl 3 rfl) ?_
      refine lv_iadd hx hb dX9_put_39 ?_
      refine lv_iload hx hb dX9_put_40 (lv_at hl 4 rfl) ?_
      obtain ⟨σ5, e6, hF⟩ := Option.bind_eq_some_iff.mp hF
      refine z_ist (wM cyI cyZ a) hx hb hK hP hD hS 3 gM_3 sM_3 e6 dX9_put_42 (fun H locs hP hD hS => ?_)
      refine lv_iconst (v := (1 : Int32)) hx hb dX9_put_43 (by decide) ?_
      cases hF
      exact z_iret hx hb hr hlocks hK hP hD hS dX9_put_44
    · rw [if_pos c4] at hF
      refine lv_iconst (v := (-1 : Int32)) hx hb dX9_put_24 (by decide) ?_
      cases hF
      exact z_iret hx hb hr hlocks hK hP hD hS dX9_put_25
abbrev ts_X9_valueOf : List Cond := .code yX9_valueOf cX9_valueOf 4 (some .int) :: wsL_law
set_option maxHeartbeats 4000000 in
set_option maxRecDepth 100000 in
theorem c_X9_valueOf (l : Launch) (D : va_G) (cyI cyZ : ClassId) (a : Nat → Nat) (A : Nat → Prop) (σ : Mem) (x1 : Int32) (x2 : Int32) (x3 : Int32) (r : Int32) (hF : F_X9_valueOf σ x1 x2 x3 = some r) : CtI l yX9_valueOf ts_X9_valueOf ({ frames := 0, cells := 0, slots := 0, locals := 0 } : Room) [.ref (a 0), .int x1, .int x2, .int x3] D cyI cyZ A (wM cyI cyZ a σ) (wM cyI cyZ a σ) r := by
  refine CtI.of (cc := cX9_valueOf) (maxL := 4) (ret := (some .int)) (by decide) rfl (Nat.le_of_ble_eq_true rfl) ?_
  intro p e s m below meth c ls hC hP hD hl
  obtain ⟨hx, hb, hr, hml, hown, hts, hK, hN, hlocks⟩ := hC
  have hown : s.vm.findClass RX9 = some m.cls := hown
  have hS : va_S A s.heap s.heap [] := va_S.rf
  have hl : lv_has ls 4 [(0, .ref (a 0)), (1, .int x1), (2, .int x2), (3, .int x3)] := hl
  unfold F_X9_valueOf at hF
  refine lv_aload_n hx hb dX9_valueOf_0 rfl (lv_at hl 0 rfl) ?_
  refine va_get (D := D) (ci := 9) (v := .ref (a 3)) (C := RX9) (T := TX9) (N := 34) hx hb hts inlX9 hown hK hP 0 gM_0 rfl 2 (by decide) (hts _ mw_119) (fun _ h9 => h9) rfl dX9_valueOf_1 ?_
  refine lv_bipush (v := (20 : Int32)) hx hb dX9_valueOf_4 (by decide) ?_
  refine lv_iload_n hx hb dX9_valueOf_6 rfl (lv_at hl 1 rfl) ?_
  refine lv_imul hx hb dX9_valueOf_7 ?_
  refine lv_iload_n hx hb dX9_valueOf_8 rfl (lv_at hl 2 rfl) ?_
  refine lv_iadd hx hb dX9_valueOf_9 ?_
  refine lv_iconst (v := (4 : Int32)) hx hb dX9_valueOf_10 (by decide) ?_
  refine lv_imul hx hb dX9_valueOf_11 ?_
  refine lv_iload_n hx hb dX9_valueOf_12 rfl (lv_at hl 3 rfl) ?_
  refine lv_iadd hx hb dX9_valueOf_13 ?_
  obtain ⟨v1, e2, hF⟩ := Option.bind_eq_some_iff.mp hF
  refine z_ild hx hb hK hP 3 gM_3 e2 dX9_valueOf_14 ?_
  cases hF
  exact z_iret hx hb hr hlocks hK hP hD hS dX9_valueOf_15
abbrev ts_X9_value : List Cond := .code yX9_value cX9_value 5 (some .int) :: wsL_law
set_option maxHeartbeats 4000000 in
set_option maxRecDepth 100000 in
theorem c_X9_value (l : Launch) (D : va_G) (cyI cyZ : ClassId) (a : Nat → Nat) (A : Nat → Prop) (σ : Mem) (x1 : Int32) (x2 : Int32) (x3 : Int32) (r : Int32) (hF : F_X9_value σ x1 x2 x3 = some r) : CtI l yX9_value ts_X9_value ({ frames := 3, cells := 0, slots := 0, locals := 66 } : Room) [.ref (a 0), .int x1, .int x2, .int x3] D cyI cyZ A (wM cyI cyZ a σ) (wM cyI cyZ a σ) r := by
  refine CtI.of (cc := cX9_value) (maxL := 5) (ret := (some .int)) (by decide) rfl (Nat.le_of_ble_eq_true rfl) ?_
  intro p e s m below meth c ls hC hP hD hl
  obtain ⟨hx, hb, hr, hml, hown, hts, hK, hN, hlocks⟩ := hC
  have hown : s.vm.findClass RX9 = some m.cls := hown
  have hS : va_S A s.heap s.heap [] := va_S.rf
  have hl : lv_has ls 5 [(0, .ref (a 0)), (1, .int x1), (2, .int x2), (3, .int x3)] := hl
  unfold F_X9_value at hF
  refine lv_aload_n hx hb dX9_value_0 rfl (lv_at hl 0 rfl) ?_
  refine lv_iload_n hx hb dX9_value_1 rfl (lv_at hl 1 rfl) ?_
  refine lv_iload_n hx hb dX9_value_2 rfl (lv_at hl 2 rfl) ?_
  refine lv_iload_n hx hb dX9_value_3 rfl (lv_at hl 3 rfl) ?_
  obtain ⟨v1, e2, hF⟩ := Option.bind_eq_some_iff.mp hF
  refine z_callVI (w' := (wM cyI cyZ a σ)) (As := [.int x1, .int x2, .int x3]) (rest := []) ⟨hx, hb, hml, hown, hts⟩ (c_X9_isCell l D cyI cyZ a A σ x1 x2 x3 _ e2) (cwV 3 hts (gd_V mw_226 mw_227 mw_228 mw_5 mw_229) rfl rfl rfl (by decide +kernel) ⟨Nat.le_of_ble_eq_true rfl, Nat.le_of_ble_eq_true rfl⟩) hK hN hP hD hS 9 0 rfl rfl gM_0 rfl hl.1 rfl (Nat.le_of_ble_eq_true rfl) dX9_value_4 ⟨Nat.zero_le _, Nat.zero_le _⟩ (fun H locs hP hD hS => ?_)
  refine lv_if_ne (tgt := 13) hx hb dX9_value_7 (by decide) (fun c3 => ?_) (fun c3 => ?_)
  · rw [if_neg c3] at hF
    refine lv_aload_n hx hb dX9_value_13 rfl (lv_at hl 0 rfl) ?_
    refine lv_iload_n hx hb dX9_value_14 rfl (lv_at hl 1 rfl) ?_
    refine lv_iload_n hx hb dX9_value_15 rfl (lv_at hl 2 rfl) ?_
    refine lv_iload_n hx hb dX9_value_16 rfl (lv_at hl 3 rfl) ?_
    obtain ⟨v4, e5, hF⟩ := Option.bind_eq_some_iff.mp hF
    refine z_callVI (w' := (wM cyI cyZ a σ)) (As := [.int x1, .int x2, .int x3]) (rest := []) ⟨hx, hb, hml, hown, hts⟩ (c_X9_valueOf l D cyI cyZ a A σ x1 x2 x3 _ e5) (cwV 3 hts (gd_V mw_249 mw_250 mw_251 mw_5 mw_252) rfl rfl rfl (by decide +kernel) ⟨Nat.le_of_ble_eq_true rfl, Nat.le_of_ble_eq_true rfl⟩) hK hN hP hD hS 9 0 rfl rfl gM_0 rfl hl.1 rfl (Nat.le_of_ble_eq_true rfl) dX9_value_17 ⟨Nat.zero_le _, Nat.zero_le _⟩ (fun H locs hP hD hS => ?_)
    refine lv_istore (lv' := [(4, .int v4), (0, .ref (a 0)), (1, .int x1), (2, .int x2), (3, .int x3)]) hx hb dX9_value_20 hl (by decide) rfl (fun ls hl => ?_)
    refine lv_iload hx hb dX9_value_22 (lv_at hl 0 rfl) ?_
    refine lv_sipush (v := (-1000 : Int32)) hx hb dX9_value_24 (by decide) ?_
    refine lv_icmp_ne (tgt := 35) hx hb dX9_value_27 (by decide) (fun c6 => ?_) (fun c6 => ?_)
    · rw [if_neg c6] at hF
      refine lv_iload hx hb dX9_value_35 (lv_at hl 0 rfl) ?_
      cases hF
      exact z_iret hx hb hr hlocks hK hP hD hS dX9_value_37
    · rw [if_pos c6] at hF
      refine lv_ldc (v := (-1000000 : Int32)) hx hb hown (hts _ mw_248) dX9_value_30 ?_
      refine lv_goto (tgt := 37) hx hb dX9_value_32 (by decide) ?_
      cases hF
      exact z_iret hx hb hr hlocks hK hP hD hS dX9_value_37
  · rw [if_pos c3] at hF
    refine lv_ldc (v := (-2000000 : Int32)) hx hb hown (hts _ mw_247) dX9_value_10 ?_
    cases hF
    exact z_iret hx hb hr hlocks hK hP hD hS dX9_value_12
abbrev ts_X9_link : List Cond := .code yX9_link cX9_link 5 (some .int) :: wsL_law
set_option maxHeartbeats 4000000 in
set_option maxRecDepth 100000 in
theorem c_X9_link (l : Launch) (D : va_G) (cyI cyZ : ClassId) (a : Nat → Nat) (A : Nat → Prop) (σ : Mem) (x1 : Int32) (x2 : Int32) (x3 : Int32) (r : Int32) (σ' : Mem) (hF : F_X9_link σ x1 x2 x3 = some (r, σ')) : CtI l yX9_link ts_X9_link ({ frames := 2, cells := 0, slots := 0, locals := 43 } : Room) [.ref (a 0), .int x1, .int x2, .int x3] D cyI cyZ A (wM cyI cyZ a σ) (wM cyI cyZ a σ') r := by
  refine CtI.of (cc := cX9_link) (maxL := 5) (ret := (some .int)) (by decide) rfl (Nat.le_of_ble_eq_true rfl) ?_
  intro p e s m below meth c ls hC hP hD hl
  obtain ⟨hx, hb, hr, hml, hown, hts, hK, hN, hlocks⟩ := hC
  have hown : s.vm.findClass RX9 = some m.cls := hown
  have hS : va_S A s.heap s.heap [] := va_S.rf
  have hl : lv_has ls 5 [(0, .ref (a 0)), (1, .int x1), (2, .int x2), (3, .int x3)] := hl
  unfold F_X9_link at hF
  refine lv_aload_n hx hb dX9_link_0 rfl (lv_at hl 0 rfl) ?_
  refine lv_iload_n hx hb dX9_link_1 rfl (lv_at hl 1 rfl) ?_
  refine lv_iload_n hx hb dX9_link_2 rfl (lv_at hl 2 rfl) ?_
  obtain ⟨v1, e2, hF⟩ := Option.bind_eq_some_iff.mp hF
  refine z_callVI (w' := (wM cyI cyZ a σ)) (As := [.int x1, .int x2]) (rest := []) ⟨hx, hb, hml, hown, hts⟩ (c_X9_isColumn l D cyI cyZ a A σ x1 x2 _ e2) (cwV 2 hts (gd_V mw_230 mw_231 mw_232 mw_5 mw_233) rfl rfl rfl (by decide +kernel) ⟨Nat.le_of_ble_eq_true rfl, Nat.le_of_ble_eq_true rfl⟩) hK hN hP hD hS 9 0 rfl rfl gM_0 rfl hl.1 rfl (Nat.le_of_ble_eq_true rfl) dX9_link_3 ⟨Nat.zero_le _, Nat.zero_le _⟩ (fun H locs hP hD hS => ?_)
  refine lv_if_eq (tgt := 27) hx hb dX9_link_6 (by decide) (fun c3 => ?_) (fun c3 => ?_)
  · rw [if_pos c3] at hF
    refine lv_bipush (v := (-9 : Int32)) hx hb dX9_link_27 (by decide) ?_
    cases hF
    exact z_iret hx hb hr hlocks hK hP hD hS dX9_link_29
  · rw [if_neg c3] at hF
    refine lv_iload_n hx hb dX9_link_9 rfl (lv_at hl 3 rfl) ?_
    refine lv_iconst (v := (-1 : Int32)) hx hb dX9_link_10 (by decide) ?_
    refine lv_icmp_eq (tgt := 22) hx hb dX9_link_11 (by decide) (fun c4 => ?_) (fun c4 => ?_)
    · rw [if_pos c4] at hF
      refine lv_iload_n hx hb dX9_link_22 rfl (lv_at hl 3 rfl) ?_
      refine lv_iload_n hx hb dX9_link_23 rfl (lv_at hl 1 rfl) ?_
      refine lv_icmp_ne (tgt := 30) hx hb dX9_link_24 (by decide) (fun c5 => ?_) (fun c5 => ?_)
      · rw [if_neg c5] at hF
        refine lv_aload_n hx hb dX9_link_30 rfl (lv_at hl 0 rfl) ?_
        refine va_get (D := D) (ci := 9) (v := .ref (a 4)) (C := RX9) (T := TX9) (N := 34) hx hb hts inlX9 hown hK hP 0 gM_0 rfl 3 (by decide) (hts _ mw_120) (fun _ h9 => h9) rfl dX9_link_31 ?_
        refine lv_iconst (v := (4 : Int32)) hx hb dX9_link_34 (by decide) ?_
        refine lv_iload_n hx hb dX9_link_35 rfl (lv_at hl 1 rfl) ?_
        refine lv_imul hx hb dX9_link_36 ?_
        refine lv_iload_n hx hb dX9_link_37 rfl (lv_at hl 2 rfl) ?_
        refine lv_iadd hx hb dX9_link_38 ?_
        obtain ⟨v6, e7, hF⟩ := Option.bind_eq_some_iff.mp hF
        refine z_ild hx hb hK hP 4 gM_4 e7 dX9_link_39 ?_
        refine lv_istore (lv' := [(4, .int v6), (0, .ref (a 0)), (1, .int x1), (2, .int x2), (3, .int x3)]) hx hb dX9_link_40 hl (by decide) rfl (fun ls hl => ?_)
        refine lv_aload_n hx hb dX9_link_42 rfl (lv_at hl 1 rfl) ?_
        refine va_get (D := D) (ci := 9) (v := .ref (a 4)) (C := RX9) (T := TX9) (N := 34) hx hb hts inlX9 hown hK hP 0 gM_0 rfl 3 (by decide) (hts _ mw_120) (fun _ h9 => h9) rfl dX9_link_43 ?_
        refine lv_iconst (v := (4 : Int32)) hx hb dX9_link_46 (by decide) ?_
        refine lv_iload_n hx hb dX9_link_47 rfl (lv_at hl 2 rfl) ?_
        refine lv_imul hx hb dX9_link_48 ?_
        refine lv_iload_n hx hb dX9_link_49 rfl (lv_at hl 3 rfl) ?_
        refine lv_iadd hx hb dX9_link_50 ?_
        refine lv_iload_n hx hb dX9_link_51 rfl (lv_at hl 4 rfl) ?_
        obtain ⟨σ8, e9, hF⟩ := Option.bind_eq_some_iff.mp hF
        refine z_ist (wM cyI cyZ a) hx hb hK hP hD hS 4 gM_4 sM_4 e9 dX9_link_52 (fun H locs hP hD hS => ?_)
        refine lv_iload hx hb dX9_link_53 (lv_at hl 0 rfl) ?_
        cases hF
        exact z_iret hx hb hr hlocks hK hP hD hS dX9_link_55
      · rw [if_pos c5] at hF
        refine lv_bipush (v := (-9 : Int32)) hx hb dX9_link_27 (by decide) ?_
        cases hF
        exact z_iret hx hb hr hlocks hK hP hD hS dX9_link_29
    · rw [if_neg c4] at hF
      refine lv_aload_n hx hb dX9_link_14 rfl (lv_at hl 0 rfl) ?_
      refine lv_iload_n hx hb dX9_link_15 rfl (lv_at hl 3 rfl) ?_
      refine z_callVI (w' := (wM cyI cyZ a σ)) (As := [.int x3]) (rest := []) ⟨hx, hb, hml, hown, hts⟩ (c_X9_isTable l D cyI cyZ a A σ x3 _ rfl) (cwV 1 hts (gd_V mw_197 mw_198 mw_199 mw_5 mw_200) rfl rfl rfl (by decide +kernel) ⟨Nat.le_of_ble_eq_true rfl, Nat.le_of_ble_eq_true rfl⟩) hK hN hP hD hS 9 0 rfl rfl gM_0 rfl hl.1 rfl (Nat.le_of_ble_eq_true rfl) dX9_link_16 ⟨Nat.zero_le _, Nat.zero_le _⟩ (fun H locs hP hD hS => ?_)
      refine lv_if_eq (tgt := 27) hx hb dX9_link_19 (by decide) (fun c10 => ?_) (fun c10 => ?_)
      · rw [if_pos c10] at hF
        refine lv_bipush (v := (-9 : Int32)) hx hb dX9_link_27 (by decide) ?_
        cases hF
        exact z_iret hx hb hr hlocks hK hP hD hS dX9_link_29
      · rw [if_neg c10] at hF
        refine lv_iload_n hx hb dX9_link_22 rfl (lv_at hl 3 rfl) ?_
        refine lv_iload_n hx hb dX9_link_23 rfl (lv_at hl 1 rfl) ?_
        refine lv_icmp_ne (tgt := 30) hx hb dX9_link_24 (by decide) (fun c11 => ?_) (fun c11 => ?_)
        · rw [if_neg c11] at hF
          refine lv_aload_n hx hb dX9_link_30 rfl (lv_at hl 0 rfl) ?_
          refine va_get (D := D) (ci := 9) (v := .ref (a 4)) (C := RX9) (T := TX9) (N := 34) hx hb hts inlX9 hown hK hP 0 gM_0 rfl 3 (by decide) (hts _ mw_120) (fun _ h9 => h9) rfl dX9_link_31 ?_
          refine lv_iconst (v := (4 : Int32)) hx hb dX9_link_34 (by decide) ?_
          refine lv_iload_n hx hb dX9_link_35 rfl (lv_at hl 1 rfl) ?_
          refine lv_imul hx hb dX9_link_36 ?_
          refine lv_iload_n hx hb dX9_link_37 rfl (lv_at hl 2 rfl) ?_
          refine lv_iadd hx hb dX9_link_38 ?_
          obtain ⟨v12, e13, hF⟩ := Option.bind_eq_some_iff.mp hF
          refine z_ild hx hb hK hP 4 gM_4 e13 dX9_link_39 ?_
          refine lv_istore (lv' := [(4, .int v12), (0, .ref (a 0)), (1, .int x1), (2, .int x2), (3, .int x3)]) hx hb dX9_link_40 hl (by decide) rfl (fun ls hl => ?_)
          refine lv_aload_n hx hb dX9_link_42 rfl (lv_at hl 1 rfl) ?_
          refine va_get (D := D) (ci := 9) (v := .ref (a 4)) (C := RX9) (T := TX9) (N := 34) hx hb hts inlX9 hown hK hP 0 gM_0 rfl 3 (by decide) (hts _ mw_120) (fun _ h9 => h9) rfl dX9_link_43 ?_
          refine lv_iconst (v := (4 : Int32)) hx hb dX9_link_46 (by decide) ?_
          refine lv_iload_n hx hb dX9_link_47 rfl (lv_at hl 2 rfl) ?_
          refine lv_imul hx hb dX9_link_48 ?_
          refine lv_iload_n hx hb dX9_link_49 rfl (lv_at hl 3 rfl) ?_
          refine lv_iadd hx hb dX9_link_50 ?_
          refine lv_iload_n hx hb dX9_link_51 rfl (lv_at hl 4 rfl) ?_
          obtain ⟨σ14, e15, hF⟩ := Option.bind_eq_some_iff.mp hF
          refine z_ist (wM cyI cyZ a) hx hb hK hP hD hS 4 gM_4 sM_4 e15 dX9_link_52 (fun H locs hP hD hS => ?_)
          refine lv_iload hx hb dX9_link_53 (lv_at hl 0 rfl) ?_
          cases hF
          exact z_iret hx hb hr hlocks hK hP hD hS dX9_link_55
        · rw [if_pos c11] at hF
          refine lv_bipush (v := (-9 : Int32)) hx hb dX9_link_27 (by decide) ?_
          cases hF
          exact z_iret hx hb hr hlocks hK hP hD hS dX9_link_29
abbrev ts_X9_isWord : List Cond := .code yX9_isWord cX9_isWord 1 (some .boolean) :: wsL_law
set_option maxHeartbeats 4000000 in
set_option maxRecDepth 100000 in
theorem c_X9_isWord (l : Launch) (D : va_G) (cyI cyZ : ClassId) (A : Nat → Prop) (w : va_W) (x0 : Int32) (r : Int32) (hF : F_X9_isWord x0 = r) : CtI l yX9_isWord ts_X9_isWord ({ frames := 0, cells := 0, slots := 0, locals := 0 } : Room) [.int x0] D cyI cyZ A w w r := by
  refine CtI.of (cc := cX9_isWord) (maxL := 1) (ret := (some .boolean)) (by decide) rfl (Nat.le_of_ble_eq_true rfl) ?_
  intro p e s m below meth c ls hC hP hD hl
  obtain ⟨hx, hb, hr, hml, hown, hts, hK, hN, hlocks⟩ := hC
  have hown : s.vm.findClass RX9 = some m.cls := hown
  have hS : va_S A s.heap s.heap [] := va_S.rf
  have hl : lv_has ls 1 [(0, .int x0)] := hl
  unfold F_X9_isWord at hF
  refine lv_iload_n hx hb dX9_isWord_0 rfl (lv_at hl 0 rfl) ?_
  refine lv_if_lt (tgt := 14) hx hb dX9_isWord_1 (by decide) (fun c1 => ?_) (fun c1 => ?_)
  · rw [if_pos c1] at hF
    refine lv_iconst (v := (0 : Int32)) hx hb dX9_isWord_14 (by decide) ?_
    subst hF
    exact z_zret hx hb hr hlocks hK hP hD hS rfl dX9_isWord_15
  · rw [if_neg c1] at hF
    refine lv_iload_n hx hb dX9_isWord_4 rfl (lv_at hl 0 rfl) ?_
    refine lv_bipush (v := (40 : Int32)) hx hb dX9_isWord_5 (by decide) ?_
    refine lv_icmp_ge (tgt := 14) hx hb dX9_isWord_7 (by decide) (fun c2 => ?_) (fun c2 => ?_)
    · rw [if_pos c2] at hF
      refine lv_iconst (v := (0 : Int32)) hx hb dX9_isWord_14 (by decide) ?_
      subst hF
      exact z_zret hx hb hr hlocks hK hP hD hS rfl dX9_isWord_15
    · rw [if_neg c2] at hF
      refine lv_iconst (v := (1 : Int32)) hx hb dX9_isWord_10 (by decide) ?_
      refine lv_goto (tgt := 15) hx hb dX9_isWord_11 (by decide) ?_
      subst hF
      exact z_zret hx hb hr hlocks hK hP hD hS rfl dX9_isWord_15
abbrev ts_X9_mayMean : List Cond := .code yX9_mayMean cX9_mayMean 5 (some .boolean) :: wsL_law
set_option maxHeartbeats 4000000 in
set_option maxRecDepth 100000 in
theorem c_X9_mayMean (l : Launch) (D : va_G) (cyI cyZ : ClassId) (a : Nat → Nat) (A : Nat → Prop) (σ : Mem) (x1 : Int32) (x2 : Int32) (x3 : Int32) (x4 : Int32) (r : Int32) (hF : F_X9_mayMean σ x1 x2 x3 x4 = some r) : CtI l yX9_mayMean ts_X9_mayMean ({ frames := 2, cells := 0, slots := 0, locals := 43 } : Room) [.ref (a 0), .int x1, .int x2, .int x3, .int x4] D cyI cyZ A (wM cyI cyZ a σ) (wM cyI cyZ a σ) r := by
  refine CtI.of (cc := cX9_mayMean) (maxL := 5) (ret := (some .boolean)) (by decide) rfl (Nat.le_of_ble_eq_true rfl) ?_
  intro p e s m below meth c ls hC hP hD hl
  obtain ⟨hx, hb, hr, hml, hown, hts, hK, hN, hlocks⟩ := hC
  have hown : s.vm.findClass RX9 = some m.cls := hown
  have hS : va_S A s.heap s.heap [] := va_S.rf
  have hl : lv_has ls 5 [(0, .ref (a 0)), (1, .int x1), (2, .int x2), (3, .int x3), (4, .int x4)] := hl
  unfold F_X9_mayMean at hF
  refine lv_iload_n hx hb dX9_mayMean_0 rfl (lv_at hl 1 rfl) ?_
  by_cases c1 : x1 = (0 : Int32)
  · rw [if_pos c1] at hF
    refine lv_tableIn (off := 39) (tgt := 40) hx hb dX9_mayMean_1 (by rw [c1]; decide) (by rw [c1]; decide) (by rw [c1]; rfl) (by decide) ?_
    refine lv_aload_n hx hb dX9_mayMean_40 rfl (lv_at hl 0 rfl) ?_
    refine lv_iload_n hx hb dX9_mayMean_41 rfl (lv_at hl 2 rfl) ?_
    refine z_callVI (w' := (wM cyI cyZ a σ)) (As := [.int x2]) (rest := []) ⟨hx, hb, hml, hown, hts⟩ (c_X9_isTable l D cyI cyZ a A σ x2 _ rfl) (cwV 1 hts (gd_V mw_197 mw_198 mw_199 mw_5 mw_200) rfl rfl rfl (by decide +kernel) ⟨Nat.le_of_ble_eq_true rfl, Nat.le_of_ble_eq_true rfl⟩) hK hN hP hD hS 9 0 rfl rfl gM_0 rfl hl.1 rfl (Nat.le_of_ble_eq_true rfl) dX9_mayMean_42 ⟨Nat.zero_le _, Nat.zero_le _⟩ (fun H locs hP hD hS => ?_)
    refine lv_if_eq (tgt := 61) hx hb dX9_mayMean_45 (by decide) (fun c2 => ?_) (fun c2 => ?_)
    · rw [if_pos c2] at hF
      refine lv_iconst (v := (0 : Int32)) hx hb dX9_mayMean_61 (by decide) ?_
      cases hF
      exact z_zret hx hb hr hlocks hK hP hD hS rfl dX9_mayMean_62
    · rw [if_neg c2] at hF
      refine lv_iload_n hx hb dX9_mayMean_48 rfl (lv_at hl 3 rfl) ?_
      refine lv_if_ne (tgt := 61) hx hb dX9_mayMean_49 (by decide) (fun c3 => ?_) (fun c3 => ?_)
      · rw [if_neg c3] at hF
        refine lv_iconst (v := (0 : Int32)) hx hb dX9_mayMean_61 (by decide) ?_
        cases hF
        exact z_zret hx hb hr hlocks hK hP hD hS rfl dX9_mayMean_62
      · rw [if_pos c3] at hF
        refine lv_iload hx hb dX9_mayMean_52 (lv_at hl 4 rfl) ?_
        refine lv_if_ne (tgt := 61) hx hb dX9_mayMean_54 (by decide) (fun c4 => ?_) (fun c4 => ?_)
        · rw [if_neg c4] at hF
          refine lv_iconst (v := (0 : Int32)) hx hb dX9_mayMean_61 (by decide) ?_
          cases hF
          exact z_zret hx hb hr hlocks hK hP hD hS rfl dX9_mayMean_62
        · rw [if_pos c4] at hF
          refine lv_iconst (v := (1 : Int32)) hx hb dX9_mayMean_57 (by decide) ?_
          refine lv_goto (tgt := 62) hx hb dX9_mayMean_58 (by decide) ?_
          cases hF
          exact z_zret hx hb hr hlocks hK hP hD hS rfl dX9_mayMean_62
  · rw [if_neg c1] at hF
    by_cases c5 : x1 = (1 : Int32)
    · rw [if_pos c5] at hF
      refine lv_tableIn (off := 62) (tgt := 63) hx hb dX9_mayMean_1 (by rw [c5]; decide) (by rw [c5]; decide) (by rw [c5]; rfl) (by decide) ?_
      refine lv_aload_n hx hb dX9_mayMean_63 rfl (lv_at hl 0 rfl) ?_
      refine lv_iload_n hx hb dX9_mayMean_64 rfl (lv_at hl 2 rfl) ?_
      refine lv_iload_n hx hb dX9_mayMean_65 rfl (lv_at hl 3 rfl) ?_
      obtain ⟨v6, e7, hF⟩ := Option.bind_eq_some_iff.mp hF
      refine z_callVI (w' := (wM cyI cyZ a σ)) (As := [.int x2, .int x3]) (rest := []) ⟨hx, hb, hml, hown, hts⟩ (c_X9_isColumn l D cyI cyZ a A σ x2 x3 _ e7) (cwV 2 hts (gd_V mw_230 mw_231 mw_232 mw_5 mw_233) rfl rfl rfl (by decide +kernel) ⟨Nat.le_of_ble_eq_true rfl, Nat.le_of_ble_eq_true rfl⟩) hK hN hP hD hS 9 0 rfl rfl gM_0 rfl hl.1 rfl (Nat.le_of_ble_eq_true rfl) dX9_mayMean_66 ⟨Nat.zero_le _, Nat.zero_le _⟩ (fun H locs hP hD hS => ?_)
      refine lv_if_eq (tgt := 81) hx hb dX9_mayMean_69 (by decide) (fun c8 => ?_) (fun c8 => ?_)
      · rw [if_pos c8] at hF
        refine lv_iconst (v := (0 : Int32)) hx hb dX9_mayMean_81 (by decide) ?_
        cases hF
        exact z_zret hx hb hr hlocks hK hP hD hS rfl dX9_mayMean_82
      · rw [if_neg c8] at hF
        refine lv_iload hx hb dX9_mayMean_72 (lv_at hl 4 rfl) ?_
        refine lv_if_ne (tgt := 81) hx hb dX9_mayMean_74 (by decide) (fun c9 => ?_) (fun c9 => ?_)
        · rw [if_neg c9] at hF
          refine lv_iconst (v := (0 : Int32)) hx hb dX9_mayMean_81 (by decide) ?_
          cases hF
          exact z_zret hx hb hr hlocks hK hP hD hS rfl dX9_mayMean_82
        · rw [if_pos c9] at hF
          refine lv_iconst (v := (1 : Int32)) hx hb dX9_mayMean_77 (by decide) ?_
          refine lv_goto (tgt := 82) hx hb dX9_mayMean_78 (by decide) ?_
          cases hF
          exact z_zret hx hb hr hlocks hK hP hD hS rfl dX9_mayMean_82
    · rw [if_neg c5] at hF
      by_cases c10 : x1 = (2 : Int32)
      · rw [if_pos c10] at hF
        refine lv_tableIn (off := 82) (tgt := 83) hx hb dX9_mayMean_1 (by rw [c10]; decide) (by rw [c10]; decide) (by rw [c10]; rfl) (by decide) ?_
        refine lv_iload_n hx hb dX9_mayMean_83 rfl (lv_at hl 2 rfl) ?_
        refine lv_iconst (v := (0 : Int32)) hx hb dX9_mayMean_84 (by decide) ?_
        refine lv_iconst (v := (3 : Int32)) hx hb dX9_mayMean_85 (by decide) ?_
        refine z_callSI (w' := (wM cyI cyZ a σ)) (As := [.int x2, .int (0 : Int32), .int (3 : Int32)]) (rest := []) ⟨hx, hb, hml, hown, hts⟩ (c_X9_within l D cyI cyZ A (wM cyI cyZ a σ) x2 (0 : Int32) (3 : Int32) _ rfl) (va_cwS 3 hts (gd_S mw_161 mw_162 mw_5 mw_163) rfl rfl rfl (by decide +kernel) ⟨Nat.le_of_ble_eq_true rfl, Nat.le_of_ble_eq_true rfl⟩) hK hN hP hD hS rfl hl.1 rfl (Nat.le_of_ble_eq_true rfl) dX9_mayMean_86 ⟨Nat.zero_le _, Nat.zero_le _⟩ (fun H locs hP hD hS => ?_)
        refine lv_if_eq (tgt := 105) hx hb dX9_mayMean_89 (by decide) (fun c11 => ?_) (fun c11 => ?_)
        · rw [if_pos c11] at hF
          refine lv_iconst (v := (0 : Int32)) hx hb dX9_mayMean_105 (by decide) ?_
          cases hF
          exact z_zret hx hb hr hlocks hK hP hD hS rfl dX9_mayMean_106
        · rw [if_neg c11] at hF
          refine lv_iload_n hx hb dX9_mayMean_92 rfl (lv_at hl 3 rfl) ?_
          refine lv_if_ne (tgt := 105) hx hb dX9_mayMean_93 (by decide) (fun c12 => ?_) (fun c12 => ?_)
          · rw [if_neg c12] at hF
            refine lv_iconst (v := (0 : Int32)) hx hb dX9_mayMean_105 (by decide) ?_
            cases hF
            exact z_zret hx hb hr hlocks hK hP hD hS rfl dX9_mayMean_106
          · rw [if_pos c12] at hF
            refine lv_iload hx hb dX9_mayMean_96 (lv_at hl 4 rfl) ?_
            refine lv_if_ne (tgt := 105) hx hb dX9_mayMean_98 (by decide) (fun c13 => ?_) (fun c13 => ?_)
            · rw [if_neg c13] at hF
              refine lv_iconst (v := (0 : Int32)) hx hb dX9_mayMean_105 (by decide) ?_
              cases hF
              exact z_zret hx hb hr hlocks hK hP hD hS rfl dX9_mayMean_106
            · rw [if_pos c13] at hF
              refine lv_iconst (v := (1 : Int32)) hx hb dX9_mayMean_101 (by decide) ?_
              refine lv_goto (tgt := 106) hx hb dX9_mayMean_102 (by decide) ?_
              cases hF
              exact z_zret hx hb hr hlocks hK hP hD hS rfl dX9_mayMean_106
      · rw [if_neg c10] at hF
        by_cases c14 : x1 = (3 : Int32)
        · rw [if_pos c14] at hF
          refine lv_tableIn (off := 106) (tgt := 107) hx hb dX9_mayMean_1 (by rw [c14]; decide) (by rw [c14]; decide) (by rw [c14]; rfl) (by decide) ?_
          refine lv_aload_n hx hb dX9_mayMean_107 rfl (lv_at hl 0 rfl) ?_
          refine lv_iload_n hx hb dX9_mayMean_108 rfl (lv_at hl 2 rfl) ?_
          refine lv_iload_n hx hb dX9_mayMean_109 rfl (lv_at hl 3 rfl) ?_
          obtain ⟨v15, e16, hF⟩ := Option.bind_eq_some_iff.mp hF
          refine z_callVI (w' := (wM cyI cyZ a σ)) (As := [.int x2, .int x3]) (rest := []) ⟨hx, hb, hml, hown, hts⟩ (c_X9_isColumn l D cyI cyZ a A σ x2 x3 _ e16) (cwV 2 hts (gd_V mw_230 mw_231 mw_232 mw_5 mw_233) rfl rfl rfl (by decide +kernel) ⟨Nat.le_of_ble_eq_true rfl, Nat.le_of_ble_eq_true rfl⟩) hK hN hP hD hS 9 0 rfl rfl gM_0 rfl hl.1 rfl (Nat.le_of_ble_eq_true rfl) dX9_mayMean_110 ⟨Nat.zero_le _, Nat.zero_le _⟩ (fun H locs hP hD hS => ?_)
          refine lv_if_eq (tgt := 134) hx hb dX9_mayMean_113 (by decide) (fun c17 => ?_) (fun c17 => ?_)
          · rw [if_pos c17] at hF
            refine lv_iconst (v := (0 : Int32)) hx hb dX9_mayMean_134 (by decide) ?_
            cases hF
            exact z_zret hx hb hr hlocks hK hP hD hS rfl dX9_mayMean_135
          · rw [if_neg c17] at hF
            refine lv_iload hx hb dX9_mayMean_116 (lv_at hl 4 rfl) ?_
            refine lv_sipush (v := (-999 : Int32)) hx hb dX9_mayMean_118 (by decide) ?_
            refine lv_sipush (v := (999 : Int32)) hx hb dX9_mayMean_121 (by decide) ?_
            refine z_callSI (w' := (wM cyI cyZ a σ)) (As := [.int x4, .int (-999 : Int32), .int (999 : Int32)]) (rest := []) ⟨hx, hb, hml, hown, hts⟩ (c_X9_within l D cyI cyZ A (wM cyI cyZ a σ) x4 (-999 : Int32) (999 : Int32) _ rfl) (va_cwS 3 hts (gd_S mw_161 mw_162 mw_5 mw_163) rfl rfl rfl (by decide +kernel) ⟨Nat.le_of_ble_eq_true rfl, Nat.le_of_ble_eq_true rfl⟩) hK hN hP hD hS rfl hl.1 rfl (Nat.le_of_ble_eq_true rfl) dX9_mayMean_124 ⟨Nat.zero_le _, Nat.zero_le _⟩ (fun H locs hP hD hS => ?_)
            refine lv_if_eq (tgt := 134) hx hb dX9_mayMean_127 (by decide) (fun c18 => ?_) (fun c18 => ?_)
            · rw [if_pos c18] at hF
              refine lv_iconst (v := (0 : Int32)) hx hb dX9_mayMean_134 (by decide) ?_
              cases hF
              exact z_zret hx hb hr hlocks hK hP hD hS rfl dX9_mayMean_135
            · rw [if_neg c18] at hF
              refine lv_iconst (v := (1 : Int32)) hx hb dX9_mayMean_130 (by decide) ?_
              refine lv_goto (tgt := 135) hx hb dX9_mayMean_131 (by decide) ?_
              cases hF
              exact z_zret hx hb hr hlocks hK hP hD hS rfl dX9_mayMean_135
        · rw [if_neg c14] at hF
          by_cases c19 : x1 = (4 : Int32)
          · rw [if_pos c19] at hF
            refine lv_tableIn (off := 135) (tgt := 136) hx hb dX9_mayMean_1 (by rw [c19]; decide) (by rw [c19]; decide) (by rw [c19]; rfl) (by decide) ?_
            refine lv_iload_n hx hb dX9_mayMean_136 rfl (lv_at hl 2 rfl) ?_
            refine lv_iconst (v := (0 : Int32)) hx hb dX9_mayMean_137 (by decide) ?_
            refine lv_iconst (v := (2 : Int32)) hx hb dX9_mayMean_138 (by decide) ?_
            refine z_callSI (w' := (wM cyI cyZ a σ)) (As := [.int x2, .int (0 : Int32), .int (2 : Int32)]) (rest := []) ⟨hx, hb, hml, hown, hts⟩ (c_X9_within l D cyI cyZ A (wM cyI cyZ a σ) x2 (0 : Int32) (2 : Int32) _ rfl) (va_cwS 3 hts (gd_S mw_161 mw_162 mw_5 mw_163) rfl rfl rfl (by decide +kernel) ⟨Nat.le_of_ble_eq_true rfl, Nat.le_of_ble_eq_true rfl⟩) hK hN hP hD hS rfl hl.1 rfl (Nat.le_of_ble_eq_true rfl) dX9_mayMean_139 ⟨Nat.zero_le _, Nat.zero_le _⟩ (fun H locs hP hD hS => ?_)
            refine lv_if_eq (tgt := 158) hx hb dX9_mayMean_142 (by decide) (fun c20 => ?_) (fun c20 => ?_)
            · rw [if_pos c20] at hF
              refine lv_iconst (v := (0 : Int32)) hx hb dX9_mayMean_158 (by decide) ?_
              cases hF
              exact z_zret hx hb hr hlocks hK hP hD hS rfl dX9_mayMean_159
            · rw [if_neg c20] at hF
              refine lv_iload_n hx hb dX9_mayMean_145 rfl (lv_at hl 3 rfl) ?_
              refine lv_if_ne (tgt := 158) hx hb dX9_mayMean_146 (by decide) (fun c21 => ?_) (fun c21 => ?_)
              · rw [if_neg c21] at hF
                refine lv_iconst (v := (0 : Int32)) hx hb dX9_mayMean_158 (by decide) ?_
                cases hF
                exact z_zret hx hb hr hlocks hK hP hD hS rfl dX9_mayMean_159
              · rw [if_pos c21] at hF
                refine lv_iload hx hb dX9_mayMean_149 (lv_at hl 4 rfl) ?_
                refine lv_if_ne (tgt := 158) hx hb dX9_mayMean_151 (by decide) (fun c22 => ?_) (fun c22 => ?_)
                · rw [if_neg c22] at hF
                  refine lv_iconst (v := (0 : Int32)) hx hb dX9_mayMean_158 (by decide) ?_
                  cases hF
                  exact z_zret hx hb hr hlocks hK hP hD hS rfl dX9_mayMean_159
                · rw [if_pos c22] at hF
                  refine lv_iconst (v := (1 : Int32)) hx hb dX9_mayMean_154 (by decide) ?_
                  refine lv_goto (tgt := 159) hx hb dX9_mayMean_155 (by decide) ?_
                  cases hF
                  exact z_zret hx hb hr hlocks hK hP hD hS rfl dX9_mayMean_159
          · rw [if_neg c19] at hF
            by_cases c23 : x1 = (5 : Int32)
            · rw [if_pos c23] at hF
              refine lv_tableIn (off := 159) (tgt := 160) hx hb dX9_mayMean_1 (by rw [c23]; decide) (by rw [c23]; decide) (by rw [c23]; rfl) (by decide) ?_
              refine lv_iload_n hx hb dX9_mayMean_160 rfl (lv_at hl 2 rfl) ?_
              refine lv_if_ne (tgt := 177) hx hb dX9_mayMean_161 (by decide) (fun c24 => ?_) (fun c24 => ?_)
              · rw [if_neg c24] at hF
                refine lv_iconst (v := (0 : Int32)) hx hb dX9_mayMean_177 (by decide) ?_
                cases hF
                exact z_zret hx hb hr hlocks hK hP hD hS rfl dX9_mayMean_178
              · rw [if_pos c24] at hF
                refine lv_iload_n hx hb dX9_mayMean_164 rfl (lv_at hl 3 rfl) ?_
                refine lv_if_ne (tgt := 177) hx hb dX9_mayMean_165 (by decide) (fun c25 => ?_) (fun c25 => ?_)
                · rw [if_neg c25] at hF
                  refine lv_iconst (v := (0 : Int32)) hx hb dX9_mayMean_177 (by decide) ?_
                  cases hF
                  exact z_zret hx hb hr hlocks hK hP hD hS rfl dX9_mayMean_178
                · rw [if_pos c25] at hF
                  refine lv_iload hx hb dX9_mayMean_168 (lv_at hl 4 rfl) ?_
                  refine lv_if_ne (tgt := 177) hx hb dX9_mayMean_170 (by decide) (fun c26 => ?_) (fun c26 => ?_)
                  · rw [if_neg c26] at hF
                    refine lv_iconst (v := (0 : Int32)) hx hb dX9_mayMean_177 (by decide) ?_
                    cases hF
                    exact z_zret hx hb hr hlocks hK hP hD hS rfl dX9_mayMean_178
                  · rw [if_pos c26] at hF
                    refine lv_iconst (v := (1 : Int32)) hx hb dX9_mayMean_173 (by decide) ?_
                    refine lv_goto (tgt := 178) hx hb dX9_mayMean_174 (by decide) ?_
                    cases hF
                    exact z_zret hx hb hr hlocks hK hP hD hS rfl dX9_mayMean_178
            · rw [if_neg c23] at hF
              refine lv_tableOut (tgt := 179) hx hb dX9_mayMean_1 (z_notin6 c1 c5 c10 c14 c19 c23) (by decide) ?_
              refine lv_iconst (v := (0 : Int32)) hx hb dX9_mayMean_179 (by decide) ?_
              cases hF
              exact z_zret hx hb hr hlocks hK hP hD hS rfl dX9_mayMean_180
abbrev ts_X9_mean : List Cond := .code yX9_mean cX9_mean 7 (some .int) :: wsL_law
set_option maxHeartbeats 4000000 in
set_option maxRecDepth 100000 in
theorem c_X9_mean (l : Launch) (D : va_G) (cyI cyZ : ClassId) (a : Nat → Nat) (A : Nat → Prop) (σ : Mem) (x1 : Int32) (x2 : Int32) (x3 : Int32) (x4 : Int32) (x5 : Int32) (r : Int32) (σ' : Mem) (hF : F_X9_mean σ x1 x2 x3 x4 x5 = some (r, σ')) : CtI l yX9_mean ts_X9_mean ({ frames := 3, cells := 0, slots := 0, locals := 67 } : Room) [.ref (a 0), .int x1, .int x2, .int x3, .int x4, .int x5] D cyI cyZ A (wM cyI cyZ a σ) (wM cyI cyZ a σ') r := by
  refine CtI.of (cc := cX9_mean) (maxL := 7) (ret := (some .int)) (by decide) rfl (Nat.le_of_ble_eq_true rfl) ?_
  intro p e s m below meth c ls hC hP hD hl
  obtain ⟨hx, hb, hr, hml, hown, hts, hK, hN, hlocks⟩ := hC
  have hown : s.vm.findClass RX9 = some m.cls := hown
  have hS : va_S A s.heap s.heap [] := va_S.rf
  have hl : lv_has ls 7 [(0, .ref (a 0)), (1, .int x1), (2, .int x2), (3, .int x3), (4, .int x4), (5, .int x5)] := hl
  unfold F_X9_mean at hF
  refine lv_iload_n hx hb dX9_mean_0 rfl (lv_at hl 1 rfl) ?_
  refine z_callSI (w' := (wM cyI cyZ a σ)) (As := [.int x1]) (rest := []) ⟨hx, hb, hml, hown, hts⟩ (c_X9_isWord l D cyI cyZ A (wM cyI cyZ a σ) x1 _ rfl) (va_cwS 1 hts (gd_S mw_303 mw_304 mw_5 mw_305) rfl rfl rfl (by decide +kernel) ⟨Nat.le_of_ble_eq_true rfl, Nat.le_of_ble_eq_true rfl⟩) hK hN hP hD hS rfl hl.1 rfl (Nat.le_of_ble_eq_true rfl) dX9_mean_1 ⟨Nat.zero_le _, Nat.zero_le _⟩ (fun H locs hP hD hS => ?_)
  refine lv_if_eq (tgt := 40) hx hb dX9_mean_4 (by decide) (fun c1 => ?_) (fun c1 => ?_)
  · rw [if_pos c1] at hF
    refine lv_iconst (v := (-1 : Int32)) hx hb dX9_mean_40 (by decide) ?_
    cases hF
    exact z_iret hx hb hr hlocks hK hP hD hS dX9_mean_41
  · rw [if_neg c1] at hF
    refine lv_iload_n hx hb dX9_mean_7 rfl (lv_at hl 3 rfl) ?_
    refine lv_if_lt (tgt := 40) hx hb dX9_mean_8 (by decide) (fun c2 => ?_) (fun c2 => ?_)
    · rw [if_pos c2] at hF
      refine lv_iconst (v := (-1 : Int32)) hx hb dX9_mean_40 (by decide) ?_
      cases hF
      exact z_iret hx hb hr hlocks hK hP hD hS dX9_mean_41
    · rw [if_neg c2] at hF
      refine lv_aload_n hx hb dX9_mean_11 rfl (lv_at hl 0 rfl) ?_
      refine lv_iload_n hx hb dX9_mean_12 rfl (lv_at hl 2 rfl) ?_
      refine lv_iload_n hx hb dX9_mean_13 rfl (lv_at hl 3 rfl) ?_
      refine lv_bipush (v := (100 : Int32)) hx hb dX9_mean_14 (by decide) ?_
      refine lv_idiv hx hb dX9_mean_16 (by decide) ?_
      refine lv_iload_n hx hb dX9_mean_17 rfl (lv_at hl 3 rfl) ?_
      refine lv_bipush (v := (100 : Int32)) hx hb dX9_mean_18 (by decide) ?_
      refine lv_irem hx hb dX9_mean_20 (by decide) ?_
      refine lv_iload hx hb dX9_mean_21 (lv_at hl 4 rfl) ?_
      obtain ⟨v3, e4, hF⟩ := Option.bind_eq_some_iff.mp hF
      refine z_callVI (w' := (wM cyI cyZ a σ)) (As := [.int x2, .int (x3 / (100 : Int32)), .int (x3 - x3 / (100 : Int32) * (100 : Int32)), .int x4]) (rest := []) ⟨hx, hb, hml, hown, hts⟩ (c_X9_mayMean l D cyI cyZ a A σ x2 (x3 / (100 : Int32)) (x3 - x3 / (100 : Int32) * (100 : Int32)) x4 _ e4) (cwV 4 hts (gd_V mw_306 mw_307 mw_308 mw_5 mw_309) rfl rfl rfl (by decide +kernel) ⟨Nat.le_of_ble_eq_true rfl, Nat.le_of_ble_eq_true rfl⟩) hK hN hP hD hS 9 0 rfl rfl gM_0 rfl hl.1 rfl (Nat.le_of_ble_eq_true rfl) dX9_mean_23 ⟨Nat.zero_le _, Nat.zero_le _⟩ (fun H locs hP hD hS => ?_)
      refine lv_if_eq (tgt := 40) hx hb dX9_mean_26 (by decide) (fun c5 => ?_) (fun c5 => ?_)
      · rw [if_pos c5] at hF
        refine lv_iconst (v := (-1 : Int32)) hx hb dX9_mean_40 (by decide) ?_
        cases hF
        exact z_iret hx hb hr hlocks hK hP hD hS dX9_mean_41
      · rw [if_neg c5] at hF
        refine lv_iload hx hb dX9_mean_29 (lv_at hl 5 rfl) ?_
        refine lv_iconst (v := (0 : Int32)) hx hb dX9_mean_31 (by decide) ?_
        refine lv_bipush (v := (99 : Int32)) hx hb dX9_mean_32 (by decide) ?_
        refine z_callSI (w' := (wM cyI cyZ a σ)) (As := [.int x5, .int (0 : Int32), .int (99 : Int32)]) (rest := []) ⟨hx, hb, hml, hown, hts⟩ (c_X9_within l D cyI cyZ A (wM cyI cyZ a σ) x5 (0 : Int32) (99 : Int32) _ rfl) (va_cwS 3 hts (gd_S mw_161 mw_162 mw_5 mw_163) rfl rfl rfl (by decide +kernel) ⟨Nat.le_of_ble_eq_true rfl, Nat.le_of_ble_eq_true rfl⟩) hK hN hP hD hS rfl hl.1 rfl (Nat.le_of_ble_eq_true rfl) dX9_mean_34 ⟨Nat.zero_le _, Nat.zero_le _⟩ (fun H locs hP hD hS => ?_)
        refine lv_if_ne (tgt := 42) hx hb dX9_mean_37 (by decide) (fun c6 => ?_) (fun c6 => ?_)
        · rw [if_neg c6] at hF
          refine lv_aload_n hx hb dX9_mean_42 rfl (lv_at hl 0 rfl) ?_
          refine va_get (D := D) (ci := 9) (v := .ref (a 5)) (C := RX9) (T := TX9) (N := 34) hx hb hts inlX9 hown hK hP 0 gM_0 rfl 5 (by decide) (hts _ mw_121) (fun _ h9 => h9) rfl dX9_mean_43 ?_
          refine lv_iload_n hx hb dX9_mean_46 rfl (lv_at hl 1 rfl) ?_
          obtain ⟨v7, e8, hF⟩ := Option.bind_eq_some_iff.mp hF
          refine z_ild hx hb hK hP 5 gM_5 e8 dX9_mean_47 ?_
          refine lv_iconst (v := (3 : Int32)) hx hb dX9_mean_48 (by decide) ?_
          refine lv_icmp_ne (tgt := 55) hx hb dX9_mean_49 (by decide) (fun c9 => ?_) (fun c9 => ?_)
          · rw [if_neg c9] at hF
            refine lv_iconst (v := (3 : Int32)) hx hb dX9_mean_55 (by decide) ?_
            refine lv_iload_n hx hb dX9_mean_56 rfl (lv_at hl 1 rfl) ?_
            refine lv_imul hx hb dX9_mean_57 ?_
            refine lv_aload_n hx hb dX9_mean_58 rfl (lv_at hl 0 rfl) ?_
            refine va_get (D := D) (ci := 9) (v := .ref (a 5)) (C := RX9) (T := TX9) (N := 34) hx hb hts inlX9 hown hK hP 0 gM_0 rfl 5 (by decide) (hts _ mw_121) (fun _ h9 => h9) rfl dX9_mean_59 ?_
            refine lv_iload_n hx hb dX9_mean_62 rfl (lv_at hl 1 rfl) ?_
            obtain ⟨v10, e11, hF⟩ := Option.bind_eq_some_iff.mp hF
            refine z_ild hx hb hK hP 5 gM_5 e11 dX9_mean_63 ?_
            refine lv_iadd hx hb dX9_mean_64 ?_
            refine lv_istore (lv' := [(6, .int (((3 : Int32) * x1) + v10)), (0, .ref (a 0)), (1, .int x1), (2, .int x2), (3, .int x3), (4, .int x4), (5, .int x5)]) hx hb dX9_mean_65 hl (by decide) rfl (fun ls hl => ?_)
            refine lv_aload_n hx hb dX9_mean_67 rfl (lv_at hl 1 rfl) ?_
            refine va_get (D := D) (ci := 9) (v := .ref (a 6)) (C := RX9) (T := TX9) (N := 34) hx hb hts inlX9 hown hK hP 0 gM_0 rfl 6 (by decide) (hts _ mw_122) (fun _ h9 => h9) rfl dX9_mean_68 ?_
            refine lv_iload hx hb dX9_mean_71 (lv_at hl 0 rfl) ?_
            refine lv_iload_n hx hb dX9_mean_73 rfl (lv_at hl 3 rfl) ?_
            obtain ⟨σ12, e13, hF⟩ := Option.bind_eq_some_iff.mp hF
            refine z_ist (wM cyI cyZ a) hx hb hK hP hD hS 6 gM_6 sM_6 e13 dX9_mean_74 (fun H locs hP hD hS => ?_)
            refine lv_aload_n hx hb dX9_mean_75 rfl (lv_at hl 1 rfl) ?_
            refine va_get (D := D) (ci := 9) (v := .ref (a 7)) (C := RX9) (T := TX9) (N := 34) hx hb hts inlX9 hown hK hP 0 gM_0 rfl 7 (by decide) (hts _ mw_123) (fun _ h9 => h9) rfl dX9_mean_76 ?_
            refine lv_iload hx hb dX9_mean_79 (lv_at hl 0 rfl) ?_
            refine lv_iload_n hx hb dX9_mean_81 rfl (lv_at hl 4 rfl) ?_
            refine lv_bipush (v := (100 : Int32)) hx hb dX9_mean_82 (by decide) ?_
            refine lv_idiv hx hb dX9_mean_84 (by decide) ?_
            obtain ⟨σ14, e15, hF⟩ := Option.bind_eq_some_iff.mp hF
            refine z_ist (wM cyI cyZ a) hx hb hK hP hD hS 7 gM_7 sM_7 e15 dX9_mean_85 (fun H locs hP hD hS => ?_)
            refine lv_aload_n hx hb dX9_mean_86 rfl (lv_at hl 1 rfl) ?_
            refine va_get (D := D) (ci := 9) (v := .ref (a 8)) (C := RX9) (T := TX9) (N := 34) hx hb hts inlX9 hown hK hP 0 gM_0 rfl 8 (by decide) (hts _ mw_124) (fun _ h9 => h9) rfl dX9_mean_87 ?_
            refine lv_iload hx hb dX9_mean_90 (lv_at hl 0 rfl) ?_
            refine lv_iload_n hx hb dX9_mean_92 rfl (lv_at hl 4 rfl) ?_
            refine lv_bipush (v := (100 : Int32)) hx hb dX9_mean_93 (by decide) ?_
            refine lv_irem hx hb dX9_mean_95 (by decide) ?_
            obtain ⟨σ16, e17, hF⟩ := Option.bind_eq_some_iff.mp hF
            refine z_ist (wM cyI cyZ a) hx hb hK hP hD hS 8 gM_8 sM_8 e17 dX9_mean_96 (fun H locs hP hD hS => ?_)
            refine lv_aload_n hx hb dX9_mean_97 rfl (lv_at hl 1 rfl) ?_
            refine va_get (D := D) (ci := 9) (v := .ref (a 9)) (C := RX9) (T := TX9) (N := 34) hx hb hts inlX9 hown hK hP 0 gM_0 rfl 9 (by decide) (hts _ mw_125) (fun _ h9 => h9) rfl dX9_mean_98 ?_
            refine lv_iload hx hb dX9_mean_101 (lv_at hl 0 rfl) ?_
            refine lv_iload hx hb dX9_mean_103 (lv_at hl 5 rfl) ?_
            obtain ⟨σ18, e19, hF⟩ := Option.bind_eq_some_iff.mp hF
            refine z_ist (wM cyI cyZ a) hx hb hK hP hD hS 9 gM_9 sM_9 e19 dX9_mean_105 (fun H locs hP hD hS => ?_)
            refine lv_aload_n hx hb dX9_mean_106 rfl (lv_at hl 1 rfl) ?_
            refine va_get (D := D) (ci := 9) (v := .ref (a 10)) (C := RX9) (T := TX9) (N := 34) hx hb hts inlX9 hown hK hP 0 gM_0 rfl 10 (by decide) (hts _ mw_126) (fun _ h9 => h9) rfl dX9_mean_107 ?_
            refine lv_iload hx hb dX9_mean_110 (lv_at hl 0 rfl) ?_
            refine lv_iload hx hb dX9_mean_112 (lv_at hl 6 rfl) ?_
            obtain ⟨σ20, e21, hF⟩ := Option.bind_eq_some_iff.mp hF
            refine z_ist (wM cyI cyZ a) hx hb hK hP hD hS 10 gM_10 sM_10 e21 dX9_mean_114 (fun H locs hP hD hS => ?_)
            refine lv_aload_n hx hb dX9_mean_115 rfl (lv_at hl 1 rfl) ?_
            refine va_get (D := D) (ci := 9) (v := .ref (a 5)) (C := RX9) (T := TX9) (N := 34) hx hb hts inlX9 hown hK hP 0 gM_0 rfl 5 (by decide) (hts _ mw_121) (fun _ h9 => h9) rfl dX9_mean_116 ?_
            refine lv_iload_n hx hb dX9_mean_119 rfl (lv_at hl 2 rfl) ?_
            refine lv_dup2_11 hx hb dX9_mean_120 rfl rfl ?_
            obtain ⟨v22, e23, hF⟩ := Option.bind_eq_some_iff.mp hF
            refine z_ild hx hb hK hP 5 gM_5 e23 dX9_mean_121 ?_
            refine lv_iconst (v := (1 : Int32)) hx hb dX9_mean_122 (by decide) ?_
            refine lv_iadd hx hb dX9_mean_123 ?_
            obtain ⟨σ24, e25, hF⟩ := Option.bind_eq_some_iff.mp hF
            refine z_ist (wM cyI cyZ a) hx hb hK hP hD hS 5 gM_5 sM_5 e25 dX9_mean_124 (fun H locs hP hD hS => ?_)
            refine lv_aload_n hx hb dX9_mean_125 rfl (lv_at hl 1 rfl) ?_
            refine va_get (D := D) (ci := 9) (v := .ref (a 5)) (C := RX9) (T := TX9) (N := 34) hx hb hts inlX9 hown hK hP 0 gM_0 rfl 5 (by decide) (hts _ mw_121) (fun _ h9 => h9) rfl dX9_mean_126 ?_
            refine lv_iload_n hx hb dX9_mean_129 rfl (lv_at hl 2 rfl) ?_
            obtain ⟨v26, e27, hF⟩ := Option.bind_eq_some_iff.mp hF
            refine z_ild hx hb hK hP 5 gM_5 e27 dX9_mean_130 ?_
            refine lv_iconst (v := (1 : Int32)) hx hb dX9_mean_131 (by decide) ?_
            refine lv_isub hx hb dX9_mean_132 ?_
            cases hF
            exact z_iret hx hb hr hlocks hK hP hD hS dX9_mean_133
          · rw [if_pos c9] at hF
            refine lv_bipush (v := (-2 : Int32)) hx hb dX9_mean_52 (by decide) ?_
            cases hF
            exact z_iret hx hb hr hlocks hK hP hD hS dX9_mean_54
        · rw [if_pos c6] at hF
          refine lv_iconst (v := (-1 : Int32)) hx hb dX9_mean_40 (by decide) ?_
          cases hF
          exact z_iret hx hb hr hlocks hK hP hD hS dX9_mean_41
