-- X9_takeWay X9_findReadings X9_have X9_readings
abbrev ts_X9_takeWay : List Cond := .code yX9_takeWay cX9_takeWay 5 (some .boolean) :: wsL_law
def SH_X9_takeWay (a : Nat → Nat) (ls : Array Slot) (pc : Nat) (vs : List Int32) : Prop := (pc = 0 ∧ ∃ x1 : Int32, vs = [x1] ∧ lv_has ls 5 [(0, .ref (a 0)), (1, .int x1)]) ∨ (pc = 12 ∧ ∃ x2 x3 x4 : Int32, vs = [x2, x3, x4] ∧ lv_has ls 5 [(0, .ref (a 0)), (2, .int x2), (3, .int x3), (4, .int x4)])
section
variable {p : Program} {l : Launch} {e : Env} {s : State} {m : MethodId} {args : Array Value} {below : List Frame} {meth : Method} {c : Code} {D : va_G} {A : Nat → Prop} {a : Nat → Nat} {cyI cyZ : ClassId} {r : Int32} {σ' : Mem} {q : Mem × List Int32}
set_option maxHeartbeats 4000000 in
set_option maxRecDepth 100000 in
theorem wl_X9_takeWay_0 (σ : Mem) (hC : CX p c cX9_takeWay meth (some .boolean) s m args yX9_takeWay.cls 5 D cyI cyZ) (hq : extM q = some (r, σ')) (n : Nat) (ih : ∀ (pc : Nat) (x : Mem) (vs : List Int32) (ls : Array Slot) (H : Heap) (locs : List Loc), goL B_X9_takeWay n pc x vs = some q → SH_X9_takeWay a ls pc vs → va_P D vwCl (wM cyI cyZ a x) H → va_D A (wM cyI cyZ a x) → va_S A s.heap H locs → W p l e (headSpec ts_X9_takeWay ({ frames := 0, cells := 0, slots := 0, locals := 0 } : Room)).room s m args below meth c H locs 0 0 (MQ below (QcI D cyI cyZ A (wM cyI cyZ a σ') r) args s 0 0 A) (F0 m pc ls [])) (x1 : Int32) (ls : Array Slot) (H : Heap) (locs : List Loc) (hgo : goL B_X9_takeWay (n + 1) 0 σ [x1] = some q) (hl : lv_has ls 5 [(0, .ref (a 0)), (1, .int x1)]) (hP : va_P D vwCl (wM cyI cyZ a σ) H) (hD : va_D A (wM cyI cyZ a σ)) (hS : va_S A s.heap H locs) : W p l e (headSpec ts_X9_takeWay ({ frames := 0, cells := 0, slots := 0, locals := 0 } : Room)).room s m args below meth c H locs 0 0 (MQ below (QcI D cyI cyZ A (wM cyI cyZ a σ') r) args s 0 0 A) (F0 m 0 ls []) := by
  obtain ⟨hx, hb, hr, hml, hown, hts, hK, hN, hlocks⟩ := hC
  have hown : s.vm.findClass RX9 = some m.cls := hown
  obtain ⟨yy, hF, hgo⟩ := goL_step (by decide) hgo
  have hF : B_X9_takeWay_0 σ x1 = some yy := hF
  unfold B_X9_takeWay_0 at hF
  refine lv_iconst (v := (1 : Int32)) hx hb dX9_takeWay_0 (by decide) ?_
  refine lv_istore_n (lv' := [(2, .int (1 : Int32)), (0, .ref (a 0)), (1, .int x1)]) hx hb dX9_takeWay_1 rfl hl (by decide) rfl (fun ls hl => ?_)
  refine lv_iload_n hx hb dX9_takeWay_2 rfl (lv_at hl 2 rfl) ?_
  refine lv_istore_n (lv' := [(3, .int x1), (2, .int (1 : Int32)), (0, .ref (a 0)), (1, .int x1)]) hx hb dX9_takeWay_3 rfl hl (by decide) rfl (fun ls hl => ?_)
  refine lv_aload_n hx hb dX9_takeWay_4 rfl (lv_at hl 2 rfl) ?_
  refine va_get (D := D) (ci := 9) (v := .int (σ 0 13)) (C := RX9) (T := TX9) (N := 34) hx hb hts inlX9 hown hK hP 0 gM_0 rfl 13 (by decide) (hts _ mw_360) (fun _ h9 => h9) rfl dX9_takeWay_5 ?_
  refine lv_iconst (v := (1 : Int32)) hx hb dX9_takeWay_8 (by decide) ?_
  refine lv_isub hx hb dX9_takeWay_9 ?_
  refine lv_istore (lv' := [(4, .int ((σ 0 13) - (1 : Int32))), (3, .int x1), (2, .int (1 : Int32)), (0, .ref (a 0)), (1, .int x1)]) hx hb dX9_takeWay_10 hl (by decide) rfl (fun ls hl => ?_)
  cases hF
  exact ih _ _ _ _ _ _ hgo (Or.inr (⟨rfl, _, _, _, rfl, lv_sub hl [3, 2, 1, 0] rfl⟩)) hP hD hS
set_option maxHeartbeats 4000000 in
set_option maxRecDepth 100000 in
theorem wl_X9_takeWay_12 (σ : Mem) (hC : CX p c cX9_takeWay meth (some .boolean) s m args yX9_takeWay.cls 5 D cyI cyZ) (hq : extM q = some (r, σ')) (n : Nat) (ih : ∀ (pc : Nat) (x : Mem) (vs : List Int32) (ls : Array Slot) (H : Heap) (locs : List Loc), goL B_X9_takeWay n pc x vs = some q → SH_X9_takeWay a ls pc vs → va_P D vwCl (wM cyI cyZ a x) H → va_D A (wM cyI cyZ a x) → va_S A s.heap H locs → W p l e (headSpec ts_X9_takeWay ({ frames := 0, cells := 0, slots := 0, locals := 0 } : Room)).room s m args below meth c H locs 0 0 (MQ below (QcI D cyI cyZ A (wM cyI cyZ a σ') r) args s 0 0 A) (F0 m pc ls [])) (x2 : Int32) (x3 : Int32) (x4 : Int32) (ls : Array Slot) (H : Heap) (locs : List Loc) (hgo : goL B_X9_takeWay (n + 1) 12 σ [x2, x3, x4] = some q) (hl : lv_has ls 5 [(0, .ref (a 0)), (2, .int x2), (3, .int x3), (4, .int x4)]) (hP : va_P D vwCl (wM cyI cyZ a σ) H) (hD : va_D A (wM cyI cyZ a σ)) (hS : va_S A s.heap H locs) : W p l e (headSpec ts_X9_takeWay ({ frames := 0, cells := 0, slots := 0, locals := 0 } : Room)).room s m args below meth c H locs 0 0 (MQ below (QcI D cyI cyZ A (wM cyI cyZ a σ') r) args s 0 0 A) (F0 m 12 ls []) := by
  obtain ⟨hx, hb, hr, hml, hown, hts, hK, hN, hlocks⟩ := hC
  have hown : s.vm.findClass RX9 = some m.cls := hown
  obtain ⟨yy, hF, hgo⟩ := goL_step (by decide) hgo
  have hF : B_X9_takeWay_12 σ x2 x3 x4 = some yy := hF
  unfold B_X9_takeWay_12 at hF
  refine lv_iload hx hb dX9_takeWay_12 (lv_at hl 3 rfl) ?_
  refine lv_if_lt (tgt := 92) hx hb dX9_takeWay_14 (by decide) (fun c1 => ?_) (fun c1 => ?_)
  · rw [if_pos c1] at hF
    refine lv_iload_n hx hb dX9_takeWay_92 rfl (lv_at hl 1 rfl) ?_
    by_cases c2 : vp_nar .boolean x2 = x2
    case neg => rw [if_neg c2] at hF; cases hF
    rw [if_pos c2] at hF
    cases hF
    obtain ⟨rfl, rfl⟩ := extM_ret hq (goL_ret hgo)
    exact z_zret hx hb hr hlocks hK hP hD hS (z_nar c2) dX9_takeWay_93
  · rw [if_neg c1] at hF
    refine lv_aload_n hx hb dX9_takeWay_17 rfl (lv_at hl 0 rfl) ?_
    refine va_get (D := D) (ci := 9) (v := .ref (a 21)) (C := RX9) (T := TX9) (N := 34) hx hb hts inlX9 hown hK hP 0 gM_0 rfl 23 (by decide) (hts _ mw_137) (fun _ h9 => h9) rfl dX9_takeWay_18 ?_
    refine lv_iload hx hb dX9_takeWay_21 (lv_at hl 3 rfl) ?_
    refine lv_iload_n hx hb dX9_takeWay_23 rfl (lv_at hl 2 rfl) ?_
    refine lv_iconst (v := (3 : Int32)) hx hb dX9_takeWay_24 (by decide) ?_
    refine lv_irem hx hb dX9_takeWay_25 (by decide) ?_
    obtain ⟨σ3, e4, hF⟩ := Option.bind_eq_some_iff.mp hF
    refine z_ist (wM cyI cyZ a) hx hb hK hP hD hS 21 gM_21 sM_21 e4 dX9_takeWay_26 (fun H locs hP hD hS => ?_)
    refine lv_iload_n hx hb dX9_takeWay_27 rfl (lv_at hl 2 rfl) ?_
    refine lv_iconst (v := (3 : Int32)) hx hb dX9_takeWay_28 (by decide) ?_
    refine lv_idiv hx hb dX9_takeWay_29 (by decide) ?_
    refine lv_istore_n (lv' := [(3, .int (x3 / (3 : Int32))), (0, .ref (a 0)), (2, .int x2), (4, .int x4)]) hx hb dX9_takeWay_30 rfl hl (by decide) rfl (fun ls hl => ?_)
    refine lv_iload_n hx hb dX9_takeWay_31 rfl (lv_at hl 2 rfl) ?_
    refine lv_if_eq (tgt := 84) hx hb dX9_takeWay_32 (by decide) (fun c5 => ?_) (fun c5 => ?_)
    · rw [if_pos c5] at hF
      refine lv_iconst (v := (0 : Int32)) hx hb dX9_takeWay_84 (by decide) ?_
      refine lv_istore_n (lv' := [(2, .int (0 : Int32)), (3, .int (x3 / (3 : Int32))), (0, .ref (a 0)), (4, .int x4)]) hx hb dX9_takeWay_85 rfl hl (by decide) rfl (fun ls hl => ?_)
      refine lv_iinc (v := (x4 + (-1 : Int32))) (lv' := [(4, .int (x4 + (-1 : Int32))), (2, .int (0 : Int32)), (3, .int (x3 / (3 : Int32))), (0, .ref (a 0))]) hx hb dX9_takeWay_86 hl (k := 3) rfl rfl (by decide) rfl (fun ls hl => ?_)
      refine lv_goto (tgt := 12) hx hb dX9_takeWay_89 (by decide) ?_
      cases hF
      exact ih _ _ _ _ _ _ hgo (Or.inr (⟨rfl, _, _, _, rfl, lv_sub hl [3, 1, 2, 0] rfl⟩)) hP hD hS
    · rw [if_neg c5] at hF
      refine lv_aload_n hx hb dX9_takeWay_35 rfl (lv_at hl 1 rfl) ?_
      refine va_get (D := D) (ci := 9) (v := .ref (a 12)) (C := RX9) (T := TX9) (N := 34) hx hb hts inlX9 hown hK hP 0 gM_0 rfl 12 (by decide) (hts _ mw_128) (fun _ h9 => h9) rfl dX9_takeWay_36 ?_
      refine lv_iload hx hb dX9_takeWay_39 (lv_at hl 3 rfl) ?_
      obtain ⟨v6, e7, hF⟩ := Option.bind_eq_some_iff.mp hF
      refine z_zld hx hb hK hP 12 gM_12 e7 dX9_takeWay_41 ?_
      refine lv_if_eq (tgt := 58) hx hb dX9_takeWay_42 (by decide) (fun c8 => ?_) (fun c8 => ?_)
      · rw [if_pos c8] at hF
        refine lv_aload_n hx hb dX9_takeWay_58 rfl (lv_at hl 1 rfl) ?_
        refine va_get (D := D) (ci := 9) (v := .ref (a 21)) (C := RX9) (T := TX9) (N := 34) hx hb hts inlX9 hown hK hP 0 gM_0 rfl 23 (by decide) (hts _ mw_137) (fun _ h9 => h9) rfl dX9_takeWay_59 ?_
        refine lv_iload hx hb dX9_takeWay_62 (lv_at hl 3 rfl) ?_
        obtain ⟨v9, e10, hF⟩ := Option.bind_eq_some_iff.mp hF
        refine z_ild hx hb hK hP 21 gM_21 e10 dX9_takeWay_64 ?_
        refine lv_aload_n hx hb dX9_takeWay_65 rfl (lv_at hl 1 rfl) ?_
        refine va_get (D := D) (ci := 9) (v := .ref (a 5)) (C := RX9) (T := TX9) (N := 34) hx hb hts inlX9 hown hK hP 0 gM_0 rfl 5 (by decide) (hts _ mw_121) (fun _ h9 => h9) rfl dX9_takeWay_66 ?_
        refine lv_aload_n hx hb dX9_takeWay_69 rfl (lv_at hl 1 rfl) ?_
        refine va_get (D := D) (ci := 9) (v := .ref (a 11)) (C := RX9) (T := TX9) (N := 34) hx hb hts inlX9 hown hK hP 0 gM_0 rfl 11 (by decide) (hts _ mw_127) (fun _ h9 => h9) rfl dX9_takeWay_70 ?_
        refine lv_iload hx hb dX9_takeWay_73 (lv_at hl 3 rfl) ?_
        obtain ⟨v11, e12, hF⟩ := Option.bind_eq_some_iff.mp hF
        refine z_ild hx hb hK hP 11 gM_11 e12 dX9_takeWay_75 ?_
        obtain ⟨v13, e14, hF⟩ := Option.bind_eq_some_iff.mp hF
        refine z_ild hx hb hK hP 5 gM_5 e14 dX9_takeWay_76 ?_
        refine lv_icmp_ge (tgt := 84) hx hb dX9_takeWay_77 (by decide) (fun c15 => ?_) (fun c15 => ?_)
        · rw [if_pos c15] at hF
          refine lv_iconst (v := (0 : Int32)) hx hb dX9_takeWay_84 (by decide) ?_
          refine lv_istore_n (lv' := [(2, .int (0 : Int32)), (3, .int (x3 / (3 : Int32))), (0, .ref (a 0)), (4, .int x4)]) hx hb dX9_takeWay_85 rfl hl (by decide) rfl (fun ls hl => ?_)
          refine lv_iinc (v := (x4 + (-1 : Int32))) (lv' := [(4, .int (x4 + (-1 : Int32))), (2, .int (0 : Int32)), (3, .int (x3 / (3 : Int32))), (0, .ref (a 0))]) hx hb dX9_takeWay_86 hl (k := 3) rfl rfl (by decide) rfl (fun ls hl => ?_)
          refine lv_goto (tgt := 12) hx hb dX9_takeWay_89 (by decide) ?_
          cases hF
          exact ih _ _ _ _ _ _ hgo (Or.inr (⟨rfl, _, _, _, rfl, lv_sub hl [3, 1, 2, 0] rfl⟩)) hP hD hS
        · rw [if_neg c15] at hF
          refine lv_iconst (v := (1 : Int32)) hx hb dX9_takeWay_80 (by decide) ?_
          refine lv_goto (tgt := 85) hx hb dX9_takeWay_81 (by decide) ?_
          refine lv_istore_n (lv' := [(2, .int (1 : Int32)), (3, .int (x3 / (3 : Int32))), (0, .ref (a 0)), (4, .int x4)]) hx hb dX9_takeWay_85 rfl hl (by decide) rfl (fun ls hl => ?_)
          refine lv_iinc (v := (x4 + (-1 : Int32))) (lv' := [(4, .int (x4 + (-1 : Int32))), (2, .int (1 : Int32)), (3, .int (x3 / (3 : Int32))), (0, .ref (a 0))]) hx hb dX9_takeWay_86 hl (k := 3) rfl rfl (by decide) rfl (fun ls hl => ?_)
          refine lv_goto (tgt := 12) hx hb dX9_takeWay_89 (by decide) ?_
          cases hF
          exact ih _ _ _ _ _ _ hgo (Or.inr (⟨rfl, _, _, _, rfl, lv_sub hl [3, 1, 2, 0] rfl⟩)) hP hD hS
      · rw [if_neg c8] at hF
        refine lv_aload_n hx hb dX9_takeWay_45 rfl (lv_at hl 1 rfl) ?_
        refine va_get (D := D) (ci := 9) (v := .ref (a 21)) (C := RX9) (T := TX9) (N := 34) hx hb hts inlX9 hown hK hP 0 gM_0 rfl 23 (by decide) (hts _ mw_137) (fun _ h9 => h9) rfl dX9_takeWay_46 ?_
        refine lv_iload hx hb dX9_takeWay_49 (lv_at hl 3 rfl) ?_
        obtain ⟨v16, e17, hF⟩ := Option.bind_eq_some_iff.mp hF
        refine z_ild hx hb hK hP 21 gM_21 e17 dX9_takeWay_51 ?_
        refine lv_if_ne (tgt := 84) hx hb dX9_takeWay_52 (by decide) (fun c18 => ?_) (fun c18 => ?_)
        · rw [if_neg c18] at hF
          refine lv_iconst (v := (0 : Int32)) hx hb dX9_takeWay_84 (by decide) ?_
          refine lv_istore_n (lv' := [(2, .int (0 : Int32)), (3, .int (x3 / (3 : Int32))), (0, .ref (a 0)), (4, .int x4)]) hx hb dX9_takeWay_85 rfl hl (by decide) rfl (fun ls hl => ?_)
          refine lv_iinc (v := (x4 + (-1 : Int32))) (lv' := [(4, .int (x4 + (-1 : Int32))), (2, .int (0 : Int32)), (3, .int (x3 / (3 : Int32))), (0, .ref (a 0))]) hx hb dX9_takeWay_86 hl (k := 3) rfl rfl (by decide) rfl (fun ls hl => ?_)
          refine lv_goto (tgt := 12) hx hb dX9_takeWay_89 (by decide) ?_
          cases hF
          exact ih _ _ _ _ _ _ hgo (Or.inr (⟨rfl, _, _, _, rfl, lv_sub hl [3, 1, 2, 0] rfl⟩)) hP hD hS
        · rw [if_pos c18] at hF
          refine lv_goto (tgt := 80) hx hb dX9_takeWay_55 (by decide) ?_
          refine lv_iconst (v := (1 : Int32)) hx hb dX9_takeWay_80 (by decide) ?_
          refine lv_goto (tgt := 85) hx hb dX9_takeWay_81 (by decide) ?_
          refine lv_istore_n (lv' := [(2, .int (1 : Int32)), (3, .int (x3 / (3 : Int32))), (0, .ref (a 0)), (4, .int x4)]) hx hb dX9_takeWay_85 rfl hl (by decide) rfl (fun ls hl => ?_)
          refine lv_iinc (v := (x4 + (-1 : Int32))) (lv' := [(4, .int (x4 + (-1 : Int32))), (2, .int (1 : Int32)), (3, .int (x3 / (3 : Int32))), (0, .ref (a 0))]) hx hb dX9_takeWay_86 hl (k := 3) rfl rfl (by decide) rfl (fun ls hl => ?_)
          refine lv_goto (tgt := 12) hx hb dX9_takeWay_89 (by decide) ?_
          cases hF
          exact ih _ _ _ _ _ _ hgo (Or.inr (⟨rfl, _, _, _, rfl, lv_sub hl [3, 1, 2, 0] rfl⟩)) hP hD hS
theorem wk_X9_takeWay (hC : CX p c cX9_takeWay meth (some .boolean) s m args yX9_takeWay.cls 5 D cyI cyZ) (hq : extM q = some (r, σ')) : ∀ (n : Nat), ∀ (pc : Nat) (x : Mem) (vs : List Int32) (ls : Array Slot) (H : Heap) (locs : List Loc), goL B_X9_takeWay n pc x vs = some q → SH_X9_takeWay a ls pc vs → va_P D vwCl (wM cyI cyZ a x) H → va_D A (wM cyI cyZ a x) → va_S A s.heap H locs → W p l e (headSpec ts_X9_takeWay ({ frames := 0, cells := 0, slots := 0, locals := 0 } : Room)).room s m args below meth c H locs 0 0 (MQ below (QcI D cyI cyZ A (wM cyI cyZ a σ') r) args s 0 0 A) (F0 m pc ls []) := by
  intro n
  induction n with
  | zero => intro pc x vs ls H locs h; exact absurd h (by simp [goL])
  | succ n ih =>
    intro pc x vs ls H locs hgo hsh hP hD hS
    rcases hsh with ⟨rfl, x1, rfl, hl⟩ | ⟨rfl, x2, x3, x4, rfl, hl⟩
    · exact wl_X9_takeWay_0 x hC hq n ih x1 ls H locs hgo hl hP hD hS
    · exact wl_X9_takeWay_12 x hC hq n ih x2 x3 x4 ls H locs hgo hl hP hD hS
end
theorem c_X9_takeWay (l : Launch) (D : va_G) (cyI cyZ : ClassId) (a : Nat → Nat) (A : Nat → Prop) (σ : Mem) (x1 : Int32) (r : Int32) (σ' : Mem) (hF : F_X9_takeWay σ x1 = some (r, σ')) : CtI l yX9_takeWay ts_X9_takeWay ({ frames := 0, cells := 0, slots := 0, locals := 0 } : Room) [.ref (a 0), .int x1] D cyI cyZ A (wM cyI cyZ a σ) (wM cyI cyZ a σ') r := by
  refine CtI.of (cc := cX9_takeWay) (maxL := 5) (ret := (some .boolean)) (by decide) rfl (Nat.le_of_ble_eq_true rfl) ?_
  intro p e s m below meth c ls hC hP hD hl
  obtain ⟨q, hq, hr1⟩ := Option.bind_eq_some_iff.mp hF
  obtain ⟨n, hn⟩ := finL_some hq
  exact wk_X9_takeWay hC hr1 n 0 _ _ ls _ _ hn (Or.inl ⟨rfl, _, rfl, hl⟩) hP hD va_S.rf
abbrev ts_X9_findReadings : List Cond := .code yX9_findReadings cX9_findReadings 4 none :: wsL_law
def SH_X9_findReadings (a : Nat → Nat) (ls : Array Slot) (pc : Nat) (vs : List Int32) : Prop := (pc = 0 ∧ vs = [] ∧ lv_has ls 4 [(0, .ref (a 0))]) ∨ (pc = 9 ∧ ∃ x1 x2 : Int32, vs = [x1, x2] ∧ lv_has ls 4 [(0, .ref (a 0)), (1, .int x1), (2, .int x2)]) ∨ (pc = 29 ∧ ∃ x1 x2 : Int32, vs = [x1, x2] ∧ lv_has ls 4 [(0, .ref (a 0)), (1, .int x1), (2, .int x2)]) ∨ (pc = 90 ∧ ∃ x2 : Int32, vs = [x2] ∧ lv_has ls 4 [(0, .ref (a 0)), (2, .int x2)]) ∨ (pc = 112 ∧ ∃ x2 : Int32, vs = [x2] ∧ lv_has ls 4 [(0, .ref (a 0)), (2, .int x2)]) ∨ (pc = 145 ∧ ∃ x2 : Int32, vs = [x2] ∧ lv_has ls 4 [(0, .ref (a 0)), (2, .int x2)]) ∨ (pc = 177 ∧ ∃ x2 : Int32, vs = [x2] ∧ lv_has ls 4 [(0, .ref (a 0)), (2, .int x2)])
section
variable {p : Program} {l : Launch} {e : Env} {s : State} {m : MethodId} {args : Array Value} {below : List Frame} {meth : Method} {c : Code} {D : va_G} {A : Nat → Prop} {a : Nat → Nat} {cyI cyZ : ClassId} {σ' : Mem} {q : Mem × List Int32}
set_option maxHeartbeats 4000000 in
set_option maxRecDepth 100000 in
theorem wl_X9_findReadings_0 (σ : Mem) (hC : CX p c cX9_findReadings meth none s m args yX9_findReadings.cls 4 D cyI cyZ) (hq : extV q = some σ') (n : Nat) (ih : ∀ (pc : Nat) (x : Mem) (vs : List Int32) (ls : Array Slot) (H : Heap) (locs : List Loc), goL B_X9_findReadings n pc x vs = some q → SH_X9_findReadings a ls pc vs → va_P D vwCl (wM cyI cyZ a x) H → va_D A (wM cyI cyZ a x) → va_S A s.heap H locs → W p l e (headSpec ts_X9_findReadings ({ frames := 3, cells := 0, slots := 0, locals := 69 } : Room)).room s m args below meth c H locs 0 0 (MQ below (QcV D cyI cyZ A (wM cyI cyZ a σ')) args s 0 0 A) (F0 m pc ls [])) (ls : Array Slot) (H : Heap) (locs : List Loc) (hgo : goL B_X9_findReadings (n + 1) 0 σ [] = some q) (hl : lv_has ls 4 [(0, .ref (a 0))]) (hP : va_P D vwCl (wM cyI cyZ a σ) H) (hD : va_D A (wM cyI cyZ a σ)) (hS : va_S A s.heap H locs) : W p l e (headSpec ts_X9_findReadings ({ frames := 3, cells := 0, slots := 0, locals := 69 } : Room)).room s m args below meth c H locs 0 0 (MQ below (QcV D cyI cyZ A (wM cyI cyZ a σ')) args s 0 0 A) (F0 m 0 ls []) := by
  obtain ⟨hx, hb, hr, hml, hown, hts, hK, hN, hlocks⟩ := hC
  have hown : s.vm.findClass RX9 = some m.cls := hown
  obtain ⟨yy, hF, hgo⟩ := goL_step (by decide) hgo
  have hF : B_X9_findReadings_0 σ  = some yy := hF
  unfold B_X9_findReadings_0 at hF
  refine lv_aload_n hx hb dX9_findReadings_0 rfl (lv_at hl 0 rfl) ?_
  refine lv_iconst (v := (0 : Int32)) hx hb dX9_findReadings_1 (by decide) ?_
  obtain ⟨σ1, e2, hF⟩ := Option.bind_eq_some_iff.mp hF
  refine va_put (D := D) (ci := 9) (v := .int (0 : Int32)) (ty := .int) (C := RX9) (T := TX9) (N := 34) hx hb hts inlX9 tyX9 tyX9_ok nmX9 hown hK hP hD hS 0 gM_0 rfl 22 (by decide) (hts _ mw_528) (fun _ h9 => h9) rfl (by decide +kernel) rfl rfl (Nat.le_of_ble_eq_true rfl) dX9_findReadings_2 (fun H locs hP hD hS => ?_)
  rw [sM_0_22, Option.some.inj e2] at hP hD
  refine lv_iconst (v := (1 : Int32)) hx hb dX9_findReadings_5 (by decide) ?_
  refine lv_istore_n (lv' := [(1, .int (1 : Int32)), (0, .ref (a 0))]) hx hb dX9_findReadings_6 rfl hl (by decide) rfl (fun ls hl => ?_)
  refine lv_iconst (v := (0 : Int32)) hx hb dX9_findReadings_7 (by decide) ?_
  refine lv_istore_n (lv' := [(2, .int (0 : Int32)), (1, .int (1 : Int32)), (0, .ref (a 0))]) hx hb dX9_findReadings_8 rfl hl (by decide) rfl (fun ls hl => ?_)
  cases hF
  exact ih _ _ _ _ _ _ hgo (Or.inr (Or.inl ⟨rfl, _, _, rfl, lv_sub hl [2, 1, 0] rfl⟩)) hP hD hS
set_option maxHeartbeats 4000000 in
set_option maxRecDepth 100000 in
theorem wl_X9_findReadings_9 (σ : Mem) (hC : CX p c cX9_findReadings meth none s m args yX9_findReadings.cls 4 D cyI cyZ) (hq : extV q = some σ') (n : Nat) (ih : ∀ (pc : Nat) (x : Mem) (vs : List Int32) (ls : Array Slot) (H : Heap) (locs : List Loc), goL B_X9_findReadings n pc x vs = some q → SH_X9_findReadings a ls pc vs → va_P D vwCl (wM cyI cyZ a x) H → va_D A (wM cyI cyZ a x) → va_S A s.heap H locs → W p l e (headSpec ts_X9_findReadings ({ frames := 3, cells := 0, slots := 0, locals := 69 } : Room)).room s m args below meth c H locs 0 0 (MQ below (QcV D cyI cyZ A (wM cyI cyZ a σ')) args s 0 0 A) (F0 m pc ls [])) (x1 : Int32) (x2 : Int32) (ls : Array Slot) (H : Heap) (locs : List Loc) (hgo : goL B_X9_findReadings (n + 1) 9 σ [x1, x2] = some q) (hl : lv_has ls 4 [(0, .ref (a 0)), (1, .int x1), (2, .int x2)]) (hP : va_P D vwCl (wM cyI cyZ a σ) H) (hD : va_D A (wM cyI cyZ a σ)) (hS : va_S A s.heap H locs) : W p l e (headSpec ts_X9_findReadings ({ frames := 3, cells := 0, slots := 0, locals := 69 } : Room)).room s m args below meth c H locs 0 0 (MQ below (QcV D cyI cyZ A (wM cyI cyZ a σ')) args s 0 0 A) (F0 m 9 ls []) := by
  obtain ⟨hx, hb, hr, hml, hown, hts, hK, hN, hlocks⟩ := hC
  have hown : s.vm.findClass RX9 = some m.cls := hown
  obtain ⟨yy, hF, hgo⟩ := goL_step (by decide) hgo
  have hF : B_X9_findReadings_9 σ x1 x2 = some yy := hF
  unfold B_X9_findReadings_9 at hF
  refine lv_iload_n hx hb dX9_findReadings_9 rfl (lv_at hl 2 rfl) ?_
  refine lv_aload_n hx hb dX9_findReadings_10 rfl (lv_at hl 0 rfl) ?_
  refine va_get (D := D) (ci := 9) (v := .int (σ 0 13)) (C := RX9) (T := TX9) (N := 34) hx hb hts inlX9 hown hK hP 0 gM_0 rfl 13 (by decide) (hts _ mw_360) (fun _ h9 => h9) rfl dX9_findReadings_11 ?_
  refine lv_icmp_ge (tgt := 27) hx hb dX9_findReadings_14 (by decide) (fun c1 => ?_) (fun c1 => ?_)
  · rw [if_pos c1] at hF
    refine lv_iconst (v := (0 : Int32)) hx hb dX9_findReadings_27 (by decide) ?_
    refine lv_istore_n (lv' := [(2, .int (0 : Int32)), (0, .ref (a 0)), (1, .int x1)]) hx hb dX9_findReadings_28 rfl hl (by decide) rfl (fun ls hl => ?_)
    cases hF
    exact ih _ _ _ _ _ _ hgo (Or.inr (Or.inr (Or.inl ⟨rfl, _, _, rfl, lv_sub hl [1, 2, 0] rfl⟩))) hP hD hS
  · rw [if_neg c1] at hF
    refine lv_iload_n hx hb dX9_findReadings_17 rfl (lv_at hl 1 rfl) ?_
    refine lv_iconst (v := (3 : Int32)) hx hb dX9_findReadings_18 (by decide) ?_
    refine lv_imul hx hb dX9_findReadings_19 ?_
    refine lv_istore_n (lv' := [(1, .int (x1 * (3 : Int32))), (0, .ref (a 0)), (2, .int x2)]) hx hb dX9_findReadings_20 rfl hl (by decide) rfl (fun ls hl => ?_)
    refine lv_iinc (v := (x2 + (1 : Int32))) (lv' := [(2, .int (x2 + (1 : Int32))), (1, .int (x1 * (3 : Int32))), (0, .ref (a 0))]) hx hb dX9_findReadings_21 hl (k := 2) rfl rfl (by decide) rfl (fun ls hl => ?_)
    refine lv_goto (tgt := 9) hx hb dX9_findReadings_24 (by decide) ?_
    cases hF
    exact ih _ _ _ _ _ _ hgo (Or.inr (Or.inl ⟨rfl, _, _, rfl, lv_sub hl [2, 1, 0] rfl⟩)) hP hD hS
set_option maxHeartbeats 4000000 in
set_option maxRecDepth 100000 in
theorem wl_X9_findReadings_29 (σ : Mem) (hC : CX p c cX9_findReadings meth none s m args yX9_findReadings.cls 4 D cyI cyZ) (hq : extV q = some σ') (n : Nat) (ih : ∀ (pc : Nat) (x : Mem) (vs : List Int32) (ls : Array Slot) (H : Heap) (locs : List Loc), goL B_X9_findReadings n pc x vs = some q → SH_X9_findReadings a ls pc vs → va_P D vwCl (wM cyI cyZ a x) H → va_D A (wM cyI cyZ a x) → va_S A s.heap H locs → W p l e (headSpec ts_X9_findReadings ({ frames := 3, cells := 0, slots := 0, locals := 69 } : Room)).room s m args below meth c H locs 0 0 (MQ below (QcV D cyI cyZ A (wM cyI cyZ a σ')) args s 0 0 A) (F0 m pc ls [])) (x1 : Int32) (x2 : Int32) (ls : Array Slot) (H : Heap) (locs : List Loc) (hgo : goL B_X9_findReadings (n + 1) 29 σ [x1, x2] = some q) (hl : lv_has ls 4 [(0, .ref (a 0)), (1, .int x1), (2, .int x2)]) (hP : va_P D vwCl (wM cyI cyZ a σ) H) (hD : va_D A (wM cyI cyZ a σ)) (hS : va_S A s.heap H locs) : W p l e (headSpec ts_X9_findReadings ({ frames := 3, cells := 0, slots := 0, locals := 69 } : Room)).room s m args below meth c H locs 0 0 (MQ below (QcV D cyI cyZ A (wM cyI cyZ a σ')) args s 0 0 A) (F0 m 29 ls []) := by
  obtain ⟨hx, hb, hr, hml, hown, hts, hK, hN, hlocks⟩ := hC
  have hown : s.vm.findClass RX9 = some m.cls := hown
  obtain ⟨yy, hF, hgo⟩ := goL_step (by decide) hgo
  have hF : B_X9_findReadings_29 σ x1 x2 = some yy := hF
  unfold B_X9_findReadings_29 at hF
  refine lv_iload_n hx hb dX9_findReadings_29 rfl (lv_at hl 2 rfl) ?_
  refine lv_iload_n hx hb dX9_findReadings_30 rfl (lv_at hl 1 rfl) ?_
  refine lv_icmp_ge (tgt := 88) hx hb dX9_findReadings_31 (by decide) (fun c1 => ?_) (fun c1 => ?_)
  · rw [if_pos c1] at hF
    refine lv_iconst (v := (0 : Int32)) hx hb dX9_findReadings_88 (by decide) ?_
    refine lv_istore_n (lv' := [(2, .int (0 : Int32)), (0, .ref (a 0)), (1, .int x1)]) hx hb dX9_findReadings_89 rfl hl (by decide) rfl (fun ls hl => ?_)
    cases hF
    exact ih _ _ _ _ _ _ hgo (Or.inr (Or.inr (Or.inr (Or.inl ⟨rfl, _, rfl, lv_sub hl [1, 0] rfl⟩)))) hP hD hS
  · rw [if_neg c1] at hF
    refine lv_aload_n hx hb dX9_findReadings_34 rfl (lv_at hl 0 rfl) ?_
    refine lv_iload_n hx hb dX9_findReadings_35 rfl (lv_at hl 2 rfl) ?_
    obtain ⟨p2, e3, hF⟩ := Option.bind_eq_some_iff.mp hF
    refine z_callVI (w' := (wM cyI cyZ a p2.2)) (As := [.int x2]) (rest := []) ⟨hx, hb, hml, hown, hts⟩ (c_X9_takeWay l D cyI cyZ a A σ x2 p2.1 p2.2 e3) (cwV 1 hts (gd_V mw_534 mw_535 mw_536 mw_5 mw_537) rfl rfl rfl (by decide +kernel) ⟨Nat.le_of_ble_eq_true rfl, Nat.le_of_ble_eq_true rfl⟩) hK hN hP hD hS 9 0 rfl rfl gM_0 rfl hl.1 rfl (Nat.le_of_ble_eq_true rfl) dX9_findReadings_36 ⟨Nat.zero_le _, Nat.zero_le _⟩ (fun H locs hP hD hS => ?_)
    refine lv_if_eq (tgt := 82) hx hb dX9_findReadings_39 (by decide) (fun c4 => ?_) (fun c4 => ?_)
    · rw [if_pos c4] at hF
      refine lv_iinc (v := (x2 + (1 : Int32))) (lv' := [(2, .int (x2 + (1 : Int32))), (0, .ref (a 0)), (1, .int x1)]) hx hb dX9_findReadings_82 hl (k := 2) rfl rfl (by decide) rfl (fun ls hl => ?_)
      refine lv_goto (tgt := 29) hx hb dX9_findReadings_85 (by decide) ?_
      cases hF
      exact ih _ _ _ _ _ _ hgo (Or.inr (Or.inr (Or.inl ⟨rfl, _, _, rfl, lv_sub hl [1, 2, 0] rfl⟩))) hP hD hS
    · rw [if_neg c4] at hF
      refine lv_aload_n hx hb dX9_findReadings_42 rfl (lv_at hl 0 rfl) ?_
      obtain ⟨p5, e6, hF⟩ := Option.bind_eq_some_iff.mp hF
      refine z_callVI (w' := (wM cyI cyZ a p5.2)) (As := []) (rest := []) ⟨hx, hb, hml, hown, hts⟩ (c_X9_reads l D cyI cyZ a A p2.2  p5.1 p5.2 e6) (cwV 0 hts (gd_V mw_538 mw_539 mw_540 mw_5 mw_541) rfl rfl rfl (by decide +kernel) ⟨Nat.le_of_ble_eq_true rfl, Nat.le_of_ble_eq_true rfl⟩) hK hN hP hD hS 9 0 rfl rfl gM_0 rfl hl.1 rfl (Nat.le_of_ble_eq_true rfl) dX9_findReadings_43 ⟨Nat.zero_le _, Nat.zero_le _⟩ (fun H locs hP hD hS => ?_)
      refine lv_if_eq (tgt := 82) hx hb dX9_findReadings_46 (by decide) (fun c7 => ?_) (fun c7 => ?_)
      · rw [if_pos c7] at hF
        refine lv_iinc (v := (x2 + (1 : Int32))) (lv' := [(2, .int (x2 + (1 : Int32))), (0, .ref (a 0)), (1, .int x1)]) hx hb dX9_findReadings_82 hl (k := 2) rfl rfl (by decide) rfl (fun ls hl => ?_)
        refine lv_goto (tgt := 29) hx hb dX9_findReadings_85 (by decide) ?_
        cases hF
        exact ih _ _ _ _ _ _ hgo (Or.inr (Or.inr (Or.inl ⟨rfl, _, _, rfl, lv_sub hl [1, 2, 0] rfl⟩))) hP hD hS
      · rw [if_neg c7] at hF
        refine lv_aload_n hx hb dX9_findReadings_49 rfl (lv_at hl 0 rfl) ?_
        refine va_get (D := D) (ci := 9) (v := .ref (a 15)) (C := RX9) (T := TX9) (N := 34) hx hb hts inlX9 hown hK hP 0 gM_0 rfl 16 (by decide) (hts _ mw_131) (fun _ h9 => h9) rfl dX9_findReadings_50 ?_
        refine lv_aload_n hx hb dX9_findReadings_53 rfl (lv_at hl 0 rfl) ?_
        refine va_get (D := D) (ci := 9) (v := .int (p5.2 0 22)) (C := RX9) (T := TX9) (N := 34) hx hb hts inlX9 hown hK hP 0 gM_0 rfl 22 (by decide) (hts _ mw_528) (fun _ h9 => h9) rfl dX9_findReadings_54 ?_
        refine lv_iload_n hx hb dX9_findReadings_57 rfl (lv_at hl 2 rfl) ?_
        obtain ⟨σ8, e9, hF⟩ := Option.bind_eq_some_iff.mp hF
        refine z_ist (wM cyI cyZ a) hx hb hK hP hD hS 15 gM_15 sM_15 e9 dX9_findReadings_58 (fun H locs hP hD hS => ?_)
        refine lv_aload_n hx hb dX9_findReadings_59 rfl (lv_at hl 0 rfl) ?_
        refine va_get (D := D) (ci := 9) (v := .ref (a 16)) (C := RX9) (T := TX9) (N := 34) hx hb hts inlX9 hown hK hP 0 gM_0 rfl 17 (by decide) (hts _ mw_132) (fun _ h9 => h9) rfl dX9_findReadings_60 ?_
        refine lv_aload_n hx hb dX9_findReadings_63 rfl (lv_at hl 0 rfl) ?_
        refine va_get (D := D) (ci := 9) (v := .int (σ8 0 22)) (C := RX9) (T := TX9) (N := 34) hx hb hts inlX9 hown hK hP 0 gM_0 rfl 22 (by decide) (hts _ mw_528) (fun _ h9 => h9) rfl dX9_findReadings_64 ?_
        refine lv_aload_n hx hb dX9_findReadings_67 rfl (lv_at hl 0 rfl) ?_
        refine va_get (D := D) (ci := 9) (v := .int (σ8 0 27)) (C := RX9) (T := TX9) (N := 34) hx hb hts inlX9 hown hK hP 0 gM_0 rfl 27 (by decide) (hts _ mw_533) (fun _ h9 => h9) rfl dX9_findReadings_68 ?_
        obtain ⟨σ10, e11, hF⟩ := Option.bind_eq_some_iff.mp hF
        refine z_ist (wM cyI cyZ a) hx hb hK hP hD hS 16 gM_16 sM_16 e11 dX9_findReadings_71 (fun H locs hP hD hS => ?_)
        refine lv_aload_n hx hb dX9_findReadings_72 rfl (lv_at hl 0 rfl) ?_
        refine lv_dup hx hb dX9_findReadings_73 rfl ?_
        refine va_get (D := D) (ci := 9) (v := .int (σ10 0 22)) (C := RX9) (T := TX9) (N := 34) hx hb hts inlX9 hown hK hP 0 gM_0 rfl 22 (by decide) (hts _ mw_528) (fun _ h9 => h9) rfl dX9_findReadings_74 ?_
        refine lv_iconst (v := (1 : Int32)) hx hb dX9_findReadings_77 (by decide) ?_
        refine lv_iadd hx hb dX9_findReadings_78 ?_
        obtain ⟨σ12, e13, hF⟩ := Option.bind_eq_some_iff.mp hF
        refine va_put (D := D) (ci := 9) (v := .int ((σ10 0 22) + (1 : Int32))) (ty := .int) (C := RX9) (T := TX9) (N := 34) hx hb hts inlX9 tyX9 tyX9_ok nmX9 hown hK hP hD hS 0 gM_0 rfl 22 (by decide) (hts _ mw_528) (fun _ h9 => h9) rfl (by decide +kernel) rfl rfl (Nat.le_of_ble_eq_true rfl) dX9_findReadings_79 (fun H locs hP hD hS => ?_)
        rw [sM_0_22, Option.some.inj e13] at hP hD
        refine lv_iinc (v := (x2 + (1 : Int32))) (lv' := [(2, .int (x2 + (1 : Int32))), (0, .ref (a 0)), (1, .int x1)]) hx hb dX9_findReadings_82 hl (k := 2) rfl rfl (by decide) rfl (fun ls hl => ?_)
        refine lv_goto (tgt := 29) hx hb dX9_findReadings_85 (by decide) ?_
        cases hF
        exact ih _ _ _ _ _ _ hgo (Or.inr (Or.inr (Or.inl ⟨rfl, _, _, rfl, lv_sub hl [1, 2, 0] rfl⟩))) hP hD hS
set_option maxHeartbeats 4000000 in
set_option maxRecDepth 100000 in
theorem wl_X9_findReadings_90 (σ : Mem) (hC : CX p c cX9_findReadings meth none s m args yX9_findReadings.cls 4 D cyI cyZ) (hq : extV q = some σ') (n : Nat) (ih : ∀ (pc : Nat) (x : Mem) (vs : List Int32) (ls : Array Slot) (H : Heap) (locs : List Loc), goL B_X9_findReadings n pc x vs = some q → SH_X9_findReadings a ls pc vs → va_P D vwCl (wM cyI cyZ a x) H → va_D A (wM cyI cyZ a x) → va_S A s.heap H locs → W p l e (headSpec ts_X9_findReadings ({ frames := 3, cells := 0, slots := 0, locals := 69 } : Room)).room s m args below meth c H locs 0 0 (MQ below (QcV D cyI cyZ A (wM cyI cyZ a σ')) args s 0 0 A) (F0 m pc ls [])) (x2 : Int32) (ls : Array Slot) (H : Heap) (locs : List Loc) (hgo : goL B_X9_findReadings (n + 1) 90 σ [x2] = some q) (hl : lv_has ls 4 [(0, .ref (a 0)), (2, .int x2)]) (hP : va_P D vwCl (wM cyI cyZ a σ) H) (hD : va_D A (wM cyI cyZ a σ)) (hS : va_S A s.heap H locs) : W p l e (headSpec ts_X9_findReadings ({ frames := 3, cells := 0, slots := 0, locals := 69 } : Room)).room s m args below meth c H locs 0 0 (MQ below (QcV D cyI cyZ A (wM cyI cyZ a σ')) args s 0 0 A) (F0 m 90 ls []) := by
  obtain ⟨hx, hb, hr, hml, hown, hts, hK, hN, hlocks⟩ := hC
  have hown : s.vm.findClass RX9 = some m.cls := hown
  obtain ⟨yy, hF, hgo⟩ := goL_step (by decide) hgo
  have hF : B_X9_findReadings_90 σ x2 = some yy := hF
  unfold B_X9_findReadings_90 at hF
  refine lv_iload_n hx hb dX9_findReadings_90 rfl (lv_at hl 1 rfl) ?_
  refine lv_sipush (v := (900 : Int32)) hx hb dX9_findReadings_91 (by decide) ?_
  refine lv_icmp_gt (tgt := 110) hx hb dX9_findReadings_94 (by decide) (fun c1 => ?_) (fun c1 => ?_)
  · rw [if_pos c1] at hF
    refine lv_iconst (v := (0 : Int32)) hx hb dX9_findReadings_110 (by decide) ?_
    refine lv_istore_n (lv' := [(2, .int (0 : Int32)), (0, .ref (a 0))]) hx hb dX9_findReadings_111 rfl hl (by decide) rfl (fun ls hl => ?_)
    cases hF
    exact ih _ _ _ _ _ _ hgo (Or.inr (Or.inr (Or.inr (Or.inr (Or.inl ⟨rfl, _, rfl, lv_sub hl [1, 0] rfl⟩))))) hP hD hS
  · rw [if_neg c1] at hF
    refine lv_aload_n hx hb dX9_findReadings_97 rfl (lv_at hl 0 rfl) ?_
    refine va_get (D := D) (ci := 9) (v := .ref (a 17)) (C := RX9) (T := TX9) (N := 34) hx hb hts inlX9 hown hK hP 0 gM_0 rfl 18 (by decide) (hts _ mw_133) (fun _ h9 => h9) rfl dX9_findReadings_98 ?_
    refine lv_iload_n hx hb dX9_findReadings_101 rfl (lv_at hl 1 rfl) ?_
    refine lv_iconst (v := (0 : Int32)) hx hb dX9_findReadings_102 (by decide) ?_
    obtain ⟨σ2, e3, hF⟩ := Option.bind_eq_some_iff.mp hF
    refine z_ist (wM cyI cyZ a) hx hb hK hP hD hS 17 gM_17 sM_17 e3 dX9_findReadings_103 (fun H locs hP hD hS => ?_)
    refine lv_iinc (v := (x2 + (1 : Int32))) (lv' := [(2, .int (x2 + (1 : Int32))), (0, .ref (a 0))]) hx hb dX9_findReadings_104 hl (k := 1) rfl rfl (by decide) rfl (fun ls hl => ?_)
    refine lv_goto (tgt := 90) hx hb dX9_findReadings_107 (by decide) ?_
    cases hF
    exact ih _ _ _ _ _ _ hgo (Or.inr (Or.inr (Or.inr (Or.inl ⟨rfl, _, rfl, lv_sub hl [1, 0] rfl⟩)))) hP hD hS
set_option maxHeartbeats 4000000 in
set_option maxRecDepth 100000 in
theorem wl_X9_findReadings_112 (σ : Mem) (hC : CX p c cX9_findReadings meth none s m args yX9_findReadings.cls 4 D cyI cyZ) (hq : extV q = some σ') (n : Nat) (ih : ∀ (pc : Nat) (x : Mem) (vs : List Int32) (ls : Array Slot) (H : Heap) (locs : List Loc), goL B_X9_findReadings n pc x vs = some q → SH_X9_findReadings a ls pc vs → va_P D vwCl (wM cyI cyZ a x) H → va_D A (wM cyI cyZ a x) → va_S A s.heap H locs → W p l e (headSpec ts_X9_findReadings ({ frames := 3, cells := 0, slots := 0, locals := 69 } : Room)).room s m args below meth c H locs 0 0 (MQ below (QcV D cyI cyZ A (wM cyI cyZ a σ')) args s 0 0 A) (F0 m pc ls [])) (x2 : Int32) (ls : Array Slot) (H : Heap) (locs : List Loc) (hgo : goL B_X9_findReadings (n + 1) 112 σ [x2] = some q) (hl : lv_has ls 4 [(0, .ref (a 0)), (2, .int x2)]) (hP : va_P D vwCl (wM cyI cyZ a σ) H) (hD : va_D A (wM cyI cyZ a σ)) (hS : va_S A s.heap H locs) : W p l e (headSpec ts_X9_findReadings ({ frames := 3, cells := 0, slots := 0, locals := 69 } : Room)).room s m args below meth c H locs 0 0 (MQ below (QcV D cyI cyZ A (wM cyI cyZ a σ')) args s 0 0 A) (F0 m 112 ls []) := by
  obtain ⟨hx, hb, hr, hml, hown, hts, hK, hN, hlocks⟩ := hC
  have hown : s.vm.findClass RX9 = some m.cls := hown
  obtain ⟨yy, hF, hgo⟩ := goL_step (by decide) hgo
  have hF : B_X9_findReadings_112 σ x2 = some yy := hF
  unfold B_X9_findReadings_112 at hF
  refine lv_iload_n hx hb dX9_findReadings_112 rfl (lv_at hl 1 rfl) ?_
  refine lv_aload_n hx hb dX9_findReadings_113 rfl (lv_at hl 0 rfl) ?_
  refine va_get (D := D) (ci := 9) (v := .int (σ 0 22)) (C := RX9) (T := TX9) (N := 34) hx hb hts inlX9 hown hK hP 0 gM_0 rfl 22 (by decide) (hts _ mw_528) (fun _ h9 => h9) rfl dX9_findReadings_114 ?_
  refine lv_icmp_ge (tgt := 143) hx hb dX9_findReadings_117 (by decide) (fun c1 => ?_) (fun c1 => ?_)
  · rw [if_pos c1] at hF
    refine lv_iconst (v := (1 : Int32)) hx hb dX9_findReadings_143 (by decide) ?_
    refine lv_istore_n (lv' := [(2, .int (1 : Int32)), (0, .ref (a 0))]) hx hb dX9_findReadings_144 rfl hl (by decide) rfl (fun ls hl => ?_)
    cases hF
    exact ih _ _ _ _ _ _ hgo (Or.inr (Or.inr (Or.inr (Or.inr (Or.inr (Or.inl ⟨rfl, _, rfl, lv_sub hl [1, 0] rfl⟩)))))) hP hD hS
  · rw [if_neg c1] at hF
    refine lv_aload_n hx hb dX9_findReadings_120 rfl (lv_at hl 0 rfl) ?_
    refine va_get (D := D) (ci := 9) (v := .ref (a 17)) (C := RX9) (T := TX9) (N := 34) hx hb hts inlX9 hown hK hP 0 gM_0 rfl 18 (by decide) (hts _ mw_133) (fun _ h9 => h9) rfl dX9_findReadings_121 ?_
    refine lv_aload_n hx hb dX9_findReadings_124 rfl (lv_at hl 0 rfl) ?_
    refine va_get (D := D) (ci := 9) (v := .ref (a 16)) (C := RX9) (T := TX9) (N := 34) hx hb hts inlX9 hown hK hP 0 gM_0 rfl 17 (by decide) (hts _ mw_132) (fun _ h9 => h9) rfl dX9_findReadings_125 ?_
    refine lv_iload_n hx hb dX9_findReadings_128 rfl (lv_at hl 1 rfl) ?_
    obtain ⟨v2, e3, hF⟩ := Option.bind_eq_some_iff.mp hF
    refine z_ild hx hb hK hP 16 gM_16 e3 dX9_findReadings_129 ?_
    refine lv_iconst (v := (1 : Int32)) hx hb dX9_findReadings_130 (by decide) ?_
    refine lv_iadd hx hb dX9_findReadings_131 ?_
    refine lv_dup2_11 hx hb dX9_findReadings_132 rfl rfl ?_
    obtain ⟨v4, e5, hF⟩ := Option.bind_eq_some_iff.mp hF
    refine z_ild hx hb hK hP 17 gM_17 e5 dX9_findReadings_133 ?_
    refine lv_iconst (v := (1 : Int32)) hx hb dX9_findReadings_134 (by decide) ?_
    refine lv_iadd hx hb dX9_findReadings_135 ?_
    obtain ⟨σ6, e7, hF⟩ := Option.bind_eq_some_iff.mp hF
    refine z_ist (wM cyI cyZ a) hx hb hK hP hD hS 17 gM_17 sM_17 e7 dX9_findReadings_136 (fun H locs hP hD hS => ?_)
    refine lv_iinc (v := (x2 + (1 : Int32))) (lv' := [(2, .int (x2 + (1 : Int32))), (0, .ref (a 0))]) hx hb dX9_findReadings_137 hl (k := 1) rfl rfl (by decide) rfl (fun ls hl => ?_)
    refine lv_goto (tgt := 112) hx hb dX9_findReadings_140 (by decide) ?_
    cases hF
    exact ih _ _ _ _ _ _ hgo (Or.inr (Or.inr (Or.inr (Or.inr (Or.inl ⟨rfl, _, rfl, lv_sub hl [1, 0] rfl⟩))))) hP hD hS
set_option maxHeartbeats 4000000 in
set_option maxRecDepth 100000 in
theorem wl_X9_findReadings_145 (σ : Mem) (hC : CX p c cX9_findReadings meth none s m args yX9_findReadings.cls 4 D cyI cyZ) (hq : extV q = some σ') (n : Nat) (ih : ∀ (pc : Nat) (x : Mem) (vs : List Int32) (ls : Array Slot) (H : Heap) (locs : List Loc), goL B_X9_findReadings n pc x vs = some q → SH_X9_findReadings a ls pc vs → va_P D vwCl (wM cyI cyZ a x) H → va_D A (wM cyI cyZ a x) → va_S A s.heap H locs → W p l e (headSpec ts_X9_findReadings ({ frames := 3, cells := 0, slots := 0, locals := 69 } : Room)).room s m args below meth c H locs 0 0 (MQ below (QcV D cyI cyZ A (wM cyI cyZ a σ')) args s 0 0 A) (F0 m pc ls [])) (x2 : Int32) (ls : Array Slot) (H : Heap) (locs : List Loc) (hgo : goL B_X9_findReadings (n + 1) 145 σ [x2] = some q) (hl : lv_has ls 4 [(0, .ref (a 0)), (2, .int x2)]) (hP : va_P D vwCl (wM cyI cyZ a σ) H) (hD : va_D A (wM cyI cyZ a σ)) (hS : va_S A s.heap H locs) : W p l e (headSpec ts_X9_findReadings ({ frames := 3, cells := 0, slots := 0, locals := 69 } : Room)).room s m args below meth c H locs 0 0 (MQ below (QcV D cyI cyZ A (wM cyI cyZ a σ')) args s 0 0 A) (F0 m 145 ls []) := by
  obtain ⟨hx, hb, hr, hml, hown, hts, hK, hN, hlocks⟩ := hC
  have hown : s.vm.findClass RX9 = some m.cls := hown
  obtain ⟨yy, hF, hgo⟩ := goL_step (by decide) hgo
  have hF : B_X9_findReadings_145 σ x2 = some yy := hF
  unfold B_X9_findReadings_145 at hF
  refine lv_iload_n hx hb dX9_findReadings_145 rfl (lv_at hl 1 rfl) ?_
  refine lv_sipush (v := (900 : Int32)) hx hb dX9_findReadings_146 (by decide) ?_
  refine lv_icmp_gt (tgt := 175) hx hb dX9_findReadings_149 (by decide) (fun c1 => ?_) (fun c1 => ?_)
  · rw [if_pos c1] at hF
    refine lv_iconst (v := (0 : Int32)) hx hb dX9_findReadings_175 (by decide) ?_
    refine lv_istore_n (lv' := [(2, .int (0 : Int32)), (0, .ref (a 0))]) hx hb dX9_findReadings_176 rfl hl (by decide) rfl (fun ls hl => ?_)
    cases hF
    exact ih _ _ _ _ _ _ hgo (Or.inr (Or.inr (Or.inr (Or.inr (Or.inr (Or.inr (⟨rfl, _, rfl, lv_sub hl [1, 0] rfl⟩))))))) hP hD hS
  · rw [if_neg c1] at hF
    refine lv_aload_n hx hb dX9_findReadings_152 rfl (lv_at hl 0 rfl) ?_
    refine va_get (D := D) (ci := 9) (v := .ref (a 17)) (C := RX9) (T := TX9) (N := 34) hx hb hts inlX9 hown hK hP 0 gM_0 rfl 18 (by decide) (hts _ mw_133) (fun _ h9 => h9) rfl dX9_findReadings_153 ?_
    refine lv_iload_n hx hb dX9_findReadings_156 rfl (lv_at hl 1 rfl) ?_
    refine lv_dup2_11 hx hb dX9_findReadings_157 rfl rfl ?_
    obtain ⟨v2, e3, hF⟩ := Option.bind_eq_some_iff.mp hF
    refine z_ild hx hb hK hP 17 gM_17 e3 dX9_findReadings_158 ?_
    refine lv_aload_n hx hb dX9_findReadings_159 rfl (lv_at hl 0 rfl) ?_
    refine va_get (D := D) (ci := 9) (v := .ref (a 17)) (C := RX9) (T := TX9) (N := 34) hx hb hts inlX9 hown hK hP 0 gM_0 rfl 18 (by decide) (hts _ mw_133) (fun _ h9 => h9) rfl dX9_findReadings_160 ?_
    refine lv_iload_n hx hb dX9_findReadings_163 rfl (lv_at hl 1 rfl) ?_
    refine lv_iconst (v := (1 : Int32)) hx hb dX9_findReadings_164 (by decide) ?_
    refine lv_isub hx hb dX9_findReadings_165 ?_
    obtain ⟨v4, e5, hF⟩ := Option.bind_eq_some_iff.mp hF
    refine z_ild hx hb hK hP 17 gM_17 e5 dX9_findReadings_166 ?_
    refine lv_iadd hx hb dX9_findReadings_167 ?_
    obtain ⟨σ6, e7, hF⟩ := Option.bind_eq_some_iff.mp hF
    refine z_ist (wM cyI cyZ a) hx hb hK hP hD hS 17 gM_17 sM_17 e7 dX9_findReadings_168 (fun H locs hP hD hS => ?_)
    refine lv_iinc (v := (x2 + (1 : Int32))) (lv' := [(2, .int (x2 + (1 : Int32))), (0, .ref (a 0))]) hx hb dX9_findReadings_169 hl (k := 1) rfl rfl (by decide) rfl (fun ls hl => ?_)
    refine lv_goto (tgt := 145) hx hb dX9_findReadings_172 (by decide) ?_
    cases hF
    exact ih _ _ _ _ _ _ hgo (Or.inr (Or.inr (Or.inr (Or.inr (Or.inr (Or.inl ⟨rfl, _, rfl, lv_sub hl [1, 0] rfl⟩)))))) hP hD hS
set_option maxHeartbeats 4000000 in
set_option maxRecDepth 100000 in
theorem wl_X9_findReadings_177 (σ : Mem) (hC : CX p c cX9_findReadings meth none s m args yX9_findReadings.cls 4 D cyI cyZ) (hq : extV q = some σ') (n : Nat) (ih : ∀ (pc : Nat) (x : Mem) (vs : List Int32) (ls : Array Slot) (H : Heap) (locs : List Loc), goL B_X9_findReadings n pc x vs = some q → SH_X9_findReadings a ls pc vs → va_P D vwCl (wM cyI cyZ a x) H → va_D A (wM cyI cyZ a x) → va_S A s.heap H locs → W p l e (headSpec ts_X9_findReadings ({ frames := 3, cells := 0, slots := 0, locals := 69 } : Room)).room s m args below meth c H locs 0 0 (MQ below (QcV D cyI cyZ A (wM cyI cyZ a σ')) args s 0 0 A) (F0 m pc ls [])) (x2 : Int32) (ls : Array Slot) (H : Heap) (locs : List Loc) (hgo : goL B_X9_findReadings (n + 1) 177 σ [x2] = some q) (hl : lv_has ls 4 [(0, .ref (a 0)), (2, .int x2)]) (hP : va_P D vwCl (wM cyI cyZ a σ) H) (hD : va_D A (wM cyI cyZ a σ)) (hS : va_S A s.heap H locs) : W p l e (headSpec ts_X9_findReadings ({ frames := 3, cells := 0, slots := 0, locals := 69 } : Room)).room s m args below meth c H locs 0 0 (MQ below (QcV D cyI cyZ A (wM cyI cyZ a σ')) args s 0 0 A) (F0 m 177 ls []) := by
  obtain ⟨hx, hb, hr, hml, hown, hts, hK, hN, hlocks⟩ := hC
  have hown : s.vm.findClass RX9 = some m.cls := hown
  obtain ⟨yy, hF, hgo⟩ := goL_step (by decide) hgo
  have hF : B_X9_findReadings_177 σ x2 = some yy := hF
  unfold B_X9_findReadings_177 at hF
  refine lv_iload_n hx hb dX9_findReadings_177 rfl (lv_at hl 1 rfl) ?_
  refine lv_aload_n hx hb dX9_findReadings_178 rfl (lv_at hl 0 rfl) ?_
  refine va_get (D := D) (ci := 9) (v := .int (σ 0 22)) (C := RX9) (T := TX9) (N := 34) hx hb hts inlX9 hown hK hP 0 gM_0 rfl 22 (by decide) (hts _ mw_528) (fun _ h9 => h9) rfl dX9_findReadings_179 ?_
  refine lv_icmp_ge (tgt := 242) hx hb dX9_findReadings_182 (by decide) (fun c1 => ?_) (fun c1 => ?_)
  · rw [if_pos c1] at hF
    cases hF
    obtain rfl := extV_ret hq (goL_ret hgo)
    exact z_vret hx hb hr hlocks hK hP hD hS dX9_findReadings_242
  · rw [if_neg c1] at hF
    refine lv_aload_n hx hb dX9_findReadings_185 rfl (lv_at hl 0 rfl) ?_
    refine va_get (D := D) (ci := 9) (v := .ref (a 17)) (C := RX9) (T := TX9) (N := 34) hx hb hts inlX9 hown hK hP 0 gM_0 rfl 18 (by decide) (hts _ mw_133) (fun _ h9 => h9) rfl dX9_findReadings_186 ?_
    refine lv_aload_n hx hb dX9_findReadings_189 rfl (lv_at hl 0 rfl) ?_
    refine va_get (D := D) (ci := 9) (v := .ref (a 16)) (C := RX9) (T := TX9) (N := 34) hx hb hts inlX9 hown hK hP 0 gM_0 rfl 17 (by decide) (hts _ mw_132) (fun _ h9 => h9) rfl dX9_findReadings_190 ?_
    refine lv_iload_n hx hb dX9_findReadings_193 rfl (lv_at hl 1 rfl) ?_
    obtain ⟨v2, e3, hF⟩ := Option.bind_eq_some_iff.mp hF
    refine z_ild hx hb hK hP 16 gM_16 e3 dX9_findReadings_194 ?_
    obtain ⟨v4, e5, hF⟩ := Option.bind_eq_some_iff.mp hF
    refine z_ild hx hb hK hP 17 gM_17 e5 dX9_findReadings_195 ?_
    refine lv_istore_n (lv' := [(3, .int v4), (0, .ref (a 0)), (2, .int x2)]) hx hb dX9_findReadings_196 rfl hl (by decide) rfl (fun ls hl => ?_)
    refine lv_aload_n hx hb dX9_findReadings_197 rfl (lv_at hl 1 rfl) ?_
    refine va_get (D := D) (ci := 9) (v := .ref (a 13)) (C := RX9) (T := TX9) (N := 34) hx hb hts inlX9 hown hK hP 0 gM_0 rfl 14 (by decide) (hts _ mw_129) (fun _ h9 => h9) rfl dX9_findReadings_198 ?_
    refine lv_iload_n hx hb dX9_findReadings_201 rfl (lv_at hl 0 rfl) ?_
    refine lv_aload_n hx hb dX9_findReadings_202 rfl (lv_at hl 1 rfl) ?_
    refine va_get (D := D) (ci := 9) (v := .ref (a 15)) (C := RX9) (T := TX9) (N := 34) hx hb hts inlX9 hown hK hP 0 gM_0 rfl 16 (by decide) (hts _ mw_131) (fun _ h9 => h9) rfl dX9_findReadings_203 ?_
    refine lv_iload_n hx hb dX9_findReadings_206 rfl (lv_at hl 2 rfl) ?_
    obtain ⟨v6, e7, hF⟩ := Option.bind_eq_some_iff.mp hF
    refine z_ild hx hb hK hP 15 gM_15 e7 dX9_findReadings_207 ?_
    obtain ⟨σ8, e9, hF⟩ := Option.bind_eq_some_iff.mp hF
    refine z_ist (wM cyI cyZ a) hx hb hK hP hD hS 13 gM_13 sM_13 e9 dX9_findReadings_208 (fun H locs hP hD hS => ?_)
    refine lv_aload_n hx hb dX9_findReadings_209 rfl (lv_at hl 1 rfl) ?_
    refine va_get (D := D) (ci := 9) (v := .ref (a 14)) (C := RX9) (T := TX9) (N := 34) hx hb hts inlX9 hown hK hP 0 gM_0 rfl 15 (by decide) (hts _ mw_130) (fun _ h9 => h9) rfl dX9_findReadings_210 ?_
    refine lv_iload_n hx hb dX9_findReadings_213 rfl (lv_at hl 0 rfl) ?_
    refine lv_aload_n hx hb dX9_findReadings_214 rfl (lv_at hl 1 rfl) ?_
    refine va_get (D := D) (ci := 9) (v := .ref (a 16)) (C := RX9) (T := TX9) (N := 34) hx hb hts inlX9 hown hK hP 0 gM_0 rfl 17 (by decide) (hts _ mw_132) (fun _ h9 => h9) rfl dX9_findReadings_215 ?_
    refine lv_iload_n hx hb dX9_findReadings_218 rfl (lv_at hl 2 rfl) ?_
    obtain ⟨v10, e11, hF⟩ := Option.bind_eq_some_iff.mp hF
    refine z_ild hx hb hK hP 16 gM_16 e11 dX9_findReadings_219 ?_
    obtain ⟨σ12, e13, hF⟩ := Option.bind_eq_some_iff.mp hF
    refine z_ist (wM cyI cyZ a) hx hb hK hP hD hS 14 gM_14 sM_14 e13 dX9_findReadings_220 (fun H locs hP hD hS => ?_)
    refine lv_aload_n hx hb dX9_findReadings_221 rfl (lv_at hl 1 rfl) ?_
    refine va_get (D := D) (ci := 9) (v := .ref (a 17)) (C := RX9) (T := TX9) (N := 34) hx hb hts inlX9 hown hK hP 0 gM_0 rfl 18 (by decide) (hts _ mw_133) (fun _ h9 => h9) rfl dX9_findReadings_222 ?_
    refine lv_aload_n hx hb dX9_findReadings_225 rfl (lv_at hl 1 rfl) ?_
    refine va_get (D := D) (ci := 9) (v := .ref (a 16)) (C := RX9) (T := TX9) (N := 34) hx hb hts inlX9 hown hK hP 0 gM_0 rfl 17 (by decide) (hts _ mw_132) (fun _ h9 => h9) rfl dX9_findReadings_226 ?_
    refine lv_iload_n hx hb dX9_findReadings_229 rfl (lv_at hl 2 rfl) ?_
    obtain ⟨v14, e15, hF⟩ := Option.bind_eq_some_iff.mp hF
    refine z_ild hx hb hK hP 16 gM_16 e15 dX9_findReadings_230 ?_
    refine lv_dup2_11 hx hb dX9_findReadings_231 rfl rfl ?_
    obtain ⟨v16, e17, hF⟩ := Option.bind_eq_some_iff.mp hF
    refine z_ild hx hb hK hP 17 gM_17 e17 dX9_findReadings_232 ?_
    refine lv_iconst (v := (1 : Int32)) hx hb dX9_findReadings_233 (by decide) ?_
    refine lv_iadd hx hb dX9_findReadings_234 ?_
    obtain ⟨σ18, e19, hF⟩ := Option.bind_eq_some_iff.mp hF
    refine z_ist (wM cyI cyZ a) hx hb hK hP hD hS 17 gM_17 sM_17 e19 dX9_findReadings_235 (fun H locs hP hD hS => ?_)
    refine lv_iinc (v := (x2 + (1 : Int32))) (lv' := [(2, .int (x2 + (1 : Int32))), (3, .int v4), (0, .ref (a 0))]) hx hb dX9_findReadings_236 hl (k := 2) rfl rfl (by decide) rfl (fun ls hl => ?_)
    refine lv_goto (tgt := 177) hx hb dX9_findReadings_239 (by decide) ?_
    cases hF
    exact ih _ _ _ _ _ _ hgo (Or.inr (Or.inr (Or.inr (Or.inr (Or.inr (Or.inr (⟨rfl, _, rfl, lv_sub hl [2, 0] rfl⟩))))))) hP hD hS
theorem wk_X9_findReadings (hC : CX p c cX9_findReadings meth none s m args yX9_findReadings.cls 4 D cyI cyZ) (hq : extV q = some σ') : ∀ (n : Nat), ∀ (pc : Nat) (x : Mem) (vs : List Int32) (ls : Array Slot) (H : Heap) (locs : List Loc), goL B_X9_findReadings n pc x vs = some q → SH_X9_findReadings a ls pc vs → va_P D vwCl (wM cyI cyZ a x) H → va_D A (wM cyI cyZ a x) → va_S A s.heap H locs → W p l e (headSpec ts_X9_findReadings ({ frames := 3, cells := 0, slots := 0, locals := 69 } : Room)).room s m args below meth c H locs 0 0 (MQ below (QcV D cyI cyZ A (wM cyI cyZ a σ')) args s 0 0 A) (F0 m pc ls []) := by
  intro n
  induction n with
  | zero => intro pc x vs ls H locs h; exact absurd h (by simp [goL])
  | succ n ih =>
    intro pc x vs ls H locs hgo hsh hP hD hS
    rcases hsh with ⟨rfl, rfl, hl⟩ | ⟨rfl, x1, x2, rfl, hl⟩ | ⟨rfl, x1, x2, rfl, hl⟩ | ⟨rfl, x2, rfl, hl⟩ | ⟨rfl, x2, rfl, hl⟩ | ⟨rfl, x2, rfl, hl⟩ | ⟨rfl, x2, rfl, hl⟩
    · exact wl_X9_findReadings_0 x hC hq n ih  ls H locs hgo hl hP hD hS
    · exact wl_X9_findReadings_9 x hC hq n ih x1 x2 ls H locs hgo hl hP hD hS
    · exact wl_X9_findReadings_29 x hC hq n ih x1 x2 ls H locs hgo hl hP hD hS
    · exact wl_X9_findReadings_90 x hC hq n ih x2 ls H locs hgo hl hP hD hS
    · exact wl_X9_findReadings_112 x hC hq n ih x2 ls H locs hgo hl hP hD hS
    · exact wl_X9_findReadings_145 x hC hq n ih x2 ls H locs hgo hl hP hD hS
    · exact wl_X9_findReadings_177 x hC hq n ih x2 ls H locs hgo hl hP hD hS
end
theorem c_X9_findReadings (l : Launch) (D : va_G) (cyI cyZ : ClassId) (a : Nat → Nat) (A : Nat → Prop) (σ : Mem) (σ' : Mem) (hF : F_X9_findReadings σ  = some σ') : CtV l yX9_findReadings ts_X9_findReadings ({ frames := 3, cells := 0, slots := 0, locals := 69 } : Room) [.ref (a 0)] D cyI cyZ A (wM cyI cyZ a σ) (wM cyI cyZ a σ') := by
  refine CtV.of (cc := cX9_findReadings) (maxL := 4) (ret := none) (by decide) rfl (Nat.le_of_ble_eq_true rfl) ?_
  intro p e s m below meth c ls hC hP hD hl
  obtain ⟨q, hq, hr1⟩ := Option.bind_eq_some_iff.mp hF
  obtain ⟨n, hn⟩ := finL_some hq
  exact wk_X9_findReadings hC hr1 n 0 _ _ ls _ _ hn (Or.inl ⟨rfl, rfl, hl⟩) hP hD va_S.rf
abbrev ts_X9_have : List Cond := .code yX9_have cX9_have 2 (some .boolean) :: wsL_law
set_option maxHeartbeats 4000000 in
set_option maxRecDepth 100000 in
theorem c_X9_have (l : Launch) (D : va_G) (cyI cyZ : ClassId) (a : Nat → Nat) (A : Nat → Prop) (σ : Mem) (x1 : Int32) (r : Int32) (σ' : Mem) (hF : F_X9_have σ x1 = some (r, σ')) : CtI l yX9_have ts_X9_have ({ frames := 4, cells := 0, slots := 0, locals := 92 } : Room) [.ref (a 0), .int x1] D cyI cyZ A (wM cyI cyZ a σ) (wM cyI cyZ a σ') r := by
  refine CtI.of (cc := cX9_have) (maxL := 2) (ret := (some .boolean)) (by decide) rfl (Nat.le_of_ble_eq_true rfl) ?_
  intro p e s m below meth c ls hC hP hD hl
  obtain ⟨hx, hb, hr, hml, hown, hts, hK, hN, hlocks⟩ := hC
  have hown : s.vm.findClass RX9 = some m.cls := hown
  have hS : va_S A s.heap s.heap [] := va_S.rf
  have hl : lv_has ls 2 [(0, .ref (a 0)), (1, .int x1)] := hl
  unfold F_X9_have at hF
  refine lv_aload_n hx hb dX9_have_0 rfl (lv_at hl 0 rfl) ?_
  obtain ⟨σ1, e2, hF⟩ := Option.bind_eq_some_iff.mp hF
  refine z_callVV (w' := (wM cyI cyZ a σ1)) (As := []) (rest := []) ⟨hx, hb, hml, hown, hts⟩ (c_X9_findReadings l D cyI cyZ a A σ  σ1 e2) (cwV 0 hts (gd_V mw_529 mw_530 mw_531 mw_5 mw_532) rfl rfl rfl (by decide +kernel) ⟨Nat.le_of_ble_eq_true rfl, Nat.le_of_ble_eq_true rfl⟩) hK hN hP hD hS 9 0 rfl rfl gM_0 rfl hl.1 rfl (Nat.le_of_ble_eq_true rfl) dX9_have_1 ⟨Nat.zero_le _, Nat.zero_le _⟩ (fun H locs hP hD hS => ?_)
  refine lv_iload_n hx hb dX9_have_4 rfl (lv_at hl 1 rfl) ?_
  refine lv_if_lt (tgt := 16) hx hb dX9_have_5 (by decide) (fun c3 => ?_) (fun c3 => ?_)
  · rw [if_pos c3] at hF
    refine lv_iconst (v := (0 : Int32)) hx hb dX9_have_16 (by decide) ?_
    cases hF
    exact z_zret hx hb hr hlocks hK hP hD hS rfl dX9_have_17
  · rw [if_neg c3] at hF
    refine lv_iload_n hx hb dX9_have_8 rfl (lv_at hl 1 rfl) ?_
    refine lv_aload_n hx hb dX9_have_9 rfl (lv_at hl 0 rfl) ?_
    refine va_get (D := D) (ci := 9) (v := .int (σ1 0 22)) (C := RX9) (T := TX9) (N := 34) hx hb hts inlX9 hown hK hP 0 gM_0 rfl 22 (by decide) (hts _ mw_528) (fun _ h9 => h9) rfl dX9_have_10 ?_
    refine lv_icmp_lt (tgt := 18) hx hb dX9_have_13 (by decide) (fun c4 => ?_) (fun c4 => ?_)
    · rw [if_pos c4] at hF
      refine lv_aload_n hx hb dX9_have_18 rfl (lv_at hl 0 rfl) ?_
      refine lv_aload_n hx hb dX9_have_19 rfl (lv_at hl 0 rfl) ?_
      refine va_get (D := D) (ci := 9) (v := .ref (a 13)) (C := RX9) (T := TX9) (N := 34) hx hb hts inlX9 hown hK hP 0 gM_0 rfl 14 (by decide) (hts _ mw_129) (fun _ h9 => h9) rfl dX9_have_20 ?_
      refine lv_iload_n hx hb dX9_have_23 rfl (lv_at hl 1 rfl) ?_
      obtain ⟨v5, e6, hF⟩ := Option.bind_eq_some_iff.mp hF
      refine z_ild hx hb hK hP 13 gM_13 e6 dX9_have_24 ?_
      obtain ⟨p7, e8, hF⟩ := Option.bind_eq_some_iff.mp hF
      refine z_callVI (w' := (wM cyI cyZ a p7.2)) (As := [.int v5]) (rest := []) ⟨hx, hb, hml, hown, hts⟩ (c_X9_takeWay l D cyI cyZ a A σ1 v5 p7.1 p7.2 e8) (cwV 1 hts (gd_V mw_534 mw_535 mw_536 mw_5 mw_537) rfl rfl rfl (by decide +kernel) ⟨Nat.le_of_ble_eq_true rfl, Nat.le_of_ble_eq_true rfl⟩) hK hN hP hD hS 9 0 rfl rfl gM_0 rfl hl.1 rfl (Nat.le_of_ble_eq_true rfl) dX9_have_25 ⟨Nat.zero_le _, Nat.zero_le _⟩ (fun H locs hP hD hS => ?_)
      refine lv_if_eq (tgt := 42) hx hb dX9_have_28 (by decide) (fun c9 => ?_) (fun c9 => ?_)
      · rw [if_pos c9] at hF
        refine lv_iconst (v := (0 : Int32)) hx hb dX9_have_42 (by decide) ?_
        cases hF
        exact z_zret hx hb hr hlocks hK hP hD hS rfl dX9_have_43
      · rw [if_neg c9] at hF
        refine lv_aload_n hx hb dX9_have_31 rfl (lv_at hl 0 rfl) ?_
        obtain ⟨p10, e11, hF⟩ := Option.bind_eq_some_iff.mp hF
        refine z_callVI (w' := (wM cyI cyZ a p10.2)) (As := []) (rest := []) ⟨hx, hb, hml, hown, hts⟩ (c_X9_reads l D cyI cyZ a A p7.2  p10.1 p10.2 e11) (cwV 0 hts (gd_V mw_538 mw_539 mw_540 mw_5 mw_541) rfl rfl rfl (by decide +kernel) ⟨Nat.le_of_ble_eq_true rfl, Nat.le_of_ble_eq_true rfl⟩) hK hN hP hD hS 9 0 rfl rfl gM_0 rfl hl.1 rfl (Nat.le_of_ble_eq_true rfl) dX9_have_32 ⟨Nat.zero_le _, Nat.zero_le _⟩ (fun H locs hP hD hS => ?_)
        refine lv_if_eq (tgt := 42) hx hb dX9_have_35 (by decide) (fun c12 => ?_) (fun c12 => ?_)
        · rw [if_pos c12] at hF
          refine lv_iconst (v := (0 : Int32)) hx hb dX9_have_42 (by decide) ?_
          cases hF
          exact z_zret hx hb hr hlocks hK hP hD hS rfl dX9_have_43
        · rw [if_neg c12] at hF
          refine lv_iconst (v := (1 : Int32)) hx hb dX9_have_38 (by decide) ?_
          refine lv_goto (tgt := 43) hx hb dX9_have_39 (by decide) ?_
          cases hF
          exact z_zret hx hb hr hlocks hK hP hD hS rfl dX9_have_43
    · rw [if_neg c4] at hF
      refine lv_iconst (v := (0 : Int32)) hx hb dX9_have_16 (by decide) ?_
      cases hF
      exact z_zret hx hb hr hlocks hK hP hD hS rfl dX9_have_17
abbrev ts_X9_readings : List Cond := .code yX9_readings cX9_readings 1 (some .int) :: wsL_law
set_option maxHeartbeats 4000000 in
set_option maxRecDepth 100000 in
theorem c_X9_readings (l : Launch) (D : va_G) (cyI cyZ : ClassId) (a : Nat → Nat) (A : Nat → Prop) (σ : Mem) (r : Int32) (σ' : Mem) (hF : F_X9_readings σ  = some (r, σ')) : CtI l yX9_readings ts_X9_readings ({ frames := 4, cells := 0, slots := 0, locals := 92 } : Room) [.ref (a 0)] D cyI cyZ A (wM cyI cyZ a σ) (wM cyI cyZ a σ') r := by
  refine CtI.of (cc := cX9_readings) (maxL := 1) (ret := (some .int)) (by decide) rfl (Nat.le_of_ble_eq_true rfl) ?_
  intro p e s m below meth c ls hC hP hD hl
  obtain ⟨hx, hb, hr, hml, hown, hts, hK, hN, hlocks⟩ := hC
  have hown : s.vm.findClass RX9 = some m.cls := hown
  have hS : va_S A s.heap s.heap [] := va_S.rf
  have hl : lv_has ls 1 [(0, .ref (a 0))] := hl
  unfold F_X9_readings at hF
  refine lv_aload_n hx hb dX9_readings_0 rfl (lv_at hl 0 rfl) ?_
  obtain ⟨σ1, e2, hF⟩ := Option.bind_eq_some_iff.mp hF
  refine z_callVV (w' := (wM cyI cyZ a σ1)) (As := []) (rest := []) ⟨hx, hb, hml, hown, hts⟩ (c_X9_findReadings l D cyI cyZ a A σ  σ1 e2) (cwV 0 hts (gd_V mw_529 mw_530 mw_531 mw_5 mw_532) rfl rfl rfl (by decide +kernel) ⟨Nat.le_of_ble_eq_true rfl, Nat.le_of_ble_eq_true rfl⟩) hK hN hP hD hS 9 0 rfl rfl gM_0 rfl hl.1 rfl (Nat.le_of_ble_eq_true rfl) dX9_readings_1 ⟨Nat.zero_le _, Nat.zero_le _⟩ (fun H locs hP hD hS => ?_)
  refine lv_aload_n hx hb dX9_readings_4 rfl (lv_at hl 0 rfl) ?_
  refine va_get (D := D) (ci := 9) (v := .int (σ1 0 22)) (C := RX9) (T := TX9) (N := 34) hx hb hts inlX9 hown hK hP 0 gM_0 rfl 22 (by decide) (hts _ mw_528) (fun _ h9 => h9) rfl dX9_readings_5 ?_
  cases hF
  exact z_iret hx hb hr hlocks hK hP hD hS dX9_readings_8
