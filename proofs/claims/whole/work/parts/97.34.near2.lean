/-! answers, back, agree -/
def KN (σ : Mem) : Prop := ∃ K, KA σ σ K
def AS (σ σ' : Mem) (k : Nat) : Prop := (∀ j, j < 16 → σ' j = σ j) ∧ FR σ' ∧ HC σ' ∧ KN σ' ∧ ∃ k', k' ≤ k + 24 ∧ RK k' σ'
theorem AS_of {σ x : Mem} {K k k' : Nat} (hC : CS σ x) (hA : KA σ x K) (hk : k' ≤ k + 24) (hR : RK k' x) : AS σ x k := by
  refine ⟨hC.1, hC.2.1, hC.2.2.1, ⟨K, ?_⟩, k', hk, hR⟩
  unfold KA
  rw [Sd_c hC.1, aw_c hC.1]
  exact hA
theorem dist (x : Int32) : F_X8_isDistance x = 0 ∨ ∃ d, d ≤ 1000 ∧ x = nI d ∧ F_X8_isDistance x = 1 := by
  unfold F_X8_isDistance
  by_cases h0 : x < 0
  · rw [if_pos h0]; exact Or.inl rfl
  rw [if_neg h0]
  by_cases h1 : 1000 < x
  · rw [if_pos h1]; exact Or.inl rfl
  rw [if_neg h1]
  obtain ⟨j, hj, rfl⟩ := i_nn x h0
  refine Or.inr ⟨j, ?_, rfl, rfl⟩
  rw [show (1000 : Int32) = nI 1000 from rfl, nI_ltI (by decide) hj] at h1
  omega
theorem dist9 (x : Int32) : F_X9_within x 0 1000 = F_X8_isDistance x := rfl
theorem wy_lt {σ : Mem} (hW : WF σ) {i : Nat} (hi : i < (Sd σ).length) : wy σ i < 6561 := by
  have hwR := Sd_Rd (List.mem_of_getElem? (wy_at hi))
  rw [Rd_rdB] at hwR
  have := List.mem_range.mp (List.mem_filter.mp hwR).1
  have := p3_le hW
  omega
theorem KA_q {σ x : Mem} {K : Nat} (h : sameQ σ x) (hA : KA σ σ K) : KA σ x K := ⟨hA.1, by rw [h 29 (by omega)]; exact hA.2.1, fun i hi => by rw [h 33 (by omega)]; exact hA.2.2 i hi⟩
theorem RK_c {x y : Mem} {k : Nat} (h30 : y 30 = x 30) (h32 : y 32 = x 32) (h : RK k x) : RK k y := by
  unfold RK
  rw [h30, h32]
  exact h
theorem op_answers {σ τ : Mem} (hW : WF σ) (hE : EQ σ τ) (hFR : FR σ) (hC : HC σ) (hK : KN σ) {k : Nat} (hR : RK k σ) (hk : k < 50000) (x : Int32) : ∃ r σ' τ', F_X8_answers σ x = some (r, σ') ∧ F_X9_answers τ x = some (r, τ') ∧ AS σ σ' k ∧ sameS τ τ' := by
  unfold F_X8_answers F_X9_answers
  rw [dist9]
  rcases dist x with h | ⟨d, hd, rfl, h⟩
  · refine ⟨-1, σ, τ, by rw [if_pos h], by rw [if_pos h], ⟨fun _ _ => rfl, hFR, hC, hK, k, by omega, hR⟩, sameS.rf⟩
  obtain ⟨K, hA⟩ := hK
  obtain ⟨n, hn, n1, n2⟩ := near_ex (cst σ) d (Sd σ).length
  obtain ⟨σ1, a1, a2, a3⟩ := near8 hW hFR hC hd hn n1 n2
  obtain ⟨x2, K', b1, b2, b3, b4, b5⟩ := lrn8 hW hn a3 (KA_q a2 hA)
  have hR2 : RK k x2 := RK_c (b5 30 (by decide) (by decide) (by decide)) (b5 32 (by decide) (by decide) (by decide)) (RK_c (a2 30 (by omega)) (a2 32 (by omega)) hR)
  obtain ⟨x3, c1, c2, c3⟩ := unl8 hW b3 b4 hR2 (by omega)
  obtain ⟨y, d1, d2, d3, d4⟩ := fnear9 hW hE hd hn n1 n2
  obtain ⟨y', e1, e2⟩ := unl9 hW hn d4 (sel := fun _ => true) (-1) 0 (fun z _ i _ => Or.inl ⟨by decide, rfl⟩)
  refine ⟨nI (uc (fun _ => true) (aw σ) n), x3, y', ?_, ?_, ?_, d2.tr ⟨fun k a b => e2 k (by omega), by rw [e2 0 (by decide)], by rw [e2 0 (by decide)]⟩⟩
  · rw [if_neg (by rw [h]; decide), a1, bind_some', b1, bind_some', c1, bind_some']
  · rw [if_neg (by rw [h]; decide), d1, bind_some', e1, bind_some']
  · exact AS_of (K := K') (b2.k (fun j hj => c2 j (by omega) (by omega) (by omega))) ⟨b3.1, by rw [c2 29 (by decide) (by decide) (by decide)]; exact b3.2.1, fun i hi => by rw [c2 33 (by decide) (by decide) (by decide)]; exact b3.2.2 i hi⟩ (by omega) c3
theorem ct3_two {P : Nat → Bool} {a b : Nat} (ha : a < 3) (hb : b < 3) (hab : a ≠ b) (h1 : P a = true) (h2 : P b = true) : 2 ≤ fb_ct P 3 := by
  have e : fb_ct P 3 = 0 + (if P 0 = true then 1 else 0) + (if P 1 = true then 1 else 0) + (if P 2 = true then 1 else 0) := rfl
  have : a = 0 ∨ a = 1 ∨ a = 2 := by omega
  have : b = 0 ∨ b = 1 ∨ b = 2 := by omega
  rcases ‹a = 0 ∨ a = 1 ∨ a = 2› with rfl | rfl | rfl <;> rcases ‹b = 0 ∨ b = 1 ∨ b = 2› with rfl | rfl | rfl <;> first | exact absurd rfl hab | (rw [e, if_pos h1, if_pos h2]; omega) | (rw [e, if_pos h2, if_pos h1]; omega)
theorem ct3_one {P : Nat → Bool} {c : Nat} (h : ∀ m, m < 3 → P m = true → m = c) : fb_ct P 3 ≤ 1 := by
  have e : fb_ct P 3 = 0 + (if P 0 = true then 1 else 0) + (if P 1 = true then 1 else 0) + (if P 2 = true then 1 else 0) := rfl
  rw [e]
  have h0 := h 0 (by decide)
  have h1 := h 1 (by decide)
  have h2 := h 2 (by decide)
  by_cases p0 : P 0 = true <;> by_cases p1 : P 1 = true <;> by_cases p2 : P 2 = true <;> simp only [p0, p1, p2, if_true, if_false, Bool.false_eq_true] <;> first | omega | (exfalso; have := h0 p0; have := h1 p1; omega) | (exfalso; have := h0 p0; have := h2 p2; omega) | (exfalso; have := h1 p1; have := h2 p2; omega)
noncomputable def sen (σ : Mem) (p n m : Nat) : Nat := fb_ct (fun m => decide (0 < uc (sl σ p m) (aw σ) n)) m
theorem mw_w {σ : Mem} {p i : Nat} (hn : num σ p = false) : mw σ p i = nI (dg (nt (σ 13 0)) (wy σ i) p) := by
  unfold mw
  rw [hn]
  rfl
theorem sen_pa {σ : Mem} {p n : Nat} (hn : num σ p = false) : (sen σ p n 3 ≤ 1 ↔ pa σ p n = false) := by
  have hg : ∀ i, dg (nt (σ 13 0)) (wy σ i) p < 3 := fun i => dg_lt _ _ _
  constructor
  · intro h
    cases hp : pa σ p n
    · rfl
    · exfalso
      have : ∃ i, i < n ∧ mw σ p i ≠ mw σ p 0 := by
        refine Classical.byContradiction (fun hno => ?_)
        have : al (fun i => decide (mw σ p i = mw σ p 0)) n = true := (al_iff n).mpr (fun i hi => decide_eq_true (Classical.byContradiction (fun e => hno ⟨i, hi, e⟩)))
        unfold pa at hp
        rw [this] at hp
        exact absurd hp (by decide)
      obtain ⟨i, hi, hne⟩ := this
      have := ct3_two (P := fun m => decide (0 < uc (sl σ p m) (aw σ) n)) (hg i) (hg 0) (fun e => hne (by rw [mw_w hn, mw_w hn, e])) (decide_eq_true (uc_pos.mpr ⟨i, hi, decide_eq_true (mw_w hn)⟩)) (decide_eq_true (uc_pos.mpr ⟨0, by omega, decide_eq_true (mw_w hn)⟩))
      unfold sen at h
      omega
  · intro h
    refine ct3_one (c := dg (nt (σ 13 0)) (wy σ 0) p) (fun m hm hP => ?_)
    obtain ⟨i, hi, hs⟩ := uc_pos.mp (of_decide_eq_true hP)
    have e1 : mw σ p i = nI m := of_decide_eq_true hs
    have : al (fun i => decide (mw σ p i = mw σ p 0)) n = true := by
      unfold pa at h
      cases ha : al (fun i => decide (mw σ p i = mw σ p 0)) n
      · rw [ha] at h; exact absurd h (by decide)
      · rfl
    have e2 : mw σ p i = mw σ p 0 := of_decide_eq_true ((al_iff n).mp this i hi)
    rw [e1, mw_w hn] at e2
    have := hg 0
    exact nI_inj (by omega) (by omega) e2
theorem pa_num {σ : Mem} {p n : Nat} (hn : num σ p = true) : pa σ p n = false := by
  unfold pa mw
  rw [hn]
  have : al (fun i => decide ((if true = true then (-1 : Int32) else nI (dg (nt (σ 13 0)) (wy σ i) p)) = if true = true then -1 else nI (dg (nt (σ 13 0)) (wy σ 0) p))) n = true := (al_iff n).mpr (fun i hi => by simp)
  rw [this]
  rfl
def bL9 (o : Option (Nat × Nat)) : Int32 := match o with
  | none => 0
  | some q => nI q.2
theorem bck9 {σ τ y : Mem} (hW : WF σ) (hE : EQ σ τ) {n : Nat} (hn : n ≤ (Sd σ).length) (hS : sameS τ y) (h13 : ∀ i, i < (Sd σ).length → y 13 i = nI (wy σ i)) (hLO : LO σ y n) : ∃ y', Rch B_X9_back 28 y [nI n, -5, 0, 0] 99999 y' [bB (bst σ n (nt (σ 13 0)))] ∧ sameS τ y' := by
  have hl := Sd_6561 hW
  have hP := P_le hW
  have ss : ∀ z : Mem, (∀ k, k ≠ 20 → z k = y k) → sameS τ z := fun z h => hS.tr ⟨fun k a b => h k (by omega), by rw [h 0 (by decide)], by rw [h 0 (by decide)]⟩
  have t13 : ∀ z : Mem, (∀ k, k ≠ 20 → z k = y k) → z 0 13 = nI (nt (σ 13 0)) := fun z h => ((ss z h).EQ hE).2.2.1.trans hP.2
  obtain ⟨x', vs', hr, g1, g2⟩ := Rch.loop0 (B := B_X9_back) (h := 28) (x := y) (vs := [nI n, bB (bst σ n 0), bL9 (bst σ n 0), nI 0]) (fun p z vs => vs = [nI n, bB (bst σ n p), bL9 (bst σ n p), nI p] ∧ ∀ k, k ≠ 20 → z k = y k) (nt (σ 13 0)) ⟨rfl, fun _ _ => rfl⟩ (fun p hp z vs hI => by
    obtain ⟨rfl, q1⟩ := hI
    have h28 : Rch B_X9_back 28 z [nI n, bB (bst σ n p), bL9 (bst σ n p), nI p] 46 z [nI n, bB (bst σ n p), bL9 (bst σ n p), nI p, nI 0, nI 0, nI 0] := by
      refine Rch.one (by decide) ?_
      show B_X9_back_28 z _ _ _ _ = _
      unfold B_X9_back_28
      rw [t13 z q1, if_neg (nI_ge hp (by omega))]
      rfl
    have l12 : ∀ z : Mem, (∀ k, k ≠ 20 → z k = y k) → ld 8 (z 12) (nI p) = some (σ 14 p) := fun z h => by rw [ld_at (by omega) (by decide), ((ss z h).EQ hE).2.2.2.1 p (by omega)]
    by_cases hnm : num σ p = true
    · have h14 : ¬ σ 14 p = 0 := by simpa [num] using hnm
      refine ⟨z, _, h28.tr (Rch.one (p' := 28) (x' := z) (vs' := [nI n, bB (bst σ n (p + 1)), bL9 (bst σ n (p + 1)), nI (p + 1)]) (by decide) ?_), rfl, q1⟩
      show B_X9_back_46 z _ _ _ _ _ _ _ = _
      unfold B_X9_back_46
      rw [if_neg (by decide), l12 z q1, bind_some', if_neg h14, if_pos (by decide), nI_1]
      conv => rhs; unfold bst
      rw [if_neg (by rw [pa_num hnm]; decide)]
    · have hnm' : num σ p = false := by simpa using hnm
      have h14 : σ 14 p = 0 := by simpa [num] using hnm
      obtain ⟨z', vs2, hr2, r1, r2⟩ := Rch.loop0 (B := B_X9_back) (h := 46) (x := z) (vs := [nI n, bB (bst σ n p), bL9 (bst σ n p), nI p, nI (sen σ p n 0), nI (Wst σ p n 0), nI 0]) (fun m z vs => vs = [nI n, bB (bst σ n p), bL9 (bst σ n p), nI p, nI (sen σ p n m), nI (Wst σ p n m), nI m] ∧ ∀ k, k ≠ 20 → z k = y k) 3 ⟨rfl, q1⟩ (fun m hm z vs hI => by
        obtain ⟨rfl, w1⟩ := hI
        obtain ⟨z', u1, u2⟩ := unl9 hW hn (y := z) (fun j hj => by rw [w1 19 (by decide)]; exact hLO j hj) (sel := sl σ p m) (nI p) (nI m) (fun v hv i hi => Or.inr ⟨nI_pos (by omega), _, mwa9 hW (t13 v (fun k hk => (hv k hk).trans (w1 k hk))) (by omega) (by rw [hv 13 (by decide), w1 13 (by decide)]; exact h13 i (by omega)) (wy_lt hW (by omega)) hp, by
          unfold sl
          rw [mw_w hnm', decide_eq_true_eq]⟩)
        have hu := uc_le (sel := sl σ p m) (a := aw σ) (n := n)
        have hw := Wst_le (σ := σ) (p := p) (n := n) m
        have es : sen σ p n (m + 1) = sen σ p n m + (if decide (0 < uc (sl σ p m) (aw σ) n) = true then 1 else 0) := rfl
        have ew : Wst σ p n (m + 1) = max (Wst σ p n m) (uc (sl σ p m) (aw σ) n) := rfl
        refine ⟨z', _, Rch.one (p' := 46) (x' := z') (vs' := [nI n, bB (bst σ n p), bL9 (bst σ n p), nI p, nI (sen σ p n (m + 1)), nI (Wst σ p n (m + 1)), nI (m + 1)]) (by decide) ?_, rfl, fun k hk => (u2 k hk).trans (w1 k hk)⟩
        show B_X9_back_46 z _ _ _ _ _ _ _ = _
        unfold B_X9_back_46
        rw [if_neg (show ¬ (3 : Int32) ≤ nI m from nI_ge (b := 3) hm (by decide)), l12 z w1, bind_some', if_pos h14, u1, bind_some']
        dsimp only
        rw [nI_1, nI_1, i0, nI_add]
        generalize uc (sl σ p m) (aw σ) n = u at hu es ew
        by_cases hu0 : 0 < u
        · rw [decide_eq_true hu0, if_pos rfl] at es
          rw [if_neg (show ¬ nI u ≤ nI 0 from nI_nle hu0 (by omega))]
          by_cases hle : u ≤ Wst σ p n m
          · rw [if_pos (nI_le hle (by omega)), es, ew, Nat.max_eq_left hle]
          · rw [if_neg (nI_ge (by omega) (by omega)), es, ew, Nat.max_eq_right (by omega)]
        · have : u = 0 := by omega
          subst this
          rw [if_neg (by decide)] at es
          rw [if_pos (show nI 0 ≤ nI 0 from nI_le (Nat.le_refl _) (by decide)), if_pos (nI_le (Nat.zero_le _) (by omega)), es, ew, Nat.max_eq_left (Nat.zero_le _)])
      rw [r1] at hr2
      refine ⟨z', _, h28.tr (Rch.tr hr2 (Rch.one (p' := 28) (x' := z') (vs' := [nI n, bB (bst σ n (p + 1)), bL9 (bst σ n (p + 1)), nI (p + 1)]) (by decide) ?_)), rfl, r2⟩
      show B_X9_back_46 z' _ _ _ _ _ _ _ = _
      unfold B_X9_back_46
      have hw := Wst_le (σ := σ) (p := p) (n := n) 3
      have hsp := sen_pa (σ := σ) (p := p) (n := n) hnm'
      have hs3 : sen σ p n 3 ≤ 3 := fb_ct_le _ _
      rw [if_pos (by decide), nI_1]
      conv => rhs; unfold bst
      by_cases hpa : pa σ p n = true
      · rw [if_pos hpa, if_neg (show ¬ nI (sen σ p n 3) ≤ (1 : Int32) from fun e => by
          have := (nI_leI (b := 1) (by omega) (by decide)).mp e
          rw [hsp.mp this] at hpa
          exact absurd hpa (by decide))]
        cases hb : bst σ n p with
        | none =>
          rw [if_pos (show bB none < 0 by decide)]
          rfl
        | some q =>
          have hq := bst_le p q hb
          dsimp only
          rw [if_neg (show ¬ bB (some q) < 0 from nI_pos (by omega))]
          by_cases hlt : Wst σ p n 3 < q.2
          · rw [if_pos hlt, if_neg (show ¬ bL9 (some q) ≤ nI (Wst σ p n 3) from nI_ge hlt (by omega))]
            rfl
          · rw [if_neg hlt, if_pos (show bL9 (some q) ≤ nI (Wst σ p n 3) from nI_le (by omega) (by omega))]
      · have hpa' : pa σ p n = false := by simpa using hpa
        rw [if_neg hpa, if_pos (show nI (sen σ p n 3) ≤ (1 : Int32) from nI_le (b := 1) (hsp.mpr hpa') (by decide))])
  refine ⟨x', Rch.tr hr ?_, ss x' g2⟩
  rw [g1]
  refine Rch.one (by decide) ?_
  show B_X9_back_28 x' _ _ _ _ = _
  unfold B_X9_back_28
  rw [t13 x' g2, if_pos (nI_le (Nat.le_refl _) (by omega))]
theorem op_back {σ τ : Mem} (hW : WF σ) (hE : EQ σ τ) (hFR : FR σ) (hC : HC σ) (hK : KN σ) {k : Nat} (hR : RK k σ) (hk : k < 50000) (x : Int32) : ∃ r σ' τ', F_X8_back σ x = some (r, σ') ∧ F_X9_back τ x = some (r, τ') ∧ AS σ σ' k ∧ sameS τ τ' := by
  rcases dist x with h | ⟨d, hd, rfl, h⟩
  · refine ⟨-1, σ, τ, by unfold F_X8_back; rw [if_pos h], fin_M (Rch.one (by decide) ?_), ⟨fun _ _ => rfl, hFR, hC, hK, k, by omega, hR⟩, sameS.rf⟩
    show B_X9_back_0 τ x = _
    unfold B_X9_back_0
    rw [dist9, if_pos h]
  obtain ⟨K, hA⟩ := hK
  obtain ⟨n, hn, n1, n2⟩ := near_ex (cst σ) d (Sd σ).length
  obtain ⟨σ1, a1, a2, a3⟩ := near8 hW hFR hC hd hn n1 n2
  obtain ⟨x2, K', b1, b2, b3, b4, b5⟩ := lrn8 hW hn a3 (KA_q a2 hA)
  have hR2 : RK k x2 := RK_c (b5 30 (by decide) (by decide) (by decide)) (b5 32 (by decide) (by decide) (by decide)) (RK_c (a2 30 (by omega)) (a2 32 (by omega)) hR)
  obtain ⟨x3, k', c1, c2, c3, c4⟩ := place8 hW b2 b3 b4 hR2 hk
  obtain ⟨y, d1, d2, d3, d4⟩ := fnear9 hW hE hd hn n1 n2
  obtain ⟨y', e1, e2⟩ := bck9 hW hE hn d2 d3 d4
  refine ⟨bB (bst σ n (nt (σ 13 0))), x3, y', ?_, fin_M (Rch.tr (Rch.one (p' := 28) (x' := y) (vs' := [nI n, -5, 0, 0]) (by decide) ?_) e1), ?_, e2⟩
  · unfold F_X8_back
    rw [if_neg (by rw [h]; decide), a1, bind_some', b1, bind_some', c1, bind_some']
  · show B_X9_back_0 τ _ = _
    unfold B_X9_back_0
    rw [dist9, if_neg (by rw [h]; decide), d1, bind_some']
  · exact AS_of (K := K') (b2.k (fun j hj => c2 j (by omega) (by omega) (by omega))) ⟨b3.1, by rw [c2 29 (by decide) (by decide) (by decide)]; exact b3.2.1, fun i hi => by rw [c2 33 (by decide) (by decide) (by decide)]; exact b3.2.2 i hi⟩ c3 c4
