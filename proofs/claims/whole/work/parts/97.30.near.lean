/-! how many unlike values there are among the chosen -/
def sS (sel : Nat → Bool) (a : Nat → Int32) (i : Nat) (v : Int32) : Bool := !al (fun j => !(sel j && decide (a j = v))) i
def uc (sel : Nat → Bool) (a : Nat → Int32) (n : Nat) : Nat := fb_ct (fun i => sel i && !sS sel a i (a i)) n
theorem sS_0 {sel : Nat → Bool} {a : Nat → Int32} : sS sel a 0 = fun _ => false := rfl
theorem sS_s {sel : Nat → Bool} {a : Nat → Int32} {i : Nat} {v : Int32} : sS sel a (i + 1) v = (sS sel a i v || (sel i && decide (a i = v))) := by
  show (!(al _ i && !(sel i && decide (a i = v)))) = _
  unfold sS
  rw [Bool.not_and, Bool.not_not]
theorem uc_s {sel : Nat → Bool} {a : Nat → Int32} {i : Nat} : uc sel a (i + 1) = uc sel a i + (if (sel i && !sS sel a i (a i)) = true then 1 else 0) := rfl
theorem uc_le {sel : Nat → Bool} {a : Nat → Int32} {n : Nat} : uc sel a n ≤ n := fb_ct_le _ _
theorem sS_iff {sel : Nat → Bool} {a : Nat → Int32} {i : Nat} {v : Int32} : sS sel a i v = true ↔ ∃ j, j < i ∧ sel j = true ∧ a j = v := by
  induction i with
  | zero => exact ⟨fun h => by rw [sS_0] at h; exact absurd h (by simp), fun ⟨j, hj, _⟩ => absurd hj (by omega)⟩
  | succ i ih =>
    rw [sS_s, Bool.or_eq_true, ih, Bool.and_eq_true, decide_eq_true_eq]
    constructor
    · rintro (⟨j, hj, h⟩ | ⟨h1, h2⟩)
      · exact ⟨j, by omega, h⟩
      · exact ⟨i, by omega, h1, h2⟩
    · rintro ⟨j, hj, h⟩
      by_cases e : j = i
      · rw [e] at h; exact Or.inr h
      · exact Or.inl ⟨j, by omega, h⟩
theorem uc_pos {sel : Nat → Bool} {a : Nat → Int32} {n : Nat} : 0 < uc sel a n ↔ ∃ i, i < n ∧ sel i = true := by
  unfold uc
  rw [fb_ct_pos]
  constructor
  · rintro ⟨k, hk, h⟩
    rw [Bool.and_eq_true] at h
    exact ⟨k, hk, h.1⟩
  · rintro ⟨i, hi, h⟩
    obtain ⟨k, hk, hl⟩ := pk_least (fun k => sel k = true) ⟨i, h⟩
    refine ⟨k, ?_, ?_⟩
    · refine Classical.byContradiction (fun hno => hl i (by omega) h)
    · rw [hk, Bool.true_and]
      cases hs : sS sel a k (a k)
      · rfl
      · obtain ⟨j, hj, h1, -⟩ := sS_iff.mp hs
        exact absurd h1 (hl j hj)
theorem uc_cong {sel sel' : Nat → Bool} {a a' : Nat → Int32} {n : Nat} (h1 : ∀ i, i < n → sel i = sel' i) (h2 : ∀ i, i < n → a i = a' i) : uc sel a n = uc sel' a' n := by
  unfold uc
  refine fb_ct_cong (fun k hk => ?_)
  have : sS sel a k (a k) = sS sel' a' k (a' k) := by
    rw [Bool.eq_iff_iff, sS_iff, sS_iff]
    constructor
    · rintro ⟨j, hj, g1, g2⟩
      exact ⟨j, hj, by rw [← h1 j (by omega)]; exact g1, by rw [← h2 j (by omega), ← h2 k hk]; exact g2⟩
    · rintro ⟨j, hj, g1, g2⟩
      exact ⟨j, hj, by rw [h1 j (by omega)]; exact g1, by rw [h2 j (by omega), h2 k hk]; exact g2⟩
  rw [this, h1 k hk]
/-- the i-th READING's way, cost, answer -/
def wy (σ : Mem) (i : Nat) : Nat := ((Sd σ)[i]?).getD 0
theorem wy_at {σ : Mem} {i : Nat} (h : i < (Sd σ).length) : (Sd σ)[i]? = some (wy σ i) := by
  unfold wy
  rw [List.getElem?_eq_getElem h]
  rfl
def cst (σ : Mem) (i : Nat) : Nat := kC σ (nt (σ 13 0)) (wy σ i)
noncomputable def an (σ : Mem) (w : Nat) : Int32 := anS σ (fm σ w) (nt ((fm σ w).1 3))
noncomputable def aw (σ : Mem) (i : Nat) : Int32 := an σ (wy σ i)
theorem an_eq {σ : Mem} {w fr : Nat} (hs : SF σ (fm σ w) fr) (hf : fr < 2147483648) : an σ w = anS σ (fm σ w) fr := by
  unfold an
  rw [hs.2.1, nt_nI hf]
theorem an_c {σ σ' : Mem} (h : ∀ k, k < 16 → σ' k = σ k) : an σ' = an σ := by
  funext w
  unfold an
  rw [anS_c h, fm_c h]
theorem wy_c {σ σ' : Mem} (h : ∀ k, k < 16 → σ' k = σ k) : wy σ' = wy σ := by
  funext i
  unfold wy
  rw [Sd_c h]
theorem aw_c {σ σ' : Mem} (h : ∀ k, k < 16 → σ' k = σ k) : aw σ' = aw σ := by
  funext i
  unfold aw
  rw [an_c h, wy_c h]
theorem Sd_6561 {σ : Mem} (hW : WF σ) : (Sd σ).length ≤ 6561 := by rw [Sd_len hW]; exact Rd_len hW
theorem near_ex (c : Nat → Nat) (d len : Nat) : ∃ n, n ≤ len ∧ (∀ i, i < n → c i ≤ c 0 + d) ∧ (n = len ∨ c 0 + d < c n) := by
  obtain ⟨n, h1, h2⟩ := pk_least (fun n => n = len ∨ c 0 + d < c n) ⟨len, Or.inl rfl⟩
  refine ⟨n, ?_, fun i hi => ?_, h1⟩
  · exact Classical.byContradiction (fun hno => h2 len (by omega) (Or.inl rfl))
  · have := h2 i hi
    omega
/-- the class's keys are the READINGS -/
def K25 (σ x : Mem) : Prop := ∀ i, i < (Sd σ).length → x 25 i = nI (key σ (nt (σ 13 0)) (wy σ i))
/-- what the class's memory is while the READINGS are looked at -/
def CS (σ x : Mem) : Prop := (∀ k, k < 16 → x k = σ k) ∧ FR x ∧ HC x ∧ K25 σ x
theorem CS.h {σ x y : Mem} (h : CS σ x) (h2 : sameH x y) (hC : HC y) : CS σ y := ⟨fun k hk => (h2 k (by omega)).trans (h.1 k hk), FR_c h2.lo (h2 16 (by decide)) (h2 25 (by decide)) h.2.1, hC, fun i hi => by rw [h2 25 (by decide)]; exact h.2.2.2 i hi⟩
theorem CS.k {σ x y : Mem} (h : CS σ x) (h2 : ∀ k, k < 29 → y k = x k) : CS σ y := ⟨fun k hk => (h2 k (by omega)).trans (h.1 k hk), FR_c (fun k hk => h2 k (by omega)) (h2 16 (by decide)) (h2 25 (by decide)) h.2.1, HC_c (fun k hk => h2 k (by omega)) (h2 28 (by decide)) h.2.2.1, fun i hi => by rw [h2 25 (by decide)]; exact h.2.2.2 i hi⟩
theorem CS.g {σ x y : Mem} (h : CS σ x) (h2 : sameG x y) : CS σ y := ⟨fun k hk => (h2 k (by omega)).trans (h.1 k hk), FR_c (fun k hk => h2 k (by omega)) (h2 16 (by omega)) (h2 25 (by omega)) h.2.1, HC_c (fun k hk => h2 k (by omega)) (h2 28 (by omega)) h.2.2.1, fun i hi => by rw [h2 25 (by omega)]; exact h.2.2.2 i hi⟩
theorem near8 {σ : Mem} (hW : WF σ) (hFR : FR σ) (hC : HC σ) {d n : Nat} (hd : d ≤ 1000) (hn : n ≤ (Sd σ).length) (h1 : ∀ i, i < n → cst σ i ≤ cst σ 0 + d) (h2 : n = (Sd σ).length ∨ cst σ 0 + d < cst σ n) : ∃ σ1, F_X5_near σ (nI d) = some (nI n, σ1) ∧ sameQ σ σ1 ∧ CS σ σ1 := by
  obtain ⟨σ1, f1, f2, f3, f4, f5⟩ := refr8 hW hFR
  have hl := Sd_6561 hW
  have L1 := LK.q hC f2 f4 f5
  have hK : K25 σ σ1 := fun i hi => f5 i _ (by rw [List.getElem?_map, wy_at hi]; rfl)
  have hco : ∀ i, i < (Sd σ).length → F_X5_costAt σ1 (nI i) = some (nI (cst σ i)) := fun i hi => by
    have hkl := key_lt hW (w := wy σ i) (Nat.le_refl (nt (σ 13 0)))
    rw [cost8 (by omega) (hK i hi) (by omega), key_cost hW (Nat.le_refl _)]
    rfl
  have hc792 : ∀ i, cst σ i ≤ 792 := fun i => kC_792 hW _
  refine ⟨σ1, ?_, f2, L1.lo, L1.2.1, L1.2.2, hK⟩
  obtain ⟨y, vs', hr, g1, g2⟩ := Rch.loop0 (B := B_X5_near) (h := 6) (x := σ1) (vs := [nI d, nI 0]) (fun i y vs => vs = [nI d, nI i] ∧ y = σ1) n ⟨rfl, rfl⟩ (fun i hi y vs hI => by
    obtain ⟨rfl, rfl⟩ := hI
    refine ⟨_, _, Rch.one (p' := 6) (x' := y) (vs' := [nI d, nI (i + 1)]) (by decide) ?_, rfl, rfl⟩
    show B_X5_near_6 y _ _ = _
    unfold B_X5_near_6
    have := h1 i hi
    have := hc792 0
    rw [f4, if_neg (nI_ge (by omega) (by omega)), hco i (by omega), bind_some', show F_X5_costAt y 0 = some (nI (cst σ 0)) from hco 0 (by omega), bind_some', nI_add, if_neg (nI_nlt (by omega) (by omega)), nI_1])
  refine fin_M (Rch.tr (Rch.one (p' := 6) (x' := σ1) (vs' := [nI d, nI 0]) (by decide) ?_) (Rch.tr hr ?_))
  · show B_X5_near_0 σ _ = _
    unfold B_X5_near_0
    rw [f1, bind_some']
    rfl
  · rw [g1, g2]
    refine Rch.one (by decide) ?_
    show B_X5_near_6 σ1 _ _ = _
    unfold B_X5_near_6
    rw [f4]
    by_cases hnl : n = (Sd σ).length
    · rw [if_pos (nI_le (by omega) (by omega))]
    · have h3 := h2.resolve_left hnl
      have := hc792 n
      rw [if_neg (nI_ge (by omega) (by omega)), hco n (by omega), bind_some', show F_X5_costAt σ1 0 = some (nI (cst σ 0)) from hco 0 (by omega), bind_some', nI_add, if_pos (nI_lt h3 (by omega))]
/-- the answers that are known -/
def KA (σ x : Mem) (K : Nat) : Prop := K ≤ (Sd σ).length ∧ x 29 5 = nI K ∧ ∀ i, i < K → x 33 i = aw σ i
theorem learn8 {σ : Mem} (hW : WF σ) {n : Nat} (hn : n ≤ (Sd σ).length) : ∀ m x K, K + m = n → CS σ x → KA σ x K → ∃ x', Rch B_X0_learnAnswers 0 x [nI n] 0 x' [nI n] ∧ CS σ x' ∧ KA σ x' n ∧ ∀ k, 29 < k → k ≠ 33 → k ≠ 34 → x' k = x k := by
  have hl := Sd_6561 hW
  intro m
  induction m with
  | zero =>
    intro x K hK hC hA
    have : K = n := by omega
    subst this
    exact ⟨x, Rch.rf, hC, hA, fun _ _ _ _ => rfl⟩
  | succ m ih =>
    intro x K hK hC hA
    obtain ⟨a1, a2, a3⟩ := id hA
    obtain ⟨σ2, k1, k2, k3⟩ := form8 hW hC.1 (wy σ K)
    have C2 := hC.g k2
    obtain ⟨fr, hs⟩ := SF_of hW (Sd_Rd (List.mem_of_getElem? (wy_at (σ := σ) (i := K) (by omega))))
    obtain ⟨σ3, r1, r2, r3⟩ := ans8 (WF_c C2.1 hW) k3 (by rw [SF_c C2.1]; exact hs) C2.2.2.1
    have hfr : fr < 4 := by have := tabs_le hW.1; have := hs.1; omega
    rw [anS_c C2.1, ← an_eq hs (by omega)] at r1
    have C3 := C2.h r2 r3
    have e29 : σ3 29 5 = nI K := by rw [r2 29 (by decide), k2 29 (by omega)]; exact a2
    have C4 : CS σ (st (st σ3 33 K (aw σ K)) 29 5 (nI (K + 1))) := C3.k (fun k hk => by rw [st_ne (by omega), st_ne (by omega)])
    have A4 : KA σ (st (st σ3 33 K (aw σ K)) 29 5 (nI (K + 1))) (K + 1) := by
      refine ⟨by omega, by rw [st_eq, upd_eq], fun i hi => ?_⟩
      rw [st_ne (by decide), st_eq]
      by_cases e : i = K
      · rw [e, upd_eq]
      · rw [upd_ne e, r2 33 (by decide), k2 33 (by omega)]
        exact a3 i (by omega)
    obtain ⟨x', g1, g2, g3, g4⟩ := ih _ (K + 1) (by omega) C4 A4
    refine ⟨x', Rch.tr (Rch.one (by decide) ?_) g1, g2, g3, fun k hk hk2 hk3 => ?_⟩
    · show B_X0_learnAnswers_0 x _ = _
      unfold B_X0_learnAnswers_0 F_X5_formOf
      rw [a2, if_neg (nI_ge (by omega) (by omega)), ld_at (by omega) (by decide), bind_some', hC.2.2.2 K (by omega), k1, bind_some', bind_some', r1, bind_some', sto_at (by omega) (by decide), bind_some', st_ne (show (29 : Nat) ≠ 33 by decide)]
      dsimp only
      rw [e29, nI_1, bind_some']
      rfl
    · rw [g4 k hk hk2 hk3, st_ne (by omega), st_ne hk2, r2 k (by omega), k2 k (by omega)]
theorem lrn8 {σ x : Mem} (hW : WF σ) {n K : Nat} (hn : n ≤ (Sd σ).length) (hC : CS σ x) (hA : KA σ x K) : ∃ x' K', F_X0_learnAnswers x (nI n) = some x' ∧ CS σ x' ∧ KA σ x' K' ∧ n ≤ K' ∧ ∀ k, 29 < k → k ≠ 33 → k ≠ 34 → x' k = x k := by
  have hl := Sd_6561 hW
  have fin : ∀ y K', KA σ y K' → n ≤ K' → B_X0_learnAnswers_0 y (nI n) = some (99999, y, []) := fun y K' hy hk => by
    unfold B_X0_learnAnswers_0
    have := hy.1
    rw [hy.2.1, if_pos (nI_le hk (by omega))]
  by_cases h : n ≤ K
  · exact ⟨x, K, fin_V (vs' := []) (Rch.one (by decide) (fin x K hA h)), hC, hA, h, fun _ _ _ _ => rfl⟩
  · obtain ⟨x', g1, g2, g3, g4⟩ := learn8 hW hn (n - K) x K (by omega) hC hA
    exact ⟨x', n, fin_V (vs' := []) (Rch.tr g1 (Rch.one (by decide) (fin x' n g3 (Nat.le_refl _)))), g2, g3, Nat.le_refl _, g4⟩
/-- adding one answer, chosen or not -/
theorem NS_step {x' : Mem} {sel : Nat → Bool} {a : Nat → Int32} {i : Nat} {v : Int32} (hv : v = a i) (hs : sel i = true) (h : NS x' (if sS sel a i v = true then uc sel a i else uc sel a i + 1) (fun u => sS sel a i u || decide (u = v))) : NS x' (uc sel a (i + 1)) (sS sel a (i + 1)) := by
  subst hv
  have e1 : (fun u => sS sel a i u || decide (u = a i)) = sS sel a (i + 1) := funext (fun u => by
    rw [sS_s, hs, Bool.true_and]
    congr 1
    by_cases e : u = a i
    · simp [e]
    · simp [e, Ne.symm e])
  have e2 : (if sS sel a i (a i) = true then uc sel a i else uc sel a i + 1) = uc sel a (i + 1) := by
    rw [uc_s, hs]
    cases sS sel a i (a i) <;> rfl
  rw [e1, e2] at h
  exact h
theorem NS_skip {x : Mem} {sel : Nat → Bool} {a : Nat → Int32} {i : Nat} (hs : sel i = false) (h : NS x (uc sel a i) (sS sel a i)) : NS x (uc sel a (i + 1)) (sS sel a (i + 1)) := by
  have e1 : sS sel a (i + 1) = sS sel a i := funext (fun u => by rw [sS_s, hs]; simp)
  have e2 : uc sel a (i + 1) = uc sel a i := by rw [uc_s, hs]; simp
  rw [e1, e2]
  exact h
theorem unl8 {σ x : Mem} (hW : WF σ) {n K k : Nat} (hA : KA σ x K) (hn : n ≤ K) (hR : RK k x) (hk : k < 100000) : ∃ x', F_X0_unlikeAnswers x (nI n) = some (nI (uc (fun _ => true) (aw σ) n), x') ∧ (∀ j, j ≠ 30 → j ≠ 31 → j ≠ 32 → x' j = x j) ∧ RK (k + 1) x' := by
  have hl := Sd_6561 hW
  have hK := hA.1
  obtain ⟨x1, e1, e2, e3, e4⟩ := empty8 hR (by omega)
  obtain ⟨y, vs', hr, g1, g2, g3, g4⟩ := Rch.loop0 (B := B_X0_unlikeAnswers) (h := 9) (x := x1) (vs := [nI n, nI 0]) (fun i y vs => vs = [nI n, nI i] ∧ (∀ j, j ≠ 30 → j ≠ 31 → j ≠ 32 → y j = x j) ∧ RK (k + 1) y ∧ NS y (uc (fun _ => true) (aw σ) i) (sS (fun _ => true) (aw σ) i)) n ⟨rfl, fun j a _ _ => e2 j a, e3, e4⟩ (fun i hi y vs hI => by
    obtain ⟨rfl, h1, h2, h3⟩ := hI
    have hu := uc_le (sel := fun _ => true) (a := aw σ) (n := i)
    obtain ⟨y', q1, q2, q3, q4⟩ := add8 h3 (by omega) h2 (aw σ i)
    refine ⟨y', _, Rch.one (p' := 9) (x' := y') (vs' := [nI n, nI (i + 1)]) (by decide) ?_, rfl, fun j a b c => (q2 j a b c).trans (h1 j a b c), q3, NS_step rfl rfl q4⟩
    show B_X0_unlikeAnswers_9 y _ _ = _
    unfold B_X0_unlikeAnswers_9
    rw [if_neg (nI_ge hi (by omega)), ld_at (by omega) (by decide), bind_some', h1 33 (by decide) (by decide) (by decide), hA.2.2 i (by omega), q1, bind_some', nI_1])
  refine ⟨y, fin_M (Rch.tr (Rch.one (p' := 9) (x' := x1) (vs' := [nI n, nI 0]) (by decide) ?_) (Rch.tr hr ?_)), g2, g3⟩
  · show B_X0_unlikeAnswers_0 x _ = _
    unfold B_X0_unlikeAnswers_0
    rw [e1, bind_some']
    rfl
  · rw [g1]
    refine Rch.one (by decide) ?_
    show B_X0_unlikeAnswers_9 y _ _ = _
    unfold B_X0_unlikeAnswers_9 F_X4_size
    rw [if_pos (nI_le (Nat.le_refl _) (by omega)), g4.1]
