/-- what a new MEANING must be, with a and b as numbers -/
def okA (σ : Mem) (s : Int32) (a b : Nat) (c : Int32) : Prop :=
  (s = nI 0 ∧ a < nt (σ 1 0)) ∨ (s = nI 1 ∧ a < nt (σ 1 0) ∧ b < nt (σ 2 a)) ∨ (s = nI 2 ∧ a < 4) ∨ (s = nI 3 ∧ a < nt (σ 1 0) ∧ b < nt (σ 2 a) ∧ small c) ∨ (s = nI 4 ∧ a < 3) ∨ s = nI 5
theorem b3 {σ : Option Int32} {x y : Int32} : (if x = 0 then if y = 0 then some (1 : Int32) else some 0 else some 0) = some 1 ∨ (if x = 0 then if y = 0 then some (1 : Int32) else some 0 else some 0) = some 0 := by
  by_cases hx : x = 0
  · by_cases hy : y = 0
    · exact Or.inl (by rw [if_pos hx, if_pos hy])
    · exact Or.inr (by rw [if_pos hx, if_neg hy])
  · exact Or.inr (by rw [if_neg hx])
theorem within_ab {a k : Nat} (ha : a < 2147483648) (hk : k < 2147483648) : (a ≤ k ∧ F_X9_within (nI a) 0 (nI k) = 1 ∧ ¬ nI k < nI a) ∨ (k < a ∧ F_X9_within (nI a) 0 (nI k) = 0 ∧ nI k < nI a) := by
  unfold F_X9_within
  rw [if_neg (nI_pos ha)]
  by_cases h : k < a
  · have h1 := nI_lt h ha
    exact Or.inr ⟨h, by rw [if_pos h1], h1⟩
  · have h1 : ¬ nI k < nI a := nI_nlt (by omega) hk
    exact Or.inl ⟨by omega, by rw [if_neg h1], h1⟩
theorem mean2 {σ τ : Mem} (hW : WFt σ) (hE : EQt σ τ) (s : Int32) {a b : Nat} (ha : a < 2147483648) (hb : b < 100) (c : Int32) : (okA σ s a b c ∧ F_X8_isMeaning σ s (nI a) (nI b) c = some 1 ∧ F_X9_mayMean τ s (nI a) (nI b) c = some 1) ∨ (F_X8_isMeaning σ s (nI a) (nI b) c = some 0 ∧ F_X9_mayMean τ s (nI a) (nI b) c = some 0) := by
  obtain ⟨⟨T, hT4, hT⟩, hC, -⟩ := id hW
  have nT : nt (σ 1 0) = T := by rw [hT, nt_nI (by omega)]
  unfold F_X8_isMeaning F_X9_mayMean okA
  by_cases s0 : s = 0
  · rw [if_pos s0, if_pos s0]
    rcases tab2 hW hE (nI a) with ⟨t, ht, ht4, e, h8, h9⟩ | ⟨_, h8, h9⟩
    · have := nI_inj ha (by omega) e
      subst this
      simp only [h8, h9, if_neg one_ne]
      rcases b3 (σ := none) (x := nI b) (y := c) with h | h
      · exact Or.inl ⟨Or.inl ⟨s0, ht⟩, h, h⟩
      · exact Or.inr ⟨h, h⟩
    · exact Or.inr ⟨by rw [if_pos h8], by rw [if_pos h9]⟩
  rw [if_neg s0, if_neg s0]
  by_cases s1 : s = 1
  · rw [if_pos s1, if_pos s1]
    rcases col2 hW hE (nI a) (nI b) with ⟨t, q, ht, ht4, e, hq, hq4, e2, h8, h9⟩ | ⟨_, h8, h9⟩
    · have e1 := nI_inj ha (by omega) e
      have e3 := nI_inj (by omega) (by omega) e2
      subst e1; subst e3
      simp only [h8, h9, bind_some', if_neg one_ne]
      by_cases hc : c = 0
      · exact Or.inl ⟨Or.inr (Or.inl ⟨s1, ht, hq⟩), by rw [if_pos hc], by rw [if_pos hc]⟩
      · exact Or.inr ⟨by rw [if_neg hc], by rw [if_neg hc]⟩
    · exact Or.inr ⟨by rw [h8, bind_some', if_pos rfl], by rw [h9, bind_some', if_pos rfl]⟩
  rw [if_neg s1, if_neg s1]
  by_cases s2 : s = 2
  · rw [if_pos s2, if_pos s2]
    rcases within_ab (k := 3) ha (by decide) with ⟨h, h9, h8⟩ | ⟨h, h9, h8⟩
    · have h9' : F_X9_within (nI a) 0 3 = 1 := h9
      have h8' : ¬ (3 : Int32) < nI a := h8
      rw [h9', if_neg one_ne, if_neg h8']
      rcases b3 (σ := none) (x := nI b) (y := c) with g | g
      · exact Or.inl ⟨Or.inr (Or.inr (Or.inl ⟨s2, by omega⟩)), g, g⟩
      · exact Or.inr ⟨g, g⟩
    · have h9' : F_X9_within (nI a) 0 3 = 0 := h9
      have h8' : (3 : Int32) < nI a := h8
      exact Or.inr ⟨by rw [if_pos h8'], by rw [h9', if_pos rfl]⟩
  rw [if_neg s2, if_neg s2]
  by_cases s3 : s = 3
  · rw [if_pos s3, if_pos s3]
    rcases col2 hW hE (nI a) (nI b) with ⟨t, q, ht, ht4, e, hq, hq4, e2, h8, h9⟩ | ⟨_, h8, h9⟩
    · have e1 := nI_inj ha (by omega) e
      have e3 := nI_inj (by omega) (by omega) e2
      subst e1; subst e3
      simp only [h8, h9, bind_some', if_neg one_ne]
      rcases isVal (x := c) with ⟨hs, g⟩ | ⟨hs, g⟩
      · have g' : F_X9_within c (-999) 999 = 1 := g
        exact Or.inl ⟨Or.inr (Or.inr (Or.inr (Or.inl ⟨s3, ht, hq, hs⟩))), by rw [g, if_neg one_ne], by rw [g', if_neg one_ne]⟩
      · have g' : F_X9_within c (-999) 999 = 0 := g
        exact Or.inr ⟨by rw [g, if_pos rfl], by rw [g', if_pos rfl]⟩
    · exact Or.inr ⟨by rw [h8, bind_some', if_pos rfl], by rw [h9, bind_some', if_pos rfl]⟩
  rw [if_neg s3, if_neg s3]
  by_cases s4 : s = 4
  · rw [if_pos s4, if_pos s4]
    rcases within_ab (k := 2) ha (by decide) with ⟨h, h9, h8⟩ | ⟨h, h9, h8⟩
    · have h9' : F_X9_within (nI a) 0 2 = 1 := h9
      have h8' : ¬ (2 : Int32) < nI a := h8
      rw [h9', if_neg one_ne, if_neg h8']
      rcases b3 (σ := none) (x := nI b) (y := c) with g | g
      · exact Or.inl ⟨Or.inr (Or.inr (Or.inr (Or.inr (Or.inl ⟨s4, by omega⟩)))), g, g⟩
      · exact Or.inr ⟨g, g⟩
    · have h9' : F_X9_within (nI a) 0 2 = 0 := h9
      have h8' : (2 : Int32) < nI a := h8
      exact Or.inr ⟨by rw [if_pos h8'], by rw [h9', if_pos rfl]⟩
  rw [if_neg s4, if_neg s4]
  by_cases s5 : s = 5
  · rw [if_pos s5]
    by_cases ha0 : nI a = 0
    · rw [if_pos ha0]
      rcases b3 (σ := none) (x := nI b) (y := c) with g | g
      · exact Or.inl ⟨Or.inr (Or.inr (Or.inr (Or.inr (Or.inr s5)))), g, g⟩
      · exact Or.inr ⟨g, g⟩
    · exact Or.inr ⟨by rw [if_neg ha0], by rw [if_neg ha0]⟩
  exact Or.inr ⟨by rw [if_neg s5], by rw [if_neg s5]⟩
def meaC (σ : Mem) (w k : Nat) (s a b c q : Int32) : Mem := st (st (st (st (st (st (st (qcM σ) 8 (3 * w + k) s) 9 (3 * w + k) a) 10 (3 * w + k) b) 11 (3 * w + k) c) 12 (3 * w + k) q) 7 w (nI (k + 1))) 6 0 (σ 6 0 + 1)
def meaM (τ : Mem) (w k : Nat) (s a b c q : Int32) : Mem := st (st (st (st (st (st τ 6 (3 * w + k) s) 7 (3 * w + k) a) 8 (3 * w + k) b) 9 (3 * w + k) c) 10 (3 * w + k) q) 5 w (nI (k + 1))
theorem mea8 {σ : Mem} {w k : Nat} {s a b c q : Int32} (hw : w < 40) (hk : σ 7 w = nI k) (hk3 : k < 3) : F_X7_addMeaning (qcM σ) (nI w) s a b c q = some (nI k, meaC σ w k s a b c q) := by
  have e : qcM σ 7 w = nI k := by rw [qcM_k (by decide) (by decide) (by decide)]; exact hk
  have e6 : qcM σ 6 0 = σ 6 0 := by rw [qcM_k (by decide) (by decide) (by decide)]
  unfold F_X7_addMeaning
  rw [ld_at hw (by decide), bind_some', e, spot8]
  simp (disch := omega) only [sto_at, bind_some', ld_at, st_ne, st_eq, e, e6, nI_1, upd_eq, nI_pred]
  rfl
theorem mea9 {τ : Mem} {w k : Nat} {s a b c q : Int32} (hw : w < 40) (hk : τ 5 w = nI k) (hk3 : k < 3) : ((ld 40 (τ 5) (nI w)).bind fun v10 =>
            (sto 120 6 τ (((3 : Int32) * nI w) + v10) s).bind fun σ12 =>
            (sto 120 7 σ12 (((3 : Int32) * nI w) + v10) a).bind fun σ14 =>
            (sto 120 8 σ14 (((3 : Int32) * nI w) + v10) b).bind fun σ16 =>
            (sto 120 9 σ16 (((3 : Int32) * nI w) + v10) c).bind fun σ18 =>
            (sto 120 10 σ18 (((3 : Int32) * nI w) + v10) q).bind fun σ20 =>
            (ld 40 (σ20 5) (nI w)).bind fun v22 =>
            (sto 40 5 σ20 (nI w) (v22 + (1 : Int32))).bind fun σ24 =>
            (ld 40 (σ24 5) (nI w)).bind fun v26 =>
            some ((v26 - (1 : Int32)), σ24)) = some (nI k, meaM τ w k s a b c q) := by
  rw [ld_at hw (by decide), bind_some', hk, l3, nI_add]
  simp (disch := omega) only [sto_at, bind_some', ld_at, st_ne, st_eq, hk, nI_1, upd_eq, nI_pred]
  rfl
