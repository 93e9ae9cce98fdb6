theorem one_ne : ¬ (1 : Int32) = 0 := by decide
theorem tab2 {σ τ : Mem} (hW : WFt σ) (hE : EQt σ τ) (x : Int32) : (∃ t, t < nt (σ 1 0) ∧ t < 4 ∧ x = nI t ∧ F_X6_hasTable σ x = 1 ∧ F_X9_isTable τ x = 1) ∨ ((∀ t, t < nt (σ 1 0) → x ≠ nI t) ∧ F_X6_hasTable σ x = 0 ∧ F_X9_isTable τ x = 0) := by
  obtain ⟨⟨T, hT4, hT⟩, -⟩ := id hW
  have e0 := hE.1
  have n1 : nt (σ 1 0) = T := by rw [hT, nt_nI (by omega)]
  rw [n1]
  rcases F8_hasTable hT hT4 x with ⟨t, ht, rfl, h8⟩ | ⟨ho, h8⟩
  · refine Or.inl ⟨t, ht, by omega, rfl, h8, ?_⟩
    rcases F9_isTable (e0.trans hT) hT4 (nI t) with ⟨t', _, _, h⟩ | ⟨h, _⟩
    · exact h
    · exact absurd rfl (out_not h ht (by omega))
  · refine Or.inr ⟨fun t ht => out_not ho ht (by omega), h8, ?_⟩
    rcases F9_isTable (e0.trans hT) hT4 x with ⟨t', ht', he, h⟩ | ⟨_, h⟩
    · exact absurd he (out_not ho ht' (by omega))
    · exact h
theorem col2 {σ τ : Mem} (hW : WFt σ) (hE : EQt σ τ) (x y : Int32) : (∃ t c, t < nt (σ 1 0) ∧ t < 4 ∧ x = nI t ∧ c < nt (σ 2 t) ∧ c < 4 ∧ y = nI c ∧ F_X6_hasColumn σ x y = some 1 ∧ F_X9_isColumn τ x y = some 1) ∨ ((∀ t c, t < nt (σ 1 0) → c < nt (σ 2 t) → x = nI t → y ≠ nI c) ∧ F_X6_hasColumn σ x y = some 0 ∧ F_X9_isColumn τ x y = some 0) := by
  unfold F_X6_hasColumn F_X9_isColumn
  rcases tab2 hW hE x with ⟨t, ht, ht4, rfl, h8, h9⟩ | ⟨ho, h8, h9⟩
  · obtain ⟨C, hC4, hC⟩ := hW.2.1 t ht4
    have nC : nt (σ 2 t) = C := by rw [hC, nt_nI (by omega)]
    have hτ : τ 1 t = nI C := (hE.2.1 t ht).trans hC
    rw [h8, h9, if_neg one_ne, if_neg one_ne, ld_at ht4 (by decide), ld_at ht4 (by decide), bind_some', bind_some', hC, hτ]
    rcases pk_ix y (n := C) (by omega) with h | h | ⟨c, hc, rfl⟩
    · refine Or.inr ⟨fun t' c' h1 h2 he hy => ?_, by rw [if_pos h], by rw [if_pos h]⟩
      subst hy
      have := hW.2.1 t' (by have := hW.1; obtain ⟨T, hT4, hT⟩ := this; rw [hT, nt_nI (by omega)] at h1; omega)
      obtain ⟨c2, hc2, e2⟩ := this
      rw [e2, nt_nI (by omega)] at h2
      exact nI_pos (by omega) h
    · refine Or.inr ⟨fun t' c' h1 h2 he hy => ?_, ?_, ?_⟩
      · subst hy
        obtain ⟨T, hT4, hT⟩ := hW.1
        rw [hT, nt_nI (by omega)] at h1 ht
        have := nI_inj (by omega) (by omega) he
        subst this
        rw [nC] at h2
        exact nI_ge h2 (by omega) h
      · by_cases h0 : y < 0
        · rw [if_pos h0]
        · rw [if_neg h0, if_pos h]
      · by_cases h0 : y < 0
        · rw [if_pos h0]
        · rw [if_neg h0, if_pos h]
    · refine Or.inl ⟨t, c, ht, ht4, rfl, by rw [nC]; exact hc, by omega, rfl, ?_, ?_⟩
      · rw [if_neg (nI_pos (by omega)), if_neg (nI_ge hc (by omega))]
      · rw [if_neg (nI_pos (by omega)), if_neg (nI_ge hc (by omega))]
  · refine Or.inr ⟨fun t c h1 _ he => absurd he (ho t h1), ?_, ?_⟩
    · rw [if_pos h8]
    · rw [if_pos h9]
theorem cell2 {σ τ : Mem} (hW : WFt σ) (hE : EQt σ τ) (x z y : Int32) : (∃ t r c, t < nt (σ 1 0) ∧ t < 4 ∧ x = nI t ∧ r < nt (σ 3 t) ∧ r < 20 ∧ z = nI r ∧ c < nt (σ 2 t) ∧ c < 4 ∧ y = nI c ∧ F_X6_hasCell σ x z y = some 1 ∧ F_X9_isCell τ x z y = some 1) ∨ (F_X6_hasCell σ x z y = some 0 ∧ F_X9_isCell τ x z y = some 0) := by
  unfold F_X6_hasCell F_X9_isCell
  rcases col2 hW hE x y with ⟨t, c, ht, ht4, rfl, hc, hc4, rfl, h8, h9⟩ | ⟨_, h8, h9⟩
  · obtain ⟨R, hR4, hR⟩ := hW.2.2.1 t ht4
    have nR : nt (σ 3 t) = R := by rw [hR, nt_nI (by omega)]
    have hτ : τ 2 t = nI R := (hE.2.2.1 t ht4).trans hR
    rw [h8, h9, bind_some', bind_some', if_neg one_ne, if_neg one_ne, ld_at ht4 (by decide), ld_at ht4 (by decide), bind_some', bind_some', hR, hτ]
    rcases pk_ix z (n := R) (by omega) with h | h | ⟨r, hr, rfl⟩
    · exact Or.inr ⟨by rw [if_pos h], by rw [if_pos h]⟩
    · refine Or.inr ⟨?_, ?_⟩
      · by_cases h0 : z < 0
        · rw [if_pos h0]
        · rw [if_neg h0, if_pos h]
      · by_cases h0 : z < 0
        · rw [if_pos h0]
        · rw [if_neg h0, if_pos h]
    · refine Or.inl ⟨t, r, c, ht, ht4, rfl, by rw [nR]; exact hr, by omega, rfl, hc, hc4, rfl, ?_, ?_⟩
      · rw [if_neg (nI_pos (by omega)), if_neg (nI_ge hr (by omega))]
      · rw [if_neg (nI_pos (by omega)), if_neg (nI_ge hr (by omega))]
  · refine Or.inr ⟨?_, ?_⟩
    · rw [h8, bind_some', if_pos rfl]
    · rw [h9, bind_some', if_pos rfl]
theorem mv_small {v : Int32} (h : small v) : mv v = v := by
  unfold mv
  rw [if_neg]
  intro e
  subst e
  exact absurd h.1 (by decide)
theorem val8 {σ : Mem} {t r c : Nat} (ht : t < 4) (hr : r < 20) (hc : c < 4) : F_X6_cell σ (nI t) (nI r) (nI c) = some (σ 5 ((20 * t + r) * 4 + c)) := by
  unfold F_X6_cell
  rw [r20, nI_add, r4, nI_add, ld_at (by omega) (by decide), bind_some', Nat.mul_comm t 20]
theorem val9 {τ : Mem} {t r c : Nat} (ht : t < 4) (hr : r < 20) (hc : c < 4) : F_X9_valueOf τ (nI t) (nI r) (nI c) = some (τ 3 ((20 * t + r) * 4 + c)) := by
  unfold F_X9_valueOf
  rw [l20, nI_add, r4, nI_add, ld_at (by omega) (by decide), bind_some']
theorem op_value {σ τ : Mem} (hW : WF σ) (hE : EQ σ τ) (x z y : Int32) : ∃ r, F_X8_value σ x z y = some r ∧ F_X9_value τ x z y = some r := by
  obtain ⟨hWt, hWw, hWl⟩ := id hW
  obtain ⟨hEt, hEw, hEl⟩ := id hE
  unfold F_X8_value F_X9_value
  rcases cell2 hWt hEt x z y with ⟨t, r, c, ht, ht4, rfl, hr, hr20, rfl, hc, hc4, rfl, h8, h9⟩ | ⟨h8, h9⟩
  · rw [h8, h9, bind_some', bind_some', if_neg one_ne, if_neg one_ne, val8 ht4 hr20 hc4, val9 ht4 hr20 hc4, bind_some', bind_some']
    rw [hEt.2.2.2.2 t r c ht4 hr hc4]
    refine ⟨_, rfl, ?_⟩
    rcases hWt.2.2.2.2.2.1 ((20 * t + r) * 4 + c) (by omega) with h | h
    · rw [h]; rfl
    · rw [mv_small h, if_neg]
      intro e
      rw [e] at h
      exact absurd h.1 (by decide)
  · exact ⟨-2000000, by rw [h8, bind_some', if_pos rfl], by rw [h9, bind_some', if_pos rfl]⟩
