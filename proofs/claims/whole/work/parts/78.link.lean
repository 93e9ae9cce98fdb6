def lnkC (σ : Mem) (j : Nat) (v : Int32) : Mem := st (qcM σ) 4 j v
theorem lnkC_4 {σ : Mem} {j : Nat} {v : Int32} : lnkC σ j v 4 = upd (σ 4) j v := by unfold lnkC; rw [st_eq, qcM_k (by decide) (by decide) (by decide)]
theorem lnkC_k {σ : Mem} {j k : Nat} {v : Int32} (h : k ≠ 4) : lnkC σ j v k = qcM σ k := by unfold lnkC; rw [st_ne h]
theorem lnkC_o {σ : Mem} {j k : Nat} {v : Int32} (h : k ≠ 4) (h1 : k ≠ 28) (h2 : k ≠ 29) (h3 : k ≠ 16) : lnkC σ j v k = σ k := by rw [lnkC_k h, qcM_k h1 h2 h3]
theorem link_we {σ τ : Mem} (hW : WF σ) (hE : EQ σ τ) {t c : Nat} (ht : t < nt (σ 1 0)) (ht4 : t < 4) (hc4 : c < 4) {v : Int32} (hv : v = -1 ∨ ∃ u, u < nt (σ 1 0) ∧ v = nI u) : WF (lnkC σ (4 * t + c) v) ∧ EQ (lnkC σ (4 * t + c) v) (st τ 4 (4 * t + c) v) ∧ rst σ (lnkC σ (4 * t + c) v) := by
  obtain ⟨hWt, hWw, hWl⟩ := id hW
  obtain ⟨hEt, hEw, hEl⟩ := id hE
  obtain ⟨w1, w2, w3, w4, w5, w6, w7, w8⟩ := id hWt
  obtain ⟨e0, e1, e2, e3, e4⟩ := id hEt
  have o : ∀ k, k ≠ 4 → k ≠ 28 → k ≠ 29 → k ≠ 16 → lnkC σ (4 * t + c) v k = σ k := fun k a b c d => lnkC_o a b c d
  have o1 := o 1 (by decide) (by decide) (by decide) (by decide)
  have o2 := o 2 (by decide) (by decide) (by decide) (by decide)
  have o3 := o 3 (by decide) (by decide) (by decide) (by decide)
  have o5 := o 5 (by decide) (by decide) (by decide) (by decide)
  refine ⟨⟨⟨by rw [o1]; exact w1, by rw [o2]; exact w2, by rw [o3]; exact w3, fun j hj => ?_, fun j hj h => ?_, by rw [o5]; exact w6, by rw [o3, o5]; exact w7, by rw [o1, o3]; exact w8⟩, ?_, ?_⟩, ⟨⟨by rw [o1, st_ne (by decide)]; exact e0, by rw [o1, o2, st_ne (by decide)]; exact e1, by rw [o3, st_ne (by decide)]; exact e2, fun j hj h => ?_, by rw [o3, o5, st_ne (by decide)]; exact e4⟩, ?_, ?_⟩, qcM_rst (fun k hk => lnkC_k (by simp at hk; omega))⟩
  · rw [lnkC_4, o1]
    by_cases h : j = 4 * t + c
    · subst h; rw [upd_eq]; exact hv
    · rw [upd_ne h]; exact w4 j hj
  · rw [o1] at h
    rw [lnkC_4, upd_ne (by omega)]
    exact w5 j hj h
  · exact hWw.cong o1 o2 (o 6 (by decide) (by decide) (by decide) (by decide)) (o 7 (by decide) (by decide) (by decide) (by decide)) (o 8 (by decide) (by decide) (by decide) (by decide)) (o 9 (by decide) (by decide) (by decide) (by decide)) (o 10 (by decide) (by decide) (by decide) (by decide)) (o 11 (by decide) (by decide) (by decide) (by decide)) (o 12 (by decide) (by decide) (by decide) (by decide))
  · exact hWl.cong (o 13 (by decide) (by decide) (by decide) (by decide)) (o 14 (by decide) (by decide) (by decide) (by decide)) (o 15 (by decide) (by decide) (by decide) (by decide))
  · rw [o1] at h
    rw [lnkC_4, st_eq]
    by_cases hq : j = 4 * t + c
    · rw [hq, upd_eq, upd_eq]
    · rw [upd_ne hq, upd_ne hq]; exact e3 j hj h
  · exact hEw.cong (o 7 (by decide) (by decide) (by decide) (by decide)) (o 8 (by decide) (by decide) (by decide) (by decide)) (o 9 (by decide) (by decide) (by decide) (by decide)) (o 10 (by decide) (by decide) (by decide) (by decide)) (o 11 (by decide) (by decide) (by decide) (by decide)) (o 12 (by decide) (by decide) (by decide) (by decide)) (st_ne (by decide)) (st_ne (by decide)) (st_ne (by decide)) (st_ne (by decide)) (st_ne (by decide)) (st_ne (by decide))
  · exact hEl.cong (o 13 (by decide) (by decide) (by decide) (by decide)) (o 14 (by decide) (by decide) (by decide) (by decide)) (o 15 (by decide) (by decide) (by decide) (by decide)) (by rw [st_ne (by decide)]) (st_ne (by decide)) (st_ne (by decide))
theorem chL {σ : Mem} {t c : Nat} (ht : t < 4) (hc : c < 4) {v : Int32} : F_X6_changeLink (qcM σ) (nI t) (nI c) v = some (σ 4 (4 * t + c), lnkC σ (4 * t + c) v) := by
  unfold F_X6_changeLink
  rw [r4, nI_add, ld_at (by omega) (by decide), bind_some', sto_at (by omega) (by decide), bind_some', Nat.mul_comm t 4, qcM_k (by decide) (by decide) (by decide)]
  rfl
theorem op_link {σ τ : Mem} (hW : WF σ) (hE : EQ σ τ) (x y z : Int32) : ∃ r σ' τ', F_X8_link σ x y z = some (r, σ') ∧ F_X9_link τ x y z = some (r, τ') ∧ WF σ' ∧ EQ σ' τ' ∧ (σ' = σ ∨ rst σ σ') := by
  obtain ⟨hWt, hWw, hWl⟩ := id hW
  obtain ⟨hEt, hEw, hEl⟩ := id hE
  have z0 : (0 : Int32) = 0 := rfl
  unfold F_X8_link F_X9_link
  rcases col2 hWt hEt x y with ⟨t, c, ht, ht4, rfl, hc, hc4, rfl, h8, h9⟩ | ⟨_, h8, h9⟩
  · rw [h8, h9]
    simp only [bind_some', if_neg one_ne, F8_qc]
    have fin : ∀ v : Int32, (v = -1 ∨ ∃ u, u < nt (σ 1 0) ∧ v = nI u) → ∃ r σ' τ', ((F_X6_changeLink (qcM σ) (nI t) (nI c) v).bind fun p9 => some (p9.1, p9.2)) = some (r, σ') ∧ ((ld 16 (τ 4) (4 * nI t + nI c)).bind fun v6 => (sto 16 4 τ (4 * nI t + nI c) v).bind fun σ8 => some (v6, σ8)) = some (r, τ') ∧ WF σ' ∧ EQ σ' τ' ∧ (σ' = σ ∨ rst σ σ') := by
      intro v hv
      obtain ⟨q1, q2, q3⟩ := link_we hW hE (c := c) ht ht4 hc4 hv
      refine ⟨_, _, _, by rw [chL ht4 hc4]; rfl, ?_, q1, q2, Or.inr q3⟩
      rw [l4, nI_add, ld_at (by omega) (by decide), bind_some', sto_at (by omega) (by decide), bind_some', hEt.2.2.2.1 (4 * t + c) (by omega) (by omega)]
    by_cases hz : z = -1
    · subst hz
      have hne : ¬ (-1 : Int32) = nI t := fun e => ne_m1 (by omega) e.symm
      simp only [if_true, if_neg hne]
      exact fin (-1) (Or.inl rfl)
    · rw [if_neg hz, if_neg hz]
      rcases tab2 hWt hEt z with ⟨u, hu, hu4, rfl, g8, g9⟩ | ⟨_, g8, g9⟩
      · rw [g8, g9, if_neg one_ne, if_neg one_ne]
        by_cases he : nI u = nI t
        · exact ⟨-9, σ, τ, by rw [if_pos he], by rw [if_pos he], hW, hE, Or.inl rfl⟩
        · rw [if_neg he, if_neg he]
          exact fin (nI u) (Or.inr ⟨u, hu, rfl⟩)
      · rw [g8, g9]
        exact ⟨-9, σ, τ, by simp, by simp, hW, hE, Or.inl rfl⟩
  · rw [h8, h9]
    refine ⟨-9, σ, τ, ?_, by simp [bind_some'], hW, hE, Or.inl rfl⟩
    simp only [bind_some', if_true]
    by_cases hz : z = -1
    · rw [if_pos hz]
    · rw [if_neg hz]
      by_cases hq : F_X6_hasTable σ z = 0
      · rw [if_pos hq]
      · rw [if_neg hq]
