def rowC (σ : Mem) (t r : Nat) : Mem := st (rcM σ) 3 t (nI (r + 1))
theorem rowC_3 {σ : Mem} {t r : Nat} : rowC σ t r 3 = upd (σ 3) t (nI (r + 1)) := by unfold rowC; rw [st_eq, rcM_k (by decide) (by decide)]
theorem rowC_k {σ : Mem} {t r k : Nat} (h : k ≠ 3) : rowC σ t r k = rcM σ k := by unfold rowC; rw [st_ne h]
theorem rowC_o {σ : Mem} {t r k : Nat} (h : k ≠ 3) (h1 : k ≠ 28) (h2 : k ≠ 29) : rowC σ t r k = σ k := by rw [rowC_k h, rcM_k h1 h2]
theorem F8_row_ok {σ : Mem} {t r : Nat} (h : F_X6_hasTable σ (nI t) = 1) (ht : t < 4) (hr : σ 3 t = nI r) (hr20 : r < 20) : F_X8_row σ (nI t) = some (nI r, rowC σ t r) := by
  have e : F_X6_addRow (rcM σ) (nI t) = some (nI r, rowC σ t r) := by
    unfold F_X6_addRow
    rw [ld_at ht (by decide), bind_some', rcM_k (by decide) (by decide), hr, nI_1, sto_at ht (by decide), bind_some', ld_at ht (by decide), bind_some', st_eq, upd_eq, nI_pred]
    rfl
  have h20 : nI r < (20 : Int32) := (nI_ltI (a := r) (b := 20) (by omega) (by omega)).mpr hr20
  unfold F_X8_row F_X6_rowsOf
  rw [h, if_neg (by decide), ld_at ht (by decide), bind_some', bind_some', hr, if_pos h20, F8_rc, bind_some', e]
  rfl
theorem op_row {σ τ : Mem} (hW : WF σ) (hE : EQ σ τ) (x : Int32) : ∃ r σ' τ', F_X8_row σ x = some (r, σ') ∧ F_X9_row τ x = some (r, τ') ∧ WF σ' ∧ EQ σ' τ' ∧ (σ' = σ ∨ rst2 σ σ') := by
  obtain ⟨hWt, hWw, hWl⟩ := id hW
  obtain ⟨hEt, hEw, hEl⟩ := id hE
  obtain ⟨⟨T, hT4, hT⟩, w2, w3, w4, w5, w6, w7, w8⟩ := id hWt
  obtain ⟨e0, e1, e2, e3, e4⟩ := id hEt
  have n1 : nt (σ 1 0) = T := by rw [hT, nt_nI (by omega)]
  rcases F8_hasTable hT hT4 x with ⟨t, ht, rfl, h8⟩ | ⟨ho, h8⟩
  · have h9 : F_X9_isTable τ (nI t) = 1 := by
      rcases F9_isTable (e0.trans hT) hT4 (nI t) with ⟨t', _, _, h⟩ | ⟨h, _⟩
      · exact h
      · exact absurd rfl (out_not h ht (by omega))
    obtain ⟨r, hr20, hr⟩ := w3 t (by omega)
    by_cases h20 : r = 20
    · subst h20
      refine ⟨-2, σ, τ, ?_, F9_row_full h9 (by omega) ((e2 t (by omega)).trans hr), hW, hE, Or.inl rfl⟩
      unfold F_X8_row F_X6_rowsOf
      rw [h8, if_neg (by decide), ld_at (by omega) (by decide), bind_some', bind_some', hr, if_neg (by decide)]
    · have hr2 : r < 20 := by omega
      refine ⟨nI r, _, _, F8_row_ok h8 (by omega) hr hr2, F9_row_ok h9 (by omega) ((e2 t (by omega)).trans hr) hr2, ⟨⟨?_, ?_, fun t' ht' => ?_, ?_, ?_, ?_, fun t' r' c ht' hr' hc h => ?_, fun t' ht' h => ?_⟩, ?_, ?_⟩, ⟨⟨?_, ?_, fun t' ht' => ?_, ?_, fun t' r' c ht' hr' hc => ?_⟩, ?_, ?_⟩, Or.inr (rcM_rst2 (fun k hk => rowC_k (by simp at hk; omega)))⟩
      · rw [rowC_o (by decide) (by decide) (by decide)]; exact ⟨T, hT4, hT⟩
      · rw [rowC_o (by decide) (by decide) (by decide)]; exact w2
      · rw [rowC_3]
        by_cases h : t' = t
        · subst h; exact ⟨r + 1, by omega, upd_eq⟩
        · rw [upd_ne h]; exact w3 t' ht'
      · rw [rowC_o (by decide) (by decide) (by decide), rowC_o (by decide) (by decide) (by decide)]; exact w4
      · rw [rowC_o (by decide) (by decide) (by decide), rowC_o (by decide) (by decide) (by decide)]; exact w5
      · rw [rowC_o (by decide) (by decide) (by decide)]; exact w6
      · rw [rowC_o (by decide) (by decide) (by decide)]
        rw [rowC_3] at h
        by_cases hq : t' = t
        · subst hq
          rw [upd_eq, nt_nI (by omega)] at h
          exact w7 _ r' c ht' hr' hc (by rw [hr, nt_nI (by omega)]; omega)
        · rw [upd_ne hq] at h
          exact w7 t' r' c ht' hr' hc h
      · rw [rowC_o (by decide) (by decide) (by decide), n1] at h
        rw [rowC_3, upd_ne (by omega)]
        exact w8 t' ht' (by rw [n1]; exact h)
      · exact hWw.cong (rowC_o (by decide) (by decide) (by decide)) (rowC_o (by decide) (by decide) (by decide)) (rowC_o (by decide) (by decide) (by decide)) (rowC_o (by decide) (by decide) (by decide)) (rowC_o (by decide) (by decide) (by decide)) (rowC_o (by decide) (by decide) (by decide)) (rowC_o (by decide) (by decide) (by decide)) (rowC_o (by decide) (by decide) (by decide)) (rowC_o (by decide) (by decide) (by decide))
      · exact hWl.cong (rowC_o (by decide) (by decide) (by decide)) (rowC_o (by decide) (by decide) (by decide)) (rowC_o (by decide) (by decide) (by decide))
      · rw [rowC_o (by decide) (by decide) (by decide), rowT_k (by decide) (by decide)]; exact e0
      · rw [rowC_o (by decide) (by decide) (by decide), rowC_o (by decide) (by decide) (by decide), rowT_k (by decide) (by decide)]; exact e1
      · rw [rowC_3, rowT_2]
        by_cases h : t' = t
        · subst h; rw [upd_eq, upd_eq]
        · rw [upd_ne h, upd_ne h]; exact e2 t' ht'
      · rw [rowC_o (by decide) (by decide) (by decide), rowC_o (by decide) (by decide) (by decide), rowT_k (by decide) (by decide)]; exact e3
      · rw [rowC_3] at hr'
        rw [rowC_o (by decide) (by decide) (by decide), rowT_3]
        by_cases hq : t' = t
        · subst hq
          rw [upd_eq, nt_nI (by omega)] at hr'
          by_cases hq2 : r' = r
          · subst hq2
            rw [if_pos (by omega), w7 _ _ c ht' (by omega) hc (by rw [hr, nt_nI (by omega)]; omega)]
            rfl
          · rw [if_neg (by omega)]
            exact e4 _ r' c ht' (by rw [hr, nt_nI (by omega)]; omega) hc
        · rw [upd_ne hq] at hr'
          obtain ⟨r2, hr2a, hr2b⟩ := w3 t' ht'
          have : nt (σ 3 t') = r2 := by rw [hr2b, nt_nI (by omega)]
          rw [if_neg (by omega)]
          exact e4 t' r' c ht' hr' hc
      · exact hEw.cong (rowC_o (by decide) (by decide) (by decide)) (rowC_o (by decide) (by decide) (by decide)) (rowC_o (by decide) (by decide) (by decide)) (rowC_o (by decide) (by decide) (by decide)) (rowC_o (by decide) (by decide) (by decide)) (rowC_o (by decide) (by decide) (by decide)) (rowT_k (by decide) (by decide)) (rowT_k (by decide) (by decide)) (rowT_k (by decide) (by decide)) (rowT_k (by decide) (by decide)) (rowT_k (by decide) (by decide)) (rowT_k (by decide) (by decide))
      · exact hEl.cong (rowC_o (by decide) (by decide) (by decide)) (rowC_o (by decide) (by decide) (by decide)) (rowC_o (by decide) (by decide) (by decide)) (by rw [rowT_k (by decide) (by decide)]) (rowT_k (by decide) (by decide)) (rowT_k (by decide) (by decide))
  · have h9 : F_X9_isTable τ x = 0 := by
      rcases F9_isTable (e0.trans hT) hT4 x with ⟨t', ht', he, h⟩ | ⟨_, h⟩
      · exact absurd he (out_not ho ht' (by omega))
      · exact h
    refine ⟨-1, σ, τ, ?_, F9_row_no h9, hW, hE, Or.inl rfl⟩
    unfold F_X8_row
    rw [if_pos h8]
