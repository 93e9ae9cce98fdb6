def rcM (σ : Mem) : Mem := st (fillM σ 28 288 (-1)) 29 5 0
def qcM (σ : Mem) : Mem := rcM (st σ 16 9 0)
theorem F8_rc {σ : Mem} : F_X8_rowsChanged σ = some (rcM σ) := rfl
theorem F8_qc {σ : Mem} : F_X8_questionChanged σ = some (qcM σ) := rfl
theorem rcM_k {σ : Mem} {k : Nat} (h1 : k ≠ 28) (h2 : k ≠ 29) : rcM σ k = σ k := by unfold rcM; rw [st_ne h2, fillM_ne h1]
theorem qcM_k {σ : Mem} {k : Nat} (h1 : k ≠ 28) (h2 : k ≠ 29) (h3 : k ≠ 16) : qcM σ k = σ k := by unfold qcM; rw [rcM_k h1 h2, st_ne h3]
theorem rcM_28 {σ : Mem} : ∀ j, j < 288 → rcM σ 28 j = -1 := fun j hj => by unfold rcM; rw [st_ne (by decide), fillM_eq]; exact if_pos hj
theorem rcM_29 {σ : Mem} : rcM σ 29 5 = 0 := by unfold rcM; rw [st_eq, upd_eq]
theorem qcM_16 {σ : Mem} : qcM σ 16 9 = 0 := by unfold qcM; rw [rcM_k (by decide) (by decide), st_eq, upd_eq]
theorem qcM_rst {σ σ' : Mem} (h : ∀ k, k ∈ [16, 28, 29, 30, 31, 32] → σ' k = qcM σ k) : rst σ σ' := by
  refine ⟨?_, fun j hj => ?_, ?_, ?_, ?_, ?_⟩
  · rw [h 16 (by decide)]; exact qcM_16
  · rw [h 28 (by decide)]; exact rcM_28 j hj
  · rw [h 29 (by decide)]; exact rcM_29
  · rw [h 30 (by decide)]; exact qcM_k (by decide) (by decide) (by decide)
  · rw [h 31 (by decide)]; exact qcM_k (by decide) (by decide) (by decide)
  · rw [h 32 (by decide)]; exact qcM_k (by decide) (by decide) (by decide)
theorem rcM_rst2 {σ σ' : Mem} (h : ∀ k, k ∈ [1, 2, 4, 6, 7, 8, 9, 10, 11, 12, 13, 14, 15, 16, 25, 28, 29, 30, 31, 32] → σ' k = rcM σ k) : rst2 σ σ' := by
  refine ⟨fun j hj => ?_, ?_, ?_, ?_, ?_, fun k hk => ?_⟩
  · rw [h 28 (by decide)]; exact rcM_28 j hj
  · rw [h 29 (by decide)]; exact rcM_29
  · rw [h 30 (by decide)]; exact rcM_k (by decide) (by decide)
  · rw [h 31 (by decide)]; exact rcM_k (by decide) (by decide)
  · rw [h 32 (by decide)]; exact rcM_k (by decide) (by decide)
  · rw [h k (by simp at hk ⊢; omega)]
    exact rcM_k (by simp at hk; omega) (by simp at hk; omega)
theorem F9_row_no {τ : Mem} {x : Int32} (h : F_X9_isTable τ x = 0) : F_X9_row τ x = some (-1, τ) := by
  refine fin_M (Rch.one (by decide) ?_)
  show B_X9_row_0 τ x = _
  unfold B_X9_row_0
  rw [if_pos h]
theorem F9_row_full {τ : Mem} {t : Nat} (h : F_X9_isTable τ (nI t) = 1) (ht : t < 4) (hr : τ 2 t = nI 20) : F_X9_row τ (nI t) = some (-2, τ) := by
  refine fin_M (Rch.one (by decide) ?_)
  show B_X9_row_0 τ (nI t) = _
  unfold B_X9_row_0
  rw [h, if_neg (by decide), ld_at ht (by decide), bind_some', hr, if_pos (show nI 20 = (20 : Int32) from rfl)]
def rowT (τ : Mem) (t r : Nat) : Mem := st (st (st (st (st τ 3 ((20 * t + r) * 4 + 0) (-1000)) 3 ((20 * t + r) * 4 + 1) (-1000)) 3 ((20 * t + r) * 4 + 2) (-1000)) 3 ((20 * t + r) * 4 + 3) (-1000)) 2 t (nI (r + 1))
theorem F9_row_ok {τ : Mem} {t r : Nat} (h : F_X9_isTable τ (nI t) = 1) (ht : t < 4) (hr : τ 2 t = nI r) (hr20 : r < 20) : F_X9_row τ (nI t) = some (nI r, rowT τ t r) := by
  refine fin_M ?_
  refine Rch.tr (Rch.one (p' := 26) (x' := τ) (vs' := [nI t, nI 0]) (by decide) ?_) ?_
  · show B_X9_row_0 τ (nI t) = _
    unfold B_X9_row_0
    have h20 : ¬ nI r = (20 : Int32) := by
      intro e
      have := nI_inj (a := r) (b := 20) (by omega) (by omega) e
      omega
    rw [h, if_neg (by decide), ld_at ht (by decide), bind_some', hr, if_neg h20]
    rfl
  have step : ∀ (σ : Mem) (i : Nat), σ 2 t = nI r → i < 4 → B_X9_row 26 σ [nI t, nI i] = some (26, st σ 3 ((20 * t + r) * 4 + i) (-1000), [nI t, nI (i + 1)]) := by
    intro σ i hσ hi
    show B_X9_row_26 σ (nI t) (nI i) = _
    unfold B_X9_row_26
    have h4 : ¬ (4 : Int32) ≤ nI i := nI_ge (a := i) (b := 4) hi (by decide)
    rw [if_neg h4, ld_at ht (by decide), bind_some', hσ, l20, nI_add, r4, nI_add, sto_at (by omega) (by decide), bind_some', nI_1]
  refine Rch.tr (Rch.one (by decide) (step _ 0 hr (by decide))) ?_
  refine Rch.tr (Rch.one (by decide) (step _ 1 (by simp [st_ne]; exact hr) (by decide))) ?_
  refine Rch.tr (Rch.one (by decide) (step _ 2 (by simp [st_ne]; exact hr) (by decide))) ?_
  refine Rch.tr (Rch.one (by decide) (step _ 3 (by simp [st_ne]; exact hr) (by decide))) ?_
  refine Rch.one (by decide) ?_
  show B_X9_row_26 _ (nI t) (nI 4) = _
  unfold B_X9_row_26
  rw [if_pos (by decide), ld_at ht (by decide), bind_some']
  simp only [st_ne (show (2 : Nat) ≠ 3 by decide), hr]
  rw [nI_1, sto_at ht (by decide), bind_some', ld_at ht (by decide), bind_some', st_eq, upd_eq, nI_pred]
  rfl
theorem rowT_k {τ : Mem} {t r k : Nat} (h2 : k ≠ 2) (h3 : k ≠ 3) : rowT τ t r k = τ k := by
  unfold rowT; rw [st_ne h2, st_ne h3, st_ne h3, st_ne h3, st_ne h3]
theorem rowT_2 {τ : Mem} {t r : Nat} : rowT τ t r 2 = upd (τ 2) t (nI (r + 1)) := by
  unfold rowT; rw [st_eq]; simp only [st_ne (show (2 : Nat) ≠ 3 by decide)]
theorem rowT_3 {τ : Mem} {t r j : Nat} : rowT τ t r 3 j = if (20 * t + r) * 4 ≤ j ∧ j < (20 * t + r) * 4 + 4 then -1000 else τ 3 j := by
  unfold rowT; rw [st_ne (by decide), st_eq, st_eq, st_eq, st_eq]
  by_cases h : (20 * t + r) * 4 ≤ j ∧ j < (20 * t + r) * 4 + 4
  · rw [if_pos h]
    have : j = (20 * t + r) * 4 + 0 ∨ j = (20 * t + r) * 4 + 1 ∨ j = (20 * t + r) * 4 + 2 ∨ j = (20 * t + r) * 4 + 3 := by omega
    rcases this with h | h | h | h <;> subst h <;> simp [upd]
  · rw [if_neg h, upd_ne (by omega), upd_ne (by omega), upd_ne (by omega), upd_ne (by omega)]
