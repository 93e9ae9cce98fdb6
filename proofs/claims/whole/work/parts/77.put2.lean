theorem isVal {x : Int32} : (small x ∧ F_X8_isValue x = 1) ∨ (¬ small x ∧ F_X8_isValue x = 0) := by
  unfold F_X8_isValue small
  have k2 : (-999 : Int32).toInt = -999 := rfl
  have k3 : (999 : Int32).toInt = 999 := rfl
  by_cases h1 : x < -999
  · refine Or.inr ⟨fun h => ?_, by rw [if_pos h1]⟩
    have := h.1
    rw [Int32.le_iff_toInt_le] at this
    rw [Int32.lt_iff_toInt_lt] at h1
    omega
  · by_cases h2 : 999 < x
    · refine Or.inr ⟨fun h => ?_, by rw [if_neg h1, if_pos h2]⟩
      have := h.2
      rw [Int32.le_iff_toInt_le] at this
      rw [Int32.lt_iff_toInt_lt] at h2
      omega
    · refine Or.inl ⟨⟨?_, ?_⟩, by rw [if_neg h1, if_neg h2]⟩
      · rw [Int32.le_iff_toInt_le]
        rw [Int32.lt_iff_toInt_lt] at h1
        omega
      · rw [Int32.le_iff_toInt_le]
        rw [Int32.lt_iff_toInt_lt] at h2
        omega
theorem within_v {x : Int32} : ((x = -1000 ∨ small x) ∧ F_X9_within x (-1000) 999 = 1) ∨ (¬ (x = -1000 ∨ small x) ∧ F_X9_within x (-1000) 999 = 0) := by
  unfold F_X9_within small
  have k1 : (-1000 : Int32).toInt = -1000 := rfl
  have k2 : (-999 : Int32).toInt = -999 := rfl
  have k3 : (999 : Int32).toInt = 999 := rfl
  by_cases h1 : x < -1000
  · refine Or.inr ⟨?_, by rw [if_pos h1]⟩
    rw [Int32.lt_iff_toInt_lt] at h1
    rintro (h | ⟨h, -⟩)
    · subst h; omega
    · rw [Int32.le_iff_toInt_le] at h; omega
  · rw [if_neg h1]
    by_cases h2 : 999 < x
    · refine Or.inr ⟨?_, by rw [if_pos h2]⟩
      rw [Int32.lt_iff_toInt_lt] at h2
      rintro (h | ⟨-, h⟩)
      · subst h; omega
      · rw [Int32.le_iff_toInt_le] at h; omega
    · refine Or.inl ⟨?_, by rw [if_neg h2]⟩
      by_cases h3 : x = -1000
      · exact Or.inl h3
      · rw [Int32.lt_iff_toInt_lt] at h1 h2
        have h4 : ¬ x.toInt = (-1000 : Int32).toInt := fun e => h3 (Int32.toInt_inj.mp e)
        refine Or.inr ⟨?_, ?_⟩
        · rw [Int32.le_iff_toInt_le]; omega
        · rw [Int32.le_iff_toInt_le]; omega
def putC (σ : Mem) (j : Nat) (v : Int32) : Mem := st (rcM σ) 5 j v
theorem putC_5 {σ : Mem} {j : Nat} {v : Int32} : putC σ j v 5 = upd (σ 5) j v := by unfold putC; rw [st_eq, rcM_k (by decide) (by decide)]
theorem putC_k {σ : Mem} {j k : Nat} {v : Int32} (h : k ≠ 5) : putC σ j v k = rcM σ k := by unfold putC; rw [st_ne h]
theorem putC_o {σ : Mem} {j k : Nat} {v : Int32} (h : k ≠ 5) (h1 : k ≠ 28) (h2 : k ≠ 29) : putC σ j v k = σ k := by rw [putC_k h, rcM_k h1 h2]
theorem put_we {σ τ : Mem} (hW : WF σ) (hE : EQ σ τ) {t r c : Nat} (ht : t < nt (σ 1 0)) (ht4 : t < 4) (hr : r < nt (σ 3 t)) (hr20 : r < 20) (hc4 : c < 4) {v u : Int32} (hv : v = -1000000 ∨ small v) (hu : u = mv v) : WF (putC σ ((20 * t + r) * 4 + c) v) ∧ EQ (putC σ ((20 * t + r) * 4 + c) v) (st τ 3 ((20 * t + r) * 4 + c) u) ∧ rst2 σ (putC σ ((20 * t + r) * 4 + c) v) := by
  obtain ⟨hWt, hWw, hWl⟩ := id hW
  obtain ⟨hEt, hEw, hEl⟩ := id hE
  obtain ⟨w1, w2, w3, w4, w5, w6, w7, w8⟩ := id hWt
  obtain ⟨e0, e1, e2, e3, e4⟩ := id hEt
  refine ⟨⟨⟨?_, ?_, ?_, ?_, ?_, fun j hj => ?_, fun t' r' c' ht' hr' hc' h => ?_, ?_⟩, ?_, ?_⟩, ⟨⟨?_, ?_, ?_, ?_, fun t' r' c' ht' hr' hc' => ?_⟩, ?_, ?_⟩, rcM_rst2 (fun k hk => putC_k (by simp at hk; omega))⟩
  · rw [putC_o (by decide) (by decide) (by decide)]; exact w1
  · rw [putC_o (by decide) (by decide) (by decide)]; exact w2
  · rw [putC_o (by decide) (by decide) (by decide)]; exact w3
  · rw [putC_o (by decide) (by decide) (by decide), putC_o (by decide) (by decide) (by decide)]; exact w4
  · rw [putC_o (by decide) (by decide) (by decide), putC_o (by decide) (by decide) (by decide)]; exact w5
  · rw [putC_5]
    by_cases h : j = (20 * t + r) * 4 + c
    · subst h; rw [upd_eq]; exact hv
    · rw [upd_ne h]; exact w6 j hj
  · rw [putC_o (by decide) (by decide) (by decide)] at h
    rw [putC_5, upd_ne]
    · exact w7 t' r' c' ht' hr' hc' h
    · intro e
      have h1 : t' = t ∧ r' = r := by omega
      rw [h1.1, h1.2] at h
      omega
  · rw [putC_o (by decide) (by decide) (by decide), putC_o (by decide) (by decide) (by decide)]; exact w8
  · exact hWw.cong (putC_o (by decide) (by decide) (by decide)) (putC_o (by decide) (by decide) (by decide)) (putC_o (by decide) (by decide) (by decide)) (putC_o (by decide) (by decide) (by decide)) (putC_o (by decide) (by decide) (by decide)) (putC_o (by decide) (by decide) (by decide)) (putC_o (by decide) (by decide) (by decide)) (putC_o (by decide) (by decide) (by decide)) (putC_o (by decide) (by decide) (by decide))
  · exact hWl.cong (putC_o (by decide) (by decide) (by decide)) (putC_o (by decide) (by decide) (by decide)) (putC_o (by decide) (by decide) (by decide))
  · rw [putC_o (by decide) (by decide) (by decide), st_ne (by decide)]; exact e0
  · rw [putC_o (by decide) (by decide) (by decide), putC_o (by decide) (by decide) (by decide), st_ne (by decide)]; exact e1
  · rw [putC_o (by decide) (by decide) (by decide), st_ne (by decide)]; exact e2
  · rw [putC_o (by decide) (by decide) (by decide), putC_o (by decide) (by decide) (by decide), st_ne (by decide)]; exact e3
  · rw [putC_o (by decide) (by decide) (by decide)] at hr'
    rw [putC_5, st_eq]
    by_cases h : (20 * t' + r') * 4 + c' = (20 * t + r) * 4 + c
    · rw [h, upd_eq, upd_eq]; exact hu
    · rw [upd_ne h, upd_ne h]; exact e4 t' r' c' ht' hr' hc'
  · exact hEw.cong (putC_o (by decide) (by decide) (by decide)) (putC_o (by decide) (by decide) (by decide)) (putC_o (by decide) (by decide) (by decide)) (putC_o (by decide) (by decide) (by decide)) (putC_o (by decide) (by decide) (by decide)) (putC_o (by decide) (by decide) (by decide)) (st_ne (by decide)) (st_ne (by decide)) (st_ne (by decide)) (st_ne (by decide)) (st_ne (by decide)) (st_ne (by decide))
  · exact hEl.cong (putC_o (by decide) (by decide) (by decide)) (putC_o (by decide) (by decide) (by decide)) (putC_o (by decide) (by decide) (by decide)) (by rw [st_ne (by decide)]) (st_ne (by decide)) (st_ne (by decide))
theorem setC {σ : Mem} {t r c : Nat} (ht : t < 4) (hr : r < 20) (hc : c < 4) {v : Int32} : F_X6_setCell (rcM σ) (nI t) (nI r) (nI c) v = some (putC σ ((20 * t + r) * 4 + c) v) := by
  unfold F_X6_setCell
  rw [r20, nI_add, r4, nI_add, sto_at (by omega) (by decide), bind_some', Nat.mul_comm t 20]
  rfl
theorem op_put {σ τ : Mem} (hW : WF σ) (hE : EQ σ τ) (x z y v : Int32) : ∃ r σ' τ', F_X8_put σ x z y v = some (r, σ') ∧ F_X9_put τ x z y v = some (r, τ') ∧ WF σ' ∧ EQ σ' τ' ∧ (σ' = σ ∨ rst2 σ σ') := by
  obtain ⟨hWt, hWw, hWl⟩ := id hW
  obtain ⟨hEt, hEw, hEl⟩ := id hE
  unfold F_X8_put F_X9_put
  rcases cell2 hWt hEt x z y with ⟨t, r, c, ht, ht4, rfl, hr, hr20, rfl, hc, hc4, rfl, h8, h9⟩ | ⟨h8, h9⟩
  · rw [h8, h9, bind_some', bind_some', if_neg one_ne, if_neg one_ne, F8_rc]
    have hw := within_v (x := v)
    by_cases hv : v = -1000
    · subst hv
      obtain ⟨q1, q2, q3⟩ := put_we hW hE (c := c) (v := -1000000) (u := -1000) ht ht4 hr hr20 hc4 (Or.inl rfl) rfl
      refine ⟨1, _, _, ?_, ?_, q1, q2, Or.inr q3⟩
      · rw [if_pos rfl, bind_some', if_pos rfl, setC ht4 hr20 hc4]; rfl
      · rw [show F_X9_within (-1000) (-1000) 999 = 1 from rfl, if_neg one_ne, l20, nI_add, r4, nI_add, sto_at (by omega) (by decide)]; rfl
    · rw [if_neg hv]
      rcases isVal (x := v) with ⟨hs, he⟩ | ⟨hs, he⟩
      · obtain ⟨q1, q2, q3⟩ := put_we hW hE (c := c) (v := v) (u := v) ht ht4 hr hr20 hc4 (Or.inr hs) (mv_small hs).symm
        refine ⟨1, _, _, ?_, ?_, q1, q2, Or.inr q3⟩
        · rw [he, if_neg one_ne, bind_some', if_neg hv, setC ht4 hr20 hc4]; rfl
        · rw [hw.elim (fun h => h.2) (fun h => absurd (Or.inr hs) h.1), if_neg one_ne, l20, nI_add, r4, nI_add, sto_at (by omega) (by decide)]; rfl
      · refine ⟨-1, σ, τ, by rw [he, if_pos rfl], ?_, hW, hE, Or.inl rfl⟩
        rw [hw.elim (fun h => absurd h.1 (fun h => h.elim hv hs)) (fun h => h.2), if_pos rfl]
  · exact ⟨-1, σ, τ, by rw [h8, bind_some', if_pos rfl], by rw [h9, bind_some', if_pos rfl], hW, hE, Or.inl rfl⟩
