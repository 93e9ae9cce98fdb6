theorem okM.grow {σ σ' : Mem} {j T : Nat} (h : okM σ j) (hT : σ 1 0 = nI T) (hT4 : T < 4) (h1 : σ' 1 0 = nI (T + 1)) (h2 : ∀ t, t < T → σ' 2 t = σ 2 t) (h8 : σ' 8 = σ 8) (h9 : σ' 9 = σ 9) (h10 : σ' 10 = σ 10) (h11 : σ' 11 = σ 11) : okM σ' j := by
  unfold okM at h ⊢
  rw [h8, h9, h10, h11, h1, nt_nI (by omega)]
  rw [hT, nt_nI (by omega)] at h
  rcases h with ⟨a, b⟩ | ⟨a, b, c⟩ | ⟨a, b⟩ | ⟨a, b, c, d⟩ | ⟨a, b⟩ | a
  · exact Or.inl ⟨a, by omega⟩
  · exact Or.inr (Or.inl ⟨a, by omega, by rw [h2 _ b]; exact c⟩)
  · exact Or.inr (Or.inr (Or.inl ⟨a, b⟩))
  · exact Or.inr (Or.inr (Or.inr (Or.inl ⟨a, by omega, by rw [h2 _ b]; exact c, d⟩)))
  · exact Or.inr (Or.inr (Or.inr (Or.inr (Or.inl ⟨a, b⟩))))
  · exact Or.inr (Or.inr (Or.inr (Or.inr (Or.inr a))))
/-- the class's memory behind a new table -/
def tabM (σ : Mem) (T : Nat) (x : Int32) : Mem := st (st σ 2 T x) 1 0 (nI (T + 1))
theorem tabM_1 {σ : Mem} {T : Nat} {x : Int32} : tabM σ T x 1 = upd (σ 1) 0 (nI (T + 1)) := by unfold tabM; rw [st_eq, st_ne (by decide)]
theorem tabM_2 {σ : Mem} {T : Nat} {x : Int32} : tabM σ T x 2 = upd (σ 2) T x := by unfold tabM; rw [st_ne (by decide), st_eq]
theorem tabM_k {σ : Mem} {T : Nat} {x : Int32} {k : Nat} (h1 : k ≠ 1) (h2 : k ≠ 2) : tabM σ T x k = σ k := by unfold tabM; rw [st_ne h1, st_ne h2]
theorem F8_table_ok {σ : Mem} {x : Int32} {T : Nat} (h1 : ¬ x < 1) (h2 : x ≤ 4) (hT : σ 1 0 = nI T) (hT4 : T < 4) : F_X8_table σ x = some (nI T, tabM σ T x) := by
  have h4 : nI T < (4 : Int32) := (nI_ltI (a := T) (b := 4) (by omega) (by omega)).mpr hT4
  have e : F_X6_addTable σ x = some (nI T, tabM σ T x) := by
    unfold F_X6_addTable
    have s1 : st σ 2 T x 1 0 = nI T := by rw [st_ne (show 1 ≠ 2 by decide)]; exact hT
    rw [hT, sto_at hT4 (by decide), bind_some', bind_some', s1, nI_1, st_eq, upd_eq, nI_pred]
    rfl
  unfold F_X8_table F_X6_size
  rw [if_neg h1, if_pos h2, hT, if_pos h4, e]
  rfl
theorem op_table {σ τ : Mem} (hW : WF σ) (hE : EQ σ τ) (x : Int32) : ∃ r σ' τ', F_X8_table σ x = some (r, σ') ∧ F_X9_table τ x = some (r, τ') ∧ WF σ' ∧ EQ σ' τ' ∧ (σ' = σ ∨ ∃ T, T < 4 ∧ σ 1 0 = nI T ∧ σ' = tabM σ T x) := by
  obtain ⟨hWt, hWw, hWl⟩ := id hW
  obtain ⟨hEt, hEw, hEl⟩ := id hE
  obtain ⟨⟨T, hT4, hT⟩, w2, w3, w4, w5, w6, w7, w8⟩ := id hWt
  obtain ⟨e0, e1, e2, e3, e4⟩ := id hEt
  by_cases h1 : x < 1
  · exact ⟨-1, σ, τ, by unfold F_X8_table; rw [if_pos h1], F9_table_no (Or.inl h1), hW, hE, Or.inl rfl⟩
  by_cases h2 : x ≤ 4
  · by_cases h4 : T = 4
    · subst h4
      refine ⟨-2, σ, τ, ?_, F9_table_full h1 h2 (e0.trans hT), hW, hE, Or.inl rfl⟩
      unfold F_X8_table F_X6_size
      rw [if_neg h1, if_pos h2, hT, if_neg (by decide)]
    · have hT3 : T < 4 := by omega
      obtain ⟨c, hc, rfl⟩ := nI_of2 (x := x) (M := 4) (n := 4) rfl (by
        rw [Int32.lt_iff_toInt_lt] at h1 ⊢
        have : (1 : Int32).toInt = 1 := rfl
        have : (0 : Int32).toInt = 0 := rfl
        omega) h2
      refine ⟨nI T, _, _, F8_table_ok h1 h2 hT hT3, F9_table_ok h1 h2 (e0.trans hT) hT3, ?_, ?_, Or.inr ⟨T, hT3, hT, rfl⟩⟩
      · have n1 : nt (σ 1 0) = T := by rw [hT, nt_nI (by omega)]
        have n2 : tabM σ T (nI c) 1 0 = nI (T + 1) := by rw [tabM_1, upd_eq]
        have n3 : nt (tabM σ T (nI c) 1 0) = T + 1 := by rw [n2, nt_nI (by omega)]
        refine ⟨⟨⟨T + 1, by omega, n2⟩, fun t ht => ?_, ?_, fun j hj => ?_, fun j hj h => ?_, ?_, ?_, fun t ht h => ?_⟩, ⟨?_, ?_, ?_, ?_, ?_, fun w k hw hk => ?_, ?_⟩, hWl.cong (tabM_k (by decide) (by decide)) (tabM_k (by decide) (by decide)) (tabM_k (by decide) (by decide))⟩
        · rw [tabM_2]
          by_cases htT : t = T
          · subst htT; exact ⟨c, hc, upd_eq⟩
          · rw [upd_ne htT]; exact w2 t ht
        · rw [tabM_k (by decide) (by decide)]; exact w3
        · rw [n3, tabM_k (by decide) (by decide)]
          rcases w4 j hj with h | ⟨u, hu, h⟩
          · exact Or.inl h
          · exact Or.inr ⟨u, by rw [n1] at hu; omega, h⟩
        · rw [n3] at h
          rw [tabM_k (by decide) (by decide)]
          exact w5 j hj (by rw [n1]; omega)
        · rw [tabM_k (by decide) (by decide)]; exact w6
        · rw [tabM_k (by decide) (by decide), tabM_k (by decide) (by decide)]; exact w7
        · rw [n3] at h
          rw [tabM_k (by decide) (by decide)]
          exact w8 t ht (by rw [n1]; omega)
        · rw [tabM_k (by decide) (by decide)]; exact hWw.1
        · rw [tabM_k (by decide) (by decide)]; exact hWw.2.1
        · rw [tabM_k (by decide) (by decide)]; exact hWw.2.2.1
        · rw [tabM_k (by decide) (by decide)]; exact hWw.2.2.2.1
        · rw [tabM_k (by decide) (by decide)]; exact hWw.2.2.2.2.1
        · rw [tabM_k (by decide) (by decide)] at hk
          exact (hWw.2.2.2.2.2.1 w k hw hk).grow hT hT3 n2 (fun t ht => by rw [tabM_2, upd_ne (by omega)]) (tabM_k (by decide) (by decide)) (tabM_k (by decide) (by decide)) (tabM_k (by decide) (by decide)) (tabM_k (by decide) (by decide))
        · rw [tabM_k (by decide) (by decide), tabM_k (by decide) (by decide)]; exact hWw.2.2.2.2.2.2
      · have n1 : nt (σ 1 0) = T := by rw [hT, nt_nI (by omega)]
        have n2 : tabM σ T (nI c) 1 0 = nI (T + 1) := by rw [tabM_1, upd_eq]
        have n3 : nt (tabM σ T (nI c) 1 0) = T + 1 := by rw [n2, nt_nI (by omega)]
        refine ⟨⟨?_, fun t ht => ?_, fun t ht => ?_, fun j hj h => ?_, fun t r c' ht hr hc' => ?_⟩, hEw.cong ?_ ?_ ?_ ?_ ?_ ?_ ?_ ?_ ?_ ?_ ?_ ?_, hEl.cong ?_ ?_ ?_ ?_ ?_ ?_⟩
        all_goals try (first | (rw [tabM_k (by decide) (by decide)]; done) | (simp [st_ne]; done) | (simp [st, upd]; done))
        · rw [n2, st_eq, upd_eq]
        · rw [n3] at ht
          rw [tabM_2, st_ne (by decide), st_ne (by decide), st_ne (by decide), st_ne (by decide), st_ne (by decide), st_eq]
          by_cases h : t = T
          · subst h; rw [upd_eq, upd_eq]
          · rw [upd_ne h, upd_ne h]; exact e1 t (by rw [n1]; omega)
        · rw [tabM_k (by decide) (by decide)]; simp [st_ne]; exact e2 t ht
        · rw [n3] at h
          rw [tabM_k (by decide) (by decide), st_ne (by decide), st_eq, st_eq, st_eq, st_eq, st_ne (by decide)]
          by_cases hq : j / 4 = T
          · rw [w5 j hj (by rw [n1]; omega)]
            have : j = 4 * T + 0 ∨ j = 4 * T + 1 ∨ j = 4 * T + 2 ∨ j = 4 * T + 3 := by omega
            rcases this with h | h | h | h <;> subst h <;> simp [upd]
          · rw [upd_ne (by omega), upd_ne (by omega), upd_ne (by omega), upd_ne (by omega)]
            exact e3 j hj (by rw [n1]; omega)
        · rw [tabM_k (by decide) (by decide)] at hr
          rw [tabM_k (by decide) (by decide)]
          simp [st_ne]
          exact e4 t r c' ht hr hc'
  · refine ⟨-1, σ, τ, by unfold F_X8_table; rw [if_neg h1, if_neg h2], F9_table_no (Or.inr ?_), hW, hE, Or.inl rfl⟩
    rw [Int32.le_iff_toInt_le] at h2
    rw [Int32.lt_iff_toInt_lt]
    omega
