def linC (σ : Mem) (P : Nat) (k b : Int32) : Mem := st (st (st (qcM σ) 15 P k) 14 P b) 13 0 (nI (P + 1))
def linM (τ : Mem) (P : Nat) (k b : Int32) : Mem := st (st (st τ 11 P k) 12 P b) 0 13 (nI (P + 1))
theorem linC_13 {σ : Mem} {P : Nat} {k b : Int32} : linC σ P k b 13 0 = nI (P + 1) := by unfold linC; rw [st_eq, upd_eq]
theorem linC_14 {σ : Mem} {P : Nat} {k b : Int32} : linC σ P k b 14 = upd (σ 14) P b := by unfold linC; rw [st_ne (by decide), st_eq, st_ne (by decide), qcM_k (by decide) (by decide) (by decide)]
theorem linC_15 {σ : Mem} {P : Nat} {k b : Int32} : linC σ P k b 15 = upd (σ 15) P k := by unfold linC; rw [st_ne (by decide), st_ne (by decide), st_eq, qcM_k (by decide) (by decide) (by decide)]
theorem linC_k {σ : Mem} {P j : Nat} {k b : Int32} (h1 : j ≠ 13) (h2 : j ≠ 14) (h3 : j ≠ 15) : linC σ P k b j = qcM σ j := by unfold linC; rw [st_ne h1, st_ne h2, st_ne h3]
theorem linC_o {σ : Mem} {P j : Nat} {k b : Int32} (h : j ∈ [1, 2, 3, 4, 5, 6, 7, 8, 9, 10, 11, 12]) : linC σ P k b j = σ j := by
  simp at h
  rw [linC_k (by omega) (by omega) (by omega), qcM_k (by omega) (by omega) (by omega)]
theorem linM_0 {τ : Mem} {P j : Nat} {k b : Int32} : linM τ P k b 0 = upd (τ 0) 13 (nI (P + 1)) := by unfold linM; rw [st_eq, st_ne (by decide), st_ne (by decide)]
theorem linM_k {τ : Mem} {P j : Nat} {k b : Int32} (h1 : j ≠ 0) (h2 : j ≠ 11) (h3 : j ≠ 12) : linM τ P k b j = τ j := by unfold linM; rw [st_ne h1, st_ne h3, st_ne h2]
theorem linM_11 {τ : Mem} {P : Nat} {k b : Int32} : linM τ P k b 11 = upd (τ 11) P k := by unfold linM; rw [st_ne (by decide), st_ne (by decide), st_eq]
theorem linM_12 {τ : Mem} {P : Nat} {k b : Int32} : linM τ P k b 12 = upd (τ 12) P b := by unfold linM; rw [st_ne (by decide), st_eq, st_ne (by decide)]
theorem lin8 {σ : Mem} {P : Nat} {k b : Int32} (hP : σ 13 0 = nI P) (hP8 : P < 8) (hb : vp_nar .boolean b = b) : F_X3_add (qcM σ) k b = some (nI (P + 1), linC σ P k b) := by
  have s1 : qcM σ 13 0 = nI P := by rw [qcM_k (by decide) (by decide) (by decide)]; exact hP
  have s2 : st (qcM σ) 15 P k 13 0 = nI P := by rw [st_ne (by decide)]; exact s1
  have s3 : st (st (qcM σ) 15 P k) 14 P b 13 0 = nI P := by rw [st_ne (by decide)]; exact s2
  unfold F_X3_add
  rw [hb, s1, sto_at hP8 (by decide), bind_some', s2, sto_at hP8 (by decide), bind_some', bind_some', s3, nI_1, st_eq, upd_eq]
  rfl
theorem lin9 {τ : Mem} {P : Nat} {k b : Int32} (hP : τ 0 13 = nI P) (hP8 : P < 8) (hb : vp_nar .boolean b = b) : F_X9_add τ k b = some (nI (P + 1), linM τ P k b) := by
  have s2 : st τ 11 P k 0 13 = nI P := by rw [st_ne (by decide)]; exact hP
  have s3 : st (st τ 11 P k) 12 P b 0 13 = nI P := by rw [st_ne (by decide)]; exact s2
  have h8 : ¬ nI P = (8 : Int32) := fun e => by
    have := nI_inj (a := P) (b := 8) (by omega) (by omega) e
    omega
  unfold F_X9_add
  rw [hb, hP, if_neg h8, sto_at hP8 (by decide), bind_some', s2, sto_at hP8 (by decide), bind_some', bind_some', s3, nI_1, st_eq, upd_eq]
  rfl
theorem lin_we {σ τ : Mem} (hW : WF σ) (hE : EQ σ τ) {P : Nat} (hP : σ 13 0 = nI P) (hP8 : P < 8) {k b : Int32} (hb : (b = nI 0 ∧ ∃ w, w < 40 ∧ k = nI w) ∨ (b = nI 1 ∧ small k)) : WF (linC σ P k b) ∧ EQ (linC σ P k b) (linM τ P k b) ∧ rst σ (linC σ P k b) := by
  obtain ⟨hWt, hWw, hWl⟩ := id hW
  obtain ⟨hEt, hEw, hEl⟩ := id hE
  obtain ⟨v1, v2, v3, v4⟩ := id hWl
  obtain ⟨f1, f2, f3⟩ := id hEl
  have nP : nt (σ 13 0) = P := by rw [hP, nt_nI (by omega)]
  have n13 : nt (linC σ P k b 13 0) = P + 1 := by rw [linC_13, nt_nI (by omega)]
  have o : ∀ j, j ∈ [1, 2, 3, 4, 5, 6, 7, 8, 9, 10, 11, 12] → linC σ P k b j = σ j := fun j hj => linC_o hj
  refine ⟨⟨hWt.cong (o 1 (by decide)) (o 2 (by decide)) (o 3 (by decide)) (o 4 (by decide)) (o 5 (by decide)), hWw.cong (o 1 (by decide)) (o 2 (by decide)) (o 6 (by decide)) (o 7 (by decide)) (o 8 (by decide)) (o 9 (by decide)) (o 10 (by decide)) (o 11 (by decide)) (o 12 (by decide)), ⟨P + 1, by omega, linC_13⟩, fun p hp => ?_, fun p hp h => ?_, fun p hp h => ?_⟩, ⟨hEt.cong (o 1 (by decide)) (o 2 (by decide)) (o 3 (by decide)) (o 4 (by decide)) (o 5 (by decide)) (by rw [linM_0 (j := 0), upd_ne (by decide)]) (linM_k (by decide) (by decide) (by decide)) (linM_k (by decide) (by decide) (by decide)) (linM_k (by decide) (by decide) (by decide)) (linM_k (by decide) (by decide) (by decide)), hEw.cong (o 7 (by decide)) (o 8 (by decide)) (o 9 (by decide)) (o 10 (by decide)) (o 11 (by decide)) (o 12 (by decide)) (linM_k (by decide) (by decide) (by decide)) (linM_k (by decide) (by decide) (by decide)) (linM_k (by decide) (by decide) (by decide)) (linM_k (by decide) (by decide) (by decide)) (linM_k (by decide) (by decide) (by decide)) (linM_k (by decide) (by decide) (by decide)), by rw [linC_13, linM_0 (j := 0), upd_eq], fun p hp => ?_, fun p hp => ?_⟩, qcM_rst (fun k hk => linC_k (by simp at hk; omega) (by simp at hk; omega) (by simp at hk; omega))⟩
  · rw [linC_14]
    by_cases h : p = P
    · subst h; rw [upd_eq]
      rcases hb with h | h
      · exact Or.inl h.1
      · exact Or.inr h.1
    · rw [upd_ne h]; exact v2 p hp
  · rw [n13] at hp
    rw [linC_14] at h
    rw [linC_15]
    by_cases hq : p = P
    · subst hq
      rw [upd_eq] at h ⊢
      rcases hb with hb | hb
      · exact hb.2
      · rw [hb.1] at h; exact absurd h (by decide)
    · rw [upd_ne hq] at h ⊢
      exact v3 p (by rw [nP]; omega) h
  · rw [n13] at hp
    rw [linC_14] at h
    rw [linC_15]
    by_cases hq : p = P
    · subst hq
      rw [upd_eq] at h ⊢
      rcases hb with hb | hb
      · rw [hb.1] at h; exact absurd h (by decide)
      · exact hb.2
    · rw [upd_ne hq] at h ⊢
      exact v4 p (by rw [nP]; omega) h
  · rw [linC_14, linM_12]
    by_cases h : p = P
    · subst h; rw [upd_eq, upd_eq]
    · rw [upd_ne h, upd_ne h]; exact f2 p hp
  · rw [linC_15, linM_11]
    by_cases h : p = P
    · subst h; rw [upd_eq, upd_eq]
    · rw [upd_ne h, upd_ne h]; exact f3 p hp
theorem isW2 (x : Int32) : (∃ w, w < 40 ∧ x = nI w ∧ F_X8_isWord x = 1 ∧ F_X9_isWord x = 1) ∨ (F_X8_isWord x = 0 ∧ F_X9_isWord x = 0) := by
  unfold F_X8_isWord F_X9_isWord
  rcases pk_ix x (n := 40) (by omega) with h | h | ⟨t, ht, rfl⟩
  · exact Or.inr ⟨by rw [if_pos h], by rw [if_pos h]⟩
  · have h' : (40 : Int32) ≤ x := h
    refine Or.inr ⟨?_, ?_⟩ <;>
    · by_cases h0 : x < 0
      · rw [if_pos h0]
      · rw [if_neg h0, if_pos h']
  · have h' : ¬ (40 : Int32) ≤ nI t := nI_ge (a := t) (b := 40) ht (by decide)
    exact Or.inl ⟨t, ht, rfl, by rw [if_neg (nI_pos (by omega)), if_neg h'], by rw [if_neg (nI_pos (by omega)), if_neg h']⟩
theorem op_word {σ τ : Mem} (hW : WF σ) (hE : EQ σ τ) (x : Int32) : ∃ r σ' τ', F_X8_word σ x = some (r, σ') ∧ F_X9_word τ x = some (r, τ') ∧ WF σ' ∧ EQ σ' τ' ∧ (σ' = σ ∨ rst σ σ') := by
  obtain ⟨⟨P, hP8, hP⟩, -⟩ := id hW.2.2
  have f1 := hE.2.2.1
  unfold F_X8_word F_X9_word F_X3_size
  rcases isW2 x with ⟨w, hw, rfl, h8, h9⟩ | ⟨h8, h9⟩
  · rw [h8, h9, if_neg one_ne, if_neg one_ne, hP]
    by_cases h : P = 8
    · subst h
      refine ⟨-2, σ, τ, by rw [if_neg (by decide)], ?_, hW, hE, Or.inl rfl⟩
      unfold F_X9_add
      rw [f1, hP, if_pos (show nI 8 = (8 : Int32) from rfl)]; rfl
    · have hlt : nI P < (8 : Int32) := (nI_ltI (a := P) (b := 8) (by omega) (by omega)).mpr (by omega)
      obtain ⟨q1, q2, q3⟩ := lin_we hW hE hP (by omega) (k := nI w) (b := nI 0) (Or.inl ⟨rfl, w, hw, rfl⟩)
      refine ⟨nI (P + 1), _, _, ?_, ?_, q1, q2, Or.inr q3⟩
      · rw [if_pos hlt, F8_qc, bind_some']
        unfold F_X3_addWord
        rw [show (0 : Int32) = nI 0 from rfl, lin8 hP (by omega) rfl]; rfl
      · rw [show (0 : Int32) = nI 0 from rfl, lin9 (f1.trans hP) (by omega) rfl]; rfl
  · exact ⟨-1, σ, τ, by rw [if_pos h8], by rw [if_pos h9], hW, hE, Or.inl rfl⟩
theorem within_s {x : Int32} : (small x ∧ F_X9_within x (-999) 999 = 1) ∨ (¬ small x ∧ F_X9_within x (-999) 999 = 0) := isVal (x := x)
theorem op_number {σ τ : Mem} (hW : WF σ) (hE : EQ σ τ) (x : Int32) : ∃ r σ' τ', F_X8_number σ x = some (r, σ') ∧ F_X9_number τ x = some (r, τ') ∧ WF σ' ∧ EQ σ' τ' ∧ (σ' = σ ∨ rst σ σ') := by
  obtain ⟨⟨P, hP8, hP⟩, -⟩ := id hW.2.2
  have f1 := hE.2.2.1
  unfold F_X8_number F_X9_number F_X3_size
  rcases isVal (x := x) with ⟨hs, h8⟩ | ⟨hs, h8⟩
  · have h9 : F_X9_within x (-999) 999 = 1 := h8
    rw [h8, h9, if_neg one_ne, if_neg one_ne, hP]
    by_cases h : P = 8
    · subst h
      refine ⟨-2, σ, τ, by rw [if_neg (by decide)], ?_, hW, hE, Or.inl rfl⟩
      unfold F_X9_add
      rw [f1, hP, if_pos (show nI 8 = (8 : Int32) from rfl)]; rfl
    · have hlt : nI P < (8 : Int32) := (nI_ltI (a := P) (b := 8) (by omega) (by omega)).mpr (by omega)
      obtain ⟨q1, q2, q3⟩ := lin_we hW hE hP (by omega) (k := x) (b := nI 1) (Or.inr ⟨rfl, hs⟩)
      refine ⟨nI (P + 1), _, _, ?_, ?_, q1, q2, Or.inr q3⟩
      · rw [if_pos hlt, F8_qc, bind_some']
        unfold F_X3_addNumber
        rw [show (1 : Int32) = nI 1 from rfl, lin8 hP (by omega) rfl]; rfl
      · rw [show (1 : Int32) = nI 1 from rfl, lin9 (f1.trans hP) (by omega) rfl]; rfl
  · have h9 : F_X9_within x (-999) 999 = 0 := h8
    exact ⟨-1, σ, τ, by rw [if_pos h8], by rw [if_pos h9], hW, hE, Or.inl rfl⟩
theorem op_clear {σ τ : Mem} (hW : WF σ) (hE : EQ σ τ) : ∃ r σ' τ', F_X8_clear σ = some (r, σ') ∧ F_X9_clear τ = some (r, τ') ∧ WF σ' ∧ EQ σ' τ' ∧ (σ' = σ ∨ rst σ σ') := by
  obtain ⟨hWt, hWw, hWl⟩ := id hW
  obtain ⟨hEt, hEw, hEl⟩ := id hE
  have f1 := hE.2.2.1
  have o : ∀ j, j ∈ [1, 2, 3, 4, 5, 6, 7, 8, 9, 10, 11, 12, 14, 15] → st (qcM σ) 13 0 0 j = σ j := fun j hj => by
    simp at hj
    rw [st_ne (by omega), qcM_k (by omega) (by omega) (by omega)]
  have g : ∀ j, j ≠ 0 → st τ 0 13 0 j = τ j := fun j hj => st_ne hj
  have n13 : st (qcM σ) 13 0 0 13 0 = 0 := by rw [st_eq, upd_eq]
  have z : nt (0 : Int32) = 0 := rfl
  refine ⟨σ 13 0, st (qcM σ) 13 0 0, st τ 0 13 0, ?_, ?_, ⟨hWt.cong (o 1 (by decide)) (o 2 (by decide)) (o 3 (by decide)) (o 4 (by decide)) (o 5 (by decide)), hWw.cong (o 1 (by decide)) (o 2 (by decide)) (o 6 (by decide)) (o 7 (by decide)) (o 8 (by decide)) (o 9 (by decide)) (o 10 (by decide)) (o 11 (by decide)) (o 12 (by decide)), ⟨0, by decide, n13⟩, by rw [o 14 (by decide)]; exact hWl.2.1, fun p hp => ?_, fun p hp => ?_⟩, ⟨hEt.cong (o 1 (by decide)) (o 2 (by decide)) (o 3 (by decide)) (o 4 (by decide)) (o 5 (by decide)) (by rw [st_eq, upd_ne (by decide)]) (g 1 (by decide)) (g 2 (by decide)) (g 3 (by decide)) (g 4 (by decide)), hEw.cong (o 7 (by decide)) (o 8 (by decide)) (o 9 (by decide)) (o 10 (by decide)) (o 11 (by decide)) (o 12 (by decide)) (g 5 (by decide)) (g 6 (by decide)) (g 7 (by decide)) (g 8 (by decide)) (g 9 (by decide)) (g 10 (by decide)), by rw [n13, st_eq, upd_eq], by rw [o 14 (by decide), g 12 (by decide)]; exact hEl.2.1, by rw [o 15 (by decide), g 11 (by decide)]; exact hEl.2.2⟩, Or.inr (qcM_rst (fun k hk => by simp at hk; rw [st_ne (by omega)]))⟩
  · unfold F_X8_clear F_X3_empty
    rw [F8_qc, bind_some', bind_some', bind_some', qcM_k (by decide) (by decide) (by decide)]
  · unfold F_X9_clear
    rw [bind_some', f1]
  · rw [n13, z] at hp; omega
  · rw [n13, z] at hp; omega
