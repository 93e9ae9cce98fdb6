/-! the calls that change or read the tables -/
theorem lt_of_i {a b : Nat} (ha : a < 2147483648) (hb : b < 2147483648) : (nI a < nI b) = (a < b) := propext (nI_ltI ha hb)
theorem le_of_i {a b : Nat} (ha : a < 2147483648) (hb : b < 2147483648) : (nI a ≤ nI b) = (a ≤ b) := propext (nI_leI ha hb)
theorem eq_of_i {a b : Nat} (ha : a < 2147483648) (hb : b < 2147483648) : (nI a = nI b) = (a = b) := propext (nI_eq ha hb)
/-- what is below 0, below 4 .. -/
theorem neg_le {x : Int32} {n : Nat} (h : x < 0) (hn : n < 2147483648) : x ≤ nI n := by
  rw [Int32.le_iff_toInt_le, nI_toInt hn]
  rw [Int32.lt_iff_toInt_lt] at h
  have : (0 : Int32).toInt = 0 := rfl
  omega
theorem neg_lt {x : Int32} {n : Nat} (h : x < 0) (hn : n < 2147483648) : x < nI n := by
  rw [Int32.lt_iff_toInt_lt, nI_toInt hn]
  rw [Int32.lt_iff_toInt_lt] at h
  have : (0 : Int32).toInt = 0 := rfl
  omega
theorem neg_nle {x : Int32} {n : Nat} (h : x < 0) (hn : n < 2147483648) : ¬ nI n ≤ x := by
  rw [Int32.le_iff_toInt_le, nI_toInt hn]
  rw [Int32.lt_iff_toInt_lt] at h
  have : (0 : Int32).toInt = 0 := rfl
  omega
theorem neg_ne {x : Int32} {n : Nat} (h : x < 0) (hn : n < 2147483648) : ¬ x = nI n := by
  intro e
  rw [e] at h
  exact nI_pos hn h
theorem F9_table_no {τ : Mem} {x : Int32} (h : x < 1 ∨ 4 < x) : F_X9_table τ x = some (-1, τ) := by
  refine fin_M (Rch.one (by decide) ?_)
  show B_X9_table_0 τ x = _
  unfold B_X9_table_0 F_X9_within
  rcases h with h | h
  · rw [if_pos h]; rfl
  · have h1 : ¬ x < 1 := by
      rw [Int32.lt_iff_toInt_lt] at h ⊢
      have : (4 : Int32).toInt = 4 := rfl
      have : (1 : Int32).toInt = 1 := rfl
      omega
    have h2 : ¬ x ≤ 4 := by
      rw [Int32.le_iff_toInt_le]
      rw [Int32.lt_iff_toInt_lt] at h
      omega
    simp [h1, h2]
theorem F9_table_full {τ : Mem} {x : Int32} (h1 : ¬ x < 1) (h2 : x ≤ 4) (hT : τ 0 4 = nI 4) : F_X9_table τ x = some (-2, τ) := by
  refine fin_M (Rch.one (by decide) ?_)
  show B_X9_table_0 τ x = _
  unfold B_X9_table_0 F_X9_within
  have : (nI 4 : Int32) = 4 := rfl
  simp [h1, h2, hT, this]
theorem F9_table_ok {τ : Mem} {x : Int32} {T : Nat} (h1 : ¬ x < 1) (h2 : x ≤ 4) (hT : τ 0 4 = nI T) (hT4 : T < 4) : F_X9_table τ x = some (nI T, st (st (st (st (st (st τ 1 T x) 4 (4 * T + 0) (-1)) 4 (4 * T + 1) (-1)) 4 (4 * T + 2) (-1)) 4 (4 * T + 3) (-1)) 0 4 (nI (T + 1))) := by
  refine fin_M ?_
  refine Rch.tr (Rch.one (p' := 34) (x' := st τ 1 T x) (vs' := [nI 0]) (by decide) ?_) ?_
  · show B_X9_table_0 τ x = _
    unfold B_X9_table_0 F_X9_within
    have h4 : ¬ nI T = nI 4 := by rw [nI_eq (by omega) (by omega)]; omega
    have h4' : ¬ nI T = (4 : Int32) := h4
    simp (disch := omega) [h1, h2, hT, h4', sto_at]
    rfl
  have step : ∀ (σ : Mem) (i : Nat), σ 0 4 = nI T → i < 4 → B_X9_table 34 σ [nI i] = some (34, st σ 4 (4 * T + i) (-1), [nI (i + 1)]) := by
    intro σ i hσ hi
    show B_X9_table_34 σ (nI i) = _
    unfold B_X9_table_34
    rw [i4, hσ, pk_mul, nI_add]
    simp (disch := omega) only [le_of_i, sto_at, bind_some', nI_1]
    rw [if_neg (by omega)]
  refine Rch.tr (Rch.one (by decide) (step _ 0 (by rw [st_ne (by decide)]; exact hT) (by decide))) ?_
  refine Rch.tr (Rch.one (by decide) (step _ 1 (by simp [st_ne]; exact hT) (by decide))) ?_
  refine Rch.tr (Rch.one (by decide) (step _ 2 (by simp [st_ne]; exact hT) (by decide))) ?_
  refine Rch.tr (Rch.one (by decide) (step _ 3 (by simp [st_ne]; exact hT) (by decide))) ?_
  refine Rch.one (by decide) ?_
  show B_X9_table_34 _ (nI 4) = _
  unfold B_X9_table_34
  rw [if_pos (by decide)]
  rw [bind_some', st_eq, upd_eq]
  simp only [st_ne (show (0 : Nat) ≠ 4 by decide), st_ne (show (0 : Nat) ≠ 1 by decide), hT]
  rw [nI_1, nI_pred]
/-! the tables' shape as rewrite rules -/
theorem l3 {a : Nat} : (3 : Int32) * nI a = nI (3 * a) := pk_mul 3 a
theorem l4 {a : Nat} : (4 : Int32) * nI a = nI (4 * a) := pk_mul 4 a
theorem l20 {a : Nat} : (20 : Int32) * nI a = nI (20 * a) := pk_mul 20 a
theorem r3 {a : Nat} : nI a * (3 : Int32) = nI (a * 3) := pk_mul a 3
theorem r4 {a : Nat} : nI a * (4 : Int32) = nI (a * 4) := pk_mul a 4
theorem r20 {a : Nat} : nI a * (20 : Int32) = nI (a * 20) := pk_mul a 20
theorem F8_hasTable {σ : Mem} {T : Nat} (hT : σ 1 0 = nI T) (hT4 : T ≤ 4) (x : Int32) : (∃ t, t < T ∧ x = nI t ∧ F_X6_hasTable σ x = 1) ∨ ((x < 0 ∨ nI T ≤ x) ∧ F_X6_hasTable σ x = 0) := by
  unfold F_X6_hasTable
  rw [hT]
  rcases pk_ix x (n := T) (by omega) with h | h | ⟨t, ht, rfl⟩
  · exact Or.inr ⟨Or.inl h, by rw [if_pos h]⟩
  · refine Or.inr ⟨Or.inr h, ?_⟩
    by_cases h0 : x < 0
    · rw [if_pos h0]
    · rw [if_neg h0, if_pos h]
  · refine Or.inl ⟨t, ht, rfl, ?_⟩
    rw [if_neg (nI_pos (by omega)), if_neg (nI_ge ht (by omega))]
theorem F9_isTable {τ : Mem} {T : Nat} (hT : τ 0 4 = nI T) (hT4 : T ≤ 4) (x : Int32) : (∃ t, t < T ∧ x = nI t ∧ F_X9_isTable τ x = 1) ∨ ((x < 0 ∨ nI T ≤ x) ∧ F_X9_isTable τ x = 0) := by
  unfold F_X9_isTable
  rw [hT]
  rcases pk_ix x (n := T) (by omega) with h | h | ⟨t, ht, rfl⟩
  · exact Or.inr ⟨Or.inl h, by rw [if_pos h]⟩
  · refine Or.inr ⟨Or.inr h, ?_⟩
    by_cases h0 : x < 0
    · rw [if_pos h0]
    · rw [if_neg h0, if_pos h]
  · refine Or.inl ⟨t, ht, rfl, ?_⟩
    rw [if_neg (nI_pos (by omega)), if_neg (nI_ge ht (by omega))]
theorem out_not {x : Int32} {n t : Nat} (h : x < 0 ∨ nI n ≤ x) (ht : t < n) (hn : n < 2147483648) : x ≠ nI t := by
  intro e
  subst e
  rcases h with h | h
  · exact nI_pos (by omega) h
  · exact nI_ge ht hn h
