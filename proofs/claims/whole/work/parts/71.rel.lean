/-! the class's memory σ is the abstract state; WF: its numbers are as they should be; EQ: the reference's memory τ holds the same -/
abbrev nt (x : Int32) : Nat := x.toNatClampNeg
theorem nt_nI {n : Nat} (h : n < 2147483648) : nt (nI n) = n := nI_clamp h
def NOTH : Int32 := -1000000
def mv (v : Int32) : Int32 := if v = -1000000 then -1000 else v
def small (v : Int32) : Prop := (-999 : Int32) ≤ v ∧ v ≤ (999 : Int32)
def WFt (σ : Mem) : Prop :=
  (∃ T, T ≤ 4 ∧ σ 1 0 = nI T) ∧ (∀ t, t < 4 → ∃ c, c ≤ 4 ∧ σ 2 t = nI c) ∧ (∀ t, t < 4 → ∃ r, r ≤ 20 ∧ σ 3 t = nI r) ∧
  (∀ j, j < 16 → σ 4 j = -1 ∨ ∃ u, u < nt (σ 1 0) ∧ σ 4 j = nI u) ∧ (∀ j, j < 16 → nt (σ 1 0) ≤ j / 4 → σ 4 j = -1) ∧
  (∀ j, j < 320 → σ 5 j = -1000000 ∨ small (σ 5 j)) ∧ (∀ t r c, t < 4 → r < 20 → c < 4 → nt (σ 3 t) ≤ r → σ 5 ((20 * t + r) * 4 + c) = -1000000) ∧ (∀ t, t < 4 → nt (σ 1 0) ≤ t → σ 3 t = 0)
def okM (σ : Mem) (j : Nat) : Prop :=
  (σ 8 j = nI 0 ∧ nt (σ 9 j) < nt (σ 1 0)) ∨ (σ 8 j = nI 1 ∧ nt (σ 9 j) < nt (σ 1 0) ∧ nt (σ 10 j) < nt (σ 2 (nt (σ 9 j)))) ∨ (σ 8 j = nI 2 ∧ nt (σ 9 j) < 4) ∨
  (σ 8 j = nI 3 ∧ nt (σ 9 j) < nt (σ 1 0) ∧ nt (σ 10 j) < nt (σ 2 (nt (σ 9 j))) ∧ small (σ 11 j)) ∨ (σ 8 j = nI 4 ∧ nt (σ 9 j) < 3) ∨ σ 8 j = nI 5
def WFw (σ : Mem) : Prop :=
  (∀ w, w < 40 → ∃ k, k ≤ 3 ∧ σ 7 w = nI k) ∧ (∀ j, j < 120 → ∃ s, s ≤ 5 ∧ σ 8 j = nI s) ∧ (∀ j, j < 120 → ∃ a, a < 2147483648 ∧ σ 9 j = nI a) ∧ (∀ j, j < 120 → ∃ b, b < 100 ∧ σ 10 j = nI b) ∧ (∀ j, j < 120 → ∃ q, q ≤ 99 ∧ σ 12 j = nI q) ∧
  (∀ w k, w < 40 → k < nt (σ 7 w) → okM σ (3 * w + k)) ∧ σ 6 0 = nI (fb_sm (fun w => nt (σ 7 w)) 40)
def WFl (σ : Mem) : Prop :=
  (∃ P, P ≤ 8 ∧ σ 13 0 = nI P) ∧ (∀ p, p < 8 → σ 14 p = nI 0 ∨ σ 14 p = nI 1) ∧ (∀ p, p < nt (σ 13 0) → σ 14 p = nI 0 → ∃ w, w < 40 ∧ σ 15 p = nI w) ∧ (∀ p, p < nt (σ 13 0) → σ 14 p = nI 1 → small (σ 15 p))
def WF (σ : Mem) : Prop := WFt σ ∧ WFw σ ∧ WFl σ
def EQt (σ τ : Mem) : Prop :=
  τ 0 4 = σ 1 0 ∧ (∀ t, t < nt (σ 1 0) → τ 1 t = σ 2 t) ∧ (∀ t, t < 4 → τ 2 t = σ 3 t) ∧ (∀ j, j < 16 → j / 4 < nt (σ 1 0) → τ 4 j = σ 4 j) ∧
  (∀ t r c, t < 4 → r < nt (σ 3 t) → c < 4 → τ 3 ((20 * t + r) * 4 + c) = mv (σ 5 ((20 * t + r) * 4 + c)))
def EQw (σ τ : Mem) : Prop := (∀ w, w < 40 → τ 5 w = σ 7 w) ∧ (∀ j, j < 120 → τ 6 j = σ 8 j) ∧ (∀ j, j < 120 → τ 7 j = σ 9 j) ∧ (∀ j, j < 120 → τ 8 j = σ 10 j) ∧ (∀ j, j < 120 → τ 9 j = σ 11 j) ∧ (∀ j, j < 120 → τ 10 j = σ 12 j)
def EQl (σ τ : Mem) : Prop := τ 0 13 = σ 13 0 ∧ (∀ p, p < 8 → τ 12 p = σ 14 p) ∧ (∀ p, p < 8 → τ 11 p = σ 15 p)
def EQ (σ τ : Mem) : Prop := EQt σ τ ∧ EQw σ τ ∧ EQl σ τ
/-- σ' has the cells of σ at the numbers of l -/
def samC (l : List Nat) (σ σ' : Mem) : Prop := ∀ k ∈ l, σ' k = σ k
theorem WFt.cong {σ σ' : Mem} (h : WFt σ) (h1 : σ' 1 = σ 1) (h2 : σ' 2 = σ 2) (h3 : σ' 3 = σ 3) (h4 : σ' 4 = σ 4) (h5 : σ' 5 = σ 5) : WFt σ' := by
  unfold WFt at h ⊢; rw [h1, h2, h3, h4, h5]; exact h
theorem WFw.cong {σ σ' : Mem} (h : WFw σ) (h1 : σ' 1 = σ 1) (h2 : σ' 2 = σ 2) (h6 : σ' 6 = σ 6) (h7 : σ' 7 = σ 7) (h8 : σ' 8 = σ 8) (h9 : σ' 9 = σ 9) (h10 : σ' 10 = σ 10) (h11 : σ' 11 = σ 11) (h12 : σ' 12 = σ 12) : WFw σ' := by
  unfold WFw okM at h ⊢; rw [h1, h2, h6, h7, h8, h9, h10, h11, h12]; exact h
theorem WFl.cong {σ σ' : Mem} (h : WFl σ) (h13 : σ' 13 = σ 13) (h14 : σ' 14 = σ 14) (h15 : σ' 15 = σ 15) : WFl σ' := by
  unfold WFl at h ⊢; rw [h13, h14, h15]; exact h
theorem EQt.cong {σ σ' τ τ' : Mem} (h : EQt σ τ) (h1 : σ' 1 = σ 1) (h2 : σ' 2 = σ 2) (h3 : σ' 3 = σ 3) (h4 : σ' 4 = σ 4) (h5 : σ' 5 = σ 5) (g0 : τ' 0 4 = τ 0 4) (g1 : τ' 1 = τ 1) (g2 : τ' 2 = τ 2) (g3 : τ' 3 = τ 3) (g4 : τ' 4 = τ 4) : EQt σ' τ' := by
  unfold EQt at h ⊢; rw [h1, h2, h3, h4, h5, g0, g1, g2, g3, g4]; exact h
theorem EQw.cong {σ σ' τ τ' : Mem} (h : EQw σ τ) (h7 : σ' 7 = σ 7) (h8 : σ' 8 = σ 8) (h9 : σ' 9 = σ 9) (h10 : σ' 10 = σ 10) (h11 : σ' 11 = σ 11) (h12 : σ' 12 = σ 12) (g5 : τ' 5 = τ 5) (g6 : τ' 6 = τ 6) (g7 : τ' 7 = τ 7) (g8 : τ' 8 = τ 8) (g9 : τ' 9 = τ 9) (g10 : τ' 10 = τ 10) : EQw σ' τ' := by
  unfold EQw at h ⊢; rw [h7, h8, h9, h10, h11, h12, g5, g6, g7, g8, g9, g10]; exact h
theorem EQl.cong {σ σ' τ τ' : Mem} (h : EQl σ τ) (h13 : σ' 13 = σ 13) (h14 : σ' 14 = σ 14) (h15 : σ' 15 = σ 15) (g0 : τ' 0 13 = τ 0 13) (g11 : τ' 11 = τ 11) (g12 : τ' 12 = τ 12) : EQl σ' τ' := by
  unfold EQl at h ⊢; rw [h13, h14, h15, g0, g11, g12]; exact h
/-- what the mutators leave of the caches: nothing is taken as known -/
def rst (σ σ' : Mem) : Prop := σ' 16 9 = 0 ∧ (∀ j, j < 288 → σ' 28 j = -1) ∧ σ' 29 5 = 0 ∧ σ' 30 = σ 30 ∧ σ' 31 = σ 31 ∧ σ' 32 = σ 32
/-- rows or values changed: the readings stay -/
def rst2 (σ σ' : Mem) : Prop := (∀ j, j < 288 → σ' 28 j = -1) ∧ σ' 29 5 = 0 ∧ σ' 30 = σ 30 ∧ σ' 31 = σ 31 ∧ σ' 32 = σ 32 ∧ samC [1, 2, 4, 6, 7, 8, 9, 10, 11, 12, 13, 14, 15, 16, 25] σ σ'
