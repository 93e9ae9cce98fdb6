/-- at most one of each, and no DOING is COUNT -/
def one3 (f : FS) : Prop := (∃ n, n ≤ 1 ∧ f.1 0 = nI n) ∧ (∃ n, n ≤ 1 ∧ f.1 2 = nI n) ∧ (∃ n, n ≤ 1 ∧ f.1 4 = nI n) ∧ (f.1 0 = 0 → f.1 1 = 0)
theorem one3_step {σ : Mem} {m : Nat → Nat} {p : Nat} {f : FS} (h : one3 f) (ho : okp σ m p f) : one3 (stp σ m p f) := by
  obtain ⟨a0, a2, a4, a1⟩ := id h
  unfold okp at ho
  unfold stp
  by_cases hn : num σ p = true
  · rw [if_pos hn]; exact h
  rw [if_neg hn] at ho
  rw [if_neg hn]
  obtain ⟨o4, o0, o2, o1⟩ := ho
  have inc : ∀ {z : Int32}, z = 0 → z + 1 = nI 1 := fun e => by rw [e]; rfl
  by_cases c0 : sr σ p (m p) = 0
  · rw [if_pos c0]
    refine ⟨?_, ⟨1, by decide, ?_⟩, ?_, ?_⟩
    · dsimp only; simp (disch := decide) only [upd_ne]; exact a0
    · dsimp only; simp (disch := decide) only [upd_ne, upd_eq]; exact inc (o0 c0)
    · dsimp only; simp (disch := decide) only [upd_ne]; exact a4
    · dsimp only; simp (disch := decide) only [upd_ne]; exact a1
  rw [if_neg c0]
  by_cases c1 : sr σ p (m p) = 1
  · rw [if_pos c1]
    by_cases ht : thanN σ m p = true
    · rw [if_pos ht]; exact h
    · rw [if_neg ht]
      refine ⟨?_, ?_, ⟨1, by decide, ?_⟩, ?_⟩
      · dsimp only; simp (disch := decide) only [upd_ne]; exact a0
      · dsimp only; simp (disch := decide) only [upd_ne]; exact a2
      · dsimp only; simp (disch := decide) only [upd_ne, upd_eq]; exact inc (o1 c1 (by simpa using ht))
      · dsimp only; simp (disch := decide) only [upd_ne]; exact a1
  rw [if_neg c1]
  by_cases c2 : sr σ p (m p) = 2
  · rw [if_pos c2]
    refine ⟨⟨1, by decide, ?_⟩, ?_, ?_, ?_⟩
    · dsimp only; simp (disch := decide) only [upd_ne, upd_eq]; exact inc (o2 c2)
    · dsimp only; simp (disch := decide) only [upd_ne]; exact a2
    · dsimp only; simp (disch := decide) only [upd_ne]; exact a4
    · dsimp only; simp (disch := decide) only [upd_ne, upd_eq]
      intro e
      rw [inc (o2 c2)] at e
      exact absurd e (by decide)
  rw [if_neg c2]
  by_cases c3 : sr σ p (m p) = 3
  · rw [if_pos c3]; exact h
  rw [if_neg c3]
  by_cases c4 : sr σ p (m p) = 4
  · rw [if_pos c4]
    split
    · exact h
    · exact h
  rw [if_neg c4]
  exact h
theorem one3_all {σ : Mem} {m : Nat → Nat} : ∀ p, okL σ m p → one3 (fsN σ m p)
  | 0, _ => ⟨⟨0, by decide, rfl⟩, ⟨0, by decide, rfl⟩, ⟨0, by decide, rfl⟩, fun _ => rfl⟩
  | p + 1, h => one3_step (one3_all p (fun q hq => h q (by omega))) (h p (by omega))
