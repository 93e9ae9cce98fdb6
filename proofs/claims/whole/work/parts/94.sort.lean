/-! sorting by a cost: how many cost less, how many the same; the sorted list -/
def bs (co : Nat → Nat) (R : List Nat) (c : Nat) : Nat := (R.filter (fun w => decide (co w < c))).length
def fl (co : Nat → Nat) (R : List Nat) (c : Nat) : List Nat := R.filter (fun w => decide (co w = c))
def ct (co : Nat → Nat) (R : List Nat) (c : Nat) : Nat := (fl co R c).length
def srt (co : Nat → Nat) (R : List Nat) (N : Nat) : List Nat := (List.range N).flatMap (fl co R)
theorem bs_0 {co : Nat → Nat} {R : List Nat} : bs co R 0 = 0 := by
  unfold bs
  induction R with
  | nil => rfl
  | cons a R ih => simp
theorem bs_succ {co : Nat → Nat} {R : List Nat} {c : Nat} : bs co R (c + 1) = bs co R c + ct co R c := by
  unfold bs ct fl
  induction R with
  | nil => rfl
  | cons a R ih =>
    simp only [List.filter_cons]
    by_cases h1 : co a < c
    · simp [h1, show co a < c + 1 by omega, show ¬ co a = c by omega]
      omega
    · by_cases h2 : co a = c
      · simp [h2]
        omega
      · simp [h1, h2, show ¬ co a < c + 1 by omega]
        exact ih
theorem bs_mono {co : Nat → Nat} {R : List Nat} {c : Nat} : ∀ k, bs co R c ≤ bs co R (c + k)
  | 0 => Nat.le_refl _
  | k + 1 => by
    have h1 := bs_mono (co := co) (R := R) (c := c) k
    have h2 := bs_succ (co := co) (R := R) (c := c + k)
    rw [show c + (k + 1) = c + k + 1 by omega, h2]
    omega
theorem bs_le {co : Nat → Nat} {R : List Nat} {c : Nat} : bs co R c ≤ R.length := List.length_filter_le _ _
theorem bs_all {co : Nat → Nat} {R : List Nat} {N : Nat} (h : ∀ w, w ∈ R → co w < N) : bs co R N = R.length := by
  unfold bs
  rw [List.filter_eq_self.mpr (fun w hw => by simp [h w hw])]
theorem fl_snoc {co : Nat → Nat} {R : List Nat} {w c : Nat} : fl co (R ++ [w]) c = fl co R c ++ (if co w = c then [w] else []) := by
  unfold fl
  rw [List.filter_append]
  by_cases h : co w = c
  · simp [h]
  · simp [h]
theorem fl_take {co : Nat → Nat} {R : List Nat} {i c : Nat} : ct co (R.take i) c ≤ ct co R c := by
  unfold ct fl
  exact ((List.take_sublist i R).filter _).length_le
theorem fl_lt {co : Nat → Nat} {R : List Nat} {i w : Nat} (h : R[i]? = some w) : ct co (R.take i) (co w) < ct co R (co w) := by
  have h1 := fl_take (co := co) (R := R) (i := i + 1) (c := co w)
  have htk : R.take (i + 1) = R.take i ++ [w] := by rw [List.take_add_one, h]; rfl
  rw [htk] at h1
  unfold ct at h1 ⊢
  rw [fl_snoc, if_pos rfl, List.length_append] at h1
  simp at h1
  omega
theorem srt_len {co : Nat → Nat} {R : List Nat} : ∀ N, (srt co R N).length = bs co R N
  | 0 => bs_0.symm
  | N + 1 => by
    have h := srt_len (co := co) (R := R) N
    unfold srt at h ⊢
    rw [List.range_succ, List.flatMap_append, List.length_append, h, bs_succ]
    simp [ct]
theorem srt_at {co : Nat → Nat} {R : List Nat} {j w : Nat} : ∀ N, (srt co R N)[j]? = some w → ∃ c t, c < N ∧ j = bs co R c + t ∧ (fl co R c)[t]? = some w
  | 0, h => by simp [srt] at h
  | N + 1, h => by
    have hl := srt_len (co := co) (R := R) N
    have e : srt co R (N + 1) = srt co R N ++ fl co R N := by
      unfold srt
      rw [List.range_succ, List.flatMap_append]
      simp
    rw [e] at h
    by_cases hj : j < (srt co R N).length
    · rw [List.getElem?_append_left hj] at h
      obtain ⟨c, t, h1, h2, h3⟩ := srt_at N h
      exact ⟨c, t, by omega, h2, h3⟩
    · rw [List.getElem?_append_right (by omega), hl] at h
      exact ⟨N, j - bs co R N, by omega, by omega, h⟩
theorem srt_mem {co : Nat → Nat} {R : List Nat} {w N : Nat} (h : w ∈ srt co R N) : w ∈ R := by
  unfold srt fl at h
  obtain ⟨c, -, h2⟩ := List.mem_flatMap.mp h
  exact (List.mem_filter.mp h2).1
/-- where the i-th of R comes to: in range, and apart from the places taken -/
theorem slot_lt {co : Nat → Nat} {R : List Nat} {i w : Nat} (h : R[i]? = some w) : bs co R (co w) + ct co (R.take i) (co w) < R.length := by
  have h1 := fl_lt (co := co) h
  have h2 := bs_succ (co := co) (R := R) (c := co w)
  have h3 := bs_le (co := co) (R := R) (c := co w + 1)
  omega
theorem slt_ne {co : Nat → Nat} {R : List Nat} {i w c t : Nat} (h : R[i]? = some w) (ht : t < ct co (R.take i) c) : bs co R c + t ≠ bs co R (co w) + ct co (R.take i) (co w) := by
  have a1 := fl_lt (co := co) h
  have a2 := fl_take (co := co) (R := R) (i := i) (c := c)
  intro e
  rcases Nat.lt_trichotomy c (co w) with hc | hc | hc
  · have b1 := bs_succ (co := co) (R := R) (c := c)
    have b2 := bs_mono (co := co) (R := R) (c := c + 1) (co w - (c + 1))
    rw [show c + 1 + (co w - (c + 1)) = co w by omega] at b2
    omega
  · subst hc; omega
  · have b1 := bs_succ (co := co) (R := R) (c := co w)
    have b2 := bs_mono (co := co) (R := R) (c := co w + 1) (c - (co w + 1))
    rw [show co w + 1 + (c - (co w + 1)) = c by omega] at b2
    omega
