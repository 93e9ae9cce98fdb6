/-- reads, whole: its answer, and its fields where it is true -/
theorem reads9 {σ x : Mem} (hW : WF σ) {m : Nat → Nat} (hm : ∀ q, m q < 3) (hmm : ∀ q, q < nt (σ 13 0) → num σ q = false → m q < mny σ q) (hq : MQ9 σ x m) (hx1 : ∀ t, t < nt (σ 1 0) → x 1 t = σ 2 t) (hx4 : ∀ j, j < 16 → j / 4 < nt (σ 1 0) → x 4 j = σ 4 j) : ∃ b y, F_X9_reads x = some (b01 b, y) ∧ sameM x y ∧ (b = true ↔ okL σ m (nt (σ 13 0)) ∧ stS σ (fsE (fsN σ m (nt (σ 13 0)))) = true) ∧ (b = true → hM2 y (fsE (fsN σ m (nt (σ 13 0)))) (cM σ m (nt (σ 13 0)))) := by
  generalize hx0 : st (st (st (st (st x 0 24 (-1)) 0 25 (-1)) 0 26 (-1)) 0 27 0) 0 32 0 = x0
  have s0 : sameM x x0 := by
    rw [← hx0]
    exact (((((sameM.f (by omega)).tr (sameM.f (by omega))).tr (sameM.f (by omega))).tr (sameM.f (by omega))).tr (sameM.f (by omega)))
  have r0 : Rch B_X9_reads 0 x [] 29 x0 [(fsN σ m 0).1 6, nI 0] := Rch.one (by decide) (by rw [← hx0]; rfl)
  have h0 : hM x0 (fsN σ m 0) (cM σ m 0) := by
    rw [← hx0]
    refine ⟨?_, ?_, ?_, ?_, ?_, fun i t h => by simp [fsN, fs0] at h⟩ <;> simp only [st_eq] <;> simp (disch := decide) only [upd_ne, upd_eq] <;> rfl
  have o : ∀ {y : Mem}, sameM x y → (∀ t, t < nt (σ 1 0) → y 1 t = σ 2 t) ∧ (∀ j, j < 16 → j / 4 < nt (σ 1 0) → y 4 j = σ 4 j) := fun {y} h => by
    rw [h.1 1 (by decide) (by decide) (by decide) (by decide) (by decide), h.1 4 (by decide) (by decide) (by decide) (by decide) (by decide)]
    exact ⟨hx1, hx4⟩
  rcases scan9 hW hm hmm (nt (σ 13 0)) 0 (by omega) (fun q h => by omega) x0 (s0.q hq) h0 with ⟨a, y1, b1, b2, b3⟩ | ⟨a, y1, b1, b2⟩
  · have s1 := s0.tr b2
    obtain ⟨y2, c1, c2, c3⟩ := end9 hW (s1.q hq) b3 (one3_all _ a) (okL_F hW hmm _ (Nat.le_refl _) a) (Nat.le_trans (fsN_len σ m _) (P_le hW).1) (o s1).1 (o s1).2
    refine ⟨stS σ (fsE (fsN σ m (nt (σ 13 0)))), y2, fin_M (r0.tr (b1.tr c1)), s1.tr c2, ⟨fun h => ⟨a, h⟩, fun h => h.2⟩, c3⟩
  · exact ⟨false, y1, fin_M (r0.tr b1), s0.tr b2, ⟨fun h => absurd h (by decide), fun h => absurd h.1 a⟩, fun h => absurd h (by decide)⟩
