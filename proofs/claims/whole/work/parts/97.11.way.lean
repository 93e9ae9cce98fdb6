/-- what the reference keeps of the desk itself -/
def sameS (τ τ' : Mem) : Prop := (∀ k, 0 < k → k < 13 → τ' k = τ k) ∧ τ' 0 4 = τ 0 4 ∧ τ' 0 13 = τ 0 13
theorem sameS.rf {τ : Mem} : sameS τ τ := ⟨fun _ _ _ => rfl, rfl, rfl⟩
theorem sameS.tr {x y z : Mem} (h1 : sameS x y) (h2 : sameS y z) : sameS x z := ⟨fun k a b => (h2.1 k a b).trans (h1.1 k a b), h2.2.1.trans h1.2.1, h2.2.2.trans h1.2.2⟩
theorem sameS.EQ {σ τ τ' : Mem} (h : sameS τ τ') (hE : EQ σ τ) : EQ σ τ' := by
  have o : ∀ k, 0 < k → k < 13 → τ' k = τ k := h.1
  exact ⟨hE.1.cong rfl rfl rfl rfl rfl h.2.1 (o 1 (by decide) (by decide)) (o 2 (by decide) (by decide)) (o 3 (by decide) (by decide)) (o 4 (by decide) (by decide)), hE.2.1.cong rfl rfl rfl rfl rfl rfl (o 5 (by decide) (by decide)) (o 6 (by decide) (by decide)) (o 7 (by decide) (by decide)) (o 8 (by decide) (by decide)) (o 9 (by decide) (by decide)) (o 10 (by decide) (by decide)), hE.2.2.cong rfl rfl rfl h.2.2 (o 11 (by decide) (by decide)) (o 12 (by decide) (by decide))⟩
/-- what reading a way leaves -/
def sameW (τ y : Mem) : Prop := (∀ k, k ≠ 0 → k < 21 ∨ 25 < k → y k = τ k) ∧ ∀ j, j < 24 → y 0 j = τ 0 j
theorem sameW.S {τ y : Mem} (h : sameW τ y) : sameS τ y := ⟨fun k a b => h.1 k (by omega) (by omega), h.2 4 (by decide), h.2 13 (by decide)⟩
theorem p3_le {σ : Mem} (hW : WF σ) : 3 ^ nt (σ 13 0) ≤ 6561 := by
  have hP8 := (P_le hW).1
  have : nt (σ 13 0) = 0 ∨ nt (σ 13 0) = 1 ∨ nt (σ 13 0) = 2 ∨ nt (σ 13 0) = 3 ∨ nt (σ 13 0) = 4 ∨ nt (σ 13 0) = 5 ∨ nt (σ 13 0) = 6 ∨ nt (σ 13 0) = 7 ∨ nt (σ 13 0) = 8 := by omega
  rcases this with h | h | h | h | h | h | h | h | h <;> rw [h] <;> decide
theorem cM_cong {σ : Mem} {m m' : Nat → Nat} : ∀ p, (∀ q, q < p → m q = m' q) → cM σ m p = cM σ m' p
  | 0, _ => rfl
  | p + 1, h => by
    have ih := cM_cong (σ := σ) p (fun q hq => h q (by omega))
    show cM σ m p + _ = cM σ m' p + _
    rw [ih, h p (by omega)]
theorem cM_kC {σ : Mem} : ∀ p w, cM σ (dg p w) p = kC σ p w
  | 0, _ => rfl
  | p + 1, w => by
    have ih := cM_kC (σ := σ) p (w / 3)
    show cM σ (dg (p + 1) w) p + _ = kC σ p (w / 3) + _
    rw [cM_cong p (fun q hq => dg_step hq), ih, dg_last]
theorem way9 {σ τ : Mem} (hW : WF σ) (hE : EQ σ τ) {w : Nat} (hw : w < 6561) : ∃ τ1, F_X9_takeWay τ (nI w) = some (b01 (hasR σ w 0), τ1) ∧ sameW τ τ1 ∧ (hasR σ w 0 = false → rdB σ w = false) ∧ (hasR σ w 0 = true → ∃ y, F_X9_reads τ1 = some (b01 (rdB σ w), y) ∧ sameW τ y ∧ (rdB σ w = true → hM2 y (fm σ w) (kC σ (nt (σ 13 0)) w) ∧ ∀ q, q < nt (σ 13 0) → y 21 q = nI (dg (nt (σ 13 0)) w q))) := by
  obtain ⟨τ1, f1, f2, f3⟩ := take9 hW hE hw
  have s1 : sameW τ τ1 := ⟨fun k _ hk => f2 k (by omega), fun j _ => by rw [f2 0 (by decide)]⟩
  have hE1 := s1.S.EQ hE
  refine ⟨τ1, f1, s1, fun h => ?_, fun h => ?_⟩
  · cases hb : rdB σ w with
    | false => rfl
    | true => rw [(rd_iff hW w).mp hb |>.1] at h; exact absurd h (by decide)
  · have hmm : ∀ q, q < nt (σ 13 0) → num σ q = false → dg (nt (σ 13 0)) w q < mny σ q := fun q hq hn => by
      unfold hasR at h
      rw [List.all_eq_true] at h
      have := h q (List.mem_range.mpr hq)
      unfold okd at this
      simp only [Nat.not_lt_zero, decide_false, Bool.false_or] at this
      rw [if_neg (by rw [hn]; decide)] at this
      exact of_decide_eq_true this
    obtain ⟨b, y, g1, g2, g3, g4⟩ := reads9 hW (fun q => dg_lt _ _ q) hmm (x := τ1) ⟨hE1.2.2.1, hE1.2.2.2.1, hE1.2.2.2.2, hE1.2.1, f3⟩ hE1.1.2.1 hE1.1.2.2.2.1
    have eb : b = rdB σ w := by
      rw [Bool.eq_iff_iff, rd_iff hW w, g3]
      exact ⟨fun k => ⟨h, k⟩, fun k => k.2⟩
    subst eb
    refine ⟨y, g1, ⟨fun k hk0 hk => (g2.1 k hk0 (by omega) (by omega) (by omega) (by omega)).trans (s1.1 k hk0 hk), fun j hj => (g2.2 j (by omega) (by omega) (by omega) (by omega) (by omega)).trans (s1.2 j hj)⟩, fun hb => ?_⟩
    have := g4 hb
    rw [cM_kC] at this
    exact ⟨this, fun q hq => by rw [g2.1 21 (by decide) (by decide) (by decide) (by decide) (by decide)]; exact f3 q hq⟩
