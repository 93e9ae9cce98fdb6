theorem place9 {σ x : Mem} (hW : WF σ) {m : Nat → Nat} (hq : MQ9 σ x m) (hm : ∀ q, m q < 3) {p c : Nat} (hp : p < nt (σ 13 0)) {f : FS} (hok : okF σ p f) (hf : hM x f c) (hl : f.2.length ≤ p) : (okp σ m p f ∧ ∃ y', Rch B_X9_reads 29 x [f.1 6, nI p] 29 y' [(stp σ m p f).1 6, nI (p + 1)] ∧ sameM x y' ∧ hM y' (stp σ m p f) (c + if num σ p = true then 0 else cs σ p (m p))) ∨ (¬ okp σ m p f ∧ ∃ y', Rch B_X9_reads 29 x [f.1 6, nI p] 99999 y' [0] ∧ sameM x y') := by
  obtain ⟨hP8, hP⟩ := P_le hW
  have hnle : ¬ x 0 13 ≤ nI p := by rw [hq.1, hP]; exact nI_ge hp (by omega)
  by_cases hn : num σ p = true
  · have hn14 : ¬ σ 14 p = 0 := by simpa [num] using hn
    have hpv := is9p hW hq hm (s := 4) hp (by decide)
    have hpv' : F_X9_is x (nI p - 1) 4 = some (b01 (decide (0 < p) && !num σ (p - 1) && decide (sr σ (p - 1) (m (p - 1)) = 4))) := hpv
    have hst : stp σ m p f = f := by unfold stp; rw [if_pos hn]
    have blk : B_X9_reads 29 x [f.1 6, nI p] = if b01 (decide (0 < p) && !num σ (p - 1) && decide (sr σ (p - 1) (m (p - 1)) = 4)) = 0 then some (99999, x, [0]) else some (324, x, [f.1 6, nI p]) := by
      show B_X9_reads_29 x _ _ = _
      unfold B_X9_reads_29
      rw [if_neg hnle, ld_at (by omega) (by decide), bind_some', hq.2.1 p (by omega), if_neg hn14, hpv', bind_some']
    unfold okp
    rw [if_pos hn, hst]
    by_cases hb : 0 < p ∧ num σ (p - 1) = false ∧ sr σ (p - 1) (m (p - 1)) = 4
    · have hb' : (decide (0 < p) && !num σ (p - 1) && decide (sr σ (p - 1) (m (p - 1)) = 4)) = true := by simp [hb.1, hb.2.1, hb.2.2]
      refine Or.inl ⟨hb, x, (Rch.one (p' := 324) (x' := x) (vs' := [f.1 6, nI p]) (by decide) ?_).tr g324, sameM.rf, ?_⟩
      · rw [blk, hb', if_neg (show ¬ b01 true = 0 by decide)]
      · rw [if_pos hn, Nat.add_zero]; exact hf
    · have hb' : (decide (0 < p) && !num σ (p - 1) && decide (sr σ (p - 1) (m (p - 1)) = 4)) = false := by
        cases hx : (decide (0 < p) && !num σ (p - 1) && decide (sr σ (p - 1) (m (p - 1)) = 4)) with
        | false => rfl
        | true =>
          simp at hx
          exact absurd ⟨hx.1.1, hx.1.2, hx.2⟩ hb
      refine Or.inr ⟨hb, x, Rch.one (by decide) ?_, sameM.rf⟩
      rw [blk, hb', if_pos (show b01 false = 0 by decide)]
  · have hn' : num σ p = false := by simpa using hn
    have hmp := hm p
    obtain ⟨ht, -⟩ := tk_lt hW hp hn'
    obtain ⟨c1, c2⟩ := cs_le hW hp hn' hmp
    obtain ⟨f1, f2, f3, f4, f5, f6⟩ := id hf
    have hat := at9 hW hq hm hp
    rw [if_neg hn] at hat
    have z : ∀ i, i ≠ 27 → st x 0 27 (nI (c + cs σ p (m p))) 0 i = x 0 i := fun i hi => by rw [st_eq, upd_ne hi]
    have hsm : sameM x (st x 0 27 (nI (c + cs σ p (m p)))) := sameM.f (by omega)
    have hq' := hsm.q hq
    have hf' : hM (st x 0 27 (nI (c + cs σ p (m p)))) f (c + cs σ p (m p)) := ⟨(z 24 (by decide)).trans f1, (z 25 (by decide)).trans f2, (z 26 (by decide)).trans f3, by rw [st_eq, upd_eq], (z 32 (by decide)).trans f5, by simp (disch := decide) only [st_ne]; exact f6⟩
    have r0 : Rch B_X9_reads 29 x [f.1 6, nI p] 108 (st x 0 27 (nI (c + cs σ p (m p)))) [f.1 6, nI p, nI (3 * tk σ p + m p), b01 (numNext σ p)] := by
      refine Rch.one (by decide) ?_
      show B_X9_reads_29 x _ _ = _
      unfold B_X9_reads_29
      rw [if_neg hnle, ld_at (by omega) (by decide), bind_some', hq.2.1 p (by omega), if_pos (show σ 14 p = (0 : Int32) from num_f hn'), hat, bind_some', ld_at (by omega) (by decide), bind_some', hq.2.2.2.1.2.2.2.2.2 _ (by omega), c2, f4, nI_add, bind_some', z 13 (by decide), hq.1, hP, nI_1]
      by_cases hp1 : p + 1 < nt (σ 13 0)
      · rw [if_neg (nI_ge hp1 (by omega)), ld_at (by omega) (by decide), bind_some', st_ne (by decide), hq.2.1 (p + 1) (by omega)]
        by_cases h14 : σ 14 (p + 1) = 0
        · have hx : numNext σ p = false := by unfold numNext num; simp [h14]
          rw [if_pos h14, hx]; rfl
        · have hx : numNext σ p = true := by unfold numNext num; simp [h14, hp1]
          rw [if_neg h14, hx]; rfl
      · have hx : numNext σ p = false := by unfold numNext; simp [hp1]
        rw [if_pos (nI_le (by omega) (by omega)), hx]; rfl
    rw [if_neg hn]
    rcases word9 hW hq' hm hp hn' hok hf' hl with ⟨a, y', b1, b2, b3⟩ | ⟨a, y', b1, b2⟩
    · exact Or.inl ⟨a, y', r0.tr b1, hsm.tr b2, b3⟩
    · exact Or.inr ⟨a, y', r0.tr b1, hsm.tr b2⟩
/-- all places up to p may stand -/
def okL (σ : Mem) (m : Nat → Nat) (p : Nat) : Prop := ∀ q, q < p → okp σ m q (fsN σ m q)
def cM (σ : Mem) (m : Nat → Nat) : Nat → Nat
  | 0 => 0
  | p + 1 => cM σ m p + if num σ p = true then 0 else cs σ p (m p)
theorem okL_F {σ : Mem} (hW : WF σ) {m : Nat → Nat} (hmm : ∀ q, q < nt (σ 13 0) → num σ q = false → m q < mny σ q) : ∀ p, p ≤ nt (σ 13 0) → okL σ m p → okF σ p (fsN σ m p)
  | 0, _, _ => ⟨⟨0, Nat.le_refl _, rfl⟩, ⟨0, by decide, rfl⟩, ⟨0, Nat.le_refl _, rfl, Or.inl ⟨rfl, rfl⟩⟩, ⟨0, Nat.le_refl _, rfl, Or.inl ⟨rfl, rfl, rfl⟩⟩, fun t h => by simp [fsN, fs0] at h⟩
  | p + 1, h, hL => okF_step hW (fun q hq hqP hn => by
      refine ⟨hmm q hqP hn, fun h4 => ?_⟩
      have := hL q (by omega)
      unfold okp at this
      rw [if_neg (by rw [hn]; decide)] at this
      exact this.1 h4) (by omega) (okL_F hW hmm p (by omega) (fun q hq => hL q (by omega)))
theorem scan9 {σ : Mem} (hW : WF σ) {m : Nat → Nat} (hm : ∀ q, m q < 3) (hmm : ∀ q, q < nt (σ 13 0) → num σ q = false → m q < mny σ q) : ∀ n p, p + n = nt (σ 13 0) → okL σ m p → ∀ x, MQ9 σ x m → hM x (fsN σ m p) (cM σ m p) → (okL σ m (nt (σ 13 0)) ∧ ∃ y', Rch B_X9_reads 29 x [(fsN σ m p).1 6, nI p] 29 y' [(fsN σ m (nt (σ 13 0))).1 6, nI (nt (σ 13 0))] ∧ sameM x y' ∧ hM y' (fsN σ m (nt (σ 13 0))) (cM σ m (nt (σ 13 0)))) ∨ (¬ okL σ m (nt (σ 13 0)) ∧ ∃ y', Rch B_X9_reads 29 x [(fsN σ m p).1 6, nI p] 99999 y' [0] ∧ sameM x y') := by
  intro n
  induction n with
  | zero =>
    intro p hp hL x hq hf
    have : p = nt (σ 13 0) := by omega
    rw [this] at hL hf ⊢
    exact Or.inl ⟨hL, x, Rch.rf, sameM.rf, hf⟩
  | succ n ih =>
    intro p hp hL x hq hf
    rcases place9 hW hq hm (show p < nt (σ 13 0) by omega) (okL_F hW hmm p (by omega) hL) hf (fsN_len σ m p) with ⟨a, y', b1, b2, b3⟩ | ⟨a, y', b1, b2⟩
    · have hL' : okL σ m (p + 1) := fun q hq2 => by
        by_cases h : q = p
        · rw [h]; exact a
        · exact hL q (by omega)
      rcases ih (p + 1) (by omega) hL' y' (b2.q hq) b3 with ⟨c1, y2, c2, c3, c4⟩ | ⟨c1, y2, c2, c3⟩
      · exact Or.inl ⟨c1, y2, b1.tr c2, b2.tr c3, c4⟩
      · exact Or.inr ⟨c1, y2, b1.tr c2, b2.tr c3⟩
    · exact Or.inr ⟨fun h => a (h p (by omega)), y', b1, b2⟩
