/-- a choice of meanings that the grammar of neighbours allows -/
def vm (σ : Mem) (m : Nat → Nat) : Prop := ∀ p, p < nt (σ 13 0) → num σ p = false → m p < mny σ p ∧ (sr σ p (m p) = 4 → 0 < p ∧ num σ (p - 1) = false ∧ sr σ (p - 1) (m (p - 1)) = 1 ∧ numNext σ p = true)
def okT (σ : Mem) (t : Nat → Int32) : Prop := ∃ u c h, u < nt (σ 1 0) ∧ c < nt (σ 2 u) ∧ h < 3 ∧ t 1 = nI u ∧ t 2 = nI c ∧ t 3 = nI h ∧ small (t 4)
def okF (σ : Mem) (p : Nat) (f : FS) : Prop :=
  (∃ n, n ≤ p ∧ f.1 0 = nI n) ∧ (∃ d, d < 4 ∧ f.1 1 = nI d) ∧ (∃ n, n ≤ p ∧ f.1 2 = nI n ∧ ((n = 0 ∧ f.1 3 = -1) ∨ (0 < n ∧ ∃ u, u < nt (σ 1 0) ∧ f.1 3 = nI u))) ∧
  (∃ n, n ≤ p ∧ f.1 4 = nI n ∧ ((n = 0 ∧ f.1 5 = -1 ∧ f.1 6 = -1) ∨ (0 < n ∧ ∃ u c, u < nt (σ 1 0) ∧ c < nt (σ 2 u) ∧ f.1 6 = nI u ∧ f.1 5 = nI c))) ∧ ∀ t, t ∈ f.2 → okT σ t
theorem okM_sr {σ : Mem} (hW : WF σ) {p k : Nat} (hp : p < nt (σ 13 0)) (hn : num σ p = false) (hk : k < mny σ p) : okM σ (3 * tk σ p + k) ∧ σ 8 (3 * tk σ p + k) = nI (sr σ p k) ∧ k < 3 := by
  obtain ⟨ht, -⟩ := tk_lt hW hp hn
  obtain ⟨h3, -⟩ := mny_le hW hp hn
  refine ⟨hW.2.1.2.2.2.2.2.1 (tk σ p) k ht hk, ?_, by omega⟩
  obtain ⟨s, hs, e⟩ := hW.2.1.2.1 (3 * tk σ p + k) (by omega)
  unfold sr
  rw [e, nt_nI (by omega)]
theorem nat9 {σ : Mem} (hW : WF σ) {j : Nat} (hj : j < 120) : σ 9 j = nI (nt (σ 9 j)) ∧ σ 10 j = nI (nt (σ 10 j)) := by
  obtain ⟨a, ha, e⟩ := hW.2.1.2.2.1 j hj
  obtain ⟨b, hb, e2⟩ := hW.2.1.2.2.2.1 j hj
  rw [e, e2, nt_nI ha, nt_nI (by omega)]
  exact ⟨rfl, rfl⟩
theorem col_ok {σ : Mem} {j s : Nat} (h : okM σ j) (e : σ 8 j = nI s) (hs : s = 1 ∨ s = 3) : nt (σ 9 j) < nt (σ 1 0) ∧ nt (σ 10 j) < nt (σ 2 (nt (σ 9 j))) ∧ (s = 3 → small (σ 11 j)) := by
  have inj : ∀ k, k ≤ 5 → σ 8 j = nI k → s = k := fun k hk he => by
    rw [e] at he
    exact nI_inj (by omega) (by omega) he
  rcases h with ⟨a, -⟩ | ⟨a, b, c⟩ | ⟨a, -⟩ | ⟨a, b, c, d⟩ | ⟨a, -⟩ | a
  · have := inj 0 (by decide) a; omega
  · exact ⟨b, c, fun h3 => by have := inj 1 (by decide) a; omega⟩
  · have := inj 2 (by decide) a; omega
  · exact ⟨b, c, fun _ => d⟩
  · have := inj 4 (by decide) a; omega
  · have := inj 5 (by decide) a; omega
theorem one_ok {σ : Mem} {j s : Nat} (h : okM σ j) (e : σ 8 j = nI s) (hs5 : s ≤ 5) : (s = 0 → nt (σ 9 j) < nt (σ 1 0)) ∧ (s = 2 → nt (σ 9 j) < 4) ∧ (s = 4 → nt (σ 9 j) < 3) := by
  have inj : ∀ k, k ≤ 5 → σ 8 j = nI k → s = k := fun k hk he => by
    rw [e] at he
    exact nI_inj (by omega) (by omega) he
  rcases h with ⟨a, b⟩ | ⟨a, -⟩ | ⟨a, b⟩ | ⟨a, -⟩ | ⟨a, b⟩ | a
  · have := inj 0 (by decide) a; exact ⟨fun _ => b, by omega, by omega⟩
  · have := inj 1 (by decide) a; exact ⟨by omega, by omega, by omega⟩
  · have := inj 2 (by decide) a; exact ⟨by omega, fun _ => b, by omega⟩
  · have := inj 3 (by decide) a; exact ⟨by omega, by omega, by omega⟩
  · have := inj 4 (by decide) a; exact ⟨by omega, by omega, fun _ => b⟩
  · have := inj 5 (by decide) a; exact ⟨by omega, by omega, by omega⟩
theorem okF_step {σ : Mem} (hW : WF σ) {m : Nat → Nat} {p : Nat} (hv : ∀ q, q ≤ p → q < nt (σ 13 0) → num σ q = false → m q < mny σ q ∧ (sr σ q (m q) = 4 → 0 < q ∧ num σ (q - 1) = false ∧ sr σ (q - 1) (m (q - 1)) = 1 ∧ numNext σ q = true)) (hp : p < nt (σ 13 0)) {f : FS} (h : okF σ p f) : okF σ (p + 1) (stp σ m p f) := by
  have hP8 := (P_le hW).1
  obtain ⟨⟨n0, g0, e0⟩, ⟨d, gd, ed⟩, ⟨n2, g2, e2, k2⟩, ⟨n4, g4, e4, k4⟩, ht⟩ := id h
  have hup : okF σ (p + 1) f := ⟨⟨n0, by omega, e0⟩, ⟨d, gd, ed⟩, ⟨n2, by omega, e2, k2⟩, ⟨n4, by omega, e4, k4⟩, ht⟩
  unfold stp
  by_cases hn : num σ p = true
  · rw [if_pos hn]; exact hup
  have hn' : num σ p = false := by simpa using hn
  obtain ⟨v1, v2⟩ := hv p (Nat.le_refl p) hp hn'
  obtain ⟨q1, q2, q3⟩ := okM_sr hW hp hn' v1
  obtain ⟨htk, -⟩ := tk_lt hW hp hn'
  obtain ⟨a9, a10⟩ := nat9 hW (show 3 * tk σ p + m p < 120 by omega)
  have s5 := (sr_at hW hp hn' q3).2
  obtain ⟨o0, o2, o4⟩ := one_ok q1 q2 s5
  rw [if_neg hn]
  by_cases c0 : sr σ p (m p) = 0
  · rw [if_pos c0]
    refine ⟨⟨n0, by omega, ?_⟩, ⟨d, gd, ?_⟩, ⟨n2 + 1, by omega, ?_, Or.inr ⟨by omega, _, o0 c0, ?_⟩⟩, ⟨n4, by omega, ?_, ?_⟩, ht⟩
    · dsimp only
      rw [upd_ne (by decide), upd_ne (by decide)]; exact e0
    · dsimp only
      rw [upd_ne (by decide), upd_ne (by decide)]; exact ed
    · dsimp only
      rw [upd_ne (by decide), upd_eq, e2, nI_1]
    · dsimp only
      rw [upd_eq]; exact a9
    · dsimp only
      rw [upd_ne (by decide), upd_ne (by decide)]; exact e4
    · dsimp only
      simp only [upd, show ¬ (5 : Nat) = 3 by decide, show ¬ (5 : Nat) = 2 by decide, show ¬ (6 : Nat) = 3 by decide, show ¬ (6 : Nat) = 2 by decide, if_false]
      exact k4
  rw [if_neg c0]
  by_cases c1 : sr σ p (m p) = 1
  · rw [if_pos c1]
    by_cases hth : thanN σ m p = true
    · rw [if_pos hth]; exact hup
    · rw [if_neg hth]
      obtain ⟨z1, z2, -⟩ := col_ok q1 q2 (Or.inl c1)
      refine ⟨⟨n0, by omega, ?_⟩, ⟨d, gd, ?_⟩, ⟨n2, by omega, ?_, ?_⟩, ⟨n4 + 1, by omega, ?_, Or.inr ⟨by omega, _, _, z1, z2, ?_, ?_⟩⟩, ht⟩
      · dsimp only
        rw [upd_ne (by decide), upd_ne (by decide), upd_ne (by decide)]; exact e0
      · dsimp only
        rw [upd_ne (by decide), upd_ne (by decide), upd_ne (by decide)]; exact ed
      · dsimp only
        rw [upd_ne (by decide), upd_ne (by decide), upd_ne (by decide)]; exact e2
      · dsimp only
        simp only [upd, show ¬ (3 : Nat) = 5 by decide, show ¬ (3 : Nat) = 6 by decide, show ¬ (3 : Nat) = 4 by decide, if_false]
        exact k2
      · dsimp only
        rw [upd_ne (by decide), upd_ne (by decide), upd_eq, e4, nI_1]
      · dsimp only
        rw [upd_ne (by decide), upd_eq]; exact a9
      · dsimp only
        rw [upd_eq]; exact a10
  rw [if_neg c1]
  by_cases c2 : sr σ p (m p) = 2
  · rw [if_pos c2]
    refine ⟨⟨n0 + 1, by omega, ?_⟩, ⟨_, o2 c2, ?_⟩, ⟨n2, by omega, ?_, ?_⟩, ⟨n4, by omega, ?_, ?_⟩, ht⟩
    · dsimp only
      rw [upd_ne (by decide), upd_eq, e0, nI_1]
    · dsimp only
      rw [upd_eq]; exact a9
    · dsimp only
      rw [upd_ne (by decide), upd_ne (by decide)]; exact e2
    · dsimp only
      simp only [upd, show ¬ (3 : Nat) = 1 by decide, show ¬ (3 : Nat) = 0 by decide, if_false]
      exact k2
    · dsimp only
      rw [upd_ne (by decide), upd_ne (by decide)]; exact e4
    · dsimp only
      simp only [upd, show ¬ (5 : Nat) = 1 by decide, show ¬ (5 : Nat) = 0 by decide, show ¬ (6 : Nat) = 1 by decide, show ¬ (6 : Nat) = 0 by decide, if_false]
      exact k4
  rw [if_neg c2]
  by_cases c3 : sr σ p (m p) = 3
  · rw [if_pos c3]
    obtain ⟨z1, z2, z3⟩ := col_ok q1 q2 (Or.inr c3)
    refine ⟨hup.1, hup.2.1, hup.2.2.1, hup.2.2.2.1, fun t hm2 => ?_⟩
    rcases List.mem_append.mp hm2 with h1 | h1
    · exact ht t h1
    · rw [List.mem_singleton.mp h1]
      exact ⟨_, _, 2, z1, z2, by decide, a9, a10, rfl, z3 c3⟩
  rw [if_neg c3]
  by_cases c4 : sr σ p (m p) = 4
  · rw [if_pos c4]
    obtain ⟨w1, w2, w3, w4⟩ := v2 c4
    rw [if_pos ⟨w1, w2, w4⟩]
    obtain ⟨u1, -⟩ := hv (p - 1) (by omega) (by omega) w2
    obtain ⟨r1, r2, r3⟩ := okM_sr hW (show p - 1 < nt (σ 13 0) by omega) w2 u1
    obtain ⟨htk2, -⟩ := tk_lt hW (show p - 1 < nt (σ 13 0) by omega) w2
    obtain ⟨z1, z2, -⟩ := col_ok r1 r2 (Or.inl w3)
    obtain ⟨b9, b10⟩ := nat9 hW (show 3 * tk σ (p - 1) + m (p - 1) < 120 by omega)
    refine ⟨hup.1, hup.2.1, hup.2.2.1, hup.2.2.2.1, fun t hm2 => ?_⟩
    rcases List.mem_append.mp hm2 with h1 | h1
    · exact ht t h1
    · rw [List.mem_singleton.mp h1]
      have hnn : p + 1 < nt (σ 13 0) ∧ num σ (p + 1) = true := by
        unfold numNext at w4
        simpa using w4
      have hsm : small (σ 15 (p + 1)) := hW.2.2.2.2.2 (p + 1) hnn.1 (by
        rcases hW.2.2.2.1 (p + 1) (by omega) with h | h
        · have : num σ (p + 1) = false := by unfold num; rw [h]; rfl
          rw [this] at hnn; exact absurd hnn.2 (by decide)
        · exact h)
      exact ⟨_, _, _, z1, z2, o4 c4, b9, b10, a9, hsm⟩
  rw [if_neg c4]
  exact hup
theorem okF_all {σ : Mem} (hW : WF σ) {m : Nat → Nat} (hv : vm σ m) : ∀ p, p ≤ nt (σ 13 0) → okF σ p (fsN σ m p)
  | 0, _ => ⟨⟨0, Nat.le_refl _, rfl⟩, ⟨0, by decide, rfl⟩, ⟨0, Nat.le_refl _, rfl, Or.inl ⟨rfl, rfl⟩⟩, ⟨0, Nat.le_refl _, rfl, Or.inl ⟨rfl, rfl, rfl⟩⟩, fun t h => by simp [fsN, fs0] at h⟩
  | p + 1, h => okF_step hW (fun q _ hq => hv q hq) (by omega) (okF_all hW hv p (by omega))
