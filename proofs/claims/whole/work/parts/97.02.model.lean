/-- the reference's memory while a way is read: the question as in σ, the meanings m -/
def MQ9 (σ x : Mem) (m : Nat → Nat) : Prop := x 0 13 = σ 13 0 ∧ (∀ p, p < 8 → x 12 p = σ 14 p) ∧ (∀ p, p < 8 → x 11 p = σ 15 p) ∧ EQw σ x ∧ ∀ q, q < nt (σ 13 0) → x 21 q = nI (m q)
theorem at9 {σ x : Mem} (hW : WF σ) {m : Nat → Nat} (h : MQ9 σ x m) (hm : ∀ q, m q < 3) {q : Nat} (hq : q < nt (σ 13 0)) : F_X9_at x (nI q) = some (if num σ q = true then -1 else nI (3 * tk σ q + m q)) := by
  obtain ⟨hP8, hP⟩ := P_le hW
  obtain ⟨h1, h2, h3, h4, h5⟩ := h
  unfold F_X9_at
  rw [if_neg (nI_pos (by omega)), h1, hP, if_neg (nI_ge hq (by omega)), ld_at (by omega) (by decide), bind_some', h2 q (by omega)]
  by_cases hn : num σ q = true
  · have hn14 : ¬ σ 14 q = 0 := by simpa [num] using hn
    rw [if_neg hn14, if_pos hn]
  · have hn' : num σ q = false := by simpa using hn
    obtain ⟨ht, et⟩ := tk_lt hW hq hn'
    rw [if_pos (show σ 14 q = (0 : Int32) from num_f hn'), ld_at (by omega) (by decide), bind_some', ld_at (by omega) (by decide), bind_some', h3 q (by omega), et, h5 q hq, l3, nI_add, if_neg hn]
theorem at9o {σ x : Mem} (hW : WF σ) {m : Nat → Nat} (h : MQ9 σ x m) {q : Nat} (hq : nt (σ 13 0) ≤ q) (hq2 : q < 100) : F_X9_at x (nI q) = some (-1) := by
  obtain ⟨hP8, hP⟩ := P_le hW
  unfold F_X9_at
  rw [if_neg (nI_pos (by omega)), h.1, hP, if_pos (nI_le hq (by omega))]
theorem is9 {σ x : Mem} (hW : WF σ) {m : Nat → Nat} (h : MQ9 σ x m) (hm : ∀ q, m q < 3) {q s : Nat} (hq : q < nt (σ 13 0)) (hs : s ≤ 5) : F_X9_is x (nI q) (nI s) = some (b01 (!num σ q && decide (sr σ q (m q) = s))) := by
  have hmq := hm q
  unfold F_X9_is
  rw [at9 hW h hm hq, bind_some']
  by_cases hn : num σ q = true
  · rw [if_pos hn, if_pos (by decide)]
    simp [hn, b01]
  · have hn' : num σ q = false := by simpa using hn
    obtain ⟨ht, et⟩ := tk_lt hW hq hn'
    obtain ⟨-, s5⟩ := sr_at hW hq hn' hmq
    obtain ⟨s1, hs1, e⟩ := hW.2.1.2.1 (3 * tk σ q + m q) (by omega)
    have es : σ 8 (3 * tk σ q + m q) = nI (sr σ q (m q)) := by unfold sr; rw [e, nt_nI (by omega)]
    rw [if_neg hn, if_neg (nI_pos (by omega)), ld_at (by omega) (by decide), bind_some', h.2.2.2.1.2.1 _ (by omega), es]
    by_cases hh : sr σ q (m q) = s
    · rw [if_pos (by rw [hh])]
      simp [hn', hh, b01]
    · rw [if_neg (fun e => hh (nI_inj (by omega) (by omega) e))]
      simp [hn', hh, b01]
theorem is9p {σ x : Mem} (hW : WF σ) {m : Nat → Nat} (h : MQ9 σ x m) (hm : ∀ q, m q < 3) {p s : Nat} (hp : p < nt (σ 13 0)) (hs : s ≤ 5) : F_X9_is x (nI p - 1) (nI s) = some (b01 (decide (0 < p) && !num σ (p - 1) && decide (sr σ (p - 1) (m (p - 1)) = s))) := by
  by_cases h0 : p = 0
  · subst h0
    have : F_X9_at x (nI 0 - 1) = some (-1) := by
      unfold F_X9_at
      rw [if_pos (by decide)]
    unfold F_X9_is
    rw [this, bind_some', if_pos (by decide)]
    rfl
  · obtain ⟨q, rfl⟩ : ∃ q, p = q + 1 := ⟨p - 1, by omega⟩
    rw [nI_pred, is9 hW h hm (by omega) hs]
    simp
theorem is9n {σ x : Mem} (hW : WF σ) {m : Nat → Nat} (h : MQ9 σ x m) (hm : ∀ q, m q < 3) {p : Nat} (hp : p < nt (σ 13 0)) : F_X9_is x (nI p + 1) 4 = some (b01 (thanN σ m p)) := by
  have hP8 := (P_le hW).1
  rw [nI_1]
  by_cases h1 : p + 1 < nt (σ 13 0)
  · have := is9 hW h hm (s := 4) h1 (by decide)
    rw [show (4 : Int32) = nI 4 from rfl, this]
    unfold thanN
    simp [h1]
  · unfold F_X9_is thanN
    rw [at9o hW h (by omega) (by omega), bind_some', if_pos (by decide)]
    simp [h1, b01]
theorem linkTo9 {σ x : Mem} (hW : WFt σ) {fr : Nat} (hf : fr < nt (σ 1 0)) (hfr : x 0 25 = nI fr) (hx1 : ∀ t, t < nt (σ 1 0) → x 1 t = σ 2 t) (hx4 : ∀ j, j < 16 → j / 4 < nt (σ 1 0) → x 4 j = σ 4 j) (t : Int32) : F_X9_linkTo x t = some (lk σ fr t) := by
  obtain ⟨T, hT4, hT⟩ := hW.1
  have nT : nt (σ 1 0) = T := by rw [hT, nt_nI (by omega)]
  obtain ⟨C, hC4, hC⟩ := hW.2.1 fr (by omega)
  have nC : nt (σ 2 fr) = C := by rw [hC, nt_nI (by omega)]
  have c1 : x 1 fr = nI C := (hx1 fr hf).trans hC
  have key : ∀ n c, c + n = C → Rch (B_X9_linkTo x) 2 () [t, nI c] 99999 () [lkR (σ 4) (4 * fr) t n c] := by
    intro n
    induction n with
    | zero =>
      intro c hc
      refine Rch.one (by decide) ?_
      show B_X9_linkTo_2 x _ _ = _
      unfold B_X9_linkTo_2
      rw [hfr, ld_at (by omega) (by decide), bind_some', c1, if_pos (nI_le (by omega) (by omega))]
      rfl
    | succ n ih =>
      intro c hc
      have hx := hx4 (4 * fr + c) (by omega) (by omega)
      unfold lkR
      by_cases h : σ 4 (4 * fr + c) = t
      · rw [if_pos h]
        refine Rch.one (by decide) ?_
        show B_X9_linkTo_2 x _ _ = _
        unfold B_X9_linkTo_2
        rw [hfr, ld_at (by omega) (by decide), bind_some', c1, if_neg (nI_ge (by omega) (by omega)), l4, nI_add, ld_at (by omega) (by decide), bind_some', hx, if_pos h]
      · rw [if_neg h]
        refine Rch.tr (Rch.one (p' := 2) (x' := ()) (vs' := [t, nI (c + 1)]) (by decide) ?_) (ih (c + 1) (by omega))
        show B_X9_linkTo_2 x _ _ = _
        unfold B_X9_linkTo_2
        rw [hfr, ld_at (by omega) (by decide), bind_some', c1, if_neg (nI_ge (by omega) (by omega)), l4, nI_add, ld_at (by omega) (by decide), bind_some', hx, if_neg h, nI_1]
  unfold lk
  rw [nC]
  exact fin_R (Rch.tr (Rch.one (p' := 2) (x' := ()) (vs' := [t, nI 0]) (by decide) rfl) (key C 0 (by omega)))
