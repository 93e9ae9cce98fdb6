/-! the ways that are READINGS, as a filter of all ways -/
def gr (σ : Mem) : Nat → Nat → Bool
  | 0, _ => true
  | p + 1, w => gr σ p (w / 3) && alw σ p (w / 3) (w % 3)
theorem range3 : ∀ n, List.range (3 * n) = (List.range n).flatMap (fun w => (List.range 3).map (fun m => 3 * w + m))
  | 0 => rfl
  | n + 1 => by
    have h := range3 n
    have e := List.range_succ (n := n)
    have e1 := List.range_succ (n := 3 * n)
    have e2 := List.range_succ (n := 3 * n + 1)
    have e3 := List.range_succ (n := 3 * n + 1 + 1)
    rw [e, List.flatMap_append, ← h, show 3 * (n + 1) = 3 * n + 1 + 1 + 1 by omega, e3, e2, e1, List.append_assoc, List.append_assoc]
    rfl
theorem gr_flat (σ : Mem) (p : Nat) : ∀ l : List Nat, (l.flatMap (fun w => (List.range 3).map (fun m => 3 * w + m))).filter (gr σ (p + 1)) = (l.filter (gr σ p)).flatMap (fun w => ((List.range 3).filter (alw σ p w)).map (fun m => 3 * w + m))
  | [] => rfl
  | a :: l => by
    have h := gr_flat σ p l
    rw [List.flatMap_cons, List.filter_append, h, List.filter_cons]
    have e : ((List.range 3).map (fun m => 3 * a + m)).filter (gr σ (p + 1)) = if gr σ p a = true then ((List.range 3).filter (alw σ p a)).map (fun m => 3 * a + m) else [] := by
      have g : ∀ m, m < 3 → gr σ (p + 1) (3 * a + m) = (gr σ p a && alw σ p a m) := fun m hm => by
        show (gr σ p ((3 * a + m) / 3) && alw σ p ((3 * a + m) / 3) ((3 * a + m) % 3)) = _
        rw [show (3 * a + m) / 3 = a by omega, show (3 * a + m) % 3 = m by omega]
      rw [List.filter_map]
      by_cases hg : gr σ p a = true
      · rw [if_pos hg]
        congr 1
        refine List.filter_congr (fun m hm => ?_)
        show gr σ (p + 1) (3 * a + m) = _
        rw [g m (List.mem_range.mp hm), hg, Bool.true_and]
      · rw [if_neg hg]
        have hg' : gr σ p a = false := by simpa using hg
        have : (List.range 3).filter (gr σ (p + 1) ∘ fun m => 3 * a + m) = [] := by
          rw [List.filter_eq_nil_iff]
          intro m hm
          show ¬ gr σ (p + 1) (3 * a + m) = true
          rw [g m (List.mem_range.mp hm), hg', Bool.false_and]
          decide
        rw [this]
        rfl
    rw [e]
    by_cases hg : gr σ p a = true
    · rw [if_pos hg, if_pos hg, List.flatMap_cons]
    · rw [if_neg hg, if_neg hg, List.nil_append]
theorem Lw_gr (σ : Mem) : ∀ p, Lw σ p = (List.range (3 ^ p)).filter (gr σ p)
  | 0 => rfl
  | p + 1 => by
    have h := Lw_gr σ p
    rw [Nat.pow_succ, Nat.mul_comm, range3, gr_flat, ← h]
    rfl
theorem gr_iff (σ : Mem) : ∀ p w, gr σ p w = true ↔ ∀ q, q < p → alw σ q (w / 3 ^ (p - q)) (dg p w q) = true
  | 0, w => ⟨fun _ q h => by omega, fun _ => rfl⟩
  | p + 1, w => by
    have ih := gr_iff σ p (w / 3)
    show (gr σ p (w / 3) && alw σ p (w / 3) (w % 3)) = true ↔ _
    rw [Bool.and_eq_true, ih]
    have e : ∀ q, q < p → w / 3 ^ (p + 1 - q) = w / 3 / 3 ^ (p - q) := fun q hq => by
      rw [show p + 1 - q = (p - q) + 1 by omega, Nat.pow_succ, Nat.mul_comm, ← Nat.div_div_eq_div_mul]
    constructor
    · rintro ⟨h1, h2⟩ q hq
      by_cases hqp : q = p
      · subst hqp
        rw [dg_last, show q + 1 - q = 1 by omega, Nat.pow_one]
        exact h2
      · rw [dg_step (by omega), e q (by omega)]
        exact h1 q (by omega)
    · intro h
      refine ⟨fun q hq => ?_, ?_⟩
      · have := h q (by omega)
        rw [dg_step hq, e q hq] at this
        exact this
      · have := h p (by omega)
        rw [dg_last, show p + 1 - p = 1 by omega, Nat.pow_one] at this
        exact this
def rdB (σ : Mem) (w : Nat) : Bool := gr σ (nt (σ 13 0)) w && stS σ (fm σ w)
theorem Rd_rdB (σ : Mem) : Rd σ = (List.range (3 ^ nt (σ 13 0))).filter (rdB σ) := by
  unfold Rd
  rw [Lw_gr, List.filter_filter]
  refine List.filter_congr (fun w _ => ?_)
  unfold rdB
  rw [Bool.and_comm]
/-! how many of each the FORM has -/
def p0 (σ : Mem) (m : Nat → Nat) (q : Nat) : Bool := !num σ q && decide (sr σ q (m q) = 2)
def p2 (σ : Mem) (m : Nat → Nat) (q : Nat) : Bool := !num σ q && decide (sr σ q (m q) = 0)
def p4 (σ : Mem) (m : Nat → Nat) (q : Nat) : Bool := !num σ q && (decide (sr σ q (m q) = 1) && !thanN σ m q)
theorem fs_ct (σ : Mem) (m : Nat → Nat) : ∀ p, (fsN σ m p).1 0 = nI (fb_ct (p0 σ m) p) ∧ (fsN σ m p).1 2 = nI (fb_ct (p2 σ m) p) ∧ (fsN σ m p).1 4 = nI (fb_ct (p4 σ m) p)
  | 0 => ⟨rfl, rfl, rfl⟩
  | p + 1 => by
    obtain ⟨h0, h2, h4⟩ := fs_ct σ m p
    rw [fb_ct_succ, fb_ct_succ, fb_ct_succ]
    show (stp σ m p (fsN σ m p)).1 0 = _ ∧ (stp σ m p (fsN σ m p)).1 2 = _ ∧ (stp σ m p (fsN σ m p)).1 4 = _
    generalize fsN σ m p = f at h0 h2 h4
    unfold stp
    by_cases hn : num σ p = true
    · have e0 : p0 σ m p = false := by simp [p0, hn]
      have e2 : p2 σ m p = false := by simp [p2, hn]
      have e4 : p4 σ m p = false := by simp [p4, hn]
      rw [if_pos hn, e0, e2, e4]
      exact ⟨h0, h2, h4⟩
    have hn' : num σ p = false := by simpa using hn
    rw [if_neg hn]
    by_cases c0 : sr σ p (m p) = 0
    · have e0 : p0 σ m p = false := by simp [p0, c0]
      have e2 : p2 σ m p = true := by simp [p2, c0, hn']
      have e4 : p4 σ m p = false := by simp [p4, c0]
      rw [if_pos c0, e0, e2, e4]
      dsimp only
      simp (disch := decide) only [upd_ne, upd_eq]
      exact ⟨h0, by rw [h2, nI_1]; rfl, h4⟩
    rw [if_neg c0]
    by_cases c1 : sr σ p (m p) = 1
    · have e0 : p0 σ m p = false := by simp [p0, c1]
      have e2 : p2 σ m p = false := by simp [p2, c1]
      rw [if_pos c1, e0, e2]
      by_cases ht : thanN σ m p = true
      · have e4 : p4 σ m p = false := by simp [p4, ht]
        rw [if_pos ht, e4]
        exact ⟨h0, h2, h4⟩
      · have e4 : p4 σ m p = true := by simp [p4, ht, c1, hn']
        rw [if_neg ht, e4]
        dsimp only
        simp (disch := decide) only [upd_ne, upd_eq]
        exact ⟨h0, h2, by rw [h4, nI_1]; rfl⟩
    have e4 : p4 σ m p = false := by simp [p4, c1]
    have e2 : p2 σ m p = false := by simp [p2, c0]
    rw [if_neg c1, e4, e2]
    by_cases c2 : sr σ p (m p) = 2
    · have e0 : p0 σ m p = true := by simp [p0, c2, hn']
      rw [if_pos c2, e0]
      dsimp only
      simp (disch := decide) only [upd_ne, upd_eq]
      exact ⟨by rw [h0, nI_1]; rfl, h2, h4⟩
    have e0 : p0 σ m p = false := by simp [p0, c2]
    rw [if_neg c2, e0]
    simp only [Bool.false_eq_true, if_false, Nat.add_zero]
    repeat' split
    all_goals exact ⟨h0, h2, h4⟩
theorem ct_one {p : Nat → Bool} {q n : Nat} (hq : q < n) (h : fb_ct p n ≤ 1) (hp : p q = true) : fb_ct p q = 0 := by
  have h1 := fb_ct_mono p (show q + 1 ≤ n by omega)
  rw [fb_ct_succ, hp] at h1
  simp at h1
  omega
theorem stS_one {σ : Mem} (hW : WF σ) {m : Nat → Nat} (h : stS σ (fsE (fsN σ m (nt (σ 13 0)))) = true) : fb_ct (p0 σ m) (nt (σ 13 0)) ≤ 1 ∧ fb_ct (p2 σ m) (nt (σ 13 0)) ≤ 1 ∧ fb_ct (p4 σ m) (nt (σ 13 0)) ≤ 1 := by
  obtain ⟨h0, h2, h4⟩ := fs_ct σ m (nt (σ 13 0))
  have hP8 := (P_le hW).1
  have l0 := fb_ct_le (p0 σ m) (nt (σ 13 0))
  have l2 := fb_ct_le (p2 σ m) (nt (σ 13 0))
  have l4 := fb_ct_le (p4 σ m) (nt (σ 13 0))
  have E0 : ∀ j, j ≠ 3 → (fsE (fsN σ m (nt (σ 13 0)))).1 j = (fsN σ m (nt (σ 13 0))).1 j := fun j hj => by
    unfold fsE
    split
    · exact upd_ne hj
    · rfl
  unfold stS at h
  rw [E0 0 (by decide), E0 2 (by decide), h0, h2] at h
  have h4' : (fsE (fsN σ m (nt (σ 13 0)))).1 4 = nI (fb_ct (p4 σ m) (nt (σ 13 0))) := (E0 4 (by decide)).trans h4
  simp only [Bool.and_eq_true, Bool.not_eq_true', decide_eq_false_iff_not] at h
  obtain ⟨a0, a2, a4, -⟩ := h
  rw [h4'] at a4
  refine ⟨?_, ?_, ?_⟩
  · refine Nat.le_of_not_lt (fun hh => a0 (nI_lt (a := 1) hh (by omega)))
  · refine Nat.le_of_not_lt (fun hh => a2 (nI_lt (a := 1) hh (by omega)))
  · refine Nat.le_of_not_lt (fun hh => a4 (nI_lt (a := 1) hh (by omega)))
theorem rd_iff {σ : Mem} (hW : WF σ) (w : Nat) : rdB σ w = true ↔ hasR σ w 0 = true ∧ okL σ (dg (nt (σ 13 0)) w) (nt (σ 13 0)) ∧ stS σ (fm σ w) = true := by
  unfold rdB
  rw [Bool.and_eq_true, gr_iff]
  constructor
  · rintro ⟨h1, h2⟩
    obtain ⟨k0, k2, k4⟩ := stS_one hW h2
    have hP8 := (P_le hW).1
    refine ⟨?_, ?_, h2⟩
    · unfold hasR
      rw [List.all_eq_true]
      intro q hq
      have hq' := List.mem_range.mp hq
      have := h1 q hq'
      unfold alw at this
      unfold okd
      by_cases hn : num σ q = true
      · rw [if_pos hn] at this ⊢
        simp only [Bool.and_eq_true] at this
        simp [this.1]
      · rw [if_neg hn] at this ⊢
        simp only [Bool.and_eq_true] at this
        simp [this.1]
    · intro q hq
      have := h1 q hq
      unfold alw at this
      unfold okp
      obtain ⟨c0, c2, c4⟩ := fs_ct σ (dg (nt (σ 13 0)) w) q
      by_cases hn : num σ q = true
      · rw [if_pos hn] at this ⊢
        unfold hasPrev at this
        simp only [Bool.and_eq_true, decide_eq_true_eq, Bool.not_eq_true'] at this
        refine ⟨this.2.1.1, this.2.1.2, ?_⟩
        rw [← dg_prev this.2.1.1 hq]
        exact this.2.2
      · have hn' : num σ q = false := by simpa using hn
        rw [if_neg hn] at this ⊢
        simp only [Bool.and_eq_true, Bool.or_eq_true, Bool.not_eq_true', decide_eq_true_eq, decide_eq_false_iff_not] at this
        refine ⟨fun h4 => ?_, fun h => ?_, fun h => ?_, fun h h' => ?_⟩
        · have h5 := this.2.resolve_left (fun k => k h4)
          have h6 := h5.2
          unfold hasPrev at h6
          simp only [Bool.and_eq_true, decide_eq_true_eq, Bool.not_eq_true'] at h6
          refine ⟨h6.1.1, h6.1.2, ?_, h5.1⟩
          rw [← dg_prev h6.1.1 hq]
          exact h6.2
        · rw [c2, ct_one hq k2 (by simp [p2, hn', h])]; rfl
        · rw [c0, ct_one hq k0 (by simp [p0, hn', h])]; rfl
        · rw [c4, ct_one hq k4 (by simp [p4, hn', h, h'])]; rfl
  · rintro ⟨h1, h2, h3⟩
    refine ⟨fun q hq => ?_, h3⟩
    have a := h2 q hq
    unfold hasR at h1
    rw [List.all_eq_true] at h1
    have b := h1 q (List.mem_range.mpr hq)
    simp only [Nat.not_lt_zero, decide_false, Bool.false_or] at b
    unfold okd at b
    unfold okp at a
    unfold alw
    by_cases hn : num σ q = true
    · rw [if_pos hn] at a b ⊢
      unfold hasPrev
      rw [dg_prev a.1 hq]
      simp [a.1, a.2.1, a.2.2, of_decide_eq_true b]
    · rw [if_neg hn] at a b ⊢
      by_cases h4 : sr σ q (dg (nt (σ 13 0)) w q) = 4
      · obtain ⟨b1, b2, b3, b4⟩ := a.1 h4
        unfold hasPrev
        rw [dg_prev b1 hq]
        simp [b1, b2, b3, b4, of_decide_eq_true b]
      · simp [h4, of_decide_eq_true b]
