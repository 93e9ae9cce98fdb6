theorem nneg {x : Int32} : (0 ≤ x) ↔ ¬ x < 0 := by
  rw [Int32.lt_iff_toInt_lt, Int32.le_iff_toInt_le]
  omega
theorem end9 {σ x : Mem} (hW : WF σ) {m : Nat → Nat} {c : Nat} (hq : MQ9 σ x m) {f : FS} (hf : hM x f c) (ho : one3 f) (hok : okF σ (nt (σ 13 0)) f) (hl : f.2.length ≤ 8) (hx1 : ∀ t, t < nt (σ 1 0) → x 1 t = σ 2 t) (hx4 : ∀ j, j < 16 → j / 4 < nt (σ 1 0) → x 4 j = σ 4 j) : ∃ y, Rch B_X9_reads 29 x [f.1 6, nI (nt (σ 13 0))] 99999 y [b01 (stS σ (fsE f))] ∧ sameM x y ∧ (stS σ (fsE f) = true → hM2 y (fsE f) c) := by
  obtain ⟨hP8, hP⟩ := P_le hW
  have hT := T_le hW
  obtain ⟨f1, f2, f3, f4, f5, f6⟩ := id hf
  obtain ⟨⟨n0, l0, o0⟩, ⟨n2, l2, o2⟩, ⟨n4, l4, o4⟩, o1⟩ := id ho
  obtain ⟨-, ⟨d, qd, ed⟩, ⟨n2', q2, e2, k2⟩, ⟨n4', q4, e4, k4⟩, -⟩ := id hok
  have hn2 : n2' = n2 := nI_inj (by omega) (by omega) (e2.symm.trans o2)
  have hn4 : n4' = n4 := nI_inj (by omega) (by omega) (e4.symm.trans o4)
  subst hn2; subst hn4
  -- what fsE is
  have E0 : ∀ j, j ≠ 3 → (fsE f).1 j = f.1 j := fun j hj => by
    unfold fsE
    split
    · exact upd_ne hj
    · rfl
  have E2 : (fsE f).2 = f.2 := by
    unfold fsE
    split <;> rfl
  have E3 : (fsE f).1 3 = if f.1 3 < 0 then f.1 6 else f.1 3 := by
    unfold fsE
    rcases k2 with ⟨h, h3⟩ | ⟨h, u, hu, h3⟩
    · rw [if_pos (show f.1 2 = 0 by rw [e2, h]; rfl), h3, if_pos (by decide)]
      show upd f.1 3 (f.1 6) 3 = _
      exact upd_eq
    · rw [if_neg (show ¬ f.1 2 = 0 by rw [e2]; exact fun h9 => by have := nI_inj (b := 0) (by omega) (by decide) h9; omega), h3, if_neg (nI_pos (by omega))]
  have hfr : (fsE f).1 3 < 0 ∨ ∃ fr, fr < nt (σ 1 0) ∧ (fsE f).1 3 = nI fr := by
    rw [E3]
    rcases k2 with ⟨h, h3⟩ | ⟨h, u, hu, h3⟩
    · rw [h3, if_pos (by decide)]
      rcases k4 with ⟨-, -, h6⟩ | ⟨-, u, cc, hu, -, h6, -⟩
      · rw [h6]; exact Or.inl (by decide)
      · exact Or.inr ⟨u, hu, h6⟩
    · rw [h3, if_neg (nI_pos (by omega))]; exact Or.inr ⟨u, hu, rfl⟩
  -- wanted there or not
  have hw5 : (f.1 5 < 0 ∧ ¬ f.1 4 = 1) ∨ (¬ f.1 5 < 0 ∧ f.1 4 = 1) := by
    rcases k4 with ⟨h, h5, -⟩ | ⟨h, u, cc, hu, hcc, -, h5⟩
    · refine Or.inl ⟨by rw [h5]; decide, ?_⟩
      rw [e4, h]; decide
    · obtain ⟨cu, hcu, ecu⟩ := hW.1.2.1 u (by omega)
      rw [ecu, nt_nI (by omega)] at hcc
      refine Or.inr ⟨by rw [h5]; exact nI_pos (by omega), ?_⟩
      rw [e4, show n4' = 1 by omega]; rfl
  generalize hy1 : st x 0 24 (f.1 1) = y1
  have s1 : sameM x y1 := by rw [← hy1]; exact sameM.f (by omega)
  have z1 : ∀ i, i ≠ 24 → y1 0 i = x 0 i := fun i hi => by rw [← hy1, st_eq, upd_ne hi]
  have z1a : y1 0 24 = f.1 1 := by rw [← hy1, st_eq, upd_eq]
  have r1 : Rch B_X9_reads 29 x [f.1 6, nI (nt (σ 13 0))] 349 y1 [f.1 6] := by
    refine Rch.one (by decide) ?_
    show B_X9_reads_29 x _ _ = _
    unfold B_X9_reads_29
    rw [hq.1, if_pos (by rw [hP, nt_nI (by omega)]; exact nI_le (Nat.le_refl _) (by omega)), f1]
    by_cases h : f.1 0 = 0
    · rw [if_pos h, if_neg (by decide), bind_some', ← hy1, o1 h]
    · rw [if_neg h, ed, if_pos (nI_pos' (by omega)), bind_some', ← hy1, ed]
  generalize hy2 : st y1 0 25 ((fsE f).1 3) = y2
  have s2 : sameM y1 y2 := by rw [← hy2]; exact sameM.f (by omega)
  have z2 : ∀ i, i ≠ 25 → y2 0 i = y1 0 i := fun i hi => by rw [← hy2, st_eq, upd_ne hi]
  have z2a : y2 0 25 = (fsE f).1 3 := by rw [← hy2, st_eq, upd_eq]
  have r2 : Rch B_X9_reads 349 y1 [f.1 6] 368 y2 [f.1 6] := by
    refine Rch.one (by decide) ?_
    show B_X9_reads_349 y1 _ = _
    unfold B_X9_reads_349
    rw [z1 25 (by decide), f2, ← hy2, E3]
    by_cases h : f.1 3 < 0
    · rw [if_neg (fun h2 => (nneg.mp h2) h), if_pos h, bind_some']
    · rw [if_pos (nneg.mpr h), if_neg h, bind_some']
  have s3 : sameM x y2 := s1.tr s2
  have o : ∀ k, k ≠ 0 → y2 k = x k := fun k hk => by rw [← hy2, st_ne hk, ← hy1, st_ne hk]
  have hM2y : hM2 y2 (fsE f) c := ⟨by rw [z2 24 (by decide), z1a, E0 1 (by decide)], z2a, by rw [z2 26 (by decide), z1 26 (by decide), f3, E0 5 (by decide)], by rw [z2 27 (by decide), z1 27 (by decide), f4], by rw [z2 32 (by decide), z1 32 (by decide), f5, E2], by rw [E2, o 22 (by decide), o 23 (by decide), o 24 (by decide), o 25 (by decide)]; exact f6⟩
  have n1 : ¬ (1 : Int32) < f.1 0 := by rw [o0]; exact nI_nlt (a := 1) (b := n0) l0 (by decide)
  have n2n : ¬ (1 : Int32) < f.1 2 := by rw [o2]; exact nI_nlt (a := 1) (b := n2') l2 (by decide)
  have n4n : ¬ (1 : Int32) < f.1 4 := by rw [o4]; exact nI_nlt (a := 1) (b := n4') l4 (by decide)
  have hS : stS σ (fsE f) = (decide (0 ≤ (fsE f).1 3) && ((decide (f.1 4 = 1) == !decide (f.1 1 = 0)) && ((!decide (f.1 4 = 1) || decide (f.1 6 = (fsE f).1 3)) && rchF σ (fsE f)))) := by
    unfold stS
    rw [E0 0 (by decide), E0 2 (by decide), E0 4 (by decide), E0 1 (by decide), E0 6 (by decide)]
    simp only [n1, n2n, n4n, decide_false, Bool.not_false, Bool.true_and]
  refine ⟨y2, r1.tr (r2.tr ?_), s3, fun _ => hM2y⟩
  have t26 : y2 0 26 = f.1 5 := by rw [z2 26 (by decide), z1 26 (by decide), f3]
  have t24 : y2 0 24 = f.1 1 := by rw [z2 24 (by decide), z1a]
  have blk : B_X9_reads 368 y2 [f.1 6] = if (decide (0 ≤ (fsE f).1 3) && ((decide (f.1 4 = 1) == !decide (f.1 1 = 0)) && (!decide (f.1 4 = 1) || decide (f.1 6 = (fsE f).1 3)))) = true then some (419, y2, []) else some (99999, y2, [0]) := by
    show B_X9_reads_368 y2 _ = _
    unfold B_X9_reads_368
    rw [z2a, t26, t24]
    by_cases h3 : (fsE f).1 3 < 0
    · have h3' : ¬ 0 ≤ (fsE f).1 3 := fun h => nneg.mp h h3
      rw [if_pos h3]; simp [h3']
    · have h3' : 0 ≤ (fsE f).1 3 := nneg.mpr h3
      rw [if_neg h3]
      rcases hw5 with ⟨h5, h4⟩ | ⟨h5, h4⟩
      · by_cases hd : f.1 1 = 0
        · simp [h3', h5, h4, hd]
        · simp [h3', h5, h4, hd]
      · by_cases h6 : f.1 6 = (fsE f).1 3
        · by_cases hd : f.1 1 = 0
          · simp [h3', h5, h4, hd, h6]
          · simp [h3', h5, h4, hd, h6]
        · by_cases hd : f.1 1 = 0
          · simp [h3', h5, h4, hd, h6]
          · simp [h3', h5, h4, hd, h6]
  rw [hS, ← Bool.and_assoc, ← Bool.and_assoc]
  rw [← Bool.and_assoc] at blk
  by_cases hb : (decide (0 ≤ (fsE f).1 3) && (decide (f.1 4 = 1) == !decide (f.1 1 = 0)) && (!decide (f.1 4 = 1) || decide (f.1 6 = (fsE f).1 3))) = true
  · rw [if_pos hb] at blk
    rw [hb, Bool.true_and]
    obtain ⟨fr, hfr2, e3⟩ : ∃ fr, fr < nt (σ 1 0) ∧ (fsE f).1 3 = nI fr := by
      rcases hfr with h | h
      · exfalso
        simp at hb
        exact nneg.mp hb.1.1 h
      · exact h
    have nr := near9 hW hM2y hfr2 e3 (by rw [o 1 (by decide)]; exact hx1) (by rw [o 4 (by decide)]; exact hx4) (by rw [E2]; exact hl) (fsE f).2.length 0 true (by omega)
    refine Rch.tr (Rch.one (by decide) blk) (Rch.tr (Rch.one (p' := 423) (x' := y2) (vs' := [b01 true, nI 0]) (by decide) rfl) ?_)
    rw [Bool.true_and, List.drop_zero] at nr
    exact nr
  · rw [if_neg hb] at blk
    have hb' : (decide (0 ≤ (fsE f).1 3) && (decide (f.1 4 = 1) == !decide (f.1 1 = 0)) && (!decide (f.1 4 = 1) || decide (f.1 6 = (fsE f).1 3))) = false := by simpa using hb
    rw [hb', Bool.false_and]
    exact Rch.one (by decide) blk
