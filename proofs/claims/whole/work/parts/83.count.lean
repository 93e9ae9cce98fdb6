theorem cnt9 {σ τ : Mem} (hWw : WFw σ) (hEw : EQw σ τ) (x : Int32) : Rch (B_X9_count τ) 0 () [x] 4 () [x, nI (fb_sm (fun w => nt (σ 7 w)) 40), nI 40] := by
  refine Rch.tr (Rch.one (p' := 4) (x' := ()) (vs' := [x, nI 0, nI 0]) (by decide) rfl) ?_
  obtain ⟨x', vs', h, hI⟩ := Rch.loop0 (B := B_X9_count τ) (h := 4) (x := ()) (vs := [x, nI 0, nI 0]) (fun i _ vs => vs = [x, nI (fb_sm (fun w => nt (σ 7 w)) i), nI i]) 40 rfl (fun i hi u vs hv => by
    subst hv
    refine ⟨(), _, Rch.one (p' := 4) (x' := ()) (vs' := [x, nI (fb_sm (fun w => nt (σ 7 w)) (i + 1)), nI (i + 1)]) (by decide) ?_, rfl⟩
    show B_X9_count_4 τ x _ (nI i) = _
    unfold B_X9_count_4
    obtain ⟨k, hk3, hk⟩ := hWw.1 i hi
    have h40 : ¬ (40 : Int32) ≤ nI i := nI_ge (a := i) (b := 40) hi (by decide)
    rw [if_neg h40, ld_at hi (by decide), bind_some', hEw.1 i hi, hk, nI_add, nI_1, fb_sm_succ]
    simp only [hk, nt_nI (show k < 2147483648 by omega)])
  rw [hI] at h
  exact h
theorem op_count {σ τ : Mem} (hW : WF σ) (hE : EQ σ τ) (x : Int32) : ∃ r, F_X8_count σ x = r ∧ F_X9_count τ x = some r := by
  refine ⟨_, rfl, ?_⟩
  refine fin_R (Rch.tr (cnt9 hW.2.1 hE.2.1 x) (Rch.one (by decide) ?_))
  show B_X9_count_4 τ x _ (nI 40) = _
  unfold B_X9_count_4 F_X8_count F_X6_size F_X3_size F_X7_size
  rw [if_pos (by decide)]
  by_cases h0 : x = 0
  · rw [if_pos h0, if_pos h0, hE.1.1]
  rw [if_neg h0, if_neg h0]
  by_cases h1 : x = 1
  · rw [if_pos h1, if_pos h1, hE.2.2.1]
  rw [if_neg h1, if_neg h1]
  by_cases h2 : x = 2
  · rw [if_pos h2, if_pos h2, hW.2.1.2.2.2.2.2.2]
  rw [if_neg h2, if_neg h2]
