def lkR (K : Nat → Int32) (b : Nat) (t : Int32) : Nat → Nat → Int32
  | 0, _ => -1
  | n + 1, c => if K (b + c) = t then nI c else lkR K b t n (c + 1)
/-- the first column of table fr that links to t, or -1 -/
def lk (σ : Mem) (fr : Nat) (t : Int32) : Int32 := lkR (σ 4) (4 * fr) t (nt (σ 2 fr)) 0
theorem lkR_spec {K : Nat → Int32} {b : Nat} {t : Int32} : ∀ n c, lkR K b t n c = -1 ∨ ∃ d, c ≤ d ∧ d < c + n ∧ K (b + d) = t ∧ lkR K b t n c = nI d
  | 0, c => Or.inl rfl
  | n + 1, c => by
    unfold lkR
    by_cases h : K (b + c) = t
    · rw [if_pos h]; exact Or.inr ⟨c, Nat.le_refl _, by omega, h, rfl⟩
    · rw [if_neg h]
      rcases lkR_spec (K := K) (b := b) (t := t) n (c + 1) with h1 | ⟨d, h1, h2, h3, h4⟩
      · exact Or.inl h1
      · exact Or.inr ⟨d, by omega, by omega, h3, h4⟩
theorem link8 {σ : Mem} (hW : WFt σ) {fr : Nat} (hf : fr < 4) (t : Int32) : F_X6_linkingColumn σ (nI fr) t = some (lk σ fr t) := by
  obtain ⟨C, hC4, hC⟩ := hW.2.1 fr hf
  have nC : nt (σ 2 fr) = C := by rw [hC, nt_nI (by omega)]
  have key : ∀ n c, c + n = C → Rch (B_X6_linkingColumn σ) 2 () [nI fr, t, nI c] 99999 () [lkR (σ 4) (4 * fr) t n c] := by
    intro n
    induction n with
    | zero =>
      intro c hc
      refine Rch.one (by decide) ?_
      show B_X6_linkingColumn_2 σ _ _ _ = _
      unfold B_X6_linkingColumn_2
      rw [ld_at hf (by decide), bind_some', hC, if_pos (nI_le (by omega) (by omega))]
      rfl
    | succ n ih =>
      intro c hc
      unfold lkR
      by_cases h : σ 4 (4 * fr + c) = t
      · rw [if_pos h]
        refine Rch.one (by decide) ?_
        show B_X6_linkingColumn_2 σ _ _ _ = _
        unfold B_X6_linkingColumn_2
        rw [ld_at hf (by decide), bind_some', hC, if_neg (nI_ge (by omega) (by omega)), r4, nI_add, ld_at (by omega) (by decide), bind_some', Nat.mul_comm fr 4, if_pos h]
      · rw [if_neg h]
        refine Rch.tr (Rch.one (p' := 2) (x' := ()) (vs' := [nI fr, t, nI (c + 1)]) (by decide) ?_) (ih (c + 1) (by omega))
        show B_X6_linkingColumn_2 σ _ _ _ = _
        unfold B_X6_linkingColumn_2
        rw [ld_at hf (by decide), bind_some', hC, if_neg (nI_ge (by omega) (by omega)), r4, nI_add, ld_at (by omega) (by decide), bind_some', Nat.mul_comm fr 4, if_neg h, nI_1]
  unfold lk
  rw [nC]
  exact fin_R (Rch.tr (Rch.one (p' := 2) (x' := ()) (vs' := [nI fr, t, nI 0]) (by decide) rfl) (key C 0 (by omega)))
def rchF (σ : Mem) (f : FS) : Bool := f.2.all (fun t => decide (t 1 = f.1 3) || decide (0 ≤ lk σ (nt (f.1 3)) (t 1)))
def stS (σ : Mem) (f : FS) : Bool := !decide (1 < f.1 0) && (!decide (1 < f.1 2) && (!decide (1 < f.1 4) && (decide (0 ≤ f.1 3) && ((decide (f.1 4 = 1) == !decide (f.1 1 = 0)) && ((!decide (f.1 4 = 1) || decide (f.1 6 = f.1 3)) && rchF σ f)))))
theorem reach8 {x : Mem} (hW : WFt x) {f : FS} (hf : hF x f) {fr : Nat} (hfr : fr < 4) (e : f.1 3 = nI fr) (hl : f.2.length ≤ 8) : F_X2_testsReach x = some (b01 (rchF x f)) := by
  obtain ⟨h1, h2, h3⟩ := id hf
  have key : ∀ n i, i + n = f.2.length → Rch (B_X2_testsReach x) 2 () [nI i] 99999 () [b01 ((f.2.drop i).all (fun t => decide (t 1 = f.1 3) || decide (0 ≤ lk x (nt (f.1 3)) (t 1))))] := by
    intro n
    induction n with
    | zero =>
      intro i hi
      refine Rch.one (by decide) ?_
      show B_X2_testsReach_2 x _ = _
      unfold B_X2_testsReach_2
      rw [h2, if_pos (nI_le (by omega) (by omega)), List.drop_eq_nil_of_le (by omega)]
      rfl
    | succ n ih =>
      intro i hi
      have hlt : i < f.2.length := by omega
      have hd : f.2.drop i = f.2[i] :: f.2.drop (i + 1) := List.drop_eq_getElem_cons hlt
      obtain ⟨-, g18, -⟩ := h3 i f.2[i] (List.getElem?_eq_getElem hlt)
      have hnle : ¬ nI f.2.length ≤ nI i := nI_ge hlt (by omega)
      have ih' := ih (i + 1) (by omega)
      rw [hd, List.all_cons]
      have hnt : nt (f.1 3) = fr := by rw [e, nt_nI (by omega)]
      by_cases c1 : f.2[i] 1 = f.1 3
      · have : (decide (f.2[i] 1 = f.1 3) || decide (0 ≤ lk x (nt (f.1 3)) (f.2[i] 1))) = true := by simp [c1]
        rw [this, Bool.true_and]
        refine Rch.tr (Rch.one (p' := 2) (x' := ()) (vs' := [nI (i + 1)]) (by decide) ?_) ih'
        show B_X2_testsReach_2 x _ = _
        unfold B_X2_testsReach_2
        rw [h2, if_neg hnle, ld_at (by omega) (by decide), bind_some', g18, h1 3 (by decide), if_pos c1, nI_1]
      · by_cases c2 : 0 ≤ lk x (nt (f.1 3)) (f.2[i] 1)
        · have : (decide (f.2[i] 1 = f.1 3) || decide (0 ≤ lk x (nt (f.1 3)) (f.2[i] 1))) = true := by simp [c2]
          rw [this, Bool.true_and]
          rw [hnt] at c2
          refine Rch.tr (Rch.one (p' := 2) (x' := ()) (vs' := [nI (i + 1)]) (by decide) ?_) ih'
          show B_X2_testsReach_2 x _ = _
          unfold B_X2_testsReach_2
          rw [h2, if_neg hnle, ld_at (by omega) (by decide), bind_some', g18, h1 3 (by decide), if_neg c1, bind_some', e, link8 hW hfr, bind_some', if_pos c2, nI_1]
        · have : (decide (f.2[i] 1 = f.1 3) || decide (0 ≤ lk x (nt (f.1 3)) (f.2[i] 1))) = false := by simp [c1, c2]
          rw [this, Bool.false_and]
          rw [hnt] at c2
          refine Rch.one (by decide) ?_
          show B_X2_testsReach_2 x _ = _
          unfold B_X2_testsReach_2
          rw [h2, if_neg hnle, ld_at (by omega) (by decide), bind_some', g18, h1 3 (by decide), if_neg c1, bind_some', e, link8 hW hfr, bind_some', if_neg c2]
          rfl
  have k0 := key f.2.length 0 (by omega)
  exact fin_R (Rch.tr (Rch.one (p' := 2) (x' := ()) (vs' := [nI 0]) (by decide) rfl) k0)
theorem b01_nar (b : Bool) : vp_nar .boolean (b01 b) = b01 b := by cases b <;> rfl
theorem stands8 {x : Mem} (hW : WFt x) {f : FS} (hf : hF x f) (hl : f.2.length ≤ 8) (h3 : f.1 3 < 0 ∨ ∃ fr, fr < 4 ∧ f.1 3 = nI fr) : F_X2_stands x = some (b01 (stS x f)) := by
  obtain ⟨h1, -, -⟩ := id hf
  unfold F_X2_stands stS
  rw [h1 0 (by decide), h1 1 (by decide), h1 2 (by decide), h1 3 (by decide), h1 4 (by decide), h1 6 (by decide)]
  by_cases c0 : 1 < f.1 0
  · simp [c0, b01]
  by_cases c2 : 1 < f.1 2
  · simp [c0, c2, b01]
  by_cases c4 : 1 < f.1 4
  · simp [c0, c2, c4, b01]
  by_cases c3 : 0 ≤ f.1 3
  · obtain ⟨fr, hfr, e⟩ : ∃ fr, fr < 4 ∧ f.1 3 = nI fr := by
      rcases h3 with h | h
      · exfalso
        rw [Int32.lt_iff_toInt_lt] at h
        rw [Int32.le_iff_toInt_le] at c3
        omega
      · exact h
    rw [reach8 hW hf hfr e hl]
    rw [if_neg c0, if_neg c2, if_neg c4, if_pos c3]
    simp only [bind_some', if_pos (b01_nar _), c0, c2, c4, c3, decide_false, decide_true, Bool.not_false, Bool.true_and]
    by_cases d4 : f.1 4 = 1
    · by_cases d1 : f.1 1 = 0
      · simp [d4, d1, b01]
      · by_cases d6 : f.1 6 = f.1 3
        · simp [d4, d1, d6]
        · simp [d4, d1, d6, b01]
    · by_cases d1 : f.1 1 = 0
      · simp [d4, d1]
      · simp [d4, d1, b01]
  · rw [if_neg c0, if_neg c2, if_neg c4, if_neg c3]
    simp [c3, b01]
