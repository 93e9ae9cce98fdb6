/-- the reference's fields behind reads -/
def hM2 (x : Mem) (e : FS) (c : Nat) : Prop := x 0 24 = e.1 1 ∧ x 0 25 = e.1 3 ∧ x 0 26 = e.1 5 ∧ x 0 27 = nI c ∧ x 0 32 = nI e.2.length ∧ ∀ i t, e.2[i]? = some t → x 22 i = t 1 ∧ x 23 i = t 2 ∧ x 24 i = t 3 ∧ x 25 i = t 4
theorem near9 {σ y : Mem} (hW : WF σ) {e : FS} {c fr : Nat} (hf : hM2 y e c) (hfr : fr < nt (σ 1 0)) (e3 : e.1 3 = nI fr) (hx1 : ∀ t, t < nt (σ 1 0) → y 1 t = σ 2 t) (hx4 : ∀ j, j < 16 → j / 4 < nt (σ 1 0) → y 4 j = σ 4 j) (hl : e.2.length ≤ 8) : ∀ n i b, i + n = e.2.length → Rch B_X9_reads 423 y [b01 b, nI i] 99999 y [b01 (b && (e.2.drop i).all (fun t => decide (t 1 = e.1 3) || decide (0 ≤ lk σ (nt (e.1 3)) (t 1))))] := by
  obtain ⟨f1, f2, f3, f4, f5, f6⟩ := id hf
  have hT := T_le hW
  have hnt : nt (e.1 3) = fr := by rw [e3, nt_nI (by omega)]
  intro n
  induction n with
  | zero =>
    intro i b hi
    refine Rch.one (by decide) ?_
    show B_X9_reads_423 y _ _ = _
    unfold B_X9_reads_423
    rw [f5, if_pos (nI_le (by omega) (by omega)), if_pos (b01_nar b), List.drop_eq_nil_of_le (by omega)]
    simp
  | succ n ih =>
    intro i b hi
    have hlt : i < e.2.length := by omega
    have hd : e.2.drop i = e.2[i] :: e.2.drop (i + 1) := List.drop_eq_getElem_cons hlt
    obtain ⟨g22, -⟩ := f6 i e.2[i] (List.getElem?_eq_getElem hlt)
    have hnle : ¬ nI e.2.length ≤ nI i := nI_ge hlt (by omega)
    rw [hd, List.all_cons]
    cases b with
    | false =>
      have := ih (i + 1) false (by omega)
      rw [Bool.false_and] at this ⊢
      refine Rch.tr (Rch.one (p' := 423) (x' := y) (vs' := [b01 false, nI (i + 1)]) (by decide) ?_) this
      show B_X9_reads_423 y _ _ = _
      unfold B_X9_reads_423
      rw [f5, if_neg hnle, if_pos (show b01 false = 0 by decide), nI_1]
      rfl
    | true =>
      rw [Bool.true_and]
      have l22 : ld 8 (y 22) (nI i) = some (e.2[i] 1) := by rw [ld_at (by omega) (by decide), g22]
      have hlk := linkTo9 hW.1 hfr (f2.trans e3) hx1 hx4 (e.2[i] 1)
      have blk : B_X9_reads 423 y [b01 true, nI i] = some (423, y, [b01 (decide (e.2[i] 1 = e.1 3) || decide (0 ≤ lk σ (nt (e.1 3)) (e.2[i] 1))), nI (i + 1)]) := by
        show B_X9_reads_423 y _ _ = _
        unfold B_X9_reads_423
        rw [f5, if_neg hnle, if_neg (show ¬ b01 true = 0 by decide), l22, bind_some', f2]
        by_cases c1 : e.2[i] 1 = e.1 3
        · rw [if_pos c1, nI_1]
          simp [c1, b01]
        · rw [if_neg c1, bind_some', hlk, bind_some', hnt]
          by_cases c2 : lk σ fr (e.2[i] 1) < 0
          · have c3 : ¬ 0 ≤ lk σ fr (e.2[i] 1) := by
              rw [Int32.lt_iff_toInt_lt] at c2
              rw [Int32.le_iff_toInt_le]
              omega
            rw [if_pos c2, nI_1]
            simp [c1, c3, b01]
          · have c3 : 0 ≤ lk σ fr (e.2[i] 1) := by
              rw [Int32.lt_iff_toInt_lt] at c2
              rw [Int32.le_iff_toInt_le]
              omega
            rw [if_neg c2, nI_1]
            simp [c3, b01]
      exact Rch.tr (Rch.one (by decide) blk) (ih (i + 1) _ (by omega))
