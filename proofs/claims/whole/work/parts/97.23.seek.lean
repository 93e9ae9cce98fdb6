/-! the class: the ROWS for which a TEST holds -/
theorem cell8 {x : Mem} {t r c : Nat} (ht : t < 4) (hr : r < 20) (hc : c < 4) : F_X6_cell x (nI t) (nI r) (nI c) = some (x 5 ((20 * t + r) * 4 + c)) := by
  unfold F_X6_cell
  rw [r20, nI_add, r4, nI_add, ld_at (by omega) (by decide), bind_some', Nat.mul_comm t 20]
theorem rows_le {x : Mem} (hW : WFt x) {t : Nat} (ht : t < 4) : nt (x 3 t) ≤ 20 ∧ x 3 t = nI (nt (x 3 t)) := by
  obtain ⟨r, h, e⟩ := hW.2.2.1 t ht
  rw [e, nt_nI (by omega)]
  exact ⟨h, rfl⟩
theorem cols_le {x : Mem} (hW : WFt x) {t : Nat} (ht : t < 4) : nt (x 2 t) ≤ 4 ∧ x 2 t = nI (nt (x 2 t)) := by
  obtain ⟨r, h, e⟩ := hW.2.1 t ht
  rw [e, nt_nI (by omega)]
  exact ⟨h, rfl⟩
theorem tabs_le {x : Mem} (hW : WFt x) : nt (x 1 0) ≤ 4 := by
  obtain ⟨T, h, e⟩ := hW.1
  rw [e, nt_nI (by omega)]
  exact h
theorem hasRow8 {x : Mem} {u : Nat} (hu : u < 4) (v : Int32) : F_X6_hasRow x (nI u) v = some (if v < 0 then 0 else if x 3 u ≤ v then 0 else 1) := by
  unfold F_X6_hasRow
  by_cases h0 : v < 0
  · rw [if_pos h0, if_pos h0]
  rw [if_neg h0, if_neg h0, ld_at hu (by decide), bind_some']
  by_cases h1 : x 3 u ≤ v
  · rw [if_pos h1, if_pos h1]
  · rw [if_neg h1, if_neg h1]
theorem seek8 {x : Mem} (hW : WFt x) {f : FS} (hf : hF x f) {fr : Nat} (hs : SF x f fr) {k : Nat} (hk : k < f.2.length) : F_X1_seekRows x (nI k) = some (nI (msk (hB x fr (ft f k)) (nt (x 3 fr)))) := by
  obtain ⟨hfr, e3, hl, -, -, hT⟩ := id hs
  have hT4 := tabs_le hW
  obtain ⟨⟨u, c, h, hu, hc, hh, e1, e2, eh, -⟩, hlk, -⟩ := hT _ (ft_mem hk)
  obtain ⟨-, g18, g19, g20, g21⟩ := hf.2.2 k _ (ft_at hk)
  have hfr4 : fr < 4 := by omega
  have hu4 : u < 4 := by omega
  obtain ⟨hR20, hR⟩ := rows_le hW hfr4
  have hC := (cols_le hW hfr4).1
  have hCu := (cols_le hW hu4).1
  have e17 : F_X2_from x = nI fr := (hf.1 3 (by decide)).trans e3
  generalize hRR : nt (x 3 fr) = R at hR20 hR ⊢
  generalize htt : ft f k = t at hlk g18 g19 g20 g21 e1 e2 eh ⊢
  have l18 : F_X2_tableOf x (nI k) = some (t 1) := by unfold F_X2_tableOf; rw [ld_at (by omega) (by decide), bind_some', g18]
  have l19 : F_X2_columnOf x (nI k) = some (t 2) := by unfold F_X2_columnOf; rw [ld_at (by omega) (by decide), bind_some', g19]
  have l20 : F_X2_thanOf x (nI k) = some (t 3) := by unfold F_X2_thanOf; rw [ld_at (by omega) (by decide), bind_some', g20]
  have l21 : F_X2_numberOf x (nI k) = some (t 4) := by unfold F_X2_numberOf; rw [ld_at (by omega) (by decide), bind_some', g21]
  obtain ⟨oc, hoc, e0⟩ : ∃ oc, oc < 4 ∧ B_X1_seekRows_0 x (nI k) = some (48, (), [nI k, nI fr, t 1, t 2, nI oc, (0 : Int32), (0 : Int32)]) ∧ ∀ i, i < 20 → (if t 1 = nI fr then x 5 ((20 * fr + i) * 4 + oc) else if x 5 ((20 * fr + i) * 4 + oc) < 0 then -1000000 else if x 3 u ≤ x 5 ((20 * fr + i) * 4 + oc) then -1000000 else x 5 ((20 * u + nt (x 5 ((20 * fr + i) * 4 + oc))) * 4 + c)) = tv x fr t i := by
    unfold B_X1_seekRows_0
    rw [l18, bind_some', l19, bind_some', e17]
    by_cases h1 : t 1 = nI fr
    · refine ⟨c, by omega, by rw [if_pos h1, e2], fun i hi => ?_⟩
      unfold tv
      rw [if_pos h1, if_pos h1, e2, nt_nI (by omega)]
    · obtain ⟨d, hd, ed⟩ := hlk h1
      refine ⟨d, by omega, by rw [if_neg h1, link8 hW hfr4, bind_some', ed], fun i hi => ?_⟩
      unfold tv
      rw [if_neg h1, if_neg h1, ed, e1, e2, nt_nI (by omega), nt_nI (by omega), nt_nI (by omega)]
  obtain ⟨e0, etv⟩ := e0
  obtain ⟨x', vs', hr, hI⟩ := Rch.loop0 (B := B_X1_seekRows x) (h := 48) (x := ()) (vs := [nI k, nI fr, t 1, t 2, nI oc, nI (msk (hB x fr t) 0), nI 0]) (fun i _ vs => vs = [nI k, nI fr, t 1, t 2, nI oc, nI (msk (hB x fr t) i), nI i]) R rfl (fun i hi _ vs hv => by
    subst hv
    refine ⟨(), _, Rch.one (p' := 48) (x' := ()) (vs' := [nI k, nI fr, t 1, t 2, nI oc, nI (msk (hB x fr t) (i + 1)), nI (i + 1)]) (by decide) ?_, rfl⟩
    show B_X1_seekRows_48 x _ _ _ _ _ _ _ = _
    unfold B_X1_seekRows_48 F_X6_rowsOf
    have hti := etv i (by omega)
    rw [if_neg (nI_pos (by omega)), ld_at hfr4 (by decide), bind_some', bind_some', hR, if_neg (nI_ge hi (by omega)), cell8 hfr4 (by omega) hoc, bind_some', nI_1]
    have fin : ∀ b : Bool, hB x fr t i = b → (if b = true then nI (msk (hB x fr t) i) ||| ((1 : Int32) <<< (nI i &&& 31)) else nI (msk (hB x fr t) i)) = nI (msk (hB x fr t) (i + 1)) := fun b hb => by
      cases b
      · rw [if_neg (by decide), no_bit hb]
      · rw [if_pos rfl, or_bit (by omega) hb]
    by_cases h1 : t 1 = nI fr
    · rw [if_pos h1]
      rw [if_pos h1] at hti
      rw [hti]
      by_cases hv : tv x fr t i = -1000000
      · rw [if_pos hv]
        rw [← fin false (by unfold hB; simp [hv])]
        rfl
      · rw [if_neg hv, l20, bind_some', l21, bind_some']
        by_cases hz : F_X1_holds (tv x fr t i) (t 3) (t 4) = 0
        · rw [if_pos hz, ← fin false (by unfold hB; simp [hz])]
          rfl
        · rw [if_neg hz, ← fin true (by unfold hB; simp [hz, hv])]
          rfl
    · rw [if_neg h1]
      rw [if_neg h1] at hti
      have miss : tv x fr t i = -1000000 → (some (48, (), [nI k, nI fr, t 1, t 2, nI oc, nI (msk (hB x fr t) i), nI (i + 1)]) : Option (Nat × Unit × List Int32)) = some (48, (), [nI k, nI fr, t 1, t 2, nI oc, nI (msk (hB x fr t) (i + 1)), nI (i + 1)]) := fun hv => by
        rw [← fin false (by unfold hB; simp [hv])]
        rfl
      have hrw : F_X6_hasRow x (t 1) (x 5 ((20 * fr + i) * 4 + oc)) = some (if x 5 ((20 * fr + i) * 4 + oc) < 0 then 0 else if x 3 u ≤ x 5 ((20 * fr + i) * 4 + oc) then 0 else 1) := by rw [e1]; exact hasRow8 hu4 _
      rw [hrw, bind_some']
      by_cases b0 : x 5 ((20 * fr + i) * 4 + oc) < 0
      · rw [if_pos b0] at hti
        rw [if_pos b0, if_pos rfl, if_pos rfl]
        exact miss hti.symm
      rw [if_neg b0] at hti
      rw [if_neg b0]
      by_cases b1 : x 3 u ≤ x 5 ((20 * fr + i) * 4 + oc)
      · rw [if_pos b1] at hti
        rw [if_pos b1, if_pos rfl, if_pos rfl]
        exact miss hti.symm
      rw [if_neg b1] at hti
      rw [if_neg b1, if_neg one_ne]
      obtain ⟨j, hj, ej⟩ := i_nn _ b0
      obtain ⟨h20, hRu⟩ := rows_le hW hu4
      have hj20 : j < 20 := by
        rw [ej, hRu, nI_leI (by omega) hj] at b1
        omega
      rw [ej, nt_nI hj] at hti
      have hcl : F_X6_cell x (t 1) (nI j) (t 2) = some (x 5 ((20 * u + j) * 4 + c)) := by rw [e1, e2]; exact cell8 hu4 hj20 (by omega)
      rw [ej, hcl, bind_some', hti]
      by_cases hv : tv x fr t i = -1000000
      · rw [if_pos hv]
        rw [← fin false (by unfold hB; simp [hv])]
        rfl
      · rw [if_neg hv, l20, bind_some', l21, bind_some']
        by_cases hz : F_X1_holds (tv x fr t i) (t 3) (t 4) = 0
        · rw [if_pos hz, ← fin false (by unfold hB; simp [hz])]
          rfl
        · rw [if_neg hz, ← fin true (by unfold hB; simp [hz, hv])]
          rfl)
  refine fin_R (Rch.tr (Rch.one (p' := 48) (x' := ()) (vs' := [nI k, nI fr, t 1, t 2, nI oc, nI (msk (hB x fr t) 0), nI 0]) (by decide) e0) (Rch.tr hr ?_))
  rw [hI]
  refine Rch.one (by decide) ?_
  show B_X1_seekRows_48 x _ _ _ _ _ _ _ = _
  unfold B_X1_seekRows_48 F_X6_rowsOf
  rw [if_neg (nI_pos (by omega)), ld_at hfr4 (by decide), bind_some', bind_some', hR, if_pos (nI_le (Nat.le_refl _) (by omega))]
/-! the cache of the masks -/
def HC (σ : Mem) : Prop := ∀ o fr, o < 72 → fr < 4 → σ 28 (o * 4 + fr) = -1 ∨ (fr < nt (σ 1 0) ∧ σ 28 (o * 4 + fr) = nI (msk (hB σ fr (tO σ o)) (nt (σ 3 fr))))
def sameH (x x' : Mem) : Prop := ∀ j, j ≠ 28 → x' j = x j
theorem sameH.rf {x : Mem} : sameH x x := fun _ _ => rfl
theorem sameH.tr {x y z : Mem} (h1 : sameH x y) (h2 : sameH y z) : sameH x z := fun j hj => (h2 j hj).trans (h1 j hj)
theorem sameH.lo {x y : Mem} (h : sameH x y) : ∀ k, k < 16 → y k = x k := fun k hk => h k (by omega)
theorem sameH_hF {x y : Mem} {f : FS} (h : sameH x y) (hf : hF x f) : hF y f := by
  unfold hF at hf ⊢
  rw [h 17 (by decide), h 18 (by decide), h 19 (by decide), h 20 (by decide), h 21 (by decide), h 22 (by decide)]
  exact hf
theorem WF_c {σ σ' : Mem} (o : ∀ k, k < 16 → σ' k = σ k) (hW : WF σ) : WF σ' := ⟨hW.1.cong (o 1 (by decide)) (o 2 (by decide)) (o 3 (by decide)) (o 4 (by decide)) (o 5 (by decide)), hW.2.1.cong (o 1 (by decide)) (o 2 (by decide)) (o 6 (by decide)) (o 7 (by decide)) (o 8 (by decide)) (o 9 (by decide)) (o 10 (by decide)) (o 11 (by decide)) (o 12 (by decide)), hW.2.2.cong (o 13 (by decide)) (o 14 (by decide)) (o 15 (by decide))⟩
theorem HC_c {σ σ' : Mem} (h : ∀ k, k < 16 → σ' k = σ k) (h28 : σ' 28 = σ 28) (hC : HC σ) : HC σ' := by
  unfold HC
  rw [h28, hB_c h, tO_c h, h 1 (by decide), h 3 (by decide)]
  exact hC
theorem hold8 {x : Mem} (hW : WF x) {f : FS} (hf : hF x f) {fr : Nat} (hs : SF x f fr) (hC : HC x) {k : Nat} (hk : k < f.2.length) : ∃ x', F_X1_rowsHolding x (nI k) = some (nI (msk (hB x fr (ft f k)) (nt (x 3 fr))), x') ∧ sameH x x' ∧ HC x' := by
  have hsk := seek8 hW.1 hf hs hk
  obtain ⟨hfr, e3, hl, -, -, hT⟩ := id hs
  have hT4 := tabs_le hW.1
  have hfr4 : fr < 4 := by omega
  obtain ⟨-, -, o, ho, eo⟩ := hT _ (ft_mem hk)
  obtain ⟨g22, -⟩ := hf.2.2 k _ (ft_at hk)
  have e17 : F_X2_from x = nI fr := (hf.1 3 (by decide)).trans e3
  have l22 : F_X2_originOf x (nI k) = some (nI o) := by unfold F_X2_originOf; rw [ld_at (by omega) (by decide), bind_some', g22, eo, tO_0]
  unfold F_X1_rowsHolding
  rw [l22, bind_some', e17, r4, nI_add, ld_at (by omega) (by decide), bind_some']
  have hR := (rows_le hW.1 hfr4).1
  by_cases h : x 28 (o * 4 + fr) = -1
  · rw [if_pos h, hsk, bind_some', sto_at (by omega) (by decide), bind_some', st_eq, ld_at (by omega) (by decide), bind_some', upd_eq]
    refine ⟨_, rfl, fun j hj => st_ne hj, ?_⟩
    have hc : ∀ k', k' < 16 → st x 28 (o * 4 + fr) (nI (msk (hB x fr (ft f k)) (nt (x 3 fr)))) k' = x k' := fun k' hk' => st_ne (by omega)
    intro o' fr' ho' hfr'
    rw [hB_c hc, tO_c hc, hc 1 (by decide), hc 3 (by decide), st_eq]
    by_cases h2 : o' * 4 + fr' = o * 4 + fr
    · have : o' = o := by omega
      have : fr' = fr := by omega
      subst o' fr'
      rw [upd_eq, eo]
      exact Or.inr ⟨hfr, rfl⟩
    · rw [upd_ne h2]
      exact hC o' fr' ho' hfr'
  · rw [if_neg h, bind_some']
    refine ⟨x, ?_, sameH.rf, hC⟩
    rcases hC o fr ho hfr4 with h1 | ⟨-, h1⟩
    · exact absurd h1 h
    · rw [h1, eo]
theorem rows8 {x : Mem} (hW : WF x) {f : FS} (hf : hF x f) {fr : Nat} (hs : SF x f fr) (hC : HC x) : ∃ x', F_X1_rowsFound x = some (nI (msk (fBm x f fr 0) (nt (x 3 fr))), x') ∧ sameH x x' ∧ HC x' := by
  obtain ⟨hfr, e3, hl, -, -, hT⟩ := id hs
  have hT4 := tabs_le hW.1
  have hfr4 : fr < 4 := by omega
  obtain ⟨hR20, hR⟩ := rows_le hW.1 hfr4
  have e17 : F_X2_from x = nI fr := (hf.1 3 (by decide)).trans e3
  generalize hRR : nt (x 3 fr) = R at hR20 hR ⊢
  obtain ⟨x', vs', hr, h1, h2, h3⟩ := Rch.loop0 (B := B_X1_rowsFound) (h := 18) (x := x) (vs := [nI (msk (fun r => al (fun k => (0 : Nat).testBit k || hB x fr (ft f k) r) 0) R), nI 0]) (fun i y vs => vs = [nI (msk (fun r => al (fun k => (0 : Nat).testBit k || hB x fr (ft f k) r) i) R), nI i] ∧ sameH x y ∧ HC y) f.2.length ⟨rfl, sameH.rf, hC⟩ (fun i hi y vs hI => by
    obtain ⟨rfl, hS, hCy⟩ := hI
    have hfy := sameH_hF hS hf
    have hWy := WF_c hS.lo hW
    obtain ⟨y', g1, g2, g3⟩ := hold8 hWy hfy (fr := fr) (by rw [SF_c hS.lo]; exact hs) hCy hi
    rw [hB_c hS.lo, hS 3 (by decide), hRR] at g1
    refine ⟨y', _, Rch.one (p' := 18) (x' := y') (vs' := [nI (msk (fun r => al (fun k => (0 : Nat).testBit k || hB x fr (ft f k) r) (i + 1)) R), nI (i + 1)]) (by decide) ?_, rfl, hS.tr g2, g3⟩
    show B_X1_rowsFound_18 y _ _ = _
    unfold B_X1_rowsFound_18 F_X2_tests
    rw [hfy.2.1, if_neg (nI_ge hi (by omega)), g1, bind_some', nI_and, msk_and, nI_1]
    congr 6
    funext r
    show (_ && hB x fr (ft f i) r) = (_ && (Nat.testBit 0 i || hB x fr (ft f i) r))
    rw [Nat.zero_testBit, Bool.false_or])
  refine ⟨x', fin_M (Rch.tr (Rch.one (p' := 18) (x' := x) (vs' := [nI (msk (fun r => al (fun k => (0 : Nat).testBit k || hB x fr (ft f k) r) 0) R), nI 0]) (by decide) ?_) (Rch.tr hr ?_)), h2, h3⟩
  · show B_X1_rowsFound_0 x = _
    unfold B_X1_rowsFound_0 F_X6_rowsOf
    rw [e17, ld_at hfr4 (by decide), bind_some', bind_some', hR, sh1 (by omega)]
    show some (18, x, [nI (2 ^ R) - nI 1, nI 0]) = _
    rw [pk_sub (Nat.two_pow_pos R), ← msk_all]
    rfl
  · rw [h1]
    refine Rch.one (by decide) ?_
    show B_X1_rowsFound_18 x' _ _ = _
    unfold B_X1_rowsFound_18 F_X2_tests
    rw [(sameH_hF h2 hf).2.1, if_pos (nI_le (Nat.le_refl _) (by omega))]
    rfl
