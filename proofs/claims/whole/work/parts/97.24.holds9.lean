/-! the reference: whether a TEST holds, what is FOUND -/
theorem small_ne {v : Int32} (h : small v) : v ≠ -1000000 ∧ v ≠ -1000 := by
  refine ⟨fun e => ?_, fun e => ?_⟩
  · rw [e] at h; exact absurd h.1 (by decide)
  · rw [e] at h; exact absurd h.1 (by decide)
theorem mv_sm {v : Int32} (h : small v) : mv v = v := if_neg (small_ne h).1
theorem mv_noth : mv (-1000000) = -1000 := if_pos rfl
theorem cel_ok {σ : Mem} (hW : WFt σ) {t r c : Nat} (ht : t < 4) (hr : r < 20) (hc : c < 4) : σ 5 ((20 * t + r) * 4 + c) = -1000000 ∨ small (σ 5 ((20 * t + r) * 4 + c)) := hW.2.2.2.2.2.1 _ (by omega)
theorem vlo9 {σ y : Mem} (hW : WFt σ) (hE : EQt σ y) {t r c : Nat} (ht : t < 4) (hr : r < nt (σ 3 t)) (hc : c < 4) : F_X9_valueOf y (nI t) (nI r) (nI c) = some (mv (σ 5 ((20 * t + r) * 4 + c))) := by
  have h20 := (rows_le hW ht).1
  unfold F_X9_valueOf
  rw [l20, nI_add, r4, nI_add, ld_at (by omega) (by decide), bind_some', hE.2.2.2.2 t r c ht hr hc]
theorem tl9 {y : Mem} {k : Nat} {a b v : Int32} (h24 : ld 8 (y 24) (nI k) = some a) (h25 : ld 8 (y 25) (nI k) = some b) (hv : v = -1000000 ∨ small v) :
    (if mv v = (-1000 : Int32) then some (0 : Int32) else (ld 8 (y 24) (nI k)).bind fun v9 => if v9 = (0 : Int32) then (ld 8 (y 25) (nI k)).bind fun v21 => if mv v ≤ v21 then some (0 : Int32) else some (1 : Int32) else (ld 8 (y 24) (nI k)).bind fun v12 => if v12 = (1 : Int32) then (ld 8 (y 25) (nI k)).bind fun v18 => if v18 ≤ mv v then some (0 : Int32) else some (1 : Int32) else (ld 8 (y 25) (nI k)).bind fun v15 => if mv v = v15 then some (1 : Int32) else some (0 : Int32)) = some (b01 (!decide (v = -1000000) && !decide (F_X1_holds v a b = 0))) := by
  rcases hv with rfl | hv
  · rw [mv_noth, if_pos rfl]; simp; rfl
  · obtain ⟨n1, n2⟩ := small_ne hv
    rw [mv_sm hv, if_neg n2, h24, bind_some']
    unfold F_X1_holds
    by_cases a0 : a = 0
    · rw [if_pos a0, if_pos a0, h25, bind_some']
      by_cases c : v ≤ b
      · rw [if_pos c, if_pos c]; simp; rfl
      · rw [if_neg c, if_neg c]; simp [n1]; rfl
    rw [if_neg a0, if_neg a0, bind_some']
    by_cases a1 : a = 1
    · rw [if_pos a1, if_pos a1, h25, bind_some']
      by_cases c : b ≤ v
      · rw [if_pos c, if_pos c]; simp; rfl
      · rw [if_neg c, if_neg c]; simp [n1]; rfl
    rw [if_neg a1, if_neg a1, h25, bind_some']
    by_cases c : v = b
    · rw [if_pos c, if_pos c]; simp [n1]; rfl
    · rw [if_neg c, if_neg c]; simp; rfl
theorem holds9 {σ y : Mem} (hW : WFt σ) (hE : EQt σ y) {f : FS} {c fr : Nat} (hm : hM2 y f c) (hs : SF σ f fr) {k : Nat} (hk : k < f.2.length) {r : Nat} (hr : r < nt (σ 3 fr)) : F_X9_holds y (nI k) (nI r) = some (b01 (hB σ fr (ft f k) r)) := by
  obtain ⟨hfr, e3, hl, -, -, hT⟩ := id hs
  have hT4 := tabs_le hW
  obtain ⟨⟨u, q, h, hu, hq, hh, e1, e2, eh, -⟩, hlk, -⟩ := hT _ (ft_mem hk)
  obtain ⟨-, m25, -, -, -, mT⟩ := id hm
  obtain ⟨g22, g23, g24, g25⟩ := mT k _ (ft_at hk)
  have hfr4 : fr < 4 := by omega
  have hu4 : u < 4 := by omega
  have hR20 := (rows_le hW hfr4).1
  have hC := (cols_le hW hfr4).1
  have hCu := (cols_le hW hu4).1
  have hRu := rows_le hW hu4
  generalize htt : ft f k = t at hlk g22 g23 g24 g25 e1 e2 eh ⊢
  have l22 : ld 8 (y 22) (nI k) = some (t 1) := by rw [ld_at (by omega) (by decide), g22]
  have l23 : ld 8 (y 23) (nI k) = some (t 2) := by rw [ld_at (by omega) (by decide), g23]
  have l24 : ld 8 (y 24) (nI k) = some (t 3) := by rw [ld_at (by omega) (by decide), g24]
  have l25 : ld 8 (y 25) (nI k) = some (t 4) := by rw [ld_at (by omega) (by decide), g25]
  have y25 : y 0 25 = nI fr := m25.trans e3
  unfold F_X9_holds
  rw [l22, bind_some', y25]
  by_cases h1 : t 1 = nI fr
  · have hut : u = fr := nI_inj (by omega) (by omega) (e1.symm.trans h1)
    subst hut
    have etv : tv σ u t r = σ 5 ((20 * u + r) * 4 + q) := by unfold tv; rw [if_pos h1, e2, nt_nI (by omega)]
    rw [if_pos h1, l23, bind_some', e1, e2, vlo9 hW hE hu4 hr (by omega), bind_some']
    unfold hB
    rw [etv]
    exact tl9 l24 l25 (cel_ok hW hu4 (by omega) (by omega))
  · obtain ⟨d, hd, ed⟩ := hlk h1
    rw [if_neg h1, linkTo9 hW hfr y25 hE.2.1 hE.2.2.2.1, bind_some', ed, vlo9 hW hE hfr4 hr (by omega), bind_some']
    have etv : tv σ fr t r = if σ 5 ((20 * fr + r) * 4 + d) < 0 then -1000000 else if σ 3 u ≤ σ 5 ((20 * fr + r) * 4 + d) then -1000000 else σ 5 ((20 * u + nt (σ 5 ((20 * fr + r) * 4 + d))) * 4 + q) := by
      unfold tv; rw [if_neg h1, ed, e1, e2, nt_nI (by omega), nt_nI (by omega), nt_nI (by omega)]
    have hno : tv σ fr t r = -1000000 → hB σ fr t r = false := fun hh => by unfold hB; simp [hh]
    rcases cel_ok hW hfr4 (show r < 20 by omega) (show d < 4 by omega) with hv | hv
    · rw [hv] at etv ⊢
      rw [mv_noth, if_pos (by decide), hno (by rw [etv, if_pos (by decide)])]
      rfl
    · rw [mv_sm hv]
      generalize σ 5 ((20 * fr + r) * 4 + d) = v at hv etv
      by_cases h0 : v < 0
      · rw [if_pos h0, hno (by rw [etv, if_pos h0])]; rfl
      rw [if_neg h0] at etv ⊢
      obtain ⟨j, hj, rfl⟩ := i_nn v h0
      rw [e1, ld_at hu4 (by decide), bind_some', hE.2.2.1 u hu4]
      by_cases h2 : σ 3 u ≤ nI j
      · rw [if_neg (Int32.not_lt.mpr h2), hno (by rw [etv, if_pos h2])]; rfl
      · rw [if_pos (Int32.not_le.mp h2), l23, bind_some', e2]
        rw [if_neg h2, nt_nI hj] at etv
        have hju : j < nt (σ 3 u) := by
          rw [hRu.2, nI_leI (by omega) hj] at h2
          omega
        rw [vlo9 hW hE hu4 hju (by omega), bind_some']
        unfold hB
        rw [etv]
        exact tl9 l24 l25 (cel_ok hW hu4 (by omega) (by omega))
theorem b01_0 (b : Bool) : (b01 b = 0) ↔ b = false := by cases b <;> decide
theorem found9 {σ y : Mem} (hW : WFt σ) (hE : EQt σ y) {f : FS} {c fr : Nat} (hm : hM2 y f c) (hs : SF σ f fr) {r : Nat} (hr : r < nt (σ 3 fr)) {N : Nat} (hN : N < 2147483648) : F_X9_isFound y (nI r) (nI N) = some (b01 (fBm σ f fr N r)) := by
  have hl := hs.2.2.1
  have y32 : y 0 32 = nI f.2.length := hm.2.2.2.2.1
  obtain ⟨x', vs', h, hI⟩ := Rch.loop0 (B := B_X9_isFound y) (h := 5) (x := ()) (vs := [nI r, nI N, b01 (al (fun k => N.testBit k || hB σ fr (ft f k) r) 0), nI 0]) (fun i _ vs => vs = [nI r, nI N, b01 (al (fun k => N.testBit k || hB σ fr (ft f k) r) i), nI i]) f.2.length rfl (fun i hi _ vs hv => by
    subst hv
    refine ⟨(), _, Rch.one (p' := 5) (x' := ()) (vs' := [nI r, nI N, b01 (al (fun k => N.testBit k || hB σ fr (ft f k) r) (i + 1)), nI (i + 1)]) (by decide) ?_, rfl⟩
    show B_X9_isFound_5 y _ _ _ _ = _
    unfold B_X9_isFound_5
    rw [y32, if_neg (nI_ge hi (by omega)), nI_1]
    have hal : al (fun k => N.testBit k || hB σ fr (ft f k) r) (i + 1) = (al (fun k => N.testBit k || hB σ fr (ft f k) r) i && (N.testBit i || hB σ fr (ft f i) r)) := rfl
    rw [hal]
    by_cases ha : al (fun k => N.testBit k || hB σ fr (ft f k) r) i = true
    · rw [ha, if_neg (show ¬ b01 true = 0 by decide), bitN hN (by omega), Bool.true_and]
      by_cases hb : N.testBit i = true
      · have hb2 : N / 2 ^ i % 2 = 1 := by rw [tB] at hb; simpa using hb
        rw [hb2, if_pos (show nI 1 = (1 : Int32) from rfl), hb]
        rfl
      · have hb2 : ¬ N / 2 ^ i % 2 = 1 := by rw [tB] at hb; simpa using hb
        have hb3 : N.testBit i = false := by simpa using hb
        rw [if_neg (show ¬ nI (N / 2 ^ i % 2) = (1 : Int32) from fun e => hb2 (nI_inj (by omega) (b := 1) (by decide) e)), holds9 hW hE hm hs hi hr, bind_some', hb3, Bool.false_or]
        cases hB σ fr (ft f i) r <;> rfl
    · have ha2 : al (fun k => N.testBit k || hB σ fr (ft f k) r) i = false := by simpa using ha
      rw [ha2, if_pos (show b01 false = 0 by decide), Bool.false_and]
      rfl)
  refine fin_R (Rch.tr (Rch.one (p' := 5) (x' := ()) (vs' := [nI r, nI N, b01 (al (fun k => N.testBit k || hB σ fr (ft f k) r) 0), nI 0]) (by decide) rfl) (Rch.tr h ?_))
  rw [hI]
  refine Rch.one (by decide) ?_
  show B_X9_isFound_5 y _ _ _ _ = _
  unfold B_X9_isFound_5
  rw [y32, if_pos (nI_le (Nat.le_refl _) (by omega)), if_pos (b01_nar _)]
  rfl
theorem many9 {σ y : Mem} (hW : WFt σ) (hE : EQt σ y) {f : FS} {c fr : Nat} (hm : hM2 y f c) (hs : SF σ f fr) {N : Nat} (hN : N < 2147483648) : F_X9_foundMany y (nI N) = some (nI (fb_ct (fBm σ f fr N) (nt (σ 3 fr)))) := by
  have hfr4 : fr < 4 := by have := tabs_le hW; have := hs.1; omega
  obtain ⟨hR20, hR⟩ := rows_le hW hfr4
  have y25 : y 0 25 = nI fr := hm.2.1.trans hs.2.1
  have y2 : ld 4 (y 2) (nI fr) = some (nI (nt (σ 3 fr))) := by rw [ld_at hfr4 (by decide), hE.2.2.1 fr hfr4]; exact congrArg some hR
  obtain ⟨x', vs', h, hI⟩ := Rch.loop0 (B := B_X9_foundMany y) (h := 4) (x := ()) (vs := [nI N, nI 0, nI 0]) (fun i _ vs => vs = [nI N, nI (fb_ct (fBm σ f fr N) i), nI i]) (nt (σ 3 fr)) rfl (fun i hi _ vs hv => by
    subst hv
    refine ⟨(), _, Rch.one (p' := 4) (x' := ()) (vs' := [nI N, nI (fb_ct (fBm σ f fr N) (i + 1)), nI (i + 1)]) (by decide) ?_, rfl⟩
    show B_X9_foundMany_4 y _ _ _ = _
    unfold B_X9_foundMany_4
    rw [y25, y2, bind_some', if_neg (nI_ge hi (by omega)), found9 hW hE hm hs hi hN, bind_some', fb_ct_succ, nI_1, i0, nI_add, nI_1]
    by_cases hb : fBm σ f fr N i = true
    · rw [hb, if_neg (show ¬ b01 true = nI 0 by decide)]; rfl
    · rw [show fBm σ f fr N i = false by simpa using hb, if_pos (show b01 false = nI 0 by decide)]; rfl)
  refine fin_R (Rch.tr (Rch.one (p' := 4) (x' := ()) (vs' := [nI N, nI 0, nI 0]) (by decide) rfl) (Rch.tr h ?_))
  rw [hI]
  refine Rch.one (by decide) ?_
  show B_X9_foundMany_4 y _ _ _ = _
  unfold B_X9_foundMany_4
  rw [y25, y2, bind_some', if_pos (nI_le (Nat.le_refl _) (by omega))]
