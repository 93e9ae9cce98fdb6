/-! findNear of the reference -/
def hs9 (v : Int32) : Nat := (v * (40503 : Int32)).toBitVec.toNat / 2 ^ 7 % 16384
theorem hs9_lt (v : Int32) : hs9 v < 16384 := Nat.mod_lt _ (by decide)
theorem hs9_eq (v : Int32) : (((Int32.toUInt32 (v * (40503 : Int32)) >>> (Int32.toUInt32 (7 : Int32) &&& Int32.toUInt32 31)).toInt32) &&& (16383 : Int32)) = nI (hs9 v) := by
  rw [pk_and _ 14 (by decide), pk_ushr _ _ 7 (by decide)]
  rfl
def ac9 (y : Mem) (s : Nat) : Bool := decide (0 ≤ y 18 s)
/-- likeOf: the first with the like answer -/
def LO (σ y : Mem) (n : Nat) : Prop := ∀ j, j < n → ∃ l, l ≤ j ∧ y 19 j = nI l ∧ aw σ l = aw σ j ∧ ∀ l', l' < l → aw σ l' ≠ aw σ j
def HB (σ y : Mem) (A : Nat → Int32) (i : Nat) : Prop := (∀ s, s < 16384 → y 18 s = -1 ∨ ∃ j, j < i ∧ y 18 s = nI j ∧ ∀ j', j' < j → aw σ j' ≠ aw σ j) ∧ (∀ j, j < i → ∃ s j0, s < 16384 ∧ y 18 s = nI j0 ∧ j0 < i ∧ aw σ j0 = aw σ j) ∧ fb_ct (ac9 y) 16384 ≤ i ∧ pInv 16384 (ac9 y) (fun s => A (nt (y 18 s))) hs9 ∧ LO σ y i
theorem upd_id {f : Nat → Int32} {j : Nat} {v : Int32} (h : f j = v) : upd f j v = f := by
  funext i
  by_cases e : i = j
  · rw [e, upd_eq, h]
  · rw [upd_ne e]
theorem hb_step {σ y0 : Mem} {n : Nat} (hn : n ≤ 6561) (hA : ∀ j, j < n → y0 26 j = aw σ j) {i : Nat} (hi : i < n) {y : Mem} (hS : ∀ k, k ≠ 18 → k ≠ 19 → y k = y0 k) (hB : HB σ y (y0 26) i) : ∃ y', Rch B_X9_findNear 121 y [nI n, nI i] 121 y' [nI n, nI (i + 1)] ∧ (∀ k, k ≠ 18 → k ≠ 19 → y' k = y0 k) ∧ HB σ y' (y0 26) (i + 1) := by
  obtain ⟨b1, b2, b3, b4, b5⟩ := id hB
  have y26 : y 26 = y0 26 := hS 26 (by decide) (by decide)
  obtain ⟨q, hq, hpath, hend⟩ := probe hs9_lt (Nat.lt_of_le_of_lt b3 (by omega)) b4 (aw σ i)
  have hmod : ∀ z, z % 16384 < 16384 := fun z => Nat.mod_lt _ (by decide)
  have act : ∀ s, s < 16384 → ac9 y s = true → ∃ j, j < i ∧ y 18 s = nI j ∧ ∀ j', j' < j → aw σ j' ≠ aw σ j := fun s hs ha => by
    rcases b1 s hs with h | h
    · unfold ac9 at ha
      rw [h] at ha
      exact absurd ha (by decide)
    · exact h
  have nx : ∀ z, z < 16384 → (nI z + (1 : Int32)) &&& (16383 : Int32) = nI ((z + 1) % 16384) := fun z hz => by
    rw [nI_1]
    exact pk_andN (by omega) 14 (by decide)
  have h0 : Rch B_X9_findNear 121 y [nI n, nI i] 144 y [nI n, nI i, nI ((hs9 (aw σ i) + 0) % 16384)] := by
    refine Rch.one (by decide) ?_
    show B_X9_findNear_121 y _ _ = _
    unfold B_X9_findNear_121
    rw [if_neg (nI_ge hi (by omega)), ld_at (by omega) (by decide), bind_some', y26, hA i hi, hs9_eq, bind_some', Nat.add_zero, Nat.mod_eq_of_lt (hs9_lt _)]
  obtain ⟨z, vs', hr, g1, g2⟩ := Rch.loop0 (B := B_X9_findNear) (h := 144) (x := y) (vs := [nI n, nI i, nI ((hs9 (aw σ i) + 0) % 16384)]) (fun k z vs => vs = [nI n, nI i, nI ((hs9 (aw σ i) + k) % 16384)] ∧ z = y) q ⟨rfl, rfl⟩ (fun k hk z vs hI => by
    obtain ⟨rfl, rfl⟩ := hI
    obtain ⟨p1, p2⟩ := hpath k hk
    obtain ⟨j, hj, ej, -⟩ := act _ (hmod _) p1
    refine ⟨_, _, Rch.one (p' := 144) (x' := z) (vs' := [nI n, nI i, nI ((hs9 (aw σ i) + (k + 1)) % 16384)]) (by decide) ?_, rfl, rfl⟩
    show B_X9_findNear_144 z _ _ _ = _
    unfold B_X9_findNear_144
    have p2' : ¬ aw σ j = aw σ i := by
      rw [ej, nt_nI (by omega), hA j (by omega)] at p2
      exact p2
    rw [ld_at (hmod _) (by decide), bind_some', ej, if_neg (nI_pos (by omega)), bind_some', ld_at (by omega) (by decide), bind_some', ld_at (by omega) (by decide), bind_some', y26, hA j (by omega), hA i hi, if_neg p2', nx _ (hmod _), Nat.mod_add_mod]
    rfl)
  have hto : Rch B_X9_findNear 121 y [nI n, nI i] 144 y [nI n, nI i, nI ((hs9 (aw σ i) + q) % 16384)] := by
    rw [g1, g2] at hr
    exact h0.tr hr
  have hqM := hmod (hs9 (aw σ i) + q)
  generalize hsq : (hs9 (aw σ i) + q) % 16384 = s0 at hto hend hqM
  have lo : ∀ (y' : Mem) (l : Nat), l ≤ i → y' 19 = upd (y 19) i (nI l) → aw σ l = aw σ i → (∀ l', l' < l → aw σ l' ≠ aw σ i) → LO σ y' (i + 1) := fun y' l h1 h2 h3 h4 j hj => by
    rw [h2]
    by_cases e : j = i
    · rw [e, upd_eq]; exact ⟨l, h1, rfl, h3, h4⟩
    · rw [upd_ne e]; exact b5 j (by omega)
  rcases hend with ⟨e1, e2⟩ | ⟨e1, e2⟩
  · have e1' : y 18 s0 = -1 := by
      rcases b1 s0 hqM with h | ⟨j, hj, ej, -⟩
      · exact h
      · unfold ac9 at e1
        rw [ej] at e1
        simp only [decide_eq_false_iff_not] at e1
        exact absurd (nI_pos' (by omega)) e1
    have first : ∀ j, j < i → aw σ j ≠ aw σ i := fun j hj e => by
      obtain ⟨s, j0, hs, ej, hj0, e3⟩ := b2 j hj
      have := e2 s hs (by unfold ac9; rw [ej]; exact decide_eq_true (nI_pos' (by omega)))
      rw [ej, nt_nI (by omega), hA j0 (by omega)] at this
      exact this (e3.trans e)
    refine ⟨st (st y 18 s0 (nI i)) 19 i (nI i), hto.tr (Rch.one (by decide) ?_), fun k h1 h2 => by rw [st_ne h2, st_ne h1]; exact hS k h1 h2, ?_⟩
    · show B_X9_findNear_144 y _ _ _ = _
      unfold B_X9_findNear_144
      rw [ld_at hqM (by decide), bind_some', e1', if_pos (by decide), bind_some', if_neg (by decide), sto_at hqM (by decide), bind_some', st_eq, ld_at hqM (by decide), bind_some', upd_eq, sto_at (by omega) (by decide), bind_some', nI_1]
    · have c18 : st (st y 18 s0 (nI i)) 19 i (nI i) 18 = upd (y 18) s0 (nI i) := by rw [st_ne (by decide), st_eq]
      have ha : ∀ s, s < 16384 → ac9 (st (st y 18 s0 (nI i)) 19 i (nI i)) s = (ac9 y s || decide (s = s0)) := fun s _ => by
        unfold ac9
        rw [c18]
        by_cases e : s = s0
        · rw [e, upd_eq, decide_eq_true (nI_pos' (show i < 2147483648 by omega))]
          simp
        · rw [upd_ne e]
          simp [e]
      refine ⟨fun s hs => ?_, fun j hj => ?_, ?_, ?_, lo _ i (Nat.le_refl _) (by rw [st_eq, st_ne (by decide)]) rfl first⟩
      · rw [c18]
        by_cases e : s = s0
        · rw [e, upd_eq]; exact Or.inr ⟨i, by omega, rfl, first⟩
        · rw [upd_ne e]
          rcases b1 s hs with h | ⟨j, hj, h⟩
          · exact Or.inl h
          · exact Or.inr ⟨j, by omega, h⟩
      · by_cases e : j = i
        · exact ⟨s0, i, hqM, by rw [c18, upd_eq], by omega, by rw [e]⟩
        · obtain ⟨s, j0, hs, ej, hj0, e3⟩ := b2 j (by omega)
          refine ⟨s, j0, hs, ?_, by omega, e3⟩
          rw [c18, upd_ne]
          · exact ej
          · intro e'
            rw [e', e1'] at ej
            exact ne_m1 (by omega) ej.symm
      · exact Nat.le_trans (Nat.le_of_eq (ct_add hqM e1 ha)) (Nat.add_le_add_right b3 1)
      · refine pInv_add hq b4 (fun k hk => (hpath k hk).1) (fun s hs => by rw [hsq]; exact ha s hs) (fun s _ => ?_)
        rw [c18, hsq]
        by_cases e : s = s0
        · rw [if_pos e, e, upd_eq, nt_nI (by omega), hA i hi]
        · rw [if_neg e, upd_ne e]
  · obtain ⟨j, hj, ej, hfirst⟩ := act _ hqM e1
    rw [ej, nt_nI (by omega), hA j (by omega)] at e2
    refine ⟨st (st y 18 s0 (nI j)) 19 i (nI j), hto.tr (Rch.one (by decide) ?_), fun k h1 h2 => by rw [st_ne h2, st_ne h1]; exact hS k h1 h2, ?_⟩
    · show B_X9_findNear_144 y _ _ _ = _
      unfold B_X9_findNear_144
      rw [ld_at hqM (by decide), bind_some', ej, if_neg (nI_pos (by omega)), bind_some', ld_at (by omega) (by decide), bind_some', ld_at (by omega) (by decide), bind_some', y26, hA j (by omega), hA i hi, if_pos e2, bind_some', if_pos (nI_pos' (by omega)), bind_some', sto_at hqM (by decide), bind_some', st_eq, ld_at hqM (by decide), bind_some', upd_eq, sto_at (by omega) (by decide), bind_some', nI_1]
    · have c18 : st (st y 18 s0 (nI j)) 19 i (nI j) 18 = y 18 := by rw [st_ne (by decide), st_eq, upd_id ej]
      have ca : ac9 (st (st y 18 s0 (nI j)) 19 i (nI j)) = ac9 y := by
        funext s
        unfold ac9
        rw [c18]
      refine ⟨fun s hs => ?_, fun k hk => ?_, ?_, ?_, lo _ j (by omega) (by rw [st_eq, st_ne (by decide)]) e2 (fun l' hl' => by rw [← e2]; exact hfirst l' hl')⟩
      · rw [c18]
        rcases b1 s hs with h | ⟨j', hj', h⟩
        · exact Or.inl h
        · exact Or.inr ⟨j', by omega, h⟩
      · rw [c18]
        by_cases e : k = i
        · exact ⟨s0, j, hqM, ej, by omega, by rw [e]; exact e2⟩
        · obtain ⟨s, j0, hs, ej0, hj0, e3⟩ := b2 k (by omega)
          exact ⟨s, j0, hs, ej0, by omega, e3⟩
      · rw [ca]; exact Nat.le_trans b3 (Nat.le_succ i)
      · rw [ca, c18]; exact b4
theorem fnear9 {σ τ : Mem} (hW : WF σ) (hE : EQ σ τ) {d n : Nat} (hd : d ≤ 1000) (hn : n ≤ (Sd σ).length) (h1 : ∀ i, i < n → cst σ i ≤ cst σ 0 + d) (h2 : n = (Sd σ).length ∨ cst σ 0 + d < cst σ n) : ∃ y, F_X9_findNear τ (nI d) = some (nI n, y) ∧ sameS τ y ∧ (∀ i, i < (Sd σ).length → y 13 i = nI (wy σ i)) ∧ LO σ y n := by
  obtain ⟨τ1, f1, f2, f3, f4, f5⟩ := find9 hW hE
  have hl := Sd_6561 hW
  have hp3 := p3_le hW
  have hc792 : ∀ i, cst σ i ≤ 792 := fun i => kC_792 hW _
  have w13 : ∀ i, i < (Sd σ).length → τ1 13 i = nI (wy σ i) := fun i hi => f4 i _ (wy_at hi)
  have w14 : ∀ i, i < (Sd σ).length → τ1 14 i = nI (cst σ i) := fun i hi => f5 i _ (by rw [List.getElem?_map, wy_at hi]; rfl)
  -- how many are near
  obtain ⟨y, vs', hr, g1, g2⟩ := Rch.loop0 (B := B_X9_findNear) (h := 6) (x := τ1) (vs := [nI d, nI 0]) (fun i y vs => vs = [nI d, nI i] ∧ y = τ1) n ⟨rfl, rfl⟩ (fun i hi y vs hI => by
    obtain ⟨rfl, rfl⟩ := hI
    refine ⟨_, _, Rch.one (p' := 6) (x' := y) (vs' := [nI d, nI (i + 1)]) (by decide) ?_, rfl, rfl⟩
    show B_X9_findNear_6 y _ _ = _
    unfold B_X9_findNear_6
    have := h1 i hi
    have := hc792 0
    rw [f3, if_neg (nI_ge (by omega) (by omega)), ld_at (by omega) (by decide), bind_some', w14 i (by omega), show ld 6561 (y 14) 0 = some (nI (cst σ 0)) from (ld_at (j := 0) (by decide) (by decide)).trans (congrArg some (w14 0 (by omega))), bind_some', nI_add, if_neg (nI_nlt (by omega) (by omega)), nI_1])
  rw [g1, g2] at hr
  have hA1 : Rch B_X9_findNear 0 τ [nI d] 39 τ1 [nI n, nI 0] := by
    refine Rch.tr (Rch.one (p' := 6) (x' := τ1) (vs' := [nI d, nI 0]) (by decide) ?_) (Rch.tr hr (Rch.one (by decide) ?_))
    · show B_X9_findNear_0 τ _ = _
      unfold B_X9_findNear_0
      rw [f1, bind_some']
      rfl
    · show B_X9_findNear_6 τ1 _ _ = _
      unfold B_X9_findNear_6
      rw [f3]
      by_cases hnl : n = (Sd σ).length
      · rw [if_pos (nI_le (by omega) (by omega))]
        rfl
      · have h3 := h2.resolve_left hnl
        have := hc792 n
        rw [if_neg (nI_ge (by omega) (by omega)), ld_at (by omega) (by decide), bind_some', w14 n (by omega), show ld 6561 (τ1 14) 0 = some (nI (cst σ 0)) from (ld_at (j := 0) (by decide) (by decide)).trans (congrArg some (w14 0 (by omega))), bind_some', nI_add, if_pos (nI_lt h3 (by omega))]
        rfl
  -- their answers
  obtain ⟨y2, vs2, hr2, k1, k2, k3, k4⟩ := Rch.loop0 (B := B_X9_findNear) (h := 39) (x := τ1) (vs := [nI n, nI 0]) (fun i y vs => vs = [nI n, nI i] ∧ sameS τ y ∧ y 13 = τ1 13 ∧ ∀ j, j < i → y 26 j = aw σ j) n ⟨rfl, f2, rfl, fun j h => by omega⟩ (fun i hi y vs hI => by
    obtain ⟨rfl, q1, q2, q3⟩ := hI
    have hwR := Sd_Rd (List.mem_of_getElem? (wy_at (σ := σ) (i := i) (by omega)))
    have hwR' := hwR
    rw [Rd_rdB] at hwR'
    have hw3 := List.mem_range.mp (List.mem_filter.mp hwR').1
    have hrb := (List.mem_filter.mp hwR').2
    obtain ⟨y1, u1, u2, u3, u4⟩ := way9 hW (q1.EQ hE) (w := wy σ i) (by omega)
    have hh := ((rd_iff hW (wy σ i)).mp hrb).1
    obtain ⟨y3, v1, v2, v3⟩ := u4 hh
    obtain ⟨fr, hs⟩ := SF_of hW hwR
    have hfr : fr < 4 := by have := tabs_le hW.1; have := hs.1; omega
    have hS3 := q1.tr v2.S
    have ha := ans9 hW.1 (hS3.EQ hE).1 (v3 hrb).1 hs
    rw [← an_eq hs (by omega)] at ha
    refine ⟨st y3 26 i (aw σ i), _, Rch.one (p' := 39) (vs' := [nI n, nI (i + 1)]) (by decide) ?_, rfl, hS3.tr ⟨fun k a b => st_ne (by omega), by rw [st_ne (by decide)], by rw [st_ne (by decide)]⟩, ?_, fun j hj => ?_⟩
    · show B_X9_findNear_39 y _ _ = _
      unfold B_X9_findNear_39
      rw [if_neg (nI_ge hi (by omega)), ld_at (by omega) (by decide), bind_some', q2, w13 i (by omega), u1, bind_some', hh, if_neg (show ¬ b01 true = 0 by decide), v1, bind_some', hrb, if_neg (show ¬ b01 true = 0 by decide), if_neg (show ¬ (1 : Int32) = 0 by decide), ha, bind_some', sto_at (by omega) (by decide), bind_some', nI_1]
      rfl
    · rw [st_ne (by decide), v2.1 13 (by decide) (by omega), q2]
    · rw [st_eq]
      by_cases e : j = i
      · rw [e, upd_eq]
      · rw [upd_ne e, v2.1 26 (by decide) (by omega)]
        exact q3 j (by omega))
  rw [k1] at hr2
  -- no room is held
  obtain ⟨y3, vs3, hr3, m1, m2, m3⟩ := Rch.loop0 (B := B_X9_findNear) (h := 99) (x := y2) (vs := [nI n, nI 0]) (fun i y vs => vs = [nI n, nI i] ∧ (∀ k, k ≠ 18 → y k = y2 k) ∧ ∀ s, s < i → y 18 s = -1) 16384 ⟨rfl, fun _ _ => rfl, fun s h => by omega⟩ (fun i hi y vs hI => by
    obtain ⟨rfl, q1, q2⟩ := hI
    refine ⟨st y 18 i (-1), _, Rch.one (p' := 99) (vs' := [nI n, nI (i + 1)]) (by decide) ?_, rfl, fun k hk => by rw [st_ne hk]; exact q1 k hk, fun s hs => ?_⟩
    · show B_X9_findNear_99 y _ _ = _
      unfold B_X9_findNear_99
      rw [if_neg (show ¬ (16384 : Int32) ≤ nI i from nI_ge (b := 16384) hi (by decide)), sto_at hi (by decide), bind_some', nI_1]
    · rw [st_eq]
      by_cases e : s = i
      · rw [e, upd_eq]
      · rw [upd_ne e]; exact q2 s (by omega))
  rw [m1] at hr3
  have hno : ∀ s, s < 16384 → ac9 y3 s = false := fun s hs => by
    unfold ac9
    rw [m3 s hs]
    decide
  have hB0 : HB σ y3 (y3 26) 0 := ⟨fun s hs => Or.inl (m3 s hs), fun j h => by omega, Nat.le_of_eq (fb_ct_zero.mpr hno), fun s hs h => by rw [hno s hs] at h; exact absurd h (by decide), fun j h => by omega⟩
  have hA26 : ∀ j, j < n → y3 26 j = aw σ j := fun j hj => by rw [m2 26 (by decide)]; exact k4 j hj
  obtain ⟨y4, vs4, hr4, p1, p2, p3⟩ := Rch.loop0 (B := B_X9_findNear) (h := 121) (x := y3) (vs := [nI n, nI 0]) (fun i y vs => vs = [nI n, nI i] ∧ (∀ k, k ≠ 18 → k ≠ 19 → y k = y3 k) ∧ HB σ y (y3 26) i) n ⟨rfl, fun _ _ _ => rfl, hB0⟩ (fun i hi y vs hI => by
    obtain ⟨rfl, q1, q2⟩ := hI
    obtain ⟨y', r1, r2, r3⟩ := hb_step (by omega) hA26 hi q1 q2
    exact ⟨y', _, r1, rfl, r2, r3⟩)
  rw [p1] at hr4
  refine ⟨y4, fin_M (hA1.tr (hr2.tr (Rch.tr (Rch.one (p' := 99) (x' := y2) (vs' := [nI n, nI 0]) (by decide) ?_) (hr3.tr (Rch.tr (Rch.one (p' := 121) (x' := y3) (vs' := [nI n, nI 0]) (by decide) ?_) (hr4.tr (Rch.one (by decide) ?_))))))), ?_, fun i hi => ?_, p3.2.2.2.2⟩
  · show B_X9_findNear_39 y2 _ _ = _
    unfold B_X9_findNear_39
    rw [if_pos (nI_le (Nat.le_refl _) (by omega))]
    rfl
  · show B_X9_findNear_99 y3 _ _ = _
    unfold B_X9_findNear_99
    rw [if_pos (by decide)]
    rfl
  · show B_X9_findNear_121 y4 _ _ = _
    unfold B_X9_findNear_121
    rw [if_pos (nI_le (Nat.le_refl _) (by omega))]
  · refine k2.tr ⟨fun k a b => ?_, ?_, ?_⟩
    · rw [p2 k (by omega) (by omega), m2 k (by omega)]
    · rw [p2 0 (by decide) (by decide), m2 0 (by decide)]
    · rw [p2 0 (by decide) (by decide), m2 0 (by decide)]
  · rw [p2 13 (by decide) (by decide), m2 13 (by decide), k3]
    exact w13 i hi
