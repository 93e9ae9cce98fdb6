theorem take8 {σ x : Mem} (hW : WF σ) (hc : ∀ k, k < 16 → x k = σ k) {i w : Nat} (hi : i < 6561) (hk : x 25 i = nI (key σ (nt (σ 13 0)) w)) : ∃ x', Rch B_X8_take 17 x [nI i, 0, 0] 99999 (qcM x') [nI (tkN σ w (nt (σ 13 0)))] ∧ x' 12 = tkC σ w (nt (σ 13 0)) ∧ ∀ j, j ≠ 12 → x' j = x j := by
  have hP := P_le hW
  obtain ⟨x', vs', hr, g1, g2, g3⟩ := Rch.loop0 (B := B_X8_take) (h := 17) (x := x) (vs := [nI i, nI 0, nI 0]) (fun p y vs => vs = [nI i, nI (tkN σ w p), nI p] ∧ y 12 = tkC σ w p ∧ ∀ j, j ≠ 12 → y j = x j) (nt (σ 13 0)) ⟨rfl, hc 12 (by decide), fun _ _ => rfl⟩ (fun p hp y vs hI => by
    obtain ⟨rfl, q1, q2⟩ := hI
    have o : ∀ k, k < 16 → k ≠ 12 → y k = σ k := fun k h1 h2 => (q2 k h2).trans (hc k h1)
    have sz : ¬ F_X3_size y ≤ nI p := by
      unfold F_X3_size
      rw [o 13 (by decide) (by decide), hP.2]
      exact nI_ge hp (by omega)
    have hf := first8 (x := y) hW (o 13 (by decide) (by decide)) (o 14 (by decide) (by decide)) (o 15 (by decide) (by decide)) hp
    by_cases h1 : fst1 σ p = true
    · have hn := fst1_w h1
      obtain ⟨t40, t15⟩ := tk_lt hW hp hn
      obtain ⟨m3, m7⟩ := mny_le hW hp hn
      obtain ⟨y', l1, l2, l3⟩ := learn7 (x := y) t40 m3 (by rw [o 7 (by decide) (by decide)]; exact m7) (dg_lt (nt (σ 13 0)) w p)
      have hm : F_X5_meaningAt y (nI i) (nI p) = some (nI (dg (nt (σ 13 0)) w p)) := by
        have := mean8 hW hc hi hk hp
        rw [hn, if_neg (by decide)] at this
        unfold F_X5_meaningAt F_X3_isNumber at this ⊢
        rw [q2 13 (by decide), q2 14 (by decide), q2 25 (by decide)]
        exact this
      refine ⟨y', _, Rch.one (p' := 17) (x' := y') (vs' := [nI i, nI (tkN σ w (p + 1)), nI (p + 1)]) (by decide) ?_, rfl, ?_, fun j hj => (l3 j hj).trans (q2 j hj)⟩
      · show B_X8_take_17 y _ _ _ = _
        unfold B_X8_take_17 F_X3_tokenAt
        rw [if_neg sz, hf, bind_some', h1, if_neg (show ¬ b01 true = 0 by decide), ld_at (by omega) (by decide), bind_some', bind_some', o 15 (by decide) (by decide), t15, hm, bind_some', l1, bind_some', q1, nI_add, nI_1]
        conv => rhs; unfold tkN
        rw [if_pos h1]
      · rw [l2, q1]
        conv => rhs; unfold tkC
        rw [if_pos h1]
    · have h1' : fst1 σ p = false := by simpa using h1
      refine ⟨y, _, Rch.one (p' := 17) (x' := y) (vs' := [nI i, nI (tkN σ w (p + 1)), nI (p + 1)]) (by decide) ?_, rfl, ?_, q2⟩
      · show B_X8_take_17 y _ _ _ = _
        unfold B_X8_take_17
        rw [if_neg sz, hf, bind_some', h1', if_pos (show b01 false = 0 by decide), nI_1]
        conv => rhs; unfold tkN
        rw [if_neg h1]
        rfl
      · rw [q1]
        conv => rhs; unfold tkC
        rw [if_neg h1])
  rw [g1] at hr
  refine ⟨x', hr.tr (Rch.one (by decide) ?_), g2, g3⟩
  show B_X8_take_17 x' _ _ _ = _
  unfold B_X8_take_17 F_X3_size
  have e13 : x' 13 0 = nI (nt (σ 13 0)) := by rw [g3 13 (by decide), hc 13 (by decide)]; exact hP.2
  rw [e13, if_pos (nI_le (Nat.le_refl _) (by omega)), F8_qc, bind_some']
/-- the clamp of the reference -/
theorem clamp {t m q : Nat} (hq : q ≤ 99) : (m = t → (if (0 : Int32) ≤ (nI q - (1 : Int32)) then (if (nI q - (1 : Int32)) ≤ (99 : Int32) then (nI q - (1 : Int32)) else 99) else 0) = nw t m (nI q)) ∧ (m ≠ t → (if (0 : Int32) ≤ (nI q + (1 : Int32)) then (if (nI q + (1 : Int32)) ≤ (99 : Int32) then (nI q + (1 : Int32)) else 99) else 0) = nw t m (nI q)) := by
  constructor
  · intro h
    unfold nw
    rw [if_pos h]
    by_cases h0 : q = 0
    · subst h0; decide
    · obtain ⟨r, rfl⟩ : ∃ r, q = r + 1 := ⟨q - 1, by omega⟩
      rw [nI_pred, if_neg (nI_pos (by omega)), if_pos (nI_pos' (by omega)), if_pos (show nI r ≤ (99 : Int32) from nI_le (b := 99) (by omega) (by decide))]
  · intro h
    unfold nw
    rw [if_neg h, nI_1, if_pos (nI_pos' (by omega))]
    by_cases h9 : q = 99
    · subst h9; decide
    · rw [if_pos (show nI (q + 1) ≤ (99 : Int32) from nI_le (b := 99) (by omega) (by decide)), if_neg (show ¬ (99 : Int32) < nI (q + 1) from fun e => by
        have := (nI_ltI (a := 99) (by decide) (by omega)).mp e
        omega)]
theorem inner9 {σ y : Mem} (hW : WF σ) {C : Nat → Int32} (hC : okC C) {p t : Nat} (hp : p < nt (σ 13 0)) (hn : num σ p = false) (ht : t < 3) (y11 : ∀ q, q < 8 → y 11 q = σ 15 q) (y5 : ∀ w, w < 40 → y 5 w = σ 7 w) (y21 : y 21 p = nI t) (y10 : ∀ j, j < 120 → y 10 j = C j) (c : Nat) : ∃ y', Rch B_X9_take 86 y [nI c, nI p, 0, 0] 14 y' [nI (c + lrnN C (tk σ p) t (mny σ p)), nI (p + 1)] ∧ (∀ j, j < 120 → y' 10 j = lrnC C (tk σ p) t (mny σ p) j) ∧ ∀ k, k ≠ 10 → y' k = y k := by
  obtain ⟨t40, t15⟩ := tk_lt hW hp hn
  obtain ⟨m3, m7⟩ := mny_le hW hp hn
  have hP8 := (P_le hW).1
  generalize hT : tk σ p = w at t40 t15 m7 ⊢
  generalize hM : mny σ p = K at m3 m7 ⊢
  obtain ⟨y', vs', hr, g1, g2, g3⟩ := Rch.loop0 (B := B_X9_take) (h := 86) (x := y) (vs := [nI c, nI p, 0, nI 0]) (fun m z vs => vs = [nI (c + lrnN C w t m), nI p, 0, nI m] ∧ (∀ j, j < 120 → z 10 j = lrnC C w t m j) ∧ ∀ k, k ≠ 10 → z k = y k) K ⟨rfl, y10, fun _ _ => rfl⟩ (fun m hm z vs hI => by
    obtain ⟨rfl, q1, q2⟩ := hI
    obtain ⟨q, hq, eq⟩ := lrn_ok (t := t) hC t40 m (by omega) (3 * w + m) (by omega)
    have z10 : z 10 (3 * w + m) = nI q := by rw [q1 _ (by omega), eq]
    have en : lrnN C w t (m + 1) = lrnN C w t m + (if nw t m (nI q) = nI q then 0 else 1) := by rw [← eq]; rfl
    have ec : lrnC C w t (m + 1) = upd (lrnC C w t m) (3 * w + m) (nw t m (nI q)) := by rw [← eq]; rfl
    have st10 : sto 120 10 z (nI (3 * w + m)) (nw t m (nI q)) = some (st z 10 (3 * w + m) (nw t m (nI q))) := sto_at (by omega) (by decide)
    have l10 : ld 120 (st z 10 (3 * w + m) (nw t m (nI q)) 10) (nI (3 * w + m)) = some (nw t m (nI q)) := by rw [ld_at (by omega) (by decide), st_eq, upd_eq]
    have tail : ((sto 120 10 z (nI (3 * w + m)) (nw t m (nI q))).bind fun σ33 => (ld 120 (σ33 10) (nI (3 * w + m))).bind fun v35 => if v35 = nI q then some (86, σ33, [(nI (c + lrnN C w t m) + (0 : Int32)), nI p, (0 : Int32), (nI m + (1 : Int32))]) else some (86, σ33, [(nI (c + lrnN C w t m) + (1 : Int32)), nI p, (0 : Int32), (nI m + (1 : Int32))])) = some ((86 : Nat), st z 10 (3 * w + m) (nw t m (nI q)), [nI (c + lrnN C w t (m + 1)), nI p, (0 : Int32), nI (m + 1)]) := by
      rw [st10, bind_some', l10, bind_some', nI_1, nI_1, show nI (c + lrnN C w t m) + (0 : Int32) = nI (c + lrnN C w t m) from nI_add _ 0, en]
      by_cases hh : nw t m (nI q) = nI q
      · rw [if_pos hh, if_pos hh]; rfl
      · rw [if_neg hh, if_neg hh]; rfl
    refine ⟨st z 10 (3 * w + m) (nw t m (nI q)), _, Rch.one (p' := 86) (vs' := [nI (c + lrnN C w t (m + 1)), nI p, 0, nI (m + 1)]) (by decide) ?_, rfl, fun j hj => ?_, fun k hk => by rw [st_ne hk]; exact q2 k hk⟩
    · show B_X9_take_86 z _ _ _ _ = _
      unfold B_X9_take_86
      rw [if_pos rfl, ld_at (by omega) (by decide), bind_some', q2 11 (by decide), y11 p (by omega), t15, ld_at t40 (by decide), bind_some', q2 5 (by decide), y5 w t40, m7, if_neg (nI_ge hm (by omega)), bind_some', l3, nI_add, ld_at (by omega) (by decide), bind_some', z10, ld_at (by omega) (by decide), bind_some', q2 21 (by decide), y21]
      obtain ⟨c1, c2⟩ := clamp (t := t) (m := m) hq
      by_cases hmt : m = t
      · rw [if_pos (by rw [hmt])]
        have c1 := c1 hmt
        by_cases a0 : (0 : Int32) ≤ nI q - 1
        · rw [if_pos a0] at c1 ⊢
          by_cases a9 : nI q - 1 ≤ (99 : Int32)
          · rw [if_pos a9] at c1 ⊢
            rw [c1]; exact tail
          · rw [if_neg a9] at c1 ⊢
            rw [c1]; exact tail
        · rw [if_neg a0] at c1 ⊢
          rw [← c1] at tail ⊢
          exact tail
      · rw [if_neg (fun e => hmt (nI_inj (by omega) (by omega) e))]
        have c2 := c2 hmt
        by_cases a0 : (0 : Int32) ≤ nI q + 1
        · rw [if_pos a0] at c2 ⊢
          by_cases a9 : nI q + 1 ≤ (99 : Int32)
          · rw [if_pos a9] at c2 ⊢
            rw [c2]; exact tail
          · rw [if_neg a9] at c2 ⊢
            rw [c2]; exact tail
        · rw [if_neg a0] at c2 ⊢
          rw [← c2] at tail ⊢
          exact tail
    · rw [st_eq, ec]
      by_cases e : j = 3 * w + m
      · rw [e, upd_eq, upd_eq]
      · rw [upd_ne e, upd_ne e]; exact q1 j hj)
  rw [g1] at hr
  refine ⟨y', hr.tr (Rch.one (by decide) ?_), g2, g3⟩
  show B_X9_take_86 y' _ _ _ _ = _
  unfold B_X9_take_86
  rw [if_pos rfl, ld_at (by omega) (by decide), bind_some', g3 11 (by decide), y11 p (by omega), t15, ld_at t40 (by decide), bind_some', g3 5 (by decide), y5 w t40, m7, if_pos (nI_le (Nat.le_refl _) (by omega)), nI_1]
theorem take9' {σ y : Mem} (hW : WF σ) (hE : EQ σ y) {w : Nat} (hdg : ∀ q, q < nt (σ 13 0) → y 21 q = nI (dg (nt (σ 13 0)) w q)) : ∃ y', Rch B_X9_take 14 y [0, 0] 99999 y' [nI (tkN σ w (nt (σ 13 0)))] ∧ (∀ j, j < 120 → y' 10 j = tkC σ w (nt (σ 13 0)) j) ∧ ∀ k, k ≠ 10 → y' k = y k := by
  have hP := P_le hW
  have y13 : y 0 13 = nI (nt (σ 13 0)) := hE.2.2.1.trans hP.2
  obtain ⟨y', vs', hr, g1, g2, g3⟩ := Rch.loop0 (B := B_X9_take) (h := 14) (x := y) (vs := [nI 0, nI 0]) (fun p z vs => vs = [nI (tkN σ w p), nI p] ∧ (∀ j, j < 120 → z 10 j = tkC σ w p j) ∧ ∀ k, k ≠ 10 → z k = y k) (nt (σ 13 0)) ⟨rfl, fun j hj => hE.2.1.2.2.2.2.2 j hj, fun _ _ => rfl⟩ (fun p hp z vs hI => by
    obtain ⟨rfl, q1, q2⟩ := hI
    have z12 : ∀ q, q < 8 → z 12 q = σ 14 q := fun q hq => by rw [q2 12 (by decide)]; exact hE.2.2.2.1 q hq
    have z11 : ∀ q, q < 8 → z 11 q = σ 15 q := fun q hq => by rw [q2 11 (by decide)]; exact hE.2.2.2.2 q hq
    have h14 : ∀ q, q < 8 → σ 14 q = b01 (num σ q) := fun q hq => by
      unfold num
      rcases hW.2.2.2.1 q hq with h | h
      · rw [h]; rfl
      · rw [h]; rfl
    have h33 : Rch B_X9_take 14 z [nI (tkN σ w p), nI p] 86 z [nI (tkN σ w p), nI p, b01 (!fst1 σ p), 0] := by
      refine Rch.tr (Rch.one (p' := 33) (x' := z) (vs' := [nI (tkN σ w p), nI p, b01 (num σ p || !ag σ p 0), nI 0]) (by decide) ?_) ?_
      · show B_X9_take_14 z _ _ = _
        unfold B_X9_take_14
        rw [q2 0 (by decide), y13, if_neg (nI_ge hp (by omega)), ld_at (by omega) (by decide), bind_some', z12 p (by omega), h14 p (by omega)]
        show some (33, z, [nI (tkN σ w p), nI p, b01 (num σ p), nI 0]) = some (33, z, [nI (tkN σ w p), nI p, b01 (num σ p || !true), nI 0])
        simp
      · obtain ⟨z', vs2, hr2, r1, r2⟩ := Rch.loop0 (B := B_X9_take) (h := 33) (x := z) (vs := [nI (tkN σ w p), nI p, b01 (num σ p || !ag σ p 0), nI 0]) (fun i v vs => vs = [nI (tkN σ w p), nI p, b01 (num σ p || !ag σ p i), nI i] ∧ v = z) p ⟨rfl, rfl⟩ (fun i hi v vs hI => by
          obtain ⟨rfl, rfl⟩ := hI
          refine ⟨_, _, Rch.one (p' := 33) (x' := v) (vs' := [nI (tkN σ w p), nI p, b01 (num σ p || !ag σ p (i + 1)), nI (i + 1)]) (by decide) ?_, rfl, rfl⟩
          have hs : ag σ p (i + 1) = (ag σ p i && !(!num σ i && decide (σ 15 i = σ 15 p))) := rfl
          show B_X9_take_33 v _ _ _ _ = _
          unfold B_X9_take_33
          rw [if_neg (nI_ge hi (by omega)), nI_1, ld_at (by omega) (by decide), bind_some', z12 i (by omega), h14 i (by omega), ld_at (by omega) (by decide), bind_some', ld_at (by omega) (by decide), bind_some', z11 i (by omega), z11 p (by omega), hs]
          by_cases hb : (num σ p || !ag σ p i) = true
          · rw [hb, if_neg (show ¬ b01 true = 0 by decide)]
            have : (num σ p || !(ag σ p i && !(!num σ i && decide (σ 15 i = σ 15 p)))) = true := by
              revert hb
              cases num σ p <;> cases ag σ p i <;> simp
            rw [this]
            rfl
          · have hb' : (num σ p || !ag σ p i) = false := by simpa using hb
            have hb2 : num σ p = false ∧ ag σ p i = true := by
              revert hb'
              cases num σ p <;> cases ag σ p i <;> simp
            rw [hb', if_pos (show b01 false = 0 by decide), hb2.1, hb2.2, Bool.false_or, Bool.true_and, Bool.not_not]
            by_cases hni : num σ i = true
            · rw [hni, if_neg (show ¬ b01 true = 0 by decide)]; rfl
            · rw [show num σ i = false by simpa using hni, if_pos (show b01 false = 0 by decide)]
              by_cases e : σ 15 i = σ 15 p
              · rw [if_pos e, decide_eq_true e]; rfl
              · rw [if_neg e, decide_eq_false e]; rfl)
        rw [r1, r2] at hr2
        refine hr2.tr (Rch.one (by decide) ?_)
        show B_X9_take_33 z _ _ _ _ = _
        unfold B_X9_take_33 fst1
        rw [if_pos (nI_le (Nat.le_refl _) (by omega)), Bool.not_and, Bool.not_not]
    by_cases h1 : fst1 σ p = true
    · obtain ⟨z', i1, i2, i3⟩ := inner9 (y := z) hW (tkC_ok hW (w := w) p (by omega)) hp (fst1_w h1) (dg_lt (nt (σ 13 0)) w p) z11 (fun v hv => by rw [q2 5 (by decide)]; exact hE.2.1.1 v hv) (by rw [q2 21 (by decide)]; exact hdg p hp) q1 (tkN σ w p)
      rw [h1] at h33
      refine ⟨z', _, h33.tr i1, ?_, fun j hj => ?_, fun k hk => (i3 k hk).trans (q2 k hk)⟩
      · conv => rhs; unfold tkN
        rw [if_pos h1]
      · rw [i2 j hj]
        conv => rhs; unfold tkC
        rw [if_pos h1]
    · have h1' : fst1 σ p = false := by simpa using h1
      rw [h1'] at h33
      refine ⟨z, _, h33.tr (Rch.one (p' := 14) (x' := z) (vs' := [nI (tkN σ w p), nI (p + 1)]) (by decide) ?_), ?_, fun j hj => ?_, q2⟩
      · show B_X9_take_86 z _ _ _ _ = _
        unfold B_X9_take_86
        rw [if_neg (show ¬ b01 (!false) = 0 by decide), nI_1]
      · conv => rhs; unfold tkN
        rw [if_neg h1]
        rfl
      · rw [q1 j hj]
        conv => rhs; unfold tkC
        rw [if_neg h1])
  rw [g1] at hr
  refine ⟨y', hr.tr (Rch.one (by decide) ?_), g2, g3⟩
  show B_X9_take_14 y' _ _ = _
  unfold B_X9_take_14
  rw [g3 0 (by decide), y13, if_pos (nI_le (Nat.le_refl _) (by omega))]
