theorem find9 {σ τ : Mem} (hW : WF σ) (hE : EQ σ τ) : ∃ τ', F_X9_findReadings τ = some τ' ∧ sameS τ τ' ∧ τ' 0 22 = nI (Sd σ).length ∧ hold (τ' 13) (Sd σ) ∧ hold (τ' 14) ((Sd σ).map (kC σ (nt (σ 13 0)))) := by
  have hp3 := p3_le hW
  have hRl := Rd_len hW
  obtain ⟨hP8, hP⟩ := P_le hW
  have hPE : τ 0 13 = nI (nt (σ 13 0)) := hE.2.2.1.trans hP
  have hrd : ∀ i, ((List.range i).filter (rdB σ)).length ≤ i := fun i => by
    have := List.length_filter_le (rdB σ) (List.range i)
    rw [List.length_range] at this
    exact this
  -- how many ways
  obtain ⟨x1, vs1, hr1, a1, a2⟩ := Rch.loop0 (B := B_X9_findReadings) (h := 9) (x := st τ 0 22 0) (vs := [nI 1, nI 0]) (fun i x vs => vs = [nI (3 ^ i), nI i] ∧ x = st τ 0 22 0) (nt (σ 13 0)) ⟨rfl, rfl⟩ (fun i hi x vs hI => by
    obtain ⟨rfl, rfl⟩ := hI
    refine ⟨_, _, Rch.one (p' := 9) (x' := st τ 0 22 0) (vs' := [nI (3 ^ (i + 1)), nI (i + 1)]) (by decide) ?_, rfl, rfl⟩
    show B_X9_findReadings_9 _ _ _ = _
    unfold B_X9_findReadings_9
    rw [st_eq, upd_ne (by decide), hPE, if_neg (nI_ge hi (by omega)), nI_1, show nI (3 ^ i) * (3 : Int32) = nI (3 ^ i * 3) from pk_mul _ 3, Nat.pow_succ])
  -- all ways
  obtain ⟨x2, vs2, hr2, b1, b2, b3, b4, b5⟩ := Rch.loop0 (B := B_X9_findReadings) (h := 29) (x := st τ 0 22 0) (vs := [nI (3 ^ nt (σ 13 0)), nI 0]) (fun i x vs => vs = [nI (3 ^ nt (σ 13 0)), nI i] ∧ sameS τ x ∧ x 0 22 = nI ((List.range i).filter (rdB σ)).length ∧ hold (x 15) ((List.range i).filter (rdB σ)) ∧ hold (x 16) (((List.range i).filter (rdB σ)).map (kC σ (nt (σ 13 0))))) (3 ^ nt (σ 13 0)) ⟨rfl, ⟨fun k h _ => st_ne (by omega), by rw [st_eq, upd_ne (by decide)], by rw [st_eq, upd_ne (by decide)]⟩, by rw [st_eq, upd_eq]; rfl, fun i x h => by simp at h, fun i x h => by simp at h⟩ (fun i hi x vs hI => by
    obtain ⟨rfl, hS, h22, h15, h16⟩ := hI
    have hil := hrd i
    have htk : (List.range (i + 1)).filter (rdB σ) = (List.range i).filter (rdB σ) ++ (if rdB σ i = true then [i] else []) := by
      rw [List.range_succ, List.filter_append]
      by_cases h : rdB σ i = true
      · simp [h]
      · simp [h]
    generalize hL : (List.range i).filter (rdB σ) = L at h22 h15 h16 hil htk
    obtain ⟨y1, f1, f2, f3, f4⟩ := way9 hW (hS.EQ hE) (w := i) (by omega)
    have hnle : ¬ nI (3 ^ nt (σ 13 0)) ≤ nI i := nI_ge hi (by omega)
    have no : ∀ y, sameW x y → rdB σ i = false → sameS τ y ∧ y 0 22 = nI ((List.range (i + 1)).filter (rdB σ)).length ∧ hold (y 15) ((List.range (i + 1)).filter (rdB σ)) ∧ hold (y 16) (((List.range (i + 1)).filter (rdB σ)).map (kC σ (nt (σ 13 0)))) := fun y hy hb => by
      rw [htk, hb, if_neg (by decide), List.append_nil, hy.2 22 (by decide), hy.1 15 (by decide) (by omega), hy.1 16 (by decide) (by omega)]
      exact ⟨hS.tr hy.S, h22, h15, h16⟩
    by_cases hh : hasR σ i 0 = true
    · obtain ⟨y, g1, g2, g3⟩ := f4 hh
      by_cases hb : rdB σ i = true
      · obtain ⟨⟨-, -, -, k27, -⟩, -⟩ := g3 hb
        generalize hcc : kC σ (nt (σ 13 0)) i = c at k27
        have z22 : y 0 22 = nI L.length := (g2.2 22 (by decide)).trans h22
        refine ⟨st (st (st y 15 L.length (nI i)) 16 L.length (nI c)) 0 22 (nI (L.length + 1)), _, Rch.one (p' := 29) (vs' := [nI (3 ^ nt (σ 13 0)), nI (i + 1)]) (by decide) ?_, rfl, hS.tr (g2.S.tr ⟨fun k h1 h2 => ?_, ?_, ?_⟩), ?_, ?_, ?_⟩
        · show B_X9_findReadings_29 x _ _ = _
          unfold B_X9_findReadings_29
          rw [if_neg hnle, f1, bind_some', hh, if_neg (show ¬ b01 true = 0 by decide), g1, bind_some', hb, if_neg (show ¬ b01 true = 0 by decide)]
          dsimp only
          rw [z22, sto_at (by omega) (by decide), bind_some']
          simp (disch := decide) only [st_ne]
          rw [z22, k27, sto_at (by omega) (by decide), bind_some', bind_some']
          simp (disch := decide) only [st_ne]
          rw [z22, nI_1, nI_1]
        · rw [st_ne (by omega), st_ne (by omega), st_ne (by omega)]
        · rw [st_eq, upd_ne (by decide), st_ne (by decide), st_ne (by decide)]
        · rw [st_eq, upd_ne (by decide), st_ne (by decide), st_ne (by decide)]
        · rw [st_eq, upd_eq, htk, hb, if_pos rfl, List.length_append]; rfl
        · rw [st_ne (by decide), st_ne (by decide), st_eq, htk, hb, if_pos rfl, g2.1 15 (by decide) (by omega)]
          exact h15.push
        · rw [st_ne (by decide), st_eq, st_ne (by decide), htk, hb, if_pos rfl, g2.1 16 (by decide) (by omega), List.map_append]
          have := h16.push (x := c)
          rw [List.length_map] at this
          rw [← hcc] at this ⊢
          exact this
      · have hb' : rdB σ i = false := by simpa using hb
        refine ⟨y, _, Rch.one (p' := 29) (vs' := [nI (3 ^ nt (σ 13 0)), nI (i + 1)]) (by decide) ?_, rfl, no y g2 hb'⟩
        show B_X9_findReadings_29 x _ _ = _
        unfold B_X9_findReadings_29
        rw [if_neg hnle, f1, bind_some', hh, if_neg (show ¬ b01 true = 0 by decide), g1, bind_some', hb', if_pos (show b01 false = 0 by decide), nI_1]
    · have hh' : hasR σ i 0 = false := by simpa using hh
      refine ⟨y1, _, Rch.one (p' := 29) (vs' := [nI (3 ^ nt (σ 13 0)), nI (i + 1)]) (by decide) ?_, rfl, no y1 f2 (f3 hh')⟩
      show B_X9_findReadings_29 x _ _ = _
      unfold B_X9_findReadings_29
      rw [if_neg hnle, f1, bind_some', hh', if_pos (show b01 false = 0 by decide), nI_1])
  rw [← Rd_rdB] at b3 b4 b5
  obtain ⟨x3, hr3, c1, c2, c3⟩ := sort9 (R := Rd σ) (co := kC σ (nt (σ 13 0))) hRl b4 b5 b3 (fun w hw => by
    rw [Rd_rdB] at hw
    have := List.mem_range.mp (List.mem_filter.mp hw).1
    omega) (fun w _ => kC_792 hW w)
  refine ⟨x3, ?_, b2.tr ⟨fun k h1 h2 => c1 k (by omega) (by omega) (by omega), by rw [c1 0 (by decide) (by decide) (by decide)], by rw [c1 0 (by decide) (by decide) (by decide)]⟩, ?_, c2, c3⟩
  · refine fin_V (vs' := []) (Rch.tr (Rch.one (p' := 9) (x' := st τ 0 22 0) (vs' := [nI 1, nI 0]) (by decide) rfl) (Rch.tr hr1 ?_))
    rw [a1, a2]
    refine Rch.tr (Rch.one (p' := 29) (x' := st τ 0 22 0) (vs' := [nI (3 ^ nt (σ 13 0)), nI 0]) (by decide) ?_) (Rch.tr hr2 ?_)
    · show B_X9_findReadings_9 _ _ _ = _
      unfold B_X9_findReadings_9
      rw [st_eq, upd_ne (by decide), hPE, if_pos (nI_le (Nat.le_refl _) (by omega))]
      rfl
    rw [b1]
    refine Rch.tr (Rch.one (p' := 90) (x' := x2) (vs' := [0]) (by decide) ?_) hr3
    show B_X9_findReadings_29 x2 _ _ = _
    unfold B_X9_findReadings_29
    rw [if_pos (nI_le (Nat.le_refl _) (by omega))]
  · rw [c1 0 (by decide) (by decide) (by decide), b3, Sd_len hW]
/-- have: the reading i, with its form, or none -/
theorem have9 {σ τ : Mem} (hW : WF σ) (hE : EQ σ τ) (x : Int32) : ∃ τ', sameS τ τ' ∧ ((∃ i w, x = nI i ∧ (Sd σ)[i]? = some w ∧ F_X9_have τ x = some (1, τ') ∧ hM2 τ' (fm σ w) (kC σ (nt (σ 13 0)) w) ∧ ∀ q, q < nt (σ 13 0) → τ' 21 q = nI (dg (nt (σ 13 0)) w q)) ∨ ((x < 0 ∨ nI (Sd σ).length ≤ x) ∧ F_X9_have τ x = some (0, τ'))) := by
  obtain ⟨τ1, f1, f2, f3, f4, f5⟩ := find9 hW hE
  have hl : (Sd σ).length ≤ 6561 := by rw [Sd_len hW]; exact Rd_len hW
  have hp3 := p3_le hW
  rcases pk_ix x (n := (Sd σ).length) (by omega) with h | h | ⟨i, hi, rfl⟩
  · refine ⟨τ1, f2, Or.inr ⟨Or.inl h, ?_⟩⟩
    unfold F_X9_have
    rw [f1, bind_some', if_pos h]
  · refine ⟨τ1, f2, Or.inr ⟨Or.inr h, ?_⟩⟩
    unfold F_X9_have
    rw [f1, bind_some', f3]
    by_cases h0 : x < 0
    · rw [if_pos h0]
    · rw [if_neg h0, if_neg (fun h2 => Int32.not_lt.mpr h h2)]
  · have hw : (Sd σ)[i]? = some (Sd σ)[i] := List.getElem?_eq_getElem hi
    generalize (Sd σ)[i] = w at hw
    have hwR : w ∈ Rd σ := Sd_Rd (List.mem_of_getElem? hw)
    rw [Rd_rdB] at hwR
    have hw3 := List.mem_range.mp (List.mem_filter.mp hwR).1
    have hrb := (List.mem_filter.mp hwR).2
    obtain ⟨y1, g1, g2, g3, g4⟩ := way9 hW (f2.EQ hE) (w := w) (by omega)
    have hh := ((rd_iff hW w).mp hrb).1
    obtain ⟨y, k1, k2, k3⟩ := g4 hh
    refine ⟨y, f2.tr k2.S, Or.inl ⟨i, w, rfl, hw, ?_, k3 hrb⟩⟩
    unfold F_X9_have
    rw [f1, bind_some', f3, if_neg (nI_pos (by omega)), if_pos (nI_lt hi (by omega)), ld_at (by omega) (by decide), bind_some', f4 i w hw, g1, bind_some', hh, if_neg (show ¬ b01 true = 0 by decide), k1, bind_some', hrb, if_neg (show ¬ b01 true = 0 by decide)]
