theorem sort9 {x0 : Mem} {R : List Nat} {co : Nat → Nat} (hl : R.length ≤ 6561) (hw15 : hold (x0 15) R) (hw16 : hold (x0 16) (R.map co)) (hs : x0 0 22 = nI R.length) (hR : ∀ w, w ∈ R → w < 6561) (hc2 : ∀ w, w ∈ R → co w ≤ 792) : ∃ σ', Rch B_X9_findReadings 90 x0 [0] 99999 σ' [] ∧ (∀ k, k ≠ 13 → k ≠ 14 → k ≠ 17 → σ' k = x0 k) ∧ hold (σ' 13) (srt co R 793) ∧ hold (σ' 14) ((srt co R 793).map co) := by
  have cAt : ∀ i w, R[i]? = some w → x0 16 i = nI (co w) := fun i w h => hw16 i _ (by rw [List.getElem?_map, h]; rfl)
  -- zeroes
  obtain ⟨z1, vz, hr0, z2, z3, z4⟩ := Rch.loop0 (B := B_X9_findReadings) (h := 90) (x := x0) (vs := [nI 0]) (fun i x vs => vs = [nI i] ∧ (∀ k, k ≠ 17 → x k = x0 k) ∧ ∀ j, j < i → x 17 j = nI 0) 901 ⟨rfl, fun _ _ => rfl, fun j h => by omega⟩ (fun i hi x vs hI => by
    obtain ⟨rfl, hk1, h1⟩ := hI
    refine ⟨st x 17 i (nI 0), _, Rch.one (p' := 90) (vs' := [nI (i + 1)]) (by decide) ?_, rfl, fun k h => by rw [st_ne h]; exact hk1 k h, fun j hj => ?_⟩
    · show B_X9_findReadings_90 x _ = _
      unfold B_X9_findReadings_90
      rw [if_neg (show ¬ (900 : Int32) < nI i from nI_nlt (a := 900) (by omega) (by decide)), sto_at (by omega) (by decide), bind_some', nI_1]
      rfl
    · rw [st_eq]
      by_cases h : j = i
      · rw [h, upd_eq]
      · rw [upd_ne h]; exact h1 j (by omega))
  -- first loop
  obtain ⟨x1, vs1, hr1, a1, a2, a3, a4⟩ := Rch.loop0 (B := B_X9_findReadings) (h := 112) (x := z1) (vs := [nI 0]) (fun i x vs => vs = [nI i] ∧ (∀ k, k ≠ 17 → x k = x0 k) ∧ x 17 0 = nI 0 ∧ ∀ c, c < 900 → x 17 (c + 1) = nI (ct co (R.take i) c)) R.length ⟨rfl, z3, z4 0 (by omega), fun c hc => z4 (c + 1) (by omega)⟩ (fun i hi x vs hI => by
    obtain ⟨rfl, hk1, h0, h1⟩ := hI
    obtain ⟨w, hw⟩ : ∃ w, R[i]? = some w := ⟨R[i], List.getElem?_eq_getElem hi⟩
    have hcw : co w ≤ 792 := hc2 w (List.mem_of_getElem? hw)
    have htk : R.take (i + 1) = R.take i ++ [w] := by rw [List.take_add_one, hw]; rfl
    have hnle : ¬ nI R.length ≤ nI i := nI_ge hi (by omega)
    refine ⟨st x 17 (co w + 1) (nI (ct co (R.take i) (co w) + 1)), _, Rch.one (p' := 112) (vs' := [nI (i + 1)]) (by decide) ?_, rfl, fun k h => by rw [st_ne h]; exact hk1 k h, by rw [st_eq, upd_ne (by omega)]; exact h0, fun c hc3 => ?_⟩
    · show B_X9_findReadings_112 x _ = _
      unfold B_X9_findReadings_112
      rw [hk1 0 (by decide), hs, if_neg hnle, ld_at (by omega) (by decide), bind_some', hk1 16 (by decide), cAt i w hw, nI_1, ld_at (by omega) (by decide), bind_some', h1 (co w) (by omega), nI_1, sto_at (by omega) (by decide), bind_some', nI_1]
    · rw [st_eq, htk]
      unfold ct
      rw [fl_snoc, List.length_append]
      by_cases h : co w = c
      · subst h; rw [upd_eq, if_pos rfl]; rfl
      · rw [upd_ne (by omega), if_neg h]
        exact h1 c hc3)
  rw [List.take_length] at a4
  -- second loop
  obtain ⟨x2, vs2, hr2, b1, b2, b3, -⟩ := Rch.loop0 (B := B_X9_findReadings) (h := 145) (x := x1) (vs := [nI 1]) (fun q x vs => vs = [nI (q + 1)] ∧ (∀ k, k ≠ 17 → x k = x0 k) ∧ (∀ j, j ≤ q → x 17 j = nI (bs co R j)) ∧ ∀ j, q < j → j < 901 → x 17 j = nI (ct co R (j - 1))) 900 ⟨rfl, a2, fun j hj => by rw [show j = 0 by omega, a3, bs_0], fun j h1 h2 => by
      have := a4 (j - 1) (by omega)
      rw [show j - 1 + 1 = j by omega] at this
      exact this⟩ (fun q hq x vs hI => by
    obtain ⟨rfl, hk1, h0, h1⟩ := hI
    have hn : ¬ (900 : Int32) < nI (q + 1) := nI_nlt (a := 900) (by omega) (by decide)
    refine ⟨st x 17 (q + 1) (nI (bs co R (q + 1))), _, Rch.one (p' := 145) (vs' := [nI (q + 1 + 1)]) (by decide) ?_, rfl, fun k h => by rw [st_ne h]; exact hk1 k h, fun j hj => ?_, fun j h2 h3 => ?_⟩
    · show B_X9_findReadings_145 x _ = _
      unfold B_X9_findReadings_145
      rw [if_neg hn, ld_at (by omega) (by decide), bind_some', nI_pred, ld_at (by omega) (by decide), bind_some', h1 (q + 1) (by omega) (by omega), h0 q (Nat.le_refl q), nI_add, sto_at (by omega) (by decide), bind_some', nI_1, bs_succ, Nat.add_sub_cancel, Nat.add_comm (bs co R q)]
    · rw [st_eq]
      by_cases h : j = q + 1
      · rw [h, upd_eq]
      · rw [upd_ne h]; exact h0 j (by omega)
    · rw [st_eq, upd_ne (by omega)]
      exact h1 j (by omega) h3)
  -- third loop
  obtain ⟨x3, vs3, hr3, c1, c2, c3, c4, c5⟩ := Rch.loop0 (B := B_X9_findReadings) (h := 177) (x := x2) (vs := [nI 0]) (fun i x vs => vs = [nI i] ∧ (∀ k, k ≠ 13 → k ≠ 14 → k ≠ 17 → x k = x0 k) ∧ (∀ c, c ≤ 792 → x 17 c = nI (bs co R c + ct co (R.take i) c)) ∧ (∀ c t w, (fl co (R.take i) c)[t]? = some w → x 13 (bs co R c + t) = nI w) ∧ (∀ c t w, (fl co (R.take i) c)[t]? = some w → x 14 (bs co R c + t) = nI (co w))) R.length ⟨rfl, fun k _ _ h => b2 k h, fun c hc3 => b3 c (by omega), fun c t w h => by simp [fl] at h, fun c t w h => by simp [fl] at h⟩ (fun i hi x vs hI => by
    obtain ⟨rfl, hk1, h0, h1, h1'⟩ := hI
    obtain ⟨w, hw⟩ : ∃ w, R[i]? = some w := ⟨R[i], List.getElem?_eq_getElem hi⟩
    have hcw : co w ≤ 792 := hc2 w (List.mem_of_getElem? hw)
    have htk : R.take (i + 1) = R.take i ++ [w] := by rw [List.take_add_one, hw]; rfl
    have hnle : ¬ nI R.length ≤ nI i := nI_ge hi (by omega)
    have k15 : x 15 i = nI w := by rw [hk1 15 (by decide) (by decide) (by decide)]; exact hw15 i w hw
    have k16 : x 16 i = nI (co w) := by rw [hk1 16 (by decide) (by decide) (by decide)]; exact cAt i w hw
    have hsl := slot_lt (co := co) hw
    have new : ∀ (f : Nat → Int32) (g : Nat → Nat), (∀ c t w, (fl co (R.take i) c)[t]? = some w → f (bs co R c + t) = nI (g w)) → ∀ c t w', (fl co (R.take (i + 1)) c)[t]? = some w' → upd f (bs co R (co w) + ct co (R.take i) (co w)) (nI (g w)) (bs co R c + t) = nI (g w') := fun f g hfg c t w' hw' => by
      rw [htk, fl_snoc] at hw'
      by_cases ht : t < (fl co (R.take i) c).length
      · rw [List.getElem?_append_left ht] at hw'
        rw [upd_ne (slt_ne hw ht)]
        exact hfg c t w' hw'
      · rw [List.getElem?_append_right (by omega)] at hw'
        by_cases h : co w = c
        · rw [if_pos h] at hw'
          have h2 : t - (fl co (R.take i) c).length < 1 := (List.getElem?_eq_some_iff.mp hw').1
          have h3 : t = ct co (R.take i) c := by unfold ct; omega
          rw [show t - (fl co (R.take i) c).length = 0 by omega] at hw'
          have h4 : w' = w := (Option.some.inj hw').symm
          rw [h3, h4, ← h, upd_eq]
        · rw [if_neg h] at hw'
          simp at hw'
    refine ⟨st (st (st x 13 (bs co R (co w) + ct co (R.take i) (co w)) (nI w)) 14 (bs co R (co w) + ct co (R.take i) (co w)) (nI (co w))) 17 (co w) (nI (bs co R (co w) + ct co (R.take i) (co w) + 1)), _, Rch.one (p' := 177) (vs' := [nI (i + 1)]) (by decide) ?_, rfl, fun k h h2 h3 => by rw [st_ne h3, st_ne h2, st_ne h]; exact hk1 k h h2 h3, fun c hc3 => ?_, fun c t w' hw' => ?_, fun c t w' hw' => ?_⟩
    · show B_X9_findReadings_177 x _ = _
      unfold B_X9_findReadings_177
      rw [hk1 0 (by decide) (by decide) (by decide), hs, if_neg hnle, ld_at (by omega) (by decide), bind_some', k16, ld_at (by omega) (by decide), bind_some', h0 (co w) hcw, ld_at (by omega) (by decide), bind_some', k15, sto_at (by omega) (by decide), bind_some', ld_at (by omega) (by decide), bind_some', st_ne (show (16 : Nat) ≠ 13 by decide), k16, sto_at (by omega) (by decide), bind_some', ld_at (by omega) (by decide), bind_some', st_ne (show (16 : Nat) ≠ 14 by decide), st_ne (show (16 : Nat) ≠ 13 by decide), k16, ld_at (by omega) (by decide), bind_some', st_ne (show (17 : Nat) ≠ 14 by decide), st_ne (show (17 : Nat) ≠ 13 by decide), h0 (co w) hcw, nI_1, sto_at (by omega) (by decide), bind_some', nI_1]
    · rw [st_eq, st_ne (show (17 : Nat) ≠ 14 by decide), st_ne (show (17 : Nat) ≠ 13 by decide), htk]
      unfold ct
      rw [fl_snoc, List.length_append]
      by_cases h : co w = c
      · subst h; rw [upd_eq, if_pos rfl]; rfl
      · rw [upd_ne (by omega), if_neg h]
        exact h0 c hc3
    · rw [st_ne (show (13 : Nat) ≠ 17 by decide), st_ne (show (13 : Nat) ≠ 14 by decide), st_eq]
      exact new (x 13) (fun w => w) h1 c t w' hw'
    · rw [st_ne (show (14 : Nat) ≠ 17 by decide), st_eq, st_ne (show (14 : Nat) ≠ 13 by decide)]
      exact new (x 14) co h1' c t w' hw')
  rw [List.take_length] at c3 c4 c5
  refine ⟨x3, ?_, c2, ?_, ?_⟩
  · refine Rch.tr hr0 ?_
    rw [z2]
    refine Rch.tr (Rch.one (p' := 112) (x' := z1) (vs' := [nI 0]) (by decide) ?_) (Rch.tr hr1 ?_)
    · show B_X9_findReadings_90 z1 _ = _
      unfold B_X9_findReadings_90
      rw [if_pos (by decide)]
      rfl
    rw [a1]
    refine Rch.tr (Rch.one (p' := 145) (x' := x1) (vs' := [nI 1]) (by decide) ?_) (Rch.tr hr2 ?_)
    · show B_X9_findReadings_112 x1 _ = _
      unfold B_X9_findReadings_112
      rw [a2 0 (by decide), hs, if_pos (nI_le (Nat.le_refl _) (by omega))]
      rfl
    rw [b1]
    refine Rch.tr (Rch.one (p' := 177) (x' := x2) (vs' := [nI 0]) (by decide) ?_) (Rch.tr hr3 ?_)
    · show B_X9_findReadings_145 x2 _ = _
      unfold B_X9_findReadings_145
      rw [if_pos (by decide)]
      rfl
    rw [c1]
    refine Rch.one (by decide) ?_
    show B_X9_findReadings_177 x3 _ = _
    unfold B_X9_findReadings_177
    rw [c2 0 (by decide) (by decide) (by decide), hs, if_pos (nI_le (Nat.le_refl _) (by omega))]
  · intro j w hw
    obtain ⟨c, t, -, rfl, h3⟩ := srt_at 793 hw
    exact c4 c t w h3
  · intro j z hz
    rw [List.getElem?_map] at hz
    obtain ⟨w, hw, rfl⟩ := Option.map_eq_some_iff.mp hz
    obtain ⟨c, t, -, rfl, h3⟩ := srt_at 793 hw
    exact c5 c t w h3
