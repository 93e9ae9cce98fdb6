theorem cost8 {x : Mem} {i k : Nat} (hi : i < 6561) (h : x 25 i = nI k) (hk : k < 2147483648) : F_X5_costAt x (nI i) = some (nI (k / 65536)) := by
  unfold F_X5_costAt
  rw [ld_at hi (by decide), bind_some', h, pk_shrN hk _ 16 (by decide)]
theorem sort8 {x0 : Mem} {R : List Nat} {ky2 co : Nat → Nat} (hl : R.length ≤ 6561) (hh : hold (x0 25) (R.map ky2)) (hs : x0 16 8 = nI R.length) (hk : ∀ w, ky2 w < 2147483648) (hc : ∀ w, ky2 w / 65536 = co w) (hc2 : ∀ w, w ∈ R → co w ≤ 792) : ∃ σ', F_X5_sortByCost x0 = some σ' ∧ (∀ k, k ≠ 16 → k ≠ 23 → k ≠ 25 → k ≠ 26 → σ' k = x0 k) ∧ (∀ j, j ≠ 10 → σ' 16 j = x0 16 j) ∧ hold (σ' 25) ((srt co R 793).map ky2) := by
  have kAt : ∀ i w, R[i]? = some w → x0 25 i = nI (ky2 w) := fun i w h => hh i _ (by rw [List.getElem?_map, h]; rfl)
  -- first loop
  obtain ⟨x1, vs1, hr1, a1, a2, a3, a4⟩ := Rch.loop0 (B := B_X5_sortByCost) (h := 10) (x := fillM x0 23 794 0) (vs := [nI 0]) (fun i x vs => vs = [nI i] ∧ (∀ k, k ≠ 23 → x k = x0 k) ∧ x 23 0 = nI 0 ∧ ∀ c, c < 793 → x 23 (c + 1) = nI (ct co (R.take i) c)) R.length ⟨rfl, fun k h => fillM_ne h, by rw [fillM_eq]; rfl, fun c hc => by rw [fillM_eq]; simp only [show c + 1 < 794 by omega, if_true]; rfl⟩ (fun i hi x vs hI => by
    obtain ⟨rfl, hk1, h0, h1⟩ := hI
    obtain ⟨w, hw⟩ : ∃ w, R[i]? = some w := ⟨R[i], List.getElem?_eq_getElem hi⟩
    have hcw : co w ≤ 792 := hc2 w (List.mem_of_getElem? hw)
    have htk : R.take (i + 1) = R.take i ++ [w] := by rw [List.take_add_one, hw]; rfl
    have hnle : ¬ nI R.length ≤ nI i := nI_ge hi (by omega)
    have e1 := cost8 (x := x) (i := i) (by omega) (by rw [hk1 25 (by decide)]; exact kAt i w hw) (hk w)
    rw [hc w] at e1
    refine ⟨st x 23 (co w + 1) (nI (ct co (R.take i) (co w) + 1)), _, Rch.one (p' := 10) (vs' := [nI (i + 1)]) (by decide) ?_, rfl, fun k h => by rw [st_ne h]; exact hk1 k h, by rw [st_eq, upd_ne (by omega)]; exact h0, fun c hc3 => ?_⟩
    · show B_X5_sortByCost_10 x _ = _
      unfold B_X5_sortByCost_10
      rw [hk1 16 (by decide), hs, if_neg hnle, e1, bind_some', nI_1, ld_at (by omega) (by decide), bind_some', h1 (co w) (by omega), nI_1, sto_at (by omega) (by decide), bind_some', nI_1]
    · rw [st_eq, htk]
      unfold ct
      rw [fl_snoc, List.length_append]
      by_cases h : co w = c
      · subst h; rw [upd_eq, if_pos rfl]; rfl
      · rw [upd_ne (by omega), if_neg h]
        exact h1 c hc3)
  rw [List.take_length] at a4
  -- second loop
  obtain ⟨x2, vs2, hr2, b1, b2, b3, -⟩ := Rch.loop0 (B := B_X5_sortByCost) (h := 42) (x := x1) (vs := [nI 1]) (fun q x vs => vs = [nI (q + 1)] ∧ (∀ k, k ≠ 23 → x k = x0 k) ∧ (∀ j, j ≤ q → x 23 j = nI (bs co R j)) ∧ ∀ j, q < j → j < 794 → x 23 j = nI (ct co R (j - 1))) 793 ⟨rfl, a2, fun j hj => by rw [show j = 0 by omega, a3, bs_0], fun j h1 h2 => by
      have := a4 (j - 1) (by omega)
      rw [show j - 1 + 1 = j by omega] at this
      exact this⟩ (fun q hq x vs hI => by
    obtain ⟨rfl, hk1, h0, h1⟩ := hI
    have hn : ¬ (794 : Int32) ≤ nI (q + 1) := nI_ge (b := 794) (by omega) (by decide)
    refine ⟨st x 23 (q + 1) (nI (bs co R (q + 1))), _, Rch.one (p' := 42) (vs' := [nI (q + 1 + 1)]) (by decide) ?_, rfl, fun k h => by rw [st_ne h]; exact hk1 k h, fun j hj => ?_, fun j h2 h3 => ?_⟩
    · show B_X5_sortByCost_42 x _ = _
      unfold B_X5_sortByCost_42
      rw [if_neg hn, ld_at (by omega) (by decide), bind_some', nI_pred, ld_at (by omega) (by decide), bind_some', h1 (q + 1) (by omega) (by omega), h0 q (Nat.le_refl q), nI_add, sto_at (by omega) (by decide), bind_some', nI_1, bs_succ, Nat.add_sub_cancel, Nat.add_comm (bs co R q)]
    · rw [st_eq]
      by_cases h : j = q + 1
      · rw [h, upd_eq]
      · rw [upd_ne h]; exact h0 j (by omega)
    · rw [st_eq, upd_ne (by omega)]
      exact h1 j (by omega) h3)
  -- third loop
  obtain ⟨x3, vs3, hr3, c1, c2, c3, c4⟩ := Rch.loop0 (B := B_X5_sortByCost) (h := 76) (x := x2) (vs := [nI 0]) (fun i x vs => vs = [nI i] ∧ (∀ k, k ≠ 23 → k ≠ 26 → x k = x0 k) ∧ (∀ c, c ≤ 792 → x 23 c = nI (bs co R c + ct co (R.take i) c)) ∧ ∀ c t w, (fl co (R.take i) c)[t]? = some w → x 26 (bs co R c + t) = nI (ky2 w)) R.length ⟨rfl, fun k h _ => b2 k h, fun c hc3 => b3 c (by omega), fun c t w h => by simp [fl] at h⟩ (fun i hi x vs hI => by
    obtain ⟨rfl, hk1, h0, h1⟩ := hI
    obtain ⟨w, hw⟩ : ∃ w, R[i]? = some w := ⟨R[i], List.getElem?_eq_getElem hi⟩
    have hcw : co w ≤ 792 := hc2 w (List.mem_of_getElem? hw)
    have htk : R.take (i + 1) = R.take i ++ [w] := by rw [List.take_add_one, hw]; rfl
    have hnle : ¬ nI R.length ≤ nI i := nI_ge hi (by omega)
    have k25 : x 25 i = nI (ky2 w) := by rw [hk1 25 (by decide) (by decide)]; exact kAt i w hw
    have e1 := cost8 (x := x) (i := i) (by omega) k25 (hk w)
    rw [hc w] at e1
    have hsl := slot_lt (co := co) hw
    refine ⟨st (st x 26 (bs co R (co w) + ct co (R.take i) (co w)) (nI (ky2 w))) 23 (co w) (nI (bs co R (co w) + ct co (R.take i) (co w) + 1)), _, Rch.one (p' := 76) (vs' := [nI (i + 1)]) (by decide) ?_, rfl, fun k h h2 => by rw [st_ne h, st_ne h2]; exact hk1 k h h2, fun c hc3 => ?_, fun c t w' hw' => ?_⟩
    · show B_X5_sortByCost_76 x _ = _
      unfold B_X5_sortByCost_76
      rw [hk1 16 (by decide) (by decide), hs, if_neg hnle, e1, bind_some', ld_at (by omega) (by decide), bind_some', h0 (co w) hcw, ld_at (by omega) (by decide), bind_some', k25, sto_at (by omega) (by decide), bind_some', ld_at (by omega) (by decide), bind_some', st_ne (show (23 : Nat) ≠ 26 by decide), h0 (co w) hcw, nI_1, sto_at (by omega) (by decide), bind_some', nI_1]
    · rw [st_eq, st_ne (show (23 : Nat) ≠ 26 by decide), htk]
      unfold ct
      rw [fl_snoc, List.length_append]
      by_cases h : co w = c
      · subst h; rw [upd_eq, if_pos rfl]; rfl
      · rw [upd_ne (by omega), if_neg h]
        exact h0 c hc3
    · rw [st_ne (show (26 : Nat) ≠ 23 by decide), st_eq]
      rw [htk, fl_snoc] at hw'
      by_cases ht : t < (fl co (R.take i) c).length
      · rw [List.getElem?_append_left ht] at hw'
        rw [upd_ne (slt_ne hw ht)]
        exact h1 c t w' hw'
      · rw [List.getElem?_append_right (by omega)] at hw'
        by_cases h : co w = c
        · rw [if_pos h] at hw'
          have h2 : t - (fl co (R.take i) c).length < 1 := (List.getElem?_eq_some_iff.mp hw').1
          have h3 : t = ct co (R.take i) c := by unfold ct; omega
          rw [show t - (fl co (R.take i) c).length = 0 by omega] at hw'
          have h4 : w' = w := (Option.some.inj hw').symm
          rw [h3, h4, ← h, upd_eq]
        · rw [if_neg h] at hw'
          simp at hw')
  rw [List.take_length] at c3 c4
  refine ⟨swp x3, ?_, fun k h1 h2 h3 h4 => ?_, fun j hj => ?_, ?_⟩
  · refine fin_V (vs' := []) (Rch.tr (Rch.one (p' := 10) (x' := fillM x0 23 794 0) (vs' := [nI 0]) (by decide) rfl) (Rch.tr hr1 ?_))
    rw [a1]
    refine Rch.tr (Rch.one (p' := 42) (x' := x1) (vs' := [nI 1]) (by decide) ?_) (Rch.tr hr2 ?_)
    · show B_X5_sortByCost_10 x1 _ = _
      unfold B_X5_sortByCost_10
      rw [a2 16 (by decide), hs, if_pos (nI_le (Nat.le_refl _) (by omega))]
      rfl
    rw [b1]
    refine Rch.tr (Rch.one (p' := 76) (x' := x2) (vs' := [nI 0]) (by decide) ?_) (Rch.tr hr3 ?_)
    · show B_X5_sortByCost_42 x2 _ = _
      unfold B_X5_sortByCost_42
      rw [if_pos (by decide)]
      rfl
    rw [c1]
    refine Rch.one (by decide) ?_
    show B_X5_sortByCost_76 x3 _ = _
    unfold B_X5_sortByCost_76 F_X5_swap
    rw [c2 16 (by decide) (by decide), hs, if_pos (nI_le (Nat.le_refl _) (by omega)), bind_some']
  · unfold swp
    rw [if_neg h3, if_neg h4, if_neg h1]
    exact c2 k h2 h4
  · unfold swp
    rw [if_neg (by decide), if_neg (by decide), if_pos rfl, upd_ne hj, c2 16 (by decide) (by decide)]
  · intro j z hz
    have e25 : swp x3 25 = x3 26 := by unfold swp; rw [if_pos rfl]
    rw [e25]
    rw [List.getElem?_map] at hz
    obtain ⟨w, hw, rfl⟩ := Option.map_eq_some_iff.mp hz
    obtain ⟨c, t, -, rfl, h3⟩ := srt_at 793 hw
    exact c4 c t w h3
