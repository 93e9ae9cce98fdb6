def okd (σ : Mem) (w q : Nat) : Bool := if num σ q = true then decide (dg (nt (σ 13 0)) w q = 0) else decide (dg (nt (σ 13 0)) w q < mny σ q)
def hasR (σ : Mem) (w r : Nat) : Bool := (List.range (nt (σ 13 0))).all (fun q => decide (q < r) || okd σ w q)
theorem hasR_P {σ : Mem} {w : Nat} : hasR σ w (nt (σ 13 0)) = true := by
  unfold hasR
  rw [List.all_eq_true]
  intro q hq
  simp [List.mem_range.mp hq]
theorem hasR_s {σ : Mem} {w s : Nat} (hs : s < nt (σ 13 0)) : hasR σ w s = (hasR σ w (s + 1) && okd σ w s) := by
  unfold hasR
  rw [Bool.eq_iff_iff, Bool.and_eq_true, List.all_eq_true, List.all_eq_true]
  constructor
  · intro h
    refine ⟨fun q hq => ?_, ?_⟩
    · have := h q hq
      by_cases h1 : q < s
      · simp [show q < s + 1 by omega]
      · simp [h1] at this
        simp [this]
    · have := h s (List.mem_range.mpr hs)
      simpa using this
  · rintro ⟨h1, h2⟩ q hq
    by_cases h3 : q < s
    · simp [h3]
    · by_cases h4 : q = s
      · subst h4; simp [h2]
      · have := h1 q hq
        simp [show ¬ q < s + 1 by omega] at this
        simp [this]
theorem sub1 {x : Int32} : x + (-1) = x - 1 := (Int32.sub_eq_add_neg x 1).symm
theorem take9 {σ τ : Mem} (hW : WF σ) (hE : EQ σ τ) {w : Nat} (hw : w < 6561) : ∃ τ', F_X9_takeWay τ (nI w) = some (b01 (hasR σ w 0), τ') ∧ (∀ k, k ≠ 21 → τ' k = τ k) ∧ ∀ q, q < nt (σ 13 0) → τ' 21 q = nI (dg (nt (σ 13 0)) w q) := by
  obtain ⟨hP8, hP⟩ := P_le hW
  obtain ⟨f1, f2, f3⟩ := id hE.2.2
  obtain ⟨x', vs', hr, e1, e2, e3⟩ := Rch.loop0 (B := B_X9_takeWay) (h := 12) (x := τ) (vs := [1, nI w, nI (nt (σ 13 0)) - 1]) (fun i x vs => vs = [b01 (hasR σ w (nt (σ 13 0) - i)), nI (w / 3 ^ i), nI (nt (σ 13 0) - i) - 1] ∧ (∀ k, k ≠ 21 → x k = τ k) ∧ ∀ q, nt (σ 13 0) - i ≤ q → q < nt (σ 13 0) → x 21 q = nI (dg (nt (σ 13 0)) w q)) (nt (σ 13 0)) ⟨by rw [Nat.sub_zero, hasR_P, Nat.pow_zero, Nat.div_one]; rfl, fun _ _ => rfl, fun q h1 h2 => by omega⟩ (fun i hi x vs hI => by
    obtain ⟨rfl, hk, hq⟩ := hI
    obtain ⟨s, hs⟩ : ∃ s, nt (σ 13 0) - i = s + 1 := ⟨nt (σ 13 0) - i - 1, by omega⟩
    have hs2 : nt (σ 13 0) - (i + 1) = s := by omega
    have hsP : s < nt (σ 13 0) := by omega
    have hdg : w / 3 ^ i % 3 = dg (nt (σ 13 0)) w s := by
      unfold dg
      rw [show nt (σ 13 0) - 1 - s = i by omega]
    have hwi : w / 3 ^ i ≤ w := Nat.div_le_self _ _
    have hrem : nI (w / 3 ^ i) - nI (w / 3 ^ i) / (3 : Int32) * (3 : Int32) = nI (dg (nt (σ 13 0)) w s) := by
      rw [← hdg]
      exact pk_rem (d := 3) (by omega) (by decide) (by decide)
    have hdiv : nI (w / 3 ^ i) / (3 : Int32) = nI (w / 3 ^ (i + 1)) := by
      rw [Nat.pow_succ, ← Nat.div_div_eq_div_mul]
      exact pk_div (d := 3) (by omega) (by decide) (by decide)
    have d3 := dg_lt (nt (σ 13 0)) w s
    rw [hs, hs2]
    refine ⟨st x 21 s (nI (dg (nt (σ 13 0)) w s)), _, Rch.one (p' := 12) (vs' := [b01 (hasR σ w s), nI (w / 3 ^ (i + 1)), nI s - 1]) (by decide) ?_, rfl, fun k h => by rw [st_ne h]; exact hk k h, fun q h1 h2 => ?_⟩
    · show B_X9_takeWay_12 x _ _ _ = _
      unfold B_X9_takeWay_12
      rw [nI_pred, if_neg (nI_pos (by omega)), hrem, hdiv, sto_at (by omega) (by decide), bind_some', sub1, hasR_s hsP]
      have k12 : st x 21 s (nI (dg (nt (σ 13 0)) w s)) 12 = τ 12 := by rw [st_ne (by decide)]; exact hk 12 (by decide)
      have k11 : st x 21 s (nI (dg (nt (σ 13 0)) w s)) 11 = τ 11 := by rw [st_ne (by decide)]; exact hk 11 (by decide)
      have k5 : st x 21 s (nI (dg (nt (σ 13 0)) w s)) 5 = τ 5 := by rw [st_ne (by decide)]; exact hk 5 (by decide)
      by_cases hh : hasR σ w (s + 1) = true
      · have : b01 (hasR σ w (s + 1)) = 1 := by rw [hh]; rfl
        rw [this, if_neg one_ne, ld_at (by omega) (by decide), bind_some', k12, f2 s (by omega), hh, Bool.true_and]
        unfold okd
        by_cases hn : num σ s = true
        · have hn14 : ¬ σ 14 s = 0 := by simpa [num] using hn
          rw [if_neg hn14, ld_at (by omega) (by decide), bind_some', st_eq, upd_eq, if_pos hn]
          by_cases hd0 : dg (nt (σ 13 0)) w s = 0
          · rw [if_pos (by rw [hd0]; rfl)]
            simp [hd0, b01]
          · rw [if_neg (show ¬ nI (dg (nt (σ 13 0)) w s) = (0 : Int32) from fun e => hd0 (nI_inj (b := 0) (by omega) (by decide) e))]
            simp [hd0, b01]
        · have hn' : num σ s = false := by simpa using hn
          obtain ⟨ht, et⟩ := tk_lt hW hsP hn'
          obtain ⟨hm3, em⟩ := mny_le hW hsP hn'
          rw [if_pos (show σ 14 s = (0 : Int32) from num_f hn'), ld_at (by omega) (by decide), bind_some', st_eq, upd_eq, ld_at (by omega) (by decide), bind_some', k11, f3 s (by omega), et, ld_at ht (by decide), bind_some', k5, hE.2.1.1 _ ht, em, if_neg hn]
          by_cases hd0 : dg (nt (σ 13 0)) w s < mny σ s
          · rw [if_neg (nI_ge hd0 (by omega))]
            simp [hd0, b01]
          · rw [if_pos (nI_le (by omega) (by omega))]
            simp [hd0, b01]
      · have hh' : hasR σ w (s + 1) = false := by simpa using hh
        have : b01 (hasR σ w (s + 1)) = 0 := by rw [hh']; rfl
        rw [this, if_pos rfl, hh', Bool.false_and]
        rfl
    · rw [st_eq]
      by_cases h : q = s
      · subst h; rw [upd_eq]
      · rw [upd_ne h]; exact hq q (by omega) h2)
  rw [Nat.sub_self] at e1
  refine ⟨x', ?_, e2, fun q hq => e3 q (by omega) hq⟩
  refine fin_M (Rch.tr (Rch.one (p' := 12) (x' := τ) (vs' := [1, nI w, nI (nt (σ 13 0)) - 1]) (by decide) ?_) (Rch.tr hr ?_))
  · show B_X9_takeWay_0 τ _ = _
    unfold B_X9_takeWay_0
    rw [f1, ← hP]
  · rw [e1]
    refine Rch.one (by decide) ?_
    show B_X9_takeWay_12 x' _ _ _ = _
    unfold B_X9_takeWay_12
    rw [if_pos (by decide), if_pos (b01_nar _)]
