/-- only the Form and the spots changed -/
def sameG (σ σ' : Mem) : Prop := ∀ k, k < 17 ∨ k = 23 ∨ (24 < k ∧ k ≠ 34) → σ' k = σ k
theorem sameG.rf {σ : Mem} : sameG σ σ := fun _ _ => rfl
theorem sameG.tr {σ σ1 σ2 : Mem} (h1 : sameG σ σ1) (h2 : sameG σ1 σ2) : sameG σ σ2 := fun k hk => (h2 k hk).trans (h1 k hk)
theorem start8 {x : Mem} : ∃ x', F_X2_start x = some x' ∧ sameF x x' ∧ hF x' fs0 := by
  refine ⟨_, rfl, fun k hk => ?_, fun j hj => ?_, ?_, fun i t h => by simp [fs0] at h⟩
  · rw [st_ne (by omega), st_ne (by omega), st_ne (by omega), st_ne (by omega), st_ne (by omega), st_ne (by omega), st_ne (by omega), st_ne (by omega)]
  · simp only [st_eq]
    have : j = 0 ∨ j = 1 ∨ j = 2 ∨ j = 3 ∨ j = 4 ∨ j = 5 ∨ j = 6 := by omega
    rcases this with rfl | rfl | rfl | rfl | rfl | rfl | rfl <;> simp [upd, fs0]
  · simp only [st_eq, upd_eq]
    rfl
theorem end8 {x : Mem} {f : FS} (hf : hF x f) : ∃ x', F_X2_end x = some x' ∧ sameF x x' ∧ hF x' (fsE f) := by
  obtain ⟨h1, h2, h3⟩ := id hf
  unfold F_X2_end fsE
  rw [h1 2 (by decide), h1 6 (by decide)]
  by_cases h : f.1 2 = 0
  · rw [if_pos h, if_pos h]
    refine ⟨_, rfl, fun k hk => by rw [st_ne (by omega)], fun j hj => ?_, ?_, ?_⟩
    · rw [st_eq]; exact upd_c h1 j hj
    · rw [st_eq, upd_ne (by decide)]; exact h2
    · simp (disch := decide) only [st_ne]; exact h3
  · rw [if_neg h, if_neg h]
    exact ⟨x, rfl, fun _ _ => rfl, hf⟩
theorem fill8 {σ : Mem} (hW : WF σ) {k : Nat} (hk : k < 2147483648) {m : Nat → Nat} (hm : ∀ q, m q < 3) (hd : ∀ q, q < nt (σ 13 0) → num σ q = false → k / 4 ^ (7 - q) % 4 = m q) : ∃ σ', F_X5_fillForm σ (nI k) = some σ' ∧ sameG σ σ' ∧ hF σ' (fsE (fsN σ m (nt (σ 13 0)))) := by
  obtain ⟨hP8, hP⟩ := P_le hW
  obtain ⟨x1, vs1, hr1, a1, a2, a3⟩ := Rch.loop0 (B := B_X5_fillForm) (h := 2) (x := σ) (vs := [nI k, nI 0]) (fun q x vs => vs = [nI k, nI q] ∧ (∀ j, j ≠ 24 → j ≠ 34 → x j = σ j) ∧ spots σ m x q) 9 ⟨rfl, fun _ _ _ => rfl, fun q h => by omega⟩ (fun q hq x vs hI => by
    obtain ⟨rfl, hj, hs⟩ := hI
    have hc' : ∀ k, k < 16 → x k = σ k := fun k hk => hj k (by omega) (by omega)
    have hWx : WF x := ⟨hW.1.cong (hc' 1 (by decide)) (hc' 2 (by decide)) (hc' 3 (by decide)) (hc' 4 (by decide)) (hc' 5 (by decide)), hW.2.1.cong (hc' 1 (by decide)) (hc' 2 (by decide)) (hc' 6 (by decide)) (hc' 7 (by decide)) (hc' 8 (by decide)) (hc' 9 (by decide)) (hc' 10 (by decide)) (hc' 11 (by decide)) (hc' 12 (by decide)), hW.2.2.cong (hc' 13 (by decide)) (hc' 14 (by decide)) (hc' 15 (by decide))⟩
    have hnlt : ¬ (8 : Int32) < nI q := nI_nlt (a := 8) (b := q) (by omega) (by decide)
    have hwA : F_X3_isWordAt x (nI q) = some (if isW σ q = true then 1 else 0) := by rw [isWA hWx (by omega), isW_c hc']
    have fin : ∀ v u, v = (if isW σ q = true then nI (3 * tk σ q + m q) else -1) → u = (if isW σ q = true then nI (sr σ q (m q)) else -1) → ((∀ j, j ≠ 24 → j ≠ 34 → st (st x 24 q v) 34 q u j = σ j) ∧ spots σ m (st (st x 24 q v) 34 q u) (q + 1)) := by
      intro v u hv hu
      refine ⟨fun j h1 h2 => by rw [st_ne h2, st_ne h1]; exact hj j h1 h2, fun q' hq' => ?_⟩
      rw [st_eq, st_ne (show (24 : Nat) ≠ 34 by decide), st_ne (show (34 : Nat) ≠ 24 by decide), st_eq]
      by_cases h : q' = q
      · rw [h, upd_eq, upd_eq]; exact ⟨hv, hu⟩
      · rw [upd_ne h, upd_ne h]; exact hs q' (by omega)
    by_cases hw : isW σ q = true
    · obtain ⟨hqP, hn⟩ := isW_d hw
      obtain ⟨ht, et⟩ := tk_lt hW hqP hn
      obtain ⟨s1, -⟩ := sr_at hW hqP hn (hm q)
      have hmq := hm q
      obtain ⟨g1, g2⟩ := fin (nI (3 * tk σ q + m q)) (nI (sr σ q (m q))) (by rw [if_pos hw]) (by rw [if_pos hw])
      have l8 : F_X7_sortAt (st x 24 q (nI (3 * tk σ q + m q))) (nI (3 * tk σ q + m q)) = some (nI (sr σ q (m q))) := by
        unfold F_X7_sortAt at s1 ⊢
        rw [st_ne (by decide), hc' 8 (by decide)]; exact s1
      refine ⟨_, _, Rch.one (p' := 2) (x' := st (st x 24 q (nI (3 * tk σ q + m q))) 34 q (nI (sr σ q (m q)))) (vs' := [nI k, nI (q + 1)]) (by decide) ?_, rfl, g1, g2⟩
      show B_X5_fillForm_2 x _ _ = _
      unfold B_X5_fillForm_2 F_X3_tokenAt
      rw [if_neg hnlt, hwA, if_pos hw, bind_some', if_neg one_ne, ld_at (by omega) (by decide), bind_some', bind_some', hc' 15 (by decide), et, meanIn hk (by omega), hd q hqP hn, spot8, sto_at (by omega) (by decide), bind_some', if_neg one_ne, ld_at (by omega) (by decide), bind_some', st_eq, upd_eq, l8, bind_some', sto_at (by omega) (by decide), bind_some', nI_1]
    · obtain ⟨g1, g2⟩ := fin (-1) (-1) (by rw [if_neg hw]) (by rw [if_neg hw])
      refine ⟨_, _, Rch.one (p' := 2) (x' := st (st x 24 q (-1)) 34 q (-1)) (vs' := [nI k, nI (q + 1)]) (by decide) ?_, rfl, g1, g2⟩
      show B_X5_fillForm_2 x _ _ = _
      unfold B_X5_fillForm_2
      rw [if_neg hnlt, hwA, if_neg hw, bind_some', if_pos rfl, sto_at (by omega) (by decide), bind_some', if_pos rfl, sto_at (by omega) (by decide), bind_some', nI_1])
  obtain ⟨x2, s1, s2, s3⟩ := start8 (x := x1)
  have b17 : ∀ j, j < 17 → x2 j = σ j := fun j hj => (s2 j (Or.inl hj)).trans (a2 j (by omega) (by omega))
  obtain ⟨x3, vs3, hr3, c1, c2, c3, c4⟩ := Rch.loop0 (B := B_X5_fillForm) (h := 93) (x := x2) (vs := [nI 0]) (fun p x vs => vs = [nI p] ∧ sameF x2 x ∧ spots σ m x 9 ∧ hF x (fsN σ m (min p (nt (σ 13 0))))) 8 ⟨rfl, fun _ _ => rfl, fun q hq => by rw [s2 24 (Or.inr (by decide)), s2 34 (Or.inr (by decide))]; exact a3 q hq, by rw [Nat.zero_min]; exact s3⟩ (fun p hp x vs hI => by
    obtain ⟨rfl, hs, hsp, hf⟩ := hI
    have hj : ∀ j, j < 17 → x j = σ j := fun j hj => (hs j (Or.inl hj)).trans (b17 j hj)
    have hnle : ¬ (8 : Int32) ≤ nI p := nI_ge (show p < 8 from hp) (by decide)
    by_cases hw : isW σ p = true
    · obtain ⟨hpP, hn⟩ := isW_d hw
      rw [Nat.min_eq_left (by omega)] at hf
      obtain ⟨x', f1, f2, f3⟩ := tell8 hW hm hpP hn hj hsp hf (fsN_len σ m p)
      obtain ⟨ht, et⟩ := tk_lt hW hpP hn
      have hmp := hm p
      refine ⟨x', _, Rch.one (p' := 93) (x' := x') (vs' := [nI (p + 1)]) (by decide) ?_, rfl, hs.tr f2, fun q hq => by rw [f2 24 (Or.inr (by decide)), f2 34 (Or.inr (by decide))]; exact hsp q hq, by rw [Nat.min_eq_left (by omega)]; exact f3⟩
      show B_X5_fillForm_93 x _ = _
      unfold B_X5_fillForm_93
      rw [if_neg hnle, ld_at (by omega) (by decide), bind_some', (hsp p (by omega)).1, if_pos hw, if_neg (nI_pos (by omega)), bind_some', f1, bind_some', nI_1]
    · refine ⟨x, _, Rch.one (p' := 93) (x' := x) (vs' := [nI (p + 1)]) (by decide) ?_, rfl, hs, hsp, ?_⟩
      · show B_X5_fillForm_93 x _ = _
        unfold B_X5_fillForm_93
        rw [if_neg hnle, ld_at (by omega) (by decide), bind_some', (hsp p (by omega)).1, if_neg hw, if_pos (by decide), nI_1]
      · by_cases hpP : p < nt (σ 13 0)
        · have hn : num σ p = true := by
            cases h : num σ p
            · exact absurd (isW_t hpP h) hw
            · rfl
          rw [Nat.min_eq_left (by omega)] at hf ⊢
          unfold fsN stp
          rw [if_pos hn]; exact hf
        · rw [Nat.min_eq_right (by omega)] at hf ⊢
          exact hf)
  rw [Nat.min_eq_right hP8] at c4
  obtain ⟨x4, d1, d2, d3⟩ := end8 c4
  refine ⟨x4, ?_, fun j hj => ?_, d3⟩
  · refine fin_V (vs' := []) (Rch.tr (Rch.one (p' := 2) (x' := σ) (vs' := [nI k, nI 0]) (by decide) rfl) (Rch.tr hr1 ?_))
    rw [a1]
    refine Rch.tr (Rch.one (p' := 93) (x' := x2) (vs' := [nI 0]) (by decide) ?_) (Rch.tr hr3 ?_)
    · show B_X5_fillForm_2 x1 _ _ = _
      unfold B_X5_fillForm_2
      rw [if_pos (show (8 : Int32) < nI 9 by decide), s1, bind_some']
      rfl
    · rw [c1]
      refine Rch.one (by decide) ?_
      show B_X5_fillForm_93 x3 _ = _
      unfold B_X5_fillForm_93
      rw [if_pos (show (8 : Int32) ≤ nI 8 by decide), d1, bind_some']
  · rw [d2 j (by omega), c2 j (by omega), s2 j (by omega), a2 j (by omega) (by omega)]
