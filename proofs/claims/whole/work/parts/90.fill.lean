/-- only the Form and the spots changed -/
def sameG (σ σ' : Mem) : Prop := ∀ k, k < 17 ∨ k = 23 ∨ 24 < k → σ' k = σ k
theorem sameG.rf {σ : Mem} : sameG σ σ := fun _ _ => rfl
theorem sameG.tr {σ σ1 σ2 : Mem} (h1 : sameG σ σ1) (h2 : sameG σ1 σ2) : sameG σ σ2 := fun k hk => (h2 k hk).trans (h1 k hk)
theorem start8 {x : Mem} : ∃ x', F_X2_start x = some x' ∧ sameF x x' ∧ hF x' fs0 := by
  refine ⟨_, rfl, fun k hk => ?_, fun j hj => ?_, ?_, fun i t h => by simp [fs0] at h⟩
  · rw [st_ne (by omega), st_ne (by omega), st_ne (by omega), st_ne (by omega), st_ne (by omega), st_ne (by omega), st_ne (by omega), st_ne (by omega)]
  · simp only [st_eq]
    have : j = 0 ∨ j = 1 ∨ j = 2 ∨ j = 3 ∨ j = 4 ∨ j = 5 ∨ j = 6 := by omega
    rcases this with rfl | rfl | rfl | rfl | rfl | rfl | rfl <;> simp [upd, fs0]
  · simp only [st_eq, upd_eq]
    rfl
theorem end8 {x : Mem} {f : FS} (hf : hF x f) : ∃ x', F_X2_end x = some x' ∧ sameF x x' ∧ hF x' (fsE f) := by
  obtain ⟨h1, h2, h3⟩ := id hf
  unfold F_X2_end fsE
  rw [h1 2 (by decide), h1 6 (by decide)]
  by_cases h : f.1 2 = 0
  · rw [if_pos h, if_pos h]
    refine ⟨_, rfl, fun k hk => by rw [st_ne (by omega)], fun j hj => ?_, ?_, ?_⟩
    · rw [st_eq]; exact upd_c h1 j hj
    · rw [st_eq, upd_ne (by decide)]; exact h2
    · simp (disch := decide) only [st_ne]; exact h3
  · rw [if_neg h, if_neg h]
    exact ⟨x, rfl, fun _ _ => rfl, hf⟩
theorem fill8 {σ : Mem} (hW : WF σ) {k : Nat} (hk : k < 2147483648) {m : Nat → Nat} (hm : ∀ q, m q < 3) (hd : ∀ q, q < nt (σ 13 0) → num σ q = false → k / 4 ^ (7 - q) % 4 = m q) : ∃ σ', F_X5_fillForm σ (nI k) = some σ' ∧ sameG σ σ' ∧ hF σ' (fsE (fsN σ m (nt (σ 13 0)))) := by
  obtain ⟨hP8, hP⟩ := P_le hW
  generalize hPP : nt (σ 13 0) = P at hP8 hP hd
  obtain ⟨x1, vs1, hr1, a1, a2, a3⟩ := Rch.loop0 (B := B_X5_fillForm) (h := 2) (x := σ) (vs := [nI k, nI 0]) (fun q x vs => vs = [nI k, nI q] ∧ (∀ j, j ≠ 24 → x j = σ j) ∧ spots σ m x q) P ⟨rfl, fun _ _ => rfl, fun q h => by omega⟩ (fun q hq x vs hI => by
    obtain ⟨rfl, hj, hs⟩ := hI
    have hWx : WF x := ⟨hW.1.cong (hj 1 (by decide)) (hj 2 (by decide)) (hj 3 (by decide)) (hj 4 (by decide)) (hj 5 (by decide)), hW.2.1.cong (hj 1 (by decide)) (hj 2 (by decide)) (hj 6 (by decide)) (hj 7 (by decide)) (hj 8 (by decide)) (hj 9 (by decide)) (hj 10 (by decide)) (hj 11 (by decide)) (hj 12 (by decide)), hW.2.2.cong (hj 13 (by decide)) (hj 14 (by decide)) (hj 15 (by decide))⟩
    have hc' : ∀ k, k < 16 → x k = σ k := fun k hk => hj k (by omega)
    have hsz : F_X3_size x = nI P := by unfold F_X3_size; rw [hj 13 (by decide)]; exact hP
    have hPx : nt (x 13 0) = P := by rw [hj 13 (by decide), hPP]
    have hnle : ¬ nI P ≤ nI q := nI_ge hq (by omega)
    have fin : ∀ v, v = (if num σ q = true then -1 else nI (3 * tk σ q + m q)) → ((∀ j, j ≠ 24 → st x 24 q v j = σ j) ∧ spots σ m (st x 24 q v) (q + 1)) := by
      intro v hv
      refine ⟨fun j hj2 => by rw [st_ne hj2]; exact hj j hj2, fun q' hq' => ?_⟩
      rw [st_eq]
      by_cases h : q' = q
      · rw [h, upd_eq]; exact hv
      · rw [upd_ne h]; exact hs q' (by omega)
    by_cases hn : num σ q = true
    · obtain ⟨g1, g2⟩ := fin (-1) (by rw [if_pos hn])
      refine ⟨_, _, Rch.one (p' := 2) (x' := st x 24 q (-1)) (vs' := [nI k, nI (q + 1)]) (by decide) ?_, rfl, g1, g2⟩
      show B_X5_fillForm_2 x _ _ = _
      unfold B_X5_fillForm_2
      rw [hsz, if_neg hnle, isNum8t hWx (by omega) (by rw [num_c hc']; exact hn), bind_some', if_neg one_ne, sto_at (by omega) (by decide), bind_some', nI_1]
    · have hn' : num σ q = false := by simpa using hn
      obtain ⟨ht, et⟩ := tk_lt hW (show q < nt (σ 13 0) by omega) hn'
      obtain ⟨g1, g2⟩ := fin (nI (3 * tk σ q + m q)) (by rw [if_neg hn])
      refine ⟨_, _, Rch.one (p' := 2) (x' := st x 24 q (nI (3 * tk σ q + m q))) (vs' := [nI k, nI (q + 1)]) (by decide) ?_, rfl, g1, g2⟩
      show B_X5_fillForm_2 x _ _ = _
      unfold B_X5_fillForm_2 F_X3_tokenAt
      rw [hsz, if_neg hnle, isNum8f hWx (by omega) (by rw [num_c hc']; exact hn'), bind_some', if_pos rfl, ld_at (by omega) (by decide), bind_some', bind_some', hj 15 (by decide), et, meanIn hk (by omega), hd q hq hn', spot8, sto_at (by omega) (by decide), bind_some', nI_1])
  obtain ⟨x2, s1, s2, s3⟩ := start8 (x := x1)
  have b17 : ∀ j, j < 17 → x2 j = σ j := fun j hj => (s2 j (Or.inl hj)).trans (a2 j (by omega))
  obtain ⟨x3, vs3, hr3, c1, c2, c3, c4⟩ := Rch.loop0 (B := B_X5_fillForm) (h := 69) (x := x2) (vs := [nI 0]) (fun p x vs => vs = [nI p] ∧ sameF x2 x ∧ spots σ m x P ∧ hF x (fsN σ m p)) P ⟨rfl, fun _ _ => rfl, fun q hq => by rw [s2 24 (Or.inr (by decide))]; exact a3 q hq, s3⟩ (fun p hp x vs hI => by
    obtain ⟨rfl, hs, hsp, hf⟩ := hI
    have hj : ∀ j, j < 17 → x j = σ j := fun j hj => (hs j (Or.inl hj)).trans (b17 j hj)
    have hsz : F_X3_size x = nI P := by unfold F_X3_size; rw [hj 13 (by decide)]; exact hP
    have hnle : ¬ nI P ≤ nI p := nI_ge hp (by omega)
    by_cases hn : num σ p = true
    · refine ⟨x, _, Rch.one (p' := 69) (x' := x) (vs' := [nI (p + 1)]) (by decide) ?_, rfl, hs, hsp, ?_⟩
      · show B_X5_fillForm_69 x _ = _
        unfold B_X5_fillForm_69
        rw [hsz, if_neg hnle, ld_at (by omega) (by decide), bind_some', hsp p hp, if_pos hn, if_pos (by decide), nI_1]
      · unfold fsN stp
        rw [if_pos hn]; exact hf
    · have hn' : num σ p = false := by simpa using hn
      obtain ⟨x', f1, f2, f3⟩ := tell8 hW hm (p := p) (by omega) hn' hj (by rw [hPP]; exact hsp) hf (fsN_len σ m p)
      obtain ⟨ht, et⟩ := tk_lt hW (show p < nt (σ 13 0) by omega) hn'
      have hmp := hm p
      refine ⟨x', _, Rch.one (p' := 69) (x' := x') (vs' := [nI (p + 1)]) (by decide) ?_, rfl, hs.tr f2, fun q hq => by rw [f2 24 (Or.inr (by decide))]; exact hsp q hq, f3⟩
      show B_X5_fillForm_69 x _ = _
      unfold B_X5_fillForm_69
      rw [hsz, if_neg hnle, ld_at (by omega) (by decide), bind_some', hsp p hp, if_neg hn, if_neg (nI_pos (by omega)), bind_some', f1, bind_some', nI_1])
  obtain ⟨x4, d1, d2, d3⟩ := end8 c4
  refine ⟨x4, ?_, fun j hj => ?_, d3⟩
  · refine fin_V (vs' := []) (Rch.tr (Rch.one (p' := 2) (x' := σ) (vs' := [nI k, nI 0]) (by decide) rfl) (Rch.tr hr1 ?_))
    rw [a1]
    refine Rch.tr (Rch.one (p' := 69) (x' := x2) (vs' := [nI 0]) (by decide) ?_) (Rch.tr hr3 ?_)
    · show B_X5_fillForm_2 x1 _ _ = _
      unfold B_X5_fillForm_2
      have hsz : F_X3_size x1 = nI P := by unfold F_X3_size; rw [a2 13 (by decide)]; exact hP
      rw [hsz, if_pos (nI_le (Nat.le_refl _) (by omega)), s1, bind_some']
      rfl
    · rw [c1]
      refine Rch.one (by decide) ?_
      show B_X5_fillForm_69 x3 _ = _
      unfold B_X5_fillForm_69
      have hsz : F_X3_size x3 = nI P := by unfold F_X3_size; rw [c2 13 (by decide), b17 13 (by decide)]; exact hP
      rw [hsz, if_pos (nI_le (Nat.le_refl _) (by omega)), d1, bind_some']
  · rw [d2 j (by omega), c2 j (by omega), s2 j (by omega), a2 j (by omega)]
