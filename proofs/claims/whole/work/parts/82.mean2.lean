theorem mea_we {σ τ : Mem} (hW : WF σ) (hE : EQ σ τ) {w k a b q : Nat} {s c : Int32} (hw : w < 40) (hk : σ 7 w = nI k) (hk3 : k < 3) (ha : a < 2147483648) (hb : b < 100) (hq : q ≤ 99) (hok : okA σ s a b c) : WF (meaC σ w k s (nI a) (nI b) c (nI q)) ∧ EQ (meaC σ w k s (nI a) (nI b) c (nI q)) (meaM τ w k s (nI a) (nI b) c (nI q)) ∧ rst σ (meaC σ w k s (nI a) (nI b) c (nI q)) := by
  obtain ⟨hWt, hWw, hWl⟩ := id hW
  obtain ⟨hEt, hEw, hEl⟩ := id hE
  obtain ⟨v1, v2, v3, v4, v5, v6, v7⟩ := id hWw
  generalize hσ' : meaC σ w k s (nI a) (nI b) c (nI q) = σ'
  generalize hτ' : meaM τ w k s (nI a) (nI b) c (nI q) = τ'
  have o : ∀ j, j ∈ [1, 2, 3, 4, 5, 13, 14, 15] → σ' j = σ j := fun j hj => by
    subst hσ'
    simp at hj
    unfold meaC
    rw [st_ne (by omega), st_ne (by omega), st_ne (by omega), st_ne (by omega), st_ne (by omega), st_ne (by omega), st_ne (by omega), qcM_k (by omega) (by omega) (by omega)]
  have g : ∀ j, j ∈ [0, 1, 2, 3, 4, 11, 12] → τ' j = τ j := fun j hj => by
    subst hτ'
    simp at hj
    unfold meaM
    rw [st_ne (by omega), st_ne (by omega), st_ne (by omega), st_ne (by omega), st_ne (by omega), st_ne (by omega)]
  have c8 : σ' 8 = upd (σ 8) (3 * w + k) s := by subst hσ'; unfold meaC; simp (disch := decide) only [st_ne, st_eq, qcM_k]
  have c9 : σ' 9 = upd (σ 9) (3 * w + k) (nI a) := by subst hσ'; unfold meaC; simp (disch := decide) only [st_ne, st_eq, qcM_k]
  have c10 : σ' 10 = upd (σ 10) (3 * w + k) (nI b) := by subst hσ'; unfold meaC; simp (disch := decide) only [st_ne, st_eq, qcM_k]
  have c11 : σ' 11 = upd (σ 11) (3 * w + k) c := by subst hσ'; unfold meaC; simp (disch := decide) only [st_ne, st_eq, qcM_k]
  have c12 : σ' 12 = upd (σ 12) (3 * w + k) (nI q) := by subst hσ'; unfold meaC; simp (disch := decide) only [st_ne, st_eq, qcM_k]
  have c7 : σ' 7 = upd (σ 7) w (nI (k + 1)) := by subst hσ'; unfold meaC; simp (disch := decide) only [st_ne, st_eq, qcM_k]
  have c6 : σ' 6 0 = σ 6 0 + 1 := by subst hσ'; unfold meaC; rw [st_eq, upd_eq]
  have d6 : τ' 6 = upd (τ 6) (3 * w + k) s := by subst hτ'; unfold meaM; simp (disch := decide) only [st_ne, st_eq]
  have d7 : τ' 7 = upd (τ 7) (3 * w + k) (nI a) := by subst hτ'; unfold meaM; simp (disch := decide) only [st_ne, st_eq]
  have d8 : τ' 8 = upd (τ 8) (3 * w + k) (nI b) := by subst hτ'; unfold meaM; simp (disch := decide) only [st_ne, st_eq]
  have d9 : τ' 9 = upd (τ 9) (3 * w + k) c := by subst hτ'; unfold meaM; simp (disch := decide) only [st_ne, st_eq]
  have d10 : τ' 10 = upd (τ 10) (3 * w + k) (nI q) := by subst hτ'; unfold meaM; simp (disch := decide) only [st_ne, st_eq]
  have d5 : τ' 5 = upd (τ 5) w (nI (k + 1)) := by subst hτ'; unfold meaM; simp (disch := decide) only [st_ne, st_eq]
  have hs5 : ∃ n, n ≤ 5 ∧ s = nI n := by
    rcases hok with h | h | h | h | h | h
    · exact ⟨0, by decide, h.1⟩
    · exact ⟨1, by decide, h.1⟩
    · exact ⟨2, by decide, h.1⟩
    · exact ⟨3, by decide, h.1⟩
    · exact ⟨4, by decide, h.1⟩
    · exact ⟨5, by decide, h⟩
  have up : ∀ {f : Nat → Int32} {v : Int32} {Pd : Int32 → Prop}, Pd v → (∀ j, j < 120 → Pd (f j)) → ∀ j, j < 120 → Pd (upd f (3 * w + k) v j) := by
    intro f v Pd h1 h2 j hj
    by_cases h : j = 3 * w + k
    · rw [h, upd_eq]; exact h1
    · rw [upd_ne h]; exact h2 j hj
  have ue : ∀ {f g : Nat → Int32} {v : Int32} {m n : Nat}, (∀ j, j < n → f j = g j) → ∀ j, j < n → upd f m v j = upd g m v j := by
    intro f g v m n h j hj
    by_cases hh : j = m
    · rw [hh, upd_eq, upd_eq]
    · rw [upd_ne hh, upd_ne hh]; exact h j hj
  refine ⟨⟨hWt.cong (o 1 (by decide)) (o 2 (by decide)) (o 3 (by decide)) (o 4 (by decide)) (o 5 (by decide)), ⟨fun w' hw' => ?_, ?_, ?_, ?_, ?_, fun w' k' hw' hk' => ?_, ?_⟩, hWl.cong (o 13 (by decide)) (o 14 (by decide)) (o 15 (by decide))⟩, ⟨hEt.cong (o 1 (by decide)) (o 2 (by decide)) (o 3 (by decide)) (o 4 (by decide)) (o 5 (by decide)) (by rw [g 0 (by decide)]) (g 1 (by decide)) (g 2 (by decide)) (g 3 (by decide)) (g 4 (by decide)), ⟨?_, ?_, ?_, ?_, ?_, ?_⟩, hEl.cong (o 13 (by decide)) (o 14 (by decide)) (o 15 (by decide)) (by rw [g 0 (by decide)]) (g 11 (by decide)) (g 12 (by decide))⟩, ?_⟩
  · rw [c7]
    by_cases h : w' = w
    · subst h; exact ⟨k + 1, by omega, upd_eq⟩
    · rw [upd_ne h]; exact v1 w' hw'
  · rw [c8]; exact up (Pd := fun x => ∃ s, s ≤ 5 ∧ x = nI s) hs5 v2
  · rw [c9]; exact up (Pd := fun x => ∃ s, s < 2147483648 ∧ x = nI s) ⟨a, ha, rfl⟩ v3
  · rw [c10]; exact up (Pd := fun x => ∃ s, s < 100 ∧ x = nI s) ⟨b, hb, rfl⟩ v4
  · rw [c12]; exact up (Pd := fun x => ∃ s, s ≤ 99 ∧ x = nI s) ⟨q, hq, rfl⟩ v5
  · rw [c7] at hk'
    unfold okM
    rw [c8, c9, c10, c11, o 1 (by decide), o 2 (by decide)]
    by_cases h : 3 * w' + k' = 3 * w + k
    · rw [h, upd_eq, upd_eq, upd_eq, upd_eq, nt_nI ha, nt_nI (by omega)]
      exact hok
    · rw [upd_ne h, upd_ne h, upd_ne h, upd_ne h]
      refine v6 w' k' hw' ?_
      by_cases hw2 : w' = w
      · subst hw2
        rw [upd_eq, nt_nI (by omega)] at hk'
        rw [hk, nt_nI (by omega)]
        omega
      · rw [upd_ne hw2] at hk'; exact hk'
  · rw [c6, c7, v7, nI_1]
    have hs := sum_upd (f := fun j => nt (σ 7 j)) (g := fun j => nt (upd (σ 7) w (nI (k + 1)) j)) (v := k + 1) hw (fun j => by
      by_cases h : j = w
      · subst h; rw [if_pos rfl, upd_eq, nt_nI (by omega)]
      · rw [if_neg h, upd_ne h])
    have hkk : nt (σ 7 w) = k := by rw [hk, nt_nI (by omega)]
    simp only [hkk] at hs
    congr 1
    omega
  · rw [d5, c7]; exact ue hEw.1
  · rw [d6, c8]; exact ue hEw.2.1
  · rw [d7, c9]; exact ue hEw.2.2.1
  · rw [d8, c10]; exact ue hEw.2.2.2.1
  · rw [d9, c11]; exact ue hEw.2.2.2.2.1
  · rw [d10, c12]; exact ue hEw.2.2.2.2.2
  · refine qcM_rst (fun j hj => ?_)
    subst hσ'
    simp at hj
    unfold meaC
    rw [st_ne (by omega), st_ne (by omega), st_ne (by omega), st_ne (by omega), st_ne (by omega), st_ne (by omega), st_ne (by omega)]
theorem op_mean {σ τ : Mem} (hW : WF σ) (hE : EQ σ τ) (x s y c z : Int32) : ∃ r σ' τ', F_X8_mean σ x s y c z = some (r, σ') ∧ F_X9_mean τ x s y c z = some (r, τ') ∧ WF σ' ∧ EQ σ' τ' ∧ (σ' = σ ∨ rst σ σ') := by
  obtain ⟨hWt, hWw, hWl⟩ := id hW
  obtain ⟨hEt, hEw, hEl⟩ := id hE
  unfold F_X8_mean F_X9_mean
  rcases isW2 x with ⟨w, hw, rfl, h8, h9⟩ | ⟨h8, h9⟩
  · rw [h8, h9, if_neg one_ne, if_neg one_ne]
    by_cases hy : y < 0
    · exact ⟨-1, σ, τ, by rw [if_pos hy], by rw [if_pos hy], hW, hE, Or.inl rfl⟩
    rw [if_neg hy, if_neg hy]
    obtain ⟨Y, hY, rfl⟩ := i_nn y hy
    have dv : nI Y / (100 : Int32) = nI (Y / 100) := pk_div (d := 100) hY (by decide) (by decide)
    have rm : nI Y - nI Y / (100 : Int32) * (100 : Int32) = nI (Y % 100) := pk_rem (d := 100) hY (by decide) (by decide)
    rw [rm, dv]
    obtain ⟨k, hk3, hk⟩ := hWw.1 w hw
    have wz : ∀ (hz : z < 0 ∨ 99 < z), F_X9_within z 0 99 = 0 := by
      intro hz
      unfold F_X9_within
      by_cases h0 : z < 0
      · rw [if_pos h0]
      · rw [if_neg h0, if_pos (hz.resolve_left h0)]
    have ref9 : F_X9_within z 0 99 = 0 → ∃ (τ' : Mem), ((F_X9_mayMean τ s (nI (Y / 100)) (nI (Y % 100)) c).bind fun v3 => if v3 = 0 then some ((-1 : Int32), τ) else if F_X9_within z 0 99 = 0 then some (-1, τ) else none) = some (-1, τ') ∧ τ' = τ := by
      intro h
      rcases mean2 hWt hEt s (a := Y / 100) (b := Y % 100) (by omega) (by omega) c with ⟨-, -, m9⟩ | ⟨-, m9⟩
      · exact ⟨τ, by rw [m9, bind_some', if_neg one_ne, if_pos h], rfl⟩
      · exact ⟨τ, by rw [m9, bind_some', if_pos rfl], rfl⟩
    rcases mean2 hWt hEt s (a := Y / 100) (b := Y % 100) (by omega) (by omega) c with ⟨hok, m8, m9⟩ | ⟨m8, m9⟩
    · rw [m8, m9]
      simp only [bind_some', if_neg one_ne]
      by_cases z0 : z < 0
      · exact ⟨-1, σ, τ, by rw [if_pos z0], by rw [if_pos (wz (Or.inl z0))], hW, hE, Or.inl rfl⟩
      rw [if_neg z0]
      by_cases z9 : z ≤ 99
      · rw [if_pos z9]
        obtain ⟨q, hq, rfl⟩ := nI_of2 (x := z) (M := 99) (n := 99) rfl z0 z9
        have w1 : F_X9_within (nI q) 0 99 = 1 := by
          unfold F_X9_within
          have : ¬ (99 : Int32) < nI q := nI_nlt (a := 99) (b := q) hq (by decide)
          rw [if_neg z0, if_neg this]
        rw [w1, if_neg one_ne]
        unfold F_X7_meaningsOf
        rw [ld_at hw (by decide), bind_some', bind_some', hk, F8_qc, bind_some']
        have l9 : (ld 40 (τ 5) (nI w)) = some (nI k) := by rw [ld_at hw (by decide), hEw.1 w hw, hk]
        by_cases hk2 : k = 3
        · subst hk2
          exact ⟨-2, σ, τ, by rw [if_neg (by decide)], by rw [l9, bind_some', if_pos (show nI 3 = (3 : Int32) from rfl)], hW, hE, Or.inl rfl⟩
        · have k3 : k < 3 := by omega
          have lt3 : nI k < (3 : Int32) := nI_lt (a := k) (b := 3) k3 (by decide)
          have ne3 : ¬ nI k = (3 : Int32) := fun e => by
            have := nI_inj (a := k) (b := 3) (by omega) (by omega) e
            omega
          obtain ⟨q1, q2, q3⟩ := mea_we hW hE (a := Y / 100) (b := Y % 100) (q := q) hw hk k3 (by omega) (by omega) hq hok
          refine ⟨nI k, _, _, ?_, ?_, q1, q2, Or.inr q3⟩
          · rw [if_pos lt3, mea8 hw hk k3]; rfl
          · have := mea9 (τ := τ) (s := s) (a := nI (Y / 100)) (b := nI (Y % 100)) (c := c) (q := nI q) hw ((hEw.1 w hw).trans hk) k3
            rw [← this, l9, bind_some', bind_some', if_neg ne3]
      · rw [if_neg z9]
        refine ⟨-1, σ, τ, rfl, ?_, hW, hE, Or.inl rfl⟩
        rw [if_pos (wz (Or.inr ?_))]
        rw [Int32.lt_iff_toInt_lt]
        rw [Int32.le_iff_toInt_le] at z9
        omega
    · rw [m8, m9]
      refine ⟨-1, σ, τ, ?_, by rw [bind_some', if_pos rfl], hW, hE, Or.inl rfl⟩
      by_cases z0 : z < 0
      · rw [if_pos z0]
      · rw [if_neg z0]
        by_cases z9 : z ≤ 99
        · rw [if_pos z9, bind_some', if_pos rfl]
        · rw [if_neg z9]
  · exact ⟨-1, σ, τ, by rw [if_pos h8], by rw [if_pos h9], hW, hE, Or.inl rfl⟩
