/-! what a look at the READINGS leaves -/
def LK (σ σ' : Mem) : Prop := (∀ k, k < 16 ∨ (28 < k ∧ k ≠ 34) → σ' k = σ k) ∧ FR σ' ∧ HC σ'
theorem LK.lo {σ σ' : Mem} (h : LK σ σ') : ∀ k, k < 16 → σ' k = σ k := fun k hk => h.1 k (Or.inl hk)
theorem FR_c {σ σ' : Mem} (h : ∀ k, k < 16 → σ' k = σ k) (h16 : σ' 16 = σ 16) (h25 : σ' 25 = σ 25) (hFR : FR σ) : FR σ' := by
  unfold FR
  rw [h16, h25, Sd_c h, key_c h, h 13 (by decide)]
  exact hFR
theorem LK.h {σ σ1 σ2 : Mem} (h : LK σ σ1) (h2 : sameH σ1 σ2) (hC : HC σ2) : LK σ σ2 := ⟨fun k hk => (h2 k (by omega)).trans (h.1 k hk), FR_c h2.lo (h2 16 (by decide)) (h2 25 (by decide)) h.2.1, hC⟩
theorem LK.g {σ σ1 σ2 : Mem} (h : LK σ σ1) (h2 : sameG σ1 σ2) : LK σ σ2 := ⟨fun k hk => (h2 k (by omega)).trans (h.1 k hk), FR_c (fun k hk => h2 k (by omega)) (h2 16 (by omega)) (h2 25 (by omega)) h.2.1, HC_c (fun k hk => h2 k (by omega)) (h2 28 (by omega)) h.2.2⟩
theorem LK.q {σ σ1 : Mem} (hC : HC σ) (h2 : sameQ σ σ1) (h8 : σ1 16 8 = nI (Sd σ).length) (h25 : hold (σ1 25) ((Sd σ).map (key σ (nt (σ 13 0))))) : LK σ σ1 := by
  have hc : ∀ k, k < 16 → σ1 k = σ k := fun k hk => h2 k (Or.inl hk)
  refine ⟨fun k hk => h2 k (by omega), fun _ => ?_, HC_c hc (h2 28 (by omega)) hC⟩
  rw [Sd_c hc, key_c hc, hc 13 (by decide)]
  exact ⟨h8, h25⟩
theorem see {σ τ : Mem} (hW : WF σ) (hE : EQ σ τ) (hFR : FR σ) (hC : HC σ) (x : Int32) : ∃ σ1 τ1, LK σ σ1 ∧ sameS τ τ1 ∧ ((F_X5_has σ x = some (0, σ1) ∧ F_X9_have τ x = some (0, τ1)) ∨ ∃ i w σ2 fr, x = nI i ∧ i < 6561 ∧ (Sd σ)[i]? = some w ∧ F_X5_has σ x = some (1, σ1) ∧ F_X9_have τ x = some (1, τ1) ∧ σ1 25 i = nI (key σ (nt (σ 13 0)) w) ∧ F_X5_formOf σ1 x = some σ2 ∧ LK σ σ2 ∧ hF σ2 (fm σ w) ∧ SF σ (fm σ w) fr ∧ σ2 25 i = nI (key σ (nt (σ 13 0)) w) ∧ hM2 τ1 (fm σ w) (kC σ (nt (σ 13 0)) w) ∧ ∀ q, q < nt (σ 13 0) → τ1 21 q = nI (dg (nt (σ 13 0)) w q)) := by
  obtain ⟨σ1, f1, f2, f3, f4, f5⟩ := has8 hW hFR x
  obtain ⟨τ1, g1, g2⟩ := have9 hW hE x
  have hl : (Sd σ).length ≤ 6561 := by rw [Sd_len hW]; exact Rd_len hW
  have L1 := LK.q hC f1 f3 f4
  refine ⟨σ1, τ1, L1, g1, ?_⟩
  rcases f5 with ⟨i, w, rfl, hw, hh⟩ | ⟨ho, hh⟩
  · have hi : i < (Sd σ).length := (List.getElem?_eq_some_iff.mp hw).1
    rcases g2 with ⟨j, w', hj, hw', gg, g3, g4⟩ | ⟨ho, gg⟩
    · have hj6 : j < (Sd σ).length := (List.getElem?_eq_some_iff.mp hw').1
      have : i = j := nI_inj (by omega) (by omega) hj
      subst this
      rw [hw] at hw'
      have := Option.some.inj hw'
      subst this
      have hk : σ1 25 i = nI (key σ (nt (σ 13 0)) w) := f4 i _ (by rw [List.getElem?_map, hw]; rfl)
      obtain ⟨σ2, k1, k2, k3⟩ := form8 hW L1.lo w
      obtain ⟨fr, hfr⟩ := SF_of hW (Sd_Rd (List.mem_of_getElem? hw))
      refine Or.inr ⟨i, w, σ2, fr, rfl, by omega, hw, hh, gg, hk, ?_, L1.g k2, k3, hfr, ?_, g3, g4⟩
      · unfold F_X5_formOf
        rw [ld_at (by omega) (by decide), bind_some', hk, k1, bind_some']
      · rw [k2 25 (by omega)]; exact hk
    · exact absurd rfl (out_not ho hi (by omega))
  · rcases g2 with ⟨j, w', hj, hw', gg, g3, g4⟩ | ⟨ho', gg⟩
    · have hj6 : j < (Sd σ).length := (List.getElem?_eq_some_iff.mp hw').1
      exact absurd hj (out_not ho hj6 (by omega))
    · exact Or.inl ⟨hh, gg⟩
theorem op_readings {σ τ : Mem} (hW : WF σ) (hE : EQ σ τ) (hFR : FR σ) (hC : HC σ) : ∃ r σ' τ', F_X8_readings σ = some (r, σ') ∧ F_X9_readings τ = some (r, τ') ∧ LK σ σ' ∧ sameS τ τ' := by
  obtain ⟨σ1, f1, f2, f3, f4, f5⟩ := refr8 hW hFR
  obtain ⟨τ1, g1, g2, g3, -, -⟩ := find9 hW hE
  refine ⟨nI (Sd σ).length, σ1, τ1, ?_, ?_, LK.q hC f2 f4 f5, g2⟩
  · unfold F_X8_readings F_X5_size
    rw [f1, bind_some', bind_some', f4]
  · unfold F_X9_readings
    rw [g1, bind_some', g3]
theorem mean8 {σ x : Mem} (hW : WF σ) (hc : ∀ k, k < 16 → x k = σ k) {i w q : Nat} (hi : i < 6561) (hk : x 25 i = nI (key σ (nt (σ 13 0)) w)) (hq : q < nt (σ 13 0)) : F_X5_meaningAt x (nI i) (nI q) = some (if num σ q = true then -1 else nI (dg (nt (σ 13 0)) w q)) := by
  have hWx := WF_c hc hW
  have hP8 := (P_le hW).1
  unfold F_X5_meaningAt
  by_cases hn : num σ q = true
  · rw [isNum8t hWx (by rw [hc 13 (by decide)]; exact hq) (by rw [num_c hc]; exact hn), bind_some', if_neg one_ne, if_pos hn]
  · have hn' : num σ q = false := by simpa using hn
    have hkl := key_lt hW (w := w) (Nat.le_refl (nt (σ 13 0)))
    rw [isNum8f hWx (by rw [hc 13 (by decide)]; exact hq) (by rw [num_c hc]; exact hn'), bind_some', if_pos rfl, if_neg hn, ld_at hi (by decide), bind_some', hk, meanIn (by omega) (by omega), key_dig hP8 hq]
theorem op_reading {σ τ : Mem} (hW : WF σ) (hE : EQ σ τ) (hFR : FR σ) (hC : HC σ) (x z : Int32) : ∃ r σ' τ', F_X8_reading σ x z = some (r, σ') ∧ F_X9_reading τ x z = some (r, τ') ∧ LK σ σ' ∧ sameS τ τ' := by
  obtain ⟨σ1, τ1, L1, S1, h⟩ := see hW hE hFR hC x
  unfold F_X8_reading F_X9_reading
  rcases h with ⟨h8, h9⟩ | ⟨i, w, σ2, fr, rfl, hi, hw, h8, h9, k1, e2, L2, hf, hs, k2, hm, hdg⟩
  · exact ⟨-9, σ1, τ1, by rw [h8, bind_some', if_pos rfl], by rw [h9, bind_some', if_pos rfl], L1, S1⟩
  rw [h8, bind_some', if_neg one_ne, h9, bind_some', if_neg one_ne]
  dsimp only
  have hP := P_le hW
  obtain ⟨m24, m25, m26, m27, m32, -⟩ := id hm
  have hkl := key_lt hW (w := w) (Nat.le_refl (nt (σ 13 0)))
  by_cases hz : z < 10
  · rw [if_pos hz, e2, bind_some']
    by_cases z0 : z = 0
    · exact ⟨nI (kC σ (nt (σ 13 0)) w), σ2, τ1, by rw [if_pos z0, cost8 hi k2 (by omega), bind_some', key_cost hW (Nat.le_refl _)], by rw [if_pos z0, m27], L2, S1⟩
    rw [if_neg z0, if_neg z0]
    by_cases z1 : z = 1
    · exact ⟨(fm σ w).1 1, σ2, τ1, by rw [if_pos z1]; exact congrArg (fun v => some (v, σ2)) (hf.1 1 (by decide)), by rw [if_pos z1, m24], L2, S1⟩
    rw [if_neg z1, if_neg z1]
    by_cases z2 : z = 2
    · exact ⟨(fm σ w).1 3, σ2, τ1, by rw [if_pos z2]; exact congrArg (fun v => some (v, σ2)) (hf.1 3 (by decide)), by rw [if_pos z2, m25], L2, S1⟩
    rw [if_neg z2, if_neg z2]
    by_cases z3 : z = 3
    · exact ⟨(fm σ w).1 5, σ2, τ1, by rw [if_pos z3]; exact congrArg (fun v => some (v, σ2)) (hf.1 5 (by decide)), by rw [if_pos z3, m26], L2, S1⟩
    rw [if_neg z3, if_neg z3]
    by_cases z4 : z = 4
    · exact ⟨nI (fm σ w).2.length, σ2, τ1, by rw [if_pos z4]; exact congrArg (fun v => some (v, σ2)) hf.2.1, by rw [if_pos z4, m32], L2, S1⟩
    rw [if_neg z4, if_neg z4]
    by_cases z5 : z = 5
    · have hW2 := WF_c L2.lo hW
      have hR := (rows_le hW.1 (show fr < 4 by have := tabs_le hW.1; have := hs.1; omega)).1
      obtain ⟨σ3, r1, r2, r3⟩ := rows8 hW2 hf (by rw [SF_c L2.lo]; exact hs) L2.2.2
      rw [fBm_c L2.lo, L2.lo 3 (by decide)] at r1
      refine ⟨nI (fb_ct (fBm σ (fm σ w) fr 0) (nt (σ 3 fr))), σ3, τ1, by rw [if_pos z5, r1, bind_some', bc_msk (by omega)], ?_, L2.h r2 r3, S1⟩
      rw [if_pos z5, show (0 : Int32) = nI 0 from rfl, many9 hW.1 (S1.EQ hE).1 hm hs (by decide), bind_some']
    rw [if_neg z5, if_neg z5, if_pos hz]
    exact ⟨-9, σ2, τ1, rfl, rfl, L2, S1⟩
  · rw [if_neg hz]
    have n0 : ∀ k : Nat, k < 10 → ¬ z = nI k := fun k hk e => hz (by rw [e]; exact nI_lt (b := 10) hk (by decide))
    rw [if_neg (show ¬ z = (0 : Int32) from n0 0 (by decide)), if_neg (show ¬ z = (1 : Int32) from n0 1 (by decide)), if_neg (show ¬ z = (2 : Int32) from n0 2 (by decide)), if_neg (show ¬ z = (3 : Int32) from n0 3 (by decide)), if_neg (show ¬ z = (4 : Int32) from n0 4 (by decide)), if_neg (show ¬ z = (5 : Int32) from n0 5 (by decide)), if_neg hz]
    obtain ⟨j, hj, rfl⟩ := i_nn z (fun h0 => hz (neg_lt (n := 10) h0 (by decide)))
    have hj10 : 10 ≤ j := by
      rw [show (10 : Int32) = nI 10 from rfl, nI_ltI hj (by decide)] at hz
      omega
    obtain ⟨q, rfl⟩ : ∃ q, j = q + 10 := ⟨j - 10, by omega⟩
    have e10 : nI (q + 10) - 10 = nI q := by
      have := pk_sub (a := q + 10) (b := 10) (by omega)
      rw [show q + 10 - 10 = q by omega] at this
      exact this
    have t13 : τ1 0 13 = nI (nt (σ 13 0)) := (S1.EQ hE).2.2.1.trans hP.2
    simp only [e10, t13]
    rw [show (10 : Int32) + nI (nt (σ 13 0)) = nI (10 + nt (σ 13 0)) from nI_add 10 _]
    have hh : F_X3_has σ1 (nI q) = if q < nt (σ 13 0) then 1 else 0 := by
      have e13 : σ1 13 0 = nI (nt (σ 13 0)) := by rw [L1.lo 13 (by decide)]; exact hP.2
      unfold F_X3_has
      rw [if_neg (nI_pos (by omega)), e13]
      by_cases hq : q < nt (σ 13 0)
      · rw [if_neg (nI_ge hq (by omega)), if_pos hq]
      · rw [if_pos (nI_le (by omega) (by omega)), if_neg hq]
    rw [hh]
    by_cases hq : q < nt (σ 13 0)
    · rw [if_pos hq, if_neg one_ne, if_pos (nI_lt (by omega) (by omega)), mean8 hW L1.lo hi k1 hq, bind_some', ld_at (by omega) (by decide), bind_some', (S1.EQ hE).2.2.2.1 q (by omega)]
      by_cases hn : num σ q = true
      · rw [if_pos hn, if_neg (by simpa [num] using hn)]
        exact ⟨-1, σ1, τ1, rfl, rfl, L1, S1⟩
      · have hn' : σ 14 q = 0 := by simpa [num] using hn
        rw [if_neg hn, if_pos hn', ld_at (by omega) (by decide), bind_some', hdg q hq]
        exact ⟨_, σ1, τ1, rfl, rfl, L1, S1⟩
    · rw [if_neg hq, if_pos rfl, if_neg (nI_nlt (by omega) (by omega))]
      exact ⟨-9, σ1, τ1, rfl, rfl, L1, S1⟩
theorem op_answer {σ τ : Mem} (hW : WF σ) (hE : EQ σ τ) (hFR : FR σ) (hC : HC σ) (x : Int32) : ∃ r σ' τ', F_X8_answer σ x = some (r, σ') ∧ F_X9_answer τ x = some (r, τ') ∧ LK σ σ' ∧ sameS τ τ' := by
  obtain ⟨σ1, τ1, L1, S1, h⟩ := see hW hE hFR hC x
  unfold F_X8_answer F_X9_answer
  rcases h with ⟨h8, h9⟩ | ⟨i, w, σ2, fr, rfl, hi, hw, h8, h9, k1, e2, L2, hf, hs, k2, hm, hdg⟩
  · exact ⟨_, σ1, τ1, by rw [h8, bind_some', if_pos rfl], by rw [h9, bind_some', if_pos rfl], L1, S1⟩
  obtain ⟨σ3, r1, r2, r3⟩ := ans8 (WF_c L2.lo hW) hf (by rw [SF_c L2.lo]; exact hs) L2.2.2
  rw [anS_c L2.lo] at r1
  refine ⟨anS σ (fm σ w) fr, σ3, τ1, ?_, ?_, L2.h r2 r3, S1⟩
  · rw [h8, bind_some', if_neg one_ne, e2, bind_some', r1, bind_some']
  · rw [h9, bind_some', if_neg one_ne, ans9 hW.1 (S1.EQ hE).1 hm hs, bind_some']
theorem op_test {σ τ : Mem} (hW : WF σ) (hE : EQ σ τ) (hFR : FR σ) (hC : HC σ) (x y z : Int32) : ∃ r σ' τ', F_X8_test σ x y z = some (r, σ') ∧ F_X9_test τ x y z = some (r, τ') ∧ LK σ σ' ∧ sameS τ τ' := by
  obtain ⟨σ1, τ1, L1, S1, h⟩ := see hW hE hFR hC x
  unfold F_X8_test F_X9_test
  rcases h with ⟨h8, h9⟩ | ⟨i, w, σ2, fr, rfl, hi, hw, h8, h9, k1, e2, L2, hf, hs, k2, hm, hdg⟩
  · exact ⟨_, σ1, τ1, by rw [h8, bind_some', if_pos rfl], by rw [h9, bind_some', if_pos rfl], L1, S1⟩
  rw [h8, bind_some', if_neg one_ne, h9, bind_some', if_neg one_ne, e2, bind_some']
  dsimp only
  have hl := hs.2.2.1
  have t8 : F_X2_tests σ2 = nI (fm σ w).2.length := hf.2.1
  have t32 : τ1 0 32 = nI (fm σ w).2.length := hm.2.2.2.2.1
  simp only [t8, t32]
  rcases pk_ix y (n := (fm σ w).2.length) (by omega) with h | h | ⟨k, hk, rfl⟩
  · rw [if_pos h, if_pos h]; exact ⟨_, _, _, rfl, rfl, L2, S1⟩
  · rw [if_neg (fun h2 : y < nI (fm σ w).2.length => Int32.not_lt.mpr h h2), if_pos h, ite_self, ite_self]
    exact ⟨_, _, _, rfl, rfl, L2, S1⟩
  · obtain ⟨-, g18, g19, g20, g21⟩ := hf.2.2 k _ (ft_at hk)
    obtain ⟨t22, t23, t24, t25⟩ := hm.2.2.2.2.2 k _ (ft_at hk)
    rw [if_neg (nI_pos (by omega)), if_neg (nI_pos (by omega)), if_pos (nI_lt hk (by omega)), if_neg (nI_ge hk (by omega))]
    unfold F_X9_within F_X2_tableOf F_X2_columnOf F_X2_thanOf F_X2_numberOf
    have hk8 : k < 8 := by omega
    simp only [ld_at hk8 (show (8 : Nat) < 2147483648 by decide), bind_some', g18, g19, g20, g21, t22, t23, t24, t25]
    by_cases z0 : z = 0
    · subst z0; exact ⟨ft (fm σ w) k 1, σ2, τ1, by simp, by simp, L2, S1⟩
    by_cases z1 : z = 1
    · subst z1; exact ⟨ft (fm σ w) k 2, σ2, τ1, by simp, by simp, L2, S1⟩
    by_cases z2 : z = 2
    · subst z2; exact ⟨ft (fm σ w) k 3, σ2, τ1, by simp, by simp, L2, S1⟩
    by_cases z3 : z = 3
    · subst z3; exact ⟨ft (fm σ w) k 4, σ2, τ1, by simp, by simp, L2, S1⟩
    refine ⟨-2000000, σ2, τ1, by rw [if_neg z0, if_neg z1, if_neg z2, if_neg z3], ?_, L2, S1⟩
    rw [if_pos]
    by_cases h0 : z < 0
    · rw [if_pos h0]
    · rw [if_neg h0, if_pos]
      refine Int32.not_le.mp (fun h3 => ?_)
      obtain ⟨j, hj, rfl⟩ := i_nn z h0
      rw [show (3 : Int32) = nI 3 from rfl, nI_leI hj (by decide)] at h3
      have : j = 0 ∨ j = 1 ∨ j = 2 ∨ j = 3 := by omega
      rcases this with rfl | rfl | rfl | rfl
      · exact z0 rfl
      · exact z1 rfl
      · exact z2 rfl
      · exact z3 rfl
