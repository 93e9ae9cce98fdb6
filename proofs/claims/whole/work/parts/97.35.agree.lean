/-! agree -/
theorem AS_q {σ σ1 : Mem} {k : Nat} (hK : KN σ) (hR : RK k σ) (h2 : sameQ σ σ1) (hC : CS σ σ1) : AS σ σ1 k := by
  obtain ⟨K, hA⟩ := hK
  exact AS_of hC (KA_q h2 hA) (by omega) (RK_c (h2 30 (by omega)) (h2 32 (by omega)) hR)
theorem op_agree {σ τ : Mem} (hW : WF σ) (hE : EQ σ τ) (hFR : FR σ) (hC : HC σ) (hK : KN σ) {k : Nat} (hR : RK k σ) (hk : k < 50000) (x y z : Int32) : ∃ r σ' τ', F_X8_agree σ x y z = some (r, σ') ∧ F_X9_agree τ x y z = some (r, τ') ∧ AS σ σ' k ∧ sameS τ τ' := by
  have hP := P_le hW
  have hl := Sd_6561 hW
  have A0 : AS σ σ k := ⟨fun _ _ => rfl, hFR, hC, hK, k, by omega, hR⟩
  have no : ∀ r : Int32, B_X8_agree_0 σ x y z = some (99999, σ, [r]) → B_X9_agree_0 τ x y z = some (99999, τ, [r]) → ∃ r σ' τ', F_X8_agree σ x y z = some (r, σ') ∧ F_X9_agree τ x y z = some (r, τ') ∧ AS σ σ' k ∧ sameS τ τ' := fun r h8 h9 => ⟨r, σ, τ, fin_M (Rch.one (by decide) h8), fin_M (Rch.one (by decide) h9), A0, sameS.rf⟩
  have t13 : τ 0 13 = nI (nt (σ 13 0)) := hE.2.2.1.trans hP.2
  rcases dist x with h | ⟨d, hd, rfl, h⟩
  · refine no (-1) ?_ ?_
    · unfold B_X8_agree_0; rw [if_pos h]
    · unfold B_X9_agree_0; rw [dist9, if_pos h]
  have h' : ¬ F_X8_isDistance (nI d) = 0 := by rw [h]; decide
  rcases pk_ix y (n := nt (σ 13 0)) (by omega) with hy | hy | ⟨p, hp, rfl⟩
  · refine no (-1) ?_ ?_
    · unfold B_X8_agree_0 F_X3_has; rw [if_neg h', if_pos hy, if_pos rfl]
    · unfold B_X9_agree_0; rw [dist9, if_neg h', if_pos hy]
  · refine no (-1) ?_ ?_
    · unfold B_X8_agree_0 F_X3_has
      rw [if_neg h', hP.2, if_pos hy, ite_self, if_pos rfl]
    · unfold B_X9_agree_0; rw [dist9, if_neg h', t13, if_pos hy, ite_self]
  have hhas : ¬ F_X3_has σ (nI p) = 0 := by
    unfold F_X3_has
    rw [if_neg (nI_pos (by omega)), hP.2, if_neg (nI_ge hp (by omega))]
    decide
  have hl12 : ld 8 (τ 12) (nI p) = some (σ 14 p) := by rw [ld_at (by omega) (by decide), hE.2.2.2.1 p (by omega)]
  by_cases hn : num σ p = true
  · refine no (-1) ?_ ?_
    · unfold B_X8_agree_0
      rw [if_neg h', if_neg hhas, isNum8t hW hp hn, bind_some', if_neg one_ne]
    · unfold B_X9_agree_0
      rw [dist9, if_neg h', if_neg (nI_pos (by omega)), t13, if_neg (nI_ge hp (by omega)), hl12, bind_some', if_neg (by simpa [num] using hn)]
  have hn' : num σ p = false := by simpa using hn
  obtain ⟨n, hnn, n1, n2⟩ := near_ex (cst σ) d (Sd σ).length
  obtain ⟨σ1, a1, a2, a3⟩ := near8 hW hFR hC hd hnn n1 n2
  obtain ⟨w, d1, d2, d3, d4⟩ := fnear9 hW hE hd hnn n1 n2
  have w13 : w 0 13 = nI (nt (σ 13 0)) := (d2.EQ hE).2.2.1.trans hP.2
  obtain ⟨σ2, vs', hr, g1, g2⟩ := Rch.loop0 (B := B_X8_agree) (h := 47) (x := σ1) (vs := [nI p, z, nI n, nI 0, nI 0]) (fun i v vs => vs = [nI p, z, nI n, nI (fb_ct (fun i => decide (mw σ p i = z)) i), nI i] ∧ v = σ1) n ⟨rfl, rfl⟩ (fun i hi v vs hI => by
    obtain ⟨rfl, rfl⟩ := hI
    refine ⟨_, _, Rch.one (p' := 47) (x' := v) (vs' := [nI p, z, nI n, nI (fb_ct (fun i => decide (mw σ p i = z)) (i + 1)), nI (i + 1)]) (by decide) ?_, rfl, rfl⟩
    show B_X8_agree_47 v _ _ _ _ _ = _
    unfold B_X8_agree_47
    rw [if_neg (nI_ge hi (by omega)), mwa8 hW a3 (by omega) hp, bind_some', nI_1, nI_1, fb_ct_succ]
    by_cases e : mw σ p i = z
    · rw [if_pos e, decide_eq_true e, if_pos rfl]
    · rw [if_neg e, decide_eq_false e]; rfl)
  obtain ⟨w2, vs2, hr2, g3, g4⟩ := Rch.loop0 (B := B_X9_agree) (h := 47) (x := w) (vs := [nI p, z, nI n, nI 0, nI 0]) (fun i v vs => vs = [nI p, z, nI n, nI (fb_ct (fun i => decide (mw σ p i = z)) i), nI i] ∧ v = w) n ⟨rfl, rfl⟩ (fun i hi v vs hI => by
    obtain ⟨rfl, rfl⟩ := hI
    refine ⟨_, _, Rch.one (p' := 47) (x' := v) (vs' := [nI p, z, nI n, nI (fb_ct (fun i => decide (mw σ p i = z)) (i + 1)), nI (i + 1)]) (by decide) ?_, rfl, rfl⟩
    show B_X9_agree_47 v _ _ _ _ _ = _
    unfold B_X9_agree_47
    rw [if_neg (nI_ge hi (by omega)), mwa9 hW w13 (by omega) (d3 i (by omega)) (wy_lt hW (by omega)) hp, bind_some', ← mw_w hn', nI_1, nI_1, i0, nI_add, fb_ct_succ]
    by_cases e : mw σ p i = z
    · rw [if_pos e, decide_eq_true e, if_pos rfl]
    · rw [if_neg e, decide_eq_false e]; rfl)
  rw [g1, g2] at hr
  rw [g3, g4] at hr2
  refine ⟨nI (fb_ct (fun i => decide (mw σ p i = z)) n), σ1, w, fin_M (Rch.tr (Rch.one (p' := 47) (x' := σ1) (vs' := [nI p, z, nI n, nI 0, nI 0]) (by decide) ?_) (hr.tr (Rch.one (by decide) ?_))), fin_M (Rch.tr (Rch.one (p' := 47) (x' := w) (vs' := [nI p, z, nI n, nI 0, nI 0]) (by decide) ?_) (hr2.tr (Rch.one (by decide) ?_))), AS_q hK hR a2 a3, d2⟩
  · show B_X8_agree_0 σ _ _ _ = _
    unfold B_X8_agree_0
    rw [if_neg h', if_neg hhas, isNum8f hW hp hn', bind_some', if_pos rfl, a1, bind_some']
    rfl
  · show B_X8_agree_47 σ1 _ _ _ _ _ = _
    unfold B_X8_agree_47
    rw [if_pos (nI_le (Nat.le_refl _) (by omega))]
  · show B_X9_agree_0 τ _ _ _ = _
    unfold B_X9_agree_0
    rw [dist9, if_neg h', if_neg (nI_pos (by omega)), t13, if_neg (nI_ge hp (by omega)), hl12, bind_some', if_pos (by simpa [num] using hn), d1, bind_some']
    rfl
  · show B_X9_agree_47 w _ _ _ _ _ = _
    unfold B_X9_agree_47
    rw [if_pos (nI_le (Nat.le_refl _) (by omega))]
