/-! WHY -/
def pc (N : Nat) : Nat := fb_ct (fun i => N.testBit i) 24
def lt2 (a b : Nat) : Prop := pc a < pc b ∨ (pc a = pc b ∧ a < b)
theorem pc_len {N n : Nat} (h : N < 2 ^ n) (hn : n ≤ 24) : fb_ct (fun i => N.testBit i) n = pc N := by
  have h2 : fb_ct (fun k => N.testBit (n + k)) (24 - n) = 0 := fb_ct_zero.mpr (fun r hr => Nat.testBit_lt_two_pow (Nat.lt_of_lt_of_le h (Nat.pow_le_pow_right (by decide) (by omega))))
  have h1 := fb_ct_split (fun i => N.testBit i) n (24 - n)
  rw [h2, show n + (24 - n) = 24 by omega] at h1
  exact h1.symm
theorem lesser8 {a b : Nat} (ha : a < 16777216) (hb : b < 16777216) : (F_X1_isLesserSet (nI a) (nI b) = 0 ↔ ¬ lt2 a b) := by
  have pa : pc a ≤ 24 := fb_ct_le _ _
  have pb : pc b ≤ 24 := fb_ct_le _ _
  unfold F_X1_isLesserSet F_J6_compare_7cf53 lt2
  rw [bc_ct ha, bc_ct hb]
  show ((if (if nI (pc b) ≤ nI (pc a) then if nI (pc a) = nI (pc b) then (0 : Int32) else 1 else -1) < 0 then (1 : Int32) else if (if nI (pc b) ≤ nI (pc a) then if nI (pc a) = nI (pc b) then (0 : Int32) else 1 else -1) = 0 then if nI b ≤ nI a then 0 else 1 else 0) = 0) ↔ _
  have l1 : nI (pc b) ≤ nI (pc a) ↔ pc b ≤ pc a := nI_leI (by omega) (by omega)
  have l2 : nI (pc a) = nI (pc b) ↔ pc a = pc b := nI_eq (by omega) (by omega)
  have l3 : nI b ≤ nI a ↔ b ≤ a := nI_leI (by omega) (by omega)
  by_cases h1 : pc b ≤ pc a
  · rw [if_pos (l1.mpr h1)]
    by_cases h2 : pc a = pc b
    · rw [if_pos (l2.mpr h2), if_neg (by decide), if_pos rfl]
      by_cases h3 : b ≤ a
      · rw [if_pos (l3.mpr h3)]
        exact ⟨fun _ => by omega, fun _ => rfl⟩
      · rw [if_neg (fun e => h3 (l3.mp e))]
        exact ⟨fun h => absurd h (by decide), fun h => absurd (Or.inr ⟨h2, by omega⟩) h⟩
    · rw [if_neg (fun e => h2 (l2.mp e)), if_neg (by decide), if_neg (by decide)]
      exact ⟨fun _ => by omega, fun _ => rfl⟩
  · rw [if_neg (fun e => h1 (l1.mp e)), if_pos (by decide)]
    exact ⟨fun h => absurd h (by decide), fun h => absurd (Or.inl (by omega)) h⟩
/-- the TESTS that fail for row r -/
noncomputable def flM (σ : Mem) (f : FS) (fr r : Nat) : Nat := msk (fun k => !hB σ fr (ft f k) r) f.2.length
theorem flM_lt {σ : Mem} {f : FS} {fr r : Nat} : flM σ f fr r < 2 ^ f.2.length := msk_lt _ _
theorem flM_c {σ σ' : Mem} (h : ∀ k, k < 16 → σ' k = σ k) : flM σ' = flM σ := by
  funext f fr r
  unfold flM
  rw [hB_c h]
theorem fail8 {x : Mem} (hW : WF x) {f : FS} (hf : hF x f) {fr : Nat} (hs : SF x f fr) (hC : HC x) {r : Nat} (hr : r < nt (x 3 fr)) : ∃ x', F_X1_testsFailing x (nI r) = some (nI (flM x f fr r), x') ∧ sameH x x' ∧ HC x' := by
  obtain ⟨hfr, e3, hl, -, -, hT⟩ := id hs
  have hT4 := tabs_le hW.1
  have hfr4 : fr < 4 := by omega
  obtain ⟨hR20, hR⟩ := rows_le hW.1 hfr4
  obtain ⟨x', vs', hrr, h1, h2, h3⟩ := Rch.loop0 (B := B_X1_testsFailing) (h := 5) (x := x) (vs := [nI r, nI (msk (fun k => !hB x fr (ft f k) r) 0), nI 0]) (fun i y vs => vs = [nI r, nI (msk (fun k => !hB x fr (ft f k) r) i), nI i] ∧ sameH x y ∧ HC y) f.2.length ⟨rfl, sameH.rf, hC⟩ (fun i hi y vs hI => by
    obtain ⟨rfl, hS, hCy⟩ := hI
    have hfy := sameH_hF hS hf
    have hWy := WF_c hS.lo hW
    obtain ⟨y', g1, g2, g3⟩ := hold8 hWy hfy (fr := fr) (by rw [SF_c hS.lo]; exact hs) hCy hi
    rw [hB_c hS.lo, hS 3 (by decide)] at g1
    refine ⟨y', _, Rch.one (p' := 5) (x' := y') (vs' := [nI r, nI (msk (fun k => !hB x fr (ft f k) r) (i + 1)), nI (i + 1)]) (by decide) ?_, rfl, hS.tr g2, g3⟩
    show B_X1_testsFailing_5 y _ _ _ = _
    unfold B_X1_testsFailing_5 F_X2_tests
    rw [hfy.2.1, if_neg (nI_ge hi (by omega)), g1, bind_some', hbm (by omega) (by omega), decide_eq_true hr, Bool.true_and, nI_1]
    by_cases hb : hB x fr (ft f i) r = true
    · rw [hb, if_neg (show ¬ b01 true = 0 by decide), no_bit (p := fun k => !hB x fr (ft f k) r) (n := i) (by simp [hb])]
    · have hb' : hB x fr (ft f i) r = false := by simpa using hb
      rw [hb', if_pos (show b01 false = 0 by decide), or_bit (p := fun k => !hB x fr (ft f k) r) (by omega) (by simp [hb'])])
  refine ⟨x', fin_M (Rch.tr (Rch.one (p' := 5) (x' := x) (vs' := [nI r, nI (msk (fun k => !hB x fr (ft f k) r) 0), nI 0]) (by decide) rfl) (Rch.tr hrr ?_)), h2, h3⟩
  rw [h1]
  refine Rch.one (by decide) ?_
  show B_X1_testsFailing_5 x' _ _ _ = _
  unfold B_X1_testsFailing_5 F_X2_tests
  rw [(sameH_hF h2 hf).2.1, if_pos (nI_le (Nat.le_refl _) (by omega))]
  rfl
theorem len24 {f : FS} (h : f.2.length ≤ 8) : 2 ^ f.2.length ≤ 256 := Nat.pow_le_pow_right (n := 2) (by decide) h
theorem way8 {x : Mem} (hW : WF x) {f : FS} (hf : hF x f) {fr : Nat} (hs : SF x f fr) (hC : HC x) : ∃ v x', F_X1_testsInTheWay x = some (v, x') ∧ sameH x x' ∧ HC x' ∧ ((nt (x 3 fr) = 0 ∧ v = -5) ∨ ∃ b r, v = nI b ∧ r < nt (x 3 fr) ∧ b = flM x f fr r ∧ ∀ r', r' < nt (x 3 fr) → ¬ lt2 (flM x f fr r') b) := by
  obtain ⟨hfr, e3, hl, -, -, hT⟩ := id hs
  have hT4 := tabs_le hW.1
  have hfr4 : fr < 4 := by omega
  obtain ⟨hR20, hR⟩ := rows_le hW.1 hfr4
  have hlt : ∀ r, flM x f fr r < 256 := fun r => Nat.lt_of_lt_of_le flM_lt (len24 hl)
  have ro : ∀ y, sameH x y → F_X6_rowsOf y (F_X2_from y) = some (nI (nt (x 3 fr))) := fun y hS => by
    unfold F_X6_rowsOf
    rw [show F_X2_from y = nI fr from ((sameH_hF hS hf).1 3 (by decide)).trans e3, ld_at hfr4 (by decide), bind_some', hS 3 (by decide)]
    exact congrArg some hR
  obtain ⟨x', vs', hrr, ⟨v, h1, h4⟩, h2, h3⟩ := Rch.loop0 (B := B_X1_testsInTheWay) (h := 5) (x := x) (vs := [-5, nI 0]) (fun i y vs => (∃ v, vs = [v, nI i] ∧ ((i = 0 ∧ v = -5) ∨ ∃ b r, v = nI b ∧ r < i ∧ b = flM x f fr r ∧ ∀ r', r' < i → ¬ lt2 (flM x f fr r') b)) ∧ sameH x y ∧ HC y) (nt (x 3 fr)) ⟨⟨-5, rfl, Or.inl ⟨rfl, rfl⟩⟩, sameH.rf, hC⟩ (fun i hi y vs hI => by
    obtain ⟨⟨v, rfl, hv⟩, hS, hCy⟩ := hI
    have hfy := sameH_hF hS hf
    have hWy := WF_c hS.lo hW
    obtain ⟨y', g1, g2, g3⟩ := fail8 hWy hfy (fr := fr) (by rw [SF_c hS.lo]; exact hs) hCy (r := i) (by rw [hS 3 (by decide)]; exact hi)
    rw [flM_c hS.lo] at g1
    have irr : ∀ a, ¬ lt2 a a := fun a h => by unfold lt2 at h; omega
    rcases hv with ⟨rfl, rfl⟩ | ⟨b, r, rfl, hr, hb, hmin⟩
    · refine ⟨y', _, Rch.one (p' := 5) (x' := y') (vs' := [nI (flM x f fr 0), nI (0 + 1)]) (by decide) ?_, ⟨_, rfl, Or.inr ⟨_, 0, rfl, by omega, rfl, fun r' hr' => ?_⟩⟩, hS.tr g2, g3⟩
      · show B_X1_testsInTheWay_5 y _ _ = _
        unfold B_X1_testsInTheWay_5
        rw [ro y hS, bind_some', if_neg (nI_ge hi (by omega)), g1, bind_some', if_pos rfl, nI_1]
      · rw [show r' = 0 by omega]; exact irr _
    · have hb256 : b < 256 := by rw [hb]; exact hlt r
      have n5 : ¬ nI b = (-5 : Int32) := fun e => by
        have := nI_pos (n := b) (by omega)
        rw [e] at this
        exact this (by decide)
      have hls := lesser8 (a := flM x f fr i) (b := b) (by have := hlt i; omega) (by omega)
      by_cases hl2 : lt2 (flM x f fr i) b
      · refine ⟨y', _, Rch.one (p' := 5) (x' := y') (vs' := [nI (flM x f fr i), nI (i + 1)]) (by decide) ?_, ⟨_, rfl, Or.inr ⟨_, i, rfl, by omega, rfl, fun r' hr' => ?_⟩⟩, hS.tr g2, g3⟩
        · show B_X1_testsInTheWay_5 y _ _ = _
          unfold B_X1_testsInTheWay_5
          rw [ro y hS, bind_some', if_neg (nI_ge hi (by omega)), g1, bind_some', if_neg n5, if_neg (fun e => hls.mp e hl2), nI_1]
        · by_cases e : r' = i
          · rw [e]; exact irr _
          · have := hmin r' (by omega)
            unfold lt2 at this hl2 ⊢
            omega
      · refine ⟨y', _, Rch.one (p' := 5) (x' := y') (vs' := [nI b, nI (i + 1)]) (by decide) ?_, ⟨_, rfl, Or.inr ⟨b, r, rfl, by omega, hb, fun r' hr' => ?_⟩⟩, hS.tr g2, g3⟩
        · show B_X1_testsInTheWay_5 y _ _ = _
          unfold B_X1_testsInTheWay_5
          rw [ro y hS, bind_some', if_neg (nI_ge hi (by omega)), g1, bind_some', if_neg n5, if_pos (hls.mpr hl2), nI_1]
        · by_cases e : r' = i
          · rw [e]; exact hl2
          · exact hmin r' (by omega))
  refine ⟨v, x', fin_M (Rch.tr (Rch.one (p' := 5) (x' := x) (vs' := [-5, nI 0]) (by decide) rfl) (Rch.tr hrr ?_)), h2, h3, h4⟩
  rw [h1]
  refine Rch.one (by decide) ?_
  show B_X1_testsInTheWay_5 x' _ _ = _
  unfold B_X1_testsInTheWay_5
  rw [ro x' h2, bind_some', if_pos (nI_le (Nat.le_refl _) (by omega))]
def Adm (σ : Mem) (f : FS) (fr N : Nat) : Prop := ∃ r, r < nt (σ 3 fr) ∧ fBm σ f fr N r = true
theorem cnt35 {y : Mem} {n : Nat} (hn : n ≤ 8) (y32 : y 0 32 = nI n) (v fw : Int32) {N : Nat} (hN : N < 256) : Rch B_X9_why 35 y [v, fw, nI N, nI 0, nI 0] 35 y [v, fw, nI N, nI (fb_ct (fun i => N.testBit i) n), nI n] := by
  obtain ⟨x', vs', hr, h1, h2⟩ := Rch.loop0 (B := B_X9_why) (h := 35) (x := y) (vs := [v, fw, nI N, nI 0, nI 0]) (fun i x vs => vs = [v, fw, nI N, nI (fb_ct (fun i => N.testBit i) i), nI i] ∧ x = y) n ⟨rfl, rfl⟩ (fun i hi x vs hI => by
    obtain ⟨rfl, rfl⟩ := hI
    refine ⟨_, _, Rch.one (p' := 35) (x' := x) (vs' := [v, fw, nI N, nI (fb_ct (fun i => N.testBit i) (i + 1)), nI (i + 1)]) (by decide) ?_, rfl, rfl⟩
    show B_X9_why_35 x _ _ _ _ _ = _
    unfold B_X9_why_35
    rw [y32, if_neg (nI_ge hi (by omega)), bitN (by omega) (by omega), nI_add, nI_1, bind_some', fb_ct_succ, tB]
    rcases Nat.mod_two_eq_zero_or_one (N / 2 ^ i) with h | h
    · rw [h]; rfl
    · rw [h]; rfl)
  rw [h1, h2] at hr
  exact hr
theorem why9 {σ y : Mem} (hW : WFt σ) (hE : EQt σ y) {f : FS} {c fr : Nat} (hm : hM2 y f c) (hs : SF σ f fr) : ∃ v, Rch B_X9_why 18 y [-5, 0, 0] 99999 y [v] ∧ ((v = -5 ∧ ∀ N, N < 2 ^ f.2.length → ¬ Adm σ f fr N) ∨ ∃ b, b < 2 ^ f.2.length ∧ v = nI b ∧ Adm σ f fr b ∧ ∀ N, N < 2 ^ f.2.length → Adm σ f fr N → ¬ lt2 N b) := by
  have hl := hs.2.2.1
  have h256 := len24 hl
  have y32 : y 0 32 = nI f.2.length := hm.2.2.2.2.1
  have hfr4 : fr < 4 := by have := tabs_le hW; have := hs.1; omega
  have hR20 := (rows_le hW hfr4).1
  obtain ⟨x', vs', hr, hx, v, fw, hv, hI⟩ := Rch.loop0 (B := B_X9_why) (h := 18) (x := y) (vs := [-5, 0, nI 0]) (fun i x vs => x = y ∧ ∃ v fw, vs = [v, fw, nI i] ∧ ((v = -5 ∧ ∀ N, N < i → ¬ Adm σ f fr N) ∨ ∃ b, b < i ∧ v = nI b ∧ fw = nI (pc b) ∧ Adm σ f fr b ∧ ∀ N, N < i → Adm σ f fr N → ¬ lt2 N b)) (2 ^ f.2.length) ⟨rfl, -5, 0, rfl, Or.inl ⟨rfl, fun N h => by omega⟩⟩ (fun i hi x vs hI => by
    obtain ⟨rfl, v, fw, rfl, hI⟩ := hI
    have h1 : Rch B_X9_why 18 x [v, fw, nI i] 35 x [v, fw, nI i, nI (pc i), nI f.2.length] := by
      refine Rch.tr (Rch.one (p' := 35) (x' := x) (vs' := [v, fw, nI i, nI 0, nI 0]) (by decide) ?_) ?_
      · show B_X9_why_18 x _ _ _ = _
        unfold B_X9_why_18
        rw [y32, sh1 (by omega), if_neg (nI_ge hi (by omega))]
        rfl
      · have := cnt35 (y := x) hl y32 v fw (N := i) (by omega)
        rw [pc_len hi (by omega)] at this
        exact this
    have hp24 : pc i ≤ 24 := fb_ct_le _ _
    have hct : fb_ct (fBm σ f fr i) (nt (σ 3 fr)) ≤ nt (σ 3 fr) := fb_ct_le _ _
    have hB : B_X9_why 35 x [v, fw, nI i, nI (pc i), nI f.2.length] = if nI (fb_ct (fBm σ f fr i) (nt (σ 3 fr))) ≤ 0 then some (18, x, [v, fw, nI (i + 1)]) else if v < 0 then some (18, x, [nI i, nI (pc i), nI (i + 1)]) else if fw ≤ nI (pc i) then some (18, x, [v, fw, nI (i + 1)]) else some (18, x, [nI i, nI (pc i), nI (i + 1)]) := by
      show B_X9_why_35 x _ _ _ _ _ = _
      unfold B_X9_why_35
      rw [y32, if_pos (nI_le (Nat.le_refl _) (by omega)), many9 hW hE hm hs (by omega), bind_some', nI_1]
    have adm : Adm σ f fr i ↔ 0 < fb_ct (fBm σ f fr i) (nt (σ 3 fr)) := by
      rw [fb_ct_pos]; rfl
    by_cases ha : Adm σ f fr i
    · have hn0 : ¬ nI (fb_ct (fBm σ f fr i) (nt (σ 3 fr))) ≤ 0 := nI_nle (adm.mp ha) (by omega)
      rw [if_neg hn0] at hB
      rcases hI with ⟨rfl, hno⟩ | ⟨b, hb, rfl, rfl, hab, hmin⟩
      · rw [if_pos (by decide)] at hB
        refine ⟨x, _, h1.tr (Rch.one (by decide) hB), rfl, _, _, rfl, Or.inr ⟨i, by omega, rfl, rfl, ha, fun N hN hA => ?_⟩⟩
        by_cases e : N = i
        · rw [e]; unfold lt2; omega
        · exact absurd hA (hno N (by omega))
      · rw [if_neg (nI_pos (by omega))] at hB
        have hpb : pc b ≤ 24 := fb_ct_le _ _
        by_cases hle : nI (pc b) ≤ nI (pc i)
        · rw [if_pos hle] at hB
          rw [nI_leI (by omega) (by omega)] at hle
          refine ⟨x, _, h1.tr (Rch.one (by decide) hB), rfl, _, _, rfl, Or.inr ⟨b, by omega, rfl, rfl, hab, fun N hN hA => ?_⟩⟩
          by_cases e : N = i
          · rw [e]; unfold lt2; omega
          · exact hmin N (by omega) hA
        · rw [if_neg hle] at hB
          rw [nI_leI (by omega) (by omega)] at hle
          refine ⟨x, _, h1.tr (Rch.one (by decide) hB), rfl, _, _, rfl, Or.inr ⟨i, by omega, rfl, rfl, ha, fun N hN hA => ?_⟩⟩
          by_cases e : N = i
          · rw [e]; unfold lt2; omega
          · have := hmin N (by omega) hA
            unfold lt2 at this ⊢
            omega
    · have hz : fb_ct (fBm σ f fr i) (nt (σ 3 fr)) = 0 := by
        have : ¬ 0 < fb_ct (fBm σ f fr i) (nt (σ 3 fr)) := fun h => ha (adm.mpr h)
        omega
      rw [hz, if_pos (by decide)] at hB
      refine ⟨x, _, h1.tr (Rch.one (by decide) hB), rfl, _, _, rfl, ?_⟩
      rcases hI with ⟨rfl, hno⟩ | ⟨b, hb, rfl, rfl, hab, hmin⟩
      · refine Or.inl ⟨rfl, fun N hN hA => ?_⟩
        by_cases e : N = i
        · rw [e] at hA; exact ha hA
        · exact hno N (by omega) hA
      · refine Or.inr ⟨b, by omega, rfl, rfl, hab, fun N hN hA => ?_⟩
        by_cases e : N = i
        · rw [e] at hA; exact absurd hA ha
        · exact hmin N (by omega) hA)
  subst hx
  refine ⟨v, Rch.tr hr ?_, ?_⟩
  · rw [hv]
    refine Rch.one (by decide) ?_
    show B_X9_why_18 x' _ _ _ = _
    unfold B_X9_why_18
    rw [y32, sh1 (by omega), if_pos (nI_le (Nat.le_refl _) (by omega))]
  · rcases hI with h | ⟨b, hb, h2, -, h3, h4⟩
    · exact Or.inl h
    · exact Or.inr ⟨b, hb, h2, h3, h4⟩
theorem adm_fl {σ : Mem} {f : FS} {fr r : Nat} (hr : r < nt (σ 3 fr)) : Adm σ f fr (flM σ f fr r) := by
  refine ⟨r, hr, ?_⟩
  unfold fBm
  rw [al_iff]
  intro k hk
  unfold flM
  rw [msk_bit]
  cases h : hB σ fr (ft f k) r
  · simp [hk]
  · simp
theorem fl_sub {σ : Mem} {f : FS} {fr r N : Nat} (h : fBm σ f fr N r = true) : ∀ k, (flM σ f fr r).testBit k = true → N.testBit k = true := by
  intro k hk
  unfold fBm at h
  rw [al_iff] at h
  unfold flM at hk
  rw [msk_bit] at hk
  simp only [Bool.and_eq_true, decide_eq_true_eq, Bool.not_eq_true'] at hk
  have := h k hk.1
  rw [hk.2, Bool.or_false] at this
  exact this
theorem op_why {σ τ : Mem} (hW : WF σ) (hE : EQ σ τ) (hFR : FR σ) (hC : HC σ) (x : Int32) : ∃ r σ' τ', F_X8_why σ x = some (r, σ') ∧ F_X9_why τ x = some (r, τ') ∧ LK σ σ' ∧ sameS τ τ' := by
  obtain ⟨σ1, τ1, L1, S1, h⟩ := see hW hE hFR hC x
  rcases h with ⟨h8, h9⟩ | ⟨i, w, σ2, fr, rfl, hi, hw, h8, h9, k1, e2, L2, hf, hs, k2, hm, hdg⟩
  · refine ⟨-1, σ1, τ1, ?_, fin_M (Rch.one (by decide) ?_), L1, S1⟩
    · unfold F_X8_why
      rw [h8, bind_some', if_pos rfl]
    · show B_X9_why_0 τ x = _
      unfold B_X9_why_0
      rw [h9, bind_some', if_pos rfl]
  obtain ⟨v, σ3, r1, r2, r3, r4⟩ := way8 (WF_c L2.lo hW) hf (by rw [SF_c L2.lo]; exact hs) L2.2.2
  rw [flM_c L2.lo, L2.lo 3 (by decide)] at r4
  obtain ⟨v', g1, g2⟩ := why9 hW.1 (S1.EQ hE).1 hm hs
  have hvv : v = v' := by
    rcases r4 with ⟨hR0, rfl⟩ | ⟨b, r, rfl, hr, hb, hmin⟩
    · rcases g2 with ⟨rfl, -⟩ | ⟨b', -, -, ⟨r, hr, -⟩, -⟩
      · rfl
      · omega
    · rcases g2 with ⟨-, hno⟩ | ⟨b', hb', rfl, ⟨r0, hr0, hA⟩, hmin'⟩
      · exact absurd (adm_fl hr) (hno _ flM_lt)
      · have hsub := fl_sub hA
        have hle : flM σ (fm σ w) fr r0 ≤ b' := by
          have : flM σ (fm σ w) fr r0 &&& b' = flM σ (fm σ w) fr r0 := by
            apply Nat.eq_of_testBit_eq
            intro k
            rw [Nat.testBit_and]
            cases hk : (flM σ (fm σ w) fr r0).testBit k
            · rfl
            · rw [hsub k hk]; rfl
          have h2 := Nat.and_le_right (n := flM σ (fm σ w) fr r0) (m := b')
          omega
        have hpl : pc (flM σ (fm σ w) fr r0) ≤ pc b' := fb_ct_sub (fun k _ hk => hsub k hk)
        have m1 := hmin' _ flM_lt (adm_fl hr0)
        have m2 := hmin r0 hr0
        have m3 := hmin' b (by rw [hb]; exact flM_lt) (by rw [hb]; exact adm_fl hr)
        unfold lt2 at m1 m2 m3
        have e1 : flM σ (fm σ w) fr r0 = b' := by omega
        rw [e1] at m2
        rw [show b = b' by omega]
  refine ⟨v, σ3, τ1, ?_, fin_M (Rch.tr (Rch.one (p' := 18) (x' := τ1) (vs' := [-5, 0, 0]) (by decide) ?_) (by rw [hvv]; exact g1)), L2.h r2 r3, S1⟩
  · unfold F_X8_why
    rw [h8, bind_some', if_neg one_ne, e2, bind_some', r1, bind_some']
  · show B_X9_why_0 τ _ = _
    unfold B_X9_why_0
    rw [h9, bind_some', if_neg one_ne]
