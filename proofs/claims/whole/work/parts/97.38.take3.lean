theorem op_take {σ τ : Mem} (hW : WF σ) (hE : EQ σ τ) (hFR : FR σ) (hC : HC σ) (x : Int32) : ∃ r σ' τ', F_X8_take σ x = some (r, σ') ∧ F_X9_take τ x = some (r, τ') ∧ ((LK σ σ' ∧ sameS τ τ') ∨ (WF σ' ∧ EQ σ' τ' ∧ rst σ σ')) := by
  obtain ⟨σ1, τ1, L1, S1, h⟩ := see hW hE hFR hC x
  rcases h with ⟨h8, h9⟩ | ⟨i, w, σ2, fr, rfl, hi, hw, h8, h9, k1, e2, L2, hf, hs, k2, hm, hdg⟩
  · refine ⟨-1, σ1, τ1, fin_M (Rch.one (by decide) ?_), fin_M (Rch.one (by decide) ?_), Or.inl ⟨L1, S1⟩⟩
    · show B_X8_take_0 σ x = _
      unfold B_X8_take_0
      rw [h8, bind_some', if_pos rfl]
    · show B_X9_take_0 τ x = _
      unfold B_X9_take_0
      rw [h9, bind_some', if_pos rfl]
  obtain ⟨x', a1, a2, a3⟩ := take8 hW L1.lo hi k1
  have hE1 := S1.EQ hE
  obtain ⟨y', b1, b2, b3⟩ := take9' hW hE1 hdg
  have o : ∀ j, j < 16 → j ≠ 12 → qcM x' j = σ j := fun j h1 h2 => by rw [qcM_k (by omega) (by omega) (by omega), a3 j h2, L1.lo j h1]
  have o12 : qcM x' 12 = tkC σ w (nt (σ 13 0)) := by rw [qcM_k (by decide) (by decide) (by decide), a2]
  have o1 := o 1 (by decide) (by decide)
  have o2 := o 2 (by decide) (by decide)
  have o7 := o 7 (by decide) (by decide)
  have o8 := o 8 (by decide) (by decide)
  have o9 := o 9 (by decide) (by decide)
  have o10 := o 10 (by decide) (by decide)
  have o11 := o 11 (by decide) (by decide)
  obtain ⟨hWt, hWw, hWl⟩ := id hW
  obtain ⟨v1, v2, v3, v4, v5, v6, v7⟩ := id hWw
  obtain ⟨hEt, hEw, hEl⟩ := id hE1
  obtain ⟨w1, w2, w3, w4, w5, w6⟩ := id hEw
  refine ⟨nI (tkN σ w (nt (σ 13 0))), qcM x', y', fin_M (Rch.tr (Rch.one (p' := 17) (x' := σ1) (vs' := [nI i, 0, 0]) (by decide) ?_) a1), fin_M (Rch.tr (Rch.one (p' := 14) (x' := τ1) (vs' := [0, 0]) (by decide) ?_) b1), Or.inr ⟨⟨?_, ?_, ?_⟩, ⟨?_, ?_, ?_⟩, ?_⟩⟩
  · show B_X8_take_0 σ _ = _
    unfold B_X8_take_0
    rw [h8, bind_some', if_neg one_ne]
  · show B_X9_take_0 τ _ = _
    unfold B_X9_take_0
    rw [h9, bind_some', if_neg one_ne]
  · exact hWt.cong o1 o2 (o 3 (by decide) (by decide)) (o 4 (by decide) (by decide)) (o 5 (by decide) (by decide))
  · refine ⟨by rw [o7]; exact v1, by rw [o8]; exact v2, by rw [o9]; exact v3, by rw [o10]; exact v4, by rw [o12]; exact tkC_ok hW _ (Nat.le_refl _), fun u q hu hq => ?_, by rw [o 6 (by decide) (by decide), o7]; exact v7⟩
    rw [o7] at hq
    have := v6 u q hu hq
    unfold okM at this ⊢
    rw [o1, o2, o8, o9, o10, o11]
    exact this
  · exact hWl.cong (o 13 (by decide) (by decide)) (o 14 (by decide) (by decide)) (o 15 (by decide) (by decide))
  · exact hEt.cong o1 o2 (o 3 (by decide) (by decide)) (o 4 (by decide) (by decide)) (o 5 (by decide) (by decide)) (by rw [b3 0 (by decide)]) (b3 1 (by decide)) (b3 2 (by decide)) (b3 3 (by decide)) (b3 4 (by decide))
  · exact ⟨by rw [b3 5 (by decide), o7]; exact w1, by rw [b3 6 (by decide), o8]; exact w2, by rw [b3 7 (by decide), o9]; exact w3, by rw [b3 8 (by decide), o10]; exact w4, by rw [b3 9 (by decide), o11]; exact w5, by rw [o12]; exact b2⟩
  · exact hEl.cong (o 13 (by decide) (by decide)) (o 14 (by decide) (by decide)) (o 15 (by decide) (by decide)) (by rw [b3 0 (by decide)]) (b3 11 (by decide)) (b3 12 (by decide))
  · obtain ⟨r1, r2, r3, r4, r5, r6⟩ := qcM_rst (σ := x') (σ' := qcM x') (fun _ _ => rfl)
    exact ⟨r1, r2, r3, r4.trans ((a3 30 (by decide)).trans (L1.1 30 (by omega))), r5.trans ((a3 31 (by decide)).trans (L1.1 31 (by omega))), r6.trans ((a3 32 (by decide)).trans (L1.1 32 (by omega)))⟩
/-! the words that don't look at the tables -/
theorem num_d {σ σ' : Mem} (h : ∀ k, 6 < k → k < 16 → σ' k = σ k) : num σ' = num σ := by unfold num; rw [h 14 (by decide) (by decide)]
theorem tk_d {σ σ' : Mem} (h : ∀ k, 6 < k → k < 16 → σ' k = σ k) : tk σ' = tk σ := by unfold tk; rw [h 15 (by decide) (by decide)]
theorem mny_d {σ σ' : Mem} (h : ∀ k, 6 < k → k < 16 → σ' k = σ k) : mny σ' = mny σ := by unfold mny; rw [h 7 (by decide) (by decide), tk_d h]
theorem sr_d {σ σ' : Mem} (h : ∀ k, 6 < k → k < 16 → σ' k = σ k) : sr σ' = sr σ := by unfold sr; rw [h 8 (by decide) (by decide), tk_d h]
theorem cs_d {σ σ' : Mem} (h : ∀ k, 6 < k → k < 16 → σ' k = σ k) : cs σ' = cs σ := by unfold cs; rw [h 12 (by decide) (by decide), tk_d h]
theorem alw_d {σ σ' : Mem} (h : ∀ k, 6 < k → k < 16 → σ' k = σ k) : alw σ' = alw σ := by
  unfold alw hasPrev numNext
  rw [num_d h, mny_d h, sr_d h, h 13 (by decide) (by decide)]
theorem kC_d {σ σ' : Mem} (h : ∀ k, 6 < k → k < 16 → σ' k = σ k) : kC σ' = kC σ := by
  funext p
  induction p with
  | zero => rfl
  | succ p ih => funext w; unfold kC; rw [ih, num_d h, cs_d h]
theorem key_d {σ σ' : Mem} (h : ∀ k, 6 < k → k < 16 → σ' k = σ k) : key σ' = key σ := by unfold key; rw [kC_d h]
theorem Lw_d {σ σ' : Mem} (h : ∀ k, 6 < k → k < 16 → σ' k = σ k) : Lw σ' = Lw σ := by
  funext p
  induction p with
  | zero => rfl
  | succ p ih => unfold Lw; rw [ih, alw_d h]
theorem fm_d {σ σ' : Mem} (h : ∀ k, 6 < k → k < 16 → σ' k = σ k) : fm σ' = fm σ := by
  have hs : ∀ m, stp σ' m = stp σ m := fun m => by
    unfold stp thanN numNext
    rw [num_d h, tk_d h, sr_d h, h 9 (by decide) (by decide), h 10 (by decide) (by decide), h 11 (by decide) (by decide), h 13 (by decide) (by decide), h 15 (by decide) (by decide)]
  have hn : ∀ m, fsN σ' m = fsN σ m := fun m => by
    funext p
    induction p with
    | zero => rfl
    | succ p ih => unfold fsN; rw [ih, hs]
  funext w
  unfold fm
  rw [hn, h 13 (by decide) (by decide)]
theorem tO_d {σ σ' : Mem} (h : ∀ k, 6 < k → k < 16 → σ' k = σ k) : tO σ' = tO σ := by
  funext o
  unfold tO
  rw [sr_d h, tk_d h, h 9 (by decide) (by decide), h 10 (by decide) (by decide), h 11 (by decide) (by decide), h 15 (by decide) (by decide)]
theorem Sd_d {σ σ' : Mem} (h : ∀ k, 6 < k → k < 16 → σ' k = σ k) (hs : ∀ w, w ∈ Lw σ (nt (σ 13 0)) → stS σ' (fm σ w) = stS σ (fm σ w)) : Sd σ' = Sd σ := by
  have hr : Rd σ' = Rd σ := by
    unfold Rd
    rw [Lw_d h, fm_d h, h 13 (by decide) (by decide)]
    exact List.filter_congr hs
  unfold Sd
  rw [hr, kC_d h, h 13 (by decide) (by decide)]
theorem FR_d {σ σ' : Mem} (h : ∀ k, 6 < k → k < 16 → σ' k = σ k) (hS : Sd σ' = Sd σ) (h16 : σ' 16 = σ 16) (h25 : σ' 25 = σ 25) (hF : FR σ) : FR σ' := by
  unfold FR
  rw [h16, h25, hS, key_d h, h 13 (by decide) (by decide)]
  exact hF
/-! REL -/
def REL (n : Nat) (σ τ : Mem) : Prop := WF σ ∧ EQ σ τ ∧ FR σ ∧ HC σ ∧ KN σ ∧ ∃ k, k ≤ 24 * n ∧ RK k σ
theorem REL_mono {n : Nat} {σ τ : Mem} (h : REL n σ τ) : REL (n + 1) σ τ := by
  obtain ⟨h1, h2, h3, h4, h5, k, h6, h7⟩ := h
  exact ⟨h1, h2, h3, h4, h5, k, by omega, h7⟩
theorem REL_rst {n : Nat} {σ τ σ' τ' : Mem} (h : REL n σ τ) (hW : WF σ') (hE : EQ σ' τ') (hr : rst σ σ') : REL (n + 1) σ' τ' := by
  obtain ⟨-, -, -, -, -, k, h6, h7⟩ := h
  obtain ⟨r1, r2, r3, r4, r5, r6⟩ := hr
  exact ⟨hW, hE, fun e => absurd r1 e, fun o fr ho hfr => Or.inl (r2 _ (by omega)), ⟨0, Nat.zero_le _, r3, fun i hi => absurd hi (by omega)⟩, k, by omega, RK_c r4 r6 h7⟩
theorem REL_rst2 {n : Nat} {σ τ σ' τ' : Mem} (h : REL n σ τ) (hW : WF σ') (hE : EQ σ' τ') (hr : rst2 σ σ') : REL (n + 1) σ' τ' := by
  obtain ⟨-, -, h3, -, -, k, h6, h7⟩ := h
  obtain ⟨r2, r3, r4, r5, r6, r7⟩ := hr
  have hd : ∀ k, 6 < k → k < 16 → σ' k = σ k := fun k a b => r7 k (by
    have : k = 7 ∨ k = 8 ∨ k = 9 ∨ k = 10 ∨ k = 11 ∨ k = 12 ∨ k = 13 ∨ k = 14 ∨ k = 15 := by omega
    rcases this with rfl | rfl | rfl | rfl | rfl | rfl | rfl | rfl | rfl <;> decide)
  have hS : Sd σ' = Sd σ := Sd_d hd (fun w _ => by
    unfold stS rchF lk
    rw [r7 2 (by decide), r7 4 (by decide)])
  exact ⟨hW, hE, FR_d hd hS (r7 16 (by decide)) (r7 25 (by decide)) h3, fun o fr ho hfr => Or.inl (r2 _ (by omega)), ⟨0, Nat.zero_le _, r3, fun i hi => absurd hi (by omega)⟩, k, by omega, RK_c r4 r6 h7⟩
theorem REL_tab {n : Nat} {σ τ τ' : Mem} {T : Nat} {x : Int32} (h : REL n σ τ) (hT : T < 4) (e1 : σ 1 0 = nI T) (hW' : WF (tabM σ T x)) (hE : EQ (tabM σ T x) τ') : REL (n + 1) (tabM σ T x) τ' := by
  obtain ⟨hW, -, h3, h4, ⟨K, k1, k2, k3⟩, k, h6, h7⟩ := h
  have o : ∀ j, j ≠ 1 → j ≠ 2 → tabM σ T x j = σ j := fun j a b => tabM_k a b
  have hd : ∀ k, 6 < k → k < 16 → tabM σ T x k = σ k := fun k a b => o k (by omega) (by omega)
  have nT : nt (σ 1 0) = T := by rw [e1, nt_nI (by omega)]
  have lkt : ∀ fr, fr < T → lk (tabM σ T x) fr = lk σ fr := fun fr hfr => by
    funext t
    unfold lk
    rw [o 4 (by decide) (by decide), tabM_2, upd_ne (by omega)]
  have hS : Sd (tabM σ T x) = Sd σ := Sd_d hd (fun w hw => by
    have hf := fm_from hW hw
    rw [nT] at hf
    generalize fm σ w = f at hf
    unfold stS
    rcases hf with hf | ⟨fr, hfr, ef⟩
    · rw [decide_eq_false (fun e => nneg.mp e hf)]
      simp
    · have : rchF (tabM σ T x) f = rchF σ f := by
        unfold rchF
        rw [ef, nt_nI (by omega), lkt fr hfr]
      rw [this])
  have hBt : ∀ fr, fr < T → hB (tabM σ T x) fr = hB σ fr := fun fr hfr => by
    funext t r
    unfold hB tv
    rw [lkt fr hfr, o 3 (by decide) (by decide), o 5 (by decide) (by decide)]
  have hat : ∀ fr, fr < T → ∀ f, anS (tabM σ T x) f fr = anS σ f fr := fun fr hfr f => by
    have : fBm (tabM σ T x) f fr 0 = fBm σ f fr 0 := by
      funext r
      unfold fBm
      rw [hBt fr hfr]
    unfold anS
    rw [this, o 3 (by decide) (by decide), acc_c (o 5 (by decide) (by decide))]
  refine ⟨hW', hE, FR_d hd hS (o 16 (by decide) (by decide)) (o 25 (by decide) (by decide)) h3, fun q fr hq hfr => ?_, ⟨K, by rw [hS]; exact k1, by rw [o 29 (by decide) (by decide)]; exact k2, fun i hi => ?_⟩, k, by omega, RK_c (o 30 (by decide) (by decide)) (o 32 (by decide) (by decide)) h7⟩
  · rw [o 28 (by decide) (by decide)]
    rcases h4 q fr hq hfr with h | ⟨ha, hb⟩
    · exact Or.inl h
    · rw [nT] at ha
      refine Or.inr ⟨?_, ?_⟩
      · rw [tabM_1, upd_eq, nt_nI (by omega)]; omega
      · rw [hBt fr ha, tO_d hd, o 3 (by decide) (by decide)]
        exact hb
  · rw [o 33 (by decide) (by decide), k3 i hi]
    obtain ⟨fr, hs⟩ := SF_of hW (Sd_Rd (List.mem_of_getElem? (wy_at (σ := σ) (i := i) (by omega))))
    have hfr := hs.1
    rw [nT] at hfr
    unfold aw an wy
    rw [hS, fm_d hd]
    show anS σ (fm σ (wy σ i)) (nt ((fm σ (wy σ i)).1 3)) = anS (tabM σ T x) (fm σ (wy σ i)) (nt ((fm σ (wy σ i)).1 3))
    rw [hs.2.1, nt_nI (by omega), hat fr hfr]
theorem REL_look {n : Nat} {σ τ σ' τ' : Mem} (h : REL n σ τ) (hL : LK σ σ') (hS : sameS τ τ') : REL (n + 1) σ' τ' := by
  obtain ⟨hW, hE, h3, h4, ⟨K, k1, k2, k3⟩, k, h6, h7⟩ := h
  have hl := hL.lo
  refine ⟨WF_c hl hW, ?_, hL.2.1, hL.2.2, ⟨K, by rw [Sd_c hl]; exact k1, by rw [hL.1 29 (by omega)]; exact k2, fun i hi => by rw [hL.1 33 (by omega), aw_c hl]; exact k3 i hi⟩, k, by omega, RK_c (hL.1 30 (by omega)) (hL.1 32 (by omega)) h7⟩
  have hE' := hS.EQ hE
  exact ⟨hE'.1.cong (hl 1 (by decide)) (hl 2 (by decide)) (hl 3 (by decide)) (hl 4 (by decide)) (hl 5 (by decide)) rfl rfl rfl rfl rfl, hE'.2.1.cong (hl 7 (by decide)) (hl 8 (by decide)) (hl 9 (by decide)) (hl 10 (by decide)) (hl 11 (by decide)) (hl 12 (by decide)) rfl rfl rfl rfl rfl rfl, hE'.2.2.cong (hl 13 (by decide)) (hl 14 (by decide)) (hl 15 (by decide)) rfl rfl rfl⟩
theorem REL_AS {n k : Nat} {σ τ σ' τ' : Mem} (h : REL n σ τ) (hk : k ≤ 24 * n) (hA : AS σ σ' k) (hS : sameS τ τ') : REL (n + 1) σ' τ' := by
  obtain ⟨hW, hE, -, -, -, -⟩ := h
  obtain ⟨hl, h1, h2, h3, k', h4, h5⟩ := hA
  refine ⟨WF_c hl hW, ?_, h1, h2, h3, k', by omega, h5⟩
  have hE' := hS.EQ hE
  exact ⟨hE'.1.cong (hl 1 (by decide)) (hl 2 (by decide)) (hl 3 (by decide)) (hl 4 (by decide)) (hl 5 (by decide)) rfl rfl rfl rfl rfl, hE'.2.1.cong (hl 7 (by decide)) (hl 8 (by decide)) (hl 9 (by decide)) (hl 10 (by decide)) (hl 11 (by decide)) (hl 12 (by decide)) rfl rfl rfl rfl rfl rfl, hE'.2.2.cong (hl 13 (by decide)) (hl 14 (by decide)) (hl 15 (by decide)) rfl rfl rfl⟩
