/-! found: the k-th row -/
noncomputable def fk (q : Nat → Bool) : Nat → Nat → Nat → Int32
  | 0, _, _ => -1
  | n + 1, r, k => if q r = true then (if k = 0 then nI r else fk q n (r + 1) (k - 1)) else fk q n (r + 1) k
theorem fk_out {q : Nat → Bool} : ∀ n r k, (∀ j, r ≤ j → q j = false) → fk q n r k = -1
  | 0, _, _, _ => rfl
  | n + 1, r, k, h => by
    unfold fk
    rw [h r (Nat.le_refl _), if_neg (by decide)]
    exact fk_out n (r + 1) k (fun j hj => h j (by omega))
theorem fk_eq {p q : Nat → Bool} {R : Nat} (h1 : ∀ j, j < R → p j = q j) (h2 : ∀ j, R ≤ j → p j = false) {m : Nat} : ∀ n r k, r + n = R → fk p (n + m) r k = fk q n r k
  | 0, r, k, hr => by
    rw [Nat.zero_add, fk_out m r k (fun j hj => h2 j (by omega))]
    rfl
  | n + 1, r, k, hr => by
    have ih := fun k => fk_eq h1 h2 (m := m) n (r + 1) k (by omega)
    rw [show n + 1 + m = (n + m) + 1 by omega]
    unfold fk
    rw [h1 r (by omega), ih, ih]
theorem fnd8 {y : Mem} {q : Nat → Bool} {R : Nat} (hR : R ≤ 20) : ∀ n r k, r + n = 20 → k < 2147483648 → Rch B_X8_found 39 y [nI (msk q R), nI k, nI r] 99999 y [fk (fun r => decide (r < R) && q r) n r k] := by
  intro n
  induction n with
  | zero =>
    intro r k hr hk
    refine Rch.one (by decide) ?_
    show B_X8_found_39 y _ _ _ = _
    unfold B_X8_found_39
    rw [if_pos (show (20 : Int32) ≤ nI r from nI_le (a := 20) (by omega) (by omega))]
    rfl
  | succ n ih =>
    intro r k hr hk
    have hb := hbm (p := q) (n := R) (r := r) (by omega) (by omega)
    unfold fk
    by_cases hq : (decide (r < R) && q r) = true
    · rw [if_pos hq]
      by_cases hk0 : k = 0
      · rw [if_pos hk0]
        subst hk0
        refine Rch.one (by decide) ?_
        show B_X8_found_39 y _ _ _ = _
        unfold B_X8_found_39
        rw [if_neg (show ¬ (20 : Int32) ≤ nI r from nI_ge (b := 20) (by omega) (by decide)), hb, hq, if_neg (show ¬ b01 true = 0 by decide), if_pos (show nI 0 = (0 : Int32) from rfl)]
      · rw [if_neg hk0]
        refine Rch.tr (Rch.one (p' := 39) (x' := y) (vs' := [nI (msk q R), nI (k - 1), nI (r + 1)]) (by decide) ?_) (ih (r + 1) (k - 1) (by omega) (by omega))
        show B_X8_found_39 y _ _ _ = _
        unfold B_X8_found_39
        rw [if_neg (show ¬ (20 : Int32) ≤ nI r from nI_ge (b := 20) (by omega) (by decide)), hb, hq, if_neg (show ¬ b01 true = 0 by decide), if_neg (nI_ne0 (by omega) hk), nI_1]
        obtain ⟨k', rfl⟩ : ∃ k', k = k' + 1 := ⟨k - 1, by omega⟩
        rw [pk_m1]
        rfl
    · rw [if_neg hq]
      refine Rch.tr (Rch.one (p' := 39) (x' := y) (vs' := [nI (msk q R), nI k, nI (r + 1)]) (by decide) ?_) (ih (r + 1) k (by omega) hk)
      show B_X8_found_39 y _ _ _ = _
      unfold B_X8_found_39
      rw [if_neg (show ¬ (20 : Int32) ≤ nI r from nI_ge (b := 20) (by omega) (by decide)), hb, show (decide (r < R) && q r) = false by simpa using hq, if_pos (show b01 false = 0 by decide), nI_1]
theorem fnd9 {σ y : Mem} (hW : WFt σ) (hE : EQt σ y) {f : FS} {c fr : Nat} (hm : hM2 y f c) (hs : SF σ f fr) : ∀ n r k, r + n = nt (σ 3 fr) → k < 2147483648 → Rch B_X9_found 19 y [nI k, nI r] 99999 y [fk (fBm σ f fr 0) n r k] := by
  have hfr4 : fr < 4 := by have := tabs_le hW; have := hs.1; omega
  obtain ⟨hR20, hR⟩ := rows_le hW hfr4
  have y25 : y 0 25 = nI fr := hm.2.1.trans hs.2.1
  have y2 : ld 4 (y 2) (nI fr) = some (nI (nt (σ 3 fr))) := by rw [ld_at hfr4 (by decide), hE.2.2.1 fr hfr4]; exact congrArg some hR
  intro n
  induction n with
  | zero =>
    intro r k hr hk
    refine Rch.one (by decide) ?_
    show B_X9_found_19 y _ _ = _
    unfold B_X9_found_19
    rw [y25, y2, bind_some', if_pos (nI_le (by omega) (by omega))]
    rfl
  | succ n ih =>
    intro r k hr hk
    have hb : F_X9_isFound y (nI r) 0 = some (b01 (fBm σ f fr 0 r)) := found9 hW hE hm hs (by omega) (N := 0) (by decide)
    unfold fk
    by_cases hq : fBm σ f fr 0 r = true
    · rw [if_pos hq]
      by_cases hk0 : k = 0
      · rw [if_pos hk0]
        subst hk0
        refine Rch.one (by decide) ?_
        show B_X9_found_19 y _ _ = _
        unfold B_X9_found_19
        rw [y25, y2, bind_some', if_neg (nI_ge (by omega) (by omega)), hb, bind_some', hq, if_neg (show ¬ b01 true = 0 by decide), if_pos (show nI 0 = (0 : Int32) from rfl)]
      · rw [if_neg hk0]
        refine Rch.tr (Rch.one (p' := 19) (x' := y) (vs' := [nI (k - 1), nI (r + 1)]) (by decide) ?_) (ih (r + 1) (k - 1) (by omega) (by omega))
        show B_X9_found_19 y _ _ = _
        unfold B_X9_found_19
        rw [y25, y2, bind_some', if_neg (nI_ge (by omega) (by omega)), hb, bind_some', hq, if_neg (show ¬ b01 true = 0 by decide), if_neg (nI_ne0 (by omega) hk), nI_1]
        obtain ⟨k', rfl⟩ : ∃ k', k = k' + 1 := ⟨k - 1, by omega⟩
        rw [pk_m1]
        rfl
    · rw [if_neg hq]
      refine Rch.tr (Rch.one (p' := 19) (x' := y) (vs' := [nI k, nI (r + 1)]) (by decide) ?_) (ih (r + 1) k (by omega) hk)
      show B_X9_found_19 y _ _ = _
      unfold B_X9_found_19
      rw [y25, y2, bind_some', if_neg (nI_ge (by omega) (by omega)), hb, bind_some', show fBm σ f fr 0 r = false by simpa using hq, if_pos (show b01 false = 0 by decide), nI_1]
theorem op_found {σ τ : Mem} (hW : WF σ) (hE : EQ σ τ) (hFR : FR σ) (hC : HC σ) (x z : Int32) : ∃ r σ' τ', F_X8_found σ x z = some (r, σ') ∧ F_X9_found τ x z = some (r, τ') ∧ LK σ σ' ∧ sameS τ τ' := by
  obtain ⟨σ1, τ1, L1, S1, h⟩ := see hW hE hFR hC x
  rcases h with ⟨h8, h9⟩ | ⟨i, w, σ2, fr, rfl, hi, hw, h8, h9, k1, e2, L2, hf, hs, k2, hm, hdg⟩
  · refine ⟨-1, σ1, τ1, fin_M (Rch.one (by decide) ?_), fin_M (Rch.one (by decide) ?_), L1, S1⟩
    · show B_X8_found_0 σ x z = _
      unfold B_X8_found_0
      rw [h8, bind_some', if_pos rfl]
    · show B_X9_found_0 τ x z = _
      unfold B_X9_found_0
      rw [h9, bind_some', if_pos rfl]
  by_cases hz : 0 ≤ z
  · obtain ⟨σ3, r1, r2, r3⟩ := rows8 (WF_c L2.lo hW) hf (by rw [SF_c L2.lo]; exact hs) L2.2.2
    rw [fBm_c L2.lo, L2.lo 3 (by decide)] at r1
    obtain ⟨k, hk, rfl⟩ := i_nn z (nneg.mp hz)
    have hR := (rows_le hW.1 (show fr < 4 by have := tabs_le hW.1; have := hs.1; omega)).1
    refine ⟨fk (fBm σ (fm σ w) fr 0) (nt (σ 3 fr)) 0 k, σ3, τ1, fin_M (Rch.tr (Rch.one (p' := 39) (x' := σ3) (vs' := [nI (msk (fBm σ (fm σ w) fr 0) (nt (σ 3 fr))), nI k, nI 0]) (by decide) ?_) ?_), fin_M (Rch.tr (Rch.one (p' := 19) (x' := τ1) (vs' := [nI k, nI 0]) (by decide) ?_) (fnd9 hW.1 (S1.EQ hE).1 hm hs (nt (σ 3 fr)) 0 k (by omega) hk)), L2.h r2 r3, S1⟩
    · show B_X8_found_0 σ _ _ = _
      unfold B_X8_found_0
      rw [h8, bind_some', if_neg one_ne, if_pos hz, e2, bind_some', r1, bind_some']
      rfl
    · have := fnd8 (y := σ3) (q := fBm σ (fm σ w) fr 0) hR 20 0 k (by decide) hk
      rw [show (20 : Nat) = nt (σ 3 fr) + (20 - nt (σ 3 fr)) by omega, fk_eq (q := fBm σ (fm σ w) fr 0) (R := nt (σ 3 fr)) (fun j hj => by simp [hj]) (fun j hj => by simp; omega) (nt (σ 3 fr)) 0 k (by omega)] at this
      exact this
    · show B_X9_found_0 τ _ _ = _
      unfold B_X9_found_0
      rw [h9, bind_some', if_neg one_ne, if_pos hz]
      rfl
  · refine ⟨-1, σ1, τ1, fin_M (Rch.one (by decide) ?_), fin_M (Rch.one (by decide) ?_), L1, S1⟩
    · show B_X8_found_0 σ _ _ = _
      unfold B_X8_found_0
      rw [h8, bind_some', if_neg one_ne, if_neg hz]
    · show B_X9_found_0 τ _ _ = _
      unfold B_X9_found_0
      rw [h9, bind_some', if_neg one_ne, if_neg hz]
