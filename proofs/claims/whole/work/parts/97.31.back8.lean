/-! BACK, the class -/
def mw (σ : Mem) (p i : Nat) : Int32 := if num σ p = true then -1 else nI (dg (nt (σ 13 0)) (wy σ i) p)
theorem mwa8 {σ x : Mem} (hW : WF σ) (hC : CS σ x) {i p : Nat} (hi : i < (Sd σ).length) (hp : p < nt (σ 13 0)) : F_X5_meaningAt x (nI i) (nI p) = some (mw σ p i) := by
  have hl := Sd_6561 hW
  exact mean8 hW hC.1 (by omega) (hC.2.2.2 i hi) hp
def pa (σ : Mem) (p n : Nat) : Bool := !al (fun i => decide (mw σ p i = mw σ p 0)) n
theorem parts8 {σ x : Mem} (hW : WF σ) (hC : CS σ x) {p n : Nat} (hp : p < nt (σ 13 0)) (hn : n ≤ (Sd σ).length) : F_X0_parts x (nI p) (nI n) = some (b01 (pa σ p n)) := by
  have hl := Sd_6561 hW
  have key : ∀ m i, i + m = n → 1 ≤ i → al (fun i => decide (mw σ p i = mw σ p 0)) i = true → Rch (B_X0_parts x) 2 () [nI p, nI n, nI i] 99999 () [b01 (pa σ p n)] := by
    intro m
    induction m with
    | zero =>
      intro i hi h1 ha
      have : i = n := by omega
      subst this
      refine Rch.one (by decide) ?_
      show B_X0_parts_2 x _ _ _ = _
      unfold B_X0_parts_2 pa
      rw [if_pos (nI_le (Nat.le_refl _) (by omega)), ha]
      rfl
    | succ m ih =>
      intro i hi h1 ha
      by_cases e : mw σ p i = mw σ p 0
      · refine Rch.tr (Rch.one (p' := 2) (x' := ()) (vs' := [nI p, nI n, nI (i + 1)]) (by decide) ?_) (ih (i + 1) (by omega) (by omega) ?_)
        · show B_X0_parts_2 x _ _ _ = _
          unfold B_X0_parts_2
          rw [if_neg (nI_ge (by omega) (by omega)), mwa8 hW hC (by omega) hp, bind_some', show F_X5_meaningAt x 0 (nI p) = some (mw σ p 0) from mwa8 hW hC (i := 0) (by omega) hp, bind_some', if_pos e, nI_1]
        · show (al _ i && decide (mw σ p i = mw σ p 0)) = true
          rw [ha, decide_eq_true e]
          rfl
      · have hpa : pa σ p n = true := by
          unfold pa
          cases h : al (fun i => decide (mw σ p i = mw σ p 0)) n
          · rfl
          · have := (al_iff n).mp h i (by omega)
            exact absurd (of_decide_eq_true this) e
        refine Rch.one (by decide) ?_
        show B_X0_parts_2 x _ _ _ = _
        unfold B_X0_parts_2
        rw [if_neg (nI_ge (by omega) (by omega)), mwa8 hW hC (by omega) hp, bind_some', show F_X5_meaningAt x 0 (nI p) = some (mw σ p 0) from mwa8 hW hC (i := 0) (by omega) hp, bind_some', if_neg e, hpa]
        rfl
  refine fin_R (Rch.tr (Rch.one (p' := 2) (x' := ()) (vs' := [nI p, nI n, nI 1]) (by decide) rfl) ?_)
  by_cases h0 : n = 0
  · subst h0
    refine Rch.one (by decide) ?_
    show B_X0_parts_2 x _ _ _ = _
    unfold B_X0_parts_2
    rw [if_pos (by decide)]
    rfl
  · refine key (n - 1) 1 (by omega) (Nat.le_refl _) ?_
    show (al _ 0 && decide (mw σ p 0 = mw σ p 0)) = true
    simp [al]
def sl (σ : Mem) (p m i : Nat) : Bool := decide (mw σ p i = nI m)
noncomputable def Wst (σ : Mem) (p n : Nat) : Nat → Nat
  | 0 => 0
  | m + 1 => max (Wst σ p n m) (uc (sl σ p m) (aw σ) n)
theorem Wst_le {σ : Mem} {p n : Nat} : ∀ m, Wst σ p n m ≤ n
  | 0 => Nat.zero_le _
  | m + 1 => Nat.max_le.mpr ⟨Wst_le m, uc_le⟩
theorem max_i {a b : Nat} (ha : a < 2147483648) (hb : b < 2147483648) : (if nI a < nI b then nI b else nI a) = nI (max a b) := by
  by_cases h : a < b
  · rw [if_pos (nI_lt h hb), Nat.max_eq_right (by omega)]
  · rw [if_neg (nI_nlt (by omega) ha), Nat.max_eq_left (by omega)]
theorem worst8 {σ x : Mem} (hW : WF σ) (hC : CS σ x) {p n K k : Nat} (hp : p < nt (σ 13 0)) (hA : KA σ x K) (hn : n ≤ K) (hR : RK k x) (hk : k < 100000) : ∃ x', F_X0_worstAt x (nI p) (nI n) = some (nI (Wst σ p n 3), x') ∧ (∀ j, j ≠ 30 → j ≠ 31 → j ≠ 32 → x' j = x j) ∧ RK (k + 3) x' := by
  have hl := Sd_6561 hW
  have hK := hA.1
  have hP8 := (P_le hW).1
  have cs : ∀ y : Mem, (∀ j, j ≠ 30 → j ≠ 31 → j ≠ 32 → y j = x j) → CS σ y := fun y h => hC.k (fun j hj => h j (by omega) (by omega) (by omega))
  obtain ⟨x', vs', hr, g1, g2, g3⟩ := Rch.loop0 (B := B_X0_worstAt) (h := 5) (x := x) (vs := [nI p, nI n, nI (Wst σ p n 0), nI 0]) (fun m y vs => vs = [nI p, nI n, nI (Wst σ p n m), nI m] ∧ (∀ j, j ≠ 30 → j ≠ 31 → j ≠ 32 → y j = x j) ∧ RK (k + m) y) 3 ⟨rfl, fun _ _ _ _ => rfl, hR⟩ (fun m hm y vs hI => by
    obtain ⟨rfl, h1, h2⟩ := hI
    obtain ⟨y1, e1, e2, e3, e4⟩ := empty8 h2 (by omega)
    obtain ⟨z, vs2, hr2, q1, q2, q3, q4⟩ := Rch.loop0 (B := B_X0_worstAt) (h := 21) (x := y1) (vs := [nI p, nI n, nI (Wst σ p n m), nI m, nI 0]) (fun i z vs => vs = [nI p, nI n, nI (Wst σ p n m), nI m, nI i] ∧ (∀ j, j ≠ 30 → j ≠ 31 → j ≠ 32 → z j = x j) ∧ RK (k + m + 1) z ∧ NS z (uc (sl σ p m) (aw σ) i) (sS (sl σ p m) (aw σ) i)) n ⟨rfl, fun j a b c => (e2 j a).trans (h1 j a b c), e3, e4⟩ (fun i hi z vs hI => by
      obtain ⟨rfl, i1, i2, i3⟩ := hI
      have hu := uc_le (sel := sl σ p m) (a := aw σ) (n := i)
      have hmw := mwa8 hW (cs z i1) (i := i) (p := p) (by omega) hp
      by_cases hs : mw σ p i = nI m
      · obtain ⟨z', w1, w2, w3, w4⟩ := add8 i3 (by omega) i2 (aw σ i)
        refine ⟨z', _, Rch.one (p' := 21) (x' := z') (vs' := [nI p, nI n, nI (Wst σ p n m), nI m, nI (i + 1)]) (by decide) ?_, rfl, fun j a b c => (w2 j a b c).trans (i1 j a b c), w3, NS_step rfl (decide_eq_true hs) w4⟩
        show B_X0_worstAt_21 z _ _ _ _ _ = _
        unfold B_X0_worstAt_21
        rw [if_neg (nI_ge hi (by omega)), hmw, bind_some', if_pos hs, ld_at (by omega) (by decide), bind_some', i1 33 (by decide) (by decide) (by decide), hA.2.2 i (by omega), w1, bind_some', nI_1]
      · refine ⟨z, _, Rch.one (p' := 21) (x' := z) (vs' := [nI p, nI n, nI (Wst σ p n m), nI m, nI (i + 1)]) (by decide) ?_, rfl, i1, i2, NS_skip (decide_eq_false hs) i3⟩
        show B_X0_worstAt_21 z _ _ _ _ _ = _
        unfold B_X0_worstAt_21
        rw [if_neg (nI_ge hi (by omega)), hmw, bind_some', if_neg hs, nI_1])
    refine ⟨z, _, Rch.tr (Rch.one (p' := 21) (x' := y1) (vs' := [nI p, nI n, nI (Wst σ p n m), nI m, nI 0]) (by decide) ?_) (Rch.tr hr2 (Rch.one (p' := 5) (x' := z) (vs' := [nI p, nI n, nI (Wst σ p n (m + 1)), nI (m + 1)]) (by decide) ?_)), rfl, q2, q3⟩
    · show B_X0_worstAt_5 y _ _ _ _ = _
      unfold B_X0_worstAt_5
      rw [if_neg (show ¬ (3 : Int32) ≤ nI m from nI_ge (b := 3) hm (by decide)), e1, bind_some']
      rfl
    · rw [q1]
      show B_X0_worstAt_21 z _ _ _ _ _ = _
      unfold B_X0_worstAt_21 F_X4_size
      have hu := uc_le (sel := sl σ p m) (a := aw σ) (n := n)
      have hw := Wst_le (σ := σ) (p := p) (n := n) m
      rw [if_pos (nI_le (Nat.le_refl _) (by omega)), q4.1, max_i (by omega) (by omega), bind_some', nI_1]
      rfl)
  refine ⟨x', fin_M (Rch.tr (Rch.one (p' := 5) (x' := x) (vs' := [nI p, nI n, nI (Wst σ p n 0), nI 0]) (by decide) rfl) (Rch.tr hr ?_)), g2, g3⟩
  rw [g1]
  refine Rch.one (by decide) ?_
  show B_X0_worstAt_5 x' _ _ _ _ = _
  unfold B_X0_worstAt_5
  rw [if_pos (by decide)]
/-- the best place among the first p ones -/
noncomputable def bst (σ : Mem) (n : Nat) : Nat → Option (Nat × Nat)
  | 0 => none
  | p + 1 => if pa σ p n = true then (match bst σ n p with
    | none => some (p, Wst σ p n 3)
    | some q => if Wst σ p n 3 < q.2 then some (p, Wst σ p n 3) else some q) else bst σ n p
def bB (o : Option (Nat × Nat)) : Int32 := match o with
  | none => -5
  | some q => nI q.1
def bL (o : Option (Nat × Nat)) : Int32 := match o with
  | none => 6562
  | some q => nI q.2
theorem bst_le {σ : Mem} {n : Nat} : ∀ p q, bst σ n p = some q → q.1 < p ∧ q.2 ≤ n
  | 0, q, h => by unfold bst at h; exact absurd h (by simp)
  | p + 1, q, h => by
    have ih := bst_le (σ := σ) (n := n) p
    have hw := Wst_le (σ := σ) (p := p) (n := n) 3
    unfold bst at h
    by_cases hp : pa σ p n = true
    · rw [if_pos hp] at h
      cases hb : bst σ n p with
      | none =>
        rw [hb] at h
        have := Option.some.inj h
        subst this
        exact ⟨by dsimp only; omega, hw⟩
      | some q' =>
        rw [hb] at h
        dsimp only at h
        by_cases hl : Wst σ p n 3 < q'.2
        · rw [if_pos hl] at h
          have := Option.some.inj h
          subst this
          exact ⟨by dsimp only; omega, hw⟩
        · rw [if_neg hl] at h
          have := Option.some.inj h
          subst this
          have := ih q' hb
          exact ⟨by omega, this.2⟩
    · rw [if_neg hp] at h
      have := ih q h
      exact ⟨by omega, this.2⟩
theorem place8 {σ x : Mem} (hW : WF σ) (hC : CS σ x) {n K k : Nat} (hA : KA σ x K) (hn : n ≤ K) (hR : RK k x) (hk : k < 50000) : ∃ x' k', F_X0_placeToAsk x (nI n) = some (bB (bst σ n (nt (σ 13 0))), x') ∧ (∀ j, j ≠ 30 → j ≠ 31 → j ≠ 32 → x' j = x j) ∧ k' ≤ k + 24 ∧ RK k' x' := by
  have hl := Sd_6561 hW
  have hK := hA.1
  have hP := P_le hW
  have cs : ∀ y : Mem, (∀ j, j ≠ 30 → j ≠ 31 → j ≠ 32 → y j = x j) → CS σ y := fun y h => hC.k (fun j hj => h j (by omega) (by omega) (by omega))
  have ka : ∀ y : Mem, (∀ j, j ≠ 30 → j ≠ 31 → j ≠ 32 → y j = x j) → KA σ y K := fun y h => ⟨hK, by rw [h 29 (by decide) (by decide) (by decide)]; exact hA.2.1, fun i hi => by rw [h 33 (by decide) (by decide) (by decide)]; exact hA.2.2 i hi⟩
  have sz : ∀ y : Mem, (∀ j, j ≠ 30 → j ≠ 31 → j ≠ 32 → y j = x j) → F_X3_size y = nI (nt (σ 13 0)) := fun y h => by
    unfold F_X3_size
    rw [(cs y h).1 13 (by decide)]
    exact hP.2
  obtain ⟨x', vs', hr, g1, g2, k', g3, g4⟩ := Rch.loop0 (B := B_X0_placeToAsk) (h := 10) (x := x) (vs := [nI n, bB (bst σ n 0), bL (bst σ n 0), nI 0]) (fun p y vs => vs = [nI n, bB (bst σ n p), bL (bst σ n p), nI p] ∧ (∀ j, j ≠ 30 → j ≠ 31 → j ≠ 32 → y j = x j) ∧ ∃ k', k' ≤ k + 3 * p ∧ RK k' y) (nt (σ 13 0)) ⟨rfl, fun _ _ _ _ => rfl, k, by omega, hR⟩ (fun p hp y vs hI => by
    obtain ⟨rfl, h1, k', h2, h3⟩ := hI
    have hpt := parts8 hW (cs y h1) hp (show n ≤ (Sd σ).length by omega)
    by_cases hpa : pa σ p n = true
    · obtain ⟨y', w1, w2, w3⟩ := worst8 hW (cs y h1) hp (ka y h1) hn h3 (by omega)
      have hw := Wst_le (σ := σ) (p := p) (n := n) 3
      refine ⟨y', _, Rch.one (p' := 10) (x' := y') (vs' := [nI n, bB (bst σ n (p + 1)), bL (bst σ n (p + 1)), nI (p + 1)]) (by decide) ?_, rfl, fun j a b c => (w2 j a b c).trans (h1 j a b c), k' + 3, by omega, w3⟩
      show B_X0_placeToAsk_10 y _ _ _ _ = _
      unfold B_X0_placeToAsk_10
      rw [sz y h1, if_neg (nI_ge hp (by omega)), hpt, bind_some', hpa, if_neg (show ¬ b01 true = 0 by decide), w1, bind_some', nI_1]
      dsimp only
      conv => rhs; unfold bst
      rw [if_pos hpa]
      cases hb : bst σ n p with
      | none =>
        rw [if_neg (show ¬ bL none ≤ nI (Wst σ p n 3) from nI_ge (b := 6562) (by omega) (by decide))]
        rfl
      | some q =>
        have hq := bst_le p q hb
        dsimp only
        by_cases hlt : Wst σ p n 3 < q.2
        · rw [if_pos hlt, if_neg (show ¬ bL (some q) ≤ nI (Wst σ p n 3) from nI_ge hlt (by omega))]
          rfl
        · rw [if_neg hlt, if_pos (show bL (some q) ≤ nI (Wst σ p n 3) from nI_le (by omega) (by omega))]
    · have hpa' : pa σ p n = false := by simpa using hpa
      refine ⟨y, _, Rch.one (p' := 10) (x' := y) (vs' := [nI n, bB (bst σ n (p + 1)), bL (bst σ n (p + 1)), nI (p + 1)]) (by decide) ?_, rfl, h1, k', by omega, h3⟩
      show B_X0_placeToAsk_10 y _ _ _ _ = _
      unfold B_X0_placeToAsk_10
      rw [sz y h1, if_neg (nI_ge hp (by omega)), hpt, bind_some', hpa', if_pos (show b01 false = 0 by decide), if_pos (Int32.le_refl _), nI_1]
      conv => rhs; unfold bst
      rw [if_neg hpa])
  refine ⟨x', k', fin_M (Rch.tr (Rch.one (p' := 10) (x' := x) (vs' := [nI n, bB (bst σ n 0), bL (bst σ n 0), nI 0]) (by decide) rfl) (Rch.tr hr ?_)), g2, by omega, g4⟩
  rw [g1]
  refine Rch.one (by decide) ?_
  show B_X0_placeToAsk_10 x' _ _ _ _ = _
  unfold B_X0_placeToAsk_10
  rw [sz x' g2, if_pos (nI_le (Nat.le_refl _) (by omega))]
