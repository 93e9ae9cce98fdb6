/-! unlike, back of the reference -/
theorem mwa9 {σ y : Mem} (hW : WF σ) (hP : y 0 13 = nI (nt (σ 13 0))) {i p : Nat} (hi : i < (Sd σ).length) (h13 : y 13 i = nI (wy σ i)) (hw : wy σ i < 6561) (hp : p < nt (σ 13 0)) : F_X9_meaningAt y (nI i) (nI p) = some (nI (dg (nt (σ 13 0)) (wy σ i) p)) := by
  have hl := Sd_6561 hW
  have hP8 := (P_le hW).1
  have key : ∀ m k w, k = p + m → k < 8 → w < 6561 → Rch (B_X9_meaningAt y) 15 () [nI p, nI w, nI k] 99999 () [nI (w / 3 ^ m % 3)] := by
    intro m
    induction m with
    | zero =>
      intro k w hk hk8 hw
      refine Rch.one (by decide) ?_
      show B_X9_meaningAt_15 y _ _ _ = _
      unfold B_X9_meaningAt_15
      rw [if_pos (nI_le (by omega) (by omega)), show nI w - nI w / (3 : Int32) * (3 : Int32) = nI (w % 3) from pk_rem (d := 3) (by omega) (by decide) (by decide), Nat.pow_zero, Nat.div_one]
    | succ m ih =>
      intro k w hk hk8 hw
      have := ih (k - 1) (w / 3) (by omega) (by omega) (by omega)
      rw [Nat.div_div_eq_div_mul, Nat.mul_comm, ← Nat.pow_succ] at this
      refine Rch.tr (Rch.one (p' := 15) (x' := ()) (vs' := [nI p, nI (w / 3), nI (k - 1)]) (by decide) ?_) this
      show B_X9_meaningAt_15 y _ _ _ = _
      unfold B_X9_meaningAt_15
      obtain ⟨k', rfl⟩ : ∃ k', k = k' + 1 := ⟨k - 1, by omega⟩
      rw [if_neg (nI_ge (by omega) (by omega)), show nI w / (3 : Int32) = nI (w / 3) from pk_div (d := 3) (by omega) (by decide) (by decide), pk_m1]
      rfl
  refine fin_R (Rch.tr (Rch.one (p' := 15) (x' := ()) (vs' := [nI p, nI (wy σ i), nI (nt (σ 13 0) - 1)]) (by decide) ?_) ?_)
  · show B_X9_meaningAt_0 y _ _ = _
    unfold B_X9_meaningAt_0
    rw [ld_at (by omega) (by decide), bind_some', h13, hP, i1, pk_sub (by omega)]
  · have := key (nt (σ 13 0) - 1 - p) (nt (σ 13 0) - 1) (wy σ i) (by omega) (by omega) hw
    exact this
/-- isMet after i of the chosen: the first ones of their answers -/
def MT (σ y : Mem) (sel : Nat → Bool) (n i : Nat) : Prop := ∀ l, l < n → (y 20 l = 0 ∨ y 20 l = 1) ∧ ((∀ l', l' < l → aw σ l' ≠ aw σ l) → (y 20 l ≠ 0 ↔ sS sel (aw σ) i (aw σ l) = true))
theorem unl9 {σ y : Mem} (hW : WF σ) {n : Nat} (hn : n ≤ (Sd σ).length) (hLO : LO σ y n) {sel : Nat → Bool} (p m : Int32) (hsel : ∀ z, (∀ k, k ≠ 20 → z k = y k) → ∀ i, i < n → (p < 0 ∧ sel i = true) ∨ (¬ p < 0 ∧ ∃ v, F_X9_meaningAt z (nI i) p = some v ∧ (v = m ↔ sel i = true))) : ∃ y', F_X9_unlike y (nI n) p m = some (nI (uc sel (aw σ) n), y') ∧ ∀ k, k ≠ 20 → y' k = y k := by
  have hl := Sd_6561 hW
  have nar0 : vp_nar .boolean (0 : Int32) = 0 := by decide
  have nar1 : vp_nar .boolean (1 : Int32) = 1 := by decide
  obtain ⟨y1, vs1, hr1, a1, a2, a3⟩ := Rch.loop0 (B := B_X9_unlike) (h := 6) (x := y) (vs := [nI n, p, m, 0, nI 0]) (fun i z vs => vs = [nI n, p, m, 0, nI i] ∧ (∀ k, k ≠ 20 → z k = y k) ∧ ∀ l, l < i → z 20 l = 0) n ⟨rfl, fun _ _ => rfl, fun l h => by omega⟩ (fun i hi z vs hI => by
    obtain ⟨rfl, q1, q2⟩ := hI
    refine ⟨st z 20 i 0, _, Rch.one (p' := 6) (vs' := [nI n, p, m, 0, nI (i + 1)]) (by decide) ?_, rfl, fun k hk => by rw [st_ne hk]; exact q1 k hk, fun l hl2 => ?_⟩
    · show B_X9_unlike_6 z _ _ _ _ _ = _
      unfold B_X9_unlike_6
      rw [if_neg (nI_ge hi (by omega)), nar0, sto_at (by omega) (by decide), bind_some', nI_1]
    · rw [st_eq]
      by_cases e : l = i
      · rw [e, upd_eq]
      · rw [upd_ne e]; exact q2 l (by omega))
  rw [a1] at hr1
  obtain ⟨y2, vs2, hr2, b1, b2, b3⟩ := Rch.loop0 (B := B_X9_unlike) (h := 29) (x := y1) (vs := [nI n, p, m, nI (uc sel (aw σ) 0), nI 0]) (fun i z vs => vs = [nI n, p, m, nI (uc sel (aw σ) i), nI i] ∧ (∀ k, k ≠ 20 → z k = y k) ∧ MT σ z sel n i) n ⟨rfl, a2, fun l hl2 => ⟨Or.inl (a3 l hl2), fun _ => ⟨fun h => absurd (a3 l hl2) h, fun h => absurd h (by rw [sS_0]; simp)⟩⟩⟩ (fun i hi z vs hI => by
    obtain ⟨rfl, q1, q2⟩ := hI
    obtain ⟨l, hli, e19, eaw, hfirst⟩ := hLO i hi
    have hln : l < n := by omega
    obtain ⟨q3, q4⟩ := q2 l hln
    have q5 := q4 (fun l' hl' => by rw [eaw]; exact hfirst l' hl')
    rw [eaw] at q5
    have z19 : ld 6561 (z 19) (nI i) = some (nI l) := by rw [ld_at (by omega) (by decide), q1 19 (by decide), e19]
    -- chosen
    have chosen : sel i = true → MT σ (st z 20 l 1) sel n (i + 1) := fun hs l2 hl2 => by
      rw [st_eq]
      by_cases e : l2 = l
      · rw [e, upd_eq]
        refine ⟨Or.inr rfl, fun _ => ⟨fun _ => ?_, fun _ => by decide⟩⟩
        rw [sS_s, hs, eaw]
        simp
      · rw [upd_ne e]
        refine ⟨(q2 l2 hl2).1, fun hf => ?_⟩
        rw [(q2 l2 hl2).2 hf, sS_s, hs, Bool.true_and, Bool.or_eq_true, decide_eq_true_eq]
        refine ⟨Or.inl, fun h => h.resolve_right (fun h2 => ?_)⟩
        by_cases hlt : l < l2
        · exact hf l hlt (eaw.trans h2)
        · exact hfirst l2 (by omega) h2.symm
    have skip : sel i = false → MT σ z sel n (i + 1) := fun hs l2 hl2 => by
      refine ⟨(q2 l2 hl2).1, fun hf => ?_⟩
      rw [(q2 l2 hl2).2 hf, sS_s, hs]
      simp
    have l20 : ld 6561 (z 20) (nI l) = some (z 20 l) := ld_at (by omega) (by decide)
    have s20 : sto 6561 20 z (nI l) (1 : Int32) = some (st z 20 l 1) := sto_at (by omega) (by decide)
    have S' : ∀ k, k ≠ 20 → st z 20 l 1 k = y k := fun k hk => by rw [st_ne hk]; exact q1 k hk
    have cnt : sel i = true → ((z 20 l = 0 → nI (uc sel (aw σ) i) + 1 = nI (uc sel (aw σ) (i + 1))) ∧ (¬ z 20 l = 0 → nI (uc sel (aw σ) i) + 0 = nI (uc sel (aw σ) (i + 1)))) := fun hs => by
      constructor
      · intro h0
        have : sS sel (aw σ) i (aw σ i) = false := by
          cases h : sS sel (aw σ) i (aw σ i)
          · rfl
          · exact absurd h0 (q5.mpr h)
        rw [nI_1, uc_s, hs, this]
        rfl
      · intro h0
        have := q5.mp h0
        rw [uc_s, hs, this, i0, nI_add]
        rfl
    have body : sel i = true → ((ld 6561 (z 19) (nI i)).bind fun v3 => (ld 6561 (z 20) v3).bind fun v5 => if v5 = (0 : Int32) then (ld 6561 (z 19) (nI i)).bind fun v8 => (sto 6561 20 z v8 (vp_nar .boolean (1 : Int32))).bind fun σ10 => some (29, σ10, [nI n, p, m, (nI (uc sel (aw σ) i) + (1 : Int32)), (nI i + (1 : Int32))]) else (ld 6561 (z 19) (nI i)).bind fun v12 => (sto 6561 20 z v12 (vp_nar .boolean (1 : Int32))).bind fun σ14 => some (29, σ14, [nI n, p, m, (nI (uc sel (aw σ) i) + (0 : Int32)), (nI i + (1 : Int32))])) = some ((29 : Nat), st z 20 l 1, [nI n, p, m, nI (uc sel (aw σ) (i + 1)), nI (i + 1)]) := fun hs => by
      rw [z19, bind_some', l20, bind_some', bind_some', bind_some', nar1, s20, bind_some', bind_some', nI_1 i]
      by_cases h0 : z 20 l = 0
      · rw [if_pos h0, (cnt hs).1 h0]
      · rw [if_neg h0, (cnt hs).2 h0]
    rcases hsel z q1 i hi with ⟨hp, hs⟩ | ⟨hp, v, hv, hvm⟩
    · refine ⟨st z 20 l 1, _, Rch.one (p' := 29) (vs' := [nI n, p, m, nI (uc sel (aw σ) (i + 1)), nI (i + 1)]) (by decide) ?_, rfl, S', chosen hs⟩
      show B_X9_unlike_29 z _ _ _ _ _ = _
      unfold B_X9_unlike_29
      rw [if_neg (nI_ge hi (by omega)), if_pos hp]
      exact body hs
    · by_cases hs : sel i = true
      · refine ⟨st z 20 l 1, _, Rch.one (p' := 29) (vs' := [nI n, p, m, nI (uc sel (aw σ) (i + 1)), nI (i + 1)]) (by decide) ?_, rfl, S', chosen hs⟩
        show B_X9_unlike_29 z _ _ _ _ _ = _
        unfold B_X9_unlike_29
        rw [if_neg (nI_ge hi (by omega)), if_neg hp, hv, bind_some', if_pos (hvm.mpr hs)]
        exact body hs
      · have hs' : sel i = false := by simpa using hs
        refine ⟨z, _, Rch.one (p' := 29) (vs' := [nI n, p, m, nI (uc sel (aw σ) (i + 1)), nI (i + 1)]) (by decide) ?_, rfl, q1, skip hs'⟩
        show B_X9_unlike_29 z _ _ _ _ _ = _
        unfold B_X9_unlike_29
        rw [if_neg (nI_ge hi (by omega)), if_neg hp, hv, bind_some', if_neg (fun e => hs (hvm.mp e)), nI_1, uc_s, hs']
        rfl)
  rw [b1] at hr2
  refine ⟨y2, fin_M (Rch.tr (Rch.one (p' := 6) (x' := y) (vs' := [nI n, p, m, 0, nI 0]) (by decide) rfl) (hr1.tr (Rch.tr (Rch.one (p' := 29) (x' := y1) (vs' := [nI n, p, m, nI (uc sel (aw σ) 0), nI 0]) (by decide) ?_) (hr2.tr (Rch.one (by decide) ?_))))), b2⟩
  · show B_X9_unlike_6 y1 _ _ _ _ _ = _
    unfold B_X9_unlike_6
    rw [if_pos (nI_le (Nat.le_refl _) (by omega))]
    rfl
  · show B_X9_unlike_29 y2 _ _ _ _ _ = _
    unfold B_X9_unlike_29
    rw [if_pos (nI_le (Nat.le_refl _) (by omega))]
