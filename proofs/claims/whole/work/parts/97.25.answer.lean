/-! ANSWER -/
noncomputable def acc (σ : Mem) (fr c : Nat) (d : Int32) (q : Nat → Bool) : Nat → Int32
  | 0 => if d = 1 then 0 else -1000000
  | r + 1 => if q r = true ∧ σ 5 ((20 * fr + r) * 4 + c) ≠ -1000000 then F_X1_joined d (acc σ fr c d q r) (σ 5 ((20 * fr + r) * 4 + c)) else acc σ fr c d q r
theorem acc_s {σ : Mem} {fr c : Nat} {d : Int32} {q : Nat → Bool} {r : Nat} : acc σ fr c d q (r + 1) = if q r = true ∧ σ 5 ((20 * fr + r) * 4 + c) ≠ -1000000 then F_X1_joined d (acc σ fr c d q r) (σ 5 ((20 * fr + r) * 4 + c)) else acc σ fr c d q r := rfl
theorem acc_cong {σ : Mem} {fr c : Nat} {d : Int32} {p q : Nat → Bool} : ∀ n, (∀ r, r < n → p r = q r) → acc σ fr c d p n = acc σ fr c d q n
  | 0, _ => rfl
  | n + 1, h => by
    unfold acc
    rw [acc_cong n (fun r hr => h r (by omega)), h n (by omega)]
theorem acc_stop {σ : Mem} {fr c : Nat} {d : Int32} {q : Nat → Bool} {R : Nat} (h : ∀ r, R ≤ r → q r = false) : ∀ k, acc σ fr c d q (R + k) = acc σ fr c d q R
  | 0 => rfl
  | k + 1 => by
    show acc σ fr c d q (R + k + 1) = _
    unfold acc
    rw [if_neg (fun hh => by rw [h _ (by omega)] at hh; exact absurd hh.1 (by decide)), acc_stop h k]
    cases R <;> rfl
noncomputable def anS (σ : Mem) (f : FS) (fr : Nat) : Int32 := if f.1 1 = 0 then nI (fb_ct (fBm σ f fr 0) (nt (σ 3 fr))) else acc σ fr (nt (f.1 5)) (f.1 1) (fBm σ f fr 0) (nt (σ 3 fr))
theorem acc_c {σ σ' : Mem} (h : σ' 5 = σ 5) (fr c : Nat) (d : Int32) (q : Nat → Bool) : ∀ n, acc σ' fr c d q n = acc σ fr c d q n
  | 0 => rfl
  | n + 1 => by
    unfold acc
    rw [acc_c h fr c d q n, h]
theorem anS_c {σ σ' : Mem} (h : ∀ k, k < 16 → σ' k = σ k) : anS σ' = anS σ := by
  funext f fr
  unfold anS
  rw [fBm_c h, h 3 (by decide), acc_c (h 5 (by decide))]
theorem ans8 {x : Mem} (hW : WF x) {f : FS} (hf : hF x f) {fr : Nat} (hs : SF x f fr) (hC : HC x) : ∃ x', F_X1_answerOf x = some (anS x f fr, x') ∧ sameH x x' ∧ HC x' := by
  obtain ⟨x', h1, h2, h3⟩ := rows8 hW hf hs hC
  have hf' := sameH_hF h2 hf
  obtain ⟨hfr, e3, hl, ⟨d, hd, ed⟩, hw, hT⟩ := id hs
  have hT4 := tabs_le hW.1
  have hfr4 : fr < 4 := by omega
  obtain ⟨hR20, hR⟩ := rows_le hW.1 hfr4
  have e17 : F_X2_from x' = nI fr := (hf'.1 3 (by decide)).trans e3
  have e1 : F_X2_doing x' = f.1 1 := hf'.1 1 (by decide)
  have e5 : F_X2_wanted x' = f.1 5 := hf'.1 5 (by decide)
  refine ⟨x', ?_, h2, h3⟩
  unfold anS
  generalize nt (x 3 fr) = R at hR20 h1 ⊢
  generalize fBm x f fr 0 = q at h1 ⊢
  by_cases h0 : f.1 1 = 0
  · rw [if_pos h0]
    refine fin_M (Rch.one (by decide) ?_)
    show B_X1_answerOf_0 x = _
    unfold B_X1_answerOf_0
    rw [h1, bind_some', e1, if_pos h0, bc_msk (by omega)]
  rw [if_neg h0]
  obtain ⟨c, hc, ec⟩ := hw h0
  have hc4 := (cols_le hW.1 hfr4).1
  rw [ec, nt_nI (by omega)]
  have hq : acc x fr c (f.1 1) q R = acc x fr c (f.1 1) (fun r => decide (r < R) && q r) 20 := by
    rw [acc_cong (p := q) (q := fun r => decide (r < R) && q r) R (fun r hr => by simp [hr]), show (20 : Nat) = R + (20 - R) by omega, acc_stop (fun r hr => by simp; omega)]
  rw [hq]
  obtain ⟨y, vs', hr, hI1, hI2⟩ := Rch.loop0 (B := B_X1_answerOf) (h := 36) (x := x') (vs := [nI (msk q R), acc x fr c (f.1 1) (fun r => decide (r < R) && q r) 0, nI 0]) (fun i y vs => vs = [nI (msk q R), acc x fr c (f.1 1) (fun r => decide (r < R) && q r) i, nI i] ∧ y = x') 20 ⟨rfl, rfl⟩ (fun i hi y vs hI => by
    obtain ⟨rfl, rfl⟩ := hI
    refine ⟨_, _, Rch.one (p' := 36) (x' := y) (vs' := [nI (msk q R), acc x fr c (f.1 1) (fun r => decide (r < R) && q r) (i + 1), nI (i + 1)]) (by decide) ?_, rfl, rfl⟩
    show B_X1_answerOf_36 y _ _ _ = _
    unfold B_X1_answerOf_36
    rw [if_neg (show ¬ (20 : Int32) ≤ nI i from nI_ge (b := 20) hi (by decide)), hbm (by omega) (by omega), nI_1]
    by_cases hb : (decide (i < R) && q i) = true
    · rw [hb, if_neg (show ¬ b01 true = 0 by decide), e17, e5, ec, cell8 hfr4 (by omega) (by omega), bind_some', h2 5 (by decide), e1, acc_s]
      by_cases hv : x 5 ((20 * fr + i) * 4 + c) = -1000000
      · rw [if_pos hv, if_neg (fun hh => hh.2 hv)]
      · rw [if_neg hv, if_pos ⟨hb, hv⟩]
    · have hb' : (decide (i < R) && q i) = false := by simpa using hb
      rw [hb', if_pos (show b01 false = 0 by decide), if_pos rfl, acc_s, if_neg (fun hh => hb hh.1)])
  refine fin_M (Rch.tr (Rch.one (p' := 36) (x' := x') (vs' := [nI (msk q R), acc x fr c (f.1 1) (fun r => decide (r < R) && q r) 0, nI 0]) (by decide) ?_) (Rch.tr hr ?_))
  · show B_X1_answerOf_0 x = _
    unfold B_X1_answerOf_0
    rw [h1, bind_some', e1, if_neg h0]
    unfold acc
    by_cases hd1 : f.1 1 = 1
    · rw [if_pos hd1, if_pos hd1]; rfl
    · rw [if_neg hd1, if_neg hd1]; rfl
  · rw [hI1, hI2]
    refine Rch.one (by decide) ?_
    show B_X1_answerOf_36 x' _ _ _ = _
    unfold B_X1_answerOf_36
    rw [if_pos (by decide)]
theorem st9 (x1 x2 x3 x4 v : Int32) : (if x2 = (-1000000 : Int32) then
          if x3 = (-1000000 : Int32) then
            some (24, (), [(x1 + v), v, v, (x4 + (1 : Int32))])
          else
            if x3 ≤ v then
              some (24, (), [(x1 + v), v, x3, (x4 + (1 : Int32))])
            else
              some (24, (), [(x1 + v), v, v, (x4 + (1 : Int32))])
        else
          if v ≤ x2 then
            if x3 = (-1000000 : Int32) then
              some (24, (), [(x1 + v), x2, v, (x4 + (1 : Int32))])
            else
              if x3 ≤ v then
                some (24, (), [(x1 + v), x2, x3, (x4 + (1 : Int32))])
              else
                some (24, (), [(x1 + v), x2, v, (x4 + (1 : Int32))])
          else
            if x3 = (-1000000 : Int32) then
              some (24, (), [(x1 + v), v, v, (x4 + (1 : Int32))])
            else
              if x3 ≤ v then
                some (24, (), [(x1 + v), v, x3, (x4 + (1 : Int32))])
              else
                some (24, (), [(x1 + v), v, v, (x4 + (1 : Int32))])) = (some ((24 : Nat), (), [F_X1_joined 1 x1 v, F_X1_joined 2 x2 v, F_X1_joined 3 x3 v, x4 + 1]) : Option (Nat × Unit × List Int32)) := by
  have j1 : F_X1_joined 1 x1 v = x1 + v := by unfold F_X1_joined; rw [if_pos rfl]
  have j2 : F_X1_joined 2 x2 v = if x2 = -1000000 then v else if v ≤ x2 then x2 else v := by
    unfold F_X1_joined
    rw [if_neg (by decide), if_pos rfl]
    by_cases h : v ≤ x2
    · rw [if_neg (Int32.not_lt.mpr h), if_pos h]
    · rw [if_pos (Int32.not_le.mp h), if_neg h]
  have j3 : F_X1_joined 3 x3 v = if x3 = -1000000 then v else if x3 ≤ v then x3 else v := by
    unfold F_X1_joined
    rw [if_neg (by decide), if_neg (show ¬ (3 : Int32) = 2 by decide)]
    by_cases h : x3 ≤ v
    · rw [if_neg (Int32.not_lt.mpr h), if_pos h]
    · rw [if_pos (Int32.not_le.mp h), if_neg h]
  rw [j1, j2, j3]
  by_cases a : x2 = -1000000 <;> by_cases b : x3 = -1000000 <;> by_cases c : v ≤ x2 <;> by_cases e : x3 ≤ v <;> simp [a, b, c, e]
theorem ans9 {σ y : Mem} (hW : WFt σ) (hE : EQt σ y) {f : FS} {cc fr : Nat} (hm : hM2 y f cc) (hs : SF σ f fr) : F_X9_answerOf y = some (anS σ f fr) := by
  obtain ⟨hfr, e3, hl, ⟨d, hd, ed⟩, hw, hT⟩ := id hs
  have hT4 := tabs_le hW
  have hfr4 : fr < 4 := by omega
  obtain ⟨hR20, hR⟩ := rows_le hW hfr4
  have y24 : y 0 24 = f.1 1 := hm.1
  have y25 : y 0 25 = nI fr := hm.2.1.trans e3
  have y26 : y 0 26 = f.1 5 := hm.2.2.1
  have y2 : ld 4 (y 2) (nI fr) = some (nI (nt (σ 3 fr))) := by rw [ld_at hfr4 (by decide), hE.2.2.1 fr hfr4]; exact congrArg some hR
  unfold anS
  by_cases h0 : f.1 1 = 0
  · rw [if_pos h0]
    refine fin_R (Rch.one (by decide) ?_)
    show B_X9_answerOf_0 y = _
    unfold B_X9_answerOf_0
    rw [y24, if_pos h0, show (0 : Int32) = nI 0 from rfl, many9 hW hE hm hs (by decide), bind_some']
  rw [if_neg h0]
  obtain ⟨c, hc, ec⟩ := hw h0
  have hc4 := (cols_le hW hfr4).1
  rw [ec, nt_nI (by omega)]
  obtain ⟨z, vs', hr, hI⟩ := Rch.loop0 (B := B_X9_answerOf y) (h := 24) (x := ()) (vs := [acc σ fr c 1 (fBm σ f fr 0) 0, acc σ fr c 2 (fBm σ f fr 0) 0, acc σ fr c 3 (fBm σ f fr 0) 0, nI 0]) (fun i _ vs => vs = [acc σ fr c 1 (fBm σ f fr 0) i, acc σ fr c 2 (fBm σ f fr 0) i, acc σ fr c 3 (fBm σ f fr 0) i, nI i]) (nt (σ 3 fr)) rfl (fun i hi _ vs hv => by
    subst hv
    refine ⟨(), _, Rch.one (p' := 24) (x' := ()) (vs' := [acc σ fr c 1 (fBm σ f fr 0) (i + 1), acc σ fr c 2 (fBm σ f fr 0) (i + 1), acc σ fr c 3 (fBm σ f fr 0) (i + 1), nI (i + 1)]) (by decide) ?_, rfl⟩
    show B_X9_answerOf_24 y _ _ _ _ = _
    have hacc : ∀ d : Int32, acc σ fr c d (fBm σ f fr 0) (i + 1) = if fBm σ f fr 0 i = true ∧ σ 5 ((20 * fr + i) * 4 + c) ≠ -1000000 then F_X1_joined d (acc σ fr c d (fBm σ f fr 0) i) (σ 5 ((20 * fr + i) * 4 + c)) else acc σ fr c d (fBm σ f fr 0) i := fun _ => rfl
    unfold B_X9_answerOf_24
    rw [y25, y2, bind_some', if_neg (nI_ge hi (by omega)), y26, ec, vlo9 hW hE hfr4 hi (by omega), bind_some', show F_X9_isFound y (nI i) 0 = some (b01 (fBm σ f fr 0 i)) from found9 hW hE hm hs hi (N := 0) (by decide), bind_some', hacc, hacc, hacc]
    by_cases hb : fBm σ f fr 0 i = true
    · rw [hb, if_neg (show ¬ b01 true = 0 by decide)]
      rcases cel_ok hW hfr4 (show i < 20 by omega) (show c < 4 by omega) with hv | hv
      · rw [hv, mv_noth, if_pos rfl, if_neg (fun hh => hh.2 rfl), if_neg (fun hh => hh.2 rfl), if_neg (fun hh => hh.2 rfl), nI_1]
      · obtain ⟨n1, n2⟩ := small_ne hv
        have hp : true = true ∧ σ 5 ((20 * fr + i) * 4 + c) ≠ -1000000 := ⟨rfl, n1⟩
        rw [mv_sm hv, if_neg n2, if_pos hp, if_pos hp, if_pos hp, ← nI_1]
        exact st9 _ _ _ _ _
    · have hb' : fBm σ f fr 0 i = false := by simpa using hb
      rw [hb', if_pos (show b01 false = 0 by decide), if_neg (fun hh => absurd hh.1 (by decide)), if_neg (fun hh => absurd hh.1 (by decide)), if_neg (fun hh => absurd hh.1 (by decide)), nI_1])
  refine fin_R (Rch.tr (Rch.one (p' := 24) (x' := ()) (vs' := [acc σ fr c 1 (fBm σ f fr 0) 0, acc σ fr c 2 (fBm σ f fr 0) 0, acc σ fr c 3 (fBm σ f fr 0) 0, nI 0]) (by decide) ?_) (Rch.tr hr ?_))
  · show B_X9_answerOf_0 y = _
    unfold B_X9_answerOf_0
    rw [y24, if_neg h0]
    rfl
  · rw [hI]
    refine Rch.one (by decide) ?_
    show B_X9_answerOf_24 y _ _ _ _ = _
    unfold B_X9_answerOf_24
    rw [y25, y2, bind_some', if_pos (nI_le (Nat.le_refl _) (by omega)), y24]
    have hd4 : d = 0 ∨ d = 1 ∨ d = 2 ∨ d = 3 := by omega
    rcases hd4 with rfl | rfl | rfl | rfl
    · exact absurd ed h0
    · rw [ed]; rfl
    · rw [ed]; rfl
    · rw [ed]; rfl
