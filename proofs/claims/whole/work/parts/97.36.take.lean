/-! take -/
def nw (t m : Nat) (v : Int32) : Int32 := if m = t then (if v - 1 < 0 then 0 else v - 1) else (if 99 < v + 1 then 99 else v + 1)
def lrnC (C : Nat → Int32) (w t : Nat) : Nat → Nat → Int32
  | 0 => C
  | m + 1 => upd (lrnC C w t m) (3 * w + m) (nw t m (lrnC C w t m (3 * w + m)))
def lrnN (C : Nat → Int32) (w t : Nat) : Nat → Nat
  | 0 => 0
  | m + 1 => lrnN C w t m + (if nw t m (lrnC C w t m (3 * w + m)) = lrnC C w t m (3 * w + m) then 0 else 1)
def okC (C : Nat → Int32) : Prop := ∀ j, j < 120 → ∃ q, q ≤ 99 ∧ C j = nI q
theorem nw_ok {t m q : Nat} (hq : q ≤ 99) : ∃ q', q' ≤ 99 ∧ nw t m (nI q) = nI q' := by
  unfold nw
  by_cases h : m = t
  · rw [if_pos h]
    by_cases h0 : q = 0
    · subst h0; exact ⟨0, by decide, rfl⟩
    · obtain ⟨r, rfl⟩ : ∃ r, q = r + 1 := ⟨q - 1, by omega⟩
      rw [nI_pred, if_neg (nI_pos (by omega))]
      exact ⟨r, by omega, rfl⟩
  · rw [if_neg h, nI_1]
    by_cases h9 : q = 99
    · subst h9; exact ⟨99, by decide, rfl⟩
    · rw [if_neg (show ¬ (99 : Int32) < nI (q + 1) from fun e => by
        have := (nI_ltI (a := 99) (by decide) (by omega)).mp e
        omega)]
      exact ⟨q + 1, by omega, rfl⟩
theorem lrn_ok {C : Nat → Int32} {w t : Nat} (hC : okC C) (hw : w < 40) : ∀ m, m ≤ 3 → okC (lrnC C w t m)
  | 0, _ => hC
  | m + 1, hm => by
    have ih := lrn_ok (t := t) hC hw m (by omega)
    intro j hj
    unfold lrnC
    by_cases e : j = 3 * w + m
    · rw [e, upd_eq]
      obtain ⟨q, hq, eq⟩ := ih (3 * w + m) (by omega)
      rw [eq]
      exact nw_ok hq
    · rw [upd_ne e]; exact ih j hj
theorem lrnN_le {C : Nat → Int32} {w t : Nat} : ∀ m, lrnN C w t m ≤ m
  | 0 => Nat.le_refl _
  | m + 1 => by
    have := lrnN_le (C := C) (w := w) (t := t) m
    unfold lrnN
    split <;> omega
theorem learn7 {x : Mem} {w t k : Nat} (hw : w < 40) (hk : k ≤ 3) (h7 : x 7 w = nI k) (ht : t < 3) : ∃ x', F_X7_learn x (nI w) (nI t) = some (nI (lrnN (x 12) w t k), x') ∧ x' 12 = lrnC (x 12) w t k ∧ ∀ j, j ≠ 12 → x' j = x j := by
  obtain ⟨x', vs', hr, g1, g2, g3⟩ := Rch.loop0 (B := B_X7_learn) (h := 5) (x := x) (vs := [nI w, nI t, nI 0, nI 0]) (fun m y vs => vs = [nI w, nI t, nI (lrnN (x 12) w t m), nI m] ∧ y 12 = lrnC (x 12) w t m ∧ ∀ j, j ≠ 12 → y j = x j) k ⟨rfl, rfl, fun _ _ => rfl⟩ (fun m hm y vs hI => by
    obtain ⟨rfl, q1, q2⟩ := hI
    refine ⟨st y 12 (3 * w + m) (nw t m (y 12 (3 * w + m))), _, Rch.one (p' := 5) (vs' := [nI w, nI t, nI (lrnN (x 12) w t (m + 1)), nI (m + 1)]) (by decide) ?_, rfl, by rw [st_eq, q1]; rfl, fun j hj => by rw [st_ne hj]; exact q2 j hj⟩
    show B_X7_learn_5 y _ _ _ _ = _
    unfold B_X7_learn_5
    rw [ld_at hw (by decide), bind_some', q2 7 (by decide), h7, if_neg (nI_ge hm (by omega)), spot8, ld_at (by omega) (by decide), bind_some']
    have en : lrnN (x 12) w t (m + 1) = lrnN (x 12) w t m + (if nw t m (lrnC (x 12) w t m (3 * w + m)) = lrnC (x 12) w t m (3 * w + m) then 0 else 1) := rfl
    rw [← q1] at en
    by_cases hmt : m = t
    · have e1 : nw t m (y 12 (3 * w + m)) = (if y 12 (3 * w + m) - 1 < 0 then 0 else y 12 (3 * w + m) - 1) := by unfold nw; rw [if_pos hmt]
      rw [← e1, if_pos (by rw [hmt]), sto_at (by omega) (by decide), bind_some', st_eq, ld_at (by omega) (by decide), bind_some', upd_eq, en, nI_1, nI_1]
      by_cases hh : nw t m (y 12 (3 * w + m)) = y 12 (3 * w + m)
      · rw [if_pos hh, if_pos hh]; rfl
      · rw [if_neg hh, if_neg hh]
    · have e1 : nw t m (y 12 (3 * w + m)) = (if 99 < y 12 (3 * w + m) + 1 then 99 else y 12 (3 * w + m) + 1) := by unfold nw; rw [if_neg hmt]
      rw [← e1, if_neg (fun e => hmt (nI_inj (by omega) (by omega) e)), sto_at (by omega) (by decide), bind_some', st_eq, ld_at (by omega) (by decide), bind_some', upd_eq, en, nI_1, nI_1]
      by_cases hh : nw t m (y 12 (3 * w + m)) = y 12 (3 * w + m)
      · rw [if_pos hh, if_pos hh]; rfl
      · rw [if_neg hh, if_neg hh])
  rw [g1] at hr
  refine ⟨x', fin_M (Rch.tr (Rch.one (p' := 5) (x' := x) (vs' := [nI w, nI t, nI 0, nI 0]) (by decide) rfl) (hr.tr (Rch.one (by decide) ?_))), g2, g3⟩
  show B_X7_learn_5 x' _ _ _ _ = _
  unfold B_X7_learn_5
  rw [ld_at hw (by decide), bind_some', g3 7 (by decide), h7, if_pos (nI_le (Nat.le_refl _) (by omega))]
/-- the first place of its word -/
def ag (σ : Mem) (p i : Nat) : Bool := al (fun q => !(!num σ q && decide (σ 15 q = σ 15 p))) i
def fst1 (σ : Mem) (p : Nat) : Bool := !num σ p && ag σ p p
theorem first8 {σ x : Mem} (hW : WF σ) (h13 : x 13 = σ 13) (h14 : x 14 = σ 14) (h15 : x 15 = σ 15) {p : Nat} (hp : p < nt (σ 13 0)) : F_X3_isFirstOfWord x (nI p) = some (b01 (fst1 σ p)) := by
  have hP8 := (P_le hW).1
  have iw : ∀ q, q < nt (σ 13 0) → F_X3_isWordAt x (nI q) = some (if num σ q = true then 0 else 1) := fun q hq => by
    have := isWord8 hW hq
    unfold F_X3_isWordAt at this ⊢
    rw [h13, h14]
    exact this
  have key : ∀ m i, i + m = p → ag σ p i = true → num σ p = false → Rch (B_X3_isFirstOfWord x) 12 () [nI p, nI i] 99999 () [b01 (fst1 σ p)] := by
    intro m
    induction m with
    | zero =>
      intro i hi ha hn
      have : i = p := by omega
      subst this
      refine Rch.one (by decide) ?_
      show B_X3_isFirstOfWord_12 x _ _ = _
      unfold B_X3_isFirstOfWord_12 fst1
      rw [if_pos (nI_le (Nat.le_refl _) (by omega)), hn, ha]
      rfl
    | succ m ih =>
      intro i hi ha hn
      have hs : ag σ p (i + 1) = (ag σ p i && !(!num σ i && decide (σ 15 i = σ 15 p))) := rfl
      by_cases hni : num σ i = true
      · refine Rch.tr (Rch.one (p' := 12) (x' := ()) (vs' := [nI p, nI (i + 1)]) (by decide) ?_) (ih (i + 1) (by omega) (by rw [hs, ha, hni]; rfl) hn)
        show B_X3_isFirstOfWord_12 x _ _ = _
        unfold B_X3_isFirstOfWord_12
        rw [if_neg (nI_ge (by omega) (by omega)), iw i (by omega), bind_some', if_pos hni, if_pos rfl, nI_1]
      · have hni' : num σ i = false := by simpa using hni
        by_cases e : σ 15 i = σ 15 p
        · have hf : fst1 σ p = false := by
            unfold fst1
            cases h : ag σ p p
            · simp
            · have := (al_iff p).mp h i (by omega)
              rw [hni'] at this
              simp [e] at this
          refine Rch.one (by decide) ?_
          show B_X3_isFirstOfWord_12 x _ _ = _
          unfold B_X3_isFirstOfWord_12
          rw [if_neg (nI_ge (by omega) (by omega)), iw i (by omega), bind_some', if_neg hni, if_neg one_ne, ld_at (by omega) (by decide), bind_some', ld_at (by omega) (by decide), bind_some', h15, if_pos e, hf]
          rfl
        · refine Rch.tr (Rch.one (p' := 12) (x' := ()) (vs' := [nI p, nI (i + 1)]) (by decide) ?_) (ih (i + 1) (by omega) (by rw [hs, ha, decide_eq_false e]; simp) hn)
          show B_X3_isFirstOfWord_12 x _ _ = _
          unfold B_X3_isFirstOfWord_12
          rw [if_neg (nI_ge (by omega) (by omega)), iw i (by omega), bind_some', if_neg hni, if_neg one_ne, ld_at (by omega) (by decide), bind_some', ld_at (by omega) (by decide), bind_some', h15, if_neg e, nI_1]
  by_cases hn : num σ p = true
  · refine fin_R (Rch.one (by decide) ?_)
    show B_X3_isFirstOfWord_0 x _ = _
    unfold B_X3_isFirstOfWord_0 fst1
    rw [iw p hp, bind_some', if_pos hn, if_pos rfl, hn]
    rfl
  · refine fin_R (Rch.tr (Rch.one (p' := 12) (x' := ()) (vs' := [nI p, nI 0]) (by decide) ?_) (key p 0 (by omega) rfl (by simpa using hn)))
    show B_X3_isFirstOfWord_0 x _ = _
    unfold B_X3_isFirstOfWord_0
    rw [iw p hp, bind_some', if_neg hn, if_neg one_ne]
    rfl
/-- the costs after the first p places -/
def tkC (σ : Mem) (w : Nat) : Nat → Nat → Int32
  | 0 => σ 12
  | p + 1 => if fst1 σ p = true then lrnC (tkC σ w p) (tk σ p) (dg (nt (σ 13 0)) w p) (mny σ p) else tkC σ w p
def tkN (σ : Mem) (w : Nat) : Nat → Nat
  | 0 => 0
  | p + 1 => tkN σ w p + (if fst1 σ p = true then lrnN (tkC σ w p) (tk σ p) (dg (nt (σ 13 0)) w p) (mny σ p) else 0)
theorem tkC_ok {σ : Mem} (hW : WF σ) {w : Nat} : ∀ p, p ≤ nt (σ 13 0) → okC (tkC σ w p)
  | 0, _ => hW.2.1.2.2.2.2.1
  | p + 1, hp => by
    have ih := tkC_ok hW (w := w) p (by omega)
    unfold tkC
    by_cases h : fst1 σ p = true
    · rw [if_pos h]
      have hn : num σ p = false := by
        unfold fst1 at h
        cases hh : num σ p
        · rfl
        · rw [hh] at h; simp at h
      exact lrn_ok ih (tk_lt hW (by omega) hn).1 _ (mny_le hW (by omega) hn).1
    · rw [if_neg h]; exact ih
theorem tkN_le {σ : Mem} (hW : WF σ) {w : Nat} : ∀ p, p ≤ nt (σ 13 0) → tkN σ w p ≤ 3 * p
  | 0, _ => Nat.le_refl _
  | p + 1, hp => by
    have ih := tkN_le hW (w := w) p (by omega)
    unfold tkN
    by_cases h : fst1 σ p = true
    · rw [if_pos h]
      have hn : num σ p = false := by
        unfold fst1 at h
        cases hh : num σ p
        · rfl
        · rw [hh] at h; simp at h
      have h1 := lrnN_le (C := tkC σ w p) (w := tk σ p) (t := dg (nt (σ 13 0)) w p) (mny σ p)
      have h2 := (mny_le hW (show p < nt (σ 13 0) by omega) hn).1
      omega
    · rw [if_neg h]; omega
theorem fst1_w {σ : Mem} {p : Nat} (h : fst1 σ p = true) : num σ p = false := by
  unfold fst1 at h
  cases hh : num σ p
  · rfl
  · rw [hh] at h; simp at h
