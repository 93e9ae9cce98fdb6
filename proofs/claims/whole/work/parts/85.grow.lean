theorem isNum8 {σ : Mem} (hW : WF σ) (p : Nat) (hp : p < 100) : F_X3_isNumber σ (nI p) = some (if p < nt (σ 13 0) ∧ num σ p = true then 1 else 0) := by
  obtain ⟨hP8, hP⟩ := P_le hW
  unfold F_X3_isNumber
  rw [if_neg (nI_pos (by omega)), hP]
  by_cases h : p < nt (σ 13 0)
  · rw [if_neg (nI_ge h (by omega)), ld_at (by omega) (by decide), bind_some']
    by_cases hn : σ 14 p = 0
    · rw [if_pos hn, if_neg]
      rintro ⟨-, h2⟩
      simp [num, hn] at h2
    · rw [if_neg hn, if_pos]
      rw [nt_nI (by omega)]
      exact ⟨h, by simp [num, hn]⟩
  · rw [if_pos (nI_le (by omega) (by omega)), if_neg]
    rw [nt_nI (by omega)]
    exact fun h2 => h h2.1
theorem isNum8t {σ : Mem} (hW : WF σ) {p : Nat} (hp : p < nt (σ 13 0)) (h : num σ p = true) : F_X3_isNumber σ (nI p) = some 1 := by
  rw [isNum8 hW p (by have := (P_le hW).1; omega), if_pos ⟨hp, h⟩]
theorem isNum8f {σ : Mem} (hW : WF σ) {p : Nat} (hp : p < nt (σ 13 0)) (h : num σ p = false) : F_X3_isNumber σ (nI p) = some 0 := by
  rw [isNum8 hW p (by have := (P_le hW).1; omega), if_neg (fun q => by rw [h] at q; exact absurd q.2 (by decide))]
theorem isNumN {σ : Mem} (hW : WF σ) {p : Nat} (hp : p < 8) : F_X3_isNumber σ (nI (p + 1)) = some (if numNext σ p = true then 1 else 0) := by
  rw [isNum8 hW (p + 1) (by omega)]
  congr 1
  unfold numNext
  by_cases h : p + 1 < nt (σ 13 0) <;> simp [h]
theorem isWord8 {σ : Mem} (hW : WF σ) {p : Nat} (hp : p < nt (σ 13 0)) : F_X3_isWordAt σ (nI p) = some (if num σ p = true then 0 else 1) := by
  obtain ⟨hP8, hP⟩ := P_le hW
  unfold F_X3_isWordAt
  rw [if_neg (nI_pos (by omega)), hP, if_neg (nI_ge hp (by omega)), ld_at (by omega) (by decide), bind_some']
  by_cases hn : σ 14 p = 0
  · rw [if_pos hn, if_neg]; simp [num, hn]
  · rw [if_neg hn, if_pos]; simp [num, hn]
theorem sr_at {σ : Mem} (hW : WF σ) {p m : Nat} (hp : p < nt (σ 13 0)) (hn : num σ p = false) (hm : m < 3) : F_X7_sortAt σ (nI (3 * tk σ p + m)) = some (nI (sr σ p m)) ∧ sr σ p m ≤ 5 := by
  obtain ⟨ht, -⟩ := tk_lt hW hp hn
  obtain ⟨s, hs, e⟩ := hW.2.1.2.1 (3 * tk σ p + m) (by omega)
  unfold F_X7_sortAt sr
  rw [ld_at (by omega) (by decide), bind_some', e, nt_nI (by omega)]
  exact ⟨rfl, hs⟩
theorem hasSort8 {σ : Mem} (hW : WF σ) {p w s : Nat} (hp : p < nt (σ 13 0)) (hs : s ≤ 5) : F_X5_hasSort σ (nI (key σ p w)) (nI p - 1) (nI s) = some (if hasPrev σ p w s = true then 1 else 0) := by
  have hP8 := (P_le hW).1
  unfold F_X5_hasSort
  by_cases h0 : p = 0
  · subst h0
    have : F_X3_isWordAt σ (nI 0 - 1) = some 0 := by
      unfold F_X3_isWordAt
      rw [if_pos (by decide)]
    rw [this, bind_some', if_pos rfl, if_neg]
    simp [hasPrev]
  · obtain ⟨q, rfl⟩ : ∃ q, p = q + 1 := ⟨p - 1, by omega⟩
    rw [nI_pred, isWord8 hW (by omega), bind_some']
    by_cases hn : num σ q = true
    · rw [if_pos hn, if_pos rfl, if_neg]
      simp [hasPrev, hn]
    · have hn' : num σ q = false := by simpa using hn
      obtain ⟨ht, e⟩ := tk_lt hW (show q < nt (σ 13 0) by omega) hn'
      rw [if_neg hn, if_neg one_ne]
      unfold F_X3_tokenAt
      rw [ld_at (by omega) (by decide), bind_some', bind_some', e, meanIn (by have := key_lt hW (w := w) (show q + 1 ≤ nt (σ 13 0) by omega); omega) (by omega), key_dig (by omega) (by omega)]
      have hd : dg (q + 1) w q = w % 3 := by unfold dg; simp
      obtain ⟨g1, g2⟩ := sr_at hW (show q < nt (σ 13 0) by omega) hn' (Nat.mod_lt w (show 0 < 3 by decide))
      rw [hd, spot8, g1, bind_some']
      by_cases h : sr σ q (w % 3) = s
      · rw [if_pos (by rw [h]), if_pos]; simp [hasPrev, hn', h]
      · rw [if_neg (fun e => h (nI_inj (by omega) (by omega) e)), if_neg]; simp [hasPrev, hn', h]
/-- an array's first places hold a list of numbers -/
def hold (a : Nat → Int32) (l : List Nat) : Prop := ∀ i x, l[i]? = some x → a i = nI x
theorem hold.push {a : Nat → Int32} {l : List Nat} {x : Nat} (h : hold a l) : hold (upd a l.length (nI x)) (l ++ [x]) := by
  intro i y hy
  by_cases hi : i < l.length
  · rw [List.getElem?_append_left hi] at hy
    rw [upd_ne (by omega)]
    exact h i y hy
  · rw [List.getElem?_append_right (by omega)] at hy
    have : i - l.length < 1 := (List.getElem?_eq_some_iff.mp hy).1
    have hi2 : i = l.length := by omega
    subst hi2
    simp at hy
    rw [upd_eq, hy]
theorem hold.keep {a b : Nat → Int32} {l : List Nat} (h : hold a l) (he : ∀ i, i < l.length → b i = a i) : hold b l := fun i x hx => (he i (List.getElem?_eq_some_iff.mp hx).1).trans (h i x hx)
theorem pass8 {σ : Mem} (hW : WF σ) {p : Nat} (hp : p < nt (σ 13 0)) {l : List Nat} (hl : l.length ≤ 6561) (hh : hold (σ 25) (l.map (key σ p))) : ∃ σ', F_X5_passNumber σ (nI p) (nI l.length) = some (nI (l.filter (fun w => hasPrev σ p w 4)).length, σ') ∧ (∀ k, k ≠ 25 → σ' k = σ k) ∧ hold (σ' 25) ((l.filter (fun w => hasPrev σ p w 4)).map (key σ p)) := by
  have hP8 := (P_le hW).1
  obtain ⟨x', vs', hr, e1, e2, e3⟩ := Rch.loop0 (B := B_X5_passNumber) (h := 5) (x := σ) (vs := [nI p, nI l.length, nI 0, nI 0]) (fun i x vs => vs = [nI p, nI l.length, nI ((l.take i).filter (fun w => hasPrev σ p w 4)).length, nI i] ∧ (∀ k, k ≠ 25 → x k = σ k) ∧ hold (x 25) (((l.take i).filter (fun w => hasPrev σ p w 4)).map (key σ p)) ∧ ∀ j w, i ≤ j → l[j]? = some w → x 25 j = nI (key σ p w)) l.length ⟨rfl, fun _ _ => rfl, fun i x h => by simp at h, fun j w _ h => hh j _ (by rw [List.getElem?_map, h]; rfl)⟩ (fun i hi x vs hI => by
    obtain ⟨rfl, hk, hb, ha⟩ := hI
    obtain ⟨w, hw⟩ : ∃ w, l[i]? = some w := ⟨l[i], List.getElem?_eq_getElem hi⟩
    have hWx : WF x := ⟨hW.1.cong (hk 1 (by decide)) (hk 2 (by decide)) (hk 3 (by decide)) (hk 4 (by decide)) (hk 5 (by decide)), hW.2.1.cong (hk 1 (by decide)) (hk 2 (by decide)) (hk 6 (by decide)) (hk 7 (by decide)) (hk 8 (by decide)) (hk 9 (by decide)) (hk 10 (by decide)) (hk 11 (by decide)) (hk 12 (by decide)), hW.2.2.cong (hk 13 (by decide)) (hk 14 (by decide)) (hk 15 (by decide))⟩
    have ekey : F_X5_hasSort x (nI (key σ p w)) (nI p - 1) (nI 4) = some (if hasPrev σ p w 4 = true then 1 else 0) := by
      rw [← hasSort8 hW hp (by decide)]
      unfold F_X5_hasSort F_X3_isWordAt F_X3_tokenAt F_X7_sortAt F_X7_spotOf
      rw [hk 13 (by decide), hk 14 (by decide), hk 15 (by decide), hk 8 (by decide)]
    have htk : l.take (i + 1) = l.take i ++ [w] := by rw [List.take_add_one, hw]; rfl
    have hlen : ((l.take i).filter (fun w => hasPrev σ p w 4)).length ≤ i := by
      refine Nat.le_trans (List.length_filter_le _ _) ?_
      rw [List.length_take]; omega
    have hnle : ¬ nI l.length ≤ nI i := nI_ge hi (by omega)
    by_cases hpv : hasPrev σ p w 4 = true
    · refine ⟨_, _, Rch.one (p' := 5) (x' := st x 25 ((l.take i).filter (fun w => hasPrev σ p w 4)).length (nI (key σ p w))) (vs' := [nI p, nI l.length, nI (((l.take i).filter (fun w => hasPrev σ p w 4)).length + 1), nI (i + 1)]) (by decide) ?_, ?_, ?_, ?_, ?_⟩
      · show B_X5_passNumber_5 x _ _ _ _ = _
        unfold B_X5_passNumber_5
        rw [if_neg hnle, ld_at (by omega) (by decide), bind_some', ha i w (Nat.le_refl i) hw, i4, ekey, bind_some', if_pos hpv, if_neg one_ne, bind_some', sto_at (by omega) (by decide), bind_some', nI_1, nI_1]
      · rw [htk, List.filter_append, List.length_append]
        simp [hpv]
      · intro k hk2; rw [st_ne hk2]; exact hk k hk2
      · rw [htk, List.filter_append, List.map_append, st_eq]
        simp only [List.filter_cons, hpv, if_true, List.filter_nil, List.map_cons, List.map_nil]
        have := hb.push (x := key σ p w)
        rw [List.length_map] at this
        exact this
      · intro j w' hj hw'
        rw [st_eq, upd_ne (by omega)]
        exact ha j w' (by omega) hw'
    · refine ⟨_, _, Rch.one (p' := 5) (x' := x) (vs' := [nI p, nI l.length, nI ((l.take i).filter (fun w => hasPrev σ p w 4)).length, nI (i + 1)]) (by decide) ?_, ?_, hk, ?_, fun j w' hj hw' => ha j w' (by omega) hw'⟩
      · show B_X5_passNumber_5 x _ _ _ _ = _
        unfold B_X5_passNumber_5
        rw [if_neg hnle, ld_at (by omega) (by decide), bind_some', ha i w (Nat.le_refl i) hw, i4, ekey, bind_some', if_neg hpv, if_pos rfl, nI_1]
      · rw [htk, List.filter_append]
        simp [hpv]
      · rw [htk, List.filter_append]
        simp only [List.filter_cons, hpv, List.filter_nil, if_false, Bool.false_eq_true, List.append_nil]
        exact hb)
  rw [List.take_length] at e1 e3
  refine ⟨x', ?_, e2, e3.1⟩
  refine fin_M (Rch.tr (Rch.one (p' := 5) (x' := σ) (vs' := [nI p, nI l.length, nI 0, nI 0]) (by decide) rfl) (Rch.tr hr ?_))
  rw [e1]
  refine Rch.one (by decide) ?_
  show B_X5_passNumber_5 x' _ _ _ _ = _
  unfold B_X5_passNumber_5
  rw [if_pos (nI_le (Nat.le_refl _) (by omega))]
