def gw (σ : Mem) (p w m : Nat) : List Nat := ((List.range m).filter (alw σ p w)).map (fun m => 3 * w + m)
theorem gw_len (σ : Mem) (p w m : Nat) : (gw σ p w m).length ≤ m := by
  unfold gw
  rw [List.length_map]
  refine Nat.le_trans (List.length_filter_le _ _) ?_
  rw [List.length_range]
  exact Nat.le_refl _
theorem gw_succ (σ : Mem) (p w m : Nat) : gw σ p w (m + 1) = gw σ p w m ++ (if alw σ p w m = true then [3 * w + m] else []) := by
  unfold gw
  rw [List.range_succ, List.filter_append, List.map_append]
  congr 1
  by_cases h : alw σ p w m = true
  · simp [h]
  · simp [h]
theorem mny_le {σ : Mem} (hW : WF σ) {p : Nat} (hp : p < nt (σ 13 0)) (hn : num σ p = false) : mny σ p ≤ 3 ∧ σ 7 (tk σ p) = nI (mny σ p) := by
  obtain ⟨ht, -⟩ := tk_lt hW hp hn
  obtain ⟨k, hk, e⟩ := hW.2.1.1 (tk σ p) ht
  unfold mny
  rw [e, nt_nI (by omega)]
  exact ⟨hk, rfl⟩
theorem gw_mny {σ : Mem} (hW : WF σ) {p w : Nat} (hp : p < nt (σ 13 0)) (hn : num σ p = false) : gw σ p w 3 = gw σ p w (mny σ p) := by
  have hm := (mny_le hW hp hn).1
  have hf : ∀ m, mny σ p ≤ m → alw σ p w m = false := fun m h => by
    unfold alw
    rw [hn]
    simp [Nat.not_lt.mpr h]
  have hs : ∀ m, mny σ p ≤ m → gw σ p w m = gw σ p w (mny σ p) := by
    intro m
    induction m with
    | zero => intro h; rw [Nat.le_zero.mp h]
    | succ m ih =>
      intro h
      by_cases he : mny σ p = m + 1
      · rw [he]
      · rw [gw_succ, hf m (by omega), ih (by omega)]
        simp
  exact hs 3 hm
theorem key_succ {σ : Mem} {p w m : Nat} (hm : m < 3) (hn : num σ p = false) : key σ (p + 1) (3 * w + m) = key σ p w + (cs σ p m * 65536 + m * 4 ^ (7 - p)) := by
  have h1 : (3 * w + m) / 3 = w := by omega
  have h2 : (3 * w + m) % 3 = m := by omega
  unfold key
  show (kC σ p ((3 * w + m) / 3) + (if num σ p then 0 else cs σ p ((3 * w + m) % 3))) * 65536 + (kM p ((3 * w + m) / 3) + ((3 * w + m) % 3) * 4 ^ (7 - p)) = _
  rw [h1, h2, hn]
  simp only [Bool.false_eq_true, if_false]
  rw [Nat.add_mul]
  omega
def b01 (b : Bool) : Int32 := if b = true then 1 else 0
theorem inner8 {σ : Mem} (hW : WF σ) {p w i len : Nat} {nn : Int32} {a : List Nat} (hp : p < nt (σ 13 0)) (hn : num σ p = false) (hi : i < 2187) (hai : a.length ≤ 3 * i) {x0 : Mem} (hk0 : ∀ k, k ≠ 26 → x0 k = σ k) (h25 : σ 25 i = nI (key σ p w)) (hb0 : hold (x0 26) (a.map (key σ (p + 1)))) :
    ∃ x', Rch B_X5_growByWord 66 x0 [nI p, nI len, nI (tk σ p), nn, nI a.length, nI i, b01 (numNext σ p && hasPrev σ p w 1), nI 0] 27 x' [nI p, nI len, nI (tk σ p), nn, nI (a ++ gw σ p w 3).length, nI (i + 1)] ∧ (∀ k, k ≠ 26 → x' k = σ k) ∧ hold (x' 26) ((a ++ gw σ p w 3).map (key σ (p + 1))) := by
  have hP8 := (P_le hW).1
  obtain ⟨ht, -⟩ := tk_lt hW hp hn
  obtain ⟨hm3, em⟩ := mny_le hW hp hn
  have hmeq : ∀ x : Mem, (∀ k, k ≠ 26 → x k = σ k) → F_X7_meaningsOf x (nI (tk σ p)) = some (nI (mny σ p)) := fun x hk => by
    unfold F_X7_meaningsOf
    rw [ld_at ht (by decide), bind_some', hk 7 (by decide), em]
  obtain ⟨x', vs', hr, e1, e2, e3⟩ := Rch.loop0 (B := B_X5_growByWord) (h := 66) (x := x0) (vs := [nI p, nI len, nI (tk σ p), nn, nI a.length, nI i, b01 (numNext σ p && hasPrev σ p w 1), nI 0]) (fun m x vs => vs = [nI p, nI len, nI (tk σ p), nn, nI (a ++ gw σ p w m).length, nI i, b01 (numNext σ p && hasPrev σ p w 1), nI m] ∧ (∀ k, k ≠ 26 → x k = σ k) ∧ hold (x 26) ((a ++ gw σ p w m).map (key σ (p + 1)))) (mny σ p) ⟨by simp [gw], hk0, by simpa [gw] using hb0⟩ (fun m hm x vs hI => by
    obtain ⟨rfl, hk, hb⟩ := hI
    have hg := gw_len σ p w m
    have hlen : (a ++ gw σ p w m).length < 6561 := by rw [List.length_append]; omega
    have hnm : ¬ nI (mny σ p) ≤ nI m := nI_ge hm (by omega)
    have hn6 : ¬ (6561 : Int32) ≤ nI (a ++ gw σ p w m).length := nI_ge (b := 6561) hlen (by decide)
    obtain ⟨s1, s2⟩ := sr_at hW hp hn (show m < 3 by omega)
    have s1' : F_X7_sortAt x (nI (3 * tk σ p + m)) = some (nI (sr σ p m)) := by
      unfold F_X7_sortAt at s1 ⊢
      rw [hk 8 (by decide)]; exact s1
    obtain ⟨c1, c2⟩ := cs_le hW hp hn (show m < 3 by omega)
    have c3 : F_X7_costAt x (nI (3 * tk σ p + m)) = some (nI (cs σ p m)) := by
      unfold F_X7_costAt
      rw [ld_at (by omega) (by decide), bind_some', hk 12 (by decide), c2]
    have sp : F_X7_spotOf x (nI (tk σ p)) (nI m) = nI (3 * tk σ p + m) := spot8
    have l25 : ld 6561 (x 25) (nI i) = some (nI (key σ p w)) := by rw [ld_at (by omega) (by decide), hk 25 (by decide), h25]
    have kp : nI (key σ p w) + F_X5_keyPart (nI p) (nI m) (nI (cs σ p m)) = nI (key σ (p + 1) (3 * w + m)) := by
      rw [keyPart (by omega) (by omega) c1, nI_add, key_succ (by omega) hn]
    have push : alw σ p w m = true → B_X5_growByWord 66 x [nI p, nI len, nI (tk σ p), nn, nI (a ++ gw σ p w m).length, nI i, b01 (numNext σ p && hasPrev σ p w 1), nI m] = some (66, st x 26 (a ++ gw σ p w m).length (nI (key σ (p + 1) (3 * w + m))), [nI p, nI len, nI (tk σ p), nn, nI ((a ++ gw σ p w m).length + 1), nI i, b01 (numNext σ p && hasPrev σ p w 1), nI (m + 1)]) := by
      intro hal
      show B_X5_growByWord_66 x _ _ _ _ _ _ _ _ = _
      unfold B_X5_growByWord_66
      rw [hmeq x hk, bind_some', if_neg hnm, if_neg hn6, sp, s1', c3, l25]
      simp only [bind_some']
      rw [kp, sto_at hlen (by decide), bind_some', nI_1, nI_1]
      unfold alw at hal
      rw [hn] at hal
      by_cases htm : (numNext σ p && hasPrev σ p w 1) = true
      · have : b01 (numNext σ p && hasPrev σ p w 1) = 1 := by unfold b01; rw [if_pos htm]
        rw [this, if_neg one_ne]
      · have : b01 (numNext σ p && hasPrev σ p w 1) = 0 := by unfold b01; rw [if_neg htm]
        rw [this, if_pos rfl, if_neg]
        intro e4
        have h4 : sr σ p m = 4 := nI_inj (by omega) (by decide) e4
        have htm' : (numNext σ p && hasPrev σ p w 1) = false := by simpa using htm
        simp only [Bool.false_eq_true, if_false, h4, decide_true, Bool.not_true, htm', Bool.or_false, Bool.and_false] at hal
    by_cases hal : alw σ p w m = true
    · refine ⟨_, _, Rch.one (by decide) (push hal), ?_, ?_, ?_⟩
      · rw [gw_succ, if_pos hal, ← List.append_assoc, List.length_append (as := a ++ gw σ p w m)]
        rfl
      · intro k hk2; rw [st_ne hk2]; exact hk k hk2
      · rw [gw_succ, if_pos hal, ← List.append_assoc, List.map_append, st_eq]
        have := hb.push (x := key σ (p + 1) (3 * w + m))
        rw [List.length_map] at this
        exact this
    · refine ⟨_, _, Rch.one (p' := 66) (x' := x) (vs' := [nI p, nI len, nI (tk σ p), nn, nI (a ++ gw σ p w m).length, nI i, b01 (numNext σ p && hasPrev σ p w 1), nI (m + 1)]) (by decide) ?_, ?_, hk, ?_⟩
      · show B_X5_growByWord_66 x _ _ _ _ _ _ _ _ = _
        unfold B_X5_growByWord_66
        have hal' : alw σ p w m = false := by simpa using hal
        unfold alw at hal'
        rw [hn] at hal'
        simp only [Bool.false_eq_true, if_false, hm, decide_true, Bool.true_and, Bool.or_eq_false_iff] at hal'
        have h4 : sr σ p m = 4 := by simpa using hal'.1
        have hz : b01 (numNext σ p && hasPrev σ p w 1) = 0 := by unfold b01; rw [hal'.2]; rfl
        rw [hmeq x hk, bind_some', if_neg hnm, if_neg hn6, sp, s1', hz, if_pos rfl, bind_some', h4, if_pos (show nI 4 = (4 : Int32) from rfl), nI_1]
      · rw [gw_succ, if_neg hal, List.append_nil]
      · rw [gw_succ, if_neg hal, List.append_nil]; exact hb)
  refine ⟨x', Rch.tr hr ?_, e2, by rw [gw_mny hW hp hn]; exact e3⟩
  rw [e1, gw_mny hW hp hn]
  refine Rch.one (by decide) ?_
  show B_X5_growByWord_66 x' _ _ _ _ _ _ _ _ = _
  unfold B_X5_growByWord_66
  rw [hmeq x' e2, bind_some', if_pos (nI_le (Nat.le_refl _) (by omega)), nI_1]
