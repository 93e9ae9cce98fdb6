def gL (σ : Mem) (p : Nat) (l : List Nat) : List Nat := l.flatMap (fun w => gw σ p w 3)
theorem gL_snoc (σ : Mem) (p : Nat) (l : List Nat) (w : Nat) : gL σ p (l ++ [w]) = gL σ p l ++ gw σ p w 3 := by
  unfold gL
  rw [List.flatMap_append]
  simp
theorem gL_len (σ : Mem) (p : Nat) (l : List Nat) : (gL σ p l).length ≤ 3 * l.length := by
  unfold gL
  induction l with
  | nil => simp
  | cons a l ih =>
    rw [List.flatMap_cons, List.length_append, List.length_cons]
    have := gw_len σ p a 3
    omega
/-- σ' has all of σ but keys, spare and the mark which is which -/
def sameK (σ σ' : Mem) : Prop := (∀ k, k ≠ 25 → k ≠ 26 → k ≠ 16 → σ' k = σ k) ∧ ∀ j, j ≠ 10 → σ' 16 j = σ 16 j
theorem sameK.rf {σ : Mem} : sameK σ σ := ⟨fun _ _ _ _ => rfl, fun _ _ => rfl⟩
theorem sameK.tr {σ σ1 σ2 : Mem} (h1 : sameK σ σ1) (h2 : sameK σ1 σ2) : sameK σ σ2 := ⟨fun k a b c => (h2.1 k a b c).trans (h1.1 k a b c), fun j hj => (h2.2 j hj).trans (h1.2 j hj)⟩
theorem sameK.WF {σ σ' : Mem} (h : sameK σ σ') (hW : WF σ) : WF σ' := by
  have o : ∀ k, k < 16 → σ' k = σ k := fun k hk => h.1 k (by omega) (by omega) (by omega)
  exact ⟨hW.1.cong (o 1 (by decide)) (o 2 (by decide)) (o 3 (by decide)) (o 4 (by decide)) (o 5 (by decide)), hW.2.1.cong (o 1 (by decide)) (o 2 (by decide)) (o 6 (by decide)) (o 7 (by decide)) (o 8 (by decide)) (o 9 (by decide)) (o 10 (by decide)) (o 11 (by decide)) (o 12 (by decide)), hW.2.2.cong (o 13 (by decide)) (o 14 (by decide)) (o 15 (by decide))⟩
theorem swp_same {σ x : Mem} (hk : ∀ k, k ≠ 26 → x k = σ k) : sameK σ (swp x) ∧ swp x 25 = x 26 := by
  refine ⟨⟨fun k a b c => ?_, fun j hj => ?_⟩, by unfold swp; rw [if_pos rfl]⟩
  · unfold swp
    rw [if_neg a, if_neg b, if_neg c]
    exact hk k b
  · unfold swp
    rw [if_neg (by decide), if_neg (by decide), if_pos rfl, upd_ne hj, hk 16 (by decide)]
theorem grow8 {σ : Mem} (hW : WF σ) {p : Nat} (hp : p < nt (σ 13 0)) (hn : num σ p = false) {l : List Nat} (hl : l.length ≤ 2187) (hh : hold (σ 25) (l.map (key σ p))) : ∃ σ', F_X5_growByWord σ (nI p) (nI l.length) = some (nI (gL σ p l).length, σ') ∧ sameK σ σ' ∧ hold (σ' 25) ((gL σ p l).map (key σ (p + 1))) := by
  have hP8 := (P_le hW).1
  obtain ⟨ht, et⟩ := tk_lt hW hp hn
  obtain ⟨x', vs', hr, e1, e2, e3⟩ := Rch.loop0 (B := B_X5_growByWord) (h := 27) (x := σ) (vs := [nI p, nI l.length, nI (tk σ p), b01 (numNext σ p), nI 0, nI 0]) (fun i x vs => vs = [nI p, nI l.length, nI (tk σ p), b01 (numNext σ p), nI (gL σ p (l.take i)).length, nI i] ∧ (∀ k, k ≠ 26 → x k = σ k) ∧ hold (x 26) ((gL σ p (l.take i)).map (key σ (p + 1)))) l.length ⟨rfl, fun _ _ => rfl, fun i x h => by simp [gL] at h⟩ (fun i hi x vs hI => by
    obtain ⟨rfl, hk, hb⟩ := hI
    obtain ⟨w, hw⟩ : ∃ w, l[i]? = some w := ⟨l[i], List.getElem?_eq_getElem hi⟩
    have htk : l.take (i + 1) = l.take i ++ [w] := by rw [List.take_add_one, hw]; rfl
    have hlen : (gL σ p (l.take i)).length ≤ 3 * i := by
      have := gL_len σ p (l.take i)
      rw [List.length_take] at this
      omega
    have h25 : σ 25 i = nI (key σ p w) := hh i _ (by rw [List.getElem?_map, hw]; rfl)
    have hnle : ¬ nI l.length ≤ nI i := nI_ge hi (by omega)
    obtain ⟨x1, hr1, hk1, hb1⟩ := inner8 hW (nn := b01 (numNext σ p)) (len := l.length) hp hn (show i < 2187 by omega) hlen hk h25 hb
    refine ⟨x1, _, Rch.tr (Rch.one (p' := 66) (x' := x) (vs' := [nI p, nI l.length, nI (tk σ p), b01 (numNext σ p), nI (gL σ p (l.take i)).length, nI i, b01 (numNext σ p && hasPrev σ p w 1), nI 0]) (by decide) ?_) hr1, ?_, hk1, ?_⟩
    · show B_X5_growByWord_27 x _ _ _ _ _ _ = _
      unfold B_X5_growByWord_27
      rw [if_neg hnle]
      by_cases hnn : numNext σ p = true
      · have : b01 (numNext σ p) = 1 := by unfold b01; rw [if_pos hnn]
        rw [this, if_neg one_ne, ld_at (by omega) (by decide), bind_some', hk 25 (by decide), h25]
        have ekey : F_X5_hasSort x (nI (key σ p w)) (nI p - 1) (1 : Int32) = some (if hasPrev σ p w 1 = true then 1 else 0) := by
          have := hasSort8 hW (w := w) (s := 1) hp (by decide)
          rw [← this]
          unfold F_X5_hasSort F_X3_isWordAt F_X3_tokenAt F_X7_sortAt F_X7_spotOf
          rw [hk 13 (by decide), hk 14 (by decide), hk 15 (by decide), hk 8 (by decide)]
          rfl
        rw [ekey, bind_some', hnn, Bool.true_and]
        by_cases hpv : hasPrev σ p w 1 = true
        · rw [if_pos hpv, if_neg one_ne]; unfold b01; rw [if_pos hpv]; rfl
        · rw [if_neg hpv, if_pos rfl]; unfold b01; rw [if_neg hpv]; rfl
      · have hnn' : numNext σ p = false := by simpa using hnn
        rw [hnn', Bool.false_and]
        have : b01 false = 0 := rfl
        rw [this, if_pos rfl]
        rfl
    · rw [htk, gL_snoc]
    · rw [htk, gL_snoc]; exact hb1)
  rw [List.take_length] at e1 e3
  obtain ⟨s1, s2⟩ := swp_same e2
  refine ⟨swp x', ?_, s1, by rw [s2]; exact e3⟩
  refine fin_M (Rch.tr (Rch.one (p' := 27) (x' := σ) (vs' := [nI p, nI l.length, nI (tk σ p), b01 (numNext σ p), nI 0, nI 0]) (by decide) ?_) (Rch.tr hr ?_))
  · show B_X5_growByWord_0 σ _ _ = _
    unfold B_X5_growByWord_0 F_X3_tokenAt
    rw [ld_at (by omega) (by decide), bind_some', bind_some', et, nI_1, isNumN hW (by omega), bind_some']
    rfl
  · rw [e1]
    refine Rch.one (by decide) ?_
    show B_X5_growByWord_27 x' _ _ _ _ _ _ = _
    unfold B_X5_growByWord_27 F_X5_swap
    rw [if_pos (nI_le (Nat.le_refl _) (by omega)), bind_some']
/-! the spec's words depend on the question's cells alone -/
theorem num_c {σ σ' : Mem} (h : ∀ k, k < 16 → σ' k = σ k) : num σ' = num σ := by unfold num; rw [h 14 (by decide)]
theorem tk_c {σ σ' : Mem} (h : ∀ k, k < 16 → σ' k = σ k) : tk σ' = tk σ := by unfold tk; rw [h 15 (by decide)]
theorem mny_c {σ σ' : Mem} (h : ∀ k, k < 16 → σ' k = σ k) : mny σ' = mny σ := by unfold mny; rw [h 7 (by decide), tk_c h]
theorem sr_c {σ σ' : Mem} (h : ∀ k, k < 16 → σ' k = σ k) : sr σ' = sr σ := by unfold sr; rw [h 8 (by decide), tk_c h]
theorem cs_c {σ σ' : Mem} (h : ∀ k, k < 16 → σ' k = σ k) : cs σ' = cs σ := by unfold cs; rw [h 12 (by decide), tk_c h]
theorem alw_c {σ σ' : Mem} (h : ∀ k, k < 16 → σ' k = σ k) : alw σ' = alw σ := by
  unfold alw numNext hasPrev
  rw [num_c h, mny_c h, sr_c h, h 13 (by decide)]
theorem kC_c {σ σ' : Mem} (h : ∀ k, k < 16 → σ' k = σ k) : kC σ' = kC σ := by
  funext p
  induction p with
  | zero => rfl
  | succ p ih =>
    funext w
    unfold kC
    rw [ih, num_c h, cs_c h]
theorem key_c {σ σ' : Mem} (h : ∀ k, k < 16 → σ' k = σ k) : key σ' = key σ := by unfold key; rw [kC_c h]
theorem Lw_c {σ σ' : Mem} (h : ∀ k, k < 16 → σ' k = σ k) : Lw σ' = Lw σ := by
  funext p
  induction p with
  | zero => rfl
  | succ p ih =>
    unfold Lw
    rw [ih, alw_c h]
theorem Lw_num {σ : Mem} {p : Nat} (hn : num σ p = true) : Lw σ (p + 1) = ((Lw σ p).filter (fun w => hasPrev σ p w 4)).map (fun w => 3 * w) := by
  show (Lw σ p).flatMap (fun w => ((List.range 3).filter (alw σ p w)).map (fun m => 3 * w + m)) = _
  induction Lw σ p with
  | nil => rfl
  | cons w l ih =>
    rw [List.flatMap_cons, ih, List.filter_cons]
    have h3 : List.range 3 = [0, 1, 2] := rfl
    by_cases hp : hasPrev σ p w 4 = true
    · simp [h3, alw, hn, hp]
    · simp [h3, alw, hn, hp]
theorem Lw_wrd {σ : Mem} {p : Nat} : Lw σ (p + 1) = gL σ p (Lw σ p) := rfl
theorem key_num {σ : Mem} {p w : Nat} (hn : num σ p = true) : key σ (p + 1) (3 * w) = key σ p w := by
  have h1 : (3 * w) / 3 = w := by omega
  have h2 : (3 * w) % 3 = 0 := by omega
  unfold key
  show (kC σ p ((3 * w) / 3) + (if num σ p then 0 else cs σ p ((3 * w) % 3))) * 65536 + (kM p ((3 * w) / 3) + ((3 * w) % 3) * 4 ^ (7 - p)) = _
  rw [h1, h2, if_pos hn]
  omega
theorem Lw_len {σ : Mem} : ∀ p, (Lw σ p).length ≤ 3 ^ p
  | 0 => Nat.le_refl _
  | p + 1 => by
    have h1 := Lw_len (σ := σ) p
    have h2 := gL_len σ p (Lw σ p)
    rw [Lw_wrd, Nat.pow_succ]
    omega
