theorem dg_lt (p w q : Nat) : dg p w q < 3 := Nat.mod_lt _ (by decide)
theorem dg_last {p w : Nat} : dg (p + 1) w p = w % 3 := by unfold dg; simp
theorem dg_step {p w q : Nat} (h : q < p) : dg (p + 1) w q = dg p (w / 3) q := by
  unfold dg
  rw [show p + 1 - 1 - q = (p - 1 - q) + 1 by omega, Nat.pow_succ, Nat.mul_comm, Nat.div_div_eq_div_mul]
theorem Lw_ok {σ : Mem} : ∀ p w, w ∈ Lw σ p → ∀ q, q < p → alw σ q (w / 3 ^ (p - q)) (dg p w q) = true
  | 0, _, _, _, h => by omega
  | p + 1, w, hw, q, hq => by
    rw [Lw_wrd] at hw
    unfold gL gw at hw
    obtain ⟨w', h1, h2⟩ := List.mem_flatMap.mp hw
    obtain ⟨m, h3, h4⟩ := List.mem_map.mp h2
    obtain ⟨h5, h6⟩ := List.mem_filter.mp h3
    have hm : m < 3 := List.mem_range.mp h5
    subst h4
    have e1 : (3 * w' + m) / 3 = w' := by omega
    have e2 : (3 * w' + m) % 3 = m := by omega
    by_cases hqp : q = p
    · subst hqp
      rw [dg_last, e2, show q + 1 - q = 1 by omega, Nat.pow_one, e1]
      exact h6
    · rw [dg_step (by omega), e1, show p + 1 - q = (p - q) + 1 by omega, Nat.pow_succ, Nat.mul_comm (3 ^ (p - q)) 3, ← Nat.div_div_eq_div_mul, e1]
      exact Lw_ok p w' h1 q (by omega)
theorem dg_prev {p w q : Nat} (h0 : 0 < q) (hq : q < p) : w / 3 ^ (p - q) % 3 = dg p w (q - 1) := by
  unfold dg
  rw [show p - 1 - (q - 1) = p - q by omega]
theorem Lw_vm {σ : Mem} {w : Nat} (hw : w ∈ Lw σ (nt (σ 13 0))) : vm σ (dg (nt (σ 13 0)) w) := by
  intro p hp hn
  have h := Lw_ok _ w hw p hp
  unfold alw at h
  rw [hn] at h
  simp only [Bool.false_eq_true, if_false, Bool.and_eq_true, decide_eq_true_eq, Bool.or_eq_true, Bool.not_eq_true', decide_eq_false_iff_not] at h
  refine ⟨h.1, fun h4 => ?_⟩
  have h2 := h.2.resolve_left (fun hh => hh h4)
  have h3 := h2.2
  unfold hasPrev at h3
  simp only [Bool.and_eq_true, decide_eq_true_eq, Bool.not_eq_true'] at h3
  refine ⟨h3.1.1, h3.1.2, ?_, h2.1⟩
  rw [← dg_prev h3.1.1 hp]
  exact h3.2
/-- the FORM of a way -/
def fm (σ : Mem) (w : Nat) : FS := fsE (fsN σ (dg (nt (σ 13 0)) w) (nt (σ 13 0)))
/-- the ways that are READINGS, in the order of the ways -/
def Rd (σ : Mem) : List Nat := (Lw σ (nt (σ 13 0))).filter (fun w => stS σ (fm σ w))
theorem fm_len {σ : Mem} (hW : WF σ) (w : Nat) : (fm σ w).2.length ≤ 8 := by
  have h1 := fsN_len σ (dg (nt (σ 13 0)) w) (nt (σ 13 0))
  have h2 := (P_le hW).1
  unfold fm fsE
  split
  · exact Nat.le_trans h1 h2
  · exact Nat.le_trans h1 h2
theorem T_le {σ : Mem} (hW : WF σ) : nt (σ 1 0) ≤ 4 := by
  obtain ⟨T, h, e⟩ := hW.1.1
  rw [e, nt_nI (by omega)]
  exact h
theorem fm_from {σ : Mem} (hW : WF σ) {w : Nat} (hw : w ∈ Lw σ (nt (σ 13 0))) : (fm σ w).1 3 < 0 ∨ ∃ fr, fr < nt (σ 1 0) ∧ (fm σ w).1 3 = nI fr := by
  obtain ⟨-, -, ⟨n2, -, e2, k2⟩, ⟨n4, -, -, k4⟩, -⟩ := okF_all hW (Lw_vm hw) _ (Nat.le_refl _)
  unfold fm fsE
  by_cases h : (fsN σ (dg (nt (σ 13 0)) w) (nt (σ 13 0))).1 2 = 0
  · rw [if_pos h]
    dsimp only
    rw [upd_eq]
    rcases k4 with ⟨-, -, h6⟩ | ⟨-, u, c, hu, -, h6, -⟩
    · rw [h6]; exact Or.inl (by decide)
    · exact Or.inr ⟨u, hu, h6⟩
  · rw [if_neg h]
    rcases k2 with ⟨-, h3⟩ | ⟨-, u, hu, h3⟩
    · rw [h3]; exact Or.inl (by decide)
    · exact Or.inr ⟨u, hu, h3⟩
/-! the FORM's words depend on the cells below 16 alone -/
theorem fs_c {σ σ' : Mem} (h : ∀ k, k < 16 → σ' k = σ k) (m : Nat → Nat) : fsN σ' m = fsN σ m := by
  have hs : stp σ' m = stp σ m := by
    unfold stp thanN numNext
    rw [num_c h, tk_c h, sr_c h, h 9 (by decide), h 10 (by decide), h 11 (by decide), h 13 (by decide), h 15 (by decide)]
  funext p
  induction p with
  | zero => rfl
  | succ p ih => unfold fsN; rw [ih, hs]
theorem fm_c {σ σ' : Mem} (h : ∀ k, k < 16 → σ' k = σ k) : fm σ' = fm σ := by
  funext w
  unfold fm
  rw [fs_c h, h 13 (by decide)]
theorem stS_c {σ σ' : Mem} (h : ∀ k, k < 16 → σ' k = σ k) : stS σ' = stS σ := by
  unfold stS rchF lk
  rw [h 2 (by decide), h 4 (by decide)]
theorem Rd_c {σ σ' : Mem} (h : ∀ k, k < 16 → σ' k = σ k) : Rd σ' = Rd σ := by
  unfold Rd
  rw [Lw_c h, fm_c h, stS_c h, h 13 (by decide)]
/-- formOf, fillForm of a key -/
theorem form8 {σ x : Mem} (hW : WF σ) (hc : ∀ k, k < 16 → x k = σ k) (w : Nat) : ∃ x', F_X5_fillForm x (nI (key σ (nt (σ 13 0)) w)) = some x' ∧ sameG x x' ∧ hF x' (fm σ w) := by
  have hWx : WF x := ⟨hW.1.cong (hc 1 (by decide)) (hc 2 (by decide)) (hc 3 (by decide)) (hc 4 (by decide)) (hc 5 (by decide)), hW.2.1.cong (hc 1 (by decide)) (hc 2 (by decide)) (hc 6 (by decide)) (hc 7 (by decide)) (hc 8 (by decide)) (hc 9 (by decide)) (hc 10 (by decide)) (hc 11 (by decide)) (hc 12 (by decide)), hW.2.2.cong (hc 13 (by decide)) (hc 14 (by decide)) (hc 15 (by decide))⟩
  have hk := key_lt hW (p := nt (σ 13 0)) (w := w) (Nat.le_refl _)
  obtain ⟨x', f1, f2, f3⟩ := fill8 hWx (k := key σ (nt (σ 13 0)) w) (by omega) (m := dg (nt (σ 13 0)) w) (fun q => dg_lt _ _ q) (fun q hq _ => by
    rw [hc 13 (by decide)] at hq
    exact key_dig (P_le hW).1 hq)
  refine ⟨x', f1, f2, ?_⟩
  rw [fs_c hc, hc 13 (by decide)] at f3
  exact f3
theorem keep8 {σ : Mem} (hW : WF σ) (hh : hold (σ 25) ((Lw σ (nt (σ 13 0))).map (key σ (nt (σ 13 0))))) : ∃ σ', F_X5_keepStanding σ (nI (Lw σ (nt (σ 13 0))).length) = some (nI (Rd σ).length, σ') ∧ (∀ k, k < 17 ∨ k = 23 ∨ (25 < k ∧ k ≠ 34) → σ' k = σ k) ∧ hold (σ' 25) ((Rd σ).map (key σ (nt (σ 13 0)))) := by
  have hP8 := (P_le hW).1
  have p3 : 3 ^ nt (σ 13 0) ≤ 6561 := by
    have : nt (σ 13 0) = 0 ∨ nt (σ 13 0) = 1 ∨ nt (σ 13 0) = 2 ∨ nt (σ 13 0) = 3 ∨ nt (σ 13 0) = 4 ∨ nt (σ 13 0) = 5 ∨ nt (σ 13 0) = 6 ∨ nt (σ 13 0) = 7 ∨ nt (σ 13 0) = 8 := by omega
    rcases this with h | h | h | h | h | h | h | h | h <;> rw [h] <;> decide
  have hl : (Lw σ (nt (σ 13 0))).length ≤ 6561 := Nat.le_trans (Lw_len _) p3
  unfold Rd
  have hmem : ∀ w, w ∈ Lw σ (nt (σ 13 0)) → w ∈ Lw σ (nt (σ 13 0)) := fun _ h => h
  generalize hL : Lw σ (nt (σ 13 0)) = l at hh hl hmem ⊢
  generalize hPP : key σ (nt (σ 13 0)) = ky2 at hh ⊢
  obtain ⟨x', vs', hr, e1, e2, e3, -⟩ := Rch.loop0 (B := B_X5_keepStanding) (h := 4) (x := σ) (vs := [nI l.length, nI 0, nI 0]) (fun i x vs => vs = [nI l.length, nI ((l.take i).filter (fun w => stS σ (fm σ w))).length, nI i] ∧ (∀ k, k < 17 ∨ k = 23 ∨ (25 < k ∧ k ≠ 34) → x k = σ k) ∧ hold (x 25) (((l.take i).filter (fun w => stS σ (fm σ w))).map ky2) ∧ ∀ j w, i ≤ j → l[j]? = some w → x 25 j = nI (ky2 w)) l.length ⟨rfl, fun _ _ => rfl, fun i x h => by simp at h, fun j w _ h => hh j _ (by rw [List.getElem?_map, h]; rfl)⟩ (fun i hi x vs hI => by
    obtain ⟨rfl, hk, hb, ha⟩ := hI
    obtain ⟨w, hw⟩ : ∃ w, l[i]? = some w := ⟨l[i], List.getElem?_eq_getElem hi⟩
    have hwl : w ∈ Lw σ (nt (σ 13 0)) := by rw [hL]; exact List.mem_of_getElem? hw
    have hc : ∀ k, k < 16 → x k = σ k := fun k hk2 => hk k (by omega)
    have htk : l.take (i + 1) = l.take i ++ [w] := by rw [List.take_add_one, hw]; rfl
    have hlen : ((l.take i).filter (fun w => stS σ (fm σ w))).length ≤ i := by
      refine Nat.le_trans (List.length_filter_le _ _) ?_
      rw [List.length_take]; omega
    have hnle : ¬ nI l.length ≤ nI i := nI_ge hi (by omega)
    obtain ⟨x1, f1, f2, f3⟩ := form8 hW hc w
    rw [hPP] at f1
    have hc1 : ∀ k, k < 16 → x1 k = σ k := fun k hk2 => (f2 k (by omega)).trans (hc k hk2)
    have hWt1 : WFt x1 := hW.1.cong (hc1 1 (by decide)) (hc1 2 (by decide)) (hc1 3 (by decide)) (hc1 4 (by decide)) (hc1 5 (by decide))
    have hs1 := stands8 hWt1 f3 (fm_len hW w) (by
      rcases fm_from hW hwl with h | ⟨fr, h, e⟩
      · exact Or.inl h
      · exact Or.inr ⟨fr, by have := T_le hW; omega, e⟩)
    rw [stS_c hc1] at hs1
    have hk1 : ∀ k, k < 17 ∨ k = 23 ∨ (25 < k ∧ k ≠ 34) → x1 k = σ k := fun k hk2 => (f2 k (by omega)).trans (hk k hk2)
    have e25 : x1 25 = x 25 := f2 25 (by omega)
    by_cases hpv : stS σ (fm σ w) = true
    · refine ⟨_, _, Rch.one (p' := 4) (x' := st x1 25 ((l.take i).filter (fun w => stS σ (fm σ w))).length (nI (ky2 w))) (vs' := [nI l.length, nI (((l.take i).filter (fun w => stS σ (fm σ w))).length + 1), nI (i + 1)]) (by decide) ?_, ?_, ?_, ?_, ?_⟩
      · show B_X5_keepStanding_4 x _ _ _ = _
        unfold B_X5_keepStanding_4
        rw [if_neg hnle, ld_at (by omega) (by decide), bind_some', ha i w (Nat.le_refl i) hw, f1, bind_some', hs1, bind_some', hpv, if_neg (show ¬ b01 true = 0 by decide), ld_at (by omega) (by decide), bind_some', e25, ha i w (Nat.le_refl i) hw, sto_at (by omega) (by decide), bind_some', nI_1, nI_1]
      · rw [htk, List.filter_append, List.length_append]
        simp [hpv]
      · intro k hk2; rw [st_ne (by omega)]; exact hk1 k hk2
      · rw [htk, List.filter_append, List.map_append, st_eq, e25]
        simp only [List.filter_cons, hpv, if_true, List.filter_nil, List.map_cons, List.map_nil]
        have := hb.push (x := ky2 w)
        rw [List.length_map] at this
        exact this
      · intro j w' hj hw'
        rw [st_eq, e25, upd_ne (by omega)]
        exact ha j w' (by omega) hw'
    · have hpv' : stS σ (fm σ w) = false := by simpa using hpv
      refine ⟨x1, _, Rch.one (p' := 4) (x' := x1) (vs' := [nI l.length, nI ((l.take i).filter (fun w => stS σ (fm σ w))).length, nI (i + 1)]) (by decide) ?_, ?_, hk1, ?_, fun j w' hj hw' => by rw [e25]; exact ha j w' (by omega) hw'⟩
      · show B_X5_keepStanding_4 x _ _ _ = _
        unfold B_X5_keepStanding_4
        rw [if_neg hnle, ld_at (by omega) (by decide), bind_some', ha i w (Nat.le_refl i) hw, f1, bind_some', hs1, bind_some', hpv', if_pos (show b01 false = 0 by decide), nI_1]
      · rw [htk, List.filter_append]
        simp [hpv']
      · rw [htk, List.filter_append, e25]
        simp only [List.filter_cons, hpv', List.filter_nil, if_false, Bool.false_eq_true, List.append_nil]
        exact hb)
  rw [List.take_length] at e1 e3
  refine ⟨x', ?_, e2, e3⟩
  refine fin_M (Rch.tr (Rch.one (p' := 4) (x' := σ) (vs' := [nI l.length, nI 0, nI 0]) (by decide) rfl) (Rch.tr hr ?_))
  rw [e1]
  refine Rch.one (by decide) ?_
  show B_X5_keepStanding_4 x' _ _ _ = _
  unfold B_X5_keepStanding_4
  rw [if_pos (nI_le (Nat.le_refl _) (by omega))]
