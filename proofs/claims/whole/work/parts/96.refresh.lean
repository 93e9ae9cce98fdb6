/-- the READINGS in their order, as ways -/
def Sd (σ : Mem) : List Nat := srt (kC σ (nt (σ 13 0))) (Rd σ) 793
theorem Sd_c {σ σ' : Mem} (h : ∀ k, k < 16 → σ' k = σ k) : Sd σ' = Sd σ := by
  unfold Sd
  rw [kC_c h, Rd_c h, h 13 (by decide)]
theorem Sd_Rd {σ : Mem} {w : Nat} (h : w ∈ Sd σ) : w ∈ Rd σ := srt_mem h
theorem Rd_len {σ : Mem} (hW : WF σ) : (Rd σ).length ≤ 6561 := by
  have hP8 := (P_le hW).1
  have p3 : 3 ^ nt (σ 13 0) ≤ 6561 := by
    have : nt (σ 13 0) = 0 ∨ nt (σ 13 0) = 1 ∨ nt (σ 13 0) = 2 ∨ nt (σ 13 0) = 3 ∨ nt (σ 13 0) = 4 ∨ nt (σ 13 0) = 5 ∨ nt (σ 13 0) = 6 ∨ nt (σ 13 0) = 7 ∨ nt (σ 13 0) = 8 := by omega
    rcases this with h | h | h | h | h | h | h | h | h <;> rw [h] <;> decide
  unfold Rd
  exact Nat.le_trans (List.length_filter_le _ _) (Nat.le_trans (Lw_len _) p3)
theorem kC_792 {σ : Mem} (hW : WF σ) (w : Nat) : kC σ (nt (σ 13 0)) w ≤ 792 := by
  have h1 := kC_le hW (nt (σ 13 0)) w (Nat.le_refl _)
  have h2 := (P_le hW).1
  omega
theorem Sd_len {σ : Mem} (hW : WF σ) : (Sd σ).length = (Rd σ).length := by
  unfold Sd
  rw [srt_len, bs_all (fun w _ => by have := kC_792 hW w; omega)]
/-- while fresh, keys hold the READINGS -/
def FR (σ : Mem) : Prop := σ 16 9 ≠ 0 → σ 16 8 = nI (Sd σ).length ∧ hold (σ 25) ((Sd σ).map (key σ (nt (σ 13 0))))
/-- what a look at the READINGS leaves: all but the class's own scratch -/
def sameQ (σ σ' : Mem) : Prop := ∀ k, k < 16 ∨ (26 < k ∧ k ≠ 34) → σ' k = σ k
theorem sameQ.rf {σ : Mem} : sameQ σ σ := fun _ _ => rfl
theorem sameQ.tr {σ σ1 σ2 : Mem} (h1 : sameQ σ σ1) (h2 : sameQ σ1 σ2) : sameQ σ σ2 := fun k hk => (h2 k hk).trans (h1 k hk)
theorem sameQ.WF {σ σ' : Mem} (h : sameQ σ σ') (hW : WF σ) : WF σ' := by
  have o : ∀ k, k < 16 → σ' k = σ k := fun k hk => h k (Or.inl hk)
  exact ⟨hW.1.cong (o 1 (by decide)) (o 2 (by decide)) (o 3 (by decide)) (o 4 (by decide)) (o 5 (by decide)), hW.2.1.cong (o 1 (by decide)) (o 2 (by decide)) (o 6 (by decide)) (o 7 (by decide)) (o 8 (by decide)) (o 9 (by decide)) (o 10 (by decide)) (o 11 (by decide)) (o 12 (by decide)), hW.2.2.cong (o 13 (by decide)) (o 14 (by decide)) (o 15 (by decide))⟩
theorem refr8 {σ : Mem} (hW : WF σ) (hF : FR σ) : ∃ σ', F_X5_refresh σ = some σ' ∧ sameQ σ σ' ∧ σ' 16 9 ≠ 0 ∧ σ' 16 8 = nI (Sd σ).length ∧ hold (σ' 25) ((Sd σ).map (key σ (nt (σ 13 0)))) := by
  unfold F_X5_refresh
  by_cases h : σ 16 9 = 0
  · rw [if_pos h, bind_some']
    have hc0 : ∀ k, k < 16 → st σ 16 9 1 k = σ k := fun k hk => st_ne (by omega)
    have hW0 : WF (st σ 16 9 1) := sameQ.WF (σ := σ) (fun k hk => st_ne (by omega)) hW
    obtain ⟨σ1, f1, f2, f3⟩ := grK8 hW0
    have hc1 : ∀ k, k < 16 → σ1 k = σ k := fun k hk => (f2.1 k (by omega) (by omega) (by omega)).trans (hc0 k hk)
    have hW1 : WF σ1 := f2.WF hW0
    rw [Lw_c hc0, key_c hc0, hc0 13 (by decide)] at f3
    rw [Lw_c hc0, hc0 13 (by decide)] at f1
    obtain ⟨σ2, g1, g2, g3⟩ := keep8 hW1 (by rw [Lw_c hc1, key_c hc1, hc1 13 (by decide)]; exact f3)
    rw [Lw_c hc1, Rd_c hc1, hc1 13 (by decide)] at g1
    rw [Rd_c hc1, key_c hc1, hc1 13 (by decide)] at g3
    have h16 : σ2 16 9 = 1 := by rw [g2 16 (by omega), f2.2 9 (by decide), st_eq, upd_eq]
    obtain ⟨σ3, e1, e2, e3, e4⟩ := sort8 (x0 := st σ2 16 8 (nI (Rd σ).length)) (R := Rd σ) (ky2 := key σ (nt (σ 13 0))) (co := kC σ (nt (σ 13 0))) (Rd_len hW) (by rw [st_ne (by decide)]; exact g3) (by rw [st_eq, upd_eq]) (fun w => by have := key_lt hW (w := w) (Nat.le_refl (nt (σ 13 0))); omega) (fun w => key_cost hW (Nat.le_refl _)) (fun w _ => kC_792 hW w)
    refine ⟨σ3, ?_, fun k hk => ?_, ?_, ?_, e4⟩
    · rw [f1, bind_some', g1, bind_some', bind_some', e1, bind_some']
    · rw [e2 k (by omega) (by omega) (by omega) (by omega), st_ne (by omega), g2 k (by omega), f2.1 k (by omega) (by omega) (by omega), st_ne (by omega)]
    · rw [e3 9 (by decide), st_eq, upd_ne (by decide), h16]; decide
    · rw [e3 8 (by decide), st_eq, upd_eq, Sd_len hW]
  · rw [if_neg h]
    obtain ⟨h1, h2⟩ := hF h
    exact ⟨σ, rfl, fun _ _ => rfl, h, h1, h2⟩
theorem has8 {σ : Mem} (hW : WF σ) (hF : FR σ) (x : Int32) : ∃ σ', sameQ σ σ' ∧ σ' 16 9 ≠ 0 ∧ σ' 16 8 = nI (Sd σ).length ∧ hold (σ' 25) ((Sd σ).map (key σ (nt (σ 13 0)))) ∧ ((∃ i w, x = nI i ∧ (Sd σ)[i]? = some w ∧ F_X5_has σ x = some (1, σ')) ∨ ((x < 0 ∨ nI (Sd σ).length ≤ x) ∧ F_X5_has σ x = some (0, σ'))) := by
  obtain ⟨σ', f1, f2, f3, f4, f5⟩ := refr8 hW hF
  have hl : (Sd σ).length ≤ 6561 := by rw [Sd_len hW]; exact Rd_len hW
  refine ⟨σ', f2, f3, f4, f5, ?_⟩
  unfold F_X5_has
  rw [f1, bind_some', f4]
  rcases pk_ix x (n := (Sd σ).length) (by omega) with h | h | ⟨i, hi, rfl⟩
  · exact Or.inr ⟨Or.inl h, by rw [if_pos h]⟩
  · refine Or.inr ⟨Or.inr h, ?_⟩
    by_cases h0 : x < 0
    · rw [if_pos h0]
    · rw [if_neg h0, if_pos h]
  · refine Or.inl ⟨i, (Sd σ)[i], rfl, List.getElem?_eq_getElem hi, ?_⟩
    rw [if_neg (nI_pos (by omega)), if_neg (nI_ge hi (by omega))]
