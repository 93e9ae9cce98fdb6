theorem spot8 {σ : Mem} {w k : Nat} : F_X7_spotOf σ (nI w) (nI k) = nI (3 * w + k) := by
  unfold F_X7_spotOf
  rw [r3, nI_add, Nat.mul_comm w 3]
theorem op_cost {σ τ : Mem} (hW : WF σ) (hE : EQ σ τ) (x y : Int32) : ∃ r, F_X8_cost σ x y = some r ∧ F_X9_cost τ x y = some r := by
  obtain ⟨hWt, hWw, hWl⟩ := id hW
  obtain ⟨hEt, hEw, hEl⟩ := id hE
  unfold F_X8_cost F_X9_cost F_X7_meaningsOf F_X7_costAt
  rcases isW2 x with ⟨w, hw, rfl, h8, h9⟩ | ⟨h8, h9⟩
  · obtain ⟨k, hk3, hk⟩ := hWw.1 w hw
    rw [h8, h9, if_neg one_ne, if_neg one_ne, ld_at hw (by decide), ld_at hw (by decide), bind_some', bind_some', bind_some', hEw.1 w hw, hk]
    rcases pk_ix y (n := k) (by omega) with h | h | ⟨c, hc, rfl⟩
    · exact ⟨-1, by rw [if_pos h], by rw [if_pos h]⟩
    · refine ⟨-1, ?_, ?_⟩
      · by_cases h0 : y < 0
        · rw [if_pos h0]
        · rw [if_neg h0, if_neg]
          intro h2
          rw [Int32.lt_iff_toInt_lt] at h2
          rw [Int32.le_iff_toInt_le] at h
          omega
      · by_cases h0 : y < 0
        · rw [if_pos h0]
        · rw [if_neg h0, if_pos h]
    · refine ⟨σ 12 (3 * w + c), ?_, ?_⟩
      · rw [if_neg (nI_pos (by omega)), if_pos (nI_lt hc (by omega)), spot8, ld_at (by omega) (by decide)]; rfl
      · rw [if_neg (nI_pos (by omega)), if_neg (nI_ge hc (by omega)), l3, nI_add, ld_at (by omega) (by decide), hEw.2.2.2.2.2 _ (by omega)]; rfl
  · exact ⟨-1, by rw [if_pos h8], by rw [if_pos h9]⟩
def forC (σ : Mem) (w : Nat) (k : Int32) : Mem := st (st (qcM σ) 7 w 0) 6 0 (σ 6 0 - k)
theorem sum_upd {f g : Nat → Nat} {w v : Nat} (hw : w < 40) (h : ∀ j, g j = if j = w then v else f j) : fb_sm g 40 + f w = fb_sm f 40 + v := by
  have : g = fun j => if j = w then v else f j := funext h
  rw [this]
  exact fb_sm_upd f v hw
theorem op_forget {σ τ : Mem} (hW : WF σ) (hE : EQ σ τ) (x : Int32) : ∃ r σ' τ', F_X8_forget σ x = some (r, σ') ∧ F_X9_forget τ x = some (r, τ') ∧ WF σ' ∧ EQ σ' τ' ∧ (σ' = σ ∨ rst σ σ') := by
  obtain ⟨hWt, hWw, hWl⟩ := id hW
  obtain ⟨hEt, hEw, hEl⟩ := id hE
  obtain ⟨v1, v2, v3, v4, v5, v6, v7⟩ := id hWw
  unfold F_X8_forget F_X9_forget F_X7_dropMeanings
  rcases isW2 x with ⟨w, hw, rfl, h8, h9⟩ | ⟨h8, h9⟩
  · obtain ⟨k, hk3, hk⟩ := v1 w hw
    have o : ∀ j, j ≠ 6 → j ≠ 7 → j ≠ 28 → j ≠ 29 → j ≠ 16 → forC σ w (nI k) j = σ j := fun j a b c d e => by
      unfold forC; rw [st_ne a, st_ne b, qcM_k c d e]
    have g : ∀ j, j ≠ 5 → st τ 5 w 0 j = τ j := fun j hj => st_ne hj
    have c7 : forC σ w (nI k) 7 = upd (σ 7) w 0 := by unfold forC; rw [st_ne (by decide), st_eq, qcM_k (by decide) (by decide) (by decide)]
    have c6 : forC σ w (nI k) 6 0 = σ 6 0 - nI k := by unfold forC; rw [st_eq, upd_eq]
    have o1 := o 1 (by decide) (by decide) (by decide) (by decide) (by decide)
    have o2 := o 2 (by decide) (by decide) (by decide) (by decide) (by decide)
    have o8 := o 8 (by decide) (by decide) (by decide) (by decide) (by decide)
    have o9 := o 9 (by decide) (by decide) (by decide) (by decide) (by decide)
    have o10 := o 10 (by decide) (by decide) (by decide) (by decide) (by decide)
    have o11 := o 11 (by decide) (by decide) (by decide) (by decide) (by decide)
    have o12 := o 12 (by decide) (by decide) (by decide) (by decide) (by decide)
    refine ⟨nI k, forC σ w (nI k), st τ 5 w 0, ?_, ?_, ⟨hWt.cong o1 o2 (o 3 (by decide) (by decide) (by decide) (by decide) (by decide)) (o 4 (by decide) (by decide) (by decide) (by decide) (by decide)) (o 5 (by decide) (by decide) (by decide) (by decide) (by decide)), ⟨fun w' hw' => ?_, by rw [o8]; exact v2, by rw [o9]; exact v3, by rw [o10]; exact v4, by rw [o12]; exact v5, fun w' k' hw' hk' => ?_, ?_⟩, hWl.cong (o 13 (by decide) (by decide) (by decide) (by decide) (by decide)) (o 14 (by decide) (by decide) (by decide) (by decide) (by decide)) (o 15 (by decide) (by decide) (by decide) (by decide) (by decide))⟩, ⟨hEt.cong o1 o2 (o 3 (by decide) (by decide) (by decide) (by decide) (by decide)) (o 4 (by decide) (by decide) (by decide) (by decide) (by decide)) (o 5 (by decide) (by decide) (by decide) (by decide) (by decide)) (by rw [g 0 (by decide)]) (g 1 (by decide)) (g 2 (by decide)) (g 3 (by decide)) (g 4 (by decide)), ⟨fun w' hw' => ?_, by rw [o8, g 6 (by decide)]; exact hEw.2.1, by rw [o9, g 7 (by decide)]; exact hEw.2.2.1, by rw [o10, g 8 (by decide)]; exact hEw.2.2.2.1, by rw [o11, g 9 (by decide)]; exact hEw.2.2.2.2.1, by rw [o12, g 10 (by decide)]; exact hEw.2.2.2.2.2⟩, hEl.cong (o 13 (by decide) (by decide) (by decide) (by decide) (by decide)) (o 14 (by decide) (by decide) (by decide) (by decide) (by decide)) (o 15 (by decide) (by decide) (by decide) (by decide) (by decide)) (by rw [g 0 (by decide)]) (g 11 (by decide)) (g 12 (by decide))⟩, Or.inr (qcM_rst (fun j hj => by simp at hj; unfold forC; rw [st_ne (by omega), st_ne (by omega)]))⟩
    · rw [h8, if_neg one_ne, F8_qc, bind_some', ld_at hw (by decide), bind_some', sto_at hw (by decide), bind_some', bind_some', qcM_k (by decide) (by decide) (by decide), hk, bind_some', st_ne (show (6 : Nat) ≠ 7 by decide), qcM_k (show (6 : Nat) ≠ 28 by decide) (by decide) (by decide)]
      rfl
    · rw [h9, if_neg one_ne, ld_at hw (by decide), bind_some', sto_at hw (by decide), bind_some', hEw.1 w hw, hk]
    · rw [c7]
      by_cases h : w' = w
      · subst h; exact ⟨0, by decide, upd_eq⟩
      · rw [upd_ne h]; exact v1 w' hw'
    · rw [c7] at hk'
      by_cases h : w' = w
      · subst h
        rw [upd_eq] at hk'
        have z : nt (0 : Int32) = 0 := rfl
        omega
      · rw [upd_ne h] at hk'
        have := v6 w' k' hw' hk'
        unfold okM at this ⊢
        rw [o1, o2, o8, o9, o10, o11]
        exact this
    · rw [c6, c7, v7]
      have hs := sum_upd (f := fun j => nt (σ 7 j)) (g := fun j => nt (upd (σ 7) w 0 j)) (v := 0) hw (fun j => by
        by_cases h : j = w
        · subst h; rw [if_pos rfl, upd_eq]; rfl
        · rw [if_neg h, upd_ne h])
      have hkk : nt (σ 7 w) = k := by rw [hk, nt_nI (by omega)]
      simp only [hkk] at hs
      rw [pk_sub (by omega)]
      congr 1
      omega
    · rw [c7, st_eq]
      by_cases h : w' = w
      · subst h; rw [upd_eq, upd_eq]
      · rw [upd_ne h, upd_ne h]; exact hEw.1 w' hw'
  · exact ⟨-1, σ, τ, by rw [if_pos h8], by rw [if_pos h9], hW, hE, Or.inl rfl⟩
