theorem key_0 {σ : Mem} : key σ 0 0 = 0 := by simp [key, kC, kM]
theorem grK8 {σ : Mem} (hW : WF σ) : ∃ σ', F_X5_growKeys σ = some (nI (Lw σ (nt (σ 13 0))).length, σ') ∧ sameK σ σ' ∧ hold (σ' 25) ((Lw σ (nt (σ 13 0))).map (key σ (nt (σ 13 0)))) := by
  obtain ⟨hP8, hP⟩ := P_le hW
  generalize hPP : nt (σ 13 0) = P at hP8 hP
  have p3 : ∀ p, p < 8 → 3 ^ p ≤ 2187 := by
    intro p hp
    have : p = 0 ∨ p = 1 ∨ p = 2 ∨ p = 3 ∨ p = 4 ∨ p = 5 ∨ p = 6 ∨ p = 7 := by omega
    rcases this with rfl | rfl | rfl | rfl | rfl | rfl | rfl | rfl <;> decide
  obtain ⟨x', vs', hr, e1, e2, e3⟩ := Rch.loop0 (B := B_X5_growKeys) (h := 11) (x := st σ 25 0 (nI 0)) (vs := [nI 1, nI 0]) (fun p x vs => vs = [nI (Lw σ p).length, nI p] ∧ sameK σ x ∧ hold (x 25) ((Lw σ p).map (key σ p))) P ⟨rfl, ⟨fun k a b c => st_ne a, fun j _ => by rw [st_ne (by decide)]⟩, fun i x h => by
      rw [st_eq]
      have hi : i < 1 := (List.getElem?_eq_some_iff.mp h).1
      have : i = 0 := by omega
      subst this
      have hx : x = 0 := by
        have : some (key σ 0 0) = some x := h
        rw [key_0] at this
        exact (Option.some.inj this).symm
      rw [hx, upd_eq]⟩ (fun p hp x vs hI => by
    obtain ⟨rfl, hs, hb⟩ := hI
    have hWx := hs.WF hW
    have hc : ∀ k, k < 16 → x k = σ k := fun k hk => hs.1 k (by omega) (by omega) (by omega)
    have hP' : nt (x 13 0) = P := by rw [hc 13 (by decide), hPP]
    have hlen : (Lw σ p).length ≤ 2187 := Nat.le_trans (Lw_len p) (p3 p (by omega))
    have hnle : ¬ nI P ≤ nI p := nI_ge hp (by omega)
    have hsz : F_X3_size x = nI P := by unfold F_X3_size; rw [hc 13 (by decide)]; exact hP
    have hb' : hold (x 25) ((Lw σ p).map (key x p)) := by rw [key_c hc]; exact hb
    by_cases hn : num σ p = true
    · have hnx : num x p = true := by rw [num_c hc]; exact hn
      obtain ⟨σ', f1, f2, f3⟩ := pass8 hWx (p := p) (by omega) (l := Lw σ p) (by omega) hb'
      have hpc : (fun w => hasPrev x p w 4) = fun w => hasPrev σ p w 4 := by
        funext w; unfold hasPrev; rw [num_c hc, sr_c hc]
      rw [hpc] at f1 f3
      have hL : (Lw σ (p + 1)).length = ((Lw σ p).filter (fun w => hasPrev σ p w 4)).length := by rw [Lw_num hn, List.length_map]
      refine ⟨σ', _, Rch.one (p' := 11) (x' := σ') (vs' := [nI (Lw σ (p + 1)).length, nI (p + 1)]) (by decide) ?_, rfl, hs.tr ⟨fun k a _ _ => f2 k a, fun j _ => by rw [f2 16 (by decide)]⟩, ?_⟩
      · show B_X5_growKeys_11 x _ _ = _
        unfold B_X5_growKeys_11
        rw [hsz, if_neg hnle, isNum8t hWx (by omega) hnx, bind_some', if_neg one_ne, f1, bind_some', nI_1, hL]
      · rw [Lw_num hn, List.map_map]
        have : (key σ (p + 1) ∘ fun w => 3 * w) = key x p := by
          funext w
          show key σ (p + 1) (3 * w) = key x p w
          rw [key_num hn, key_c hc]
        rw [this]
        exact f3
    · have hn' : num σ p = false := by simpa using hn
      have hnx : num x p = false := by rw [num_c hc]; exact hn'
      obtain ⟨σ', f1, f2, f3⟩ := grow8 hWx (p := p) (by omega) hnx (l := Lw σ p) hlen hb'
      have hgc : gL x p = gL σ p := by unfold gL gw; rw [alw_c hc]
      rw [hgc] at f1 f3
      refine ⟨σ', _, Rch.one (p' := 11) (x' := σ') (vs' := [nI (Lw σ (p + 1)).length, nI (p + 1)]) (by decide) ?_, rfl, hs.tr f2, ?_⟩
      · show B_X5_growKeys_11 x _ _ = _
        unfold B_X5_growKeys_11
        rw [hsz, if_neg hnle, isNum8f hWx (by omega) hnx, bind_some', if_pos rfl, f1, bind_some', nI_1, Lw_wrd]
      · rw [Lw_wrd, ← key_c hc]
        exact f3)
  refine ⟨x', ?_, e2, e3⟩
  refine fin_M (Rch.tr (Rch.one (p' := 11) (x' := st σ 25 0 (nI 0)) (vs' := [nI 1, nI 0]) (by decide) ?_) (Rch.tr hr ?_))
  · show B_X5_growKeys_0 σ = _
    unfold B_X5_growKeys_0
    rw [show (0 : Int32) = nI 0 from rfl, sto_at (by decide) (by decide), bind_some']
    rfl
  · rw [e1]
    refine Rch.one (by decide) ?_
    show B_X5_growKeys_11 x' _ _ = _
    unfold B_X5_growKeys_11
    have hsz : F_X3_size x' = nI P := by unfold F_X3_size; rw [e2.1 13 (by decide) (by decide) (by decide)]; exact hP
    rw [hsz, if_pos (nI_le (Nat.le_refl _) (by omega))]
