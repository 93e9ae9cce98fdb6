/-- place p may stand behind what f holds of the places before -/
def okp (σ : Mem) (m : Nat → Nat) (p : Nat) (f : FS) : Prop :=
  if num σ p = true then 0 < p ∧ num σ (p - 1) = false ∧ sr σ (p - 1) (m (p - 1)) = 4 else
  (sr σ p (m p) = 4 → 0 < p ∧ num σ (p - 1) = false ∧ sr σ (p - 1) (m (p - 1)) = 1 ∧ numNext σ p = true) ∧ (sr σ p (m p) = 0 → f.1 2 = 0) ∧ (sr σ p (m p) = 2 → f.1 0 = 0) ∧ (sr σ p (m p) = 1 → thanN σ m p = false → f.1 4 = 0)
section
variable {σ y : Mem} {m : Nat → Nat} {p s j : Nat} {x1 : Int32}
theorem g108 (h6 : ld 120 (y 6) (nI j) = some (nI s)) (hs : s ≤ 5) (h : s ≠ 4) (x4 : Int32) : Rch B_X9_reads 108 y [x1, nI p, nI j, x4] 136 y [x1, nI p, nI j] := by
  refine Rch.one (by decide) ?_
  show B_X9_reads_108 y _ _ _ _ = _
  unfold B_X9_reads_108
  rw [h6, bind_some', if_neg (show ¬ nI s = (4 : Int32) from fun e => h (nI_inj (b := 4) (by omega) (by decide) e))]
theorem g136 (h6 : ld 120 (y 6) (nI j) = some (nI s)) (hs : s ≤ 5) (h : s ≠ 4) : Rch B_X9_reads 136 y [x1, nI p, nI j] 187 y [x1, nI p, nI j] := by
  refine Rch.one (by decide) ?_
  show B_X9_reads_136 y _ _ _ = _
  unfold B_X9_reads_136
  rw [h6, bind_some', if_neg (show ¬ nI s = (4 : Int32) from fun e => h (nI_inj (b := 4) (by omega) (by decide) e))]
theorem g187 (h6 : ld 120 (y 6) (nI j) = some (nI s)) (hs : s ≤ 5) (h : s ≠ 3) : Rch B_X9_reads 187 y [x1, nI p, nI j] 220 y [x1, nI p, nI j] := by
  refine Rch.one (by decide) ?_
  show B_X9_reads_187 y _ _ _ = _
  unfold B_X9_reads_187
  rw [h6, bind_some', if_neg (show ¬ nI s = (3 : Int32) from fun e => h (nI_inj (b := 3) (by omega) (by decide) e))]
theorem g220 (h6 : ld 120 (y 6) (nI j) = some (nI s)) (hs : s ≤ 5) (h : s ≠ 0) : Rch B_X9_reads 220 y [x1, nI p, nI j] 248 y [x1, nI p, nI j] := by
  refine Rch.one (by decide) ?_
  show B_X9_reads_220 y _ _ _ = _
  unfold B_X9_reads_220
  rw [h6, bind_some', if_neg (show ¬ nI s = (0 : Int32) from fun e => h (nI_inj (b := 0) (by omega) (by decide) e))]
theorem g248 (h6 : ld 120 (y 6) (nI j) = some (nI s)) (hs : s ≤ 5) (h : s ≠ 2) : Rch B_X9_reads 248 y [x1, nI p, nI j] 277 y [x1, nI p, nI j] := by
  refine Rch.one (by decide) ?_
  show B_X9_reads_248 y _ _ _ = _
  unfold B_X9_reads_248
  rw [h6, bind_some', if_neg (show ¬ nI s = (2 : Int32) from fun e => h (nI_inj (b := 2) (by omega) (by decide) e))]
theorem g277 (h6 : ld 120 (y 6) (nI j) = some (nI s)) (hs : s ≤ 5) (h : s ≠ 1) : Rch B_X9_reads 277 y [x1, nI p, nI j] 324 y [x1, nI p] := by
  refine Rch.one (by decide) ?_
  show B_X9_reads_277 y _ _ _ = _
  unfold B_X9_reads_277
  rw [h6, bind_some', if_neg (show ¬ nI s = (1 : Int32) from fun e => h (nI_inj (b := 1) (by omega) (by decide) e))]
theorem g324 : Rch B_X9_reads 324 y [x1, nI p] 29 y [x1, nI (p + 1)] := by
  refine Rch.one (by decide) ?_
  show B_X9_reads_324 y _ _ = _
  unfold B_X9_reads_324
  rw [nI_1]
end
/-- the word's place, from label 108 on -/
theorem word9 {σ y : Mem} (hW : WF σ) {m : Nat → Nat} (hq : MQ9 σ y m) (hm : ∀ q, m q < 3) {p c : Nat} (hp : p < nt (σ 13 0)) (hn : num σ p = false) {f : FS} (hok : okF σ p f) (hf : hM y f c) (hl : f.2.length ≤ p) : (okp σ m p f ∧ ∃ y', Rch B_X9_reads 108 y [f.1 6, nI p, nI (3 * tk σ p + m p), b01 (numNext σ p)] 29 y' [(stp σ m p f).1 6, nI (p + 1)] ∧ sameM y y' ∧ hM y' (stp σ m p f) c) ∨ (¬ okp σ m p f ∧ ∃ y', Rch B_X9_reads 108 y [f.1 6, nI p, nI (3 * tk σ p + m p), b01 (numNext σ p)] 99999 y' [0] ∧ sameM y y') := by
  have hP8 := (P_le hW).1
  have hmp := hm p
  obtain ⟨ht, -⟩ := tk_lt hW hp hn
  obtain ⟨-, s5⟩ := sr_at hW hp hn hmp
  have es : σ 8 (3 * tk σ p + m p) = nI (sr σ p (m p)) := by
    obtain ⟨s1, hs1, e⟩ := hW.2.1.2.1 (3 * tk σ p + m p) (by omega)
    unfold sr; rw [e, nt_nI (by omega)]
  obtain ⟨w1, w2, w3, w4, w5, w6⟩ := id hq.2.2.2.1
  have h6 : ld 120 (y 6) (nI (3 * tk σ p + m p)) = some (nI (sr σ p (m p))) := by rw [ld_at (by omega) (by decide), w2 _ (by omega), es]
  have h7 : ld 120 (y 7) (nI (3 * tk σ p + m p)) = some (σ 9 (3 * tk σ p + m p)) := by rw [ld_at (by omega) (by decide), w3 _ (by omega)]
  have h8 : ld 120 (y 8) (nI (3 * tk σ p + m p)) = some (σ 10 (3 * tk σ p + m p)) := by rw [ld_at (by omega) (by decide), w4 _ (by omega)]
  have h9 : ld 120 (y 9) (nI (3 * tk σ p + m p)) = some (σ 11 (3 * tk σ p + m p)) := by rw [ld_at (by omega) (by decide), w5 _ (by omega)]
  obtain ⟨f1, f2, f3, f4, f5, f6⟩ := id hf
  obtain ⟨⟨n0, q0, e0⟩, ⟨d, qd, ed⟩, ⟨n2, q2, e2, k2⟩, ⟨n4, q4, e4, k4⟩, -⟩ := id hok
  have nn : ¬ (num σ p = true) := by rw [hn]; decide
  unfold okp stp
  rw [if_neg nn, if_neg nn]
  generalize hj : 3 * tk σ p + m p = j at *
  generalize hs : sr σ p (m p) = s at *
  by_cases c0 : s = 0
  · subst c0
    rw [if_pos rfl]
    have pre : Rch B_X9_reads 108 y [f.1 6, nI p, nI j, b01 (numNext σ p)] 220 y [f.1 6, nI p, nI j] := (g108 h6 (by decide) (by decide) _).tr ((g136 h6 (by decide) (by decide)).tr (g187 h6 (by decide) (by decide)))
    by_cases hz : n2 = 0
    · subst hz
      have e3 : f.1 3 = -1 := k2.elim (fun h => h.2) (fun h => absurd h.1 (by decide))
      refine Or.inl ⟨⟨fun h => absurd h (by decide), fun _ => e2, fun h => absurd h (by decide), fun h => absurd h (by decide)⟩, st y 0 25 (σ 9 j), ?_, sameM.f (by omega), ?_⟩
      · have k6 : ld 120 (st y 0 25 (σ 9 j) 6) (nI j) = some (nI 0) := by rw [st_ne (by decide)]; exact h6
        refine pre.tr (Rch.tr (Rch.one (p' := 248) (x' := st y 0 25 (σ 9 j)) (vs' := [f.1 6, nI p, nI j]) (by decide) ?_) ((g248 k6 (by decide) (by decide)).tr ((g277 k6 (by decide) (by decide)).tr ?_)))
        · show B_X9_reads_220 y _ _ _ = _
          unfold B_X9_reads_220
          rw [h6, bind_some', if_pos (show nI 0 = (0 : Int32) from rfl), f2, e3, if_pos (by decide), h7, bind_some', bind_some']
        · dsimp only
          rw [upd_ne (by decide), upd_ne (by decide)]
          exact g324
      · have z : ∀ i, i ≠ 25 → st y 0 25 (σ 9 j) 0 i = y 0 i := fun i hi => by rw [st_eq, upd_ne hi]
        refine ⟨?_, ?_, ?_, ?_, ?_, ?_⟩
        · dsimp only
          rw [z 24 (by decide)]
          simp (disch := decide) only [upd_ne]
          exact f1
        · dsimp only
          rw [st_eq, upd_eq, upd_eq]
        · dsimp only
          rw [z 26 (by decide), upd_ne (by decide), upd_ne (by decide)]; exact f3
        · rw [z 27 (by decide)]; exact f4
        · rw [z 32 (by decide)]; exact f5
        · simp (disch := decide) only [st_ne]; exact f6
    · obtain ⟨u, hu, e3⟩ : ∃ u, u < nt (σ 1 0) ∧ f.1 3 = nI u := k2.elim (fun h => absurd h.1 hz) (fun h => h.2)
      have hT := T_le hW
      refine Or.inr ⟨fun h => hz (nI_inj (b := 0) (by omega) (by decide) (e2.symm.trans (h.2.1 rfl))), y, pre.tr (Rch.one (by decide) ?_), sameM.rf⟩
      show B_X9_reads_220 y _ _ _ = _
      unfold B_X9_reads_220
      rw [h6, bind_some', if_pos (show nI 0 = (0 : Int32) from rfl), f2, e3, if_neg (nI_pos (by omega))]
  rw [if_neg c0]
  by_cases c1 : s = 1
  · subst c1
    rw [if_pos rfl]
    have pre : Rch B_X9_reads 108 y [f.1 6, nI p, nI j, b01 (numNext σ p)] 277 y [f.1 6, nI p, nI j] := (g108 h6 (by decide) (by decide) _).tr ((g136 h6 (by decide) (by decide)).tr ((g187 h6 (by decide) (by decide)).tr ((g220 h6 (by decide) (by decide)).tr (g248 h6 (by decide) (by decide)))))
    have hth := is9n hW hq hm hp
    by_cases ht1 : thanN σ m p = true
    · rw [if_pos ht1]
      refine Or.inl ⟨⟨fun h => absurd h (by decide), fun h => absurd h (by decide), fun h => absurd h (by decide), fun _ h => by rw [ht1] at h; exact absurd h (by decide)⟩, y, pre.tr (Rch.tr (Rch.one (p' := 324) (x' := y) (vs' := [f.1 6, nI p]) (by decide) ?_) g324), sameM.rf, hf⟩
      show B_X9_reads_277 y _ _ _ = _
      unfold B_X9_reads_277
      rw [h6, bind_some', if_pos (show nI 1 = (1 : Int32) from rfl), hth, bind_some', ht1, if_neg (show ¬ b01 true = 0 by decide)]
    · have ht1' : thanN σ m p = false := by simpa using ht1
      rw [if_neg ht1]
      by_cases hz : n4 = 0
      · subst hz
        have e5 : f.1 5 = -1 := k4.elim (fun h => h.2.1) (fun h => absurd h.1 (by decide))
        refine Or.inl ⟨⟨fun h => absurd h (by decide), fun h => absurd h (by decide), fun h => absurd h (by decide), fun _ _ => e4⟩, st y 0 26 (σ 10 j), pre.tr (Rch.tr (Rch.one (p' := 324) (x' := st y 0 26 (σ 10 j)) (vs' := [σ 9 j, nI p]) (by decide) ?_) ?_), sameM.f (by omega), ?_⟩
        · show B_X9_reads_277 y _ _ _ = _
          unfold B_X9_reads_277
          rw [h6, bind_some', if_pos (show nI 1 = (1 : Int32) from rfl), hth, bind_some', ht1', if_pos (show b01 false = 0 by decide), f3, e5, if_pos (by decide), h8, bind_some', bind_some', st_ne (by decide), h7, bind_some']
        · dsimp only
          rw [upd_ne (by decide), upd_eq]
          exact g324
        · have z : ∀ i, i ≠ 26 → st y 0 26 (σ 10 j) 0 i = y 0 i := fun i hi => by rw [st_eq, upd_ne hi]
          refine ⟨?_, ?_, ?_, ?_, ?_, ?_⟩
          · dsimp only
            rw [z 24 (by decide)]
            simp (disch := decide) only [upd_ne]
            exact f1
          · dsimp only
            rw [z 25 (by decide), upd_ne (by decide), upd_ne (by decide), upd_ne (by decide)]; exact f2
          · dsimp only
            rw [st_eq, upd_eq, upd_eq]
          · rw [z 27 (by decide)]; exact f4
          · rw [z 32 (by decide)]; exact f5
          · simp (disch := decide) only [st_ne]; exact f6
      · obtain ⟨u, cc, hu, hcc, -, e5⟩ : ∃ u c, u < nt (σ 1 0) ∧ c < nt (σ 2 u) ∧ f.1 6 = nI u ∧ f.1 5 = nI c := k4.elim (fun h => absurd h.1 hz) (fun h => h.2)
        have hT := T_le hW
        obtain ⟨cu, hcu, ecu⟩ := hW.1.2.1 u (by omega)
        rw [ecu, nt_nI (by omega)] at hcc
        refine Or.inr ⟨fun h => hz (nI_inj (b := 0) (by omega) (by decide) (e4.symm.trans (h.2.2.2 rfl ht1'))), y, pre.tr (Rch.one (by decide) ?_), sameM.rf⟩
        show B_X9_reads_277 y _ _ _ = _
        unfold B_X9_reads_277
        rw [h6, bind_some', if_pos (show nI 1 = (1 : Int32) from rfl), hth, bind_some', ht1', if_pos (show b01 false = 0 by decide), f3, e5, if_neg (nI_pos (by omega))]
  rw [if_neg c1]
  by_cases c2 : s = 2
  · subst c2
    rw [if_pos rfl]
    have pre : Rch B_X9_reads 108 y [f.1 6, nI p, nI j, b01 (numNext σ p)] 248 y [f.1 6, nI p, nI j] := (g108 h6 (by decide) (by decide) _).tr ((g136 h6 (by decide) (by decide)).tr ((g187 h6 (by decide) (by decide)).tr (g220 h6 (by decide) (by decide))))
    by_cases hz : n0 = 0
    · subst hz
      have f1' : y 0 24 = -1 := by rw [f1, e0, if_pos (show nI 0 = (0 : Int32) from rfl)]
      refine Or.inl ⟨⟨fun h => absurd h (by decide), fun h => absurd h (by decide), fun _ => e0, fun h => absurd h (by decide)⟩, st y 0 24 (σ 9 j), ?_, sameM.f (by omega), ?_⟩
      · have k6 : ld 120 (st y 0 24 (σ 9 j) 6) (nI j) = some (nI 2) := by rw [st_ne (by decide)]; exact h6
        refine pre.tr (Rch.tr (Rch.one (p' := 277) (x' := st y 0 24 (σ 9 j)) (vs' := [f.1 6, nI p, nI j]) (by decide) ?_) ((g277 k6 (by decide) (by decide)).tr ?_))
        · show B_X9_reads_248 y _ _ _ = _
          unfold B_X9_reads_248
          rw [h6, bind_some', if_pos (show nI 2 = (2 : Int32) from rfl), f1', if_pos (by decide), h7, bind_some', bind_some']
        · dsimp only
          rw [upd_ne (by decide), upd_ne (by decide)]
          exact g324
      · have z : ∀ i, i ≠ 24 → st y 0 24 (σ 9 j) 0 i = y 0 i := fun i hi => by rw [st_eq, upd_ne hi]
        refine ⟨?_, ?_, ?_, ?_, ?_, ?_⟩
        · dsimp only
          rw [st_eq, upd_eq]
          simp (disch := decide) only [upd_ne, upd_eq, e0]
          rw [if_neg (show ¬ nI 0 + 1 = (0 : Int32) by decide)]
        · dsimp only
          rw [z 25 (by decide), upd_ne (by decide), upd_ne (by decide)]; exact f2
        · dsimp only
          rw [z 26 (by decide), upd_ne (by decide), upd_ne (by decide)]; exact f3
        · rw [z 27 (by decide)]; exact f4
        · rw [z 32 (by decide)]; exact f5
        · simp (disch := decide) only [st_ne]; exact f6
    · have f1' : y 0 24 = nI d := by
        rw [f1, if_neg (show ¬ f.1 0 = (0 : Int32) from fun h => hz (nI_inj (b := 0) (by omega) (by decide) (e0.symm.trans h))), ed]
      refine Or.inr ⟨fun h => hz (nI_inj (b := 0) (by omega) (by decide) (e0.symm.trans (h.2.2.1 rfl))), y, pre.tr (Rch.one (by decide) ?_), sameM.rf⟩
      show B_X9_reads_248 y _ _ _ = _
      unfold B_X9_reads_248
      rw [h6, bind_some', if_pos (show nI 2 = (2 : Int32) from rfl), f1', if_neg (nI_pos (by omega))]
  rw [if_neg c2]
  by_cases c3 : s = 3
  · subst c3
    rw [if_pos rfl]
    obtain ⟨y', g1, g2, g3⟩ := addT9 (o := org p (m p) 0) (t := σ 9 j) (q := σ 10 j) (h := 2) (n := σ 11 j) hf (by omega)
    have k6 : ld 120 (y' 6) (nI j) = some (nI 3) := by rw [g2.1 6 (by decide) (by decide) (by decide) (by decide) (by decide)]; exact h6
    refine Or.inl ⟨⟨fun h => absurd h (by decide), fun h => absurd h (by decide), fun h => absurd h (by decide), fun h => absurd h (by decide)⟩, y', ?_, g2, g3⟩
    refine (g108 h6 (by decide) (by decide) _).tr ((g136 h6 (by decide) (by decide)).tr (Rch.tr (Rch.one (p' := 220) (x' := y') (vs' := [f.1 6, nI p, nI j]) (by decide) ?_) ((g220 k6 (by decide) (by decide)).tr ((g248 k6 (by decide) (by decide)).tr ((g277 k6 (by decide) (by decide)).tr g324)))))
    show B_X9_reads_187 y _ _ _ = _
    unfold B_X9_reads_187
    rw [h6, bind_some', if_pos (show nI 3 = (3 : Int32) from rfl), h7, bind_some', h8, bind_some', h9, bind_some', g1, bind_some']
  rw [if_neg c3]
  by_cases c4 : s = 4
  · subst c4
    rw [if_pos rfl]
    have hpv := is9p hW hq hm (s := 1) hp (by decide)
    have hpv' : F_X9_is y (nI p - 1) 1 = some (b01 (decide (0 < p) && !num σ (p - 1) && decide (sr σ (p - 1) (m (p - 1)) = 1))) := hpv
    by_cases hall : 0 < p ∧ num σ (p - 1) = false ∧ sr σ (p - 1) (m (p - 1)) = 1 ∧ numNext σ p = true
    · obtain ⟨a1, a2, a3, a4⟩ := hall
      have hb : (decide (0 < p) && !num σ (p - 1) && decide (sr σ (p - 1) (m (p - 1)) = 1)) = true := by simp [a1, a2, a3]
      rw [hb] at hpv'
      rw [if_pos ⟨a1, a2, a4⟩]
      have hmq := hm (p - 1)
      obtain ⟨ht2, -⟩ := tk_lt hW (show p - 1 < nt (σ 13 0) by omega) a2
      have hat : F_X9_at y (nI p - 1) = some (nI (3 * tk σ (p - 1) + m (p - 1))) := by
        obtain ⟨q, rfl⟩ : ∃ q, p = q + 1 := ⟨p - 1, by omega⟩
        rw [Nat.add_sub_cancel] at a2 ⊢
        rw [nI_pred, at9 hW hq hm (by omega), if_neg (by rw [a2]; decide)]
      have hp2 : p + 1 < nt (σ 13 0) := by
        unfold numNext at a4
        simp at a4
        exact a4.1
      obtain ⟨y', g1, g2, g3⟩ := addT9 (o := org p (m p) (m (p - 1))) (t := σ 9 (3 * tk σ (p - 1) + m (p - 1))) (q := σ 10 (3 * tk σ (p - 1) + m (p - 1))) (h := σ 9 j) (n := σ 15 (p + 1)) hf (by omega)
      have k6 : ld 120 (y' 6) (nI j) = some (nI 4) := by rw [g2.1 6 (by decide) (by decide) (by decide) (by decide) (by decide)]; exact h6
      refine Or.inl ⟨⟨fun _ => ⟨a1, a2, a3, a4⟩, fun h => absurd h (by decide), fun h => absurd h (by decide), fun h => absurd h (by decide)⟩, y', ?_, g2, g3⟩
      refine Rch.tr (Rch.one (p' := 136) (x' := y) (vs' := [f.1 6, nI p, nI j]) (by decide) ?_) (Rch.tr (Rch.one (p' := 187) (x' := y') (vs' := [f.1 6, nI p, nI j]) (by decide) ?_) ((g187 k6 (by decide) (by decide)).tr ((g220 k6 (by decide) (by decide)).tr ((g248 k6 (by decide) (by decide)).tr ((g277 k6 (by decide) (by decide)).tr g324)))))
      · show B_X9_reads_108 y _ _ _ _ = _
        unfold B_X9_reads_108
        rw [h6, bind_some', if_pos (show nI 4 = (4 : Int32) from rfl), hpv', bind_some', if_neg (show ¬ b01 true = 0 by decide), a4, if_neg (show ¬ b01 true = 0 by decide)]
      · show B_X9_reads_136 y _ _ _ = _
        unfold B_X9_reads_136
        rw [h6, bind_some', if_pos (show nI 4 = (4 : Int32) from rfl), hat, bind_some', ld_at (by omega) (by decide), bind_some', w3 _ (by omega), ld_at (by omega) (by decide), bind_some', w4 _ (by omega), h7, bind_some', nI_1, ld_at (by omega) (by decide), bind_some', hq.2.2.1 (p + 1) (by omega), g1, bind_some']
    · refine Or.inr ⟨fun h => hall (h.1 rfl), y, Rch.one (by decide) ?_, sameM.rf⟩
      show B_X9_reads_108 y _ _ _ _ = _
      unfold B_X9_reads_108
      rw [h6, bind_some', if_pos (show nI 4 = (4 : Int32) from rfl), hpv', bind_some']
      by_cases hb : (decide (0 < p) && !num σ (p - 1) && decide (sr σ (p - 1) (m (p - 1)) = 1)) = true
      · have hnn : numNext σ p = false := by
          simp at hb
          cases hx : numNext σ p with
          | false => rfl
          | true => exact absurd ⟨hb.1.1, hb.1.2, hb.2, hx⟩ hall
        rw [hb, if_neg (show ¬ b01 true = 0 by decide), hnn, if_pos (show b01 false = 0 by decide)]
      · have hb' : (decide (0 < p) && !num σ (p - 1) && decide (sr σ (p - 1) (m (p - 1)) = 1)) = false := by simpa using hb
        rw [hb', if_pos (show b01 false = 0 by decide)]
  rw [if_neg c4]
  refine Or.inl ⟨⟨fun h => absurd h c4, fun h => absurd h c0, fun h => absurd h c2, fun h => absurd h c1⟩, y, ?_, sameM.rf, hf⟩
  exact (g108 h6 (by omega) c4 _).tr ((g136 h6 (by omega) c4).tr ((g187 h6 (by omega) c3).tr ((g220 h6 (by omega) c0).tr ((g248 h6 (by omega) c2).tr ((g277 h6 (by omega) c1).tr g324)))))
