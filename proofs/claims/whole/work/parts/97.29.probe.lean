/-! linear probing -/
theorem mod_go {M h s : Nat} (hh : h < M) (hs : s < M) : ∃ k, k < M ∧ (h + k) % M = s := by
  by_cases hle : h ≤ s
  · exact ⟨s - h, by omega, by rw [show h + (s - h) = s by omega, Nat.mod_eq_of_lt hs]⟩
  · refine ⟨s + M - h, by omega, ?_⟩
    rw [show h + (s + M - h) = s + M by omega, Nat.add_mod_right, Nat.mod_eq_of_lt hs]
def pInv (M : Nat) (act : Nat → Bool) (val : Nat → Int32) (hs : Int32 → Nat) : Prop := ∀ s, s < M → act s = true → ∃ k, k < M ∧ s = (hs (val s) + k) % M ∧ ∀ i, i < k → act ((hs (val s) + i) % M) = true
theorem probe {M : Nat} {act : Nat → Bool} {val : Nat → Int32} {hs : Int32 → Nat} (hh : ∀ v, hs v < M) (hfree : fb_ct act M < M) (hinv : pInv M act val hs) (v : Int32) : ∃ k, k < M ∧ (∀ i, i < k → act ((hs v + i) % M) = true ∧ val ((hs v + i) % M) ≠ v) ∧ ((act ((hs v + k) % M) = false ∧ ∀ s, s < M → act s = true → val s ≠ v) ∨ (act ((hs v + k) % M) = true ∧ val ((hs v + k) % M) = v)) := by
  have hM : 0 < M := by omega
  obtain ⟨s0, hs0, ha0⟩ : ∃ s, s < M ∧ act s = false := by
    refine Classical.byContradiction (fun hno => ?_)
    have : fb_ct act M = M := fb_ct_all.mpr (fun k hk => by
      cases h : act k
      · exact absurd ⟨k, hk, h⟩ hno
      · rfl)
    omega
  obtain ⟨k0, hk0, e0⟩ := mod_go (hh v) hs0
  obtain ⟨k, hk, hl⟩ := pk_least (fun k => act ((hs v + k) % M) = false ∨ val ((hs v + k) % M) = v) ⟨k0, Or.inl (by rw [e0]; exact ha0)⟩
  have hkM : k < M := by
    refine Classical.byContradiction (fun hno => ?_)
    exact hl k0 (by omega) (Or.inl (by rw [e0]; exact ha0))
  refine ⟨k, hkM, fun i hi => ?_, ?_⟩
  · have h1 := hl i hi
    refine ⟨?_, fun e => h1 (Or.inr e)⟩
    cases h : act ((hs v + i) % M)
    · exact absurd (Or.inl h) h1
    · rfl
  · cases h : act ((hs v + k) % M)
    · refine Or.inl ⟨rfl, fun s hsM ha e => ?_⟩
      obtain ⟨k', hk', es, hp⟩ := hinv s hsM ha
      rw [e] at es hp
      by_cases h1 : k' < k
      · exact hl k' h1 (Or.inr (by rw [← es]; exact e))
      · by_cases h2 : k' = k
        · rw [h2] at es
          rw [es, h] at ha
          exact absurd ha (by decide)
        · have := hp k (by omega)
          rw [h] at this
          exact absurd this (by decide)
    · rcases hk with h2 | h2
      · rw [h] at h2; exact absurd h2 (by decide)
      · exact Or.inr ⟨rfl, h2⟩
theorem pInv_add {M : Nat} {act act' : Nat → Bool} {val val' : Nat → Int32} {hs : Int32 → Nat} {v : Int32} {k : Nat} (hk : k < M) (hinv : pInv M act val hs) (hp : ∀ i, i < k → act ((hs v + i) % M) = true) (ha : ∀ s, s < M → act' s = (act s || decide (s = (hs v + k) % M))) (hv : ∀ s, s < M → val' s = if s = (hs v + k) % M then v else val s) : pInv M act' val' hs := by
  have hM : 0 < M := by omega
  intro s hs1 ha1
  rw [hv s hs1]
  by_cases e : s = (hs v + k) % M
  · rw [if_pos e]
    refine ⟨k, hk, e, fun i hi => ?_⟩
    rw [ha _ (Nat.mod_lt _ hM), hp i hi]
    rfl
  · rw [if_neg e]
    rw [ha s hs1] at ha1
    have ha2 : act s = true := by simpa [e] using ha1
    obtain ⟨k', hk', es, hp'⟩ := hinv s hs1 ha2
    refine ⟨k', hk', es, fun i hi => ?_⟩
    rw [ha _ (Nat.mod_lt _ hM), hp' i hi]
    rfl
theorem ct_add {M i : Nat} {act act' : Nat → Bool} (hi : i < M) (h : act i = false) (ha : ∀ s, s < M → act' s = (act s || decide (s = i))) : fb_ct act' M = fb_ct act M + 1 := by
  have h1 : fb_ct act' M = fb_ct (fun k => if k = i then true else act k) M := fb_ct_cong (fun s hs => by
    rw [ha s hs]
    by_cases e : s = i
    · simp [e]
    · simp [e])
  have h2 := fb_ct_upd act true hi
  rw [h] at h2
  rw [h1]
  simpa using h2
/-! NumberSet -/
theorem nI_bv (x : Int32) : x = nI x.toBitVec.toNat := by
  apply Int32.toBitVec_inj.1
  apply BitVec.eq_of_toNat_eq
  rw [pk_tn x.toBitVec.isLt]
def hs8 (v : Int32) : Nat := (v * (-1640531535 : Int32)).toBitVec.toNat / 2 ^ 19
theorem hs8_lt (v : Int32) : hs8 v < 8192 := by
  have := (v * (-1640531535 : Int32)).toBitVec.isLt
  unfold hs8
  omega
theorem hs8_eq (v : Int32) : ((Int32.toUInt32 (v * (-1640531535 : Int32)) >>> (Int32.toUInt32 (19 : Int32) &&& Int32.toUInt32 31)).toInt32) = nI (hs8 v) := by
  rw [nI_bv ((Int32.toUInt32 (v * (-1640531535 : Int32)) >>> (Int32.toUInt32 (19 : Int32) &&& Int32.toUInt32 31)).toInt32), pk_ushr _ _ 19 (by decide)]
  rfl
def ac8 (x : Mem) (s : Nat) : Bool := decide (x 32 s = x 30 2)
def NS (x : Mem) (m : Nat) (S : Int32 → Bool) : Prop := x 30 3 = nI m ∧ fb_ct (ac8 x) 8192 = m ∧ (∀ s, s < 8192 → ac8 x s = true → S (x 31 s) = true) ∧ (∀ v, S v = true → ∃ s, s < 8192 ∧ ac8 x s = true ∧ x 31 s = v) ∧ pInv 8192 (ac8 x) (x 31) hs8
def RK (k : Nat) (x : Mem) : Prop := x 30 2 = nI k ∧ ∀ s, s < 8192 → ∃ j, j ≤ k ∧ x 32 s = nI j
theorem add8 {x : Mem} {m k : Nat} {S : Int32 → Bool} (hN : NS x m S) (hm : m < 8192) (hk : RK k x) (v : Int32) : ∃ x', F_X4_add x v = some x' ∧ (∀ j, j ≠ 30 → j ≠ 31 → j ≠ 32 → x' j = x j) ∧ RK k x' ∧ NS x' (if S v = true then m else m + 1) (fun u => S u || decide (u = v)) := by
  obtain ⟨h3, hct, hS1, hS2, hinv⟩ := id hN
  obtain ⟨q, hq, hpath, hend⟩ := probe hs8_lt (by rw [hct]; exact hm) hinv v
  have hmod : ∀ z, z % 8192 < 8192 := fun z => Nat.mod_lt _ (by decide)
  have nx : ∀ z, z < 8192 → (nI z + (1 : Int32)) - (nI z + (1 : Int32)) / (8192 : Int32) * (8192 : Int32) = nI ((z + 1) % 8192) := fun z hz => by
    rw [nI_1]
    exact pk_rem (d := 8192) (by omega) (by decide) (by decide)
  obtain ⟨y, vs', hr, h1, h2⟩ := Rch.loop0 (B := B_X4_add) (h := 10) (x := x) (vs := [v, nI ((hs8 v + 0) % 8192), nI 0]) (fun i y vs => vs = [v, nI ((hs8 v + i) % 8192), nI i] ∧ y = x) q ⟨rfl, rfl⟩ (fun i hi y vs hI => by
    obtain ⟨rfl, rfl⟩ := hI
    obtain ⟨p1, p2⟩ := hpath i hi
    refine ⟨_, _, Rch.one (p' := 10) (x' := y) (vs' := [v, nI ((hs8 v + (i + 1)) % 8192), nI (i + 1)]) (by decide) ?_, rfl, rfl⟩
    show B_X4_add_10 y _ _ _ = _
    unfold B_X4_add_10
    have p1' : y 32 ((hs8 v + i) % 8192) = y 30 2 := by simpa [ac8] using p1
    rw [if_neg (show ¬ (8192 : Int32) ≤ nI i from nI_ge (b := 8192) (by omega) (by decide)), ld_at (hmod _) (by decide), bind_some', if_pos p1', ld_at (hmod _) (by decide), bind_some', if_neg p2, bind_some', nx _ (hmod _), nI_1, Nat.mod_add_mod]
    rfl)
  have h0 : B_X4_add_0 x v = some (10, x, [v, nI ((hs8 v + 0) % 8192), nI 0]) := by
    unfold B_X4_add_0
    rw [hs8_eq, bind_some', Nat.add_zero, Nat.mod_eq_of_lt (hs8_lt v)]
    rfl
  have hto : Rch B_X4_add 0 x [v] 10 x [v, nI ((hs8 v + q) % 8192), nI q] := by
    rw [h1, h2] at hr
    exact Rch.tr (Rch.one (by decide) h0) hr
  have hlt : ¬ (8192 : Int32) ≤ nI q := nI_ge (b := 8192) (by omega) (by decide)
  rcases hend with ⟨e1, e2⟩ | ⟨e1, e2⟩
  · have e1' : ¬ x 32 ((hs8 v + q) % 8192) = x 30 2 := by simpa [ac8] using e1
    have hSv : S v = false := by
      cases h : S v
      · rfl
      · obtain ⟨s, hs, ha, hv⟩ := hS2 v h
        exact absurd hv (e2 s hs ha)
    have hqM := hmod (hs8 v + q)
    refine ⟨st (st (st x 32 ((hs8 v + q) % 8192) (x 30 2)) 31 ((hs8 v + q) % 8192) v) 30 3 (nI (m + 1)), ?_, fun j a b c => by rw [st_ne a, st_ne b, st_ne c], ?_, ?_⟩
    · refine fin_V (vs' := []) (Rch.tr hto (Rch.one (by decide) ?_))
      show B_X4_add_10 x _ _ _ = _
      unfold B_X4_add_10
      rw [if_neg hlt, ld_at hqM (by decide), bind_some', if_neg e1', sto_at hqM (by decide), bind_some', sto_at hqM (by decide), bind_some', st_ne (show (30 : Nat) ≠ 31 by decide), st_ne (show (30 : Nat) ≠ 32 by decide), h3, nI_1, bind_some']
    · refine ⟨by rw [st_eq, upd_ne (by decide), st_ne (by decide), st_ne (by decide)]; exact hk.1, fun s hs => ?_⟩
      rw [st_ne (by decide), st_ne (by decide), st_eq]
      by_cases e : s = (hs8 v + q) % 8192
      · rw [e, upd_eq, hk.1]; exact ⟨k, Nat.le_refl _, rfl⟩
      · rw [upd_ne e]; exact hk.2 s hs
    · have ha : ∀ s, ac8 (st (st (st x 32 ((hs8 v + q) % 8192) (x 30 2)) 31 ((hs8 v + q) % 8192) v) 30 3 (nI (m + 1))) s = (ac8 x s || decide (s = (hs8 v + q) % 8192)) := fun s => by
        unfold ac8
        rw [st_ne (show (32 : Nat) ≠ 30 by decide), st_ne (show (32 : Nat) ≠ 31 by decide), st_eq, st_eq, upd_ne (show (2 : Nat) ≠ 3 by decide), st_ne (show (30 : Nat) ≠ 31 by decide), st_ne (show (30 : Nat) ≠ 32 by decide)]
        by_cases e : s = (hs8 v + q) % 8192
        · rw [e, upd_eq]; simp
        · rw [upd_ne e]; simp [e]
      have hv : ∀ s, (st (st (st x 32 ((hs8 v + q) % 8192) (x 30 2)) 31 ((hs8 v + q) % 8192) v) 30 3 (nI (m + 1))) 31 s = if s = (hs8 v + q) % 8192 then v else x 31 s := fun s => by
        rw [st_ne (by decide), st_eq, st_ne (by decide)]
        rfl
      rw [hSv, if_neg (by decide)]
      refine ⟨by rw [st_eq, upd_eq], ?_, fun s hs h => ?_, fun u hu => ?_, pInv_add hq hinv (fun i hi => (hpath i hi).1) (fun s _ => ha s) (fun s _ => hv s)⟩
      · exact (ct_add hqM e1 (fun s _ => ha s)).trans (congrArg (· + 1) hct)
      · rw [hv s]
        by_cases e : s = (hs8 v + q) % 8192
        · rw [if_pos e]; simp
        · rw [if_neg e]
          rw [ha s] at h
          have h' : ac8 x s = true := by simpa [e] using h
          show (S (x 31 s) || _) = true
          rw [hS1 s hs h']; rfl
      · by_cases e : u = v
        · exact ⟨_, hqM, by rw [ha]; simp, by rw [hv, if_pos rfl, e]⟩
        · have hu' : S u = true := by simpa [e] using hu
          obtain ⟨s, hs, h1, h2⟩ := hS2 u hu'
          refine ⟨s, hs, by rw [ha, h1]; rfl, ?_⟩
          rw [hv, if_neg]
          · exact h2
          · intro e'
            rw [e', e1] at h1
            exact absurd h1 (by decide)
  · have e1' : x 32 ((hs8 v + q) % 8192) = x 30 2 := by simpa [ac8] using e1
    have hSv : S v = true := by
      have := hS1 _ (hmod _) e1
      rw [e2] at this
      exact this
    refine ⟨x, ?_, fun j _ _ _ => rfl, hk, ?_⟩
    · refine fin_V (vs' := []) (Rch.tr hto (Rch.one (by decide) ?_))
      show B_X4_add_10 x _ _ _ = _
      unfold B_X4_add_10
      rw [if_neg hlt, ld_at (hmod _) (by decide), bind_some', if_pos e1', ld_at (hmod _) (by decide), bind_some', if_pos e2]
    · rw [hSv, if_pos rfl, show (fun u => S u || decide (u = v)) = S from funext (fun u => by
        by_cases e : u = v
        · rw [e, hSv]; rfl
        · simp [e])]
      exact hN
theorem empty8 {x : Mem} {k : Nat} (hk : RK k x) (hk2 : k < 1000000) : ∃ x', F_X4_empty x = some x' ∧ (∀ j, j ≠ 30 → x' j = x j) ∧ RK (k + 1) x' ∧ NS x' 0 (fun _ => false) := by
  refine ⟨st (st x 30 2 (nI (k + 1))) 30 3 0, ?_, fun j hj => by rw [st_ne hj, st_ne hj], ?_, ?_⟩
  · unfold F_X4_empty
    rw [hk.1, nI_1, bind_some', bind_some']
  · refine ⟨by rw [st_eq, upd_ne (by decide), st_eq, upd_eq], fun s hs => ?_⟩
    rw [st_ne (by decide), st_ne (by decide)]
    obtain ⟨j, hj, e⟩ := hk.2 s hs
    exact ⟨j, by omega, e⟩
  · have hno : ∀ s, s < 8192 → ac8 (st (st x 30 2 (nI (k + 1))) 30 3 0) s = false := fun s hs => by
      unfold ac8
      rw [st_ne (show (32 : Nat) ≠ 30 by decide), st_ne (show (32 : Nat) ≠ 30 by decide), st_eq, upd_ne (by decide), st_eq, upd_eq]
      obtain ⟨j, hj, e⟩ := hk.2 s hs
      rw [e]
      simp only [decide_eq_false_iff_not]
      exact fun h => by have := nI_inj (by omega) (by omega) h; omega
    refine ⟨by rw [st_eq, upd_eq]; rfl, fb_ct_zero.mpr hno, fun s hs h => ?_, fun v h => by simp at h, fun s hs h => ?_⟩
    · rw [hno s hs] at h; exact absurd h (by decide)
    · rw [hno s hs] at h; exact absurd h (by decide)
