/-! TESTS: what the form of a READING is -/
/-- the TEST that comes from o (place, meaning there, meaning before) -/
def tO (σ : Mem) (o : Nat) : Nat → Int32 :=
  if sr σ (o / 9) (o / 3 % 3) = 3 then tst (nI o) (σ 9 (3 * tk σ (o / 9) + o / 3 % 3)) (σ 10 (3 * tk σ (o / 9) + o / 3 % 3)) 2 (σ 11 (3 * tk σ (o / 9) + o / 3 % 3))
  else tst (nI o) (σ 9 (3 * tk σ (o / 9 - 1) + o % 3)) (σ 10 (3 * tk σ (o / 9 - 1) + o % 3)) (σ 9 (3 * tk σ (o / 9) + o / 3 % 3)) (σ 15 (o / 9 + 1))
theorem tO_0 (σ : Mem) (o : Nat) : tO σ o 0 = nI o := by
  unfold tO
  split <;> rfl
theorem tO_all {σ : Mem} {m : Nat → Nat} (hm : ∀ q, m q < 3) : ∀ p, p ≤ 8 → ∀ t, t ∈ (fsN σ m p).2 → ∃ o, o < 72 ∧ t = tO σ o
  | 0, _, t, h => by simp [fsN, fs0] at h
  | p + 1, hp, t, h => by
    have ih := tO_all (σ := σ) hm p (by omega)
    have h1 := hm p
    have h2 := hm (p - 1)
    unfold fsN stp at h
    by_cases hn : num σ p = true
    · rw [if_pos hn] at h; exact ih t h
    rw [if_neg hn] at h
    by_cases c0 : sr σ p (m p) = 0
    · rw [if_pos c0] at h; exact ih t h
    rw [if_neg c0] at h
    by_cases c1 : sr σ p (m p) = 1
    · rw [if_pos c1] at h
      by_cases ct : thanN σ m p = true
      · rw [if_pos ct] at h; exact ih t h
      · rw [if_neg ct] at h; exact ih t h
    rw [if_neg c1] at h
    by_cases c2 : sr σ p (m p) = 2
    · rw [if_pos c2] at h; exact ih t h
    rw [if_neg c2] at h
    by_cases c3 : sr σ p (m p) = 3
    · rw [if_pos c3] at h
      rcases List.mem_append.mp h with h | h
      · exact ih t h
      · refine ⟨(p * 3 + m p) * 3 + 0, by omega, ?_⟩
        rw [List.mem_singleton.mp h]
        unfold tO org
        rw [show ((p * 3 + m p) * 3 + 0) / 9 = p by omega, show ((p * 3 + m p) * 3 + 0) / 3 % 3 = m p by omega, if_pos c3]
    rw [if_neg c3] at h
    by_cases c4 : sr σ p (m p) = 4
    · rw [if_pos c4] at h
      by_cases ct : 0 < p ∧ num σ (p - 1) = false ∧ numNext σ p = true
      · rw [if_pos ct] at h
        rcases List.mem_append.mp h with h | h
        · exact ih t h
        · refine ⟨(p * 3 + m p) * 3 + m (p - 1), by omega, ?_⟩
          rw [List.mem_singleton.mp h]
          unfold tO org
          rw [show ((p * 3 + m p) * 3 + m (p - 1)) / 9 = p by omega, show ((p * 3 + m p) * 3 + m (p - 1)) / 3 % 3 = m p by omega, if_neg c3, show ((p * 3 + m p) * 3 + m (p - 1)) % 3 = m (p - 1) by omega]
      · rw [if_neg ct] at h; exact ih t h
    rw [if_neg c4] at h
    exact ih t h
/-- what a form is that stands, of table fr -/
def SF (σ : Mem) (f : FS) (fr : Nat) : Prop := fr < nt (σ 1 0) ∧ f.1 3 = nI fr ∧ f.2.length ≤ 8 ∧ (∃ d, d < 4 ∧ f.1 1 = nI d) ∧ (f.1 1 ≠ 0 → ∃ c, c < nt (σ 2 fr) ∧ f.1 5 = nI c) ∧ ∀ t, t ∈ f.2 → okT σ t ∧ (t 1 ≠ nI fr → ∃ c, c < nt (σ 2 fr) ∧ lk σ fr (t 1) = nI c) ∧ ∃ o, o < 72 ∧ t = tO σ o
theorem tO_c {σ σ' : Mem} (h : ∀ k, k < 16 → σ' k = σ k) : tO σ' = tO σ := by
  funext o
  unfold tO
  rw [sr_c h, tk_c h, h 9 (by decide), h 10 (by decide), h 11 (by decide), h 15 (by decide)]
theorem SF_c {σ σ' : Mem} (h : ∀ k, k < 16 → σ' k = σ k) : SF σ' = SF σ := by
  funext f fr
  unfold SF okT lk
  rw [tO_c h, h 1 (by decide), h 2 (by decide), h 4 (by decide)]
theorem fsE_ne {f : FS} {j : Nat} (h : j ≠ 3) : (fsE f).1 j = f.1 j := by
  unfold fsE
  split
  · exact upd_ne h
  · rfl
theorem fsE_2 {f : FS} : (fsE f).2 = f.2 := by
  unfold fsE
  split <;> rfl
theorem SF_of {σ : Mem} (hW : WF σ) {w : Nat} (hw : w ∈ Rd σ) : ∃ fr, SF σ (fm σ w) fr := by
  obtain ⟨hwl, hst⟩ := List.mem_filter.mp hw
  have hP8 := (P_le hW).1
  obtain ⟨-, ⟨d, hd, ed⟩, -, ⟨n4, hn4, e4, k4⟩, kT⟩ := okF_all hW (Lw_vm hwl) _ (Nat.le_refl _)
  have hlen := fm_len hW w
  have hfr := fm_from hW hwl
  have hO := tO_all (σ := σ) (m := dg (nt (σ 13 0)) w) (fun q => dg_lt _ _ q) (nt (σ 13 0)) hP8
  unfold fm at hst hlen hfr ⊢
  generalize fsN σ (dg (nt (σ 13 0)) w) (nt (σ 13 0)) = f at *
  unfold stS at hst
  simp only [Bool.and_eq_true, Bool.not_eq_true', decide_eq_false_iff_not, decide_eq_true_eq, Bool.or_eq_true, beq_iff_eq] at hst
  obtain ⟨-, -, -, s3, s4, s5, s6⟩ := hst
  rcases hfr with h | ⟨fr, hfr, efr⟩
  · exact absurd h (nneg.mp s3)
  refine ⟨fr, hfr, efr, hlen, ⟨d, hd, by rw [fsE_ne (by decide)]; exact ed⟩, fun h1 => ?_, fun t ht => ?_⟩
  · rw [fsE_ne (by decide)] at h1
    rw [fsE_ne (j := 4) (by decide), fsE_ne (j := 1) (by decide)] at s4
    have h4 : f.1 4 = 1 := by
      have : (!decide (f.1 1 = 0)) = true := by simp [h1]
      rw [this] at s4
      simpa using s4
    rw [fsE_ne (j := 4) (by decide), fsE_ne (j := 6) (by decide)] at s5
    have h6 := s5.resolve_left (fun hh => by simp [h4] at hh)
    rcases k4 with ⟨rfl, -, -⟩ | ⟨-, u, c, hu, hc, e6, e5⟩
    · rw [e4] at h4; exact absurd h4 (by decide)
    · rw [e6, efr] at h6
      have hT := T_le hW
      have : u = fr := nI_inj (by omega) (by omega) h6
      subst this
      exact ⟨c, hc, by rw [fsE_ne (by decide)]; exact e5⟩
  · rw [fsE_2] at ht
    refine ⟨kT t ht, fun h1 => ?_, hO t ht⟩
    unfold rchF at s6
    have := List.all_eq_true.mp s6 t (by rw [fsE_2]; exact ht)
    simp only [Bool.or_eq_true, decide_eq_true_eq] at this
    have hT := T_le hW
    rcases this with h | h
    · rw [efr] at h; exact absurd h h1
    · rw [efr, nt_nI (by omega)] at h
      unfold lk at h ⊢
      rcases lkR_spec (K := σ 4) (b := 4 * fr) (t := t 1) (nt (σ 2 fr)) 0 with h2 | ⟨e, -, h3, -, h4⟩
      · rw [h2] at h; exact absurd h (by decide)
      · exact ⟨e, by omega, h4⟩
/-! the value that a TEST looks at in row r of table fr; whether it holds -/
def tv (σ : Mem) (fr : Nat) (t : Nat → Int32) (r : Nat) : Int32 :=
  if t 1 = nI fr then σ 5 ((20 * fr + r) * 4 + nt (t 2)) else
  if σ 5 ((20 * fr + r) * 4 + nt (lk σ fr (t 1))) < 0 then -1000000 else
  if σ 3 (nt (t 1)) ≤ σ 5 ((20 * fr + r) * 4 + nt (lk σ fr (t 1))) then -1000000 else σ 5 ((20 * nt (t 1) + nt (σ 5 ((20 * fr + r) * 4 + nt (lk σ fr (t 1))))) * 4 + nt (t 2))
noncomputable def hB (σ : Mem) (fr : Nat) (t : Nat → Int32) (r : Nat) : Bool := !decide (tv σ fr t r = -1000000) && !decide (F_X1_holds (tv σ fr t r) (t 3) (t 4) = 0)
theorem hB_c {σ σ' : Mem} (h : ∀ k, k < 16 → σ' k = σ k) : hB σ' = hB σ := by
  funext fr t r
  unfold hB tv lk
  rw [h 2 (by decide), h 3 (by decide), h 4 (by decide), h 5 (by decide)]
/-- the k-th TEST -/
def ft (f : FS) (k : Nat) : Nat → Int32 := (f.2[k]?).getD (fun _ => 0)
theorem ft_at {f : FS} {k : Nat} (h : k < f.2.length) : f.2[k]? = some (ft f k) := by
  unfold ft
  rw [List.getElem?_eq_getElem h]
  rfl
theorem ft_mem {f : FS} {k : Nat} (h : k < f.2.length) : ft f k ∈ f.2 := List.mem_of_getElem? (ft_at h)
def al (p : Nat → Bool) : Nat → Bool
  | 0 => true
  | n + 1 => al p n && p n
theorem al_iff {p : Nat → Bool} : ∀ n, al p n = true ↔ ∀ k, k < n → p k = true
  | 0 => ⟨fun _ k h => absurd h (by omega), fun _ => rfl⟩
  | n + 1 => by
    unfold al
    rw [Bool.and_eq_true, al_iff n]
    constructor
    · intro h k hk
      by_cases e : k = n
      · rw [e]; exact h.2
      · exact h.1 k (by omega)
    · intro h
      exact ⟨fun k hk => h k (by omega), h n (by omega)⟩
/-- row r is found without the TESTS of the mask N -/
noncomputable def fBm (σ : Mem) (f : FS) (fr N r : Nat) : Bool := al (fun k => N.testBit k || hB σ fr (ft f k) r) f.2.length
theorem fBm_c {σ σ' : Mem} (h : ∀ k, k < 16 → σ' k = σ k) : fBm σ' = fBm σ := by
  funext f fr N r
  unfold fBm
  rw [hB_c h]
