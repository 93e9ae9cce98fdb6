/-! READINGS: the words of it, over the class's memory -/
def num (σ : Mem) (p : Nat) : Bool := decide (σ 14 p ≠ 0)
def tk (σ : Mem) (p : Nat) : Nat := nt (σ 15 p)
def mny (σ : Mem) (p : Nat) : Nat := nt (σ 7 (tk σ p))
def sr (σ : Mem) (p m : Nat) : Nat := nt (σ 8 (3 * tk σ p + m))
def cs (σ : Mem) (p m : Nat) : Nat := nt (σ 12 (3 * tk σ p + m))
def hasPrev (σ : Mem) (p w s : Nat) : Bool := decide (0 < p) && !num σ (p - 1) && decide (sr σ (p - 1) (w % 3) = s)
def numNext (σ : Mem) (p : Nat) : Bool := decide (p + 1 < nt (σ 13 0)) && num σ (p + 1)
def alw (σ : Mem) (p w m : Nat) : Bool := if num σ p then decide (m = 0) && hasPrev σ p w 4 else decide (m < mny σ p) && (!decide (sr σ p m = 4) || (numNext σ p && hasPrev σ p w 1))
def Lw (σ : Mem) : Nat → List Nat
  | 0 => [0]
  | p + 1 => (Lw σ p).flatMap (fun w => ((List.range 3).filter (alw σ p w)).map (fun m => 3 * w + m))
def kM : Nat → Nat → Nat
  | 0, _ => 0
  | p + 1, w => kM p (w / 3) + (w % 3) * 4 ^ (7 - p)
def kC (σ : Mem) : Nat → Nat → Nat
  | 0, _ => 0
  | p + 1, w => kC σ p (w / 3) + (if num σ p then 0 else cs σ p (w % 3))
def key (σ : Mem) (p w : Nat) : Nat := kC σ p w * 65536 + kM p w
def dg (p w q : Nat) : Nat := w / 3 ^ (p - 1 - q) % 3
theorem num_f {σ : Mem} {p : Nat} (hn : num σ p = false) : σ 14 p = nI 0 := by
  have h : σ 14 p = 0 := by simpa [num] using hn
  exact h
theorem meanIn {k q : Nat} (hk : k < 2147483648) (hq : q < 8) : F_X5_meaningIn (nI k) (nI q) = nI (k / 4 ^ (7 - q) % 4) := by
  unfold F_X5_meaningIn
  have e3 : (3 : Int32).toBitVec.toNat = 2 ^ 2 - 1 := by decide
  have hd : ∀ d, k / d < 2 ^ 32 := fun d => Nat.lt_of_le_of_lt (Nat.div_le_self _ _) (by omega)
  have : q = 0 ∨ q = 1 ∨ q = 2 ∨ q = 3 ∨ q = 4 ∨ q = 5 ∨ q = 6 ∨ q = 7 := by omega
  rcases this with rfl | rfl | rfl | rfl | rfl | rfl | rfl | rfl
  · rw [pk_shrN hk _ 14 (by decide), pk_andN (hd _) 2 e3]
  · rw [pk_shrN hk _ 12 (by decide), pk_andN (hd _) 2 e3]
  · rw [pk_shrN hk _ 10 (by decide), pk_andN (hd _) 2 e3]
  · rw [pk_shrN hk _ 8 (by decide), pk_andN (hd _) 2 e3]
  · rw [pk_shrN hk _ 6 (by decide), pk_andN (hd _) 2 e3]
  · rw [pk_shrN hk _ 4 (by decide), pk_andN (hd _) 2 e3]
  · rw [pk_shrN hk _ 2 (by decide), pk_andN (hd _) 2 e3]
  · rw [pk_shrN hk _ 0 (by decide), pk_andN (hd _) 2 e3]
theorem keyPart {p m c : Nat} (hp : p < 8) (hm : m < 3) (hc : c ≤ 99) : F_X5_keyPart (nI p) (nI m) (nI c) = nI (c * 65536 + m * 4 ^ (7 - p)) := by
  unfold F_X5_keyPart
  rw [pk_shlN (n := c) ((16 : Int32) &&& 31) 16 (by decide) (by omega)]
  have : p = 0 ∨ p = 1 ∨ p = 2 ∨ p = 3 ∨ p = 4 ∨ p = 5 ∨ p = 6 ∨ p = 7 := by omega
  rcases this with rfl | rfl | rfl | rfl | rfl | rfl | rfl | rfl
  · rw [pk_shlN (n := m) _ 14 (by decide) (by omega), nI_add]
  · rw [pk_shlN (n := m) _ 12 (by decide) (by omega), nI_add]
  · rw [pk_shlN (n := m) _ 10 (by decide) (by omega), nI_add]
  · rw [pk_shlN (n := m) _ 8 (by decide) (by omega), nI_add]
  · rw [pk_shlN (n := m) _ 6 (by decide) (by omega), nI_add]
  · rw [pk_shlN (n := m) _ 4 (by decide) (by omega), nI_add]
  · rw [pk_shlN (n := m) _ 2 (by decide) (by omega), nI_add]
  · rw [pk_shlN (n := m) _ 0 (by decide) (by omega), nI_add]
theorem cs_le {σ : Mem} (hW : WF σ) {p m : Nat} (hp : p < nt (σ 13 0)) (hn : num σ p = false) (hm : m < 3) : cs σ p m ≤ 99 ∧ σ 12 (3 * tk σ p + m) = nI (cs σ p m) := by
  obtain ⟨hWt, hWw, hWl⟩ := id hW
  obtain ⟨⟨P, hP8, hP⟩, l2, l3, -⟩ := id hWl
  have nP : nt (σ 13 0) = P := by rw [hP, nt_nI (by omega)]
  have h0 : σ 14 p = nI 0 := num_f hn
  obtain ⟨w, hw, e⟩ := l3 p hp h0
  have ht : tk σ p = w := by unfold tk; rw [e, nt_nI (by omega)]
  obtain ⟨q, hq, e2⟩ := hWw.2.2.2.2.1 (3 * w + m) (by omega)
  unfold cs
  rw [ht, e2, nt_nI (by omega)]
  exact ⟨hq, rfl⟩
theorem tk_lt {σ : Mem} (hW : WF σ) {p : Nat} (hp : p < nt (σ 13 0)) (hn : num σ p = false) : tk σ p < 40 ∧ σ 15 p = nI (tk σ p) := by
  obtain ⟨-, l2, l3, -⟩ := id hW.2.2
  have h0 : σ 14 p = nI 0 := num_f hn
  obtain ⟨w, hw, e⟩ := l3 p hp h0
  have ht : tk σ p = w := by unfold tk; rw [e, nt_nI (by omega)]
  rw [ht]
  exact ⟨hw, e⟩
theorem kM_mul (w : Nat) : ∀ p, p ≤ 8 → ∃ z, kM p w = z * 4 ^ (8 - p) ∧ kM p w < 65536 := by
  intro p
  induction p generalizing w with
  | zero => intro _; exact ⟨0, rfl, show 0 < 65536 by decide⟩
  | succ p ih =>
    intro hp
    obtain ⟨z, hz, hlt⟩ := ih (w / 3) (by omega)
    have hm : w % 3 < 3 := Nat.mod_lt _ (by decide)
    unfold kM
    generalize w % 3 = m at hm
    generalize kM p (w / 3) = K at hz hlt
    have : p = 0 ∨ p = 1 ∨ p = 2 ∨ p = 3 ∨ p = 4 ∨ p = 5 ∨ p = 6 ∨ p = 7 := by omega
    rcases this with rfl | rfl | rfl | rfl | rfl | rfl | rfl | rfl <;> simp only [Nat.reduceSub, Nat.reducePow, Nat.reduceAdd] at hz ⊢
    · exact ⟨4 * z + m, by omega, by omega⟩
    · exact ⟨4 * z + m, by omega, by omega⟩
    · exact ⟨4 * z + m, by omega, by omega⟩
    · exact ⟨4 * z + m, by omega, by omega⟩
    · exact ⟨4 * z + m, by omega, by omega⟩
    · exact ⟨4 * z + m, by omega, by omega⟩
    · exact ⟨4 * z + m, by omega, by omega⟩
    · exact ⟨4 * z + m, by omega, by omega⟩
theorem kC_le {σ : Mem} (hW : WF σ) : ∀ p w, p ≤ nt (σ 13 0) → kC σ p w ≤ 99 * p := by
  intro p
  induction p with
  | zero => intro w _; exact Nat.le_refl _
  | succ p ih =>
    intro w hp
    have h1 := ih (w / 3) (by omega)
    unfold kC
    by_cases hn : num σ p = true
    · rw [if_pos hn]; omega
    · rw [if_neg hn]
      have := (cs_le hW (m := w % 3) (show p < nt (σ 13 0) by omega) (by simpa using hn) (Nat.mod_lt _ (by decide))).1
      omega
theorem P_le {σ : Mem} (hW : WF σ) : nt (σ 13 0) ≤ 8 ∧ σ 13 0 = nI (nt (σ 13 0)) := by
  obtain ⟨⟨P, hP8, hP⟩, -⟩ := id hW.2.2
  rw [hP, nt_nI (by omega)]
  exact ⟨hP8, rfl⟩
theorem key_lt {σ : Mem} (hW : WF σ) {p w : Nat} (hp : p ≤ nt (σ 13 0)) : key σ p w < 60000000 := by
  have h1 := kC_le hW p w hp
  obtain ⟨z, -, h2⟩ := kM_mul w p (by have := (P_le hW).1; omega)
  have := (P_le hW).1
  unfold key
  omega
theorem key_cost {σ : Mem} (hW : WF σ) {p w : Nat} (hp : p ≤ nt (σ 13 0)) : key σ p w / 65536 = kC σ p w := by
  obtain ⟨z, -, h2⟩ := kM_mul w p (by have := (P_le hW).1; omega)
  unfold key
  omega
theorem kM_dig (w : Nat) : ∀ p q, p ≤ 8 → q < p → kM p w / 4 ^ (7 - q) % 4 = dg p w q := by
  intro p
  induction p generalizing w with
  | zero => intro q _ h; omega
  | succ p ih =>
    intro q hp hq
    obtain ⟨z, hz, hlt⟩ := kM_mul (w / 3) p (by omega)
    have hm : w % 3 < 3 := Nat.mod_lt _ (by decide)
    by_cases hqp : q = p
    · subst hqp
      have hd : dg (q + 1) w q = w % 3 := by unfold dg; simp
      rw [hd]
      unfold kM
      generalize w % 3 = m at hm ⊢
      generalize kM q (w / 3) = K at hz hlt ⊢
      have : q = 0 ∨ q = 1 ∨ q = 2 ∨ q = 3 ∨ q = 4 ∨ q = 5 ∨ q = 6 ∨ q = 7 := by omega
      rcases this with rfl | rfl | rfl | rfl | rfl | rfl | rfl | rfl <;> simp only [Nat.reduceSub, Nat.reducePow, Nat.reduceAdd] at hz ⊢ <;> omega
    · have hd : dg (p + 1) w q = dg p (w / 3) q := by
        unfold dg
        rw [show p + 1 - 1 - q = (p - 1 - q) + 1 by omega, Nat.pow_succ, Nat.mul_comm, Nat.div_div_eq_div_mul]
      rw [hd, ← ih (w / 3) q (by omega) (by omega)]
      show (kM p (w / 3) + (w % 3) * 4 ^ (7 - p)) / 4 ^ (7 - q) % 4 = _
      generalize w % 3 = m at hm ⊢
      generalize kM p (w / 3) = K at hz hlt ⊢
      have : p = 1 ∨ p = 2 ∨ p = 3 ∨ p = 4 ∨ p = 5 ∨ p = 6 ∨ p = 7 := by omega
      have hq7 : q = 0 ∨ q = 1 ∨ q = 2 ∨ q = 3 ∨ q = 4 ∨ q = 5 ∨ q = 6 := by omega
      rcases this with rfl | rfl | rfl | rfl | rfl | rfl | rfl <;> rcases hq7 with rfl | rfl | rfl | rfl | rfl | rfl | rfl <;> first | omega | (simp only [Nat.reduceSub, Nat.reducePow] at hz ⊢; omega)
theorem key_dig {σ : Mem} {p w q : Nat} (hp : p ≤ 8) (hq : q < p) : key σ p w / 4 ^ (7 - q) % 4 = dg p w q := by
  rw [← kM_dig w p q hp hq]
  unfold key
  generalize kC σ p w = c
  generalize kM p w = K
  have : q = 0 ∨ q = 1 ∨ q = 2 ∨ q = 3 ∨ q = 4 ∨ q = 5 ∨ q = 6 ∨ q = 7 := by omega
  rcases this with rfl | rfl | rfl | rfl | rfl | rfl | rfl | rfl <;> simp only [Nat.reduceSub, Nat.reducePow] <;> omega
