/-! MASKS: bit r is p r -/
def msk (p : Nat → Bool) : Nat → Nat
  | 0 => 0
  | n + 1 => msk p n + (if p n = true then 2 ^ n else 0)
theorem msk_lt (p : Nat → Bool) : ∀ n, msk p n < 2 ^ n
  | 0 => Nat.one_pos
  | n + 1 => by
    have h := msk_lt p n
    unfold msk
    rw [Nat.pow_succ]
    split <;> omega
theorem msk_bit (p : Nat → Bool) : ∀ n r, (msk p n).testBit r = (decide (r < n) && p r)
  | 0, r => by simp [msk]
  | n + 1, r => by
    have h := msk_bit p n
    have hl := msk_lt p n
    have hl2 := msk_lt p (n + 1)
    by_cases hr2 : n + 1 ≤ r
    · rw [Nat.testBit_lt_two_pow (Nat.lt_of_lt_of_le hl2 (Nat.pow_le_pow_right (by decide) hr2))]
      simp [show ¬ r < n + 1 by omega]
    unfold msk
    by_cases hp : p n = true
    · rw [if_pos hp, Nat.add_comm]
      by_cases hr : r = n
      · subst hr; rw [Nat.testBit_two_pow_add_eq, Nat.testBit_lt_two_pow hl]; simp [hp]
      · rw [Nat.testBit_two_pow_add_gt (by omega), h r]; simp [show r < n by omega, show r < n + 1 by omega]
    · rw [if_neg hp, Nat.add_zero, h r]
      by_cases hr : r = n
      · subst hr; simp [hp]
      · simp [show r < n by omega, show r < n + 1 by omega]
theorem msk_cong {p q : Nat → Bool} : ∀ n, (∀ r, r < n → p r = q r) → msk p n = msk q n
  | 0, _ => rfl
  | n + 1, h => by
    unfold msk
    rw [msk_cong n (fun r hr => h r (by omega)), h n (by omega)]
theorem msk_all : ∀ n, msk (fun _ => true) n = 2 ^ n - 1
  | 0 => rfl
  | n + 1 => by
    unfold msk
    rw [msk_all n, if_pos rfl, Nat.pow_succ]
    have : 0 < 2 ^ n := Nat.two_pow_pos n
    omega
theorem msk_and (p q : Nat → Bool) (n : Nat) : msk p n &&& msk q n = msk (fun r => p r && q r) n := by
  apply Nat.eq_of_testBit_eq
  intro i
  rw [Nat.testBit_and, msk_bit, msk_bit, msk_bit]
  cases decide (i < n) <;> simp
theorem nI_and (a b : Nat) : nI a &&& nI b = nI (a &&& b) := by
  apply Int32.toBitVec_inj.1
  show BitVec.ofNat 32 a &&& BitVec.ofNat 32 b = BitVec.ofNat 32 (a &&& b)
  apply BitVec.eq_of_getLsbD_eq
  intro i hi
  simp [hi]
theorem nI_or (a b : Nat) : nI a ||| nI b = nI (a ||| b) := by
  apply Int32.toBitVec_inj.1
  show BitVec.ofNat 32 a ||| BitVec.ofNat 32 b = BitVec.ofNat 32 (a ||| b)
  apply BitVec.eq_of_getLsbD_eq
  intro i hi
  simp [hi]
theorem sl32 : ∀ n, n < 32 → ((nI n &&& 31).toBitVec.smod 32).toNat = n := by decide +kernel
theorem p31 {n : Nat} (h : n < 31) : 2 ^ n < 2147483648 := by
  have := Nat.pow_lt_pow_right (a := 2) (by decide) h
  exact this
theorem sh1 {n : Nat} (h : n < 31) : (1 : Int32) <<< (nI n &&& 31) = nI (2 ^ n) := by
  have := pk_shlN (n := 1) (nI n &&& 31) n (sl32 n (by omega)) (by have := p31 h; omega)
  rw [Nat.one_mul] at this
  exact this
theorem or_bit {p : Nat → Bool} {n : Nat} (hn : n < 31) (h : p n = true) : nI (msk p n) ||| ((1 : Int32) <<< (nI n &&& 31)) = nI (msk p (n + 1)) := by
  rw [sh1 hn, nI_or, Nat.or_two_pow_eq_add_of_lt (msk_lt p n)]
  show _ = nI (msk p n + if p n = true then 2 ^ n else 0)
  rw [if_pos h]
theorem no_bit {p : Nat → Bool} {n : Nat} (h : p n = false) : msk p (n + 1) = msk p n := by
  show (msk p n + if p n = true then 2 ^ n else 0) = _
  rw [h]; simp
theorem bitN {N r : Nat} (hN : N < 2147483648) (hr : r < 32) : ((nI N >>> (nI r &&& 31)) &&& (1 : Int32)) = nI (N / 2 ^ r % 2) := by
  rw [pk_shrN hN _ r (sl32 r hr), pk_andN (Nat.lt_of_le_of_lt (Nat.div_le_self _ _) (by omega)) 1 (by decide)]
theorem tB {N r : Nat} : N.testBit r = decide (N / 2 ^ r % 2 = 1) := Nat.testBit_eq_decide_div_mod_eq
theorem hb8 {N r : Nat} (hN : N < 2147483648) (hr : r < 32) : F_X8_holdsBit (nI N) (nI r) = b01 (N.testBit r) := by
  unfold F_X8_holdsBit
  rw [bitN hN hr, tB]
  rcases Nat.mod_two_eq_zero_or_one (N / 2 ^ r) with h | h
  · rw [h]; rfl
  · rw [h]; rfl
theorem msk_31 {p : Nat → Bool} {n : Nat} (h : n < 31) : msk p n < 2147483648 := Nat.lt_trans (msk_lt p n) (p31 h)
theorem hbm {p : Nat → Bool} {n r : Nat} (hn : n < 31) (hr : r < 32) : F_X8_holdsBit (nI (msk p n)) (nI r) = b01 (decide (r < n) && p r) := by
  rw [hb8 (msk_31 hn) hr, msk_bit]
