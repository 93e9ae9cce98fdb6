/-! Integer.bitCount of what is below 2 ^ 24 -/
theorem and256 {a b m n : Nat} (ha : a < 256) (hm : m < 256) : (a + 256 * b) &&& (m + 256 * n) = (a &&& m) + 256 * (b &&& n) := by
  have h1 : ((a + 256 * b) &&& (m + 256 * n)) % 2 ^ 8 = a &&& m := by
    rw [Nat.and_mod_two_pow]
    congr 1 <;> omega
  have h2 : ((a + 256 * b) &&& (m + 256 * n)) / 2 ^ 8 = b &&& n := by
    rw [Nat.and_div_two_pow]
    congr 1 <;> omega
  generalize ((a + 256 * b) &&& (m + 256 * n)) = z at h1 h2
  omega
theorem and3 {a b c m : Nat} (ha : a < 256) (hb : b < 256) (hc : c < 256) (hm : m < 256) : (a + 256 * (b + 256 * c)) &&& (m + 256 * (m + 256 * (m + 256 * m))) = (a &&& m) + 256 * ((b &&& m) + 256 * (c &&& m)) := by
  rw [and256 ha hm, and256 hb hm]
  have := and256 (a := c) (b := 0) (m := m) (n := m) hc hm
  simp only [Nat.mul_zero, Nat.add_zero, Nat.zero_and] at this
  rw [this]
def bc1 (y : Nat) : Nat := y - (y / 2 &&& 85)
def bc2 (y : Nat) : Nat := (bc1 y &&& 51) + (bc1 y / 4 &&& 51)
def bc3 (y : Nat) : Nat := (bc2 y + bc2 y / 16) &&& 15
def c8 (y : Nat) : Nat := fb_ct (fun i => y.testBit i) 8
theorem bc_a : ∀ y, y < 256 → (y / 2 &&& 85) ≤ y ∧ bc1 y < 256 ∧ bc2 y ≤ 68 ∧ bc2 y % 16 ≤ 4 ∧ bc3 y = c8 y ∧ c8 y ≤ 8 := by decide +kernel
theorem bc_1 : ∀ a, a < 128 → ∀ b, b < 2 → (a + 128 * b) &&& 85 = a &&& 85 := by decide +kernel
theorem bc_2 : ∀ a, a < 64 → ∀ b, b < 4 → (a + 64 * b) &&& 51 = a &&& 51 := by decide +kernel
theorem bc_3 (a b : Nat) : (a + 16 * b) &&& 15 = a &&& 15 := by
  rw [show (15 : Nat) = 2 ^ 4 - 1 by decide, Nat.and_two_pow_sub_one_eq_mod, Nat.and_two_pow_sub_one_eq_mod]
  omega
theorem bc_s1 {a b c : Nat} (ha : a < 256) (hb : b < 256) (hc : c < 256) : (a + 256 * (b + 256 * c)) / 2 &&& 1431655765 = (a / 2 &&& 85) + 256 * ((b / 2 &&& 85) + 256 * (c / 2 &&& 85)) := by
  rw [show (a + 256 * (b + 256 * c)) / 2 = (a / 2 + 128 * (b % 2)) + 256 * ((b / 2 + 128 * (c % 2)) + 256 * (c / 2)) by omega, show (1431655765 : Nat) = 85 + 256 * (85 + 256 * (85 + 256 * 85)) by decide, and3 (by omega) (by omega) (by omega) (by decide), bc_1 _ (by omega) _ (by omega), bc_1 _ (by omega) _ (by omega)]
theorem bc_s2 {a b c : Nat} (ha : a < 256) (hb : b < 256) (hc : c < 256) : ((a + 256 * (b + 256 * c)) &&& 858993459) + ((a + 256 * (b + 256 * c)) / 4 &&& 858993459) = ((a &&& 51) + (a / 4 &&& 51)) + 256 * (((b &&& 51) + (b / 4 &&& 51)) + 256 * ((c &&& 51) + (c / 4 &&& 51))) := by
  rw [show (a + 256 * (b + 256 * c)) / 4 = (a / 4 + 64 * (b % 4)) + 256 * ((b / 4 + 64 * (c % 4)) + 256 * (c / 4)) by omega, show (858993459 : Nat) = 51 + 256 * (51 + 256 * (51 + 256 * 51)) by decide, and3 ha hb hc (by decide), and3 (by omega) (by omega) (by omega) (by decide), bc_2 _ (by omega) _ (by omega), bc_2 _ (by omega) _ (by omega)]
  omega
theorem bc_s3 {a b c : Nat} (ha : a ≤ 68) (hb : b ≤ 68) (hc : c ≤ 68) (hb2 : b % 16 ≤ 4) (hc2 : c % 16 ≤ 4) : ((a + 256 * (b + 256 * c)) + (a + 256 * (b + 256 * c)) / 16) &&& 252645135 = ((a + a / 16) &&& 15) + 256 * (((b + b / 16) &&& 15) + 256 * ((c + c / 16) &&& 15)) := by
  rw [show (a + 256 * (b + 256 * c)) + (a + 256 * (b + 256 * c)) / 16 = ((a + a / 16) + 16 * (b % 16)) + 256 * (((b + b / 16) + 16 * (c % 16)) + 256 * (c + c / 16)) by omega, show (252645135 : Nat) = 15 + 256 * (15 + 256 * (15 + 256 * 15)) by decide, and3 (by omega) (by omega) (by omega) (by decide), bc_3, bc_3]
theorem bc_all {a b c : Nat} (ha : a < 256) (hb : b < 256) (hc : c < 256) : F_J6_bitCount_0f7a4 (nI (a + 256 * (b + 256 * c))) = nI (c8 a + c8 b + c8 c) := by
  obtain ⟨a1, a2, a3, a6, a4, a5⟩ := bc_a a ha
  obtain ⟨b1, b2, b3, b6, b4, b5⟩ := bc_a b hb
  obtain ⟨c1, c2, c3, c6, c4, c5⟩ := bc_a c hc
  have u : ∀ (n k : Nat) (s : Int32), n < 4294967296 → ((s.toUInt32 &&& Int32.toUInt32 31).toBitVec % 32).toNat = k → ((nI n).toUInt32 >>> (s.toUInt32 &&& Int32.toUInt32 31)).toInt32 = nI (n / 2 ^ k) := fun n k s h hs => pk_ushrN h s k hs
  have e1 : nI (a + 256 * (b + 256 * c)) - ((((nI (a + 256 * (b + 256 * c))).toUInt32 >>> (Int32.toUInt32 (1 : Int32) &&& Int32.toUInt32 31)).toInt32) &&& (1431655765 : Int32)) = nI (bc1 a + 256 * (bc1 b + 256 * bc1 c)) := by
    rw [u _ 1 _ (by omega) (by decide), show (1431655765 : Int32) = nI 1431655765 from rfl, nI_and, bc_s1 ha hb hc, pk_sub (by omega)]
    congr 1
    unfold bc1
    omega
  generalize hx : nI (a + 256 * (b + 256 * c)) = x at e1 ⊢
  unfold F_J6_bitCount_0f7a4
  rw [e1]
  have e2 : ((nI (bc1 a + 256 * (bc1 b + 256 * bc1 c))) &&& (858993459 : Int32)) + ((((nI (bc1 a + 256 * (bc1 b + 256 * bc1 c))).toUInt32 >>> (Int32.toUInt32 (2 : Int32) &&& Int32.toUInt32 31)).toInt32) &&& (858993459 : Int32)) = nI (bc2 a + 256 * (bc2 b + 256 * bc2 c)) := by
    rw [u _ 2 _ (by omega) (by decide), show (858993459 : Int32) = nI 858993459 from rfl, nI_and, nI_and, nI_add]
    congr 1
    exact bc_s2 a2 b2 c2
  rw [e2]
  have e3 : ((nI (bc2 a + 256 * (bc2 b + 256 * bc2 c))) + (((nI (bc2 a + 256 * (bc2 b + 256 * bc2 c))).toUInt32 >>> (Int32.toUInt32 (4 : Int32) &&& Int32.toUInt32 31)).toInt32)) &&& (252645135 : Int32) = nI (c8 a + 256 * (c8 b + 256 * c8 c)) := by
    rw [u _ 4 _ (by omega) (by decide), show (252645135 : Int32) = nI 252645135 from rfl, nI_add, nI_and, ← a4, ← b4, ← c4]
    congr 1
    exact bc_s3 a3 b3 c3 b6 c6
  rw [e3]
  generalize c8 a = p at a5
  generalize c8 b = q at b5
  generalize c8 c = r at c5
  rw [u _ 8 _ (by omega) (by decide), nI_add, show (p + 256 * (q + 256 * r)) + (p + 256 * (q + 256 * r)) / 2 ^ 8 = (p + q) + 256 * (q + r) + 65536 * r by omega, u _ 16 _ (by omega) (by decide), nI_add, show ((p + q) + 256 * (q + r) + 65536 * r) + ((p + q) + 256 * (q + r) + 65536 * r) / 2 ^ 16 = (p + q + r) + 64 * (4 * (q + r) + 1024 * r) by omega, pk_andN (by omega) 6 (by decide)]
  congr 1
  omega
theorem bc_ct {N : Nat} (hN : N < 16777216) : F_J6_bitCount_0f7a4 (nI N) = nI (fb_ct (fun i => N.testBit i) 24) := by
  have h := bc_all (a := N % 256) (b := N / 256 % 256) (c := N / 65536) (by omega) (by omega) (by omega)
  rw [show N % 256 + 256 * (N / 256 % 256 + 256 * (N / 65536)) = N by omega] at h
  rw [h]
  congr 1
  rw [show (24 : Nat) = 8 + (8 + 8) by decide, fb_ct_split, fb_ct_split, Nat.add_assoc]
  unfold c8
  congr 1
  · refine fb_ct_cong (fun k hk => ?_)
    have := Nat.testBit_mod_two_pow N 8 k
    simp only [hk, decide_true, Bool.true_and] at this
    exact this
  · congr 1
    · refine fb_ct_cong (fun k hk => ?_)
      have h1 := Nat.testBit_mod_two_pow (N / 2 ^ 8) 8 k
      simp only [hk, decide_true, Bool.true_and] at h1
      rw [Nat.testBit_div_two_pow] at h1
      rw [Nat.add_comm 8 k]
      exact h1
    · refine fb_ct_cong (fun k hk => ?_)
      have h1 := Nat.testBit_div_two_pow (n := 16) N k
      rw [show 8 + (8 + k) = k + 16 by omega]
      exact h1
theorem bc_msk {p : Nat → Bool} {n : Nat} (hn : n ≤ 24) : F_J6_bitCount_0f7a4 (nI (msk p n)) = nI (fb_ct p n) := by
  have hl := msk_lt p n
  have hp := Nat.pow_le_pow_right (n := 2) (by decide) hn
  rw [bc_ct (by omega)]
  congr 1
  have h1 : fb_ct (fun i => (msk p n).testBit i) n = fb_ct p n := fb_ct_cong (fun r hr => by show (msk p n).testBit r = p r; rw [msk_bit]; simp [hr])
  have h2 : fb_ct (fun k => (msk p n).testBit (n + k)) (24 - n) = 0 := fb_ct_zero.mpr (fun r hr => by show (msk p n).testBit (n + r) = false; rw [msk_bit]; simp; omega)
  rw [show (24 : Nat) = n + (24 - n) by omega, fb_ct_split, h1, h2]
  rfl
