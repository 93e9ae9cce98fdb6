/-! PURE LAYER: tools -/
section
variable {α : Type} {B : Nat → α → List Int32 → Option (Nat × α × List Int32)}
/-- from (p, x, vs) the method comes to (p', x', vs') -/
def Rch (B : Nat → α → List Int32 → Option (Nat × α × List Int32)) (p : Nat) (x : α) (vs : List Int32) (p' : Nat) (x' : α) (vs' : List Int32) : Prop := ∀ q, Ends B p' x' vs' q → Ends B p x vs q
theorem Rch.rf {p : Nat} {x : α} {vs : List Int32} : Rch B p x vs p x vs := fun _ h => h
theorem Rch.tr {p p' p'' : Nat} {x x' x'' : α} {vs vs' vs'' : List Int32} (h1 : Rch B p x vs p' x' vs') (h2 : Rch B p' x' vs' p'' x'' vs'') : Rch B p x vs p'' x'' vs'' := fun q h => h1 q (h2 q h)
theorem Rch.one {p p' : Nat} {x x' : α} {vs vs' : List Int32} (hp : p ≠ 99999) (h : B p x vs = some (p', x', vs')) : Rch B p x vs p' x' vs' := fun _ k => Ends.step hp h k
theorem Rch.fin {p : Nat} {x x' : α} {vs vs' : List Int32} (h : Rch B p x vs 99999 x' vs') : finL B p x vs = some (x', vs') := finL_eq (h _ (Ends.ret B x' vs'))
theorem Rch.loop {h : Nat} (I : Nat → α → List Int32 → Prop) (n : Nat) (step : ∀ i, i < n → ∀ x vs, I i x vs → ∃ x' vs', Rch B h x vs h x' vs' ∧ I (i + 1) x' vs') : ∀ k i, i + k = n → ∀ x vs, I i x vs → ∃ x' vs', Rch B h x vs h x' vs' ∧ I n x' vs' := by
  intro k
  induction k with
  | zero =>
    intro i hi x vs hI
    have : i = n := by omega
    subst this
    exact ⟨x, vs, Rch.rf, hI⟩
  | succ k ih =>
    intro i hi x vs hI
    obtain ⟨x1, vs1, h1, hI1⟩ := step i (by omega) x vs hI
    obtain ⟨x2, vs2, h2, hI2⟩ := ih (i + 1) (by omega) x1 vs1 hI1
    exact ⟨x2, vs2, h1.tr h2, hI2⟩
theorem Rch.loop0 {h : Nat} (I : Nat → α → List Int32 → Prop) (n : Nat) {x : α} {vs : List Int32} (h0 : I 0 x vs) (step : ∀ i, i < n → ∀ x vs, I i x vs → ∃ x' vs', Rch B h x vs h x' vs' ∧ I (i + 1) x' vs') : ∃ x' vs', Rch B h x vs h x' vs' ∧ I n x' vs' := Rch.loop I n step n 0 (by omega) x vs h0
end
theorem fin_R {B : Nat → Unit → List Int32 → Option (Nat × Unit × List Int32)} {vs : List Int32} {r : Int32} (h : Rch B 0 () vs 99999 () [r]) : (finL B 0 () vs).bind extR = some r := by
  rw [h.fin]; rfl
theorem fin_M {B : Nat → Mem → List Int32 → Option (Nat × Mem × List Int32)} {σ σ' : Mem} {vs : List Int32} {r : Int32} (h : Rch B 0 σ vs 99999 σ' [r]) : (finL B 0 σ vs).bind extM = some (r, σ') := by
  rw [h.fin]; rfl
theorem fin_V {B : Nat → Mem → List Int32 → Option (Nat × Mem × List Int32)} {σ σ' : Mem} {vs vs' : List Int32} (h : Rch B 0 σ vs 99999 σ' vs') : (finL B 0 σ vs).bind extV = some σ' := by
  rw [h.fin]; rfl
theorem ld_at {n j : Nat} {f : Nat → Int32} (h : j < n) (hn : n < 2147483648) : ld n f (nI j) = some (f j) := by
  have h1 := vp_in_nI h hn
  unfold ld
  rw [if_neg h1, nI_clamp (by omega)]
theorem sto_at {n k j : Nat} {σ : Mem} {v : Int32} (h : j < n) (hn : n < 2147483648) : sto n k σ (nI j) v = some (st σ k j v) := by
  have h1 := vp_in_nI h hn
  unfold sto
  rw [if_neg h1, nI_clamp (by omega)]
theorem st_eq {σ : Mem} {k j : Nat} {v : Int32} : st σ k j v k = upd (σ k) j v := if_pos rfl
theorem st_ne {σ : Mem} {k k' j : Nat} {v : Int32} (h : k' ≠ k) : st σ k j v k' = σ k' := if_neg h
theorem upd_eq {f : Nat → Int32} {j : Nat} {v : Int32} : upd f j v j = v := if_pos rfl
theorem upd_ne {f : Nat → Int32} {j i : Nat} {v : Int32} (h : i ≠ j) : upd f j v i = f i := if_neg h
theorem fillM_eq {σ : Mem} {k n : Nat} {v : Int32} : fillM σ k n v k = fun j => if j < n then v else σ k j := if_pos rfl
theorem fillM_ne {σ : Mem} {k k' n : Nat} {v : Int32} (h : k' ≠ k) : fillM σ k n v k' = σ k' := if_neg h
theorem bind_some' {α β : Type} (a : α) (f : α → Option β) : (some a).bind f = f a := rfl
/-! Int32 literals as nI -/
theorem i0 : (0 : Int32) = nI 0 := rfl
theorem i1 : (1 : Int32) = nI 1 := rfl
theorem i2 : (2 : Int32) = nI 2 := rfl
theorem i3 : (3 : Int32) = nI 3 := rfl
theorem i4 : (4 : Int32) = nI 4 := rfl
theorem i5 : (5 : Int32) = nI 5 := rfl
theorem i7 : (7 : Int32) = nI 7 := rfl
theorem i8 : (8 : Int32) = nI 8 := rfl
theorem i10 : (10 : Int32) = nI 10 := rfl
theorem i16 : (16 : Int32) = nI 16 := rfl
theorem i20 : (20 : Int32) = nI 20 := rfl
theorem i40 : (40 : Int32) = nI 40 := rfl
theorem i99 : (99 : Int32) = nI 99 := rfl
theorem i100 : (100 : Int32) = nI 100 := rfl
theorem i999 : (999 : Int32) = nI 999 := rfl
theorem i1000 : (1000 : Int32) = nI 1000 := rfl
theorem nI_pre {n : Nat} (h : 0 < n) : nI n - nI 1 = nI (n - 1) := pk_sub h
theorem nI_lt0 {n : Nat} (h : n < 2147483648) : ¬ nI n < nI 0 := nI_pos h
theorem ne_m1 {n : Nat} (h : n < 2147483648) : ¬ nI n = (-1 : Int32) := by
  intro e
  have := nI_pos (n := n) h
  rw [e] at this
  exact this (by decide)
/-- an Int32 that isn't negative is nI of a number -/
theorem i_nn (x : Int32) (h : ¬ x < 0) : ∃ j, j < 2147483648 ∧ x = nI j := nI_of h
theorem i_cases (x : Int32) : x < 0 ∨ ∃ j, j < 2147483648 ∧ x = nI j := by
  by_cases h : x < 0
  · exact Or.inl h
  · exact Or.inr (i_nn x h)
theorem nI_inj {a b : Nat} (ha : a < 2147483648) (hb : b < 2147483648) (h : nI a = nI b) : a = b := (nI_eq ha hb).mp h
