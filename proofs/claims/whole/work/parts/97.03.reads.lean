/-- the reference's form fields hold f; c: the costs so far -/
def hM (x : Mem) (f : FS) (c : Nat) : Prop := x 0 24 = (if f.1 0 = 0 then -1 else f.1 1) ∧ x 0 25 = f.1 3 ∧ x 0 26 = f.1 5 ∧ x 0 27 = nI c ∧ x 0 32 = nI f.2.length ∧ ∀ i t, f.2[i]? = some t → x 22 i = t 1 ∧ x 23 i = t 2 ∧ x 24 i = t 3 ∧ x 25 i = t 4
def sameM (x0 x : Mem) : Prop := (∀ k, k ≠ 0 → k ≠ 22 → k ≠ 23 → k ≠ 24 → k ≠ 25 → x k = x0 k) ∧ ∀ j, j ≠ 24 → j ≠ 25 → j ≠ 26 → j ≠ 27 → j ≠ 32 → x 0 j = x0 0 j
theorem sameM.rf {x : Mem} : sameM x x := ⟨fun _ _ _ _ _ _ => rfl, fun _ _ _ _ _ _ => rfl⟩
theorem sameM.tr {x y z : Mem} (h1 : sameM x y) (h2 : sameM y z) : sameM x z := ⟨fun k a b c d e => (h2.1 k a b c d e).trans (h1.1 k a b c d e), fun j a b c d e => (h2.2 j a b c d e).trans (h1.2 j a b c d e)⟩
theorem sameM.f {x : Mem} {j : Nat} {v : Int32} (h : j = 24 ∨ j = 25 ∨ j = 26 ∨ j = 27 ∨ j = 32) : sameM x (st x 0 j v) := ⟨fun k a _ _ _ _ => st_ne a, fun i _ _ _ _ _ => by rw [st_eq, upd_ne (by omega)]⟩
theorem sameM.q {σ x y : Mem} {m : Nat → Nat} (h : sameM x y) (hq : MQ9 σ x m) : MQ9 σ y m := by
  obtain ⟨h1, h2, h3, h4, h5⟩ := hq
  have o : ∀ k, k ≠ 0 → k < 22 → y k = x k := fun k a b => h.1 k a (by omega) (by omega) (by omega) (by omega)
  refine ⟨(h.2 13 (by decide) (by decide) (by decide) (by decide) (by decide)).trans h1, by rw [o 12 (by decide) (by decide)]; exact h2, by rw [o 11 (by decide) (by decide)]; exact h3, h4.cong rfl rfl rfl rfl rfl rfl (o 5 (by decide) (by decide)) (o 6 (by decide) (by decide)) (o 7 (by decide) (by decide)) (o 8 (by decide) (by decide)) (o 9 (by decide) (by decide)) (o 10 (by decide) (by decide)), by rw [o 21 (by decide) (by decide)]; exact h5⟩
theorem addT9 {x : Mem} {f : FS} {c : Nat} {o t q h n : Int32} (hf : hM x f c) (hl : f.2.length < 8) : ∃ x', F_X9_addTest x t q h n = some x' ∧ sameM x x' ∧ hM x' (f.1, f.2 ++ [tst o t q h n]) c := by
  obtain ⟨h1, h2, h3, h4, h5, h6⟩ := id hf
  generalize hL : f.2.length = L at hl h5
  refine ⟨st (st (st (st (st x 22 L t) 23 L q) 24 L h) 25 L n) 0 32 (nI (L + 1)), ?_, ⟨fun k a b c d e => ?_, fun j a b c d e => ?_⟩, ?_⟩
  · unfold F_X9_addTest
    rw [h5]
    simp (disch := first | omega | decide) only [sto_at, bind_some', st_ne, h5, nI_1]
  · rw [st_ne a, st_ne e, st_ne d, st_ne c, st_ne b]
  · rw [st_eq, upd_ne e]
    simp (disch := decide) only [st_ne]
  · have z : ∀ j, j ≠ 32 → st (st (st (st (st x 22 L t) 23 L q) 24 L h) 25 L n) 0 32 (nI (L + 1)) 0 j = x 0 j := fun j hj => by
      rw [st_eq, upd_ne hj]
      simp (disch := decide) only [st_ne]
    refine ⟨(z 24 (by decide)).trans h1, (z 25 (by decide)).trans h2, (z 26 (by decide)).trans h3, (z 27 (by decide)).trans h4, ?_, fun i u hu => ?_⟩
    · rw [st_eq, upd_eq, List.length_append, hL]; rfl
    · simp (disch := decide) only [st_ne, st_eq]
      by_cases hi : i = L
      · have hu2 : u = tst o t q h n := by
          rw [List.getElem?_append_right (by omega), hi, hL, Nat.sub_self] at hu
          exact (Option.some.inj hu).symm
        rw [hi, hu2, upd_eq, upd_eq, upd_eq, upd_eq]
        exact ⟨rfl, rfl, rfl, rfl⟩
      · have hlt : i < f.2.length := by
          have := (List.getElem?_eq_some_iff.mp hu).1
          rw [List.length_append] at this
          simp at this
          omega
        rw [List.getElem?_append_left hlt] at hu
        rw [upd_ne hi, upd_ne hi, upd_ne hi, upd_ne hi]
        exact h6 i u hu
