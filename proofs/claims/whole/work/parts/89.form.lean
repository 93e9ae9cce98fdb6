/-! FORM: scalars 0 doings, 1 doing, 2 tablesTold, 3 from, 4 columnsWanted, 5 wanted, 6 wantedTable; a TEST: 0 origin, 1 table, 2 column, 3 than, 4 number -/
abbrev FS : Type := (Nat → Int32) × List (Nat → Int32)
def tst (o t c h n : Int32) : Nat → Int32 := fun j => if j = 0 then o else if j = 1 then t else if j = 2 then c else if j = 3 then h else n
def org (p m c : Nat) : Int32 := nI ((p * 3 + m) * 3 + c)
def thanN (σ : Mem) (m : Nat → Nat) (p : Nat) : Bool := decide (p + 1 < nt (σ 13 0)) && !num σ (p + 1) && decide (sr σ (p + 1) (m (p + 1)) = 4)
def stp (σ : Mem) (m : Nat → Nat) (p : Nat) (f : FS) : FS :=
  if num σ p = true then f else
  if sr σ p (m p) = 0 then (upd (upd f.1 2 (f.1 2 + 1)) 3 (σ 9 (3 * tk σ p + m p)), f.2) else
  if sr σ p (m p) = 1 then (if thanN σ m p = true then f else (upd (upd (upd f.1 4 (f.1 4 + 1)) 6 (σ 9 (3 * tk σ p + m p))) 5 (σ 10 (3 * tk σ p + m p)), f.2)) else
  if sr σ p (m p) = 2 then (upd (upd f.1 0 (f.1 0 + 1)) 1 (σ 9 (3 * tk σ p + m p)), f.2) else
  if sr σ p (m p) = 3 then (f.1, f.2 ++ [tst (org p (m p) 0) (σ 9 (3 * tk σ p + m p)) (σ 10 (3 * tk σ p + m p)) 2 (σ 11 (3 * tk σ p + m p))]) else
  if sr σ p (m p) = 4 then (if 0 < p ∧ num σ (p - 1) = false ∧ numNext σ p = true then (f.1, f.2 ++ [tst (org p (m p) (m (p - 1))) (σ 9 (3 * tk σ (p - 1) + m (p - 1))) (σ 10 (3 * tk σ (p - 1) + m (p - 1))) (σ 9 (3 * tk σ p + m p)) (σ 15 (p + 1))]) else f) else f
def fs0 : FS := (fun j => if j = 3 ∨ j = 5 ∨ j = 6 then -1 else 0, [])
def fsN (σ : Mem) (m : Nat → Nat) : Nat → FS
  | 0 => fs0
  | p + 1 => stp σ m p (fsN σ m p)
def fsE (f : FS) : FS := if f.1 2 = 0 then (upd f.1 3 (f.1 6), f.2) else f
theorem stp_len (σ : Mem) (m : Nat → Nat) (p : Nat) (f : FS) : (stp σ m p f).2.length ≤ f.2.length + 1 := by
  unfold stp
  repeat' split
  all_goals simp
theorem fsN_len (σ : Mem) (m : Nat → Nat) : ∀ p, (fsN σ m p).2.length ≤ p
  | 0 => Nat.le_refl _
  | p + 1 => by
    have h1 := fsN_len σ m p
    have h2 := stp_len σ m p (fsN σ m p)
    unfold fsN
    omega
/-- the class's Form holds f -/
def hF (x : Mem) (f : FS) : Prop := (∀ j, j < 7 → x 17 j = f.1 j) ∧ x 17 7 = nI f.2.length ∧ ∀ i t, f.2[i]? = some t → x 22 i = t 0 ∧ x 18 i = t 1 ∧ x 19 i = t 2 ∧ x 20 i = t 3 ∧ x 21 i = t 4
theorem upd_c {f g : Nat → Int32} {n k : Nat} {v : Int32} (h : ∀ j, j < n → f j = g j) : ∀ j, j < n → upd f k v j = upd g k v j := by
  intro j hj
  by_cases hh : j = k
  · rw [hh, upd_eq, upd_eq]
  · rw [upd_ne hh, upd_ne hh]; exact h j hj
/-- only the Form changed -/
def sameF (σ σ' : Mem) : Prop := ∀ k, k < 17 ∨ 22 < k → σ' k = σ k
theorem sameF.tr {σ σ1 σ2 : Mem} (h1 : sameF σ σ1) (h2 : sameF σ1 σ2) : sameF σ σ2 := fun k hk => (h2 k hk).trans (h1 k hk)
theorem tellT {x : Mem} {f : FS} {o t c h n : Int32} (hf : hF x f) (hl : f.2.length < 8) : ∃ x', F_X2_tellTest x o t c h n = some x' ∧ sameF x x' ∧ hF x' (f.1, f.2 ++ [tst o t c h n]) := by
  obtain ⟨h1, h2, h3⟩ := id hf
  generalize hL : f.2.length = L at hl h2
  refine ⟨st (st (st (st (st (st x 22 L o) 18 L t) 19 L c) 20 L h) 21 L n) 17 7 (nI (L + 1)), ?_, ?_, ?_⟩
  · unfold F_X2_tellTest
    rw [h2]
    simp (disch := first | omega | decide) only [sto_at, bind_some', st_ne, h2, nI_1]
  · intro k hk
    rw [st_ne (by omega), st_ne (by omega), st_ne (by omega), st_ne (by omega), st_ne (by omega), st_ne (by omega)]
  · refine ⟨fun j hj => ?_, ?_, fun i u hu => ?_⟩
    · rw [st_eq, upd_ne (by omega)]
      simp (disch := decide) only [st_ne]
      exact h1 j hj
    · rw [st_eq, upd_eq, List.length_append, hL]; rfl
    · simp (disch := decide) only [st_ne, st_eq]
      by_cases hi : i = L
      · have hu2 : u = tst o t c h n := by
          rw [List.getElem?_append_right (by omega), hi, hL, Nat.sub_self] at hu
          exact (Option.some.inj hu).symm
        rw [hi, hu2, upd_eq, upd_eq, upd_eq, upd_eq, upd_eq]
        exact ⟨rfl, rfl, rfl, rfl, rfl⟩
      · have hlt : i < f.2.length := by
          have := (List.getElem?_eq_some_iff.mp hu).1
          rw [List.length_append] at this
          simp at this
          omega
        rw [List.getElem?_append_left hlt] at hu
        rw [upd_ne hi, upd_ne hi, upd_ne hi, upd_ne hi, upd_ne hi]
        exact h3 i u hu
theorem org8 {p t m t' c : Nat} (hp : p < 8) (ht : t < 40) (hm : m < 3) (ht' : t' < 40) (hc : c < 3) : F_X5_originOf (nI p) (nI (3 * t + m)) (nI (3 * t' + c)) = org p m c := by
  unfold F_X5_originOf org
  have d1 : nI (3 * t + m) - nI (3 * t + m) / (3 : Int32) * (3 : Int32) = nI ((3 * t + m) % 3) := pk_rem (d := 3) (by omega) (by decide) (by decide)
  have d2 : nI (3 * t' + c) - nI (3 * t' + c) / (3 : Int32) * (3 : Int32) = nI ((3 * t' + c) % 3) := pk_rem (d := 3) (by omega) (by decide) (by decide)
  rw [d1, d2, r3, nI_add, r3, nI_add]
  congr 1
  omega
/-- a WORD stands at a place -/
def isW (σ : Mem) (q : Nat) : Bool := decide (q < nt (σ 13 0)) && !num σ q
theorem isW_t {σ : Mem} {q : Nat} (hq : q < nt (σ 13 0)) (hn : num σ q = false) : isW σ q = true := by simp [isW, hq, hn]
theorem isW_d {σ : Mem} {q : Nat} (h : isW σ q = true) : q < nt (σ 13 0) ∧ num σ q = false := by simpa [isW] using h
theorem isW_c {σ σ' : Mem} (h : ∀ k, k < 16 → σ' k = σ k) : isW σ' = isW σ := by
  funext q
  unfold isW
  rw [num_c h, h 13 (by decide)]
theorem isWA {σ : Mem} (hW : WF σ) {p : Nat} (hp : p < 100) : F_X3_isWordAt σ (nI p) = some (if isW σ p = true then 1 else 0) := by
  by_cases h : p < nt (σ 13 0)
  · rw [isWord8 hW h]
    by_cases hn : num σ p = true
    · rw [if_pos hn, if_neg]; simp [isW, hn]
    · have hn' : num σ p = false := by simpa using hn
      rw [if_neg hn, if_pos (isW_t h hn')]
  · unfold F_X3_isWordAt
    rw [if_neg (nI_pos (by omega)), (P_le hW).2, if_pos (nI_le (by omega) (by omega)), if_neg (fun e => h (isW_d e).1)]
/-- spots and sorts as fillForm lays them -/
def spots (σ : Mem) (m : Nat → Nat) (x : Mem) (p : Nat) : Prop := ∀ q, q < p → x 24 q = (if isW σ q = true then nI (3 * tk σ q + m q) else -1) ∧ x 34 q = (if isW σ q = true then nI (sr σ q (m q)) else -1)
theorem tell8 {σ x : Mem} (hW : WF σ) {m : Nat → Nat} (hm : ∀ q, m q < 3) {p : Nat} (hp : p < nt (σ 13 0)) (hn : num σ p = false) (hc : ∀ k, k < 17 → x k = σ k) (hsp : spots σ m x 9) {f : FS} (hf : hF x f) (hl : f.2.length ≤ p) : ∃ x', F_X5_tellMeaning x (nI p) (nI (3 * tk σ p + m p)) = some x' ∧ sameF x x' ∧ hF x' (stp σ m p f) := by
  have hP8 := (P_le hW).1
  have hWx : WF x := ⟨hW.1.cong (hc 1 (by decide)) (hc 2 (by decide)) (hc 3 (by decide)) (hc 4 (by decide)) (hc 5 (by decide)), hW.2.1.cong (hc 1 (by decide)) (hc 2 (by decide)) (hc 6 (by decide)) (hc 7 (by decide)) (hc 8 (by decide)) (hc 9 (by decide)) (hc 10 (by decide)) (hc 11 (by decide)) (hc 12 (by decide)), hW.2.2.cong (hc 13 (by decide)) (hc 14 (by decide)) (hc 15 (by decide))⟩
  have hc' : ∀ k, k < 16 → x k = σ k := fun k hk => hc k (by omega)
  have hPx : nt (x 13 0) = nt (σ 13 0) := by rw [hc 13 (by decide)]
  obtain ⟨ht, -⟩ := tk_lt hW hp hn
  obtain ⟨s1, s2⟩ := sr_at hW hp hn (hm p)
  have hmp := hm p
  have l9 : F_X7_aAt x (nI (3 * tk σ p + m p)) = some (σ 9 (3 * tk σ p + m p)) := by unfold F_X7_aAt; rw [ld_at (by omega) (by decide), bind_some', hc 9 (by decide)]
  have l10 : F_X7_bAt x (nI (3 * tk σ p + m p)) = some (σ 10 (3 * tk σ p + m p)) := by unfold F_X7_bAt; rw [ld_at (by omega) (by decide), bind_some', hc 10 (by decide)]
  have l8 : ld 9 (x 34) (nI p) = some (nI (sr σ p (m p))) := by rw [ld_at (by omega) (by decide), (hsp p (by omega)).2, if_pos (isW_t hp hn)]
  obtain ⟨h1, h2, h3⟩ := id hf
  unfold F_X5_tellMeaning stp
  rw [l9, bind_some', l10, bind_some', l8, bind_some', hn]
  simp only [Bool.false_eq_true, if_false]
  have cmp : ∀ k : Nat, k ≤ 5 → ∀ z : Int32, z = nI k → (nI (sr σ p (m p)) = z ↔ sr σ p (m p) = k) := fun k hk z hz => by rw [hz]; exact nI_eq (by omega) (by omega)
  by_cases c0 : sr σ p (m p) = 0
  · rw [if_pos ((cmp 0 (by decide) 0 rfl).mpr c0), if_pos c0]
    refine ⟨_, rfl, fun k hk => by rw [st_ne (by omega), st_ne (by omega)], fun j hj => ?_, ?_, ?_⟩
    · rw [st_eq, st_eq, h1 2 (by decide)]
      exact upd_c (upd_c h1) j hj
    · rw [st_eq, st_eq]; simp only [upd, show ¬ (7 : Nat) = 3 by decide, show ¬ (7 : Nat) = 2 by decide, if_false]; exact h2
    · simp (disch := decide) only [st_ne]; exact h3
  rw [if_neg (fun e => c0 ((cmp 0 (by decide) 0 rfl).mp e)), if_neg c0]
  by_cases c1 : sr σ p (m p) = 1
  · rw [if_pos ((cmp 1 (by decide) 1 rfl).mpr c1), if_pos c1]
    have h34 : ld 9 (x 34) (nI p + 1) = some (if isW σ (p + 1) = true then nI (sr σ (p + 1) (m (p + 1))) else -1) := by rw [nI_1, ld_at (by omega) (by decide), (hsp (p + 1) (by omega)).2]
    have hth : (if isW σ (p + 1) = true then nI (sr σ (p + 1) (m (p + 1))) else (-1 : Int32)) = (4 : Int32) ↔ thanN σ m p = true := by
      have e0 : thanN σ m p = (isW σ (p + 1) && decide (sr σ (p + 1) (m (p + 1)) = 4)) := rfl
      rw [e0, Bool.and_eq_true, decide_eq_true_eq]
      by_cases hw : isW σ (p + 1) = true
      · obtain ⟨hp1, hn1⟩ := isW_d hw
        obtain ⟨-, g2⟩ := sr_at hW hp1 hn1 (hm (p + 1))
        rw [if_pos hw]
        exact ⟨fun e => ⟨hw, nI_inj (by omega) (b := 4) (by decide) e⟩, fun e => by rw [e.2]; rfl⟩
      · rw [if_neg hw]
        exact ⟨fun e => absurd e (by decide), fun e => absurd e.1 hw⟩
    rw [h34, bind_some']
    by_cases hth2 : thanN σ m p = true
    · rw [if_pos (hth.mpr hth2), if_pos hth2]
      exact ⟨x, rfl, fun _ _ => rfl, hf⟩
    · rw [if_neg (fun e => hth2 (hth.mp e)), if_neg hth2]
      refine ⟨_, rfl, fun k hk => by rw [st_ne (by omega), st_ne (by omega), st_ne (by omega)], fun j hj => ?_, ?_, ?_⟩
      · rw [st_eq, st_eq, st_eq, h1 4 (by decide)]
        exact upd_c (upd_c (upd_c h1)) j hj
      · rw [st_eq, st_eq, st_eq]; simp only [upd, show ¬ (7 : Nat) = 4 by decide, show ¬ (7 : Nat) = 5 by decide, show ¬ (7 : Nat) = 6 by decide, if_false]; exact h2
      · simp (disch := decide) only [st_ne]; exact h3
  rw [if_neg (fun e => c1 ((cmp 1 (by decide) 1 rfl).mp e)), if_neg c1]
  by_cases c2 : sr σ p (m p) = 2
  · rw [if_pos ((cmp 2 (by decide) 2 rfl).mpr c2), if_pos c2]
    refine ⟨_, rfl, fun k hk => by rw [st_ne (by omega), st_ne (by omega)], fun j hj => ?_, ?_, ?_⟩
    · rw [st_eq, st_eq, h1 0 (by decide)]
      exact upd_c (upd_c h1) j hj
    · rw [st_eq, st_eq]; simp only [upd, show ¬ (7 : Nat) = 0 by decide, show ¬ (7 : Nat) = 1 by decide, if_false]; exact h2
    · simp (disch := decide) only [st_ne]; exact h3
  rw [if_neg (fun e => c2 ((cmp 2 (by decide) 2 rfl).mp e)), if_neg c2]
  by_cases c3 : sr σ p (m p) = 3
  · rw [if_pos ((cmp 3 (by decide) 3 rfl).mpr c3), if_pos c3]
    have l11 : F_X7_cAt x (nI (3 * tk σ p + m p)) = some (σ 11 (3 * tk σ p + m p)) := by unfold F_X7_cAt; rw [ld_at (by omega) (by decide), bind_some', hc 11 (by decide)]
    have ho : F_X5_originOf (nI p) (nI (3 * tk σ p + m p)) (0 : Int32) = org p (m p) 0 := org8 (t' := 0) (c := 0) (by omega) ht hmp (by decide) (by decide)
    obtain ⟨x', f1, f2, f3⟩ := tellT (o := org p (m p) 0) (t := σ 9 (3 * tk σ p + m p)) (c := σ 10 (3 * tk σ p + m p)) (h := 2) (n := σ 11 (3 * tk σ p + m p)) hf (by omega)
    exact ⟨x', by rw [l11, bind_some', ho, f1]; rfl, f2, f3⟩
  rw [if_neg (fun e => c3 ((cmp 3 (by decide) 3 rfl).mp e)), if_neg c3]
  by_cases c4 : sr σ p (m p) = 4
  · rw [if_pos ((cmp 4 (by decide) 4 rfl).mpr c4), if_pos c4]
    by_cases p0 : p = 0
    · subst p0
      rw [if_pos (show nI 0 ≤ (0 : Int32) by decide), if_pos (by decide), if_neg (by omega)]
      exact ⟨x, rfl, fun _ _ => rfl, hf⟩
    obtain ⟨q, rfl⟩ : ∃ q, p = q + 1 := ⟨p - 1, by omega⟩
    have hnz : ¬ nI (q + 1) ≤ (0 : Int32) := nI_nle (by omega) (by omega)
    rw [if_neg hnz, nI_pred, ld_at (by omega) (by decide), bind_some', (hsp q (by omega)).1, Nat.add_sub_cancel]
    have eqw : isW σ q = !num σ q := by simp [isW, show q < nt (σ 13 0) by omega]
    by_cases hnq : num σ q = true
    · rw [if_neg (show ¬ isW σ q = true by rw [eqw, hnq]; decide), if_pos (by decide), if_neg (by rw [hnq]; simp)]
      exact ⟨x, rfl, fun _ _ => rfl, hf⟩
    · have hnq' : num σ q = false := by simpa using hnq
      obtain ⟨htq, -⟩ := tk_lt hW (show q < nt (σ 13 0) by omega) hnq'
      have hmq := hm q
      have hnn : numNext x (q + 1) = numNext σ (q + 1) := by unfold numNext; rw [num_c hc', hc 13 (by decide)]
      rw [if_pos (show isW σ q = true by rw [eqw, hnq']; rfl), if_neg (nI_pos (by omega)), nI_1, isNumN hWx (by omega), hnn, bind_some']
      by_cases hnx : numNext σ (q + 1) = true
      · rw [if_pos hnx, if_neg one_ne, if_pos ⟨by omega, hnq', hnx⟩]
        have m9 : F_X7_aAt x (nI (3 * tk σ q + m q)) = some (σ 9 (3 * tk σ q + m q)) := by unfold F_X7_aAt; rw [ld_at (by omega) (by decide), bind_some', hc 9 (by decide)]
        have m10 : F_X7_bAt x (nI (3 * tk σ q + m q)) = some (σ 10 (3 * tk σ q + m q)) := by unfold F_X7_bAt; rw [ld_at (by omega) (by decide), bind_some', hc 10 (by decide)]
        have hp2 : q + 1 + 1 < nt (σ 13 0) := by
          unfold numNext at hnx
          simp at hnx
          exact hnx.1
        have m15 : F_X3_tokenAt x (nI (q + 1 + 1)) = some (σ 15 (q + 1 + 1)) := by unfold F_X3_tokenAt; rw [ld_at (by omega) (by decide), bind_some', hc 15 (by decide)]
        obtain ⟨x', f1, f2, f3⟩ := tellT (o := org (q + 1) (m (q + 1)) (m q)) (t := σ 9 (3 * tk σ q + m q)) (c := σ 10 (3 * tk σ q + m q)) (h := σ 9 (3 * tk σ (q + 1) + m (q + 1))) (n := σ 15 (q + 1 + 1)) hf (by omega)
        exact ⟨x', by rw [m9, bind_some', m10, bind_some', m15, bind_some', org8 (by omega) ht hmp htq hmq, f1]; rfl, f2, f3⟩
      · rw [if_neg hnx, if_pos rfl, if_neg (fun h => hnx h.2.2)]
        exact ⟨x, rfl, fun _ _ => rfl, hf⟩
  rw [if_neg (fun e => c4 ((cmp 4 (by decide) 4 rfl).mp e)), if_neg c4]
  exact ⟨x, rfl, fun _ _ => rfl, hf⟩
