/-! one side of two: a call changes its own cells alone -/
theorem va_appL {α : Type} {w v : List α} {i : Nat} {q : α} (h : w[i]? = some q) : (w ++ v)[i]? = some q := by
  rw [List.getElem?_append_left (List.getElem?_eq_some_iff.mp h).1]
  exact h
theorem va_appR {α : Type} {w v : List α} {i : Nat} {q : α} (h : v[i]? = some q) : (w ++ v)[w.length + i]? = some q := by
  rw [List.getElem?_append_right (Nat.le_add_right _ _), Nat.add_sub_cancel_left]
  exact h
def inW (w : va_W) : Nat → Prop := fun q => ∃ (k : Nat) (e : va_E), w[k]? = some (q, e)
theorem frC {D : va_G} {A : Nat → Prop} {w v w' : va_W} {H H1 : Heap} (hP : va_P D vwCl (w ++ v) H) (hD : va_D A (w ++ v)) (hk : ∀ q, q < H.size → ¬ inW w q → H1[q]? = H[q]?) (hP1 : va_P D vwCl w' H1) (hD1 : va_D (inW w) w') : va_P D vwCl (w' ++ v) H1 ∧ va_D A (w' ++ v) := by
  have apart : ∀ (i : Nat) (q : Nat × va_E), v[i]? = some q → ¬ inW w q.1 := by
    intro i q hq ⟨k, e, hke⟩
    have h1 := hD.1 _ _ q (q.1, e) (va_appR (w := w) hq) (va_appL (v := v) hke) rfl
    have h2 := (List.getElem?_eq_some_iff.mp hke).1
    omega
  have hDv : va_D A v := ⟨fun i j x y hi hj hxy => by
    have := hD.1 _ _ x y (va_appR (w := w) hi) (va_appR (w := w) hj) hxy
    omega, fun k q hq => hD.2 _ q (va_appR (w := w) hq)⟩
  have hPv : va_P D vwCl v H1 := fun k q hq => (hP _ q (va_appR (w := w) hq)).kept (hk q.1 (hP _ q (va_appR (w := w) hq)).lt (apart k q hq))
  refine ⟨hP1.app hPv, va_D.app (hD1.weaken (fun k q hq h => ?_)) hDv (fun i j x y hx hy hxy => ?_)⟩
  · obtain ⟨k2, e, h2⟩ := h
    exact hD.2 _ (q.1, e) (va_appL (v := v) h2)
  · exact apart j y hy (by rw [← hxy]; exact hD1.2 i x hx)
theorem frM {D : va_G} {A : Nat → Prop} {w v v' : va_W} {H H1 : Heap} (hP : va_P D vwCl (w ++ v) H) (hD : va_D A (w ++ v)) (hk : ∀ q, q < H.size → ¬ inW v q → H1[q]? = H[q]?) (hP1 : va_P D vwCl v' H1) (hD1 : va_D (inW v) v') : va_P D vwCl (w ++ v') H1 ∧ va_D A (w ++ v') := by
  have apart : ∀ (i : Nat) (q : Nat × va_E), w[i]? = some q → ¬ inW v q.1 := by
    intro i q hq ⟨k, e, hke⟩
    have h1 := hD.1 _ _ q (q.1, e) (va_appL (v := v) hq) (va_appR (w := w) hke) rfl
    have h2 := (List.getElem?_eq_some_iff.mp hq).1
    omega
  have hDw : va_D A w := ⟨fun i j x y hi hj hxy => hD.1 _ _ x y (va_appL (v := v) hi) (va_appL (v := v) hj) hxy, fun k q hq => hD.2 _ q (va_appL (v := v) hq)⟩
  have hPw : va_P D vwCl w H1 := fun k q hq => (hP _ q (va_appL (v := v) hq)).kept (hk q.1 (hP _ q (va_appL (v := v) hq)).lt (apart k q hq))
  refine ⟨hPw.app hP1, va_D.app hDw (hD1.weaken (fun k q hq h => ?_)) (fun i j x y hx hy hxy => ?_)⟩
  · obtain ⟨k2, e, h2⟩ := h
    exact hD.2 _ (q.1, e) (va_appR (w := w) h2)
  · exact apart i x hx (by rw [hxy]; exact hD1.2 j y hy)
section
variable {p : Program} {l : Launch} {e : Env} {R : Room} {s : State} {m : MethodId} {args : Array Value} {below : List Frame} {meth : Method} {c : Code} {H : Heap} {locs : List Loc} {cells slots : Nat} {Q : State → Prop}
variable {cc : ByteArray} {pc : Nat} {ls : Array Slot} {rest st0 : List Value} {D : va_G} {A : Nat → Prop} {cyI cyZ : ClassId} {w w' v v' : va_W}
variable {y : MethodName} {bytes : ByteArray} {maxL nL n index : Nat} {ret : Option FieldType} {ws Ts : List Cond} {rm : Room} {own C : String} {b : Addr} {As : List Value} {r : Int32} {fs : List Value} {q : vw_C}
theorem z_lawC (S : CallFix p m c cc nL s args Ts own) (hM : ∀ A : Nat → Prop, CtI l y ws rm (.ref b :: As) D cyI cyZ A w w' r) (cw : CallW R s args own C index y bytes maxL ret ws rm 0 0 n) (hK : va_K D vwCl (cyT cyI cyZ) s) (hN : NW s) (hP : va_P D vwCl (w ++ v) H) (hD : va_D A (w ++ v)) (hS : va_S A s.heap H locs) (ci q0 : Nat) (hc : vwCl[ci]? = some q) (hC : q.1 = C) (he : w[q0]? = some (b, .inr (ci, fs)))
    (hn : As.length = n) (hsize : ls.size = nL) (hstack : st0 = As.reverse ++ .ref b :: rest) (hW : (rest.map fun v => v.category).sum ≤ 8) (hdg : decode cc pc = .ok (.invokevirtual index, 3)) (hf : cells ≤ R.cells ∧ slots ≤ R.slots)
    (kk : ∀ (H : Heap) (locs : List Loc), va_P D vwCl (w' ++ v) H → va_D A (w' ++ v) → va_S A s.heap H locs → W p l e R s m args below meth c H locs cells slots Q (F0 m (pc + 3) ls (.int r :: rest))) : W p l e R s m args below meth c H locs cells slots Q (F0 m pc ls st0) := by
  have hPw : va_P D vwCl w H := fun k q hq => hP k q (va_appL hq)
  have hDw : va_D (inW w) w := ⟨fun i j x y hi hj hxy => hD.1 _ _ x y (va_appL (v := v) hi) (va_appL (v := v) hj) hxy, fun k q hq => ⟨k, q.2, hq⟩⟩
  have hin : ∀ q, inW w q → A q := fun q h => by obtain ⟨k, e, h⟩ := h; exact hD.2 _ (q, e) (va_appL (v := v) h)
  refine va_calli (va_runV S (hM (inW w)) cw (z_preV hK hN hPw hDw ci q0 hc hC he rfl) rfl hn hsize hstack (lv_room hW) hdg hf) hS (fun q _ h => hin q h) hin (fun r1 u t H1 locs1 ht hvm hw hB hz1 hk1 hS1 => ?_)
  obtain ⟨g1, g2, g3⟩ := hB
  rw [ht] at g1
  subst hw
  obtain ⟨h1, h2⟩ := frC hP hD hk1 g1 g3
  exact kk H1 locs1 h1 h2 hS1
theorem z_lawM (S : CallFix p m c cc nL s args Ts own) (hM : ∀ A : Nat → Prop, CtI l y ws rm (.ref b :: As) D cyI cyZ A v v' r) (cw : CallW R s args own C index y bytes maxL ret ws rm 0 0 n) (hK : va_K D vwCl (cyT cyI cyZ) s) (hN : NW s) (hP : va_P D vwCl (w ++ v) H) (hD : va_D A (w ++ v)) (hS : va_S A s.heap H locs) (ci q0 : Nat) (hc : vwCl[ci]? = some q) (hC : q.1 = C) (he : v[q0]? = some (b, .inr (ci, fs)))
    (hn : As.length = n) (hsize : ls.size = nL) (hstack : st0 = As.reverse ++ .ref b :: rest) (hW : (rest.map fun v => v.category).sum ≤ 8) (hdg : decode cc pc = .ok (.invokevirtual index, 3)) (hf : cells ≤ R.cells ∧ slots ≤ R.slots)
    (kk : ∀ (H : Heap) (locs : List Loc), va_P D vwCl (w ++ v') H → va_D A (w ++ v') → va_S A s.heap H locs → W p l e R s m args below meth c H locs cells slots Q (F0 m (pc + 3) ls (.int r :: rest))) : W p l e R s m args below meth c H locs cells slots Q (F0 m pc ls st0) := by
  have hPv : va_P D vwCl v H := fun k q hq => hP _ q (va_appR (w := w) hq)
  have hDv : va_D (inW v) v := ⟨fun i j x y hi hj hxy => by
    have := hD.1 _ _ x y (va_appR (w := w) hi) (va_appR (w := w) hj) hxy
    omega, fun k q hq => ⟨k, q.2, hq⟩⟩
  have hin : ∀ q, inW v q → A q := fun q h => by obtain ⟨k, e, h⟩ := h; exact hD.2 _ (q, e) (va_appR (w := w) h)
  refine va_calli (va_runV S (hM (inW v)) cw (z_preV hK hN hPv hDv ci q0 hc hC he rfl) rfl hn hsize hstack (lv_room hW) hdg hf) hS (fun q _ h => hin q h) hin (fun r1 u t H1 locs1 ht hvm hw hB hz1 hk1 hS1 => ?_)
  obtain ⟨g1, g2, g3⟩ := hB
  rw [ht] at g1
  subst hw
  obtain ⟨h1, h2⟩ := frM hP hD hk1 g1 g3
  exact kk H1 locs1 h1 h2 hS1
end

def Ok_table (REL : Nat → Mem → Mem → Prop) : Prop := ∀ (n : Nat) (σ τ : Mem), n < 512 → REL n σ τ → ∀ (x1 : Int32), ∃ r : Int32, ∃ σ' : Mem, ∃ τ' : Mem, F_X8_table σ x1 = some (r, σ') ∧ F_X9_table τ x1 = some (r, τ') ∧ REL (n + 1) σ' τ'
def Ok_row (REL : Nat → Mem → Mem → Prop) : Prop := ∀ (n : Nat) (σ τ : Mem), n < 512 → REL n σ τ → ∀ (x1 : Int32), ∃ r : Int32, ∃ σ' : Mem, ∃ τ' : Mem, F_X8_row σ x1 = some (r, σ') ∧ F_X9_row τ x1 = some (r, τ') ∧ REL (n + 1) σ' τ'
def Ok_put (REL : Nat → Mem → Mem → Prop) : Prop := ∀ (n : Nat) (σ τ : Mem), n < 512 → REL n σ τ → ∀ (x1 x2 x3 x4 : Int32), ∃ r : Int32, ∃ σ' : Mem, ∃ τ' : Mem, F_X8_put σ x1 x2 x3 x4 = some (r, σ') ∧ F_X9_put τ x1 x2 x3 x4 = some (r, τ') ∧ REL (n + 1) σ' τ'
def Ok_value (REL : Nat → Mem → Mem → Prop) : Prop := ∀ (n : Nat) (σ τ : Mem), n < 512 → REL n σ τ → ∀ (x1 x2 x3 : Int32), ∃ r : Int32, F_X8_value σ x1 x2 x3 = some r ∧ F_X9_value τ x1 x2 x3 = some r ∧ REL (n + 1) σ τ
def Ok_link (REL : Nat → Mem → Mem → Prop) : Prop := ∀ (n : Nat) (σ τ : Mem), n < 512 → REL n σ τ → ∀ (x1 x2 x3 : Int32), ∃ r : Int32, ∃ σ' : Mem, ∃ τ' : Mem, F_X8_link σ x1 x2 x3 = some (r, σ') ∧ F_X9_link τ x1 x2 x3 = some (r, τ') ∧ REL (n + 1) σ' τ'
def Ok_mean (REL : Nat → Mem → Mem → Prop) : Prop := ∀ (n : Nat) (σ τ : Mem), n < 512 → REL n σ τ → ∀ (x1 x2 x3 x4 x5 : Int32), ∃ r : Int32, ∃ σ' : Mem, ∃ τ' : Mem, F_X8_mean σ x1 x2 x3 x4 x5 = some (r, σ') ∧ F_X9_mean τ x1 x2 x3 x4 x5 = some (r, τ') ∧ REL (n + 1) σ' τ'
def Ok_cost (REL : Nat → Mem → Mem → Prop) : Prop := ∀ (n : Nat) (σ τ : Mem), n < 512 → REL n σ τ → ∀ (x1 x2 : Int32), ∃ r : Int32, F_X8_cost σ x1 x2 = some r ∧ F_X9_cost τ x1 x2 = some r ∧ REL (n + 1) σ τ
def Ok_forget (REL : Nat → Mem → Mem → Prop) : Prop := ∀ (n : Nat) (σ τ : Mem), n < 512 → REL n σ τ → ∀ (x1 : Int32), ∃ r : Int32, ∃ σ' : Mem, ∃ τ' : Mem, F_X8_forget σ x1 = some (r, σ') ∧ F_X9_forget τ x1 = some (r, τ') ∧ REL (n + 1) σ' τ'
def Ok_word (REL : Nat → Mem → Mem → Prop) : Prop := ∀ (n : Nat) (σ τ : Mem), n < 512 → REL n σ τ → ∀ (x1 : Int32), ∃ r : Int32, ∃ σ' : Mem, ∃ τ' : Mem, F_X8_word σ x1 = some (r, σ') ∧ F_X9_word τ x1 = some (r, τ') ∧ REL (n + 1) σ' τ'
def Ok_number (REL : Nat → Mem → Mem → Prop) : Prop := ∀ (n : Nat) (σ τ : Mem), n < 512 → REL n σ τ → ∀ (x1 : Int32), ∃ r : Int32, ∃ σ' : Mem, ∃ τ' : Mem, F_X8_number σ x1 = some (r, σ') ∧ F_X9_number τ x1 = some (r, τ') ∧ REL (n + 1) σ' τ'
def Ok_clear (REL : Nat → Mem → Mem → Prop) : Prop := ∀ (n : Nat) (σ τ : Mem), n < 512 → REL n σ τ → ∃ r : Int32, ∃ σ' : Mem, ∃ τ' : Mem, F_X8_clear σ  = some (r, σ') ∧ F_X9_clear τ  = some (r, τ') ∧ REL (n + 1) σ' τ'
def Ok_readings (REL : Nat → Mem → Mem → Prop) : Prop := ∀ (n : Nat) (σ τ : Mem), n < 512 → REL n σ τ → ∃ r : Int32, ∃ σ' : Mem, ∃ τ' : Mem, F_X8_readings σ  = some (r, σ') ∧ F_X9_readings τ  = some (r, τ') ∧ REL (n + 1) σ' τ'
def Ok_reading (REL : Nat → Mem → Mem → Prop) : Prop := ∀ (n : Nat) (σ τ : Mem), n < 512 → REL n σ τ → ∀ (x1 x2 : Int32), ∃ r : Int32, ∃ σ' : Mem, ∃ τ' : Mem, F_X8_reading σ x1 x2 = some (r, σ') ∧ F_X9_reading τ x1 x2 = some (r, τ') ∧ REL (n + 1) σ' τ'
def Ok_test (REL : Nat → Mem → Mem → Prop) : Prop := ∀ (n : Nat) (σ τ : Mem), n < 512 → REL n σ τ → ∀ (x1 x2 x3 : Int32), ∃ r : Int32, ∃ σ' : Mem, ∃ τ' : Mem, F_X8_test σ x1 x2 x3 = some (r, σ') ∧ F_X9_test τ x1 x2 x3 = some (r, τ') ∧ REL (n + 1) σ' τ'
def Ok_answer (REL : Nat → Mem → Mem → Prop) : Prop := ∀ (n : Nat) (σ τ : Mem), n < 512 → REL n σ τ → ∀ (x1 : Int32), ∃ r : Int32, ∃ σ' : Mem, ∃ τ' : Mem, F_X8_answer σ x1 = some (r, σ') ∧ F_X9_answer τ x1 = some (r, τ') ∧ REL (n + 1) σ' τ'
def Ok_found (REL : Nat → Mem → Mem → Prop) : Prop := ∀ (n : Nat) (σ τ : Mem), n < 512 → REL n σ τ → ∀ (x1 x2 : Int32), ∃ r : Int32, ∃ σ' : Mem, ∃ τ' : Mem, F_X8_found σ x1 x2 = some (r, σ') ∧ F_X9_found τ x1 x2 = some (r, τ') ∧ REL (n + 1) σ' τ'
def Ok_answers (REL : Nat → Mem → Mem → Prop) : Prop := ∀ (n : Nat) (σ τ : Mem), n < 512 → REL n σ τ → ∀ (x1 : Int32), ∃ r : Int32, ∃ σ' : Mem, ∃ τ' : Mem, F_X8_answers σ x1 = some (r, σ') ∧ F_X9_answers τ x1 = some (r, τ') ∧ REL (n + 1) σ' τ'
def Ok_back (REL : Nat → Mem → Mem → Prop) : Prop := ∀ (n : Nat) (σ τ : Mem), n < 512 → REL n σ τ → ∀ (x1 : Int32), ∃ r : Int32, ∃ σ' : Mem, ∃ τ' : Mem, F_X8_back σ x1 = some (r, σ') ∧ F_X9_back τ x1 = some (r, τ') ∧ REL (n + 1) σ' τ'
def Ok_agree (REL : Nat → Mem → Mem → Prop) : Prop := ∀ (n : Nat) (σ τ : Mem), n < 512 → REL n σ τ → ∀ (x1 x2 x3 : Int32), ∃ r : Int32, ∃ σ' : Mem, ∃ τ' : Mem, F_X8_agree σ x1 x2 x3 = some (r, σ') ∧ F_X9_agree τ x1 x2 x3 = some (r, τ') ∧ REL (n + 1) σ' τ'
def Ok_take (REL : Nat → Mem → Mem → Prop) : Prop := ∀ (n : Nat) (σ τ : Mem), n < 512 → REL n σ τ → ∀ (x1 : Int32), ∃ r : Int32, ∃ σ' : Mem, ∃ τ' : Mem, F_X8_take σ x1 = some (r, σ') ∧ F_X9_take τ x1 = some (r, τ') ∧ REL (n + 1) σ' τ'
def Ok_why (REL : Nat → Mem → Mem → Prop) : Prop := ∀ (n : Nat) (σ τ : Mem), n < 512 → REL n σ τ → ∀ (x1 : Int32), ∃ r : Int32, ∃ σ' : Mem, ∃ τ' : Mem, F_X8_why σ x1 = some (r, σ') ∧ F_X9_why τ x1 = some (r, τ') ∧ REL (n + 1) σ' τ'
def Ok_count (REL : Nat → Mem → Mem → Prop) : Prop := ∀ (n : Nat) (σ τ : Mem), n < 512 → REL n σ τ → ∀ (x1 : Int32), ∃ r : Int32, F_X8_count σ x1 = r ∧ F_X9_count τ x1 = some r ∧ REL (n + 1) σ τ
theorem sc_toInt {n t : Nat} (h : n + t < 2 ^ 31) : nI n + nI t = nI (n + t) := nI_add n t
theorem sc_in {n L : Nat} (t : Nat) {x : Int32} (hx : x = nI t) (h6 : 6 * n + 6 ≤ L) (ht : t < 6) (hL : L ≤ 3072) : vp_in (nI (6 * n) + x) L := by
  rw [hx, nI_add]
  exact vp_in_nI (by omega) (by omega)
theorem sc_at {n L : Nat} (t : Nat) {x : Int32} (hx : x = nI t) (h6 : 6 * n + 6 ≤ L) (ht : t < 6) (hL : L ≤ 3072) : (nI (6 * n) + x).toNatClampNeg = 6 * n + t := by
  rw [hx, nI_add, nI_clamp (by omega)]
section
variable {p : Program} {l : Launch} {e : Env} {s : State} {m : MethodId} {below : List Frame} {meth : Method} {c : Code} {D : va_G} {cyI cyZ : ClassId} {a a2 : Nat → Nat} {b L n : Nat} {xs : Nat → Int32} {REL : Nat → Mem → Mem → Prop} {Q : State → Prop}
def LX (p : Program) (s : State) (m : MethodId) (c : Code) (b L : Nat) (xs : Nat → Int32) (D : va_G) (cyI cyZ : ClassId) : Prop := p.tables.exec = Jvm.exec ∧ c.code = code ∧ c.maxLocals = 4 ∧ s.vm.findClass RL = some m.cls ∧ (∀ w ∈ wsL_law, w.before #[Value.ref b] s = true) ∧ va_X b L xs s s.heap ∧ b < s.heap.size ∧ va_K D vwCl (cyT cyI cyZ) s ∧ NW s
set_option maxHeartbeats 4000000 in
set_option maxRecDepth 100000 in
theorem law_table (C0 : LX p s m c b L xs D cyI cyZ) (ho : Ok_table REL) (hn512 : n < 512) (h6 : 6 * n + 6 ≤ L) (hL : L ≤ 3072) {σ τ : Mem} (hrel : REL n σ τ) {ls : Array Slot} {H : Heap} {locs : List Loc} (hl : lv_has ls 4 [(0, .ref b), (1, .ref (a 0)), (2, .ref (a2 0)), (3, .int (nI (6 * n)))]) (hP : va_P D vwCl (wC cyI cyZ a σ ++ wM cyI cyZ a2 τ) H) (hD : va_D (fun q : Nat => s.heap.size ≤ q) (wC cyI cyZ a σ ++ wM cyI cyZ a2 τ)) (hS : va_S (fun q : Nat => s.heap.size ≤ q) s.heap H locs) (K : ∀ (σ τ : Mem) (H : Heap) (locs : List Loc), REL (n + 1) σ τ → va_P D vwCl (wC cyI cyZ a σ ++ wM cyI cyZ a2 τ) H → va_D (fun q : Nat => s.heap.size ≤ q) (wC cyI cyZ a σ ++ wM cyI cyZ a2 τ) → va_S (fun q : Nat => s.heap.size ≤ q) s.heap H locs → W p l e room_1 s m #[Value.ref b] below meth c H locs 62 102551 Q (F0 m 802 ls [])) : W p l e room_1 s m #[Value.ref b] below meth c H locs 62 102551 Q (F0 m 136 ls []) := by
  obtain ⟨hx, hb, hml, hown, hts, hX, hbl, hK, hN⟩ := C0
  have hbA : ¬ (fun q : Nat => s.heap.size ≤ q) b := Nat.not_le.mpr hbl
  obtain ⟨r, σ', τ', hc1, hc2, hrel⟩ := ho n σ τ hn512 hrel (xs (6 * n + 1))
  refine lv_aload_n hx hb dL_law_136 rfl (lv_at hl 1 rfl) ?_
  refine lv_aload_n hx hb dL_law_137 rfl (lv_at hl 0 rfl) ?_
  refine lv_iload_n hx hb dL_law_138 rfl (lv_at hl 3 rfl) ?_
  refine lv_iconst (v := (1 : Int32)) hx hb dL_law_139 (by decide) ?_
  refine lv_iadd hx hb dL_law_140 ?_
  refine va_sld hx hb hX hbl hbA hS (i := nI (6 * n) + (1 : Int32)) (sc_in 1 rfl h6 (by decide) hL) dL_law_141 ?_
  rw [sc_at 1 (x := (1 : Int32)) rfl h6 (by decide) hL]
  refine z_lawC (w := wC cyI cyZ a σ) (w' := wC cyI cyZ a σ') (v := wM cyI cyZ a2 τ) (As := [.int (xs (6 * n + 1))]) (rest := []) ⟨hx, hb, hml, hown, hts⟩ (fun A => c_X8_table l D cyI cyZ a A σ (xs (6 * n + 1)) r σ' hc1) (cwV 1 hts (gd_V mw_143 mw_144 mw_145 mw_2 mw_146) rfl rfl rfl (by decide +kernel) ⟨Nat.le_of_ble_eq_true rfl, Nat.le_of_ble_eq_true rfl⟩) hK hN hP hD hS 8 0 rfl rfl gC_0 rfl hl.1 rfl (Nat.le_of_ble_eq_true rfl) dL_law_142 ⟨Nat.le_of_ble_eq_true rfl, Nat.le_of_ble_eq_true rfl⟩ (fun H locs hP hD hS => ?_)
  refine lv_aload_n hx hb dL_law_145 rfl (lv_at hl 2 rfl) ?_
  refine lv_aload_n hx hb dL_law_146 rfl (lv_at hl 0 rfl) ?_
  refine lv_iload_n hx hb dL_law_147 rfl (lv_at hl 3 rfl) ?_
  refine lv_iconst (v := (1 : Int32)) hx hb dL_law_148 (by decide) ?_
  refine lv_iadd hx hb dL_law_149 ?_
  refine va_sld hx hb hX hbl hbA hS (i := nI (6 * n) + (1 : Int32)) (sc_in 1 rfl h6 (by decide) hL) dL_law_150 ?_
  rw [sc_at 1 (x := (1 : Int32)) rfl h6 (by decide) hL]
  refine z_lawM (w := wC cyI cyZ a σ') (v := wM cyI cyZ a2 τ) (v' := wM cyI cyZ a2 τ') (As := [.int (xs (6 * n + 1))]) (rest := [.int r]) ⟨hx, hb, hml, hown, hts⟩ (fun A => c_X9_table l D cyI cyZ a2 A τ (xs (6 * n + 1)) r τ' hc2) (cwV 1 hts (gd_V mw_156 mw_157 mw_158 mw_5 mw_159) rfl rfl rfl (by decide +kernel) ⟨Nat.le_of_ble_eq_true rfl, Nat.le_of_ble_eq_true rfl⟩) hK hN hP hD hS 9 0 rfl rfl gM_0 rfl hl.1 rfl (Nat.le_of_ble_eq_true rfl) dL_law_151 ⟨Nat.le_of_ble_eq_true rfl, Nat.le_of_ble_eq_true rfl⟩ (fun H locs hP hD hS => ?_)
  refine lv_icmp_eq (tgt := 802) hx hb dL_law_154 (by decide) (fun _ => ?_) (fun c9 => absurd rfl c9)
  exact K _ _ _ _ hrel hP hD hS
set_option maxHeartbeats 4000000 in
set_option maxRecDepth 100000 in
theorem law_row (C0 : LX p s m c b L xs D cyI cyZ) (ho : Ok_row REL) (hn512 : n < 512) (h6 : 6 * n + 6 ≤ L) (hL : L ≤ 3072) {σ τ : Mem} (hrel : REL n σ τ) {ls : Array Slot} {H : Heap} {locs : List Loc} (hl : lv_has ls 4 [(0, .ref b), (1, .ref (a 0)), (2, .ref (a2 0)), (3, .int (nI (6 * n)))]) (hP : va_P D vwCl (wC cyI cyZ a σ ++ wM cyI cyZ a2 τ) H) (hD : va_D (fun q : Nat => s.heap.size ≤ q) (wC cyI cyZ a σ ++ wM cyI cyZ a2 τ)) (hS : va_S (fun q : Nat => s.heap.size ≤ q) s.heap H locs) (K : ∀ (σ τ : Mem) (H : Heap) (locs : List Loc), REL (n + 1) σ τ → va_P D vwCl (wC cyI cyZ a σ ++ wM cyI cyZ a2 τ) H → va_D (fun q : Nat => s.heap.size ≤ q) (wC cyI cyZ a σ ++ wM cyI cyZ a2 τ) → va_S (fun q : Nat => s.heap.size ≤ q) s.heap H locs → W p l e room_1 s m #[Value.ref b] below meth c H locs 62 102551 Q (F0 m 802 ls [])) : W p l e room_1 s m #[Value.ref b] below meth c H locs 62 102551 Q (F0 m 159 ls []) := by
  obtain ⟨hx, hb, hml, hown, hts, hX, hbl, hK, hN⟩ := C0
  have hbA : ¬ (fun q : Nat => s.heap.size ≤ q) b := Nat.not_le.mpr hbl
  obtain ⟨r, σ', τ', hc1, hc2, hrel⟩ := ho n σ τ hn512 hrel (xs (6 * n + 1))
  refine lv_aload_n hx hb dL_law_159 rfl (lv_at hl 1 rfl) ?_
  refine lv_aload_n hx hb dL_law_160 rfl (lv_at hl 0 rfl) ?_
  refine lv_iload_n hx hb dL_law_161 rfl (lv_at hl 3 rfl) ?_
  refine lv_iconst (v := (1 : Int32)) hx hb dL_law_162 (by decide) ?_
  refine lv_iadd hx hb dL_law_163 ?_
  refine va_sld hx hb hX hbl hbA hS (i := nI (6 * n) + (1 : Int32)) (sc_in 1 rfl h6 (by decide) hL) dL_law_164 ?_
  rw [sc_at 1 (x := (1 : Int32)) rfl h6 (by decide) hL]
  refine z_lawC (w := wC cyI cyZ a σ) (w' := wC cyI cyZ a σ') (v := wM cyI cyZ a2 τ) (As := [.int (xs (6 * n + 1))]) (rest := []) ⟨hx, hb, hml, hown, hts⟩ (fun A => c_X8_row l D cyI cyZ a A σ (xs (6 * n + 1)) r σ' hc1) (cwV 1 hts (gd_V mw_164 mw_165 mw_166 mw_2 mw_167) rfl rfl rfl (by decide +kernel) ⟨Nat.le_of_ble_eq_true rfl, Nat.le_of_ble_eq_true rfl⟩) hK hN hP hD hS 8 0 rfl rfl gC_0 rfl hl.1 rfl (Nat.le_of_ble_eq_true rfl) dL_law_165 ⟨Nat.le_of_ble_eq_true rfl, Nat.le_of_ble_eq_true rfl⟩ (fun H locs hP hD hS => ?_)
  refine lv_aload_n hx hb dL_law_168 rfl (lv_at hl 2 rfl) ?_
  refine lv_aload_n hx hb dL_law_169 rfl (lv_at hl 0 rfl) ?_
  refine lv_iload_n hx hb dL_law_170 rfl (lv_at hl 3 rfl) ?_
  refine lv_iconst (v := (1 : Int32)) hx hb dL_law_171 (by decide) ?_
  refine lv_iadd hx hb dL_law_172 ?_
  refine va_sld hx hb hX hbl hbA hS (i := nI (6 * n) + (1 : Int32)) (sc_in 1 rfl h6 (by decide) hL) dL_law_173 ?_
  rw [sc_at 1 (x := (1 : Int32)) rfl h6 (by decide) hL]
  refine z_lawM (w := wC cyI cyZ a σ') (v := wM cyI cyZ a2 τ) (v' := wM cyI cyZ a2 τ') (As := [.int (xs (6 * n + 1))]) (rest := [.int r]) ⟨hx, hb, hml, hown, hts⟩ (fun A => c_X9_row l D cyI cyZ a2 A τ (xs (6 * n + 1)) r τ' hc2) (cwV 1 hts (gd_V mw_193 mw_194 mw_195 mw_5 mw_196) rfl rfl rfl (by decide +kernel) ⟨Nat.le_of_ble_eq_true rfl, Nat.le_of_ble_eq_true rfl⟩) hK hN hP hD hS 9 0 rfl rfl gM_0 rfl hl.1 rfl (Nat.le_of_ble_eq_true rfl) dL_law_174 ⟨Nat.le_of_ble_eq_true rfl, Nat.le_of_ble_eq_true rfl⟩ (fun H locs hP hD hS => ?_)
  refine lv_icmp_eq (tgt := 802) hx hb dL_law_177 (by decide) (fun _ => ?_) (fun c9 => absurd rfl c9)
  exact K _ _ _ _ hrel hP hD hS
set_option maxHeartbeats 4000000 in
set_option maxRecDepth 100000 in
theorem law_put (C0 : LX p s m c b L xs D cyI cyZ) (ho : Ok_put REL) (hn512 : n < 512) (h6 : 6 * n + 6 ≤ L) (hL : L ≤ 3072) {σ τ : Mem} (hrel : REL n σ τ) {ls : Array Slot} {H : Heap} {locs : List Loc} (hl : lv_has ls 4 [(0, .ref b), (1, .ref (a 0)), (2, .ref (a2 0)), (3, .int (nI (6 * n)))]) (hP : va_P D vwCl (wC cyI cyZ a σ ++ wM cyI cyZ a2 τ) H) (hD : va_D (fun q : Nat => s.heap.size ≤ q) (wC cyI cyZ a σ ++ wM cyI cyZ a2 τ)) (hS : va_S (fun q : Nat => s.heap.size ≤ q) s.heap H locs) (K : ∀ (σ τ : Mem) (H : Heap) (locs : List Loc), REL (n + 1) σ τ → va_P D vwCl (wC cyI cyZ a σ ++ wM cyI cyZ a2 τ) H → va_D (fun q : Nat => s.heap.size ≤ q) (wC cyI cyZ a σ ++ wM cyI cyZ a2 τ) → va_S (fun q : Nat => s.heap.size ≤ q) s.heap H locs → W p l e room_1 s m #[Value.ref b] below meth c H locs 62 102551 Q (F0 m 802 ls [])) : W p l e room_1 s m #[Value.ref b] below meth c H locs 62 102551 Q (F0 m 182 ls []) := by
  obtain ⟨hx, hb, hml, hown, hts, hX, hbl, hK, hN⟩ := C0
  have hbA : ¬ (fun q : Nat => s.heap.size ≤ q) b := Nat.not_le.mpr hbl
  obtain ⟨r, σ', τ', hc1, hc2, hrel⟩ := ho n σ τ hn512 hrel (xs (6 * n + 1)) (xs (6 * n + 2)) (xs (6 * n + 3)) (xs (6 * n + 4))
  refine lv_aload_n hx hb dL_law_182 rfl (lv_at hl 1 rfl) ?_
  refine lv_aload_n hx hb dL_law_183 rfl (lv_at hl 0 rfl) ?_
  refine lv_iload_n hx hb dL_law_184 rfl (lv_at hl 3 rfl) ?_
  refine lv_iconst (v := (1 : Int32)) hx hb dL_law_185 (by decide) ?_
  refine lv_iadd hx hb dL_law_186 ?_
  refine va_sld hx hb hX hbl hbA hS (i := nI (6 * n) + (1 : Int32)) (sc_in 1 rfl h6 (by decide) hL) dL_law_187 ?_
  rw [sc_at 1 (x := (1 : Int32)) rfl h6 (by decide) hL]
  refine lv_aload_n hx hb dL_law_188 rfl (lv_at hl 0 rfl) ?_
  refine lv_iload_n hx hb dL_law_189 rfl (lv_at hl 3 rfl) ?_
  refine lv_iconst (v := (2 : Int32)) hx hb dL_law_190 (by decide) ?_
  refine lv_iadd hx hb dL_law_191 ?_
  refine va_sld hx hb hX hbl hbA hS (i := nI (6 * n) + (2 : Int32)) (sc_in 2 rfl h6 (by decide) hL) dL_law_192 ?_
  rw [sc_at 2 (x := (2 : Int32)) rfl h6 (by decide) hL]
  refine lv_aload_n hx hb dL_law_193 rfl (lv_at hl 0 rfl) ?_
  refine lv_iload_n hx hb dL_law_194 rfl (lv_at hl 3 rfl) ?_
  refine lv_iconst (v := (3 : Int32)) hx hb dL_law_195 (by decide) ?_
  refine lv_iadd hx hb dL_law_196 ?_
  refine va_sld hx hb hX hbl hbA hS (i := nI (6 * n) + (3 : Int32)) (sc_in 3 rfl h6 (by decide) hL) dL_law_197 ?_
  rw [sc_at 3 (x := (3 : Int32)) rfl h6 (by decide) hL]
  refine lv_aload_n hx hb dL_law_198 rfl (lv_at hl 0 rfl) ?_
  refine lv_iload_n hx hb dL_law_199 rfl (lv_at hl 3 rfl) ?_
  refine lv_iconst (v := (4 : Int32)) hx hb dL_law_200 (by decide) ?_
  refine lv_iadd hx hb dL_law_201 ?_
  refine va_sld hx hb hX hbl hbA hS (i := nI (6 * n) + (4 : Int32)) (sc_in 4 rfl h6 (by decide) hL) dL_law_202 ?_
  rw [sc_at 4 (x := (4 : Int32)) rfl h6 (by decide) hL]
  refine z_lawC (w := wC cyI cyZ a σ) (w' := wC cyI cyZ a σ') (v := wM cyI cyZ a2 τ) (As := [.int (xs (6 * n + 1)), .int (xs (6 * n + 2)), .int (xs (6 * n + 3)), .int (xs (6 * n + 4))]) (rest := []) ⟨hx, hb, hml, hown, hts⟩ (fun A => c_X8_put l D cyI cyZ a A σ (xs (6 * n + 1)) (xs (6 * n + 2)) (xs (6 * n + 3)) (xs (6 * n + 4)) r σ' hc1) (cwV 4 hts (gd_V mw_201 mw_202 mw_203 mw_2 mw_204) rfl rfl rfl (by decide +kernel) ⟨Nat.le_of_ble_eq_true rfl, Nat.le_of_ble_eq_true rfl⟩) hK hN hP hD hS 8 0 rfl rfl gC_0 rfl hl.1 rfl (Nat.le_of_ble_eq_true rfl) dL_law_203 ⟨Nat.le_of_ble_eq_true rfl, Nat.le_of_ble_eq_true rfl⟩ (fun H locs hP hD hS => ?_)
  refine lv_aload_n hx hb dL_law_206 rfl (lv_at hl 2 rfl) ?_
  refine lv_aload_n hx hb dL_law_207 rfl (lv_at hl 0 rfl) ?_
  refine lv_iload_n hx hb dL_law_208 rfl (lv_at hl 3 rfl) ?_
  refine lv_iconst (v := (1 : Int32)) hx hb dL_law_209 (by decide) ?_
  refine lv_iadd hx hb dL_law_210 ?_
  refine va_sld hx hb hX hbl hbA hS (i := nI (6 * n) + (1 : Int32)) (sc_in 1 rfl h6 (by decide) hL) dL_law_211 ?_
  rw [sc_at 1 (x := (1 : Int32)) rfl h6 (by decide) hL]
  refine lv_aload_n hx hb dL_law_212 rfl (lv_at hl 0 rfl) ?_
  refine lv_iload_n hx hb dL_law_213 rfl (lv_at hl 3 rfl) ?_
  refine lv_iconst (v := (2 : Int32)) hx hb dL_law_214 (by decide) ?_
  refine lv_iadd hx hb dL_law_215 ?_
  refine va_sld hx hb hX hbl hbA hS (i := nI (6 * n) + (2 : Int32)) (sc_in 2 rfl h6 (by decide) hL) dL_law_216 ?_
  rw [sc_at 2 (x := (2 : Int32)) rfl h6 (by decide) hL]
  refine lv_aload_n hx hb dL_law_217 rfl (lv_at hl 0 rfl) ?_
  refine lv_iload_n hx hb dL_law_218 rfl (lv_at hl 3 rfl) ?_
  refine lv_iconst (v := (3 : Int32)) hx hb dL_law_219 (by decide) ?_
  refine lv_iadd hx hb dL_law_220 ?_
  refine va_sld hx hb hX hbl hbA hS (i := nI (6 * n) + (3 : Int32)) (sc_in 3 rfl h6 (by decide) hL) dL_law_221 ?_
  rw [sc_at 3 (x := (3 : Int32)) rfl h6 (by decide) hL]
  refine lv_aload_n hx hb dL_law_222 rfl (lv_at hl 0 rfl) ?_
  refine lv_iload_n hx hb dL_law_223 rfl (lv_at hl 3 rfl) ?_
  refine lv_iconst (v := (4 : Int32)) hx hb dL_law_224 (by decide) ?_
  refine lv_iadd hx hb dL_law_225 ?_
  refine va_sld hx hb hX hbl hbA hS (i := nI (6 * n) + (4 : Int32)) (sc_in 4 rfl h6 (by decide) hL) dL_law_226 ?_
  rw [sc_at 4 (x := (4 : Int32)) rfl h6 (by decide) hL]
  refine z_lawM (w := wC cyI cyZ a σ') (v := wM cyI cyZ a2 τ) (v' := wM cyI cyZ a2 τ') (As := [.int (xs (6 * n + 1)), .int (xs (6 * n + 2)), .int (xs (6 * n + 3)), .int (xs (6 * n + 4))]) (rest := [.int r]) ⟨hx, hb, hml, hown, hts⟩ (fun A => c_X9_put l D cyI cyZ a2 A τ (xs (6 * n + 1)) (xs (6 * n + 2)) (xs (6 * n + 3)) (xs (6 * n + 4)) r τ' hc2) (cwV 4 hts (gd_V mw_222 mw_223 mw_224 mw_5 mw_225) rfl rfl rfl (by decide +kernel) ⟨Nat.le_of_ble_eq_true rfl, Nat.le_of_ble_eq_true rfl⟩) hK hN hP hD hS 9 0 rfl rfl gM_0 rfl hl.1 rfl (Nat.le_of_ble_eq_true rfl) dL_law_227 ⟨Nat.le_of_ble_eq_true rfl, Nat.le_of_ble_eq_true rfl⟩ (fun H locs hP hD hS => ?_)
  refine lv_icmp_eq (tgt := 802) hx hb dL_law_230 (by decide) (fun _ => ?_) (fun c9 => absurd rfl c9)
  exact K _ _ _ _ hrel hP hD hS
set_option maxHeartbeats 4000000 in
set_option maxRecDepth 100000 in
theorem law_value (C0 : LX p s m c b L xs D cyI cyZ) (ho : Ok_value REL) (hn512 : n < 512) (h6 : 6 * n + 6 ≤ L) (hL : L ≤ 3072) {σ τ : Mem} (hrel : REL n σ τ) {ls : Array Slot} {H : Heap} {locs : List Loc} (hl : lv_has ls 4 [(0, .ref b), (1, .ref (a 0)), (2, .ref (a2 0)), (3, .int (nI (6 * n)))]) (hP : va_P D vwCl (wC cyI cyZ a σ ++ wM cyI cyZ a2 τ) H) (hD : va_D (fun q : Nat => s.heap.size ≤ q) (wC cyI cyZ a σ ++ wM cyI cyZ a2 τ)) (hS : va_S (fun q : Nat => s.heap.size ≤ q) s.heap H locs) (K : ∀ (σ τ : Mem) (H : Heap) (locs : List Loc), REL (n + 1) σ τ → va_P D vwCl (wC cyI cyZ a σ ++ wM cyI cyZ a2 τ) H → va_D (fun q : Nat => s.heap.size ≤ q) (wC cyI cyZ a σ ++ wM cyI cyZ a2 τ) → va_S (fun q : Nat => s.heap.size ≤ q) s.heap H locs → W p l e room_1 s m #[Value.ref b] below meth c H locs 62 102551 Q (F0 m 802 ls [])) : W p l e room_1 s m #[Value.ref b] below meth c H locs 62 102551 Q (F0 m 235 ls []) := by
  obtain ⟨hx, hb, hml, hown, hts, hX, hbl, hK, hN⟩ := C0
  have hbA : ¬ (fun q : Nat => s.heap.size ≤ q) b := Nat.not_le.mpr hbl
  obtain ⟨r, hc1, hc2, hrel⟩ := ho n σ τ hn512 hrel (xs (6 * n + 1)) (xs (6 * n + 2)) (xs (6 * n + 3))
  refine lv_aload_n hx hb dL_law_235 rfl (lv_at hl 1 rfl) ?_
  refine lv_aload_n hx hb dL_law_236 rfl (lv_at hl 0 rfl) ?_
  refine lv_iload_n hx hb dL_law_237 rfl (lv_at hl 3 rfl) ?_
  refine lv_iconst (v := (1 : Int32)) hx hb dL_law_238 (by decide) ?_
  refine lv_iadd hx hb dL_law_239 ?_
  refine va_sld hx hb hX hbl hbA hS (i := nI (6 * n) + (1 : Int32)) (sc_in 1 rfl h6 (by decide) hL) dL_law_240 ?_
  rw [sc_at 1 (x := (1 : Int32)) rfl h6 (by decide) hL]
  refine lv_aload_n hx hb dL_law_241 rfl (lv_at hl 0 rfl) ?_
  refine lv_iload_n hx hb dL_law_242 rfl (lv_at hl 3 rfl) ?_
  refine lv_iconst (v := (2 : Int32)) hx hb dL_law_243 (by decide) ?_
  refine lv_iadd hx hb dL_law_244 ?_
  refine va_sld hx hb hX hbl hbA hS (i := nI (6 * n) + (2 : Int32)) (sc_in 2 rfl h6 (by decide) hL) dL_law_245 ?_
  rw [sc_at 2 (x := (2 : Int32)) rfl h6 (by decide) hL]
  refine lv_aload_n hx hb dL_law_246 rfl (lv_at hl 0 rfl) ?_
  refine lv_iload_n hx hb dL_law_247 rfl (lv_at hl 3 rfl) ?_
  refine lv_iconst (v := (3 : Int32)) hx hb dL_law_248 (by decide) ?_
  refine lv_iadd hx hb dL_law_249 ?_
  refine va_sld hx hb hX hbl hbA hS (i := nI (6 * n) + (3 : Int32)) (sc_in 3 rfl h6 (by decide) hL) dL_law_250 ?_
  rw [sc_at 3 (x := (3 : Int32)) rfl h6 (by decide) hL]
  refine z_lawC (w := wC cyI cyZ a σ) (w' := wC cyI cyZ a σ) (v := wM cyI cyZ a2 τ) (As := [.int (xs (6 * n + 1)), .int (xs (6 * n + 2)), .int (xs (6 * n + 3))]) (rest := []) ⟨hx, hb, hml, hown, hts⟩ (fun A => c_X8_value l D cyI cyZ a A σ (xs (6 * n + 1)) (xs (6 * n + 2)) (xs (6 * n + 3)) r hc1) (cwV 3 hts (gd_V mw_234 mw_235 mw_236 mw_2 mw_237) rfl rfl rfl (by decide +kernel) ⟨Nat.le_of_ble_eq_true rfl, Nat.le_of_ble_eq_true rfl⟩) hK hN hP hD hS 8 0 rfl rfl gC_0 rfl hl.1 rfl (Nat.le_of_ble_eq_true rfl) dL_law_251 ⟨Nat.le_of_ble_eq_true rfl, Nat.le_of_ble_eq_true rfl⟩ (fun H locs hP hD hS => ?_)
  refine lv_aload_n hx hb dL_law_254 rfl (lv_at hl 2 rfl) ?_
  refine lv_aload_n hx hb dL_law_255 rfl (lv_at hl 0 rfl) ?_
  refine lv_iload_n hx hb dL_law_256 rfl (lv_at hl 3 rfl) ?_
  refine lv_iconst (v := (1 : Int32)) hx hb dL_law_257 (by decide) ?_
  refine lv_iadd hx hb dL_law_258 ?_
  refine va_sld hx hb hX hbl hbA hS (i := nI (6 * n) + (1 : Int32)) (sc_in 1 rfl h6 (by decide) hL) dL_law_259 ?_
  rw [sc_at 1 (x := (1 : Int32)) rfl h6 (by decide) hL]
  refine lv_aload_n hx hb dL_law_260 rfl (lv_at hl 0 rfl) ?_
  refine lv_iload_n hx hb dL_law_261 rfl (lv_at hl 3 rfl) ?_
  refine lv_iconst (v := (2 : Int32)) hx hb dL_law_262 (by decide) ?_
  refine lv_iadd hx hb dL_law_263 ?_
  refine va_sld hx hb hX hbl hbA hS (i := nI (6 * n) + (2 : Int32)) (sc_in 2 rfl h6 (by decide) hL) dL_law_264 ?_
  rw [sc_at 2 (x := (2 : Int32)) rfl h6 (by decide) hL]
  refine lv_aload_n hx hb dL_law_265 rfl (lv_at hl 0 rfl) ?_
  refine lv_iload_n hx hb dL_law_266 rfl (lv_at hl 3 rfl) ?_
  refine lv_iconst (v := (3 : Int32)) hx hb dL_law_267 (by decide) ?_
  refine lv_iadd hx hb dL_law_268 ?_
  refine va_sld hx hb hX hbl hbA hS (i := nI (6 * n) + (3 : Int32)) (sc_in 3 rfl h6 (by decide) hL) dL_law_269 ?_
  rw [sc_at 3 (x := (3 : Int32)) rfl h6 (by decide) hL]
  refine z_lawM (w := wC cyI cyZ a σ) (v := wM cyI cyZ a2 τ) (v' := wM cyI cyZ a2 τ) (As := [.int (xs (6 * n + 1)), .int (xs (6 * n + 2)), .int (xs (6 * n + 3))]) (rest := [.int r]) ⟨hx, hb, hml, hown, hts⟩ (fun A => c_X9_value l D cyI cyZ a2 A τ (xs (6 * n + 1)) (xs (6 * n + 2)) (xs (6 * n + 3)) r hc2) (cwV 3 hts (gd_V mw_243 mw_244 mw_245 mw_5 mw_246) rfl rfl rfl (by decide +kernel) ⟨Nat.le_of_ble_eq_true rfl, Nat.le_of_ble_eq_true rfl⟩) hK hN hP hD hS 9 0 rfl rfl gM_0 rfl hl.1 rfl (Nat.le_of_ble_eq_true rfl) dL_law_270 ⟨Nat.le_of_ble_eq_true rfl, Nat.le_of_ble_eq_true rfl⟩ (fun H locs hP hD hS => ?_)
  refine lv_icmp_eq (tgt := 802) hx hb dL_law_273 (by decide) (fun _ => ?_) (fun c9 => absurd rfl c9)
  exact K _ _ _ _ hrel hP hD hS
set_option maxHeartbeats 4000000 in
set_option maxRecDepth 100000 in
theorem law_link (C0 : LX p s m c b L xs D cyI cyZ) (ho : Ok_link REL) (hn512 : n < 512) (h6 : 6 * n + 6 ≤ L) (hL : L ≤ 3072) {σ τ : Mem} (hrel : REL n σ τ) {ls : Array Slot} {H : Heap} {locs : List Loc} (hl : lv_has ls 4 [(0, .ref b), (1, .ref (a 0)), (2, .ref (a2 0)), (3, .int (nI (6 * n)))]) (hP : va_P D vwCl (wC cyI cyZ a σ ++ wM cyI cyZ a2 τ) H) (hD : va_D (fun q : Nat => s.heap.size ≤ q) (wC cyI cyZ a σ ++ wM cyI cyZ a2 τ)) (hS : va_S (fun q : Nat => s.heap.size ≤ q) s.heap H locs) (K : ∀ (σ τ : Mem) (H : Heap) (locs : List Loc), REL (n + 1) σ τ → va_P D vwCl (wC cyI cyZ a σ ++ wM cyI cyZ a2 τ) H → va_D (fun q : Nat => s.heap.size ≤ q) (wC cyI cyZ a σ ++ wM cyI cyZ a2 τ) → va_S (fun q : Nat => s.heap.size ≤ q) s.heap H locs → W p l e room_1 s m #[Value.ref b] below meth c H locs 62 102551 Q (F0 m 802 ls [])) : W p l e room_1 s m #[Value.ref b] below meth c H locs 62 102551 Q (F0 m 278 ls []) := by
  obtain ⟨hx, hb, hml, hown, hts, hX, hbl, hK, hN⟩ := C0
  have hbA : ¬ (fun q : Nat => s.heap.size ≤ q) b := Nat.not_le.mpr hbl
  obtain ⟨r, σ', τ', hc1, hc2, hrel⟩ := ho n σ τ hn512 hrel (xs (6 * n + 1)) (xs (6 * n + 2)) (xs (6 * n + 3))
  refine lv_aload_n hx hb dL_law_278 rfl (lv_at hl 1 rfl) ?_
  refine lv_aload_n hx hb dL_law_279 rfl (lv_at hl 0 rfl) ?_
  refine lv_iload_n hx hb dL_law_280 rfl (lv_at hl 3 rfl) ?_
  refine lv_iconst (v := (1 : Int32)) hx hb dL_law_281 (by decide) ?_
  refine lv_iadd hx hb dL_law_282 ?_
  refine va_sld hx hb hX hbl hbA hS (i := nI (6 * n) + (1 : Int32)) (sc_in 1 rfl h6 (by decide) hL) dL_law_283 ?_
  rw [sc_at 1 (x := (1 : Int32)) rfl h6 (by decide) hL]
  refine lv_aload_n hx hb dL_law_284 rfl (lv_at hl 0 rfl) ?_
  refine lv_iload_n hx hb dL_law_285 rfl (lv_at hl 3 rfl) ?_
  refine lv_iconst (v := (2 : Int32)) hx hb dL_law_286 (by decide) ?_
  refine lv_iadd hx hb dL_law_287 ?_
  refine va_sld hx hb hX hbl hbA hS (i := nI (6 * n) + (2 : Int32)) (sc_in 2 rfl h6 (by decide) hL) dL_law_288 ?_
  rw [sc_at 2 (x := (2 : Int32)) rfl h6 (by decide) hL]
  refine lv_aload_n hx hb dL_law_289 rfl (lv_at hl 0 rfl) ?_
  refine lv_iload_n hx hb dL_law_290 rfl (lv_at hl 3 rfl) ?_
  refine lv_iconst (v := (3 : Int32)) hx hb dL_law_291 (by decide) ?_
  refine lv_iadd hx hb dL_law_292 ?_
  refine va_sld hx hb hX hbl hbA hS (i := nI (6 * n) + (3 : Int32)) (sc_in 3 rfl h6 (by decide) hL) dL_law_293 ?_
  rw [sc_at 3 (x := (3 : Int32)) rfl h6 (by decide) hL]
  refine z_lawC (w := wC cyI cyZ a σ) (w' := wC cyI cyZ a σ') (v := wM cyI cyZ a2 τ) (As := [.int (xs (6 * n + 1)), .int (xs (6 * n + 2)), .int (xs (6 * n + 3))]) (rest := []) ⟨hx, hb, hml, hown, hts⟩ (fun A => c_X8_link l D cyI cyZ a A σ (xs (6 * n + 1)) (xs (6 * n + 2)) (xs (6 * n + 3)) r σ' hc1) (cwV 3 hts (gd_V mw_253 mw_254 mw_255 mw_2 mw_256) rfl rfl rfl (by decide +kernel) ⟨Nat.le_of_ble_eq_true rfl, Nat.le_of_ble_eq_true rfl⟩) hK hN hP hD hS 8 0 rfl rfl gC_0 rfl hl.1 rfl (Nat.le_of_ble_eq_true rfl) dL_law_294 ⟨Nat.le_of_ble_eq_true rfl, Nat.le_of_ble_eq_true rfl⟩ (fun H locs hP hD hS => ?_)
  refine lv_aload_n hx hb dL_law_297 rfl (lv_at hl 2 rfl) ?_
  refine lv_aload_n hx hb dL_law_298 rfl (lv_at hl 0 rfl) ?_
  refine lv_iload_n hx hb dL_law_299 rfl (lv_at hl 3 rfl) ?_
  refine lv_iconst (v := (1 : Int32)) hx hb dL_law_300 (by decide) ?_
  refine lv_iadd hx hb dL_law_301 ?_
  refine va_sld hx hb hX hbl hbA hS (i := nI (6 * n) + (1 : Int32)) (sc_in 1 rfl h6 (by decide) hL) dL_law_302 ?_
  rw [sc_at 1 (x := (1 : Int32)) rfl h6 (by decide) hL]
  refine lv_aload_n hx hb dL_law_303 rfl (lv_at hl 0 rfl) ?_
  refine lv_iload_n hx hb dL_law_304 rfl (lv_at hl 3 rfl) ?_
  refine lv_iconst (v := (2 : Int32)) hx hb dL_law_305 (by decide) ?_
  refine lv_iadd hx hb dL_law_306 ?_
  refine va_sld hx hb hX hbl hbA hS (i := nI (6 * n) + (2 : Int32)) (sc_in 2 rfl h6 (by decide) hL) dL_law_307 ?_
  rw [sc_at 2 (x := (2 : Int32)) rfl h6 (by decide) hL]
  refine lv_aload_n hx hb dL_law_308 rfl (lv_at hl 0 rfl) ?_
  refine lv_iload_n hx hb dL_law_309 rfl (lv_at hl 3 rfl) ?_
  refine lv_iconst (v := (3 : Int32)) hx hb dL_law_310 (by decide) ?_
  refine lv_iadd hx hb dL_law_311 ?_
  refine va_sld hx hb hX hbl hbA hS (i := nI (6 * n) + (3 : Int32)) (sc_in 3 rfl h6 (by decide) hL) dL_law_312 ?_
  rw [sc_at 3 (x := (3 : Int32)) rfl h6 (by decide) hL]
  refine z_lawM (w := wC cyI cyZ a σ') (v := wM cyI cyZ a2 τ) (v' := wM cyI cyZ a2 τ') (As := [.int (xs (6 * n + 1)), .int (xs (6 * n + 2)), .int (xs (6 * n + 3))]) (rest := [.int r]) ⟨hx, hb, hml, hown, hts⟩ (fun A => c_X9_link l D cyI cyZ a2 A τ (xs (6 * n + 1)) (xs (6 * n + 2)) (xs (6 * n + 3)) r τ' hc2) (cwV 3 hts (gd_V mw_271 mw_272 mw_273 mw_5 mw_274) rfl rfl rfl (by decide +kernel) ⟨Nat.le_of_ble_eq_true rfl, Nat.le_of_ble_eq_true rfl⟩) hK hN hP hD hS 9 0 rfl rfl gM_0 rfl hl.1 rfl (Nat.le_of_ble_eq_true rfl) dL_law_313 ⟨Nat.le_of_ble_eq_true rfl, Nat.le_of_ble_eq_true rfl⟩ (fun H locs hP hD hS => ?_)
  refine lv_icmp_eq (tgt := 802) hx hb dL_law_316 (by decide) (fun _ => ?_) (fun c9 => absurd rfl c9)
  exact K _ _ _ _ hrel hP hD hS
set_option maxHeartbeats 4000000 in
set_option maxRecDepth 100000 in
theorem law_mean (C0 : LX p s m c b L xs D cyI cyZ) (ho : Ok_mean REL) (hn512 : n < 512) (h6 : 6 * n + 6 ≤ L) (hL : L ≤ 3072) {σ τ : Mem} (hrel : REL n σ τ) {ls : Array Slot} {H : Heap} {locs : List Loc} (hl : lv_has ls 4 [(0, .ref b), (1, .ref (a 0)), (2, .ref (a2 0)), (3, .int (nI (6 * n)))]) (hP : va_P D vwCl (wC cyI cyZ a σ ++ wM cyI cyZ a2 τ) H) (hD : va_D (fun q : Nat => s.heap.size ≤ q) (wC cyI cyZ a σ ++ wM cyI cyZ a2 τ)) (hS : va_S (fun q : Nat => s.heap.size ≤ q) s.heap H locs) (K : ∀ (σ τ : Mem) (H : Heap) (locs : List Loc), REL (n + 1) σ τ → va_P D vwCl (wC cyI cyZ a σ ++ wM cyI cyZ a2 τ) H → va_D (fun q : Nat => s.heap.size ≤ q) (wC cyI cyZ a σ ++ wM cyI cyZ a2 τ) → va_S (fun q : Nat => s.heap.size ≤ q) s.heap H locs → W p l e room_1 s m #[Value.ref b] below meth c H locs 62 102551 Q (F0 m 802 ls [])) : W p l e room_1 s m #[Value.ref b] below meth c H locs 62 102551 Q (F0 m 321 ls []) := by
  obtain ⟨hx, hb, hml, hown, hts, hX, hbl, hK, hN⟩ := C0
  have hbA : ¬ (fun q : Nat => s.heap.size ≤ q) b := Nat.not_le.mpr hbl
  obtain ⟨r, σ', τ', hc1, hc2, hrel⟩ := ho n σ τ hn512 hrel (xs (6 * n + 1)) (xs (6 * n + 2)) (xs (6 * n + 3)) (xs (6 * n + 4)) (xs (6 * n + 5))
  refine lv_aload_n hx hb dL_law_321 rfl (lv_at hl 1 rfl) ?_
  refine lv_aload_n hx hb dL_law_322 rfl (lv_at hl 0 rfl) ?_
  refine lv_iload_n hx hb dL_law_323 rfl (lv_at hl 3 rfl) ?_
  refine lv_iconst (v := (1 : Int32)) hx hb dL_law_324 (by decide) ?_
  refine lv_iadd hx hb dL_law_325 ?_
  refine va_sld hx hb hX hbl hbA hS (i := nI (6 * n) + (1 : Int32)) (sc_in 1 rfl h6 (by decide) hL) dL_law_326 ?_
  rw [sc_at 1 (x := (1 : Int32)) rfl h6 (by decide) hL]
  refine lv_aload_n hx hb dL_law_327 rfl (lv_at hl 0 rfl) ?_
  refine lv_iload_n hx hb dL_law_328 rfl (lv_at hl 3 rfl) ?_
  refine lv_iconst (v := (2 : Int32)) hx hb dL_law_329 (by decide) ?_
  refine lv_iadd hx hb dL_law_330 ?_
  refine va_sld hx hb hX hbl hbA hS (i := nI (6 * n) + (2 : Int32)) (sc_in 2 rfl h6 (by decide) hL) dL_law_331 ?_
  rw [sc_at 2 (x := (2 : Int32)) rfl h6 (by decide) hL]
  refine lv_aload_n hx hb dL_law_332 rfl (lv_at hl 0 rfl) ?_
  refine lv_iload_n hx hb dL_law_333 rfl (lv_at hl 3 rfl) ?_
  refine lv_iconst (v := (3 : Int32)) hx hb dL_law_334 (by decide) ?_
  refine lv_iadd hx hb dL_law_335 ?_
  refine va_sld hx hb hX hbl hbA hS (i := nI (6 * n) + (3 : Int32)) (sc_in 3 rfl h6 (by decide) hL) dL_law_336 ?_
  rw [sc_at 3 (x := (3 : Int32)) rfl h6 (by decide) hL]
  refine lv_aload_n hx hb dL_law_337 rfl (lv_at hl 0 rfl) ?_
  refine lv_iload_n hx hb dL_law_338 rfl (lv_at hl 3 rfl) ?_
  refine lv_iconst (v := (4 : Int32)) hx hb dL_law_339 (by decide) ?_
  refine lv_iadd hx hb dL_law_340 ?_
  refine va_sld hx hb hX hbl hbA hS (i := nI (6 * n) + (4 : Int32)) (sc_in 4 rfl h6 (by decide) hL) dL_law_341 ?_
  rw [sc_at 4 (x := (4 : Int32)) rfl h6 (by decide) hL]
  refine lv_aload_n hx hb dL_law_342 rfl (lv_at hl 0 rfl) ?_
  refine lv_iload_n hx hb dL_law_343 rfl (lv_at hl 3 rfl) ?_
  refine lv_iconst (v := (5 : Int32)) hx hb dL_law_344 (by decide) ?_
  refine lv_iadd hx hb dL_law_345 ?_
  refine va_sld hx hb hX hbl hbA hS (i := nI (6 * n) + (5 : Int32)) (sc_in 5 rfl h6 (by decide) hL) dL_law_346 ?_
  rw [sc_at 5 (x := (5 : Int32)) rfl h6 (by decide) hL]
  refine z_lawC (w := wC cyI cyZ a σ) (w' := wC cyI cyZ a σ') (v := wM cyI cyZ a2 τ) (As := [.int (xs (6 * n + 1)), .int (xs (6 * n + 2)), .int (xs (6 * n + 3)), .int (xs (6 * n + 4)), .int (xs (6 * n + 5))]) (rest := []) ⟨hx, hb, hml, hown, hts⟩ (fun A => c_X8_mean l D cyI cyZ a A σ (xs (6 * n + 1)) (xs (6 * n + 2)) (xs (6 * n + 3)) (xs (6 * n + 4)) (xs (6 * n + 5)) r σ' hc1) (cwV 5 hts (gd_V mw_275 mw_276 mw_277 mw_2 mw_278) rfl rfl rfl (by decide +kernel) ⟨Nat.le_of_ble_eq_true rfl, Nat.le_of_ble_eq_true rfl⟩) hK hN hP hD hS 8 0 rfl rfl gC_0 rfl hl.1 rfl (Nat.le_of_ble_eq_true rfl) dL_law_347 ⟨Nat.le_of_ble_eq_true rfl, Nat.le_of_ble_eq_true rfl⟩ (fun H locs hP hD hS => ?_)
  refine lv_aload_n hx hb dL_law_350 rfl (lv_at hl 2 rfl) ?_
  refine lv_aload_n hx hb dL_law_351 rfl (lv_at hl 0 rfl) ?_
  refine lv_iload_n hx hb dL_law_352 rfl (lv_at hl 3 rfl) ?_
  refine lv_iconst (v := (1 : Int32)) hx hb dL_law_353 (by decide) ?_
  refine lv_iadd hx hb dL_law_354 ?_
  refine va_sld hx hb hX hbl hbA hS (i := nI (6 * n) + (1 : Int32)) (sc_in 1 rfl h6 (by decide) hL) dL_law_355 ?_
  rw [sc_at 1 (x := (1 : Int32)) rfl h6 (by decide) hL]
  refine lv_aload_n hx hb dL_law_356 rfl (lv_at hl 0 rfl) ?_
  refine lv_iload_n hx hb dL_law_357 rfl (lv_at hl 3 rfl) ?_
  refine lv_iconst (v := (2 : Int32)) hx hb dL_law_358 (by decide) ?_
  refine lv_iadd hx hb dL_law_359 ?_
  refine va_sld hx hb hX hbl hbA hS (i := nI (6 * n) + (2 : Int32)) (sc_in 2 rfl h6 (by decide) hL) dL_law_360 ?_
  rw [sc_at 2 (x := (2 : Int32)) rfl h6 (by decide) hL]
  refine lv_aload_n hx hb dL_law_361 rfl (lv_at hl 0 rfl) ?_
  refine lv_iload_n hx hb dL_law_362 rfl (lv_at hl 3 rfl) ?_
  refine lv_iconst (v := (3 : Int32)) hx hb dL_law_363 (by decide) ?_
  refine lv_iadd hx hb dL_law_364 ?_
  refine va_sld hx hb hX hbl hbA hS (i := nI (6 * n) + (3 : Int32)) (sc_in 3 rfl h6 (by decide) hL) dL_law_365 ?_
  rw [sc_at 3 (x := (3 : Int32)) rfl h6 (by decide) hL]
  refine lv_aload_n hx hb dL_law_366 rfl (lv_at hl 0 rfl) ?_
  refine lv_iload_n hx hb dL_law_367 rfl (lv_at hl 3 rfl) ?_
  refine lv_iconst (v := (4 : Int32)) hx hb dL_law_368 (by decide) ?_
  refine lv_iadd hx hb dL_law_369 ?_
  refine va_sld hx hb hX hbl hbA hS (i := nI (6 * n) + (4 : Int32)) (sc_in 4 rfl h6 (by decide) hL) dL_law_370 ?_
  rw [sc_at 4 (x := (4 : Int32)) rfl h6 (by decide) hL]
  refine lv_aload_n hx hb dL_law_371 rfl (lv_at hl 0 rfl) ?_
  refine lv_iload_n hx hb dL_law_372 rfl (lv_at hl 3 rfl) ?_
  refine lv_iconst (v := (5 : Int32)) hx hb dL_law_373 (by decide) ?_
  refine lv_iadd hx hb dL_law_374 ?_
  refine va_sld hx hb hX hbl hbA hS (i := nI (6 * n) + (5 : Int32)) (sc_in 5 rfl h6 (by decide) hL) dL_law_375 ?_
  rw [sc_at 5 (x := (5 : Int32)) rfl h6 (by decide) hL]
  refine z_lawM (w := wC cyI cyZ a σ') (v := wM cyI cyZ a2 τ) (v' := wM cyI cyZ a2 τ') (As := [.int (xs (6 * n + 1)), .int (xs (6 * n + 2)), .int (xs (6 * n + 3)), .int (xs (6 * n + 4)), .int (xs (6 * n + 5))]) (rest := [.int r]) ⟨hx, hb, hml, hown, hts⟩ (fun A => c_X9_mean l D cyI cyZ a2 A τ (xs (6 * n + 1)) (xs (6 * n + 2)) (xs (6 * n + 3)) (xs (6 * n + 4)) (xs (6 * n + 5)) r τ' hc2) (cwV 5 hts (gd_V mw_299 mw_300 mw_301 mw_5 mw_302) rfl rfl rfl (by decide +kernel) ⟨Nat.le_of_ble_eq_true rfl, Nat.le_of_ble_eq_true rfl⟩) hK hN hP hD hS 9 0 rfl rfl gM_0 rfl hl.1 rfl (Nat.le_of_ble_eq_true rfl) dL_law_376 ⟨Nat.le_of_ble_eq_true rfl, Nat.le_of_ble_eq_true rfl⟩ (fun H locs hP hD hS => ?_)
  refine lv_icmp_eq (tgt := 802) hx hb dL_law_379 (by decide) (fun _ => ?_) (fun c9 => absurd rfl c9)
  exact K _ _ _ _ hrel hP hD hS
set_option maxHeartbeats 4000000 in
set_option maxRecDepth 100000 in
theorem law_cost (C0 : LX p s m c b L xs D cyI cyZ) (ho : Ok_cost REL) (hn512 : n < 512) (h6 : 6 * n + 6 ≤ L) (hL : L ≤ 3072) {σ τ : Mem} (hrel : REL n σ τ) {ls : Array Slot} {H : Heap} {locs : List Loc} (hl : lv_has ls 4 [(0, .ref b), (1, .ref (a 0)), (2, .ref (a2 0)), (3, .int (nI (6 * n)))]) (hP : va_P D vwCl (wC cyI cyZ a σ ++ wM cyI cyZ a2 τ) H) (hD : va_D (fun q : Nat => s.heap.size ≤ q) (wC cyI cyZ a σ ++ wM cyI cyZ a2 τ)) (hS : va_S (fun q : Nat => s.heap.size ≤ q) s.heap H locs) (K : ∀ (σ τ : Mem) (H : Heap) (locs : List Loc), REL (n + 1) σ τ → va_P D vwCl (wC cyI cyZ a σ ++ wM cyI cyZ a2 τ) H → va_D (fun q : Nat => s.heap.size ≤ q) (wC cyI cyZ a σ ++ wM cyI cyZ a2 τ) → va_S (fun q : Nat => s.heap.size ≤ q) s.heap H locs → W p l e room_1 s m #[Value.ref b] below meth c H locs 62 102551 Q (F0 m 802 ls [])) : W p l e room_1 s m #[Value.ref b] below meth c H locs 62 102551 Q (F0 m 384 ls []) := by
  obtain ⟨hx, hb, hml, hown, hts, hX, hbl, hK, hN⟩ := C0
  have hbA : ¬ (fun q : Nat => s.heap.size ≤ q) b := Nat.not_le.mpr hbl
  obtain ⟨r, hc1, hc2, hrel⟩ := ho n σ τ hn512 hrel (xs (6 * n + 1)) (xs (6 * n + 2))
  refine lv_aload_n hx hb dL_law_384 rfl (lv_at hl 1 rfl) ?_
  refine lv_aload_n hx hb dL_law_385 rfl (lv_at hl 0 rfl) ?_
  refine lv_iload_n hx hb dL_law_386 rfl (lv_at hl 3 rfl) ?_
  refine lv_iconst (v := (1 : Int32)) hx hb dL_law_387 (by decide) ?_
  refine lv_iadd hx hb dL_law_388 ?_
  refine va_sld hx hb hX hbl hbA hS (i := nI (6 * n) + (1 : Int32)) (sc_in 1 rfl h6 (by decide) hL) dL_law_389 ?_
  rw [sc_at 1 (x := (1 : Int32)) rfl h6 (by decide) hL]
  refine lv_aload_n hx hb dL_law_390 rfl (lv_at hl 0 rfl) ?_
  refine lv_iload_n hx hb dL_law_391 rfl (lv_at hl 3 rfl) ?_
  refine lv_iconst (v := (2 : Int32)) hx hb dL_law_392 (by decide) ?_
  refine lv_iadd hx hb dL_law_393 ?_
  refine va_sld hx hb hX hbl hbA hS (i := nI (6 * n) + (2 : Int32)) (sc_in 2 rfl h6 (by decide) hL) dL_law_394 ?_
  rw [sc_at 2 (x := (2 : Int32)) rfl h6 (by decide) hL]
  refine z_lawC (w := wC cyI cyZ a σ) (w' := wC cyI cyZ a σ) (v := wM cyI cyZ a2 τ) (As := [.int (xs (6 * n + 1)), .int (xs (6 * n + 2))]) (rest := []) ⟨hx, hb, hml, hown, hts⟩ (fun A => c_X8_cost l D cyI cyZ a A σ (xs (6 * n + 1)) (xs (6 * n + 2)) r hc1) (cwV 2 hts (gd_V mw_310 mw_311 mw_312 mw_2 mw_313) rfl rfl rfl (by decide +kernel) ⟨Nat.le_of_ble_eq_true rfl, Nat.le_of_ble_eq_true rfl⟩) hK hN hP hD hS 8 0 rfl rfl gC_0 rfl hl.1 rfl (Nat.le_of_ble_eq_true rfl) dL_law_395 ⟨Nat.le_of_ble_eq_true rfl, Nat.le_of_ble_eq_true rfl⟩ (fun H locs hP hD hS => ?_)
  refine lv_aload_n hx hb dL_law_398 rfl (lv_at hl 2 rfl) ?_
  refine lv_aload_n hx hb dL_law_399 rfl (lv_at hl 0 rfl) ?_
  refine lv_iload_n hx hb dL_law_400 rfl (lv_at hl 3 rfl) ?_
  refine lv_iconst (v := (1 : Int32)) hx hb dL_law_401 (by decide) ?_
  refine lv_iadd hx hb dL_law_402 ?_
  refine va_sld hx hb hX hbl hbA hS (i := nI (6 * n) + (1 : Int32)) (sc_in 1 rfl h6 (by decide) hL) dL_law_403 ?_
  rw [sc_at 1 (x := (1 : Int32)) rfl h6 (by decide) hL]
  refine lv_aload_n hx hb dL_law_404 rfl (lv_at hl 0 rfl) ?_
  refine lv_iload_n hx hb dL_law_405 rfl (lv_at hl 3 rfl) ?_
  refine lv_iconst (v := (2 : Int32)) hx hb dL_law_406 (by decide) ?_
  refine lv_iadd hx hb dL_law_407 ?_
  refine va_sld hx hb hX hbl hbA hS (i := nI (6 * n) + (2 : Int32)) (sc_in 2 rfl h6 (by decide) hL) dL_law_408 ?_
  rw [sc_at 2 (x := (2 : Int32)) rfl h6 (by decide) hL]
  refine z_lawM (w := wC cyI cyZ a σ) (v := wM cyI cyZ a2 τ) (v' := wM cyI cyZ a2 τ) (As := [.int (xs (6 * n + 1)), .int (xs (6 * n + 2))]) (rest := [.int r]) ⟨hx, hb, hml, hown, hts⟩ (fun A => c_X9_cost l D cyI cyZ a2 A τ (xs (6 * n + 1)) (xs (6 * n + 2)) r hc2) (cwV 2 hts (gd_V mw_319 mw_320 mw_321 mw_5 mw_322) rfl rfl rfl (by decide +kernel) ⟨Nat.le_of_ble_eq_true rfl, Nat.le_of_ble_eq_true rfl⟩) hK hN hP hD hS 9 0 rfl rfl gM_0 rfl hl.1 rfl (Nat.le_of_ble_eq_true rfl) dL_law_409 ⟨Nat.le_of_ble_eq_true rfl, Nat.le_of_ble_eq_true rfl⟩ (fun H locs hP hD hS => ?_)
  refine lv_icmp_eq (tgt := 802) hx hb dL_law_412 (by decide) (fun _ => ?_) (fun c9 => absurd rfl c9)
  exact K _ _ _ _ hrel hP hD hS
set_option maxHeartbeats 4000000 in
set_option maxRecDepth 100000 in
theorem law_forget (C0 : LX p s m c b L xs D cyI cyZ) (ho : Ok_forget REL) (hn512 : n < 512) (h6 : 6 * n + 6 ≤ L) (hL : L ≤ 3072) {σ τ : Mem} (hrel : REL n σ τ) {ls : Array Slot} {H : Heap} {locs : List Loc} (hl : lv_has ls 4 [(0, .ref b), (1, .ref (a 0)), (2, .ref (a2 0)), (3, .int (nI (6 * n)))]) (hP : va_P D vwCl (wC cyI cyZ a σ ++ wM cyI cyZ a2 τ) H) (hD : va_D (fun q : Nat => s.heap.size ≤ q) (wC cyI cyZ a σ ++ wM cyI cyZ a2 τ)) (hS : va_S (fun q : Nat => s.heap.size ≤ q) s.heap H locs) (K : ∀ (σ τ : Mem) (H : Heap) (locs : List Loc), REL (n + 1) σ τ → va_P D vwCl (wC cyI cyZ a σ ++ wM cyI cyZ a2 τ) H → va_D (fun q : Nat => s.heap.size ≤ q) (wC cyI cyZ a σ ++ wM cyI cyZ a2 τ) → va_S (fun q : Nat => s.heap.size ≤ q) s.heap H locs → W p l e room_1 s m #[Value.ref b] below meth c H locs 62 102551 Q (F0 m 802 ls [])) : W p l e room_1 s m #[Value.ref b] below meth c H locs 62 102551 Q (F0 m 417 ls []) := by
  obtain ⟨hx, hb, hml, hown, hts, hX, hbl, hK, hN⟩ := C0
  have hbA : ¬ (fun q : Nat => s.heap.size ≤ q) b := Nat.not_le.mpr hbl
  obtain ⟨r, σ', τ', hc1, hc2, hrel⟩ := ho n σ τ hn512 hrel (xs (6 * n + 1))
  refine lv_aload_n hx hb dL_law_417 rfl (lv_at hl 1 rfl) ?_
  refine lv_aload_n hx hb dL_law_418 rfl (lv_at hl 0 rfl) ?_
  refine lv_iload_n hx hb dL_law_419 rfl (lv_at hl 3 rfl) ?_
  refine lv_iconst (v := (1 : Int32)) hx hb dL_law_420 (by decide) ?_
  refine lv_iadd hx hb dL_law_421 ?_
  refine va_sld hx hb hX hbl hbA hS (i := nI (6 * n) + (1 : Int32)) (sc_in 1 rfl h6 (by decide) hL) dL_law_422 ?_
  rw [sc_at 1 (x := (1 : Int32)) rfl h6 (by decide) hL]
  refine z_lawC (w := wC cyI cyZ a σ) (w' := wC cyI cyZ a σ') (v := wM cyI cyZ a2 τ) (As := [.int (xs (6 * n + 1))]) (rest := []) ⟨hx, hb, hml, hown, hts⟩ (fun A => c_X8_forget l D cyI cyZ a A σ (xs (6 * n + 1)) r σ' hc1) (cwV 1 hts (gd_V mw_323 mw_324 mw_325 mw_2 mw_326) rfl rfl rfl (by decide +kernel) ⟨Nat.le_of_ble_eq_true rfl, Nat.le_of_ble_eq_true rfl⟩) hK hN hP hD hS 8 0 rfl rfl gC_0 rfl hl.1 rfl (Nat.le_of_ble_eq_true rfl) dL_law_423 ⟨Nat.le_of_ble_eq_true rfl, Nat.le_of_ble_eq_true rfl⟩ (fun H locs hP hD hS => ?_)
  refine lv_aload_n hx hb dL_law_426 rfl (lv_at hl 2 rfl) ?_
  refine lv_aload_n hx hb dL_law_427 rfl (lv_at hl 0 rfl) ?_
  refine lv_iload_n hx hb dL_law_428 rfl (lv_at hl 3 rfl) ?_
  refine lv_iconst (v := (1 : Int32)) hx hb dL_law_429 (by decide) ?_
  refine lv_iadd hx hb dL_law_430 ?_
  refine va_sld hx hb hX hbl hbA hS (i := nI (6 * n) + (1 : Int32)) (sc_in 1 rfl h6 (by decide) hL) dL_law_431 ?_
  rw [sc_at 1 (x := (1 : Int32)) rfl h6 (by decide) hL]
  refine z_lawM (w := wC cyI cyZ a σ') (v := wM cyI cyZ a2 τ) (v' := wM cyI cyZ a2 τ') (As := [.int (xs (6 * n + 1))]) (rest := [.int r]) ⟨hx, hb, hml, hown, hts⟩ (fun A => c_X9_forget l D cyI cyZ a2 A τ (xs (6 * n + 1)) r τ' hc2) (cwV 1 hts (gd_V mw_331 mw_332 mw_333 mw_5 mw_334) rfl rfl rfl (by decide +kernel) ⟨Nat.le_of_ble_eq_true rfl, Nat.le_of_ble_eq_true rfl⟩) hK hN hP hD hS 9 0 rfl rfl gM_0 rfl hl.1 rfl (Nat.le_of_ble_eq_true rfl) dL_law_432 ⟨Nat.le_of_ble_eq_true rfl, Nat.le_of_ble_eq_true rfl⟩ (fun H locs hP hD hS => ?_)
  refine lv_icmp_eq (tgt := 802) hx hb dL_law_435 (by decide) (fun _ => ?_) (fun c9 => absurd rfl c9)
  exact K _ _ _ _ hrel hP hD hS
set_option maxHeartbeats 4000000 in
set_option maxRecDepth 100000 in
theorem law_word (C0 : LX p s m c b L xs D cyI cyZ) (ho : Ok_word REL) (hn512 : n < 512) (h6 : 6 * n + 6 ≤ L) (hL : L ≤ 3072) {σ τ : Mem} (hrel : REL n σ τ) {ls : Array Slot} {H : Heap} {locs : List Loc} (hl : lv_has ls 4 [(0, .ref b), (1, .ref (a 0)), (2, .ref (a2 0)), (3, .int (nI (6 * n)))]) (hP : va_P D vwCl (wC cyI cyZ a σ ++ wM cyI cyZ a2 τ) H) (hD : va_D (fun q : Nat => s.heap.size ≤ q) (wC cyI cyZ a σ ++ wM cyI cyZ a2 τ)) (hS : va_S (fun q : Nat => s.heap.size ≤ q) s.heap H locs) (K : ∀ (σ τ : Mem) (H : Heap) (locs : List Loc), REL (n + 1) σ τ → va_P D vwCl (wC cyI cyZ a σ ++ wM cyI cyZ a2 τ) H → va_D (fun q : Nat => s.heap.size ≤ q) (wC cyI cyZ a σ ++ wM cyI cyZ a2 τ) → va_S (fun q : Nat => s.heap.size ≤ q) s.heap H locs → W p l e room_1 s m #[Value.ref b] below meth c H locs 62 102551 Q (F0 m 802 ls [])) : W p l e room_1 s m #[Value.ref b] below meth c H locs 62 102551 Q (F0 m 440 ls []) := by
  obtain ⟨hx, hb, hml, hown, hts, hX, hbl, hK, hN⟩ := C0
  have hbA : ¬ (fun q : Nat => s.heap.size ≤ q) b := Nat.not_le.mpr hbl
  obtain ⟨r, σ', τ', hc1, hc2, hrel⟩ := ho n σ τ hn512 hrel (xs (6 * n + 1))
  refine lv_aload_n hx hb dL_law_440 rfl (lv_at hl 1 rfl) ?_
  refine lv_aload_n hx hb dL_law_441 rfl (lv_at hl 0 rfl) ?_
  refine lv_iload_n hx hb dL_law_442 rfl (lv_at hl 3 rfl) ?_
  refine lv_iconst (v := (1 : Int32)) hx hb dL_law_443 (by decide) ?_
  refine lv_iadd hx hb dL_law_444 ?_
  refine va_sld hx hb hX hbl hbA hS (i := nI (6 * n) + (1 : Int32)) (sc_in 1 rfl h6 (by decide) hL) dL_law_445 ?_
  rw [sc_at 1 (x := (1 : Int32)) rfl h6 (by decide) hL]
  refine z_lawC (w := wC cyI cyZ a σ) (w' := wC cyI cyZ a σ') (v := wM cyI cyZ a2 τ) (As := [.int (xs (6 * n + 1))]) (rest := []) ⟨hx, hb, hml, hown, hts⟩ (fun A => c_X8_word l D cyI cyZ a A σ (xs (6 * n + 1)) r σ' hc1) (cwV 1 hts (gd_V mw_335 mw_336 mw_337 mw_2 mw_338) rfl rfl rfl (by decide +kernel) ⟨Nat.le_of_ble_eq_true rfl, Nat.le_of_ble_eq_true rfl⟩) hK hN hP hD hS 8 0 rfl rfl gC_0 rfl hl.1 rfl (Nat.le_of_ble_eq_true rfl) dL_law_446 ⟨Nat.le_of_ble_eq_true rfl, Nat.le_of_ble_eq_true rfl⟩ (fun H locs hP hD hS => ?_)
  refine lv_aload_n hx hb dL_law_449 rfl (lv_at hl 2 rfl) ?_
  refine lv_aload_n hx hb dL_law_450 rfl (lv_at hl 0 rfl) ?_
  refine lv_iload_n hx hb dL_law_451 rfl (lv_at hl 3 rfl) ?_
  refine lv_iconst (v := (1 : Int32)) hx hb dL_law_452 (by decide) ?_
  refine lv_iadd hx hb dL_law_453 ?_
  refine va_sld hx hb hX hbl hbA hS (i := nI (6 * n) + (1 : Int32)) (sc_in 1 rfl h6 (by decide) hL) dL_law_454 ?_
  rw [sc_at 1 (x := (1 : Int32)) rfl h6 (by decide) hL]
  refine z_lawM (w := wC cyI cyZ a σ') (v := wM cyI cyZ a2 τ) (v' := wM cyI cyZ a2 τ') (As := [.int (xs (6 * n + 1))]) (rest := [.int r]) ⟨hx, hb, hml, hown, hts⟩ (fun A => c_X9_word l D cyI cyZ a2 A τ (xs (6 * n + 1)) r τ' hc2) (cwV 1 hts (gd_V mw_352 mw_353 mw_354 mw_5 mw_355) rfl rfl rfl (by decide +kernel) ⟨Nat.le_of_ble_eq_true rfl, Nat.le_of_ble_eq_true rfl⟩) hK hN hP hD hS 9 0 rfl rfl gM_0 rfl hl.1 rfl (Nat.le_of_ble_eq_true rfl) dL_law_455 ⟨Nat.le_of_ble_eq_true rfl, Nat.le_of_ble_eq_true rfl⟩ (fun H locs hP hD hS => ?_)
  refine lv_icmp_eq (tgt := 802) hx hb dL_law_458 (by decide) (fun _ => ?_) (fun c9 => absurd rfl c9)
  exact K _ _ _ _ hrel hP hD hS
set_option maxHeartbeats 4000000 in
set_option maxRecDepth 100000 in
theorem law_number (C0 : LX p s m c b L xs D cyI cyZ) (ho : Ok_number REL) (hn512 : n < 512) (h6 : 6 * n + 6 ≤ L) (hL : L ≤ 3072) {σ τ : Mem} (hrel : REL n σ τ) {ls : Array Slot} {H : Heap} {locs : List Loc} (hl : lv_has ls 4 [(0, .ref b), (1, .ref (a 0)), (2, .ref (a2 0)), (3, .int (nI (6 * n)))]) (hP : va_P D vwCl (wC cyI cyZ a σ ++ wM cyI cyZ a2 τ) H) (hD : va_D (fun q : Nat => s.heap.size ≤ q) (wC cyI cyZ a σ ++ wM cyI cyZ a2 τ)) (hS : va_S (fun q : Nat => s.heap.size ≤ q) s.heap H locs) (K : ∀ (σ τ : Mem) (H : Heap) (locs : List Loc), REL (n + 1) σ τ → va_P D vwCl (wC cyI cyZ a σ ++ wM cyI cyZ a2 τ) H → va_D (fun q : Nat => s.heap.size ≤ q) (wC cyI cyZ a σ ++ wM cyI cyZ a2 τ) → va_S (fun q : Nat => s.heap.size ≤ q) s.heap H locs → W p l e room_1 s m #[Value.ref b] below meth c H locs 62 102551 Q (F0 m 802 ls [])) : W p l e room_1 s m #[Value.ref b] below meth c H locs 62 102551 Q (F0 m 463 ls []) := by
  obtain ⟨hx, hb, hml, hown, hts, hX, hbl, hK, hN⟩ := C0
  have hbA : ¬ (fun q : Nat => s.heap.size ≤ q) b := Nat.not_le.mpr hbl
  obtain ⟨r, σ', τ', hc1, hc2, hrel⟩ := ho n σ τ hn512 hrel (xs (6 * n + 1))
  refine lv_aload_n hx hb dL_law_463 rfl (lv_at hl 1 rfl) ?_
  refine lv_aload_n hx hb dL_law_464 rfl (lv_at hl 0 rfl) ?_
  refine lv_iload_n hx hb dL_law_465 rfl (lv_at hl 3 rfl) ?_
  refine lv_iconst (v := (1 : Int32)) hx hb dL_law_466 (by decide) ?_
  refine lv_iadd hx hb dL_law_467 ?_
  refine va_sld hx hb hX hbl hbA hS (i := nI (6 * n) + (1 : Int32)) (sc_in 1 rfl h6 (by decide) hL) dL_law_468 ?_
  rw [sc_at 1 (x := (1 : Int32)) rfl h6 (by decide) hL]
  refine z_lawC (w := wC cyI cyZ a σ) (w' := wC cyI cyZ a σ') (v := wM cyI cyZ a2 τ) (As := [.int (xs (6 * n + 1))]) (rest := []) ⟨hx, hb, hml, hown, hts⟩ (fun A => c_X8_number l D cyI cyZ a A σ (xs (6 * n + 1)) r σ' hc1) (cwV 1 hts (gd_V mw_361 mw_362 mw_363 mw_2 mw_364) rfl rfl rfl (by decide +kernel) ⟨Nat.le_of_ble_eq_true rfl, Nat.le_of_ble_eq_true rfl⟩) hK hN hP hD hS 8 0 rfl rfl gC_0 rfl hl.1 rfl (Nat.le_of_ble_eq_true rfl) dL_law_469 ⟨Nat.le_of_ble_eq_true rfl, Nat.le_of_ble_eq_true rfl⟩ (fun H locs hP hD hS => ?_)
  refine lv_aload_n hx hb dL_law_472 rfl (lv_at hl 2 rfl) ?_
  refine lv_aload_n hx hb dL_law_473 rfl (lv_at hl 0 rfl) ?_
  refine lv_iload_n hx hb dL_law_474 rfl (lv_at hl 3 rfl) ?_
  refine lv_iconst (v := (1 : Int32)) hx hb dL_law_475 (by decide) ?_
  refine lv_iadd hx hb dL_law_476 ?_
  refine va_sld hx hb hX hbl hbA hS (i := nI (6 * n) + (1 : Int32)) (sc_in 1 rfl h6 (by decide) hL) dL_law_477 ?_
  rw [sc_at 1 (x := (1 : Int32)) rfl h6 (by decide) hL]
  refine z_lawM (w := wC cyI cyZ a σ') (v := wM cyI cyZ a2 τ) (v' := wM cyI cyZ a2 τ') (As := [.int (xs (6 * n + 1))]) (rest := [.int r]) ⟨hx, hb, hml, hown, hts⟩ (fun A => c_X9_number l D cyI cyZ a2 A τ (xs (6 * n + 1)) r τ' hc2) (cwV 1 hts (gd_V mw_369 mw_370 mw_371 mw_5 mw_372) rfl rfl rfl (by decide +kernel) ⟨Nat.le_of_ble_eq_true rfl, Nat.le_of_ble_eq_true rfl⟩) hK hN hP hD hS 9 0 rfl rfl gM_0 rfl hl.1 rfl (Nat.le_of_ble_eq_true rfl) dL_law_478 ⟨Nat.le_of_ble_eq_true rfl, Nat.le_of_ble_eq_true rfl⟩ (fun H locs hP hD hS => ?_)
  refine lv_icmp_eq (tgt := 802) hx hb dL_law_481 (by decide) (fun _ => ?_) (fun c9 => absurd rfl c9)
  exact K _ _ _ _ hrel hP hD hS
set_option maxHeartbeats 4000000 in
set_option maxRecDepth 100000 in
theorem law_clear (C0 : LX p s m c b L xs D cyI cyZ) (ho : Ok_clear REL) (hn512 : n < 512) (h6 : 6 * n + 6 ≤ L) (hL : L ≤ 3072) {σ τ : Mem} (hrel : REL n σ τ) {ls : Array Slot} {H : Heap} {locs : List Loc} (hl : lv_has ls 4 [(0, .ref b), (1, .ref (a 0)), (2, .ref (a2 0)), (3, .int (nI (6 * n)))]) (hP : va_P D vwCl (wC cyI cyZ a σ ++ wM cyI cyZ a2 τ) H) (hD : va_D (fun q : Nat => s.heap.size ≤ q) (wC cyI cyZ a σ ++ wM cyI cyZ a2 τ)) (hS : va_S (fun q : Nat => s.heap.size ≤ q) s.heap H locs) (K : ∀ (σ τ : Mem) (H : Heap) (locs : List Loc), REL (n + 1) σ τ → va_P D vwCl (wC cyI cyZ a σ ++ wM cyI cyZ a2 τ) H → va_D (fun q : Nat => s.heap.size ≤ q) (wC cyI cyZ a σ ++ wM cyI cyZ a2 τ) → va_S (fun q : Nat => s.heap.size ≤ q) s.heap H locs → W p l e room_1 s m #[Value.ref b] below meth c H locs 62 102551 Q (F0 m 802 ls [])) : W p l e room_1 s m #[Value.ref b] below meth c H locs 62 102551 Q (F0 m 486 ls []) := by
  obtain ⟨hx, hb, hml, hown, hts, hX, hbl, hK, hN⟩ := C0
  have hbA : ¬ (fun q : Nat => s.heap.size ≤ q) b := Nat.not_le.mpr hbl
  obtain ⟨r, σ', τ', hc1, hc2, hrel⟩ := ho n σ τ hn512 hrel 
  refine lv_aload_n hx hb dL_law_486 rfl (lv_at hl 1 rfl) ?_
  refine z_lawC (w := wC cyI cyZ a σ) (w' := wC cyI cyZ a σ') (v := wM cyI cyZ a2 τ) (As := []) (rest := []) ⟨hx, hb, hml, hown, hts⟩ (fun A => c_X8_clear l D cyI cyZ a A σ  r σ' hc1) (cwV 0 hts (gd_V mw_373 mw_374 mw_375 mw_2 mw_376) rfl rfl rfl (by decide +kernel) ⟨Nat.le_of_ble_eq_true rfl, Nat.le_of_ble_eq_true rfl⟩) hK hN hP hD hS 8 0 rfl rfl gC_0 rfl hl.1 rfl (Nat.le_of_ble_eq_true rfl) dL_law_487 ⟨Nat.le_of_ble_eq_true rfl, Nat.le_of_ble_eq_true rfl⟩ (fun H locs hP hD hS => ?_)
  refine lv_aload_n hx hb dL_law_490 rfl (lv_at hl 2 rfl) ?_
  refine z_lawM (w := wC cyI cyZ a σ') (v := wM cyI cyZ a2 τ) (v' := wM cyI cyZ a2 τ') (As := []) (rest := [.int r]) ⟨hx, hb, hml, hown, hts⟩ (fun A => c_X9_clear l D cyI cyZ a2 A τ  r τ' hc2) (cwV 0 hts (gd_V mw_381 mw_382 mw_383 mw_5 mw_384) rfl rfl rfl (by decide +kernel) ⟨Nat.le_of_ble_eq_true rfl, Nat.le_of_ble_eq_true rfl⟩) hK hN hP hD hS 9 0 rfl rfl gM_0 rfl hl.1 rfl (Nat.le_of_ble_eq_true rfl) dL_law_491 ⟨Nat.le_of_ble_eq_true rfl, Nat.le_of_ble_eq_true rfl⟩ (fun H locs hP hD hS => ?_)
  refine lv_icmp_eq (tgt := 802) hx hb dL_law_494 (by decide) (fun _ => ?_) (fun c9 => absurd rfl c9)
  exact K _ _ _ _ hrel hP hD hS
set_option maxHeartbeats 4000000 in
set_option maxRecDepth 100000 in
theorem law_readings (C0 : LX p s m c b L xs D cyI cyZ) (ho : Ok_readings REL) (hn512 : n < 512) (h6 : 6 * n + 6 ≤ L) (hL : L ≤ 3072) {σ τ : Mem} (hrel : REL n σ τ) {ls : Array Slot} {H : Heap} {locs : List Loc} (hl : lv_has ls 4 [(0, .ref b), (1, .ref (a 0)), (2, .ref (a2 0)), (3, .int (nI (6 * n)))]) (hP : va_P D vwCl (wC cyI cyZ a σ ++ wM cyI cyZ a2 τ) H) (hD : va_D (fun q : Nat => s.heap.size ≤ q) (wC cyI cyZ a σ ++ wM cyI cyZ a2 τ)) (hS : va_S (fun q : Nat => s.heap.size ≤ q) s.heap H locs) (K : ∀ (σ τ : Mem) (H : Heap) (locs : List Loc), REL (n + 1) σ τ → va_P D vwCl (wC cyI cyZ a σ ++ wM cyI cyZ a2 τ) H → va_D (fun q : Nat => s.heap.size ≤ q) (wC cyI cyZ a σ ++ wM cyI cyZ a2 τ) → va_S (fun q : Nat => s.heap.size ≤ q) s.heap H locs → W p l e room_1 s m #[Value.ref b] below meth c H locs 62 102551 Q (F0 m 802 ls [])) : W p l e room_1 s m #[Value.ref b] below meth c H locs 62 102551 Q (F0 m 499 ls []) := by
  obtain ⟨hx, hb, hml, hown, hts, hX, hbl, hK, hN⟩ := C0
  have hbA : ¬ (fun q : Nat => s.heap.size ≤ q) b := Nat.not_le.mpr hbl
  obtain ⟨r, σ', τ', hc1, hc2, hrel⟩ := ho n σ τ hn512 hrel 
  refine lv_aload_n hx hb dL_law_499 rfl (lv_at hl 1 rfl) ?_
  refine z_lawC (w := wC cyI cyZ a σ) (w' := wC cyI cyZ a σ') (v := wM cyI cyZ a2 τ) (As := []) (rest := []) ⟨hx, hb, hml, hown, hts⟩ (fun A => c_X8_readings l D cyI cyZ a A σ  r σ' hc1) (cwV 0 hts (gd_V mw_385 mw_386 mw_387 mw_2 mw_388) rfl rfl rfl (by decide +kernel) ⟨Nat.le_of_ble_eq_true rfl, Nat.le_of_ble_eq_true rfl⟩) hK hN hP hD hS 8 0 rfl rfl gC_0 rfl hl.1 rfl (Nat.le_of_ble_eq_true rfl) dL_law_500 ⟨Nat.le_of_ble_eq_true rfl, Nat.le_of_ble_eq_true rfl⟩ (fun H locs hP hD hS => ?_)
  refine lv_aload_n hx hb dL_law_503 rfl (lv_at hl 2 rfl) ?_
  refine z_lawM (w := wC cyI cyZ a σ') (v := wM cyI cyZ a2 τ) (v' := wM cyI cyZ a2 τ') (As := []) (rest := [.int r]) ⟨hx, hb, hml, hown, hts⟩ (fun A => c_X9_readings l D cyI cyZ a2 A τ  r τ' hc2) (cwV 0 hts (gd_V mw_524 mw_525 mw_526 mw_5 mw_527) rfl rfl rfl (by decide +kernel) ⟨Nat.le_of_ble_eq_true rfl, Nat.le_of_ble_eq_true rfl⟩) hK hN hP hD hS 9 0 rfl rfl gM_0 rfl hl.1 rfl (Nat.le_of_ble_eq_true rfl) dL_law_504 ⟨Nat.le_of_ble_eq_true rfl, Nat.le_of_ble_eq_true rfl⟩ (fun H locs hP hD hS => ?_)
  refine lv_icmp_eq (tgt := 802) hx hb dL_law_507 (by decide) (fun _ => ?_) (fun c9 => absurd rfl c9)
  exact K _ _ _ _ hrel hP hD hS
set_option maxHeartbeats 4000000 in
set_option maxRecDepth 100000 in
theorem law_reading (C0 : LX p s m c b L xs D cyI cyZ) (ho : Ok_reading REL) (hn512 : n < 512) (h6 : 6 * n + 6 ≤ L) (hL : L ≤ 3072) {σ τ : Mem} (hrel : REL n σ τ) {ls : Array Slot} {H : Heap} {locs : List Loc} (hl : lv_has ls 4 [(0, .ref b), (1, .ref (a 0)), (2, .ref (a2 0)), (3, .int (nI (6 * n)))]) (hP : va_P D vwCl (wC cyI cyZ a σ ++ wM cyI cyZ a2 τ) H) (hD : va_D (fun q : Nat => s.heap.size ≤ q) (wC cyI cyZ a σ ++ wM cyI cyZ a2 τ)) (hS : va_S (fun q : Nat => s.heap.size ≤ q) s.heap H locs) (K : ∀ (σ τ : Mem) (H : Heap) (locs : List Loc), REL (n + 1) σ τ → va_P D vwCl (wC cyI cyZ a σ ++ wM cyI cyZ a2 τ) H → va_D (fun q : Nat => s.heap.size ≤ q) (wC cyI cyZ a σ ++ wM cyI cyZ a2 τ) → va_S (fun q : Nat => s.heap.size ≤ q) s.heap H locs → W p l e room_1 s m #[Value.ref b] below meth c H locs 62 102551 Q (F0 m 802 ls [])) : W p l e room_1 s m #[Value.ref b] below meth c H locs 62 102551 Q (F0 m 512 ls []) := by
  obtain ⟨hx, hb, hml, hown, hts, hX, hbl, hK, hN⟩ := C0
  have hbA : ¬ (fun q : Nat => s.heap.size ≤ q) b := Nat.not_le.mpr hbl
  obtain ⟨r, σ', τ', hc1, hc2, hrel⟩ := ho n σ τ hn512 hrel (xs (6 * n + 1)) (xs (6 * n + 2))
  refine lv_aload_n hx hb dL_law_512 rfl (lv_at hl 1 rfl) ?_
  refine lv_aload_n hx hb dL_law_513 rfl (lv_at hl 0 rfl) ?_
  refine lv_iload_n hx hb dL_law_514 rfl (lv_at hl 3 rfl) ?_
  refine lv_iconst (v := (1 : Int32)) hx hb dL_law_515 (by decide) ?_
  refine lv_iadd hx hb dL_law_516 ?_
  refine va_sld hx hb hX hbl hbA hS (i := nI (6 * n) + (1 : Int32)) (sc_in 1 rfl h6 (by decide) hL) dL_law_517 ?_
  rw [sc_at 1 (x := (1 : Int32)) rfl h6 (by decide) hL]
  refine lv_aload_n hx hb dL_law_518 rfl (lv_at hl 0 rfl) ?_
  refine lv_iload_n hx hb dL_law_519 rfl (lv_at hl 3 rfl) ?_
  refine lv_iconst (v := (2 : Int32)) hx hb dL_law_520 (by decide) ?_
  refine lv_iadd hx hb dL_law_521 ?_
  refine va_sld hx hb hX hbl hbA hS (i := nI (6 * n) + (2 : Int32)) (sc_in 2 rfl h6 (by decide) hL) dL_law_522 ?_
  rw [sc_at 2 (x := (2 : Int32)) rfl h6 (by decide) hL]
  refine z_lawC (w := wC cyI cyZ a σ) (w' := wC cyI cyZ a σ') (v := wM cyI cyZ a2 τ) (As := [.int (xs (6 * n + 1)), .int (xs (6 * n + 2))]) (rest := []) ⟨hx, hb, hml, hown, hts⟩ (fun A => c_X8_reading l D cyI cyZ a A σ (xs (6 * n + 1)) (xs (6 * n + 2)) r σ' hc1) (cwV 2 hts (gd_V mw_562 mw_563 mw_564 mw_2 mw_565) rfl rfl rfl (by decide +kernel) ⟨Nat.le_of_ble_eq_true rfl, Nat.le_of_ble_eq_true rfl⟩) hK hN hP hD hS 8 0 rfl rfl gC_0 rfl hl.1 rfl (Nat.le_of_ble_eq_true rfl) dL_law_523 ⟨Nat.le_of_ble_eq_true rfl, Nat.le_of_ble_eq_true rfl⟩ (fun H locs hP hD hS => ?_)
  refine lv_aload_n hx hb dL_law_526 rfl (lv_at hl 2 rfl) ?_
  refine lv_aload_n hx hb dL_law_527 rfl (lv_at hl 0 rfl) ?_
  refine lv_iload_n hx hb dL_law_528 rfl (lv_at hl 3 rfl) ?_
  refine lv_iconst (v := (1 : Int32)) hx hb dL_law_529 (by decide) ?_
  refine lv_iadd hx hb dL_law_530 ?_
  refine va_sld hx hb hX hbl hbA hS (i := nI (6 * n) + (1 : Int32)) (sc_in 1 rfl h6 (by decide) hL) dL_law_531 ?_
  rw [sc_at 1 (x := (1 : Int32)) rfl h6 (by decide) hL]
  refine lv_aload_n hx hb dL_law_532 rfl (lv_at hl 0 rfl) ?_
  refine lv_iload_n hx hb dL_law_533 rfl (lv_at hl 3 rfl) ?_
  refine lv_iconst (v := (2 : Int32)) hx hb dL_law_534 (by decide) ?_
  refine lv_iadd hx hb dL_law_535 ?_
  refine va_sld hx hb hX hbl hbA hS (i := nI (6 * n) + (2 : Int32)) (sc_in 2 rfl h6 (by decide) hL) dL_law_536 ?_
  rw [sc_at 2 (x := (2 : Int32)) rfl h6 (by decide) hL]
  refine z_lawM (w := wC cyI cyZ a σ') (v := wM cyI cyZ a2 τ) (v' := wM cyI cyZ a2 τ') (As := [.int (xs (6 * n + 1)), .int (xs (6 * n + 2))]) (rest := [.int r]) ⟨hx, hb, hml, hown, hts⟩ (fun A => c_X9_reading l D cyI cyZ a2 A τ (xs (6 * n + 1)) (xs (6 * n + 2)) r τ' hc2) (cwV 2 hts (gd_V mw_651 mw_652 mw_653 mw_5 mw_654) rfl rfl rfl (by decide +kernel) ⟨Nat.le_of_ble_eq_true rfl, Nat.le_of_ble_eq_true rfl⟩) hK hN hP hD hS 9 0 rfl rfl gM_0 rfl hl.1 rfl (Nat.le_of_ble_eq_true rfl) dL_law_537 ⟨Nat.le_of_ble_eq_true rfl, Nat.le_of_ble_eq_true rfl⟩ (fun H locs hP hD hS => ?_)
  refine lv_icmp_eq (tgt := 802) hx hb dL_law_540 (by decide) (fun _ => ?_) (fun c9 => absurd rfl c9)
  exact K _ _ _ _ hrel hP hD hS
set_option maxHeartbeats 4000000 in
set_option maxRecDepth 100000 in
theorem law_test (C0 : LX p s m c b L xs D cyI cyZ) (ho : Ok_test REL) (hn512 : n < 512) (h6 : 6 * n + 6 ≤ L) (hL : L ≤ 3072) {σ τ : Mem} (hrel : REL n σ τ) {ls : Array Slot} {H : Heap} {locs : List Loc} (hl : lv_has ls 4 [(0, .ref b), (1, .ref (a 0)), (2, .ref (a2 0)), (3, .int (nI (6 * n)))]) (hP : va_P D vwCl (wC cyI cyZ a σ ++ wM cyI cyZ a2 τ) H) (hD : va_D (fun q : Nat => s.heap.size ≤ q) (wC cyI cyZ a σ ++ wM cyI cyZ a2 τ)) (hS : va_S (fun q : Nat => s.heap.size ≤ q) s.heap H locs) (K : ∀ (σ τ : Mem) (H : Heap) (locs : List Loc), REL (n + 1) σ τ → va_P D vwCl (wC cyI cyZ a σ ++ wM cyI cyZ a2 τ) H → va_D (fun q : Nat => s.heap.size ≤ q) (wC cyI cyZ a σ ++ wM cyI cyZ a2 τ) → va_S (fun q : Nat => s.heap.size ≤ q) s.heap H locs → W p l e room_1 s m #[Value.ref b] below meth c H locs 62 102551 Q (F0 m 802 ls [])) : W p l e room_1 s m #[Value.ref b] below meth c H locs 62 102551 Q (F0 m 545 ls []) := by
  obtain ⟨hx, hb, hml, hown, hts, hX, hbl, hK, hN⟩ := C0
  have hbA : ¬ (fun q : Nat => s.heap.size ≤ q) b := Nat.not_le.mpr hbl
  obtain ⟨r, σ', τ', hc1, hc2, hrel⟩ := ho n σ τ hn512 hrel (xs (6 * n + 1)) (xs (6 * n + 2)) (xs (6 * n + 3))
  refine lv_aload_n hx hb dL_law_545 rfl (lv_at hl 1 rfl) ?_
  refine lv_aload_n hx hb dL_law_546 rfl (lv_at hl 0 rfl) ?_
  refine lv_iload_n hx hb dL_law_547 rfl (lv_at hl 3 rfl) ?_
  refine lv_iconst (v := (1 : Int32)) hx hb dL_law_548 (by decide) ?_
  refine lv_iadd hx hb dL_law_549 ?_
  refine va_sld hx hb hX hbl hbA hS (i := nI (6 * n) + (1 : Int32)) (sc_in 1 rfl h6 (by decide) hL) dL_law_550 ?_
  rw [sc_at 1 (x := (1 : Int32)) rfl h6 (by decide) hL]
  refine lv_aload_n hx hb dL_law_551 rfl (lv_at hl 0 rfl) ?_
  refine lv_iload_n hx hb dL_law_552 rfl (lv_at hl 3 rfl) ?_
  refine lv_iconst (v := (2 : Int32)) hx hb dL_law_553 (by decide) ?_
  refine lv_iadd hx hb dL_law_554 ?_
  refine va_sld hx hb hX hbl hbA hS (i := nI (6 * n) + (2 : Int32)) (sc_in 2 rfl h6 (by decide) hL) dL_law_555 ?_
  rw [sc_at 2 (x := (2 : Int32)) rfl h6 (by decide) hL]
  refine lv_aload_n hx hb dL_law_556 rfl (lv_at hl 0 rfl) ?_
  refine lv_iload_n hx hb dL_law_557 rfl (lv_at hl 3 rfl) ?_
  refine lv_iconst (v := (3 : Int32)) hx hb dL_law_558 (by decide) ?_
  refine lv_iadd hx hb dL_law_559 ?_
  refine va_sld hx hb hX hbl hbA hS (i := nI (6 * n) + (3 : Int32)) (sc_in 3 rfl h6 (by decide) hL) dL_law_560 ?_
  rw [sc_at 3 (x := (3 : Int32)) rfl h6 (by decide) hL]
  refine z_lawC (w := wC cyI cyZ a σ) (w' := wC cyI cyZ a σ') (v := wM cyI cyZ a2 τ) (As := [.int (xs (6 * n + 1)), .int (xs (6 * n + 2)), .int (xs (6 * n + 3))]) (rest := []) ⟨hx, hb, hml, hown, hts⟩ (fun A => c_X8_test l D cyI cyZ a A σ (xs (6 * n + 1)) (xs (6 * n + 2)) (xs (6 * n + 3)) r σ' hc1) (cwV 3 hts (gd_V mw_671 mw_672 mw_673 mw_2 mw_674) rfl rfl rfl (by decide +kernel) ⟨Nat.le_of_ble_eq_true rfl, Nat.le_of_ble_eq_true rfl⟩) hK hN hP hD hS 8 0 rfl rfl gC_0 rfl hl.1 rfl (Nat.le_of_ble_eq_true rfl) dL_law_561 ⟨Nat.le_of_ble_eq_true rfl, Nat.le_of_ble_eq_true rfl⟩ (fun H locs hP hD hS => ?_)
  refine lv_aload_n hx hb dL_law_564 rfl (lv_at hl 2 rfl) ?_
  refine lv_aload_n hx hb dL_law_565 rfl (lv_at hl 0 rfl) ?_
  refine lv_iload_n hx hb dL_law_566 rfl (lv_at hl 3 rfl) ?_
  refine lv_iconst (v := (1 : Int32)) hx hb dL_law_567 (by decide) ?_
  refine lv_iadd hx hb dL_law_568 ?_
  refine va_sld hx hb hX hbl hbA hS (i := nI (6 * n) + (1 : Int32)) (sc_in 1 rfl h6 (by decide) hL) dL_law_569 ?_
  rw [sc_at 1 (x := (1 : Int32)) rfl h6 (by decide) hL]
  refine lv_aload_n hx hb dL_law_570 rfl (lv_at hl 0 rfl) ?_
  refine lv_iload_n hx hb dL_law_571 rfl (lv_at hl 3 rfl) ?_
  refine lv_iconst (v := (2 : Int32)) hx hb dL_law_572 (by decide) ?_
  refine lv_iadd hx hb dL_law_573 ?_
  refine va_sld hx hb hX hbl hbA hS (i := nI (6 * n) + (2 : Int32)) (sc_in 2 rfl h6 (by decide) hL) dL_law_574 ?_
  rw [sc_at 2 (x := (2 : Int32)) rfl h6 (by decide) hL]
  refine lv_aload_n hx hb dL_law_575 rfl (lv_at hl 0 rfl) ?_
  refine lv_iload_n hx hb dL_law_576 rfl (lv_at hl 3 rfl) ?_
  refine lv_iconst (v := (3 : Int32)) hx hb dL_law_577 (by decide) ?_
  refine lv_iadd hx hb dL_law_578 ?_
  refine va_sld hx hb hX hbl hbA hS (i := nI (6 * n) + (3 : Int32)) (sc_in 3 rfl h6 (by decide) hL) dL_law_579 ?_
  rw [sc_at 3 (x := (3 : Int32)) rfl h6 (by decide) hL]
  refine z_lawM (w := wC cyI cyZ a σ') (v := wM cyI cyZ a2 τ) (v' := wM cyI cyZ a2 τ') (As := [.int (xs (6 * n + 1)), .int (xs (6 * n + 2)), .int (xs (6 * n + 3))]) (rest := [.int r]) ⟨hx, hb, hml, hown, hts⟩ (fun A => c_X9_test l D cyI cyZ a2 A τ (xs (6 * n + 1)) (xs (6 * n + 2)) (xs (6 * n + 3)) r τ' hc2) (cwV 3 hts (gd_V mw_679 mw_680 mw_681 mw_5 mw_682) rfl rfl rfl (by decide +kernel) ⟨Nat.le_of_ble_eq_true rfl, Nat.le_of_ble_eq_true rfl⟩) hK hN hP hD hS 9 0 rfl rfl gM_0 rfl hl.1 rfl (Nat.le_of_ble_eq_true rfl) dL_law_580 ⟨Nat.le_of_ble_eq_true rfl, Nat.le_of_ble_eq_true rfl⟩ (fun H locs hP hD hS => ?_)
  refine lv_icmp_eq (tgt := 802) hx hb dL_law_583 (by decide) (fun _ => ?_) (fun c9 => absurd rfl c9)
  exact K _ _ _ _ hrel hP hD hS
set_option maxHeartbeats 4000000 in
set_option maxRecDepth 100000 in
theorem law_answer (C0 : LX p s m c b L xs D cyI cyZ) (ho : Ok_answer REL) (hn512 : n < 512) (h6 : 6 * n + 6 ≤ L) (hL : L ≤ 3072) {σ τ : Mem} (hrel : REL n σ τ) {ls : Array Slot} {H : Heap} {locs : List Loc} (hl : lv_has ls 4 [(0, .ref b), (1, .ref (a 0)), (2, .ref (a2 0)), (3, .int (nI (6 * n)))]) (hP : va_P D vwCl (wC cyI cyZ a σ ++ wM cyI cyZ a2 τ) H) (hD : va_D (fun q : Nat => s.heap.size ≤ q) (wC cyI cyZ a σ ++ wM cyI cyZ a2 τ)) (hS : va_S (fun q : Nat => s.heap.size ≤ q) s.heap H locs) (K : ∀ (σ τ : Mem) (H : Heap) (locs : List Loc), REL (n + 1) σ τ → va_P D vwCl (wC cyI cyZ a σ ++ wM cyI cyZ a2 τ) H → va_D (fun q : Nat => s.heap.size ≤ q) (wC cyI cyZ a σ ++ wM cyI cyZ a2 τ) → va_S (fun q : Nat => s.heap.size ≤ q) s.heap H locs → W p l e room_1 s m #[Value.ref b] below meth c H locs 62 102551 Q (F0 m 802 ls [])) : W p l e room_1 s m #[Value.ref b] below meth c H locs 62 102551 Q (F0 m 588 ls []) := by
  obtain ⟨hx, hb, hml, hown, hts, hX, hbl, hK, hN⟩ := C0
  have hbA : ¬ (fun q : Nat => s.heap.size ≤ q) b := Nat.not_le.mpr hbl
  obtain ⟨r, σ', τ', hc1, hc2, hrel⟩ := ho n σ τ hn512 hrel (xs (6 * n + 1))
  refine lv_aload_n hx hb dL_law_588 rfl (lv_at hl 1 rfl) ?_
  refine lv_aload_n hx hb dL_law_589 rfl (lv_at hl 0 rfl) ?_
  refine lv_iload_n hx hb dL_law_590 rfl (lv_at hl 3 rfl) ?_
  refine lv_iconst (v := (1 : Int32)) hx hb dL_law_591 (by decide) ?_
  refine lv_iadd hx hb dL_law_592 ?_
  refine va_sld hx hb hX hbl hbA hS (i := nI (6 * n) + (1 : Int32)) (sc_in 1 rfl h6 (by decide) hL) dL_law_593 ?_
  rw [sc_at 1 (x := (1 : Int32)) rfl h6 (by decide) hL]
  refine z_lawC (w := wC cyI cyZ a σ) (w' := wC cyI cyZ a σ') (v := wM cyI cyZ a2 τ) (As := [.int (xs (6 * n + 1))]) (rest := []) ⟨hx, hb, hml, hown, hts⟩ (fun A => c_X8_answer l D cyI cyZ a A σ (xs (6 * n + 1)) r σ' hc1) (cwV 1 hts (gd_V mw_683 mw_684 mw_685 mw_2 mw_686) rfl rfl rfl (by decide +kernel) ⟨Nat.le_of_ble_eq_true rfl, Nat.le_of_ble_eq_true rfl⟩) hK hN hP hD hS 8 0 rfl rfl gC_0 rfl hl.1 rfl (Nat.le_of_ble_eq_true rfl) dL_law_594 ⟨Nat.le_of_ble_eq_true rfl, Nat.le_of_ble_eq_true rfl⟩ (fun H locs hP hD hS => ?_)
  refine lv_aload_n hx hb dL_law_597 rfl (lv_at hl 2 rfl) ?_
  refine lv_aload_n hx hb dL_law_598 rfl (lv_at hl 0 rfl) ?_
  refine lv_iload_n hx hb dL_law_599 rfl (lv_at hl 3 rfl) ?_
  refine lv_iconst (v := (1 : Int32)) hx hb dL_law_600 (by decide) ?_
  refine lv_iadd hx hb dL_law_601 ?_
  refine va_sld hx hb hX hbl hbA hS (i := nI (6 * n) + (1 : Int32)) (sc_in 1 rfl h6 (by decide) hL) dL_law_602 ?_
  rw [sc_at 1 (x := (1 : Int32)) rfl h6 (by decide) hL]
  refine z_lawM (w := wC cyI cyZ a σ') (v := wM cyI cyZ a2 τ) (v' := wM cyI cyZ a2 τ') (As := [.int (xs (6 * n + 1))]) (rest := [.int r]) ⟨hx, hb, hml, hown, hts⟩ (fun A => c_X9_answer l D cyI cyZ a2 A τ (xs (6 * n + 1)) r τ' hc2) (cwV 1 hts (gd_V mw_707 mw_708 mw_709 mw_5 mw_710) rfl rfl rfl (by decide +kernel) ⟨Nat.le_of_ble_eq_true rfl, Nat.le_of_ble_eq_true rfl⟩) hK hN hP hD hS 9 0 rfl rfl gM_0 rfl hl.1 rfl (Nat.le_of_ble_eq_true rfl) dL_law_603 ⟨Nat.le_of_ble_eq_true rfl, Nat.le_of_ble_eq_true rfl⟩ (fun H locs hP hD hS => ?_)
  refine lv_icmp_eq (tgt := 802) hx hb dL_law_606 (by decide) (fun _ => ?_) (fun c9 => absurd rfl c9)
  exact K _ _ _ _ hrel hP hD hS
set_option maxHeartbeats 4000000 in
set_option maxRecDepth 100000 in
theorem law_found (C0 : LX p s m c b L xs D cyI cyZ) (ho : Ok_found REL) (hn512 : n < 512) (h6 : 6 * n + 6 ≤ L) (hL : L ≤ 3072) {σ τ : Mem} (hrel : REL n σ τ) {ls : Array Slot} {H : Heap} {locs : List Loc} (hl : lv_has ls 4 [(0, .ref b), (1, .ref (a 0)), (2, .ref (a2 0)), (3, .int (nI (6 * n)))]) (hP : va_P D vwCl (wC cyI cyZ a σ ++ wM cyI cyZ a2 τ) H) (hD : va_D (fun q : Nat => s.heap.size ≤ q) (wC cyI cyZ a σ ++ wM cyI cyZ a2 τ)) (hS : va_S (fun q : Nat => s.heap.size ≤ q) s.heap H locs) (K : ∀ (σ τ : Mem) (H : Heap) (locs : List Loc), REL (n + 1) σ τ → va_P D vwCl (wC cyI cyZ a σ ++ wM cyI cyZ a2 τ) H → va_D (fun q : Nat => s.heap.size ≤ q) (wC cyI cyZ a σ ++ wM cyI cyZ a2 τ) → va_S (fun q : Nat => s.heap.size ≤ q) s.heap H locs → W p l e room_1 s m #[Value.ref b] below meth c H locs 62 102551 Q (F0 m 802 ls [])) : W p l e room_1 s m #[Value.ref b] below meth c H locs 62 102551 Q (F0 m 611 ls []) := by
  obtain ⟨hx, hb, hml, hown, hts, hX, hbl, hK, hN⟩ := C0
  have hbA : ¬ (fun q : Nat => s.heap.size ≤ q) b := Nat.not_le.mpr hbl
  obtain ⟨r, σ', τ', hc1, hc2, hrel⟩ := ho n σ τ hn512 hrel (xs (6 * n + 1)) (xs (6 * n + 2))
  refine lv_aload_n hx hb dL_law_611 rfl (lv_at hl 1 rfl) ?_
  refine lv_aload_n hx hb dL_law_612 rfl (lv_at hl 0 rfl) ?_
  refine lv_iload_n hx hb dL_law_613 rfl (lv_at hl 3 rfl) ?_
  refine lv_iconst (v := (1 : Int32)) hx hb dL_law_614 (by decide) ?_
  refine lv_iadd hx hb dL_law_615 ?_
  refine va_sld hx hb hX hbl hbA hS (i := nI (6 * n) + (1 : Int32)) (sc_in 1 rfl h6 (by decide) hL) dL_law_616 ?_
  rw [sc_at 1 (x := (1 : Int32)) rfl h6 (by decide) hL]
  refine lv_aload_n hx hb dL_law_617 rfl (lv_at hl 0 rfl) ?_
  refine lv_iload_n hx hb dL_law_618 rfl (lv_at hl 3 rfl) ?_
  refine lv_iconst (v := (2 : Int32)) hx hb dL_law_619 (by decide) ?_
  refine lv_iadd hx hb dL_law_620 ?_
  refine va_sld hx hb hX hbl hbA hS (i := nI (6 * n) + (2 : Int32)) (sc_in 2 rfl h6 (by decide) hL) dL_law_621 ?_
  rw [sc_at 2 (x := (2 : Int32)) rfl h6 (by decide) hL]
  refine z_lawC (w := wC cyI cyZ a σ) (w' := wC cyI cyZ a σ') (v := wM cyI cyZ a2 τ) (As := [.int (xs (6 * n + 1)), .int (xs (6 * n + 2))]) (rest := []) ⟨hx, hb, hml, hown, hts⟩ (fun A => c_X8_found l D cyI cyZ a A σ (xs (6 * n + 1)) (xs (6 * n + 2)) r σ' hc1) (cwV 2 hts (gd_V mw_715 mw_716 mw_717 mw_2 mw_718) rfl rfl rfl (by decide +kernel) ⟨Nat.le_of_ble_eq_true rfl, Nat.le_of_ble_eq_true rfl⟩) hK hN hP hD hS 8 0 rfl rfl gC_0 rfl hl.1 rfl (Nat.le_of_ble_eq_true rfl) dL_law_622 ⟨Nat.le_of_ble_eq_true rfl, Nat.le_of_ble_eq_true rfl⟩ (fun H locs hP hD hS => ?_)
  refine lv_aload_n hx hb dL_law_625 rfl (lv_at hl 2 rfl) ?_
  refine lv_aload_n hx hb dL_law_626 rfl (lv_at hl 0 rfl) ?_
  refine lv_iload_n hx hb dL_law_627 rfl (lv_at hl 3 rfl) ?_
  refine lv_iconst (v := (1 : Int32)) hx hb dL_law_628 (by decide) ?_
  refine lv_iadd hx hb dL_law_629 ?_
  refine va_sld hx hb hX hbl hbA hS (i := nI (6 * n) + (1 : Int32)) (sc_in 1 rfl h6 (by decide) hL) dL_law_630 ?_
  rw [sc_at 1 (x := (1 : Int32)) rfl h6 (by decide) hL]
  refine lv_aload_n hx hb dL_law_631 rfl (lv_at hl 0 rfl) ?_
  refine lv_iload_n hx hb dL_law_632 rfl (lv_at hl 3 rfl) ?_
  refine lv_iconst (v := (2 : Int32)) hx hb dL_law_633 (by decide) ?_
  refine lv_iadd hx hb dL_law_634 ?_
  refine va_sld hx hb hX hbl hbA hS (i := nI (6 * n) + (2 : Int32)) (sc_in 2 rfl h6 (by decide) hL) dL_law_635 ?_
  rw [sc_at 2 (x := (2 : Int32)) rfl h6 (by decide) hL]
  refine z_lawM (w := wC cyI cyZ a σ') (v := wM cyI cyZ a2 τ) (v' := wM cyI cyZ a2 τ') (As := [.int (xs (6 * n + 1)), .int (xs (6 * n + 2))]) (rest := [.int r]) ⟨hx, hb, hml, hown, hts⟩ (fun A => c_X9_found l D cyI cyZ a2 A τ (xs (6 * n + 1)) (xs (6 * n + 2)) r τ' hc2) (cwV 2 hts (gd_V mw_720 mw_721 mw_722 mw_5 mw_723) rfl rfl rfl (by decide +kernel) ⟨Nat.le_of_ble_eq_true rfl, Nat.le_of_ble_eq_true rfl⟩) hK hN hP hD hS 9 0 rfl rfl gM_0 rfl hl.1 rfl (Nat.le_of_ble_eq_true rfl) dL_law_636 ⟨Nat.le_of_ble_eq_true rfl, Nat.le_of_ble_eq_true rfl⟩ (fun H locs hP hD hS => ?_)
  refine lv_icmp_eq (tgt := 802) hx hb dL_law_639 (by decide) (fun _ => ?_) (fun c9 => absurd rfl c9)
  exact K _ _ _ _ hrel hP hD hS
set_option maxHeartbeats 4000000 in
set_option maxRecDepth 100000 in
theorem law_answers (C0 : LX p s m c b L xs D cyI cyZ) (ho : Ok_answers REL) (hn512 : n < 512) (h6 : 6 * n + 6 ≤ L) (hL : L ≤ 3072) {σ τ : Mem} (hrel : REL n σ τ) {ls : Array Slot} {H : Heap} {locs : List Loc} (hl : lv_has ls 4 [(0, .ref b), (1, .ref (a 0)), (2, .ref (a2 0)), (3, .int (nI (6 * n)))]) (hP : va_P D vwCl (wC cyI cyZ a σ ++ wM cyI cyZ a2 τ) H) (hD : va_D (fun q : Nat => s.heap.size ≤ q) (wC cyI cyZ a σ ++ wM cyI cyZ a2 τ)) (hS : va_S (fun q : Nat => s.heap.size ≤ q) s.heap H locs) (K : ∀ (σ τ : Mem) (H : Heap) (locs : List Loc), REL (n + 1) σ τ → va_P D vwCl (wC cyI cyZ a σ ++ wM cyI cyZ a2 τ) H → va_D (fun q : Nat => s.heap.size ≤ q) (wC cyI cyZ a σ ++ wM cyI cyZ a2 τ) → va_S (fun q : Nat => s.heap.size ≤ q) s.heap H locs → W p l e room_1 s m #[Value.ref b] below meth c H locs 62 102551 Q (F0 m 802 ls [])) : W p l e room_1 s m #[Value.ref b] below meth c H locs 62 102551 Q (F0 m 644 ls []) := by
  obtain ⟨hx, hb, hml, hown, hts, hX, hbl, hK, hN⟩ := C0
  have hbA : ¬ (fun q : Nat => s.heap.size ≤ q) b := Nat.not_le.mpr hbl
  obtain ⟨r, σ', τ', hc1, hc2, hrel⟩ := ho n σ τ hn512 hrel (xs (6 * n + 1))
  refine lv_aload_n hx hb dL_law_644 rfl (lv_at hl 1 rfl) ?_
  refine lv_aload_n hx hb dL_law_645 rfl (lv_at hl 0 rfl) ?_
  refine lv_iload_n hx hb dL_law_646 rfl (lv_at hl 3 rfl) ?_
  refine lv_iconst (v := (1 : Int32)) hx hb dL_law_647 (by decide) ?_
  refine lv_iadd hx hb dL_law_648 ?_
  refine va_sld hx hb hX hbl hbA hS (i := nI (6 * n) + (1 : Int32)) (sc_in 1 rfl h6 (by decide) hL) dL_law_649 ?_
  rw [sc_at 1 (x := (1 : Int32)) rfl h6 (by decide) hL]
  refine z_lawC (w := wC cyI cyZ a σ) (w' := wC cyI cyZ a σ') (v := wM cyI cyZ a2 τ) (As := [.int (xs (6 * n + 1))]) (rest := []) ⟨hx, hb, hml, hown, hts⟩ (fun A => c_X8_answers l D cyI cyZ a A σ (xs (6 * n + 1)) r σ' hc1) (cwV 1 hts (gd_V mw_724 mw_725 mw_726 mw_2 mw_727) rfl rfl rfl (by decide +kernel) ⟨Nat.le_of_ble_eq_true rfl, Nat.le_of_ble_eq_true rfl⟩) hK hN hP hD hS 8 0 rfl rfl gC_0 rfl hl.1 rfl (Nat.le_of_ble_eq_true rfl) dL_law_650 ⟨Nat.le_of_ble_eq_true rfl, Nat.le_of_ble_eq_true rfl⟩ (fun H locs hP hD hS => ?_)
  refine lv_aload_n hx hb dL_law_653 rfl (lv_at hl 2 rfl) ?_
  refine lv_aload_n hx hb dL_law_654 rfl (lv_at hl 0 rfl) ?_
  refine lv_iload_n hx hb dL_law_655 rfl (lv_at hl 3 rfl) ?_
  refine lv_iconst (v := (1 : Int32)) hx hb dL_law_656 (by decide) ?_
  refine lv_iadd hx hb dL_law_657 ?_
  refine va_sld hx hb hX hbl hbA hS (i := nI (6 * n) + (1 : Int32)) (sc_in 1 rfl h6 (by decide) hL) dL_law_658 ?_
  rw [sc_at 1 (x := (1 : Int32)) rfl h6 (by decide) hL]
  refine z_lawM (w := wC cyI cyZ a σ') (v := wM cyI cyZ a2 τ) (v' := wM cyI cyZ a2 τ') (As := [.int (xs (6 * n + 1))]) (rest := [.int r]) ⟨hx, hb, hml, hown, hts⟩ (fun A => c_X9_answers l D cyI cyZ a2 A τ (xs (6 * n + 1)) r τ' hc2) (cwV 1 hts (gd_V mw_760 mw_761 mw_762 mw_5 mw_763) rfl rfl rfl (by decide +kernel) ⟨Nat.le_of_ble_eq_true rfl, Nat.le_of_ble_eq_true rfl⟩) hK hN hP hD hS 9 0 rfl rfl gM_0 rfl hl.1 rfl (Nat.le_of_ble_eq_true rfl) dL_law_659 ⟨Nat.le_of_ble_eq_true rfl, Nat.le_of_ble_eq_true rfl⟩ (fun H locs hP hD hS => ?_)
  refine lv_icmp_eq (tgt := 802) hx hb dL_law_662 (by decide) (fun _ => ?_) (fun c9 => absurd rfl c9)
  exact K _ _ _ _ hrel hP hD hS
set_option maxHeartbeats 4000000 in
set_option maxRecDepth 100000 in
theorem law_back (C0 : LX p s m c b L xs D cyI cyZ) (ho : Ok_back REL) (hn512 : n < 512) (h6 : 6 * n + 6 ≤ L) (hL : L ≤ 3072) {σ τ : Mem} (hrel : REL n σ τ) {ls : Array Slot} {H : Heap} {locs : List Loc} (hl : lv_has ls 4 [(0, .ref b), (1, .ref (a 0)), (2, .ref (a2 0)), (3, .int (nI (6 * n)))]) (hP : va_P D vwCl (wC cyI cyZ a σ ++ wM cyI cyZ a2 τ) H) (hD : va_D (fun q : Nat => s.heap.size ≤ q) (wC cyI cyZ a σ ++ wM cyI cyZ a2 τ)) (hS : va_S (fun q : Nat => s.heap.size ≤ q) s.heap H locs) (K : ∀ (σ τ : Mem) (H : Heap) (locs : List Loc), REL (n + 1) σ τ → va_P D vwCl (wC cyI cyZ a σ ++ wM cyI cyZ a2 τ) H → va_D (fun q : Nat => s.heap.size ≤ q) (wC cyI cyZ a σ ++ wM cyI cyZ a2 τ) → va_S (fun q : Nat => s.heap.size ≤ q) s.heap H locs → W p l e room_1 s m #[Value.ref b] below meth c H locs 62 102551 Q (F0 m 802 ls [])) : W p l e room_1 s m #[Value.ref b] below meth c H locs 62 102551 Q (F0 m 667 ls []) := by
  obtain ⟨hx, hb, hml, hown, hts, hX, hbl, hK, hN⟩ := C0
  have hbA : ¬ (fun q : Nat => s.heap.size ≤ q) b := Nat.not_le.mpr hbl
  obtain ⟨r, σ', τ', hc1, hc2, hrel⟩ := ho n σ τ hn512 hrel (xs (6 * n + 1))
  refine lv_aload_n hx hb dL_law_667 rfl (lv_at hl 1 rfl) ?_
  refine lv_aload_n hx hb dL_law_668 rfl (lv_at hl 0 rfl) ?_
  refine lv_iload_n hx hb dL_law_669 rfl (lv_at hl 3 rfl) ?_
  refine lv_iconst (v := (1 : Int32)) hx hb dL_law_670 (by decide) ?_
  refine lv_iadd hx hb dL_law_671 ?_
  refine va_sld hx hb hX hbl hbA hS (i := nI (6 * n) + (1 : Int32)) (sc_in 1 rfl h6 (by decide) hL) dL_law_672 ?_
  rw [sc_at 1 (x := (1 : Int32)) rfl h6 (by decide) hL]
  refine z_lawC (w := wC cyI cyZ a σ) (w' := wC cyI cyZ a σ') (v := wM cyI cyZ a2 τ) (As := [.int (xs (6 * n + 1))]) (rest := []) ⟨hx, hb, hml, hown, hts⟩ (fun A => c_X8_back l D cyI cyZ a A σ (xs (6 * n + 1)) r σ' hc1) (cwV 1 hts (gd_V mw_777 mw_778 mw_779 mw_2 mw_780) rfl rfl rfl (by decide +kernel) ⟨Nat.le_of_ble_eq_true rfl, Nat.le_of_ble_eq_true rfl⟩) hK hN hP hD hS 8 0 rfl rfl gC_0 rfl hl.1 rfl (Nat.le_of_ble_eq_true rfl) dL_law_673 ⟨Nat.le_of_ble_eq_true rfl, Nat.le_of_ble_eq_true rfl⟩ (fun H locs hP hD hS => ?_)
  refine lv_aload_n hx hb dL_law_676 rfl (lv_at hl 2 rfl) ?_
  refine lv_aload_n hx hb dL_law_677 rfl (lv_at hl 0 rfl) ?_
  refine lv_iload_n hx hb dL_law_678 rfl (lv_at hl 3 rfl) ?_
  refine lv_iconst (v := (1 : Int32)) hx hb dL_law_679 (by decide) ?_
  refine lv_iadd hx hb dL_law_680 ?_
  refine va_sld hx hb hX hbl hbA hS (i := nI (6 * n) + (1 : Int32)) (sc_in 1 rfl h6 (by decide) hL) dL_law_681 ?_
  rw [sc_at 1 (x := (1 : Int32)) rfl h6 (by decide) hL]
  refine z_lawM (w := wC cyI cyZ a σ') (v := wM cyI cyZ a2 τ) (v' := wM cyI cyZ a2 τ') (As := [.int (xs (6 * n + 1))]) (rest := [.int r]) ⟨hx, hb, hml, hown, hts⟩ (fun A => c_X9_back l D cyI cyZ a2 A τ (xs (6 * n + 1)) r τ' hc2) (cwV 1 hts (gd_V mw_796 mw_797 mw_798 mw_5 mw_799) rfl rfl rfl (by decide +kernel) ⟨Nat.le_of_ble_eq_true rfl, Nat.le_of_ble_eq_true rfl⟩) hK hN hP hD hS 9 0 rfl rfl gM_0 rfl hl.1 rfl (Nat.le_of_ble_eq_true rfl) dL_law_682 ⟨Nat.le_of_ble_eq_true rfl, Nat.le_of_ble_eq_true rfl⟩ (fun H locs hP hD hS => ?_)
  refine lv_icmp_eq (tgt := 802) hx hb dL_law_685 (by decide) (fun _ => ?_) (fun c9 => absurd rfl c9)
  exact K _ _ _ _ hrel hP hD hS
set_option maxHeartbeats 4000000 in
set_option maxRecDepth 100000 in
theorem law_agree (C0 : LX p s m c b L xs D cyI cyZ) (ho : Ok_agree REL) (hn512 : n < 512) (h6 : 6 * n + 6 ≤ L) (hL : L ≤ 3072) {σ τ : Mem} (hrel : REL n σ τ) {ls : Array Slot} {H : Heap} {locs : List Loc} (hl : lv_has ls 4 [(0, .ref b), (1, .ref (a 0)), (2, .ref (a2 0)), (3, .int (nI (6 * n)))]) (hP : va_P D vwCl (wC cyI cyZ a σ ++ wM cyI cyZ a2 τ) H) (hD : va_D (fun q : Nat => s.heap.size ≤ q) (wC cyI cyZ a σ ++ wM cyI cyZ a2 τ)) (hS : va_S (fun q : Nat => s.heap.size ≤ q) s.heap H locs) (K : ∀ (σ τ : Mem) (H : Heap) (locs : List Loc), REL (n + 1) σ τ → va_P D vwCl (wC cyI cyZ a σ ++ wM cyI cyZ a2 τ) H → va_D (fun q : Nat => s.heap.size ≤ q) (wC cyI cyZ a σ ++ wM cyI cyZ a2 τ) → va_S (fun q : Nat => s.heap.size ≤ q) s.heap H locs → W p l e room_1 s m #[Value.ref b] below meth c H locs 62 102551 Q (F0 m 802 ls [])) : W p l e room_1 s m #[Value.ref b] below meth c H locs 62 102551 Q (F0 m 690 ls []) := by
  obtain ⟨hx, hb, hml, hown, hts, hX, hbl, hK, hN⟩ := C0
  have hbA : ¬ (fun q : Nat => s.heap.size ≤ q) b := Nat.not_le.mpr hbl
  obtain ⟨r, σ', τ', hc1, hc2, hrel⟩ := ho n σ τ hn512 hrel (xs (6 * n + 1)) (xs (6 * n + 2)) (xs (6 * n + 3))
  refine lv_aload_n hx hb dL_law_690 rfl (lv_at hl 1 rfl) ?_
  refine lv_aload_n hx hb dL_law_691 rfl (lv_at hl 0 rfl) ?_
  refine lv_iload_n hx hb dL_law_692 rfl (lv_at hl 3 rfl) ?_
  refine lv_iconst (v := (1 : Int32)) hx hb dL_law_693 (by decide) ?_
  refine lv_iadd hx hb dL_law_694 ?_
  refine va_sld hx hb hX hbl hbA hS (i := nI (6 * n) + (1 : Int32)) (sc_in 1 rfl h6 (by decide) hL) dL_law_695 ?_
  rw [sc_at 1 (x := (1 : Int32)) rfl h6 (by decide) hL]
  refine lv_aload_n hx hb dL_law_696 rfl (lv_at hl 0 rfl) ?_
  refine lv_iload_n hx hb dL_law_697 rfl (lv_at hl 3 rfl) ?_
  refine lv_iconst (v := (2 : Int32)) hx hb dL_law_698 (by decide) ?_
  refine lv_iadd hx hb dL_law_699 ?_
  refine va_sld hx hb hX hbl hbA hS (i := nI (6 * n) + (2 : Int32)) (sc_in 2 rfl h6 (by decide) hL) dL_law_700 ?_
  rw [sc_at 2 (x := (2 : Int32)) rfl h6 (by decide) hL]
  refine lv_aload_n hx hb dL_law_701 rfl (lv_at hl 0 rfl) ?_
  refine lv_iload_n hx hb dL_law_702 rfl (lv_at hl 3 rfl) ?_
  refine lv_iconst (v := (3 : Int32)) hx hb dL_law_703 (by decide) ?_
  refine lv_iadd hx hb dL_law_704 ?_
  refine va_sld hx hb hX hbl hbA hS (i := nI (6 * n) + (3 : Int32)) (sc_in 3 rfl h6 (by decide) hL) dL_law_705 ?_
  rw [sc_at 3 (x := (3 : Int32)) rfl h6 (by decide) hL]
  refine z_lawC (w := wC cyI cyZ a σ) (w' := wC cyI cyZ a σ') (v := wM cyI cyZ a2 τ) (As := [.int (xs (6 * n + 1)), .int (xs (6 * n + 2)), .int (xs (6 * n + 3))]) (rest := []) ⟨hx, hb, hml, hown, hts⟩ (fun A => c_X8_agree l D cyI cyZ a A σ (xs (6 * n + 1)) (xs (6 * n + 2)) (xs (6 * n + 3)) r σ' hc1) (cwV 3 hts (gd_V mw_800 mw_801 mw_802 mw_2 mw_803) rfl rfl rfl (by decide +kernel) ⟨Nat.le_of_ble_eq_true rfl, Nat.le_of_ble_eq_true rfl⟩) hK hN hP hD hS 8 0 rfl rfl gC_0 rfl hl.1 rfl (Nat.le_of_ble_eq_true rfl) dL_law_706 ⟨Nat.le_of_ble_eq_true rfl, Nat.le_of_ble_eq_true rfl⟩ (fun H locs hP hD hS => ?_)
  refine lv_aload_n hx hb dL_law_709 rfl (lv_at hl 2 rfl) ?_
  refine lv_aload_n hx hb dL_law_710 rfl (lv_at hl 0 rfl) ?_
  refine lv_iload_n hx hb dL_law_711 rfl (lv_at hl 3 rfl) ?_
  refine lv_iconst (v := (1 : Int32)) hx hb dL_law_712 (by decide) ?_
  refine lv_iadd hx hb dL_law_713 ?_
  refine va_sld hx hb hX hbl hbA hS (i := nI (6 * n) + (1 : Int32)) (sc_in 1 rfl h6 (by decide) hL) dL_law_714 ?_
  rw [sc_at 1 (x := (1 : Int32)) rfl h6 (by decide) hL]
  refine lv_aload_n hx hb dL_law_715 rfl (lv_at hl 0 rfl) ?_
  refine lv_iload_n hx hb dL_law_716 rfl (lv_at hl 3 rfl) ?_
  refine lv_iconst (v := (2 : Int32)) hx hb dL_law_717 (by decide) ?_
  refine lv_iadd hx hb dL_law_718 ?_
  refine va_sld hx hb hX hbl hbA hS (i := nI (6 * n) + (2 : Int32)) (sc_in 2 rfl h6 (by decide) hL) dL_law_719 ?_
  rw [sc_at 2 (x := (2 : Int32)) rfl h6 (by decide) hL]
  refine lv_aload_n hx hb dL_law_720 rfl (lv_at hl 0 rfl) ?_
  refine lv_iload_n hx hb dL_law_721 rfl (lv_at hl 3 rfl) ?_
  refine lv_iconst (v := (3 : Int32)) hx hb dL_law_722 (by decide) ?_
  refine lv_iadd hx hb dL_law_723 ?_
  refine va_sld hx hb hX hbl hbA hS (i := nI (6 * n) + (3 : Int32)) (sc_in 3 rfl h6 (by decide) hL) dL_law_724 ?_
  rw [sc_at 3 (x := (3 : Int32)) rfl h6 (by decide) hL]
  refine z_lawM (w := wC cyI cyZ a σ') (v := wM cyI cyZ a2 τ) (v' := wM cyI cyZ a2 τ') (As := [.int (xs (6 * n + 1)), .int (xs (6 * n + 2)), .int (xs (6 * n + 3))]) (rest := [.int r]) ⟨hx, hb, hml, hown, hts⟩ (fun A => c_X9_agree l D cyI cyZ a2 A τ (xs (6 * n + 1)) (xs (6 * n + 2)) (xs (6 * n + 3)) r τ' hc2) (cwV 3 hts (gd_V mw_805 mw_806 mw_807 mw_5 mw_808) rfl rfl rfl (by decide +kernel) ⟨Nat.le_of_ble_eq_true rfl, Nat.le_of_ble_eq_true rfl⟩) hK hN hP hD hS 9 0 rfl rfl gM_0 rfl hl.1 rfl (Nat.le_of_ble_eq_true rfl) dL_law_725 ⟨Nat.le_of_ble_eq_true rfl, Nat.le_of_ble_eq_true rfl⟩ (fun H locs hP hD hS => ?_)
  refine lv_icmp_eq (tgt := 802) hx hb dL_law_728 (by decide) (fun _ => ?_) (fun c9 => absurd rfl c9)
  exact K _ _ _ _ hrel hP hD hS
set_option maxHeartbeats 4000000 in
set_option maxRecDepth 100000 in
theorem law_take (C0 : LX p s m c b L xs D cyI cyZ) (ho : Ok_take REL) (hn512 : n < 512) (h6 : 6 * n + 6 ≤ L) (hL : L ≤ 3072) {σ τ : Mem} (hrel : REL n σ τ) {ls : Array Slot} {H : Heap} {locs : List Loc} (hl : lv_has ls 4 [(0, .ref b), (1, .ref (a 0)), (2, .ref (a2 0)), (3, .int (nI (6 * n)))]) (hP : va_P D vwCl (wC cyI cyZ a σ ++ wM cyI cyZ a2 τ) H) (hD : va_D (fun q : Nat => s.heap.size ≤ q) (wC cyI cyZ a σ ++ wM cyI cyZ a2 τ)) (hS : va_S (fun q : Nat => s.heap.size ≤ q) s.heap H locs) (K : ∀ (σ τ : Mem) (H : Heap) (locs : List Loc), REL (n + 1) σ τ → va_P D vwCl (wC cyI cyZ a σ ++ wM cyI cyZ a2 τ) H → va_D (fun q : Nat => s.heap.size ≤ q) (wC cyI cyZ a σ ++ wM cyI cyZ a2 τ) → va_S (fun q : Nat => s.heap.size ≤ q) s.heap H locs → W p l e room_1 s m #[Value.ref b] below meth c H locs 62 102551 Q (F0 m 802 ls [])) : W p l e room_1 s m #[Value.ref b] below meth c H locs 62 102551 Q (F0 m 733 ls []) := by
  obtain ⟨hx, hb, hml, hown, hts, hX, hbl, hK, hN⟩ := C0
  have hbA : ¬ (fun q : Nat => s.heap.size ≤ q) b := Nat.not_le.mpr hbl
  obtain ⟨r, σ', τ', hc1, hc2, hrel⟩ := ho n σ τ hn512 hrel (xs (6 * n + 1))
  refine lv_aload_n hx hb dL_law_733 rfl (lv_at hl 1 rfl) ?_
  refine lv_aload_n hx hb dL_law_734 rfl (lv_at hl 0 rfl) ?_
  refine lv_iload_n hx hb dL_law_735 rfl (lv_at hl 3 rfl) ?_
  refine lv_iconst (v := (1 : Int32)) hx hb dL_law_736 (by decide) ?_
  refine lv_iadd hx hb dL_law_737 ?_
  refine va_sld hx hb hX hbl hbA hS (i := nI (6 * n) + (1 : Int32)) (sc_in 1 rfl h6 (by decide) hL) dL_law_738 ?_
  rw [sc_at 1 (x := (1 : Int32)) rfl h6 (by decide) hL]
  refine z_lawC (w := wC cyI cyZ a σ) (w' := wC cyI cyZ a σ') (v := wM cyI cyZ a2 τ) (As := [.int (xs (6 * n + 1))]) (rest := []) ⟨hx, hb, hml, hown, hts⟩ (fun A => c_X8_take l D cyI cyZ a A σ (xs (6 * n + 1)) r σ' hc1) (cwV 1 hts (gd_V mw_809 mw_810 mw_811 mw_2 mw_812) rfl rfl rfl (by decide +kernel) ⟨Nat.le_of_ble_eq_true rfl, Nat.le_of_ble_eq_true rfl⟩) hK hN hP hD hS 8 0 rfl rfl gC_0 rfl hl.1 rfl (Nat.le_of_ble_eq_true rfl) dL_law_739 ⟨Nat.le_of_ble_eq_true rfl, Nat.le_of_ble_eq_true rfl⟩ (fun H locs hP hD hS => ?_)
  refine lv_aload_n hx hb dL_law_742 rfl (lv_at hl 2 rfl) ?_
  refine lv_aload_n hx hb dL_law_743 rfl (lv_at hl 0 rfl) ?_
  refine lv_iload_n hx hb dL_law_744 rfl (lv_at hl 3 rfl) ?_
  refine lv_iconst (v := (1 : Int32)) hx hb dL_law_745 (by decide) ?_
  refine lv_iadd hx hb dL_law_746 ?_
  refine va_sld hx hb hX hbl hbA hS (i := nI (6 * n) + (1 : Int32)) (sc_in 1 rfl h6 (by decide) hL) dL_law_747 ?_
  rw [sc_at 1 (x := (1 : Int32)) rfl h6 (by decide) hL]
  refine z_lawM (w := wC cyI cyZ a σ') (v := wM cyI cyZ a2 τ) (v' := wM cyI cyZ a2 τ') (As := [.int (xs (6 * n + 1))]) (rest := [.int r]) ⟨hx, hb, hml, hown, hts⟩ (fun A => c_X9_take l D cyI cyZ a2 A τ (xs (6 * n + 1)) r τ' hc2) (cwV 1 hts (gd_V mw_825 mw_826 mw_827 mw_5 mw_828) rfl rfl rfl (by decide +kernel) ⟨Nat.le_of_ble_eq_true rfl, Nat.le_of_ble_eq_true rfl⟩) hK hN hP hD hS 9 0 rfl rfl gM_0 rfl hl.1 rfl (Nat.le_of_ble_eq_true rfl) dL_law_748 ⟨Nat.le_of_ble_eq_true rfl, Nat.le_of_ble_eq_true rfl⟩ (fun H locs hP hD hS => ?_)
  refine lv_icmp_eq (tgt := 802) hx hb dL_law_751 (by decide) (fun _ => ?_) (fun c9 => absurd rfl c9)
  exact K _ _ _ _ hrel hP hD hS
set_option maxHeartbeats 4000000 in
set_option maxRecDepth 100000 in
theorem law_why (C0 : LX p s m c b L xs D cyI cyZ) (ho : Ok_why REL) (hn512 : n < 512) (h6 : 6 * n + 6 ≤ L) (hL : L ≤ 3072) {σ τ : Mem} (hrel : REL n σ τ) {ls : Array Slot} {H : Heap} {locs : List Loc} (hl : lv_has ls 4 [(0, .ref b), (1, .ref (a 0)), (2, .ref (a2 0)), (3, .int (nI (6 * n)))]) (hP : va_P D vwCl (wC cyI cyZ a σ ++ wM cyI cyZ a2 τ) H) (hD : va_D (fun q : Nat => s.heap.size ≤ q) (wC cyI cyZ a σ ++ wM cyI cyZ a2 τ)) (hS : va_S (fun q : Nat => s.heap.size ≤ q) s.heap H locs) (K : ∀ (σ τ : Mem) (H : Heap) (locs : List Loc), REL (n + 1) σ τ → va_P D vwCl (wC cyI cyZ a σ ++ wM cyI cyZ a2 τ) H → va_D (fun q : Nat => s.heap.size ≤ q) (wC cyI cyZ a σ ++ wM cyI cyZ a2 τ) → va_S (fun q : Nat => s.heap.size ≤ q) s.heap H locs → W p l e room_1 s m #[Value.ref b] below meth c H locs 62 102551 Q (F0 m 802 ls [])) : W p l e room_1 s m #[Value.ref b] below meth c H locs 62 102551 Q (F0 m 756 ls []) := by
  obtain ⟨hx, hb, hml, hown, hts, hX, hbl, hK, hN⟩ := C0
  have hbA : ¬ (fun q : Nat => s.heap.size ≤ q) b := Nat.not_le.mpr hbl
  obtain ⟨r, σ', τ', hc1, hc2, hrel⟩ := ho n σ τ hn512 hrel (xs (6 * n + 1))
  refine lv_aload_n hx hb dL_law_756 rfl (lv_at hl 1 rfl) ?_
  refine lv_aload_n hx hb dL_law_757 rfl (lv_at hl 0 rfl) ?_
  refine lv_iload_n hx hb dL_law_758 rfl (lv_at hl 3 rfl) ?_
  refine lv_iconst (v := (1 : Int32)) hx hb dL_law_759 (by decide) ?_
  refine lv_iadd hx hb dL_law_760 ?_
  refine va_sld hx hb hX hbl hbA hS (i := nI (6 * n) + (1 : Int32)) (sc_in 1 rfl h6 (by decide) hL) dL_law_761 ?_
  rw [sc_at 1 (x := (1 : Int32)) rfl h6 (by decide) hL]
  refine z_lawC (w := wC cyI cyZ a σ) (w' := wC cyI cyZ a σ') (v := wM cyI cyZ a2 τ) (As := [.int (xs (6 * n + 1))]) (rest := []) ⟨hx, hb, hml, hown, hts⟩ (fun A => c_X8_why l D cyI cyZ a A σ (xs (6 * n + 1)) r σ' hc1) (cwV 1 hts (gd_V mw_829 mw_830 mw_831 mw_2 mw_832) rfl rfl rfl (by decide +kernel) ⟨Nat.le_of_ble_eq_true rfl, Nat.le_of_ble_eq_true rfl⟩) hK hN hP hD hS 8 0 rfl rfl gC_0 rfl hl.1 rfl (Nat.le_of_ble_eq_true rfl) dL_law_762 ⟨Nat.le_of_ble_eq_true rfl, Nat.le_of_ble_eq_true rfl⟩ (fun H locs hP hD hS => ?_)
  refine lv_aload_n hx hb dL_law_765 rfl (lv_at hl 2 rfl) ?_
  refine lv_aload_n hx hb dL_law_766 rfl (lv_at hl 0 rfl) ?_
  refine lv_iload_n hx hb dL_law_767 rfl (lv_at hl 3 rfl) ?_
  refine lv_iconst (v := (1 : Int32)) hx hb dL_law_768 (by decide) ?_
  refine lv_iadd hx hb dL_law_769 ?_
  refine va_sld hx hb hX hbl hbA hS (i := nI (6 * n) + (1 : Int32)) (sc_in 1 rfl h6 (by decide) hL) dL_law_770 ?_
  rw [sc_at 1 (x := (1 : Int32)) rfl h6 (by decide) hL]
  refine z_lawM (w := wC cyI cyZ a σ') (v := wM cyI cyZ a2 τ) (v' := wM cyI cyZ a2 τ') (As := [.int (xs (6 * n + 1))]) (rest := [.int r]) ⟨hx, hb, hml, hown, hts⟩ (fun A => c_X9_why l D cyI cyZ a2 A τ (xs (6 * n + 1)) r τ' hc2) (cwV 1 hts (gd_V mw_847 mw_848 mw_849 mw_5 mw_850) rfl rfl rfl (by decide +kernel) ⟨Nat.le_of_ble_eq_true rfl, Nat.le_of_ble_eq_true rfl⟩) hK hN hP hD hS 9 0 rfl rfl gM_0 rfl hl.1 rfl (Nat.le_of_ble_eq_true rfl) dL_law_771 ⟨Nat.le_of_ble_eq_true rfl, Nat.le_of_ble_eq_true rfl⟩ (fun H locs hP hD hS => ?_)
  refine lv_icmp_eq (tgt := 802) hx hb dL_law_774 (by decide) (fun _ => ?_) (fun c9 => absurd rfl c9)
  exact K _ _ _ _ hrel hP hD hS
set_option maxHeartbeats 4000000 in
set_option maxRecDepth 100000 in
theorem law_count (C0 : LX p s m c b L xs D cyI cyZ) (ho : Ok_count REL) (hn512 : n < 512) (h6 : 6 * n + 6 ≤ L) (hL : L ≤ 3072) {σ τ : Mem} (hrel : REL n σ τ) {ls : Array Slot} {H : Heap} {locs : List Loc} (hl : lv_has ls 4 [(0, .ref b), (1, .ref (a 0)), (2, .ref (a2 0)), (3, .int (nI (6 * n)))]) (hP : va_P D vwCl (wC cyI cyZ a σ ++ wM cyI cyZ a2 τ) H) (hD : va_D (fun q : Nat => s.heap.size ≤ q) (wC cyI cyZ a σ ++ wM cyI cyZ a2 τ)) (hS : va_S (fun q : Nat => s.heap.size ≤ q) s.heap H locs) (K : ∀ (σ τ : Mem) (H : Heap) (locs : List Loc), REL (n + 1) σ τ → va_P D vwCl (wC cyI cyZ a σ ++ wM cyI cyZ a2 τ) H → va_D (fun q : Nat => s.heap.size ≤ q) (wC cyI cyZ a σ ++ wM cyI cyZ a2 τ) → va_S (fun q : Nat => s.heap.size ≤ q) s.heap H locs → W p l e room_1 s m #[Value.ref b] below meth c H locs 62 102551 Q (F0 m 802 ls [])) : W p l e room_1 s m #[Value.ref b] below meth c H locs 62 102551 Q (F0 m 779 ls []) := by
  obtain ⟨hx, hb, hml, hown, hts, hX, hbl, hK, hN⟩ := C0
  have hbA : ¬ (fun q : Nat => s.heap.size ≤ q) b := Nat.not_le.mpr hbl
  obtain ⟨r, hc1, hc2, hrel⟩ := ho n σ τ hn512 hrel (xs (6 * n + 1))
  refine lv_aload_n hx hb dL_law_779 rfl (lv_at hl 1 rfl) ?_
  refine lv_aload_n hx hb dL_law_780 rfl (lv_at hl 0 rfl) ?_
  refine lv_iload_n hx hb dL_law_781 rfl (lv_at hl 3 rfl) ?_
  refine lv_iconst (v := (1 : Int32)) hx hb dL_law_782 (by decide) ?_
  refine lv_iadd hx hb dL_law_783 ?_
  refine va_sld hx hb hX hbl hbA hS (i := nI (6 * n) + (1 : Int32)) (sc_in 1 rfl h6 (by decide) hL) dL_law_784 ?_
  rw [sc_at 1 (x := (1 : Int32)) rfl h6 (by decide) hL]
  refine z_lawC (w := wC cyI cyZ a σ) (w' := wC cyI cyZ a σ) (v := wM cyI cyZ a2 τ) (As := [.int (xs (6 * n + 1))]) (rest := []) ⟨hx, hb, hml, hown, hts⟩ (fun A => c_X8_count l D cyI cyZ a A σ (xs (6 * n + 1)) r hc1) (cwV 1 hts (gd_V mw_851 mw_852 mw_853 mw_2 mw_854) rfl rfl rfl (by decide +kernel) ⟨Nat.le_of_ble_eq_true rfl, Nat.le_of_ble_eq_true rfl⟩) hK hN hP hD hS 8 0 rfl rfl gC_0 rfl hl.1 rfl (Nat.le_of_ble_eq_true rfl) dL_law_785 ⟨Nat.le_of_ble_eq_true rfl, Nat.le_of_ble_eq_true rfl⟩ (fun H locs hP hD hS => ?_)
  refine lv_aload_n hx hb dL_law_788 rfl (lv_at hl 2 rfl) ?_
  refine lv_aload_n hx hb dL_law_789 rfl (lv_at hl 0 rfl) ?_
  refine lv_iload_n hx hb dL_law_790 rfl (lv_at hl 3 rfl) ?_
  refine lv_iconst (v := (1 : Int32)) hx hb dL_law_791 (by decide) ?_
  refine lv_iadd hx hb dL_law_792 ?_
  refine va_sld hx hb hX hbl hbA hS (i := nI (6 * n) + (1 : Int32)) (sc_in 1 rfl h6 (by decide) hL) dL_law_793 ?_
  rw [sc_at 1 (x := (1 : Int32)) rfl h6 (by decide) hL]
  refine z_lawM (w := wC cyI cyZ a σ) (v := wM cyI cyZ a2 τ) (v' := wM cyI cyZ a2 τ) (As := [.int (xs (6 * n + 1))]) (rest := [.int r]) ⟨hx, hb, hml, hown, hts⟩ (fun A => c_X9_count l D cyI cyZ a2 A τ (xs (6 * n + 1)) r hc2) (cwV 1 hts (gd_V mw_859 mw_860 mw_861 mw_5 mw_862) rfl rfl rfl (by decide +kernel) ⟨Nat.le_of_ble_eq_true rfl, Nat.le_of_ble_eq_true rfl⟩) hK hN hP hD hS 9 0 rfl rfl gM_0 rfl hl.1 rfl (Nat.le_of_ble_eq_true rfl) dL_law_794 ⟨Nat.le_of_ble_eq_true rfl, Nat.le_of_ble_eq_true rfl⟩ (fun H locs hP hD hS => ?_)
  refine lv_icmp_eq (tgt := 802) hx hb dL_law_797 (by decide) (fun _ => ?_) (fun c9 => absurd rfl c9)
  exact K _ _ _ _ hrel hP hD hS
theorem z_notin22 {x : Int32} (h0 : ¬ x = (0 : Int32)) (h1 : ¬ x = (1 : Int32)) (h2 : ¬ x = (2 : Int32)) (h3 : ¬ x = (3 : Int32)) (h4 : ¬ x = (4 : Int32)) (h5 : ¬ x = (5 : Int32)) (h6 : ¬ x = (6 : Int32)) (h7 : ¬ x = (7 : Int32)) (h8 : ¬ x = (8 : Int32)) (h9 : ¬ x = (9 : Int32)) (h10 : ¬ x = (10 : Int32)) (h11 : ¬ x = (11 : Int32)) (h12 : ¬ x = (12 : Int32)) (h13 : ¬ x = (13 : Int32)) (h14 : ¬ x = (14 : Int32)) (h15 : ¬ x = (15 : Int32)) (h16 : ¬ x = (16 : Int32)) (h17 : ¬ x = (17 : Int32)) (h18 : ¬ x = (18 : Int32)) (h19 : ¬ x = (19 : Int32)) (h20 : ¬ x = (20 : Int32)) (h21 : ¬ x = (21 : Int32)) : x.toInt < 0 ∨ 21 < x.toInt := by
  have a0 := lv_neT h0 (a := 0) rfl
  have a1 := lv_neT h1 (a := 1) rfl
  have a2 := lv_neT h2 (a := 2) rfl
  have a3 := lv_neT h3 (a := 3) rfl
  have a4 := lv_neT h4 (a := 4) rfl
  have a5 := lv_neT h5 (a := 5) rfl
  have a6 := lv_neT h6 (a := 6) rfl
  have a7 := lv_neT h7 (a := 7) rfl
  have a8 := lv_neT h8 (a := 8) rfl
  have a9 := lv_neT h9 (a := 9) rfl
  have a10 := lv_neT h10 (a := 10) rfl
  have a11 := lv_neT h11 (a := 11) rfl
  have a12 := lv_neT h12 (a := 12) rfl
  have a13 := lv_neT h13 (a := 13) rfl
  have a14 := lv_neT h14 (a := 14) rfl
  have a15 := lv_neT h15 (a := 15) rfl
  have a16 := lv_neT h16 (a := 16) rfl
  have a17 := lv_neT h17 (a := 17) rfl
  have a18 := lv_neT h18 (a := 18) rfl
  have a19 := lv_neT h19 (a := 19) rfl
  have a20 := lv_neT h20 (a := 20) rfl
  have a21 := lv_neT h21 (a := 21) rfl
  omega
set_option maxHeartbeats 4000000 in
set_option maxRecDepth 100000 in
theorem law_switch (C0 : LX p s m c b L xs D cyI cyZ) (ho_table : Ok_table REL) (ho_row : Ok_row REL) (ho_put : Ok_put REL) (ho_value : Ok_value REL) (ho_link : Ok_link REL) (ho_mean : Ok_mean REL) (ho_cost : Ok_cost REL) (ho_forget : Ok_forget REL) (ho_word : Ok_word REL) (ho_number : Ok_number REL) (ho_clear : Ok_clear REL) (ho_readings : Ok_readings REL) (ho_reading : Ok_reading REL) (ho_test : Ok_test REL) (ho_answer : Ok_answer REL) (ho_found : Ok_found REL) (ho_answers : Ok_answers REL) (ho_back : Ok_back REL) (ho_agree : Ok_agree REL) (ho_take : Ok_take REL) (ho_why : Ok_why REL) (ho_count : Ok_count REL) (hmono : ∀ (n : Nat) (σ τ : Mem), n < 512 → REL n σ τ → REL (n + 1) σ τ) (hn512 : n < 512) (h6 : 6 * n + 6 ≤ L) (hL : L ≤ 3072) {σ τ : Mem} (hrel : REL n σ τ) {ls : Array Slot} {H : Heap} {locs : List Loc} (hl : lv_has ls 4 [(0, .ref b), (1, .ref (a 0)), (2, .ref (a2 0)), (3, .int (nI (6 * n)))]) (hP : va_P D vwCl (wC cyI cyZ a σ ++ wM cyI cyZ a2 τ) H) (hD : va_D (fun q : Nat => s.heap.size ≤ q) (wC cyI cyZ a σ ++ wM cyI cyZ a2 τ)) (hS : va_S (fun q : Nat => s.heap.size ≤ q) s.heap H locs) (K : ∀ (σ τ : Mem) (H : Heap) (locs : List Loc), REL (n + 1) σ τ → va_P D vwCl (wC cyI cyZ a σ ++ wM cyI cyZ a2 τ) H → va_D (fun q : Nat => s.heap.size ≤ q) (wC cyI cyZ a σ ++ wM cyI cyZ a2 τ) → va_S (fun q : Nat => s.heap.size ≤ q) s.heap H locs → W p l e room_1 s m #[Value.ref b] below meth c H locs 62 102551 Q (F0 m 802 ls [])) (xx : Int32) : W p l e room_1 s m #[Value.ref b] below meth c H locs 62 102551 Q (F0 m 33 ls [.int xx]) := by
  obtain ⟨hx, hb, hml, hown, hts, hX, hbl, hK, hN⟩ := id C0
  by_cases c_0 : xx = (0 : Int32)
  · refine lv_tableIn (off := 103) (tgt := 136) hx hb dL_law_33 (by rw [c_0]; decide) (by rw [c_0]; decide) (by rw [c_0]; rfl) (by decide) ?_
    exact law_table C0 ho_table hn512 h6 hL hrel hl hP hD hS K
  by_cases c_1 : xx = (1 : Int32)
  · refine lv_tableIn (off := 126) (tgt := 159) hx hb dL_law_33 (by rw [c_1]; decide) (by rw [c_1]; decide) (by rw [c_1]; rfl) (by decide) ?_
    exact law_row C0 ho_row hn512 h6 hL hrel hl hP hD hS K
  by_cases c_2 : xx = (2 : Int32)
  · refine lv_tableIn (off := 149) (tgt := 182) hx hb dL_law_33 (by rw [c_2]; decide) (by rw [c_2]; decide) (by rw [c_2]; rfl) (by decide) ?_
    exact law_put C0 ho_put hn512 h6 hL hrel hl hP hD hS K
  by_cases c_3 : xx = (3 : Int32)
  · refine lv_tableIn (off := 202) (tgt := 235) hx hb dL_law_33 (by rw [c_3]; decide) (by rw [c_3]; decide) (by rw [c_3]; rfl) (by decide) ?_
    exact law_value C0 ho_value hn512 h6 hL hrel hl hP hD hS K
  by_cases c_4 : xx = (4 : Int32)
  · refine lv_tableIn (off := 245) (tgt := 278) hx hb dL_law_33 (by rw [c_4]; decide) (by rw [c_4]; decide) (by rw [c_4]; rfl) (by decide) ?_
    exact law_link C0 ho_link hn512 h6 hL hrel hl hP hD hS K
  by_cases c_5 : xx = (5 : Int32)
  · refine lv_tableIn (off := 288) (tgt := 321) hx hb dL_law_33 (by rw [c_5]; decide) (by rw [c_5]; decide) (by rw [c_5]; rfl) (by decide) ?_
    exact law_mean C0 ho_mean hn512 h6 hL hrel hl hP hD hS K
  by_cases c_6 : xx = (6 : Int32)
  · refine lv_tableIn (off := 351) (tgt := 384) hx hb dL_law_33 (by rw [c_6]; decide) (by rw [c_6]; decide) (by rw [c_6]; rfl) (by decide) ?_
    exact law_cost C0 ho_cost hn512 h6 hL hrel hl hP hD hS K
  by_cases c_7 : xx = (7 : Int32)
  · refine lv_tableIn (off := 384) (tgt := 417) hx hb dL_law_33 (by rw [c_7]; decide) (by rw [c_7]; decide) (by rw [c_7]; rfl) (by decide) ?_
    exact law_forget C0 ho_forget hn512 h6 hL hrel hl hP hD hS K
  by_cases c_8 : xx = (8 : Int32)
  · refine lv_tableIn (off := 407) (tgt := 440) hx hb dL_law_33 (by rw [c_8]; decide) (by rw [c_8]; decide) (by rw [c_8]; rfl) (by decide) ?_
    exact law_word C0 ho_word hn512 h6 hL hrel hl hP hD hS K
  by_cases c_9 : xx = (9 : Int32)
  · refine lv_tableIn (off := 430) (tgt := 463) hx hb dL_law_33 (by rw [c_9]; decide) (by rw [c_9]; decide) (by rw [c_9]; rfl) (by decide) ?_
    exact law_number C0 ho_number hn512 h6 hL hrel hl hP hD hS K
  by_cases c_10 : xx = (10 : Int32)
  · refine lv_tableIn (off := 453) (tgt := 486) hx hb dL_law_33 (by rw [c_10]; decide) (by rw [c_10]; decide) (by rw [c_10]; rfl) (by decide) ?_
    exact law_clear C0 ho_clear hn512 h6 hL hrel hl hP hD hS K
  by_cases c_11 : xx = (11 : Int32)
  · refine lv_tableIn (off := 466) (tgt := 499) hx hb dL_law_33 (by rw [c_11]; decide) (by rw [c_11]; decide) (by rw [c_11]; rfl) (by decide) ?_
    exact law_readings C0 ho_readings hn512 h6 hL hrel hl hP hD hS K
  by_cases c_12 : xx = (12 : Int32)
  · refine lv_tableIn (off := 479) (tgt := 512) hx hb dL_law_33 (by rw [c_12]; decide) (by rw [c_12]; decide) (by rw [c_12]; rfl) (by decide) ?_
    exact law_reading C0 ho_reading hn512 h6 hL hrel hl hP hD hS K
  by_cases c_13 : xx = (13 : Int32)
  · refine lv_tableIn (off := 512) (tgt := 545) hx hb dL_law_33 (by rw [c_13]; decide) (by rw [c_13]; decide) (by rw [c_13]; rfl) (by decide) ?_
    exact law_test C0 ho_test hn512 h6 hL hrel hl hP hD hS K
  by_cases c_14 : xx = (14 : Int32)
  · refine lv_tableIn (off := 555) (tgt := 588) hx hb dL_law_33 (by rw [c_14]; decide) (by rw [c_14]; decide) (by rw [c_14]; rfl) (by decide) ?_
    exact law_answer C0 ho_answer hn512 h6 hL hrel hl hP hD hS K
  by_cases c_15 : xx = (15 : Int32)
  · refine lv_tableIn (off := 578) (tgt := 611) hx hb dL_law_33 (by rw [c_15]; decide) (by rw [c_15]; decide) (by rw [c_15]; rfl) (by decide) ?_
    exact law_found C0 ho_found hn512 h6 hL hrel hl hP hD hS K
  by_cases c_16 : xx = (16 : Int32)
  · refine lv_tableIn (off := 611) (tgt := 644) hx hb dL_law_33 (by rw [c_16]; decide) (by rw [c_16]; decide) (by rw [c_16]; rfl) (by decide) ?_
    exact law_answers C0 ho_answers hn512 h6 hL hrel hl hP hD hS K
  by_cases c_17 : xx = (17 : Int32)
  · refine lv_tableIn (off := 634) (tgt := 667) hx hb dL_law_33 (by rw [c_17]; decide) (by rw [c_17]; decide) (by rw [c_17]; rfl) (by decide) ?_
    exact law_back C0 ho_back hn512 h6 hL hrel hl hP hD hS K
  by_cases c_18 : xx = (18 : Int32)
  · refine lv_tableIn (off := 657) (tgt := 690) hx hb dL_law_33 (by rw [c_18]; decide) (by rw [c_18]; decide) (by rw [c_18]; rfl) (by decide) ?_
    exact law_agree C0 ho_agree hn512 h6 hL hrel hl hP hD hS K
  by_cases c_19 : xx = (19 : Int32)
  · refine lv_tableIn (off := 700) (tgt := 733) hx hb dL_law_33 (by rw [c_19]; decide) (by rw [c_19]; decide) (by rw [c_19]; rfl) (by decide) ?_
    exact law_take C0 ho_take hn512 h6 hL hrel hl hP hD hS K
  by_cases c_20 : xx = (20 : Int32)
  · refine lv_tableIn (off := 723) (tgt := 756) hx hb dL_law_33 (by rw [c_20]; decide) (by rw [c_20]; decide) (by rw [c_20]; rfl) (by decide) ?_
    exact law_why C0 ho_why hn512 h6 hL hrel hl hP hD hS K
  by_cases c_21 : xx = (21 : Int32)
  · refine lv_tableIn (off := 746) (tgt := 779) hx hb dL_law_33 (by rw [c_21]; decide) (by rw [c_21]; decide) (by rw [c_21]; rfl) (by decide) ?_
    exact law_count C0 ho_count hn512 h6 hL hrel hl hP hD hS K
  refine lv_tableOut (tgt := 802) hx hb dL_law_33 (z_notin22 c_0 c_1 c_2 c_3 c_4 c_5 c_6 c_7 c_8 c_9 c_10 c_11 c_12 c_13 c_14 c_15 c_16 c_17 c_18 c_19 c_20 c_21) (by decide) ?_
  exact K _ _ _ _ (hmono n σ τ hn512 hrel) hP hD hS
end
