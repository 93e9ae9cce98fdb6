abbrev ts_J7_fill_53178 : List Cond := .code yJ7_fill_53178 cJ7_fill_53178 4 none :: wsL_law
def fillM (σ : Mem) (k n : Nat) (v : Int32) : Mem := fun k' => if k' = k then (fun j => if j < n then v else σ k j) else σ k'
/-- Arrays.fill, in any world -/
theorem fill_loop {p : Program} {l : Launch} {e : Env} {s : State} {m : MethodId} {args : Array Value} {below : List Frame} {meth : Method} {c : Code} {D : va_G} {A : Nat → Prop} {cyI cyZ : ClassId} {w : va_W} {q0 ad n : Nat} {f : Nat → Int32} {v : Int32} (hx : p.tables.exec = Jvm.exec) (hb : c.code = cJ7_fill_53178) (hr : meth.sig.returnType = none) (hlocks : meth.locks = false) (hK : va_K D vwCl (cyT cyI cyZ) s) (hw : w[q0]? = some (ad, .inl (cyI, n, .inl f))) (hn : n < 2 ^ 31) : ∀ (k i : Nat), i + k = n → ∀ (ls : Array Slot) (H : Heap) (locs : List Loc), lv_has ls 4 [(0, .ref ad), (1, .int v), (2, .int (nI i)), (3, .int (nI n))] → va_P D vwCl (w.set q0 (ad, .inl (cyI, n, .inl (fun j => if j < i then v else f j)))) H → va_D A (w.set q0 (ad, .inl (cyI, n, .inl (fun j => if j < i then v else f j)))) → va_S A s.heap H locs →
    W p l e (headSpec ts_J7_fill_53178 ({ frames := 0, cells := 0, slots := 0, locals := 0 } : Room)).room s m args below meth c H locs 0 0 (MQ below (QcV D cyI cyZ A (w.set q0 (ad, .inl (cyI, n, .inl (fun j => if j < n then v else f j))))) args s 0 0 A) (F0 m 5 ls []) := by
  have hql : q0 < w.length := (List.getElem?_eq_some_iff.mp hw).1
  intro k
  induction k with
  | zero =>
    intro i hi ls H locs hl hP hD hS
    have hi : i = n := by omega
    subst hi
    refine lv_iload_n hx hb dJ7_fill_53178_5 rfl (lv_at hl 2 rfl) ?_
    refine lv_iload_n hx hb dJ7_fill_53178_6 rfl (lv_at hl 3 rfl) ?_
    refine lv_icmp_ge (tgt := 20) hx hb dJ7_fill_53178_7 (by decide) (fun c1 => ?_) (fun c1 => absurd (nI_le (Nat.le_refl i) hn) c1)
    exact z_vret hx hb hr hlocks hK hP hD hS dJ7_fill_53178_20
  | succ k ih =>
    intro i hi ls H locs hl hP hD hS
    refine lv_iload_n hx hb dJ7_fill_53178_5 rfl (lv_at hl 2 rfl) ?_
    refine lv_iload_n hx hb dJ7_fill_53178_6 rfl (lv_at hl 3 rfl) ?_
    refine lv_icmp_ge (tgt := 20) hx hb dJ7_fill_53178_7 (by decide) (fun c1 => absurd c1 (nI_ge (show i < n by omega) hn)) (fun c1 => ?_)
    refine lv_aload_n hx hb dJ7_fill_53178_10 rfl (lv_at hl 0 rfl) ?_
    refine lv_iload_n hx hb dJ7_fill_53178_11 rfl (lv_at hl 2 rfl) ?_
    refine lv_iload_n hx hb dJ7_fill_53178_12 rfl (lv_at hl 1 rfl) ?_
    refine va_iast hx hb hK hP hD hS q0 0 (cA := cyI) (n := n) (f := fun j => if j < i then v else f j) (List.getElem?_set_self hql) rfl (vp_in_nI (show i < n by omega) hn) dJ7_fill_53178_13 (fun H locs hP hD hS => ?_)
    have hu : upd (fun j => if j < i then v else f j) (nI i).toNatClampNeg v = fun j => if j < i + 1 then v else f j := by
      rw [nI_clamp (by omega)]
      funext j
      unfold upd
      by_cases h1 : j = i
      · subst h1; simp
      · by_cases h2 : j < i
        · simp [h1, h2, Nat.lt_succ_of_lt h2]
        · simp [h1, h2, show ¬ j < i + 1 by omega]
    rw [List.set_set, hu] at hP hD
    refine lv_iinc (v := nI (i + 1)) (lv' := [(2, .int (nI (i + 1))), (0, .ref ad), (1, .int v), (3, .int (nI n))]) hx hb dJ7_fill_53178_14 hl (k := 2) rfl (nI_1 i) (by decide) rfl (fun ls hl => ?_)
    refine lv_goto (tgt := 5) hx hb dJ7_fill_53178_17 (by decide) ?_
    exact ih (i + 1) (by omega) ls H locs (lv_sub hl [1, 2, 0, 3] rfl) hP hD hS
theorem c_fillG (l : Launch) (D : va_G) (cyI cyZ : ClassId) (A : Nat → Prop) (w w' : va_W) (q0 ad n : Nat) (f : Nat → Int32) (v : Int32) (hw : w[q0]? = some (ad, .inl (cyI, n, .inl f))) (hn : n < 2 ^ 31) (hw' : w.set q0 (ad, .inl (cyI, n, .inl (fun j => if j < n then v else f j))) = w') : CtV l yJ7_fill_53178 ts_J7_fill_53178 ({ frames := 0, cells := 0, slots := 0, locals := 0 } : Room) [.ref ad, .int v] D cyI cyZ A w w' := by
  subst hw'
  refine CtV.of (cc := cJ7_fill_53178) (maxL := 4) (ret := none) (by decide) rfl (Nat.le_of_ble_eq_true rfl) ?_
  intro p e s m below meth c ls hC hP hD hl
  obtain ⟨hx, hb, hr, hml, hown, hts, hK, hN, hlocks⟩ := hC
  have hS : va_S A s.heap s.heap [] := va_S.rf
  have hl : lv_has ls 4 [(0, .ref ad), (1, .int v)] := hl
  have h0 : w.set q0 (ad, .inl (cyI, n, .inl (fun j => if j < 0 then v else f j))) = w := by
    have : (fun j => if j < 0 then v else f j) = f := by funext j; simp
    rw [this]
    obtain ⟨h1, h2⟩ := List.getElem?_eq_some_iff.mp hw
    rw [← h2]
    exact List.set_getElem_self h1
  refine lv_iconst (v := (0 : Int32)) hx hb dJ7_fill_53178_0 (by decide) ?_
  refine lv_istore_n (lv' := [(2, .int (nI 0)), (0, .ref ad), (1, .int v)]) hx hb dJ7_fill_53178_1 rfl hl (by decide) rfl (fun ls hl => ?_)
  refine lv_aload_n hx hb dJ7_fill_53178_2 rfl (lv_at hl 1 rfl) ?_
  refine va_alen (v := nI n) hx hb hK hP q0 0 hw rfl rfl dJ7_fill_53178_3 ?_
  refine lv_istore_n (lv' := [(3, .int (nI n)), (2, .int (nI 0)), (0, .ref ad), (1, .int v)]) hx hb dJ7_fill_53178_4 rfl hl (by decide) rfl (fun ls hl => ?_)
  exact fill_loop hx hb hr hlocks hK hw hn n 0 (by omega) ls _ _ (lv_sub hl [2, 3, 1, 0] rfl) (by rw [h0]; exact hP) (by rw [h0]; exact hD) hS
theorem c_fill23 (l : Launch) (D : va_G) (cyI cyZ : ClassId) (a : Nat → Nat) (A : Nat → Prop) (σ : Mem) (v : Int32) (σ' : Mem) (h : some (fillM σ 23 794 v) = some σ') : CtV l yJ7_fill_53178 ts_J7_fill_53178 ({ frames := 0, cells := 0, slots := 0, locals := 0 } : Room) [.ref (a 23), .int v] D cyI cyZ A (wC cyI cyZ a σ) (wC cyI cyZ a σ') := by
  cases h
  exact c_fillG l D cyI cyZ A _ _ 23 (a 23) 794 (σ 23) v gC_23 (by decide) rfl
theorem c_fill28 (l : Launch) (D : va_G) (cyI cyZ : ClassId) (a : Nat → Nat) (A : Nat → Prop) (σ : Mem) (v : Int32) (σ' : Mem) (h : some (fillM σ 28 288 v) = some σ') : CtV l yJ7_fill_53178 ts_J7_fill_53178 ({ frames := 0, cells := 0, slots := 0, locals := 0 } : Room) [.ref (a 28), .int v] D cyI cyZ A (wC cyI cyZ a σ) (wC cyI cyZ a σ') := by
  cases h
  exact c_fillG l D cyI cyZ A _ _ 28 (a 28) 288 (σ 28) v gC_28 (by decide) rfl
/-- Readings.swap: keys and spare change places -/
def swp (σ : Mem) : Mem := fun k => if k = 25 then σ 26 else if k = 26 then σ 25 else if k = 16 then upd (σ 16) 10 (if σ 16 10 = 0 then 1 else 0) else σ k
def F_X5_swap (σ : Mem) : Option Mem := some (swp σ)
theorem swp_w {cyI cyZ : ClassId} {a : Nat → Nat} {σ : Mem} : ((wC cyI cyZ a σ).set 16 (a 16, .inr (5, ([.ref (a 1), .ref (a 6), .ref (a 13), .ref (a 17), .ref (a 23), .ref (a 24), .ref (a 34), .ref (a (kx σ)), .ref (a (ky σ)), .int (σ 16 8), .int (σ 16 9)] : List Value).set 7 (.ref (a (ky σ)))))).set 16 (a 16, .inr (5, (([.ref (a 1), .ref (a 6), .ref (a 13), .ref (a 17), .ref (a 23), .ref (a 24), .ref (a 34), .ref (a (kx σ)), .ref (a (ky σ)), .int (σ 16 8), .int (σ 16 9)] : List Value).set 7 (.ref (a (ky σ)))).set 8 (.ref (a (kx σ))))) = wC cyI cyZ a (swp σ) := by
  by_cases h : σ 16 10 = 0
  · simp [wC, kx, ky, swp, upd, h]
  · simp [wC, kx, ky, swp, upd, h]
abbrev ts_X5_swap : List Cond := .code yX5_swap cX5_swap 2 none :: wsL_law
set_option maxHeartbeats 4000000 in
set_option maxRecDepth 100000 in
theorem c_X5_swap (l : Launch) (D : va_G) (cyI cyZ : ClassId) (a : Nat → Nat) (A : Nat → Prop) (σ : Mem) (σ' : Mem) (hF : F_X5_swap σ = some σ') : CtV l yX5_swap ts_X5_swap ({ frames := 0, cells := 0, slots := 0, locals := 0 } : Room) [.ref (a 16)] D cyI cyZ A (wC cyI cyZ a σ) (wC cyI cyZ a σ') := by
  refine CtV.of (cc := cX5_swap) (maxL := 2) (ret := none) (by decide) rfl (Nat.le_of_ble_eq_true rfl) ?_
  intro p e s m below meth c ls hC hP hD hl
  obtain ⟨hx, hb, hr, hml, hown, hts, hK, hN, hlocks⟩ := hC
  have hown : s.vm.findClass RX5 = some m.cls := hown
  have hS : va_S A s.heap s.heap [] := va_S.rf
  have hl : lv_has ls 2 [(0, .ref (a 16))] := hl
  unfold F_X5_swap at hF
  cases hF
  refine lv_aload_n hx hb dX5_swap_0 rfl (lv_at hl 0 rfl) ?_
  refine va_get (D := D) (ci := 5) (v := .ref (a (kx σ))) (C := RX5) (T := TX5) (N := 11) hx hb hts inlX5 hown hK hP 16 gC_16 rfl 7 (by decide) (hts _ mw_76) (fun _ h9 => h9) rfl dX5_swap_1 ?_
  refine lv_astore_n (lv' := [(1, .ref (a (kx σ))), (0, .ref (a 16))]) hx hb dX5_swap_4 rfl hl (by decide) rfl (fun ls hl => ?_)
  refine lv_aload_n hx hb dX5_swap_5 rfl (lv_at hl 1 rfl) ?_
  refine lv_aload_n hx hb dX5_swap_6 rfl (lv_at hl 1 rfl) ?_
  refine va_get (D := D) (ci := 5) (v := .ref (a (ky σ))) (C := RX5) (T := TX5) (N := 11) hx hb hts inlX5 hown hK hP 16 gC_16 rfl 8 (by decide) (hts _ mw_77) (fun _ h9 => h9) rfl dX5_swap_7 ?_
  refine va_put (D := D) (ci := 5) (v := .ref (a (ky σ))) (ty := .array .int) (C := RX5) (T := TX5) (N := 11) hx hb hts inlX5 tyX5 tyX5_ok nmX5 hown hK hP hD hS 16 gC_16 rfl 7 (by decide) (hts _ mw_76) (fun _ h9 => h9) rfl (by decide +kernel) rfl rfl (Nat.le_of_ble_eq_true rfl) dX5_swap_10 (fun H locs hP hD hS => ?_)
  refine lv_aload_n hx hb dX5_swap_13 rfl (lv_at hl 1 rfl) ?_
  refine lv_aload_n hx hb dX5_swap_14 rfl (lv_at hl 0 rfl) ?_
  refine va_put (D := D) (ci := 5) (v := .ref (a (kx σ))) (ty := .array .int) (C := RX5) (T := TX5) (N := 11) hx hb hts inlX5 tyX5 tyX5_ok nmX5 hown hK hP hD hS 16 rfl rfl 8 (by decide) (hts _ mw_77) (fun _ h9 => h9) rfl (by decide +kernel) rfl rfl (Nat.le_of_ble_eq_true rfl) dX5_swap_15 (fun H locs hP hD hS => ?_)
  rw [swp_w] at hP hD
  exact z_vret hx hb hr hlocks hK hP hD hS dX5_swap_18
