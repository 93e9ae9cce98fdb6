/-! THE CLAIM OUT OF ONE WALK OF THE LAW'S BODY. Your part is whole_start (and what it stands on); all else here is the same for every law, but numbers. -/
def R_law : String := "PlainAskLaw"
def lw_P (b : Addr) (xs : List Int32) (args : Array Value) (s : State) : Prop := args = #[.ref b] ∧ s.IntsAt b xs ∧ xs.length ≤ 3072 ∧ (Jvm.Cond.and given_1 narrow_1).before args s = true
def lw_Q (_ : Array Value) (s : State) (o : Outcome) (t : State) : Prop := o = .returned (some (.int 1)) ∧ Framed s o t [] 62 102551
def lw_Z (below : List Frame) (a : Array Value) (s : State) : State → Prop := fun t => ∃ o, t.status = .running ∧ Ended t below o ∧ lw_Q a s o t
/-- the law's own end, with 1 on the stack, nothing written that was there before, its room as the claim has it -/
theorem lw_ret {p : Program} {l : Launch} {e : Env} {s : State} {m : MethodId} {below : List Frame} {meth : Method} {c : Code} {b : Nat} (hx : p.tables.exec = Jvm.exec) (hb : c.code = code) (hr : meth.sig.returnType = ret) (hlocks : meth.locks = false) {pc : Nat} {H : Heap} {ls : Array Slot} (hdg : decode code pc = .ok (.ireturn, 1)) : W p l e room_1 s m #[Value.ref b] below meth c H [] 62 102551 (lw_Z below #[Value.ref b] s) (F0 m pc ls [.int 1]) := by
  intro T hT X
  obtain ⟨fs, hret, hrun, hended, hW, hframe⟩ := X.leave (v := some (.int 1)) (hlocks := hlocks) (fun h => by rw [hr] at h; cases h)
  have hmeth' : T.vm.method? m = some meth := X.method'
  refine ⟨T.setFrames fs, ?_, .returned (some (.int 1)), hrun, hended, rfl, ⟨_, rfl⟩, hW, hframe⟩
  jvm_step X.here [X.here.top, hx, hb, hdg, hmeth', hr, ret, narrow_b1]
  (try refine ⟨rfl, ?_⟩); (try refine ⟨rfl, ?_⟩)
  first | (intro acts; rw [hret _ acts rfl rfl rfl]) | rw [hret _ _ rfl rfl rfl]
  exact Steps.refl _
/-- what holds at the law's entry: the machine, the code, the tables' words (any of lw_tbl by 'hts w (by decide +kernel)'), the script of L ints xs at the cell b, what the Statement gives of the start (any of its parts by flat_of_before) -/
def lw_At (p : Program) (s : State) (m : MethodId) (meth : Method) (c : Code) (b L : Nat) (xs : Nat → Int32) : Prop :=
  p.tables.exec = Jvm.exec ∧ c.code = code ∧ meth.sig.returnType = ret ∧ c.maxLocals = 4 ∧ s.vm.findClass R_law = some m.cls ∧ (∀ w ∈ lw_tbl, w.before #[Value.ref b] s = true) ∧ va_X b L xs s s.heap ∧ b < s.heap.size ∧ meth.locks = false ∧ (Jvm.Cond.and given_1 narrow_1).before #[Value.ref b] s = true
def m0C : Mem := fun k => match k with
  | 4 => fun j => if j < 16 then (-1 : Int32) else 0
  | 5 => fun j => if j < 320 then (-1000000 : Int32) else 0
  | 28 => fun j => if j < 288 then (-1 : Int32) else 0
  | _ => fun _ => 0
def m0M : Mem := fun _ _ => 0
theorem kx0 : kx m0C = 25 := by decide
theorem ky0 : ky m0C = 26 := by decide
theorem w0C {cyI cyZ : ClassId} {a : Nat → Nat} : wC cyI cyZ a m0C = [(a 0, .inr (8, [.ref (a 1), .ref (a 6), .ref (a 13), .ref (a 16), .ref (a 27), .ref (a 29)])), (a 1, .inr (6, [.int 0, .ref (a 2), .ref (a 3), .ref (a 4), .ref (a 5)])), (a 2, .inl (cyI, 4, .inl (fun _ => 0))), (a 3, .inl (cyI, 4, .inl (fun _ => 0))), (a 4, .inl (cyI, 16, .inl (fun j => if j < 16 then (-1 : Int32) else 0))), (a 5, .inl (cyI, 320, .inl (fun j => if j < 320 then (-1000000 : Int32) else 0))), (a 6, .inr (7, [.int 0, .ref (a 7), .ref (a 8), .ref (a 9), .ref (a 10), .ref (a 11), .ref (a 12)])), (a 7, .inl (cyI, 40, .inl (fun _ => 0))), (a 8, .inl (cyI, 120, .inl (fun _ => 0))), (a 9, .inl (cyI, 120, .inl (fun _ => 0))), (a 10, .inl (cyI, 120, .inl (fun _ => 0))), (a 11, .inl (cyI, 120, .inl (fun _ => 0))), (a 12, .inl (cyI, 120, .inl (fun _ => 0))), (a 13, .inr (3, [.int 0, .ref (a 14), .ref (a 15)])), (a 14, .inl (cyZ, 8, .inl (fun _ => 0))), (a 15, .inl (cyI, 8, .inl (fun _ => 0))), (a 16, .inr (5, [.ref (a 1), .ref (a 6), .ref (a 13), .ref (a 17), .ref (a 23), .ref (a 24), .ref (a 34), .ref (a 25), .ref (a 26), .int 0, .int 0])), (a 17, .inr (2, [.int 0, .int 0, .int 0, .int 0, .int 0, .int 0, .int 0, .int 0, .ref (a 18), .ref (a 19), .ref (a 20), .ref (a 21), .ref (a 22)])), (a 18, .inl (cyI, 8, .inl (fun _ => 0))), (a 19, .inl (cyI, 8, .inl (fun _ => 0))), (a 20, .inl (cyI, 8, .inl (fun _ => 0))), (a 21, .inl (cyI, 8, .inl (fun _ => 0))), (a 22, .inl (cyI, 8, .inl (fun _ => 0))), (a 23, .inl (cyI, 794, .inl (fun _ => 0))), (a 24, .inl (cyI, 9, .inl (fun _ => 0))), (a 25, .inl (cyI, 6561, .inl (fun _ => 0))), (a 26, .inl (cyI, 6561, .inl (fun _ => 0))), (a 27, .inr (1, [.ref (a 1), .ref (a 28)])), (a 28, .inl (cyI, 288, .inl (fun j => if j < 288 then (-1 : Int32) else 0))), (a 29, .inr (0, [.ref (a 13), .ref (a 16), .ref (a 27), .ref (a 30), .ref (a 33), .int 0])), (a 30, .inr (4, [.ref (a 31), .ref (a 32), .int 0, .int 0])), (a 31, .inl (cyI, 8192, .inl (fun _ => 0))), (a 32, .inl (cyI, 8192, .inl (fun _ => 0))), (a 33, .inl (cyI, 6561, .inl (fun _ => 0))), (a 34, .inl (cyI, 9, .inl (fun _ => 0)))] := by
  have h : m0C 16 10 = 0 := rfl
  simp only [wC, kx0, ky0, h, if_true]
  rfl
theorem w0M {cyI cyZ : ClassId} {a : Nat → Nat} : wM cyI cyZ a m0M = [(a 0, .inr (9, [.ref (a 1), .ref (a 2), .ref (a 3), .ref (a 4), .int 0, .ref (a 5), .ref (a 6), .ref (a 7), .ref (a 8), .ref (a 9), .ref (a 10), .ref (a 11), .ref (a 12), .int 0, .ref (a 13), .ref (a 14), .ref (a 15), .ref (a 16), .ref (a 17), .ref (a 18), .ref (a 19), .ref (a 20), .int 0, .ref (a 21), .int 0, .int 0, .int 0, .int 0, .ref (a 22), .ref (a 23), .ref (a 24), .ref (a 25), .int 0, .ref (a 26)])), (a 1, .inl (cyI, 4, .inl (fun _ => 0))), (a 2, .inl (cyI, 4, .inl (fun _ => 0))), (a 3, .inl (cyI, 320, .inl (fun _ => 0))), (a 4, .inl (cyI, 16, .inl (fun _ => 0))), (a 5, .inl (cyI, 40, .inl (fun _ => 0))), (a 6, .inl (cyI, 120, .inl (fun _ => 0))), (a 7, .inl (cyI, 120, .inl (fun _ => 0))), (a 8, .inl (cyI, 120, .inl (fun _ => 0))), (a 9, .inl (cyI, 120, .inl (fun _ => 0))), (a 10, .inl (cyI, 120, .inl (fun _ => 0))), (a 11, .inl (cyI, 8, .inl (fun _ => 0))), (a 12, .inl (cyZ, 8, .inl (fun _ => 0))), (a 13, .inl (cyI, 6561, .inl (fun _ => 0))), (a 14, .inl (cyI, 6561, .inl (fun _ => 0))), (a 15, .inl (cyI, 6561, .inl (fun _ => 0))), (a 16, .inl (cyI, 6561, .inl (fun _ => 0))), (a 17, .inl (cyI, 902, .inl (fun _ => 0))), (a 18, .inl (cyI, 16384, .inl (fun _ => 0))), (a 19, .inl (cyI, 6561, .inl (fun _ => 0))), (a 20, .inl (cyZ, 6561, .inl (fun _ => 0))), (a 21, .inl (cyI, 8, .inl (fun _ => 0))), (a 22, .inl (cyI, 8, .inl (fun _ => 0))), (a 23, .inl (cyI, 8, .inl (fun _ => 0))), (a 24, .inl (cyI, 8, .inl (fun _ => 0))), (a 25, .inl (cyI, 8, .inl (fun _ => 0))), (a 26, .inl (cyI, 6561, .inl (fun _ => 0)))] := rfl
theorem lp_le {n L : Nat} (hL : L ≤ 3072) (hn : n ≤ 512) (h : ¬ nI L - 6 < nI (6 * n)) : 6 * n + 6 ≤ L := by
  rcases Nat.lt_or_ge L (6 * n + 6) with h1 | h1
  · exfalso
    apply h
    have e6 : (6 : Int32) = nI 6 := rfl
    rw [e6, Int32.lt_iff_toInt_lt, pk_sub_toInt (by omega) (by omega), nI_toInt (by omega)]
    omega
  · exact h1
section
variable {p : Program} {l : Launch} {e : Env} {s : State} {m : MethodId} {below : List Frame} {meth : Method} {c : Code} {D : va_G} {cyI cyZ : ClassId} {a a2 : Nat → Nat} {b L : Nat} {xs : Nat → Int32} {REL : Nat → Mem → Mem → Prop}
set_option maxHeartbeats 4000000 in
set_option maxRecDepth 100000 in
theorem law_loop (C0 : LX p s m c b L xs D cyI cyZ) (hr : meth.sig.returnType = ret) (hlocks : meth.locks = false) (ho_table : Ok_table REL) (ho_row : Ok_row REL) (ho_put : Ok_put REL) (ho_value : Ok_value REL) (ho_link : Ok_link REL) (ho_mean : Ok_mean REL) (ho_cost : Ok_cost REL) (ho_forget : Ok_forget REL) (ho_word : Ok_word REL) (ho_number : Ok_number REL) (ho_clear : Ok_clear REL) (ho_readings : Ok_readings REL) (ho_reading : Ok_reading REL) (ho_test : Ok_test REL) (ho_answer : Ok_answer REL) (ho_found : Ok_found REL) (ho_answers : Ok_answers REL) (ho_back : Ok_back REL) (ho_agree : Ok_agree REL) (ho_take : Ok_take REL) (ho_why : Ok_why REL) (ho_count : Ok_count REL) (hmono : ∀ (n : Nat) (σ τ : Mem), n < 512 → REL n σ τ → REL (n + 1) σ τ) (hL : L ≤ 3072) : ∀ (k n : Nat), n + k = 512 → ∀ (σ τ : Mem) (ls : Array Slot) (H : Heap) (locs : List Loc), REL n σ τ → lv_has ls 4 [(0, .ref b), (1, .ref (a 0)), (2, .ref (a2 0)), (3, .int (nI (6 * n)))] → va_P D vwCl (wC cyI cyZ a σ ++ wM cyI cyZ a2 τ) H → va_D (fun q : Nat => s.heap.size ≤ q) (wC cyI cyZ a σ ++ wM cyI cyZ a2 τ) → va_S (fun q : Nat => s.heap.size ≤ q) s.heap H locs → W p l e room_1 s m #[Value.ref b] below meth c H locs 62 102551 (lw_Z below #[Value.ref b] s) (F0 m 18 ls []) := by
  obtain ⟨hx, hb, hml, hown, hts, hX, hbl, hK, hN⟩ := id C0
  have hbA : ¬ (fun q : Nat => s.heap.size ≤ q) b := Nat.not_le.mpr hbl
  intro k
  induction k with
  | zero =>
    intro n hk σ τ ls H locs hrel hl hP hD hS
    refine lv_iload_n hx hb dL_law_18 rfl (lv_at hl 3 rfl) ?_
    refine lv_aload_n hx hb dL_law_19 rfl (lv_at hl 0 rfl) ?_
    refine va_slen hx hb hX hbl hbA hS dL_law_20 ?_
    refine lv_bipush (v := (6 : Int32)) hx hb dL_law_21 (by decide) ?_
    refine lv_isub hx hb dL_law_23 ?_
    refine lv_icmp_gt (tgt := 808) hx hb dL_law_24 (by decide) (fun c1 => ?_) (fun c1 => absurd (lp_le hL (by omega) c1) (by omega))
    refine lv_iconst (v := 1) hx hb dL_law_808 (by decide) ?_
    refine va_forget (fun q hq => hS.2.2 q hq) ?_
    exact lw_ret hx hb hr hlocks dL_law_809
  | succ k ih =>
    intro n hk σ τ ls H locs hrel hl hP hD hS
    refine lv_iload_n hx hb dL_law_18 rfl (lv_at hl 3 rfl) ?_
    refine lv_aload_n hx hb dL_law_19 rfl (lv_at hl 0 rfl) ?_
    refine va_slen hx hb hX hbl hbA hS dL_law_20 ?_
    refine lv_bipush (v := (6 : Int32)) hx hb dL_law_21 (by decide) ?_
    refine lv_isub hx hb dL_law_23 ?_
    refine lv_icmp_gt (tgt := 808) hx hb dL_law_24 (by decide) (fun c1 => ?_) (fun c1 => ?_)
    · refine lv_iconst (v := 1) hx hb dL_law_808 (by decide) ?_
      refine va_forget (fun q hq => hS.2.2 q hq) ?_
      exact lw_ret hx hb hr hlocks dL_law_809
    · have h6 := lp_le hL (by omega) c1
      refine lv_aload_n hx hb dL_law_27 rfl (lv_at hl 0 rfl) ?_
      refine lv_iload_n hx hb dL_law_28 rfl (lv_at hl 3 rfl) ?_
      refine va_sld hx hb hX hbl hbA hS (i := nI (6 * n)) (vp_in_nI (by omega) (by omega)) dL_law_29 ?_
      refine lv_bipush (v := (31 : Int32)) hx hb dL_law_30 (by decide) ?_
      refine lv_iand hx hb dL_law_32 ?_
      refine law_switch C0 ho_table ho_row ho_put ho_value ho_link ho_mean ho_cost ho_forget ho_word ho_number ho_clear ho_readings ho_reading ho_test ho_answer ho_found ho_answers ho_back ho_agree ho_take ho_why ho_count hmono (by omega) h6 hL hrel hl hP hD hS (fun σ τ H locs hrel hP hD hS => ?_) _
      refine lv_iinc (v := nI (6 * (n + 1))) (lv' := [(3, .int (nI (6 * (n + 1)))), (0, .ref b), (1, .ref (a 0)), (2, .ref (a2 0))]) hx hb dL_law_802 hl (k := 3) rfl ?_ (by decide) rfl (fun ls hl => ?_)
      · show nI (6 * n) + (6 : Int32) = nI (6 * (n + 1))
        have e6 : (6 : Int32) = nI 6 := rfl
        rw [e6, nI_add]
        congr 1
      refine lv_goto (tgt := 18) hx hb dL_law_805 (by decide) ?_
      exact ih (n + 1) (by omega) σ τ ls H locs hrel (lv_sub hl [1, 2, 3, 0] rfl) hP hD hS
end
set_option maxHeartbeats 4000000 in
set_option maxRecDepth 100000 in
theorem whole_open {p : Program} {e : Env} {s : State} {m : MethodId} {below : List Frame} {meth : Method} {c : Code} {REL : Nat → Mem → Mem → Prop} (ho_table : Ok_table REL) (ho_row : Ok_row REL) (ho_put : Ok_put REL) (ho_value : Ok_value REL) (ho_link : Ok_link REL) (ho_mean : Ok_mean REL) (ho_cost : Ok_cost REL) (ho_forget : Ok_forget REL) (ho_word : Ok_word REL) (ho_number : Ok_number REL) (ho_clear : Ok_clear REL) (ho_readings : Ok_readings REL) (ho_reading : Ok_reading REL) (ho_test : Ok_test REL) (ho_answer : Ok_answer REL) (ho_found : Ok_found REL) (ho_answers : Ok_answers REL) (ho_back : Ok_back REL) (ho_agree : Ok_agree REL) (ho_take : Ok_take REL) (ho_why : Ok_why REL) (ho_count : Ok_count REL) (hmono : ∀ (n : Nat) (σ τ : Mem), n < 512 → REL n σ τ → REL (n + 1) σ τ) (hrel0 : REL 0 m0C m0M) (l : Launch) {b L : Nat} {xs : Nat → Int32} (hL : L ≤ 3072) (C0 : lw_At p s m meth c b L xs) : W p l e room_1 s m #[Value.ref b] below meth c s.heap [] 0 0 (lw_Z below #[Value.ref b] s) (entryFrame m ([Value.ref b] : List Value).toArray 4) := by
  obtain ⟨hx, hb, hr, hml, hown, hts0, hX, hbl, hlocks, hgv⟩ := id C0
  have hts : ∀ w ∈ wsL_law, w.before #[Value.ref b] s = true := fun w h => hts0 w (wsL_law_in w h)
  have hown : s.vm.findClass RL = some m.cls := hown
  have hA : ∀ q : Nat, s.heap.size ≤ q → (fun q : Nat => s.heap.size ≤ q) q := fun _ h => h
  have hbA : ¬ (fun q : Nat => s.heap.size ≤ q) b := Nat.not_le.mpr hbl
  have hN : NW s := va_Nw.of rfl (hts0 (.methodLinkNest RX1 57 yX8_holdsBit "PlainAsk") (List.mem_append_right _ (List.mem_append_right _ (List.mem_append_right _ (List.mem_append_left _ (List.mem_of_getElem? (i := 173) rfl))))))
  have hI : NI s := ⟨va_Nw.of rfl (hts0 (.methodLinkNest RX8 18 yX7_init "PlainAsk") (List.mem_append_right _ (List.mem_append_left _ (List.mem_of_getElem? (i := 51) rfl)))), va_Nw.of rfl (hts0 (.methodLinkNest RX8 25 yX3_init "PlainAsk") (List.mem_append_right _ (List.mem_append_left _ (List.mem_of_getElem? (i := 79) rfl)))), va_Nw.of rfl (hts0 (.methodLinkNest RX5 13 yX2_init "PlainAsk") (List.mem_append_right _ (List.mem_append_left _ (List.mem_of_getElem? (i := 102) rfl)))), va_Nw.of rfl (hts0 (.methodLinkNest RX0 11 yX4_init "PlainAsk") (List.mem_append_right _ (List.mem_append_left _ (List.mem_of_getElem? (i := 202) rfl))))⟩
  obtain ⟨cyI, cyZ, hcI, hcZ⟩ := cy_of (hts _ mw_40) (hts _ mw_62)
  obtain ⟨c0, iS0, hKn0⟩ := u_known (C := RX0) (T := TX0) (N := 6) (n := 6) hts inlX0 (hts (.instantiable RX0 6) mw_33)
  obtain ⟨c1, iS1, hKn1⟩ := u_known (C := RX1) (T := TX1) (N := 2) (n := 2) hts inlX1 (hts (.instantiable RX1 2) mw_29)
  obtain ⟨c2, iS2, hKn2⟩ := u_known (C := RX2) (T := TX2) (N := 13) (n := 13) hts inlX2 (hts (.instantiable RX2 13) mw_70)
  obtain ⟨c3, iS3, hKn3⟩ := u_known (C := RX3) (T := TX3) (N := 3) (n := 3) hts inlX3 (hts (.instantiable RX3 3) mw_21)
  obtain ⟨c4, iS4, hKn4⟩ := u_known (C := RX4) (T := TX4) (N := 4) (n := 4) hts inlX4 (hts (.instantiable RX4 4) mw_101)
  obtain ⟨c5, iS5, hKn5⟩ := u_known (C := RX5) (T := TX5) (N := 11) (n := 11) hts inlX5 (hts (.instantiable RX5 11) mw_25)
  obtain ⟨c6, iS6, hKn6⟩ := u_known (C := RX6) (T := TX6) (N := 5) (n := 5) hts inlX6 (hts (.instantiable RX6 5) mw_13)
  obtain ⟨c7, iS7, hKn7⟩ := u_known (C := RX7) (T := TX7) (N := 7) (n := 7) hts inlX7 (hts (.instantiable RX7 7) mw_17)
  obtain ⟨c8, iS8, hKn8⟩ := u_known (C := RX8) (T := TX8) (N := 6) (n := 6) hts inlX8 (hts (.instantiable RX8 6) mw_1)
  obtain ⟨c9, iS9, hKn9⟩ := u_known (C := RX9) (T := TX9) (N := 34) (n := 34) hts inlX9 (hts (.instantiable RX9 34) mw_4)
  obtain ⟨dC, dI, hKc⟩ : ∃ (dC : Nat → ClassId) (dI : Nat → Nat → Nat), ∀ (k : Nat) (q : vw_C), vwCl[k]? = some q → u_Kn s q.1 q.2.1 q.2.2 (dC k) (dI k) := by
    refine ⟨fun k => if k = 0 then c0 else if k = 1 then c1 else if k = 2 then c2 else if k = 3 then c3 else if k = 4 then c4 else if k = 5 then c5 else if k = 6 then c6 else if k = 7 then c7 else if k = 8 then c8 else c9, fun k => if k = 0 then iS0 else if k = 1 then iS1 else if k = 2 then iS2 else if k = 3 then iS3 else if k = 4 then iS4 else if k = 5 then iS5 else if k = 6 then iS6 else if k = 7 then iS7 else if k = 8 then iS8 else iS9, ?_⟩
    intro k q hq
    match k, hq with
    | 0, hq => cases hq; exact hKn0
    | 1, hq => cases hq; exact hKn1
    | 2, hq => cases hq; exact hKn2
    | 3, hq => cases hq; exact hKn3
    | 4, hq => cases hq; exact hKn4
    | 5, hq => cases hq; exact hKn5
    | 6, hq => cases hq; exact hKn6
    | 7, hq => cases hq; exact hKn7
    | 8, hq => cases hq; exact hKn8
    | 9, hq => cases hq; exact hKn9
    | k + 10, hq => simp [vwCl] at hq
  have hK : va_K (dC, dI) vwCl (cyT cyI cyZ) s := ⟨hKc, fun k q h => by
    match k, h with
    | 0, h => cases h; exact hcI
    | 1, h => cases h; exact hcZ
    | k + 2, h => simp at h⟩
  have hS : va_S (fun q : Nat => s.heap.size ≤ q) s.heap s.heap [] := va_S.rf
  have hP : va_P (dC, dI) vwCl [] s.heap := fun k q h => by simp at h
  have hD : va_D (fun q : Nat => s.heap.size ≤ q) [] := ⟨fun i j p q h => by simp at h, fun k q h => by simp at h⟩
  generalize hDD : (dC, dI) = D at hK hP
  have hl := lv_entry ([.ref b]) (n := 4) (Nat.le_of_ble_eq_true rfl)
  rw [lg_entry_eq]
  generalize (lg_sl ([.ref b]) ++ List.replicate (4 - (lg_sl ([.ref b])).length) Slot.unset).toArray = ls at hl ⊢
  have hl : lv_has ls 4 [(0, .ref b)] := hl
  refine va_new (ci := 8) (fs := [.null, .null, .null, .null, .null, .null]) (C := RX8) (T := TX8) (N := 6) hx hb hts inlX8 tyX8 tyX8_ok hown (hts _ mw_0) (hts _ mw_1) (hts _ mw_2) hK hP hD hS hA rfl (fun j hj => by rcases (show j = 0 ∨ j = 1 ∨ j = 2 ∨ j = 3 ∨ j = 4 ∨ j = 5 by omega) with rfl | rfl | rfl | rfl | rfl | rfl <;> rfl) (Nat.le_of_ble_eq_true rfl) (Nat.le_of_ble_eq_true rfl) dL_law_0 (fun q0 H hP hD hS => ?_)
  have hP : va_P D vwCl [(q0, .inr (8, [.null, .null, .null, .null, .null, .null]))] H := hP
  have hD : va_D (fun q : Nat => s.heap.size ≤ q) [(q0, .inr (8, [.null, .null, .null, .null, .null, .null]))] := hD
  refine W.widen (k := 1) (n := 6) (Nat.le_of_ble_eq_true rfl) (Nat.le_of_ble_eq_true rfl) ?_
  refine lv_dup hx hb dL_law_3 rfl ?_
  have hFc := va_free (wc := [(q0, .inr (8, [.null, .null, .null, .null, .null, .null]))]) hD hS hA [0] rfl
  have hPc := hP.sub (ws' := [(q0, .inr (8, [.null, .null, .null, .null, .null, .null]))]) [0] rfl
  have hDc := hD.sub (ws' := [(q0, .inr (8, [.null, .null, .null, .null, .null, .null]))]) [0] (by decide) rfl
  refine va_callv (va_runI (As := []) (rest := [.ref q0]) ⟨hx, hb, hml, hown, hts⟩ (c_X8_init l D cyI cyZ q0 H.size) (cwI 0 hts (gd_C mw_8) rfl rfl rfl (hts _ mw_2) (hts _ mw_6) (hts _ mw_7) rfl (by decide +kernel) ⟨Nat.le_of_ble_eq_true rfl, Nat.le_of_ble_eq_true rfl⟩) ⟨NB.blind, fun U hU hW => ⟨rfl, by rw [hU], by rw [hU]; exact hPc, va_K.moved hW.alike hK, hDc.weaken (fun _ _ _ _ => trivial), va_Nw.warmM hW hN, NI.warm hW hI⟩⟩ rfl rfl hl.1 rfl (lv_room (Nat.le_of_ble_eq_true rfl)) dL_law_4 ⟨Nat.le_of_ble_eq_true rfl, Nat.le_of_ble_eq_true rfl⟩) hS (fun q _ h => hFc q h) hFc (fun u t H1 locs ht hvm hw hB hz1 hk1 hS => ?_)
  obtain ⟨hP1, hK1, hD1⟩ := hB
  rw [ht] at hP1
  obtain ⟨hP, hD⟩ := va_join (wr := []) (w1 := [(q0, .inr (8, [.ref (u 0), .ref (u 5), .ref (u 12), .ref (u 15), .ref (u 27), .ref (u 29)])), ((u 0), .inr (6, [.int 0, .ref (u 1), .ref (u 2), .ref (u 3), .ref (u 4)])), ((u 1), .inl (cyI, 4, .inl (fun _ => 0))), ((u 2), .inl (cyI, 4, .inl (fun _ => 0))), ((u 3), .inl (cyI, 16, .inl (fun j => if j < 16 then (-1 : Int32) else 0))), ((u 4), .inl (cyI, 320, .inl (fun j => if j < 320 then (-1000000 : Int32) else 0))), ((u 5), .inr (7, [.int 0, .ref (u 6), .ref (u 7), .ref (u 8), .ref (u 9), .ref (u 10), .ref (u 11)])), ((u 6), .inl (cyI, 40, .inl (fun _ => 0))), ((u 7), .inl (cyI, 120, .inl (fun _ => 0))), ((u 8), .inl (cyI, 120, .inl (fun _ => 0))), ((u 9), .inl (cyI, 120, .inl (fun _ => 0))), ((u 10), .inl (cyI, 120, .inl (fun _ => 0))), ((u 11), .inl (cyI, 120, .inl (fun _ => 0))), ((u 12), .inr (3, [.int 0, .ref (u 13), .ref (u 14)])), ((u 13), .inl (cyZ, 8, .inl (fun _ => 0))), ((u 14), .inl (cyI, 8, .inl (fun _ => 0))), ((u 15), .inr (5, [.ref (u 0), .ref (u 5), .ref (u 12), .ref (u 16), .ref (u 22), .ref (u 23), .ref (u 24), .ref (u 25), .ref (u 26), .int 0, .int 0])), ((u 16), .inr (2, [.int 0, .int 0, .int 0, .int 0, .int 0, .int 0, .int 0, .int 0, .ref (u 17), .ref (u 18), .ref (u 19), .ref (u 20), .ref (u 21)])), ((u 17), .inl (cyI, 8, .inl (fun _ => 0))), ((u 18), .inl (cyI, 8, .inl (fun _ => 0))), ((u 19), .inl (cyI, 8, .inl (fun _ => 0))), ((u 20), .inl (cyI, 8, .inl (fun _ => 0))), ((u 21), .inl (cyI, 8, .inl (fun _ => 0))), ((u 22), .inl (cyI, 794, .inl (fun _ => 0))), ((u 23), .inl (cyI, 9, .inl (fun _ => 0))), ((u 24), .inl (cyI, 9, .inl (fun _ => 0))), ((u 25), .inl (cyI, 6561, .inl (fun _ => 0))), ((u 26), .inl (cyI, 6561, .inl (fun _ => 0))), ((u 27), .inr (1, [.ref (u 0), .ref (u 28)])), ((u 28), .inl (cyI, 288, .inl (fun j => if j < 288 then (-1 : Int32) else 0))), ((u 29), .inr (0, [.ref (u 12), .ref (u 15), .ref (u 27), .ref (u 30), .ref (u 33), .int 0])), ((u 30), .inr (4, [.ref (u 31), .ref (u 32), .int 0, .int 0])), ((u 31), .inl (cyI, 8192, .inl (fun _ => 0))), ((u 32), .inl (cyI, 8192, .inl (fun _ => 0))), ((u 33), .inl (cyI, 6561, .inl (fun _ => 0)))]) hP hD [0] [] rfl rfl (by decide) (by decide) hk1 hFc hP1 hD1
  generalize H1 = H at hP hS ⊢
  have hP : va_P D vwCl [(q0, .inr (8, [.ref (u 0), .ref (u 5), .ref (u 12), .ref (u 15), .ref (u 27), .ref (u 29)])), ((u 0), .inr (6, [.int 0, .ref (u 1), .ref (u 2), .ref (u 3), .ref (u 4)])), ((u 1), .inl (cyI, 4, .inl (fun _ => 0))), ((u 2), .inl (cyI, 4, .inl (fun _ => 0))), ((u 3), .inl (cyI, 16, .inl (fun j => if j < 16 then (-1 : Int32) else 0))), ((u 4), .inl (cyI, 320, .inl (fun j => if j < 320 then (-1000000 : Int32) else 0))), ((u 5), .inr (7, [.int 0, .ref (u 6), .ref (u 7), .ref (u 8), .ref (u 9), .ref (u 10), .ref (u 11)])), ((u 6), .inl (cyI, 40, .inl (fun _ => 0))), ((u 7), .inl (cyI, 120, .inl (fun _ => 0))), ((u 8), .inl (cyI, 120, .inl (fun _ => 0))), ((u 9), .inl (cyI, 120, .inl (fun _ => 0))), ((u 10), .inl (cyI, 120, .inl (fun _ => 0))), ((u 11), .inl (cyI, 120, .inl (fun _ => 0))), ((u 12), .inr (3, [.int 0, .ref (u 13), .ref (u 14)])), ((u 13), .inl (cyZ, 8, .inl (fun _ => 0))), ((u 14), .inl (cyI, 8, .inl (fun _ => 0))), ((u 15), .inr (5, [.ref (u 0), .ref (u 5), .ref (u 12), .ref (u 16), .ref (u 22), .ref (u 23), .ref (u 24), .ref (u 25), .ref (u 26), .int 0, .int 0])), ((u 16), .inr (2, [.int 0, .int 0, .int 0, .int 0, .int 0, .int 0, .int 0, .int 0, .ref (u 17), .ref (u 18), .ref (u 19), .ref (u 20), .ref (u 21)])), ((u 17), .inl (cyI, 8, .inl (fun _ => 0))), ((u 18), .inl (cyI, 8, .inl (fun _ => 0))), ((u 19), .inl (cyI, 8, .inl (fun _ => 0))), ((u 20), .inl (cyI, 8, .inl (fun _ => 0))), ((u 21), .inl (cyI, 8, .inl (fun _ => 0))), ((u 22), .inl (cyI, 794, .inl (fun _ => 0))), ((u 23), .inl (cyI, 9, .inl (fun _ => 0))), ((u 24), .inl (cyI, 9, .inl (fun _ => 0))), ((u 25), .inl (cyI, 6561, .inl (fun _ => 0))), ((u 26), .inl (cyI, 6561, .inl (fun _ => 0))), ((u 27), .inr (1, [.ref (u 0), .ref (u 28)])), ((u 28), .inl (cyI, 288, .inl (fun j => if j < 288 then (-1 : Int32) else 0))), ((u 29), .inr (0, [.ref (u 12), .ref (u 15), .ref (u 27), .ref (u 30), .ref (u 33), .int 0])), ((u 30), .inr (4, [.ref (u 31), .ref (u 32), .int 0, .int 0])), ((u 31), .inl (cyI, 8192, .inl (fun _ => 0))), ((u 32), .inl (cyI, 8192, .inl (fun _ => 0))), ((u 33), .inl (cyI, 6561, .inl (fun _ => 0)))] H := hP
  have hD : va_D (fun q : Nat => s.heap.size ≤ q) [(q0, .inr (8, [.ref (u 0), .ref (u 5), .ref (u 12), .ref (u 15), .ref (u 27), .ref (u 29)])), ((u 0), .inr (6, [.int 0, .ref (u 1), .ref (u 2), .ref (u 3), .ref (u 4)])), ((u 1), .inl (cyI, 4, .inl (fun _ => 0))), ((u 2), .inl (cyI, 4, .inl (fun _ => 0))), ((u 3), .inl (cyI, 16, .inl (fun j => if j < 16 then (-1 : Int32) else 0))), ((u 4), .inl (cyI, 320, .inl (fun j => if j < 320 then (-1000000 : Int32) else 0))), ((u 5), .inr (7, [.int 0, .ref (u 6), .ref (u 7), .ref (u 8), .ref (u 9), .ref (u 10), .ref (u 11)])), ((u 6), .inl (cyI, 40, .inl (fun _ => 0))), ((u 7), .inl (cyI, 120, .inl (fun _ => 0))), ((u 8), .inl (cyI, 120, .inl (fun _ => 0))), ((u 9), .inl (cyI, 120, .inl (fun _ => 0))), ((u 10), .inl (cyI, 120, .inl (fun _ => 0))), ((u 11), .inl (cyI, 120, .inl (fun _ => 0))), ((u 12), .inr (3, [.int 0, .ref (u 13), .ref (u 14)])), ((u 13), .inl (cyZ, 8, .inl (fun _ => 0))), ((u 14), .inl (cyI, 8, .inl (fun _ => 0))), ((u 15), .inr (5, [.ref (u 0), .ref (u 5), .ref (u 12), .ref (u 16), .ref (u 22), .ref (u 23), .ref (u 24), .ref (u 25), .ref (u 26), .int 0, .int 0])), ((u 16), .inr (2, [.int 0, .int 0, .int 0, .int 0, .int 0, .int 0, .int 0, .int 0, .ref (u 17), .ref (u 18), .ref (u 19), .ref (u 20), .ref (u 21)])), ((u 17), .inl (cyI, 8, .inl (fun _ => 0))), ((u 18), .inl (cyI, 8, .inl (fun _ => 0))), ((u 19), .inl (cyI, 8, .inl (fun _ => 0))), ((u 20), .inl (cyI, 8, .inl (fun _ => 0))), ((u 21), .inl (cyI, 8, .inl (fun _ => 0))), ((u 22), .inl (cyI, 794, .inl (fun _ => 0))), ((u 23), .inl (cyI, 9, .inl (fun _ => 0))), ((u 24), .inl (cyI, 9, .inl (fun _ => 0))), ((u 25), .inl (cyI, 6561, .inl (fun _ => 0))), ((u 26), .inl (cyI, 6561, .inl (fun _ => 0))), ((u 27), .inr (1, [.ref (u 0), .ref (u 28)])), ((u 28), .inl (cyI, 288, .inl (fun j => if j < 288 then (-1 : Int32) else 0))), ((u 29), .inr (0, [.ref (u 12), .ref (u 15), .ref (u 27), .ref (u 30), .ref (u 33), .int 0])), ((u 30), .inr (4, [.ref (u 31), .ref (u 32), .int 0, .int 0])), ((u 31), .inl (cyI, 8192, .inl (fun _ => 0))), ((u 32), .inl (cyI, 8192, .inl (fun _ => 0))), ((u 33), .inl (cyI, 6561, .inl (fun _ => 0)))] := hD
  obtain ⟨a, ha0, hP, hD⟩ : ∃ a : Nat → Nat, a 0 = q0 ∧ va_P D vwCl (wC cyI cyZ a m0C) H ∧ va_D (fun q : Nat => s.heap.size ≤ q) (wC cyI cyZ a m0C) := by
    refine ⟨(fun k => match k with | 0 => q0 | 1 => (u 0) | 2 => (u 1) | 3 => (u 2) | 4 => (u 3) | 5 => (u 4) | 6 => (u 5) | 7 => (u 6) | 8 => (u 7) | 9 => (u 8) | 10 => (u 9) | 11 => (u 10) | 12 => (u 11) | 13 => (u 12) | 14 => (u 13) | 15 => (u 14) | 16 => (u 15) | 17 => (u 16) | 18 => (u 17) | 19 => (u 18) | 20 => (u 19) | 21 => (u 20) | 22 => (u 21) | 23 => (u 22) | 24 => (u 23) | 25 => (u 25) | 26 => (u 26) | 27 => (u 27) | 28 => (u 28) | 29 => (u 29) | 30 => (u 30) | 31 => (u 31) | 32 => (u 32) | 33 => (u 33) | _ => (u 24)), rfl, ?_, ?_⟩
    · rw [w0C]; exact hP.sub [0, 1, 2, 3, 4, 5, 6, 7, 8, 9, 10, 11, 12, 13, 14, 15, 16, 17, 18, 19, 20, 21, 22, 23, 24, 26, 27, 28, 29, 30, 31, 32, 33, 34, 25] rfl
    · rw [w0C]; exact hD.sub [0, 1, 2, 3, 4, 5, 6, 7, 8, 9, 10, 11, 12, 13, 14, 15, 16, 17, 18, 19, 20, 21, 22, 23, 24, 26, 27, 28, 29, 30, 31, 32, 33, 34, 25] (by decide) rfl
  refine W.widen (k := 35) (n := 38264) (Nat.le_of_ble_eq_true rfl) (Nat.le_of_ble_eq_true rfl) ?_
  rw [← ha0]
  refine lv_astore_n (lv' := [(1, .ref (a 0)), (0, .ref b)]) hx hb dL_law_7 rfl hl (by decide) rfl (fun ls hl => ?_)
  refine va_new (ci := 9) (fs := [.null, .null, .null, .null, .int 0, .null, .null, .null, .null, .null, .null, .null, .null, .int 0, .null, .null, .null, .null, .null, .null, .null, .null, .int 0, .null, .int 0, .int 0, .int 0, .int 0, .null, .null, .null, .null, .int 0, .null]) (C := RX9) (T := TX9) (N := 34) hx hb hts inlX9 tyX9 tyX9_ok hown (hts _ mw_3) (hts _ mw_4) (hts _ mw_5) hK hP hD hS hA rfl (fun j hj => by rcases (show j = 0 ∨ j = 1 ∨ j = 2 ∨ j = 3 ∨ j = 4 ∨ j = 5 ∨ j = 6 ∨ j = 7 ∨ j = 8 ∨ j = 9 ∨ j = 10 ∨ j = 11 ∨ j = 12 ∨ j = 13 ∨ j = 14 ∨ j = 15 ∨ j = 16 ∨ j = 17 ∨ j = 18 ∨ j = 19 ∨ j = 20 ∨ j = 21 ∨ j = 22 ∨ j = 23 ∨ j = 24 ∨ j = 25 ∨ j = 26 ∨ j = 27 ∨ j = 28 ∨ j = 29 ∨ j = 30 ∨ j = 31 ∨ j = 32 ∨ j = 33 by omega) with rfl | rfl | rfl | rfl | rfl | rfl | rfl | rfl | rfl | rfl | rfl | rfl | rfl | rfl | rfl | rfl | rfl | rfl | rfl | rfl | rfl | rfl | rfl | rfl | rfl | rfl | rfl | rfl | rfl | rfl | rfl | rfl | rfl | rfl <;> rfl) (Nat.le_of_ble_eq_true rfl) (Nat.le_of_ble_eq_true rfl) dL_law_8 (fun q2 H hP hD hS => ?_)
  refine W.widen (k := 36) (n := 38298) (Nat.le_of_ble_eq_true rfl) (Nat.le_of_ble_eq_true rfl) ?_
  refine lv_dup hx hb dL_law_11 rfl ?_
  have hFc := va_free (wc := [(q2, .inr (9, [.null, .null, .null, .null, .int 0, .null, .null, .null, .null, .null, .null, .null, .null, .int 0, .null, .null, .null, .null, .null, .null, .null, .null, .int 0, .null, .int 0, .int 0, .int 0, .int 0, .null, .null, .null, .null, .int 0, .null]))]) hD hS hA [35] rfl
  have hPc := hP.sub (ws' := [(q2, .inr (9, [.null, .null, .null, .null, .int 0, .null, .null, .null, .null, .null, .null, .null, .null, .int 0, .null, .null, .null, .null, .null, .null, .null, .null, .int 0, .null, .int 0, .int 0, .int 0, .int 0, .null, .null, .null, .null, .int 0, .null]))]) [35] rfl
  have hDc := hD.sub (ws' := [(q2, .inr (9, [.null, .null, .null, .null, .int 0, .null, .null, .null, .null, .null, .null, .null, .null, .int 0, .null, .null, .null, .null, .null, .null, .null, .null, .int 0, .null, .int 0, .int 0, .int 0, .int 0, .null, .null, .null, .null, .int 0, .null]))]) [35] (by decide) rfl
  refine va_callv (va_runI (As := []) (rest := [.ref q2]) ⟨hx, hb, hml, hown, hts⟩ (c_X9_init l D cyI cyZ q2 H.size) (cwI 0 hts (gd_C mw_115) rfl rfl rfl (hts _ mw_5) (hts _ mw_113) (hts _ mw_114) rfl (by decide +kernel) ⟨Nat.le_of_ble_eq_true rfl, Nat.le_of_ble_eq_true rfl⟩) ⟨NB.blind, fun U hU hW => ⟨rfl, by rw [hU], by rw [hU]; exact hPc, va_K.moved hW.alike hK, hDc.weaken (fun _ _ _ _ => trivial), va_Nw.warmM hW hN, NI.warm hW hI⟩⟩ rfl rfl hl.1 rfl (lv_room (Nat.le_of_ble_eq_true rfl)) dL_law_12 ⟨Nat.le_of_ble_eq_true rfl, Nat.le_of_ble_eq_true rfl⟩) hS (fun q _ h => hFc q h) hFc (fun u2 t H1 locs ht hvm hw hB hz1 hk1 hS => ?_)
  obtain ⟨hP1, hK1, hD1⟩ := hB
  rw [ht] at hP1
  obtain ⟨hP, hD⟩ := va_join (wr := wC cyI cyZ a m0C) (w1 := [(q2, .inr (9, [.ref (u2 0), .ref (u2 1), .ref (u2 2), .ref (u2 3), .int 0, .ref (u2 4), .ref (u2 5), .ref (u2 6), .ref (u2 7), .ref (u2 8), .ref (u2 9), .ref (u2 10), .ref (u2 11), .int 0, .ref (u2 12), .ref (u2 13), .ref (u2 14), .ref (u2 15), .ref (u2 16), .ref (u2 17), .ref (u2 18), .ref (u2 19), .int 0, .ref (u2 20), .int 0, .int 0, .int 0, .int 0, .ref (u2 21), .ref (u2 22), .ref (u2 23), .ref (u2 24), .int 0, .ref (u2 25)])), ((u2 0), .inl (cyI, 4, .inl (fun _ => 0))), ((u2 1), .inl (cyI, 4, .inl (fun _ => 0))), ((u2 2), .inl (cyI, 320, .inl (fun _ => 0))), ((u2 3), .inl (cyI, 16, .inl (fun _ => 0))), ((u2 4), .inl (cyI, 40, .inl (fun _ => 0))), ((u2 5), .inl (cyI, 120, .inl (fun _ => 0))), ((u2 6), .inl (cyI, 120, .inl (fun _ => 0))), ((u2 7), .inl (cyI, 120, .inl (fun _ => 0))), ((u2 8), .inl (cyI, 120, .inl (fun _ => 0))), ((u2 9), .inl (cyI, 120, .inl (fun _ => 0))), ((u2 10), .inl (cyI, 8, .inl (fun _ => 0))), ((u2 11), .inl (cyZ, 8, .inl (fun _ => 0))), ((u2 12), .inl (cyI, 6561, .inl (fun _ => 0))), ((u2 13), .inl (cyI, 6561, .inl (fun _ => 0))), ((u2 14), .inl (cyI, 6561, .inl (fun _ => 0))), ((u2 15), .inl (cyI, 6561, .inl (fun _ => 0))), ((u2 16), .inl (cyI, 902, .inl (fun _ => 0))), ((u2 17), .inl (cyI, 16384, .inl (fun _ => 0))), ((u2 18), .inl (cyI, 6561, .inl (fun _ => 0))), ((u2 19), .inl (cyZ, 6561, .inl (fun _ => 0))), ((u2 20), .inl (cyI, 8, .inl (fun _ => 0))), ((u2 21), .inl (cyI, 8, .inl (fun _ => 0))), ((u2 22), .inl (cyI, 8, .inl (fun _ => 0))), ((u2 23), .inl (cyI, 8, .inl (fun _ => 0))), ((u2 24), .inl (cyI, 8, .inl (fun _ => 0))), ((u2 25), .inl (cyI, 6561, .inl (fun _ => 0)))]) hP hD [35] [0, 1, 2, 3, 4, 5, 6, 7, 8, 9, 10, 11, 12, 13, 14, 15, 16, 17, 18, 19, 20, 21, 22, 23, 24, 25, 26, 27, 28, 29, 30, 31, 32, 33, 34] rfl rfl (by decide) (by decide) hk1 hFc hP1 hD1
  generalize H1 = H at hP hS ⊢
  obtain ⟨a2, ha2, hP, hD⟩ : ∃ a2 : Nat → Nat, a2 0 = q2 ∧ va_P D vwCl (wC cyI cyZ a m0C ++ wM cyI cyZ a2 m0M) H ∧ va_D (fun q : Nat => s.heap.size ≤ q) (wC cyI cyZ a m0C ++ wM cyI cyZ a2 m0M) := by
    refine ⟨fun k => match k with | 0 => q2 | k + 1 => u2 k, rfl, ?_, ?_⟩
    · rw [w0M]; exact hP
    · rw [w0M]; exact hD
  refine W.widen (k := 62) (n := 102551) (Nat.le_of_ble_eq_true rfl) (Nat.le_of_ble_eq_true rfl) ?_
  rw [← ha2]
  refine lv_astore_n (lv' := [(2, .ref (a2 0)), (1, .ref (a 0)), (0, .ref b)]) hx hb dL_law_15 rfl hl (by decide) rfl (fun ls hl => ?_)
  refine lv_iconst (v := (0 : Int32)) hx hb dL_law_16 (by decide) ?_
  refine lv_istore_n (lv' := [(3, .int (nI (6 * 0))), (2, .ref (a2 0)), (1, .ref (a 0)), (0, .ref b)]) hx hb dL_law_17 rfl hl (by decide) rfl (fun ls hl => ?_)
  exact law_loop ⟨hx, hb, hml, hown, hts, hX, hbl, hK, hN⟩ hr hlocks ho_table ho_row ho_put ho_value ho_link ho_mean ho_cost ho_forget ho_word ho_number ho_clear ho_readings ho_reading ho_test ho_answer ho_found ho_answers ho_back ho_agree ho_take ho_why ho_count hmono hL 512 0 rfl m0C m0M ls H _ hrel0 (lv_sub hl [3, 2, 1, 0] rfl) hP hD hS
