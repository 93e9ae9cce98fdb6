/-! the memory of one side (class or reference): number of the cell, place in it; objects' int fields by their slot -/
abbrev Mem : Type := Nat → Nat → Int32
def st (σ : Mem) (k j : Nat) (v : Int32) : Mem := fun k' => if k' = k then upd (σ k) j v else σ k'
def ld (n : Nat) (f : Nat → Int32) (i : Int32) : Option Int32 := if i < 0 ∨ n ≤ i.toNatClampNeg then none else some (f i.toNatClampNeg)
def sto (n k : Nat) (σ : Mem) (i v : Int32) : Option Mem := if i < 0 ∨ n ≤ i.toNatClampNeg then none else some (st σ k i.toNatClampNeg v)
theorem ld_some {n : Nat} {f : Nat → Int32} {i v : Int32} (h : ld n f i = some v) : vp_in i n ∧ f i.toNatClampNeg = v := by
  unfold ld at h
  split at h
  · cases h
  · rename_i hh
    exact ⟨hh, Option.some.inj h⟩
theorem sto_some {n k : Nat} {σ σ' : Mem} {i v : Int32} (h : sto n k σ i v = some σ') : vp_in i n ∧ st σ k i.toNatClampNeg v = σ' := by
  unfold sto at h
  split at h
  · cases h
  · rename_i hh
    exact ⟨hh, Option.some.inj h⟩
/-! a method with loops: labels, the values that live there, as macro steps; 99999 is the end -/
def goL {α : Type} (B : Nat → α → List Int32 → Option (Nat × α × List Int32)) : Nat → Nat → α → List Int32 → Option (α × List Int32)
  | 0, _, _, _ => none
  | n + 1, pc, x, vs => if pc = 99999 then some (x, vs) else (B pc x vs).bind (fun q => goL B n q.1 q.2.1 q.2.2)
theorem goL_up {α : Type} {B : Nat → α → List Int32 → Option (Nat × α × List Int32)} : ∀ (n : Nat) (pc : Nat) (x : α) (vs : List Int32) (q : α × List Int32), goL B n pc x vs = some q → goL B (n + 1) pc x vs = some q
  | 0, _, _, _, _, h => by cases h
  | n + 1, pc, x, vs, q, h => by
    unfold goL at h ⊢
    split
    · rename_i hp; rw [if_pos hp] at h; exact h
    · rename_i hp
      rw [if_neg hp] at h
      obtain ⟨y, h1, h2⟩ := Option.bind_eq_some_iff.mp h
      exact Option.bind_eq_some_iff.mpr ⟨y, h1, goL_up n _ _ _ _ h2⟩
theorem goL_ups {α : Type} {B : Nat → α → List Int32 → Option (Nat × α × List Int32)} {pc : Nat} {x : α} {vs : List Int32} {q : α × List Int32} (n : Nat) : ∀ k, goL B n pc x vs = some q → goL B (n + k) pc x vs = some q
  | 0, h => h
  | k + 1, h => goL_up _ _ _ _ _ (goL_ups n k h)
theorem goL_det {α : Type} {B : Nat → α → List Int32 → Option (Nat × α × List Int32)} {pc : Nat} {x : α} {vs : List Int32} {q q' : α × List Int32} {n n' : Nat} (h : goL B n pc x vs = some q) (h' : goL B n' pc x vs = some q') : q = q' := by
  have a := goL_ups n n' h
  have b := goL_ups n' n h'
  rw [Nat.add_comm] at b
  exact Option.some.inj (a.symm.trans b)
/-- from here the method comes to q -/
def Ends {α : Type} (B : Nat → α → List Int32 → Option (Nat × α × List Int32)) (pc : Nat) (x : α) (vs : List Int32) (q : α × List Int32) : Prop := ∃ n, goL B n pc x vs = some q
theorem Ends.det {α : Type} {B : Nat → α → List Int32 → Option (Nat × α × List Int32)} {pc : Nat} {x : α} {vs : List Int32} {q q' : α × List Int32} (h : Ends B pc x vs q) (h' : Ends B pc x vs q') : q = q' := by
  obtain ⟨n, h⟩ := h
  obtain ⟨n', h'⟩ := h'
  exact goL_det h h'
theorem Ends.ret {α : Type} (B : Nat → α → List Int32 → Option (Nat × α × List Int32)) (x : α) (vs : List Int32) : Ends B 99999 x vs (x, vs) := ⟨1, by unfold goL; rw [if_pos rfl]⟩
theorem Ends.step {α : Type} {B : Nat → α → List Int32 → Option (Nat × α × List Int32)} {pc pc' : Nat} {x x' : α} {vs vs' : List Int32} {q : α × List Int32} (hp : pc ≠ 99999) (h : B pc x vs = some (pc', x', vs')) (k : Ends B pc' x' vs' q) : Ends B pc x vs q := by
  obtain ⟨n, k⟩ := k
  exact ⟨n + 1, by unfold goL; rw [if_neg hp, h]; exact k⟩
noncomputable def finL {α : Type} (B : Nat → α → List Int32 → Option (Nat × α × List Int32)) (pc : Nat) (x : α) (vs : List Int32) : Option (α × List Int32) := @dite _ (∃ q, Ends B pc x vs q) (Classical.propDecidable _) (fun h => some h.choose) (fun _ => none)
theorem finL_eq {α : Type} {B : Nat → α → List Int32 → Option (Nat × α × List Int32)} {pc : Nat} {x : α} {vs : List Int32} {q : α × List Int32} (h : Ends B pc x vs q) : finL B pc x vs = some q := by
  unfold finL
  have h1 : ∃ q, Ends B pc x vs q := ⟨q, h⟩
  rw [dif_pos h1]
  exact congrArg some (h1.choose_spec.det h)
theorem finL_some {α : Type} {B : Nat → α → List Int32 → Option (Nat × α × List Int32)} {pc : Nat} {x : α} {vs : List Int32} {q : α × List Int32} (h : finL B pc x vs = some q) : Ends B pc x vs q := by
  unfold finL at h
  split at h
  · rename_i h1
    rw [← Option.some.inj h]
    exact h1.choose_spec
  · cases h
def extR (q : Unit × List Int32) : Option Int32 := q.2[0]?
def extM (q : Mem × List Int32) : Option (Int32 × Mem) := (q.2[0]?).map (fun r => (r, q.1))
def extV (q : Mem × List Int32) : Option Mem := some q.1
theorem goL_ret {α : Type} {B : Nat → α → List Int32 → Option (Nat × α × List Int32)} {n : Nat} {x : α} {vs : List Int32} {q : α × List Int32} (h : goL B n 99999 x vs = some q) : q = (x, vs) := by
  cases n with
  | zero => cases h
  | succ n =>
    unfold goL at h
    rw [if_pos rfl] at h
    exact (Option.some.inj h).symm
theorem goL_step {α : Type} {B : Nat → α → List Int32 → Option (Nat × α × List Int32)} {n pc : Nat} {x : α} {vs : List Int32} {q : α × List Int32} (hp : pc ≠ 99999) (h : goL B (n + 1) pc x vs = some q) : ∃ y, B pc x vs = some y ∧ goL B n y.1 y.2.1 y.2.2 = some q := by
  unfold goL at h
  rw [if_neg hp] at h
  exact Option.bind_eq_some_iff.mp h
theorem extR_ret {v r : Int32} {q : Unit × List Int32} (h : extR q = some r) (e : q = ((), [v])) : v = r := by
  subst e
  exact Option.some.inj h
theorem extM_ret {v r : Int32} {σ σ' : Mem} {q : Mem × List Int32} (h : extM q = some (r, σ')) (e : q = (σ, [v])) : v = r ∧ σ = σ' := by
  subst e
  have h2 : some (v, σ) = some (r, σ') := h
  cases h2
  exact ⟨rfl, rfl⟩
theorem extV_ret {σ σ' : Mem} {vs : List Int32} {q : Mem × List Int32} (h : extV q = some σ') (e : q = (σ, vs)) : σ = σ' := by
  subst e
  exact Option.some.inj h
theorem z_nar {x : Int32} (h : vp_nar .boolean x = x) : narrow .boolean (.int x) = .int x := by
  have h2 : narrow .boolean (.int x) = .int (vp_nar .boolean x) := by
    simp [vp_nar, narrow]
  rw [h2, h]
/-! worlds and contracts -/
def NW (U : State) : Prop := va_Nw (.methodLinkNest RX1 57 yX8_holdsBit "PlainAsk") U
abbrev cyT (cyI cyZ : ClassId) : List (ClassId × FieldType) := [(cyI, .int), (cyZ, .boolean)]
def IN (D : va_G) (cyI cyZ : ClassId) (A : Nat → Prop) (w : va_W) (U : State) : Prop := va_P D vwCl w U.heap ∧ va_K D vwCl (cyT cyI cyZ) U ∧ va_D A w
def CtI (l : Launch) (y : MethodName) (ws : List Cond) (rm : Room) (as : List Value) (D : va_G) (cyI cyZ : ClassId) (A : Nat → Prop) (w w' : va_W) (r : Int32) : Prop :=
  Met l y ws rm (va_Pc as (fun U => IN D cyI cyZ A w U ∧ NW U)) (va_Qi (fun r' (_ : Unit) => r' = r) (fun _ t => IN D cyI cyZ A w' t) A) 0 0 A
def CtV (l : Launch) (y : MethodName) (ws : List Cond) (rm : Room) (as : List Value) (D : va_G) (cyI cyZ : ClassId) (A : Nat → Prop) (w w' : va_W) : Prop :=
  Met l y ws rm (va_Pc as (fun U => IN D cyI cyZ A w U ∧ NW U)) (va_Qv (fun (_ : Unit) => True) (fun _ t => IN D cyI cyZ A w' t) A) 0 0 A
def CtR (l : Launch) (y : MethodName) (ws : List Cond) (rm : Room) (as : List Value) (D : va_G) (cyI cyZ : ClassId) (A : Nat → Prop) (w w' : va_W) (q0 : Nat) : Prop :=
  Met l y ws rm (va_Pc as (fun U => IN D cyI cyZ A w U ∧ NW U)) (va_Qr (fun (_ : Unit) => True) (fun _ q t => q = q0 ∧ IN D cyI cyZ A w' t) A) 0 0 A
abbrev QcI (D : va_G) (cyI cyZ : ClassId) (A : Nat → Prop) (w' : va_W) (r : Int32) : Array Value → State → Outcome → State → Prop := va_Qi (fun r' (_ : Unit) => r' = r) (fun _ t => IN D cyI cyZ A w' t) A
abbrev QcV (D : va_G) (cyI cyZ : ClassId) (A : Nat → Prop) (w' : va_W) : Array Value → State → Outcome → State → Prop := va_Qv (fun (_ : Unit) => True) (fun _ t => IN D cyI cyZ A w' t) A
abbrev QcR (D : va_G) (cyI cyZ : ClassId) (A : Nat → Prop) (w' : va_W) (q0 : Nat) : Array Value → State → Outcome → State → Prop := va_Qr (fun (_ : Unit) => True) (fun _ q t => q = q0 ∧ IN D cyI cyZ A w' t) A
/-- what a body has of its machine, code and tables -/
def CX (p : Program) (c : Code) (cc : ByteArray) (meth : Method) (ret : Option FieldType) (s : State) (m : MethodId) (args : Array Value) (own : String) (nL : Nat) (D : va_G) (cyI cyZ : ClassId) : Prop :=
  p.tables.exec = Jvm.exec ∧ c.code = cc ∧ meth.sig.returnType = ret ∧ c.maxLocals = nL ∧ s.vm.findClass own = some m.cls ∧ (∀ w ∈ wsL_law, w.before args s = true) ∧ va_K D vwCl (cyT cyI cyZ) s ∧ NW s ∧ meth.locks = false
theorem IN.moved {D : va_G} {cyI cyZ : ClassId} {A : Nat → Prop} {w : va_W} {u U : State} (hvm : u.vm.Alike U.vm) (hh : U.heap = u.heap) (h : IN D cyI cyZ A w u) : IN D cyI cyZ A w U := ⟨by rw [hh]; exact h.1, va_K.moved hvm h.2.1, h.2.2⟩
theorem IN.blind {D : va_G} {cyI cyZ : ClassId} {A : Nat → Prop} {w : va_W} {as : List Value} : FrameBlind (va_Pc as (fun U => IN D cyI cyZ A w U ∧ NW U)) := fun a U g mk q => by
  obtain ⟨q0, ⟨q1, q2, q3⟩, q4⟩ := q
  exact ⟨q0, ⟨q1, va_K.moved (u := U) (U := U.calling g mk a) (Vm.Alike.refl U.vm) q2, q3⟩, va_Nw.same rfl rfl q4⟩
section
variable {l : Launch} {y : MethodName} {ws : List Cond} {rm : Room} {as : List Value} {D : va_G} {cyI cyZ : ClassId} {A : Nat → Prop} {w w' : va_W} {r : Int32} {q0 : Nat} {cc : ByteArray} {maxL : Nat} {ret : Option FieldType}
theorem CtI.of (hy : plainName y.cls = true) (hw : ws = Cond.code y cc maxL ret :: wsL_law) (hlen : (lg_sl as).length ≤ maxL)
    (body : ∀ p e s m below meth c ls, CX p c cc meth ret s m as.toArray y.cls maxL D cyI cyZ → va_P D vwCl w s.heap → va_D A w → lv_has ls maxL (lv_args 0 as) →
      W p l e (headSpec ws rm).room s m as.toArray below meth c s.heap [] 0 0 (MQ below (QcI D cyI cyZ A w' r) as.toArray s 0 0 A) (F0 m 0 ls [])) : CtI l y ws rm as D cyI cyZ A w w' r := by
  refine Met.ofW (cc := cc) (maxL := maxL) (ret := ret) hy hw ?_
  intro p e s m args below meth c s₁ B hml hv
  obtain ⟨rfl, ⟨hP, hK, hD⟩, hN⟩ := hv
  have hl := lv_entry as (n := maxL) hlen
  rw [lg_entry_eq]
  exact body p e s m below meth c _ ⟨B.exec, B.bytes, B.returns, hml, findClass_of_methodNamed B.named, fun w h => atoms_spec (ws := ws) B.pre w (by rw [hw]; exact List.mem_cons_of_mem _ h), hK, hN, B.notSynchronized⟩ hP hD hl
theorem CtV.of (hy : plainName y.cls = true) (hw : ws = Cond.code y cc maxL ret :: wsL_law) (hlen : (lg_sl as).length ≤ maxL)
    (body : ∀ p e s m below meth c ls, CX p c cc meth ret s m as.toArray y.cls maxL D cyI cyZ → va_P D vwCl w s.heap → va_D A w → lv_has ls maxL (lv_args 0 as) →
      W p l e (headSpec ws rm).room s m as.toArray below meth c s.heap [] 0 0 (MQ below (QcV D cyI cyZ A w') as.toArray s 0 0 A) (F0 m 0 ls [])) : CtV l y ws rm as D cyI cyZ A w w' := by
  refine Met.ofW (cc := cc) (maxL := maxL) (ret := ret) hy hw ?_
  intro p e s m args below meth c s₁ B hml hv
  obtain ⟨rfl, ⟨hP, hK, hD⟩, hN⟩ := hv
  have hl := lv_entry as (n := maxL) hlen
  rw [lg_entry_eq]
  exact body p e s m below meth c _ ⟨B.exec, B.bytes, B.returns, hml, findClass_of_methodNamed B.named, fun w h => atoms_spec (ws := ws) B.pre w (by rw [hw]; exact List.mem_cons_of_mem _ h), hK, hN, B.notSynchronized⟩ hP hD hl
theorem CtR.of (hy : plainName y.cls = true) (hw : ws = Cond.code y cc maxL ret :: wsL_law) (hlen : (lg_sl as).length ≤ maxL)
    (body : ∀ p e s m below meth c ls, CX p c cc meth ret s m as.toArray y.cls maxL D cyI cyZ → va_P D vwCl w s.heap → va_D A w → lv_has ls maxL (lv_args 0 as) →
      W p l e (headSpec ws rm).room s m as.toArray below meth c s.heap [] 0 0 (MQ below (QcR D cyI cyZ A w' q0) as.toArray s 0 0 A) (F0 m 0 ls [])) : CtR l y ws rm as D cyI cyZ A w w' q0 := by
  refine Met.ofW (cc := cc) (maxL := maxL) (ret := ret) hy hw ?_
  intro p e s m args below meth c s₁ B hml hv
  obtain ⟨rfl, ⟨hP, hK, hD⟩, hN⟩ := hv
  have hl := lv_entry as (n := maxL) hlen
  rw [lg_entry_eq]
  exact body p e s m below meth c _ ⟨B.exec, B.bytes, B.returns, hml, findClass_of_methodNamed B.named, fun w h => atoms_spec (ws := ws) B.pre w (by rw [hw]; exact List.mem_cons_of_mem _ h), hK, hN, B.notSynchronized⟩ hP hD hl
end
section
variable {p : Program} {l : Launch} {e : Env} {R : Room} {s : State} {m : MethodId} {args : Array Value} {below : List Frame} {meth : Method} {c : Code} {H : Heap} {locs : List Loc} {cells slots : Nat} {Q : State → Prop}
variable {cc : ByteArray} {pc : Nat} {ls : Array Slot} {rest st0 : List Value} {D : va_G} {A : Nat → Prop} {a : Nat} {cyI cyZ : ClassId} {w w' : va_W}
theorem z_top {x y : Int32} (h : some x = some y) (k : W p l e R s m args below meth c H locs cells slots Q (F0 m pc ls (.int y :: rest))) : W p l e R s m args below meth c H locs cells slots Q (F0 m pc ls (.int x :: rest)) := by
  cases h
  exact k
theorem z_iret {r : Int32} (hx : p.tables.exec = Jvm.exec) (hb : c.code = cc) (hr : meth.sig.returnType = some .int) (hlocks : meth.locks = false) (hK : va_K D vwCl (cyT cyI cyZ) s) (hP : va_P D vwCl w' H) (hD : va_D A w') (hS : va_S A s.heap H locs) (hdg : decode cc pc = .ok (.ireturn, 1)) :
    W p l e R s m args below meth c H locs 0 0 (MQ below (QcI D cyI cyZ A w' r) args s 0 0 A) (F0 m pc ls [.int r]) :=
  W.iret hx hb hr (fun t ht hW => ⟨⟨r, (), rfl, rfl, by rw [ht]; exact hP, va_K.moved hW.alike hK, hD⟩, hS.F ht⟩) hS.2.2 hdg hlocks
theorem z_zret {r : Int32} (hx : p.tables.exec = Jvm.exec) (hb : c.code = cc) (hr : meth.sig.returnType = some .boolean) (hlocks : meth.locks = false) (hK : va_K D vwCl (cyT cyI cyZ) s) (hP : va_P D vwCl w' H) (hD : va_D A w') (hS : va_S A s.heap H locs) (hn : narrow .boolean (.int r) = .int r) (hdg : decode cc pc = .ok (.ireturn, 1)) :
    W p l e R s m args below meth c H locs 0 0 (MQ below (QcI D cyI cyZ A w' r) args s 0 0 A) (F0 m pc ls [.int r]) :=
  W.zret hx hb hr hn (fun t ht hW => ⟨⟨r, (), rfl, rfl, by rw [ht]; exact hP, va_K.moved hW.alike hK, hD⟩, hS.F ht⟩) hS.2.2 hdg hlocks
theorem z_vret (hx : p.tables.exec = Jvm.exec) (hb : c.code = cc) (hr : meth.sig.returnType = none) (hlocks : meth.locks = false) (hK : va_K D vwCl (cyT cyI cyZ) s) (hP : va_P D vwCl w' H) (hD : va_D A w') (hS : va_S A s.heap H locs) (hdg : decode cc pc = .ok (.return_, 1)) :
    W p l e R s m args below meth c H locs 0 0 (MQ below (QcV D cyI cyZ A w') args s 0 0 A) (F0 m pc ls []) :=
  W.vret hx hb hr (fun t ht hW => ⟨⟨(), rfl, trivial, by rw [ht]; exact hP, va_K.moved hW.alike hK, hD⟩, hS.F ht⟩) hS.2.2 hdg hlocks
theorem z_aret {q0 : Nat} {n : String} (hx : p.tables.exec = Jvm.exec) (hb : c.code = cc) (hr : meth.sig.returnType = some (.object n)) (hlocks : meth.locks = false) (hK : va_K D vwCl (cyT cyI cyZ) s) (hP : va_P D vwCl w' H) (hD : va_D A w') (hS : va_S A s.heap H locs) (hdg : decode cc pc = .ok (.areturn, 1)) :
    W p l e R s m args below meth c H locs 0 0 (MQ below (QcR D cyI cyZ A w' q0) args s 0 0 A) (F0 m pc ls [.ref q0]) :=
  W.aret hx hb hr (Or.inl ⟨n, rfl⟩) (Or.inr ⟨q0, rfl⟩) (fun t ht hW => ⟨⟨(), q0, rfl, trivial, rfl, by rw [ht]; exact hP, va_K.moved hW.alike hK, hD⟩, hS.F ht⟩) hS.2.2 hdg hlocks
theorem z_ild (hx : p.tables.exec = Jvm.exec) (hb : c.code = cc) (hK : va_K D vwCl (cyT cyI cyZ) s) (hP : va_P D vwCl w H) (q0 : Nat) {n : Nat} {f : Nat → Int32} (ha : w[q0]? = some (a, .inl (cyI, n, .inl f))) {i v : Int32} (hld : ld n f i = some v) (hdg : decode cc pc = .ok (.iaload, 1))
    (kk : W p l e R s m args below meth c H locs cells slots Q (F0 m (pc + 1) ls (.int v :: rest))) : W p l e R s m args below meth c H locs cells slots Q (F0 m pc ls (.int i :: .ref a :: rest)) := by
  obtain ⟨h1, rfl⟩ := ld_some hld
  exact va_iald hx hb hK hP q0 0 ha rfl h1 hdg kk
theorem z_zld (hx : p.tables.exec = Jvm.exec) (hb : c.code = cc) (hK : va_K D vwCl (cyT cyI cyZ) s) (hP : va_P D vwCl w H) (q0 : Nat) {n : Nat} {f : Nat → Int32} (ha : w[q0]? = some (a, .inl (cyZ, n, .inl f))) {i v : Int32} (hld : ld n f i = some v) (hdg : decode cc pc = .ok (.baload, 1))
    (kk : W p l e R s m args below meth c H locs cells slots Q (F0 m (pc + 1) ls (.int v :: rest))) : W p l e R s m args below meth c H locs cells slots Q (F0 m pc ls (.int i :: .ref a :: rest)) := by
  obtain ⟨h1, rfl⟩ := ld_some hld
  exact va_zald hx hb hK hP q0 1 ha rfl h1 hdg kk
theorem z_ist (wf : Mem → va_W) {σ σ' : Mem} {H0 : Heap} (hx : p.tables.exec = Jvm.exec) (hb : c.code = cc) (hK : va_K D vwCl (cyT cyI cyZ) s) (hP : va_P D vwCl (wf σ) H) (hD : va_D A (wf σ)) (hS : va_S A H0 H locs) (q0 : Nat) {n k : Nat} {f : Nat → Int32} (ha : (wf σ)[q0]? = some (a, .inl (cyI, n, .inl f))) (hset : ∀ (j : Nat) (x : Int32), (wf σ).set q0 (a, .inl (cyI, n, .inl (upd f j x))) = wf (st σ k j x)) {i x : Int32} (hst : sto n k σ i x = some σ') (hdg : decode cc pc = .ok (.iastore, 1))
    (kk : ∀ (H : Heap) (locs : List Loc), va_P D vwCl (wf σ') H → va_D A (wf σ') → va_S A H0 H locs → W p l e R s m args below meth c H locs cells slots Q (F0 m (pc + 1) ls rest)) : W p l e R s m args below meth c H locs cells slots Q (F0 m pc ls (.int x :: .int i :: .ref a :: rest)) := by
  obtain ⟨h1, rfl⟩ := sto_some hst
  refine va_iast hx hb hK hP hD hS q0 0 ha rfl h1 hdg (fun H1 locs1 g1 g2 g3 => ?_)
  rw [hset] at g1 g2
  exact kk H1 locs1 g1 g2 g3
theorem z_zst (wf : Mem → va_W) {σ σ' : Mem} {H0 : Heap} (hx : p.tables.exec = Jvm.exec) (hb : c.code = cc) (hK : va_K D vwCl (cyT cyI cyZ) s) (hP : va_P D vwCl (wf σ) H) (hD : va_D A (wf σ)) (hS : va_S A H0 H locs) (q0 : Nat) {n k : Nat} {f : Nat → Int32} (ha : (wf σ)[q0]? = some (a, .inl (cyZ, n, .inl f))) (hset : ∀ (j : Nat) (x : Int32), (wf σ).set q0 (a, .inl (cyZ, n, .inl (upd f j x))) = wf (st σ k j x)) {i x : Int32} (hst : sto n k σ i (vp_nar .boolean x) = some σ') (hdg : decode cc pc = .ok (.bastore, 1))
    (kk : ∀ (H : Heap) (locs : List Loc), va_P D vwCl (wf σ') H → va_D A (wf σ') → va_S A H0 H locs → W p l e R s m args below meth c H locs cells slots Q (F0 m (pc + 1) ls rest)) : W p l e R s m args below meth c H locs cells slots Q (F0 m pc ls (.int x :: .int i :: .ref a :: rest)) := by
  obtain ⟨h1, rfl⟩ := sto_some hst
  refine va_zast hx hb hK hP hD hS q0 1 ha rfl h1 hdg (fun H1 locs1 g1 g2 g3 => ?_)
  rw [hset] at g1 g2
  exact kk H1 locs1 g1 g2 g3
variable {y : MethodName} {bytes : ByteArray} {maxL nL n index : Nat} {ret : Option FieldType} {ws Ts : List Cond} {rm : Room} {own C host : String} {b : Addr} {As : List Value} {r : Int32} {fs : List Value} {q : vw_C}
theorem z_preV {as : List Value} (hK : va_K D vwCl (cyT cyI cyZ) s) (hN : NW s) (hP : va_P D vwCl w H) (hD : va_D A w) (ci q0 : Nat) (hc : vwCl[ci]? = some q) (hC : q.1 = C) (he : w[q0]? = some (b, .inr (ci, fs))) (has : as = .ref b :: As) : PreV s H C b (va_Pc as (fun U => IN D cyI cyZ A w U ∧ NW U)) As := by
  subst has
  subst hC
  exact ⟨IN.blind, va_recv hK hP hc he, fun U hU hW => ⟨rfl, ⟨by rw [hU]; exact hP, va_K.moved hW.alike hK, hD⟩, va_Nw.warmM hW hN⟩⟩
theorem z_preS {as : List Value} (hK : va_K D vwCl (cyT cyI cyZ) s) (hN : NW s) (hP : va_P D vwCl w H) (hD : va_D A w) : PreS s H (va_Pc as (fun U => IN D cyI cyZ A w U ∧ NW U)) as :=
  ⟨IN.blind, fun U hU hW => ⟨rfl, ⟨by rw [hU]; exact hP, va_K.moved hW.alike hK, hD⟩, va_Nw.warmM hW hN⟩⟩
theorem z_callVI (S : CallFix p m c cc nL s args Ts own) (hM : CtI l y ws rm (.ref b :: As) D cyI cyZ A w w' r) (cw : CallW R s args own C index y bytes maxL ret ws rm 0 0 n) (hK : va_K D vwCl (cyT cyI cyZ) s) (hN : NW s) (hP : va_P D vwCl w H) (hD : va_D A w) (hS : va_S A s.heap H locs) (ci q0 : Nat) (hc : vwCl[ci]? = some q) (hC : q.1 = C) (he : w[q0]? = some (b, .inr (ci, fs)))
    (hn : As.length = n) (hsize : ls.size = nL) (hstack : st0 = As.reverse ++ .ref b :: rest) (hW : (rest.map fun v => v.category).sum ≤ 8) (hdg : decode cc pc = .ok (.invokevirtual index, 3)) (hf : cells ≤ R.cells ∧ slots ≤ R.slots)
    (kk : ∀ (H : Heap) (locs : List Loc), va_P D vwCl w' H → va_D A w' → va_S A s.heap H locs → W p l e R s m args below meth c H locs cells slots Q (F0 m (pc + 3) ls (.int r :: rest))) : W p l e R s m args below meth c H locs cells slots Q (F0 m pc ls st0) := by
  refine va_calli (va_runV S hM cw (z_preV hK hN hP hD ci q0 hc hC he rfl) rfl hn hsize hstack (lv_room hW) hdg hf) hS (fun _ _ h => h) (fun _ h => h) (fun r1 u t H1 locs1 ht hvm hw hB hz1 hk1 hS1 => ?_)
  obtain ⟨g1, g2, g3⟩ := hB
  rw [ht] at g1
  subst hw
  exact kk H1 locs1 g1 g3 hS1
theorem z_callVV (S : CallFix p m c cc nL s args Ts own) (hM : CtV l y ws rm (.ref b :: As) D cyI cyZ A w w') (cw : CallW R s args own C index y bytes maxL ret ws rm 0 0 n) (hK : va_K D vwCl (cyT cyI cyZ) s) (hN : NW s) (hP : va_P D vwCl w H) (hD : va_D A w) (hS : va_S A s.heap H locs) (ci q0 : Nat) (hc : vwCl[ci]? = some q) (hC : q.1 = C) (he : w[q0]? = some (b, .inr (ci, fs)))
    (hn : As.length = n) (hsize : ls.size = nL) (hstack : st0 = As.reverse ++ .ref b :: rest) (hW : (rest.map fun v => v.category).sum ≤ 8) (hdg : decode cc pc = .ok (.invokevirtual index, 3)) (hf : cells ≤ R.cells ∧ slots ≤ R.slots)
    (kk : ∀ (H : Heap) (locs : List Loc), va_P D vwCl w' H → va_D A w' → va_S A s.heap H locs → W p l e R s m args below meth c H locs cells slots Q (F0 m (pc + 3) ls rest)) : W p l e R s m args below meth c H locs cells slots Q (F0 m pc ls st0) := by
  refine va_callv (va_runV S hM cw (z_preV hK hN hP hD ci q0 hc hC he rfl) rfl hn hsize hstack (lv_room hW) hdg hf) hS (fun _ _ h => h) (fun _ h => h) (fun u t H1 locs1 ht hvm hw hB hz1 hk1 hS1 => ?_)
  obtain ⟨g1, g2, g3⟩ := hB
  rw [ht] at g1
  exact kk H1 locs1 g1 g3 hS1
theorem z_callVR {qr : Nat} (S : CallFix p m c cc nL s args Ts own) (hM : CtR l y ws rm (.ref b :: As) D cyI cyZ A w w' qr) (cw : CallW R s args own C index y bytes maxL ret ws rm 0 0 n) (hK : va_K D vwCl (cyT cyI cyZ) s) (hN : NW s) (hP : va_P D vwCl w H) (hD : va_D A w) (hS : va_S A s.heap H locs) (ci q0 : Nat) (hc : vwCl[ci]? = some q) (hC : q.1 = C) (he : w[q0]? = some (b, .inr (ci, fs)))
    (hn : As.length = n) (hsize : ls.size = nL) (hstack : st0 = As.reverse ++ .ref b :: rest) (hW : (rest.map fun v => v.category).sum ≤ 8) (hdg : decode cc pc = .ok (.invokevirtual index, 3)) (hf : cells ≤ R.cells ∧ slots ≤ R.slots)
    (kk : ∀ (H : Heap) (locs : List Loc), va_P D vwCl w' H → va_D A w' → va_S A s.heap H locs → W p l e R s m args below meth c H locs cells slots Q (F0 m (pc + 3) ls (.ref qr :: rest))) : W p l e R s m args below meth c H locs cells slots Q (F0 m pc ls st0) := by
  refine va_callr (va_runV S hM cw (z_preV hK hN hP hD ci q0 hc hC he rfl) rfl hn hsize hstack (lv_room hW) hdg hf) hS (fun _ _ h => h) (fun _ h => h) (fun u a1 t H1 locs1 ht hvm hw hB hz1 hk1 hS1 => ?_)
  obtain ⟨rfl, g1, g2, g3⟩ := hB
  rw [ht] at g1
  exact kk H1 locs1 g1 g3 hS1
theorem z_callSI (S : CallFix p m c cc nL s args Ts own) (hM : CtI l y ws rm As D cyI cyZ A w w' r) (cw : CallB R s args own index y bytes maxL ret ws rm 0 0 n ∧ (Cond.static y).before args s = true) (hK : va_K D vwCl (cyT cyI cyZ) s) (hN : NW s) (hP : va_P D vwCl w H) (hD : va_D A w) (hS : va_S A s.heap H locs)
    (hn : As.length = n) (hsize : ls.size = nL) (hstack : st0 = As.reverse ++ rest) (hW : (rest.map fun v => v.category).sum ≤ 8) (hdg : decode cc pc = .ok (.invokestatic index, 3)) (hf : cells ≤ R.cells ∧ slots ≤ R.slots)
    (kk : ∀ (H : Heap) (locs : List Loc), va_P D vwCl w' H → va_D A w' → va_S A s.heap H locs → W p l e R s m args below meth c H locs cells slots Q (F0 m (pc + 3) ls (.int r :: rest))) : W p l e R s m args below meth c H locs cells slots Q (F0 m pc ls st0) := by
  refine va_calli (va_runS S hM cw (z_preS hK hN hP hD) rfl hn hsize hstack (lv_room hW) hdg hf) hS (fun _ _ h => h) (fun _ h => h) (fun r1 u t H1 locs1 ht hvm hw hB hz1 hk1 hS1 => ?_)
  obtain ⟨g1, g2, g3⟩ := hB
  rw [ht] at g1
  subst hw
  exact kk H1 locs1 g1 g3 hS1
theorem z_callSV (S : CallFix p m c cc nL s args Ts own) (hM : CtV l y ws rm As D cyI cyZ A w w') (cw : CallB R s args own index y bytes maxL ret ws rm 0 0 n ∧ (Cond.static y).before args s = true) (hK : va_K D vwCl (cyT cyI cyZ) s) (hN : NW s) (hP : va_P D vwCl w H) (hD : va_D A w) (hS : va_S A s.heap H locs)
    (hn : As.length = n) (hsize : ls.size = nL) (hstack : st0 = As.reverse ++ rest) (hW : (rest.map fun v => v.category).sum ≤ 8) (hdg : decode cc pc = .ok (.invokestatic index, 3)) (hf : cells ≤ R.cells ∧ slots ≤ R.slots)
    (kk : ∀ (H : Heap) (locs : List Loc), va_P D vwCl w' H → va_D A w' → va_S A s.heap H locs → W p l e R s m args below meth c H locs cells slots Q (F0 m (pc + 3) ls rest)) : W p l e R s m args below meth c H locs cells slots Q (F0 m pc ls st0) := by
  refine va_callv (va_runS S hM cw (z_preS hK hN hP hD) rfl hn hsize hstack (lv_room hW) hdg hf) hS (fun _ _ h => h) (fun _ h => h) (fun u t H1 locs1 ht hvm hw hB hz1 hk1 hS1 => ?_)
  obtain ⟨g1, g2, g3⟩ := hB
  rw [ht] at g1
  exact kk H1 locs1 g1 g3 hS1
theorem z_callNI (S : CallFix p m c cc nL s args Ts own) (hM : CtI l y ws rm As D cyI cyZ A w w' r) (cw : va_CN R s args own index y host bytes maxL ret ws rm 0 0 n ∧ (Cond.static y).before args s = true ∧ True) (hK : va_K D vwCl (cyT cyI cyZ) s) (hN : NW s) (hP : va_P D vwCl w H) (hD : va_D A w) (hS : va_S A s.heap H locs)
    (hn : As.length = n) (hsize : ls.size = nL) (hstack : st0 = As.reverse ++ rest) (hW : (rest.map fun v => v.category).sum ≤ 8) (hdg : decode cc pc = .ok (.invokestatic index, 3)) (hf : cells ≤ R.cells ∧ slots ≤ R.slots)
    (kk : ∀ (H : Heap) (locs : List Loc), va_P D vwCl w' H → va_D A w' → va_S A s.heap H locs → W p l e R s m args below meth c H locs cells slots Q (F0 m (pc + 3) ls (.int r :: rest))) : W p l e R s m args below meth c H locs cells slots Q (F0 m pc ls st0) := by
  refine va_calli (va_runSN S hM cw (z_preS hK hN hP hD) rfl hn hsize hstack (lv_room hW) hdg hf) hS (fun _ _ h => h) (fun _ h => h) (fun r1 u t H1 locs1 ht hvm hw hB hz1 hk1 hS1 => ?_)
  obtain ⟨g1, g2, g3⟩ := hB
  rw [ht] at g1
  subst hw
  exact kk H1 locs1 g1 g3 hS1
end
theorem z_notin3 {x : Int32} (h0 : ¬ x = 0) (h1 : ¬ x = 1) (h2 : ¬ x = 2) : x.toInt < 0 ∨ 2 < x.toInt := by
  have a := lv_neT h0 (a := 0) rfl
  have b := lv_neT h1 (a := 1) rfl
  have c := lv_neT h2 (a := 2) rfl
  omega
theorem z_notin4 {x : Int32} (h0 : ¬ x = 0) (h1 : ¬ x = 1) (h2 : ¬ x = 2) (h3 : ¬ x = 3) : x.toInt < 0 ∨ 3 < x.toInt := by
  have a := z_notin3 h0 h1 h2
  have c := lv_neT h3 (a := 3) rfl
  omega
theorem z_notin5 {x : Int32} (h0 : ¬ x = 0) (h1 : ¬ x = 1) (h2 : ¬ x = 2) (h3 : ¬ x = 3) (h4 : ¬ x = 4) : x.toInt < 0 ∨ 4 < x.toInt := by
  have a := z_notin4 h0 h1 h2 h3
  have c := lv_neT h4 (a := 4) rfl
  omega
theorem z_notin6 {x : Int32} (h0 : ¬ x = 0) (h1 : ¬ x = 1) (h2 : ¬ x = 2) (h3 : ¬ x = 3) (h4 : ¬ x = 4) (h5 : ¬ x = 5) : x.toInt < 0 ∨ 5 < x.toInt := by
  have a := z_notin5 h0 h1 h2 h3 h4
  have c := lv_neT h5 (a := 5) rfl
  omega
