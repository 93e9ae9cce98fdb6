/-! the cells of the class (wC) and of the reference (wM); keys and spare of Readings change places: slot 10 of cell 16 tells which is which -/
def kx (σ : Mem) : Nat := if σ 16 10 = 0 then 25 else 26
def ky (σ : Mem) : Nat := if σ 16 10 = 0 then 26 else 25
def wC (cyI cyZ : ClassId) (a : Nat → Nat) (σ : Mem) : va_W := [(a 0, .inr (8, [.ref (a 1), .ref (a 6), .ref (a 13), .ref (a 16), .ref (a 27), .ref (a 29)])),
  (a 1, .inr (6, [.int (σ 1 0), .ref (a 2), .ref (a 3), .ref (a 4), .ref (a 5)])),
  (a 2, .inl (cyI, 4, .inl (σ 2))),
  (a 3, .inl (cyI, 4, .inl (σ 3))),
  (a 4, .inl (cyI, 16, .inl (σ 4))),
  (a 5, .inl (cyI, 320, .inl (σ 5))),
  (a 6, .inr (7, [.int (σ 6 0), .ref (a 7), .ref (a 8), .ref (a 9), .ref (a 10), .ref (a 11), .ref (a 12)])),
  (a 7, .inl (cyI, 40, .inl (σ 7))),
  (a 8, .inl (cyI, 120, .inl (σ 8))),
  (a 9, .inl (cyI, 120, .inl (σ 9))),
  (a 10, .inl (cyI, 120, .inl (σ 10))),
  (a 11, .inl (cyI, 120, .inl (σ 11))),
  (a 12, .inl (cyI, 120, .inl (σ 12))),
  (a 13, .inr (3, [.int (σ 13 0), .ref (a 14), .ref (a 15)])),
  (a 14, .inl (cyZ, 8, .inl (σ 14))),
  (a 15, .inl (cyI, 8, .inl (σ 15))),
  (a 16, .inr (5, [.ref (a 1), .ref (a 6), .ref (a 13), .ref (a 17), .ref (a 23), .ref (a 24), .ref (a 34), .ref (a (kx σ)), .ref (a (ky σ)), .int (σ 16 8), .int (σ 16 9)])),
  (a 17, .inr (2, [.int (σ 17 0), .int (σ 17 1), .int (σ 17 2), .int (σ 17 3), .int (σ 17 4), .int (σ 17 5), .int (σ 17 6), .int (σ 17 7), .ref (a 18), .ref (a 19), .ref (a 20), .ref (a 21), .ref (a 22)])),
  (a 18, .inl (cyI, 8, .inl (σ 18))),
  (a 19, .inl (cyI, 8, .inl (σ 19))),
  (a 20, .inl (cyI, 8, .inl (σ 20))),
  (a 21, .inl (cyI, 8, .inl (σ 21))),
  (a 22, .inl (cyI, 8, .inl (σ 22))),
  (a 23, .inl (cyI, 794, .inl (σ 23))),
  (a 24, .inl (cyI, 9, .inl (σ 24))),
  (a 25, .inl (cyI, 6561, .inl (if σ 16 10 = 0 then σ 25 else σ 26))),
  (a 26, .inl (cyI, 6561, .inl (if σ 16 10 = 0 then σ 26 else σ 25))),
  (a 27, .inr (1, [.ref (a 1), .ref (a 28)])),
  (a 28, .inl (cyI, 288, .inl (σ 28))),
  (a 29, .inr (0, [.ref (a 13), .ref (a 16), .ref (a 27), .ref (a 30), .ref (a 33), .int (σ 29 5)])),
  (a 30, .inr (4, [.ref (a 31), .ref (a 32), .int (σ 30 2), .int (σ 30 3)])),
  (a 31, .inl (cyI, 8192, .inl (σ 31))),
  (a 32, .inl (cyI, 8192, .inl (σ 32))),
  (a 33, .inl (cyI, 6561, .inl (σ 33))),
  (a 34, .inl (cyI, 9, .inl (σ 34)))]
def wM (cyI cyZ : ClassId) (a : Nat → Nat) (σ : Mem) : va_W := [(a 0, .inr (9, [.ref (a 1), .ref (a 2), .ref (a 3), .ref (a 4), .int (σ 0 4), .ref (a 5), .ref (a 6), .ref (a 7), .ref (a 8), .ref (a 9), .ref (a 10), .ref (a 11), .ref (a 12), .int (σ 0 13), .ref (a 13), .ref (a 14), .ref (a 15), .ref (a 16), .ref (a 17), .ref (a 18), .ref (a 19), .ref (a 20), .int (σ 0 22), .ref (a 21), .int (σ 0 24), .int (σ 0 25), .int (σ 0 26), .int (σ 0 27), .ref (a 22), .ref (a 23), .ref (a 24), .ref (a 25), .int (σ 0 32), .ref (a 26)])),
  (a 1, .inl (cyI, 4, .inl (σ 1))),
  (a 2, .inl (cyI, 4, .inl (σ 2))),
  (a 3, .inl (cyI, 320, .inl (σ 3))),
  (a 4, .inl (cyI, 16, .inl (σ 4))),
  (a 5, .inl (cyI, 40, .inl (σ 5))),
  (a 6, .inl (cyI, 120, .inl (σ 6))),
  (a 7, .inl (cyI, 120, .inl (σ 7))),
  (a 8, .inl (cyI, 120, .inl (σ 8))),
  (a 9, .inl (cyI, 120, .inl (σ 9))),
  (a 10, .inl (cyI, 120, .inl (σ 10))),
  (a 11, .inl (cyI, 8, .inl (σ 11))),
  (a 12, .inl (cyZ, 8, .inl (σ 12))),
  (a 13, .inl (cyI, 6561, .inl (σ 13))),
  (a 14, .inl (cyI, 6561, .inl (σ 14))),
  (a 15, .inl (cyI, 6561, .inl (σ 15))),
  (a 16, .inl (cyI, 6561, .inl (σ 16))),
  (a 17, .inl (cyI, 902, .inl (σ 17))),
  (a 18, .inl (cyI, 16384, .inl (σ 18))),
  (a 19, .inl (cyI, 6561, .inl (σ 19))),
  (a 20, .inl (cyZ, 6561, .inl (σ 20))),
  (a 21, .inl (cyI, 8, .inl (σ 21))),
  (a 22, .inl (cyI, 8, .inl (σ 22))),
  (a 23, .inl (cyI, 8, .inl (σ 23))),
  (a 24, .inl (cyI, 8, .inl (σ 24))),
  (a 25, .inl (cyI, 8, .inl (σ 25))),
  (a 26, .inl (cyI, 6561, .inl (σ 26)))]
theorem gC_0 {cyI cyZ : ClassId} {a : Nat → Nat} {σ : Mem} : (wC cyI cyZ a σ)[0]? = some (a 0, .inr (8, [.ref (a 1), .ref (a 6), .ref (a 13), .ref (a 16), .ref (a 27), .ref (a 29)])) := rfl
theorem gC_1 {cyI cyZ : ClassId} {a : Nat → Nat} {σ : Mem} : (wC cyI cyZ a σ)[1]? = some (a 1, .inr (6, [.int (σ 1 0), .ref (a 2), .ref (a 3), .ref (a 4), .ref (a 5)])) := rfl
theorem sC_1_0 {cyI cyZ : ClassId} {a : Nat → Nat} {σ : Mem} {v : Int32} : (wC cyI cyZ a σ).set 1 (a 1, .inr (6, ([.int (σ 1 0), .ref (a 2), .ref (a 3), .ref (a 4), .ref (a 5)] : List Value).set 0 (.int v))) = wC cyI cyZ a (st σ 1 0 v) := rfl
theorem gC_2 {cyI cyZ : ClassId} {a : Nat → Nat} {σ : Mem} : (wC cyI cyZ a σ)[2]? = some (a 2, .inl (cyI, 4, .inl (σ 2))) := rfl
theorem sC_2 {cyI cyZ : ClassId} {a : Nat → Nat} {σ : Mem} (j : Nat) (x : Int32) : (wC cyI cyZ a σ).set 2 (a 2, .inl (cyI, 4, .inl (upd (σ 2) j x))) = wC cyI cyZ a (st σ 2 j x) := rfl
theorem gC_3 {cyI cyZ : ClassId} {a : Nat → Nat} {σ : Mem} : (wC cyI cyZ a σ)[3]? = some (a 3, .inl (cyI, 4, .inl (σ 3))) := rfl
theorem sC_3 {cyI cyZ : ClassId} {a : Nat → Nat} {σ : Mem} (j : Nat) (x : Int32) : (wC cyI cyZ a σ).set 3 (a 3, .inl (cyI, 4, .inl (upd (σ 3) j x))) = wC cyI cyZ a (st σ 3 j x) := rfl
theorem gC_4 {cyI cyZ : ClassId} {a : Nat → Nat} {σ : Mem} : (wC cyI cyZ a σ)[4]? = some (a 4, .inl (cyI, 16, .inl (σ 4))) := rfl
theorem sC_4 {cyI cyZ : ClassId} {a : Nat → Nat} {σ : Mem} (j : Nat) (x : Int32) : (wC cyI cyZ a σ).set 4 (a 4, .inl (cyI, 16, .inl (upd (σ 4) j x))) = wC cyI cyZ a (st σ 4 j x) := rfl
theorem gC_5 {cyI cyZ : ClassId} {a : Nat → Nat} {σ : Mem} : (wC cyI cyZ a σ)[5]? = some (a 5, .inl (cyI, 320, .inl (σ 5))) := rfl
theorem sC_5 {cyI cyZ : ClassId} {a : Nat → Nat} {σ : Mem} (j : Nat) (x : Int32) : (wC cyI cyZ a σ).set 5 (a 5, .inl (cyI, 320, .inl (upd (σ 5) j x))) = wC cyI cyZ a (st σ 5 j x) := rfl
theorem gC_6 {cyI cyZ : ClassId} {a : Nat → Nat} {σ : Mem} : (wC cyI cyZ a σ)[6]? = some (a 6, .inr (7, [.int (σ 6 0), .ref (a 7), .ref (a 8), .ref (a 9), .ref (a 10), .ref (a 11), .ref (a 12)])) := rfl
theorem sC_6_0 {cyI cyZ : ClassId} {a : Nat → Nat} {σ : Mem} {v : Int32} : (wC cyI cyZ a σ).set 6 (a 6, .inr (7, ([.int (σ 6 0), .ref (a 7), .ref (a 8), .ref (a 9), .ref (a 10), .ref (a 11), .ref (a 12)] : List Value).set 0 (.int v))) = wC cyI cyZ a (st σ 6 0 v) := rfl
theorem gC_7 {cyI cyZ : ClassId} {a : Nat → Nat} {σ : Mem} : (wC cyI cyZ a σ)[7]? = some (a 7, .inl (cyI, 40, .inl (σ 7))) := rfl
theorem sC_7 {cyI cyZ : ClassId} {a : Nat → Nat} {σ : Mem} (j : Nat) (x : Int32) : (wC cyI cyZ a σ).set 7 (a 7, .inl (cyI, 40, .inl (upd (σ 7) j x))) = wC cyI cyZ a (st σ 7 j x) := rfl
theorem gC_8 {cyI cyZ : ClassId} {a : Nat → Nat} {σ : Mem} : (wC cyI cyZ a σ)[8]? = some (a 8, .inl (cyI, 120, .inl (σ 8))) := rfl
theorem sC_8 {cyI cyZ : ClassId} {a : Nat → Nat} {σ : Mem} (j : Nat) (x : Int32) : (wC cyI cyZ a σ).set 8 (a 8, .inl (cyI, 120, .inl (upd (σ 8) j x))) = wC cyI cyZ a (st σ 8 j x) := rfl
theorem gC_9 {cyI cyZ : ClassId} {a : Nat → Nat} {σ : Mem} : (wC cyI cyZ a σ)[9]? = some (a 9, .inl (cyI, 120, .inl (σ 9))) := rfl
theorem sC_9 {cyI cyZ : ClassId} {a : Nat → Nat} {σ : Mem} (j : Nat) (x : Int32) : (wC cyI cyZ a σ).set 9 (a 9, .inl (cyI, 120, .inl (upd (σ 9) j x))) = wC cyI cyZ a (st σ 9 j x) := rfl
theorem gC_10 {cyI cyZ : ClassId} {a : Nat → Nat} {σ : Mem} : (wC cyI cyZ a σ)[10]? = some (a 10, .inl (cyI, 120, .inl (σ 10))) := rfl
theorem sC_10 {cyI cyZ : ClassId} {a : Nat → Nat} {σ : Mem} (j : Nat) (x : Int32) : (wC cyI cyZ a σ).set 10 (a 10, .inl (cyI, 120, .inl (upd (σ 10) j x))) = wC cyI cyZ a (st σ 10 j x) := rfl
theorem gC_11 {cyI cyZ : ClassId} {a : Nat → Nat} {σ : Mem} : (wC cyI cyZ a σ)[11]? = some (a 11, .inl (cyI, 120, .inl (σ 11))) := rfl
theorem sC_11 {cyI cyZ : ClassId} {a : Nat → Nat} {σ : Mem} (j : Nat) (x : Int32) : (wC cyI cyZ a σ).set 11 (a 11, .inl (cyI, 120, .inl (upd (σ 11) j x))) = wC cyI cyZ a (st σ 11 j x) := rfl
theorem gC_12 {cyI cyZ : ClassId} {a : Nat → Nat} {σ : Mem} : (wC cyI cyZ a σ)[12]? = some (a 12, .inl (cyI, 120, .inl (σ 12))) := rfl
theorem sC_12 {cyI cyZ : ClassId} {a : Nat → Nat} {σ : Mem} (j : Nat) (x : Int32) : (wC cyI cyZ a σ).set 12 (a 12, .inl (cyI, 120, .inl (upd (σ 12) j x))) = wC cyI cyZ a (st σ 12 j x) := rfl
theorem gC_13 {cyI cyZ : ClassId} {a : Nat → Nat} {σ : Mem} : (wC cyI cyZ a σ)[13]? = some (a 13, .inr (3, [.int (σ 13 0), .ref (a 14), .ref (a 15)])) := rfl
theorem sC_13_0 {cyI cyZ : ClassId} {a : Nat → Nat} {σ : Mem} {v : Int32} : (wC cyI cyZ a σ).set 13 (a 13, .inr (3, ([.int (σ 13 0), .ref (a 14), .ref (a 15)] : List Value).set 0 (.int v))) = wC cyI cyZ a (st σ 13 0 v) := rfl
theorem gC_14 {cyI cyZ : ClassId} {a : Nat → Nat} {σ : Mem} : (wC cyI cyZ a σ)[14]? = some (a 14, .inl (cyZ, 8, .inl (σ 14))) := rfl
theorem sC_14 {cyI cyZ : ClassId} {a : Nat → Nat} {σ : Mem} (j : Nat) (x : Int32) : (wC cyI cyZ a σ).set 14 (a 14, .inl (cyZ, 8, .inl (upd (σ 14) j x))) = wC cyI cyZ a (st σ 14 j x) := rfl
theorem gC_15 {cyI cyZ : ClassId} {a : Nat → Nat} {σ : Mem} : (wC cyI cyZ a σ)[15]? = some (a 15, .inl (cyI, 8, .inl (σ 15))) := rfl
theorem sC_15 {cyI cyZ : ClassId} {a : Nat → Nat} {σ : Mem} (j : Nat) (x : Int32) : (wC cyI cyZ a σ).set 15 (a 15, .inl (cyI, 8, .inl (upd (σ 15) j x))) = wC cyI cyZ a (st σ 15 j x) := rfl
theorem gC_16 {cyI cyZ : ClassId} {a : Nat → Nat} {σ : Mem} : (wC cyI cyZ a σ)[16]? = some (a 16, .inr (5, [.ref (a 1), .ref (a 6), .ref (a 13), .ref (a 17), .ref (a 23), .ref (a 24), .ref (a 34), .ref (a (kx σ)), .ref (a (ky σ)), .int (σ 16 8), .int (σ 16 9)])) := rfl
theorem sC_16_8 {cyI cyZ : ClassId} {a : Nat → Nat} {σ : Mem} {v : Int32} : (wC cyI cyZ a σ).set 16 (a 16, .inr (5, ([.ref (a 1), .ref (a 6), .ref (a 13), .ref (a 17), .ref (a 23), .ref (a 24), .ref (a 34), .ref (a (kx σ)), .ref (a (ky σ)), .int (σ 16 8), .int (σ 16 9)] : List Value).set 9 (.int v))) = wC cyI cyZ a (st σ 16 8 v) := rfl
theorem sC_16_9 {cyI cyZ : ClassId} {a : Nat → Nat} {σ : Mem} {v : Int32} : (wC cyI cyZ a σ).set 16 (a 16, .inr (5, ([.ref (a 1), .ref (a 6), .ref (a 13), .ref (a 17), .ref (a 23), .ref (a 24), .ref (a 34), .ref (a (kx σ)), .ref (a (ky σ)), .int (σ 16 8), .int (σ 16 9)] : List Value).set 10 (.int v))) = wC cyI cyZ a (st σ 16 9 v) := rfl
theorem gC_17 {cyI cyZ : ClassId} {a : Nat → Nat} {σ : Mem} : (wC cyI cyZ a σ)[17]? = some (a 17, .inr (2, [.int (σ 17 0), .int (σ 17 1), .int (σ 17 2), .int (σ 17 3), .int (σ 17 4), .int (σ 17 5), .int (σ 17 6), .int (σ 17 7), .ref (a 18), .ref (a 19), .ref (a 20), .ref (a 21), .ref (a 22)])) := rfl
theorem sC_17_0 {cyI cyZ : ClassId} {a : Nat → Nat} {σ : Mem} {v : Int32} : (wC cyI cyZ a σ).set 17 (a 17, .inr (2, ([.int (σ 17 0), .int (σ 17 1), .int (σ 17 2), .int (σ 17 3), .int (σ 17 4), .int (σ 17 5), .int (σ 17 6), .int (σ 17 7), .ref (a 18), .ref (a 19), .ref (a 20), .ref (a 21), .ref (a 22)] : List Value).set 0 (.int v))) = wC cyI cyZ a (st σ 17 0 v) := rfl
theorem sC_17_1 {cyI cyZ : ClassId} {a : Nat → Nat} {σ : Mem} {v : Int32} : (wC cyI cyZ a σ).set 17 (a 17, .inr (2, ([.int (σ 17 0), .int (σ 17 1), .int (σ 17 2), .int (σ 17 3), .int (σ 17 4), .int (σ 17 5), .int (σ 17 6), .int (σ 17 7), .ref (a 18), .ref (a 19), .ref (a 20), .ref (a 21), .ref (a 22)] : List Value).set 1 (.int v))) = wC cyI cyZ a (st σ 17 1 v) := rfl
theorem sC_17_2 {cyI cyZ : ClassId} {a : Nat → Nat} {σ : Mem} {v : Int32} : (wC cyI cyZ a σ).set 17 (a 17, .inr (2, ([.int (σ 17 0), .int (σ 17 1), .int (σ 17 2), .int (σ 17 3), .int (σ 17 4), .int (σ 17 5), .int (σ 17 6), .int (σ 17 7), .ref (a 18), .ref (a 19), .ref (a 20), .ref (a 21), .ref (a 22)] : List Value).set 2 (.int v))) = wC cyI cyZ a (st σ 17 2 v) := rfl
theorem sC_17_3 {cyI cyZ : ClassId} {a : Nat → Nat} {σ : Mem} {v : Int32} : (wC cyI cyZ a σ).set 17 (a 17, .inr (2, ([.int (σ 17 0), .int (σ 17 1), .int (σ 17 2), .int (σ 17 3), .int (σ 17 4), .int (σ 17 5), .int (σ 17 6), .int (σ 17 7), .ref (a 18), .ref (a 19), .ref (a 20), .ref (a 21), .ref (a 22)] : List Value).set 3 (.int v))) = wC cyI cyZ a (st σ 17 3 v) := rfl
theorem sC_17_4 {cyI cyZ : ClassId} {a : Nat → Nat} {σ : Mem} {v : Int32} : (wC cyI cyZ a σ).set 17 (a 17, .inr (2, ([.int (σ 17 0), .int (σ 17 1), .int (σ 17 2), .int (σ 17 3), .int (σ 17 4), .int (σ 17 5), .int (σ 17 6), .int (σ 17 7), .ref (a 18), .ref (a 19), .ref (a 20), .ref (a 21), .ref (a 22)] : List Value).set 4 (.int v))) = wC cyI cyZ a (st σ 17 4 v) := rfl
theorem sC_17_5 {cyI cyZ : ClassId} {a : Nat → Nat} {σ : Mem} {v : Int32} : (wC cyI cyZ a σ).set 17 (a 17, .inr (2, ([.int (σ 17 0), .int (σ 17 1), .int (σ 17 2), .int (σ 17 3), .int (σ 17 4), .int (σ 17 5), .int (σ 17 6), .int (σ 17 7), .ref (a 18), .ref (a 19), .ref (a 20), .ref (a 21), .ref (a 22)] : List Value).set 5 (.int v))) = wC cyI cyZ a (st σ 17 5 v) := rfl
theorem sC_17_6 {cyI cyZ : ClassId} {a : Nat → Nat} {σ : Mem} {v : Int32} : (wC cyI cyZ a σ).set 17 (a 17, .inr (2, ([.int (σ 17 0), .int (σ 17 1), .int (σ 17 2), .int (σ 17 3), .int (σ 17 4), .int (σ 17 5), .int (σ 17 6), .int (σ 17 7), .ref (a 18), .ref (a 19), .ref (a 20), .ref (a 21), .ref (a 22)] : List Value).set 6 (.int v))) = wC cyI cyZ a (st σ 17 6 v) := rfl
theorem sC_17_7 {cyI cyZ : ClassId} {a : Nat → Nat} {σ : Mem} {v : Int32} : (wC cyI cyZ a σ).set 17 (a 17, .inr (2, ([.int (σ 17 0), .int (σ 17 1), .int (σ 17 2), .int (σ 17 3), .int (σ 17 4), .int (σ 17 5), .int (σ 17 6), .int (σ 17 7), .ref (a 18), .ref (a 19), .ref (a 20), .ref (a 21), .ref (a 22)] : List Value).set 7 (.int v))) = wC cyI cyZ a (st σ 17 7 v) := rfl
theorem gC_18 {cyI cyZ : ClassId} {a : Nat → Nat} {σ : Mem} : (wC cyI cyZ a σ)[18]? = some (a 18, .inl (cyI, 8, .inl (σ 18))) := rfl
theorem sC_18 {cyI cyZ : ClassId} {a : Nat → Nat} {σ : Mem} (j : Nat) (x : Int32) : (wC cyI cyZ a σ).set 18 (a 18, .inl (cyI, 8, .inl (upd (σ 18) j x))) = wC cyI cyZ a (st σ 18 j x) := rfl
theorem gC_19 {cyI cyZ : ClassId} {a : Nat → Nat} {σ : Mem} : (wC cyI cyZ a σ)[19]? = some (a 19, .inl (cyI, 8, .inl (σ 19))) := rfl
theorem sC_19 {cyI cyZ : ClassId} {a : Nat → Nat} {σ : Mem} (j : Nat) (x : Int32) : (wC cyI cyZ a σ).set 19 (a 19, .inl (cyI, 8, .inl (upd (σ 19) j x))) = wC cyI cyZ a (st σ 19 j x) := rfl
theorem gC_20 {cyI cyZ : ClassId} {a : Nat → Nat} {σ : Mem} : (wC cyI cyZ a σ)[20]? = some (a 20, .inl (cyI, 8, .inl (σ 20))) := rfl
theorem sC_20 {cyI cyZ : ClassId} {a : Nat → Nat} {σ : Mem} (j : Nat) (x : Int32) : (wC cyI cyZ a σ).set 20 (a 20, .inl (cyI, 8, .inl (upd (σ 20) j x))) = wC cyI cyZ a (st σ 20 j x) := rfl
theorem gC_21 {cyI cyZ : ClassId} {a : Nat → Nat} {σ : Mem} : (wC cyI cyZ a σ)[21]? = some (a 21, .inl (cyI, 8, .inl (σ 21))) := rfl
theorem sC_21 {cyI cyZ : ClassId} {a : Nat → Nat} {σ : Mem} (j : Nat) (x : Int32) : (wC cyI cyZ a σ).set 21 (a 21, .inl (cyI, 8, .inl (upd (σ 21) j x))) = wC cyI cyZ a (st σ 21 j x) := rfl
theorem gC_22 {cyI cyZ : ClassId} {a : Nat → Nat} {σ : Mem} : (wC cyI cyZ a σ)[22]? = some (a 22, .inl (cyI, 8, .inl (σ 22))) := rfl
theorem sC_22 {cyI cyZ : ClassId} {a : Nat → Nat} {σ : Mem} (j : Nat) (x : Int32) : (wC cyI cyZ a σ).set 22 (a 22, .inl (cyI, 8, .inl (upd (σ 22) j x))) = wC cyI cyZ a (st σ 22 j x) := rfl
theorem gC_23 {cyI cyZ : ClassId} {a : Nat → Nat} {σ : Mem} : (wC cyI cyZ a σ)[23]? = some (a 23, .inl (cyI, 794, .inl (σ 23))) := rfl
theorem sC_23 {cyI cyZ : ClassId} {a : Nat → Nat} {σ : Mem} (j : Nat) (x : Int32) : (wC cyI cyZ a σ).set 23 (a 23, .inl (cyI, 794, .inl (upd (σ 23) j x))) = wC cyI cyZ a (st σ 23 j x) := rfl
theorem gC_24 {cyI cyZ : ClassId} {a : Nat → Nat} {σ : Mem} : (wC cyI cyZ a σ)[24]? = some (a 24, .inl (cyI, 9, .inl (σ 24))) := rfl
theorem sC_24 {cyI cyZ : ClassId} {a : Nat → Nat} {σ : Mem} (j : Nat) (x : Int32) : (wC cyI cyZ a σ).set 24 (a 24, .inl (cyI, 9, .inl (upd (σ 24) j x))) = wC cyI cyZ a (st σ 24 j x) := rfl
theorem gC_27 {cyI cyZ : ClassId} {a : Nat → Nat} {σ : Mem} : (wC cyI cyZ a σ)[27]? = some (a 27, .inr (1, [.ref (a 1), .ref (a 28)])) := rfl
theorem gC_28 {cyI cyZ : ClassId} {a : Nat → Nat} {σ : Mem} : (wC cyI cyZ a σ)[28]? = some (a 28, .inl (cyI, 288, .inl (σ 28))) := rfl
theorem sC_28 {cyI cyZ : ClassId} {a : Nat → Nat} {σ : Mem} (j : Nat) (x : Int32) : (wC cyI cyZ a σ).set 28 (a 28, .inl (cyI, 288, .inl (upd (σ 28) j x))) = wC cyI cyZ a (st σ 28 j x) := rfl
theorem gC_29 {cyI cyZ : ClassId} {a : Nat → Nat} {σ : Mem} : (wC cyI cyZ a σ)[29]? = some (a 29, .inr (0, [.ref (a 13), .ref (a 16), .ref (a 27), .ref (a 30), .ref (a 33), .int (σ 29 5)])) := rfl
theorem sC_29_5 {cyI cyZ : ClassId} {a : Nat → Nat} {σ : Mem} {v : Int32} : (wC cyI cyZ a σ).set 29 (a 29, .inr (0, ([.ref (a 13), .ref (a 16), .ref (a 27), .ref (a 30), .ref (a 33), .int (σ 29 5)] : List Value).set 5 (.int v))) = wC cyI cyZ a (st σ 29 5 v) := rfl
theorem gC_30 {cyI cyZ : ClassId} {a : Nat → Nat} {σ : Mem} : (wC cyI cyZ a σ)[30]? = some (a 30, .inr (4, [.ref (a 31), .ref (a 32), .int (σ 30 2), .int (σ 30 3)])) := rfl
theorem sC_30_2 {cyI cyZ : ClassId} {a : Nat → Nat} {σ : Mem} {v : Int32} : (wC cyI cyZ a σ).set 30 (a 30, .inr (4, ([.ref (a 31), .ref (a 32), .int (σ 30 2), .int (σ 30 3)] : List Value).set 2 (.int v))) = wC cyI cyZ a (st σ 30 2 v) := rfl
theorem sC_30_3 {cyI cyZ : ClassId} {a : Nat → Nat} {σ : Mem} {v : Int32} : (wC cyI cyZ a σ).set 30 (a 30, .inr (4, ([.ref (a 31), .ref (a 32), .int (σ 30 2), .int (σ 30 3)] : List Value).set 3 (.int v))) = wC cyI cyZ a (st σ 30 3 v) := rfl
theorem gC_31 {cyI cyZ : ClassId} {a : Nat → Nat} {σ : Mem} : (wC cyI cyZ a σ)[31]? = some (a 31, .inl (cyI, 8192, .inl (σ 31))) := rfl
theorem sC_31 {cyI cyZ : ClassId} {a : Nat → Nat} {σ : Mem} (j : Nat) (x : Int32) : (wC cyI cyZ a σ).set 31 (a 31, .inl (cyI, 8192, .inl (upd (σ 31) j x))) = wC cyI cyZ a (st σ 31 j x) := rfl
theorem gC_32 {cyI cyZ : ClassId} {a : Nat → Nat} {σ : Mem} : (wC cyI cyZ a σ)[32]? = some (a 32, .inl (cyI, 8192, .inl (σ 32))) := rfl
theorem sC_32 {cyI cyZ : ClassId} {a : Nat → Nat} {σ : Mem} (j : Nat) (x : Int32) : (wC cyI cyZ a σ).set 32 (a 32, .inl (cyI, 8192, .inl (upd (σ 32) j x))) = wC cyI cyZ a (st σ 32 j x) := rfl
theorem gC_33 {cyI cyZ : ClassId} {a : Nat → Nat} {σ : Mem} : (wC cyI cyZ a σ)[33]? = some (a 33, .inl (cyI, 6561, .inl (σ 33))) := rfl
theorem sC_33 {cyI cyZ : ClassId} {a : Nat → Nat} {σ : Mem} (j : Nat) (x : Int32) : (wC cyI cyZ a σ).set 33 (a 33, .inl (cyI, 6561, .inl (upd (σ 33) j x))) = wC cyI cyZ a (st σ 33 j x) := rfl
theorem gC_34 {cyI cyZ : ClassId} {a : Nat → Nat} {σ : Mem} : (wC cyI cyZ a σ)[34]? = some (a 34, .inl (cyI, 9, .inl (σ 34))) := rfl
theorem sC_34 {cyI cyZ : ClassId} {a : Nat → Nat} {σ : Mem} (j : Nat) (x : Int32) : (wC cyI cyZ a σ).set 34 (a 34, .inl (cyI, 9, .inl (upd (σ 34) j x))) = wC cyI cyZ a (st σ 34 j x) := rfl
theorem gM_0 {cyI cyZ : ClassId} {a : Nat → Nat} {σ : Mem} : (wM cyI cyZ a σ)[0]? = some (a 0, .inr (9, [.ref (a 1), .ref (a 2), .ref (a 3), .ref (a 4), .int (σ 0 4), .ref (a 5), .ref (a 6), .ref (a 7), .ref (a 8), .ref (a 9), .ref (a 10), .ref (a 11), .ref (a 12), .int (σ 0 13), .ref (a 13), .ref (a 14), .ref (a 15), .ref (a 16), .ref (a 17), .ref (a 18), .ref (a 19), .ref (a 20), .int (σ 0 22), .ref (a 21), .int (σ 0 24), .int (σ 0 25), .int (σ 0 26), .int (σ 0 27), .ref (a 22), .ref (a 23), .ref (a 24), .ref (a 25), .int (σ 0 32), .ref (a 26)])) := rfl
theorem sM_0_4 {cyI cyZ : ClassId} {a : Nat → Nat} {σ : Mem} {v : Int32} : (wM cyI cyZ a σ).set 0 (a 0, .inr (9, ([.ref (a 1), .ref (a 2), .ref (a 3), .ref (a 4), .int (σ 0 4), .ref (a 5), .ref (a 6), .ref (a 7), .ref (a 8), .ref (a 9), .ref (a 10), .ref (a 11), .ref (a 12), .int (σ 0 13), .ref (a 13), .ref (a 14), .ref (a 15), .ref (a 16), .ref (a 17), .ref (a 18), .ref (a 19), .ref (a 20), .int (σ 0 22), .ref (a 21), .int (σ 0 24), .int (σ 0 25), .int (σ 0 26), .int (σ 0 27), .ref (a 22), .ref (a 23), .ref (a 24), .ref (a 25), .int (σ 0 32), .ref (a 26)] : List Value).set 4 (.int v))) = wM cyI cyZ a (st σ 0 4 v) := rfl
theorem sM_0_13 {cyI cyZ : ClassId} {a : Nat → Nat} {σ : Mem} {v : Int32} : (wM cyI cyZ a σ).set 0 (a 0, .inr (9, ([.ref (a 1), .ref (a 2), .ref (a 3), .ref (a 4), .int (σ 0 4), .ref (a 5), .ref (a 6), .ref (a 7), .ref (a 8), .ref (a 9), .ref (a 10), .ref (a 11), .ref (a 12), .int (σ 0 13), .ref (a 13), .ref (a 14), .ref (a 15), .ref (a 16), .ref (a 17), .ref (a 18), .ref (a 19), .ref (a 20), .int (σ 0 22), .ref (a 21), .int (σ 0 24), .int (σ 0 25), .int (σ 0 26), .int (σ 0 27), .ref (a 22), .ref (a 23), .ref (a 24), .ref (a 25), .int (σ 0 32), .ref (a 26)] : List Value).set 13 (.int v))) = wM cyI cyZ a (st σ 0 13 v) := rfl
theorem sM_0_22 {cyI cyZ : ClassId} {a : Nat → Nat} {σ : Mem} {v : Int32} : (wM cyI cyZ a σ).set 0 (a 0, .inr (9, ([.ref (a 1), .ref (a 2), .ref (a 3), .ref (a 4), .int (σ 0 4), .ref (a 5), .ref (a 6), .ref (a 7), .ref (a 8), .ref (a 9), .ref (a 10), .ref (a 11), .ref (a 12), .int (σ 0 13), .ref (a 13), .ref (a 14), .ref (a 15), .ref (a 16), .ref (a 17), .ref (a 18), .ref (a 19), .ref (a 20), .int (σ 0 22), .ref (a 21), .int (σ 0 24), .int (σ 0 25), .int (σ 0 26), .int (σ 0 27), .ref (a 22), .ref (a 23), .ref (a 24), .ref (a 25), .int (σ 0 32), .ref (a 26)] : List Value).set 22 (.int v))) = wM cyI cyZ a (st σ 0 22 v) := rfl
theorem sM_0_24 {cyI cyZ : ClassId} {a : Nat → Nat} {σ : Mem} {v : Int32} : (wM cyI cyZ a σ).set 0 (a 0, .inr (9, ([.ref (a 1), .ref (a 2), .ref (a 3), .ref (a 4), .int (σ 0 4), .ref (a 5), .ref (a 6), .ref (a 7), .ref (a 8), .ref (a 9), .ref (a 10), .ref (a 11), .ref (a 12), .int (σ 0 13), .ref (a 13), .ref (a 14), .ref (a 15), .ref (a 16), .ref (a 17), .ref (a 18), .ref (a 19), .ref (a 20), .int (σ 0 22), .ref (a 21), .int (σ 0 24), .int (σ 0 25), .int (σ 0 26), .int (σ 0 27), .ref (a 22), .ref (a 23), .ref (a 24), .ref (a 25), .int (σ 0 32), .ref (a 26)] : List Value).set 24 (.int v))) = wM cyI cyZ a (st σ 0 24 v) := rfl
theorem sM_0_25 {cyI cyZ : ClassId} {a : Nat → Nat} {σ : Mem} {v : Int32} : (wM cyI cyZ a σ).set 0 (a 0, .inr (9, ([.ref (a 1), .ref (a 2), .ref (a 3), .ref (a 4), .int (σ 0 4), .ref (a 5), .ref (a 6), .ref (a 7), .ref (a 8), .ref (a 9), .ref (a 10), .ref (a 11), .ref (a 12), .int (σ 0 13), .ref (a 13), .ref (a 14), .ref (a 15), .ref (a 16), .ref (a 17), .ref (a 18), .ref (a 19), .ref (a 20), .int (σ 0 22), .ref (a 21), .int (σ 0 24), .int (σ 0 25), .int (σ 0 26), .int (σ 0 27), .ref (a 22), .ref (a 23), .ref (a 24), .ref (a 25), .int (σ 0 32), .ref (a 26)] : List Value).set 25 (.int v))) = wM cyI cyZ a (st σ 0 25 v) := rfl
theorem sM_0_26 {cyI cyZ : ClassId} {a : Nat → Nat} {σ : Mem} {v : Int32} : (wM cyI cyZ a σ).set 0 (a 0, .inr (9, ([.ref (a 1), .ref (a 2), .ref (a 3), .ref (a 4), .int (σ 0 4), .ref (a 5), .ref (a 6), .ref (a 7), .ref (a 8), .ref (a 9), .ref (a 10), .ref (a 11), .ref (a 12), .int (σ 0 13), .ref (a 13), .ref (a 14), .ref (a 15), .ref (a 16), .ref (a 17), .ref (a 18), .ref (a 19), .ref (a 20), .int (σ 0 22), .ref (a 21), .int (σ 0 24), .int (σ 0 25), .int (σ 0 26), .int (σ 0 27), .ref (a 22), .ref (a 23), .ref (a 24), .ref (a 25), .int (σ 0 32), .ref (a 26)] : List Value).set 26 (.int v))) = wM cyI cyZ a (st σ 0 26 v) := rfl
theorem sM_0_27 {cyI cyZ : ClassId} {a : Nat → Nat} {σ : Mem} {v : Int32} : (wM cyI cyZ a σ).set 0 (a 0, .inr (9, ([.ref (a 1), .ref (a 2), .ref (a 3), .ref (a 4), .int (σ 0 4), .ref (a 5), .ref (a 6), .ref (a 7), .ref (a 8), .ref (a 9), .ref (a 10), .ref (a 11), .ref (a 12), .int (σ 0 13), .ref (a 13), .ref (a 14), .ref (a 15), .ref (a 16), .ref (a 17), .ref (a 18), .ref (a 19), .ref (a 20), .int (σ 0 22), .ref (a 21), .int (σ 0 24), .int (σ 0 25), .int (σ 0 26), .int (σ 0 27), .ref (a 22), .ref (a 23), .ref (a 24), .ref (a 25), .int (σ 0 32), .ref (a 26)] : List Value).set 27 (.int v))) = wM cyI cyZ a (st σ 0 27 v) := rfl
theorem sM_0_32 {cyI cyZ : ClassId} {a : Nat → Nat} {σ : Mem} {v : Int32} : (wM cyI cyZ a σ).set 0 (a 0, .inr (9, ([.ref (a 1), .ref (a 2), .ref (a 3), .ref (a 4), .int (σ 0 4), .ref (a 5), .ref (a 6), .ref (a 7), .ref (a 8), .ref (a 9), .ref (a 10), .ref (a 11), .ref (a 12), .int (σ 0 13), .ref (a 13), .ref (a 14), .ref (a 15), .ref (a 16), .ref (a 17), .ref (a 18), .ref (a 19), .ref (a 20), .int (σ 0 22), .ref (a 21), .int (σ 0 24), .int (σ 0 25), .int (σ 0 26), .int (σ 0 27), .ref (a 22), .ref (a 23), .ref (a 24), .ref (a 25), .int (σ 0 32), .ref (a 26)] : List Value).set 32 (.int v))) = wM cyI cyZ a (st σ 0 32 v) := rfl
theorem gM_1 {cyI cyZ : ClassId} {a : Nat → Nat} {σ : Mem} : (wM cyI cyZ a σ)[1]? = some (a 1, .inl (cyI, 4, .inl (σ 1))) := rfl
theorem sM_1 {cyI cyZ : ClassId} {a : Nat → Nat} {σ : Mem} (j : Nat) (x : Int32) : (wM cyI cyZ a σ).set 1 (a 1, .inl (cyI, 4, .inl (upd (σ 1) j x))) = wM cyI cyZ a (st σ 1 j x) := rfl
theorem gM_2 {cyI cyZ : ClassId} {a : Nat → Nat} {σ : Mem} : (wM cyI cyZ a σ)[2]? = some (a 2, .inl (cyI, 4, .inl (σ 2))) := rfl
theorem sM_2 {cyI cyZ : ClassId} {a : Nat → Nat} {σ : Mem} (j : Nat) (x : Int32) : (wM cyI cyZ a σ).set 2 (a 2, .inl (cyI, 4, .inl (upd (σ 2) j x))) = wM cyI cyZ a (st σ 2 j x) := rfl
theorem gM_3 {cyI cyZ : ClassId} {a : Nat → Nat} {σ : Mem} : (wM cyI cyZ a σ)[3]? = some (a 3, .inl (cyI, 320, .inl (σ 3))) := rfl
theorem sM_3 {cyI cyZ : ClassId} {a : Nat → Nat} {σ : Mem} (j : Nat) (x : Int32) : (wM cyI cyZ a σ).set 3 (a 3, .inl (cyI, 320, .inl (upd (σ 3) j x))) = wM cyI cyZ a (st σ 3 j x) := rfl
theorem gM_4 {cyI cyZ : ClassId} {a : Nat → Nat} {σ : Mem} : (wM cyI cyZ a σ)[4]? = some (a 4, .inl (cyI, 16, .inl (σ 4))) := rfl
theorem sM_4 {cyI cyZ : ClassId} {a : Nat → Nat} {σ : Mem} (j : Nat) (x : Int32) : (wM cyI cyZ a σ).set 4 (a 4, .inl (cyI, 16, .inl (upd (σ 4) j x))) = wM cyI cyZ a (st σ 4 j x) := rfl
theorem gM_5 {cyI cyZ : ClassId} {a : Nat → Nat} {σ : Mem} : (wM cyI cyZ a σ)[5]? = some (a 5, .inl (cyI, 40, .inl (σ 5))) := rfl
theorem sM_5 {cyI cyZ : ClassId} {a : Nat → Nat} {σ : Mem} (j : Nat) (x : Int32) : (wM cyI cyZ a σ).set 5 (a 5, .inl (cyI, 40, .inl (upd (σ 5) j x))) = wM cyI cyZ a (st σ 5 j x) := rfl
theorem gM_6 {cyI cyZ : ClassId} {a : Nat → Nat} {σ : Mem} : (wM cyI cyZ a σ)[6]? = some (a 6, .inl (cyI, 120, .inl (σ 6))) := rfl
theorem sM_6 {cyI cyZ : ClassId} {a : Nat → Nat} {σ : Mem} (j : Nat) (x : Int32) : (wM cyI cyZ a σ).set 6 (a 6, .inl (cyI, 120, .inl (upd (σ 6) j x))) = wM cyI cyZ a (st σ 6 j x) := rfl
theorem gM_7 {cyI cyZ : ClassId} {a : Nat → Nat} {σ : Mem} : (wM cyI cyZ a σ)[7]? = some (a 7, .inl (cyI, 120, .inl (σ 7))) := rfl
theorem sM_7 {cyI cyZ : ClassId} {a : Nat → Nat} {σ : Mem} (j : Nat) (x : Int32) : (wM cyI cyZ a σ).set 7 (a 7, .inl (cyI, 120, .inl (upd (σ 7) j x))) = wM cyI cyZ a (st σ 7 j x) := rfl
theorem gM_8 {cyI cyZ : ClassId} {a : Nat → Nat} {σ : Mem} : (wM cyI cyZ a σ)[8]? = some (a 8, .inl (cyI, 120, .inl (σ 8))) := rfl
theorem sM_8 {cyI cyZ : ClassId} {a : Nat → Nat} {σ : Mem} (j : Nat) (x : Int32) : (wM cyI cyZ a σ).set 8 (a 8, .inl (cyI, 120, .inl (upd (σ 8) j x))) = wM cyI cyZ a (st σ 8 j x) := rfl
theorem gM_9 {cyI cyZ : ClassId} {a : Nat → Nat} {σ : Mem} : (wM cyI cyZ a σ)[9]? = some (a 9, .inl (cyI, 120, .inl (σ 9))) := rfl
theorem sM_9 {cyI cyZ : ClassId} {a : Nat → Nat} {σ : Mem} (j : Nat) (x : Int32) : (wM cyI cyZ a σ).set 9 (a 9, .inl (cyI, 120, .inl (upd (σ 9) j x))) = wM cyI cyZ a (st σ 9 j x) := rfl
theorem gM_10 {cyI cyZ : ClassId} {a : Nat → Nat} {σ : Mem} : (wM cyI cyZ a σ)[10]? = some (a 10, .inl (cyI, 120, .inl (σ 10))) := rfl
theorem sM_10 {cyI cyZ : ClassId} {a : Nat → Nat} {σ : Mem} (j : Nat) (x : Int32) : (wM cyI cyZ a σ).set 10 (a 10, .inl (cyI, 120, .inl (upd (σ 10) j x))) = wM cyI cyZ a (st σ 10 j x) := rfl
theorem gM_11 {cyI cyZ : ClassId} {a : Nat → Nat} {σ : Mem} : (wM cyI cyZ a σ)[11]? = some (a 11, .inl (cyI, 8, .inl (σ 11))) := rfl
theorem sM_11 {cyI cyZ : ClassId} {a : Nat → Nat} {σ : Mem} (j : Nat) (x : Int32) : (wM cyI cyZ a σ).set 11 (a 11, .inl (cyI, 8, .inl (upd (σ 11) j x))) = wM cyI cyZ a (st σ 11 j x) := rfl
theorem gM_12 {cyI cyZ : ClassId} {a : Nat → Nat} {σ : Mem} : (wM cyI cyZ a σ)[12]? = some (a 12, .inl (cyZ, 8, .inl (σ 12))) := rfl
theorem sM_12 {cyI cyZ : ClassId} {a : Nat → Nat} {σ : Mem} (j : Nat) (x : Int32) : (wM cyI cyZ a σ).set 12 (a 12, .inl (cyZ, 8, .inl (upd (σ 12) j x))) = wM cyI cyZ a (st σ 12 j x) := rfl
theorem gM_13 {cyI cyZ : ClassId} {a : Nat → Nat} {σ : Mem} : (wM cyI cyZ a σ)[13]? = some (a 13, .inl (cyI, 6561, .inl (σ 13))) := rfl
theorem sM_13 {cyI cyZ : ClassId} {a : Nat → Nat} {σ : Mem} (j : Nat) (x : Int32) : (wM cyI cyZ a σ).set 13 (a 13, .inl (cyI, 6561, .inl (upd (σ 13) j x))) = wM cyI cyZ a (st σ 13 j x) := rfl
theorem gM_14 {cyI cyZ : ClassId} {a : Nat → Nat} {σ : Mem} : (wM cyI cyZ a σ)[14]? = some (a 14, .inl (cyI, 6561, .inl (σ 14))) := rfl
theorem sM_14 {cyI cyZ : ClassId} {a : Nat → Nat} {σ : Mem} (j : Nat) (x : Int32) : (wM cyI cyZ a σ).set 14 (a 14, .inl (cyI, 6561, .inl (upd (σ 14) j x))) = wM cyI cyZ a (st σ 14 j x) := rfl
theorem gM_15 {cyI cyZ : ClassId} {a : Nat → Nat} {σ : Mem} : (wM cyI cyZ a σ)[15]? = some (a 15, .inl (cyI, 6561, .inl (σ 15))) := rfl
theorem sM_15 {cyI cyZ : ClassId} {a : Nat → Nat} {σ : Mem} (j : Nat) (x : Int32) : (wM cyI cyZ a σ).set 15 (a 15, .inl (cyI, 6561, .inl (upd (σ 15) j x))) = wM cyI cyZ a (st σ 15 j x) := rfl
theorem gM_16 {cyI cyZ : ClassId} {a : Nat → Nat} {σ : Mem} : (wM cyI cyZ a σ)[16]? = some (a 16, .inl (cyI, 6561, .inl (σ 16))) := rfl
theorem sM_16 {cyI cyZ : ClassId} {a : Nat → Nat} {σ : Mem} (j : Nat) (x : Int32) : (wM cyI cyZ a σ).set 16 (a 16, .inl (cyI, 6561, .inl (upd (σ 16) j x))) = wM cyI cyZ a (st σ 16 j x) := rfl
theorem gM_17 {cyI cyZ : ClassId} {a : Nat → Nat} {σ : Mem} : (wM cyI cyZ a σ)[17]? = some (a 17, .inl (cyI, 902, .inl (σ 17))) := rfl
theorem sM_17 {cyI cyZ : ClassId} {a : Nat → Nat} {σ : Mem} (j : Nat) (x : Int32) : (wM cyI cyZ a σ).set 17 (a 17, .inl (cyI, 902, .inl (upd (σ 17) j x))) = wM cyI cyZ a (st σ 17 j x) := rfl
theorem gM_18 {cyI cyZ : ClassId} {a : Nat → Nat} {σ : Mem} : (wM cyI cyZ a σ)[18]? = some (a 18, .inl (cyI, 16384, .inl (σ 18))) := rfl
theorem sM_18 {cyI cyZ : ClassId} {a : Nat → Nat} {σ : Mem} (j : Nat) (x : Int32) : (wM cyI cyZ a σ).set 18 (a 18, .inl (cyI, 16384, .inl (upd (σ 18) j x))) = wM cyI cyZ a (st σ 18 j x) := rfl
theorem gM_19 {cyI cyZ : ClassId} {a : Nat → Nat} {σ : Mem} : (wM cyI cyZ a σ)[19]? = some (a 19, .inl (cyI, 6561, .inl (σ 19))) := rfl
theorem sM_19 {cyI cyZ : ClassId} {a : Nat → Nat} {σ : Mem} (j : Nat) (x : Int32) : (wM cyI cyZ a σ).set 19 (a 19, .inl (cyI, 6561, .inl (upd (σ 19) j x))) = wM cyI cyZ a (st σ 19 j x) := rfl
theorem gM_20 {cyI cyZ : ClassId} {a : Nat → Nat} {σ : Mem} : (wM cyI cyZ a σ)[20]? = some (a 20, .inl (cyZ, 6561, .inl (σ 20))) := rfl
theorem sM_20 {cyI cyZ : ClassId} {a : Nat → Nat} {σ : Mem} (j : Nat) (x : Int32) : (wM cyI cyZ a σ).set 20 (a 20, .inl (cyZ, 6561, .inl (upd (σ 20) j x))) = wM cyI cyZ a (st σ 20 j x) := rfl
theorem gM_21 {cyI cyZ : ClassId} {a : Nat → Nat} {σ : Mem} : (wM cyI cyZ a σ)[21]? = some (a 21, .inl (cyI, 8, .inl (σ 21))) := rfl
theorem sM_21 {cyI cyZ : ClassId} {a : Nat → Nat} {σ : Mem} (j : Nat) (x : Int32) : (wM cyI cyZ a σ).set 21 (a 21, .inl (cyI, 8, .inl (upd (σ 21) j x))) = wM cyI cyZ a (st σ 21 j x) := rfl
theorem gM_22 {cyI cyZ : ClassId} {a : Nat → Nat} {σ : Mem} : (wM cyI cyZ a σ)[22]? = some (a 22, .inl (cyI, 8, .inl (σ 22))) := rfl
theorem sM_22 {cyI cyZ : ClassId} {a : Nat → Nat} {σ : Mem} (j : Nat) (x : Int32) : (wM cyI cyZ a σ).set 22 (a 22, .inl (cyI, 8, .inl (upd (σ 22) j x))) = wM cyI cyZ a (st σ 22 j x) := rfl
theorem gM_23 {cyI cyZ : ClassId} {a : Nat → Nat} {σ : Mem} : (wM cyI cyZ a σ)[23]? = some (a 23, .inl (cyI, 8, .inl (σ 23))) := rfl
theorem sM_23 {cyI cyZ : ClassId} {a : Nat → Nat} {σ : Mem} (j : Nat) (x : Int32) : (wM cyI cyZ a σ).set 23 (a 23, .inl (cyI, 8, .inl (upd (σ 23) j x))) = wM cyI cyZ a (st σ 23 j x) := rfl
theorem gM_24 {cyI cyZ : ClassId} {a : Nat → Nat} {σ : Mem} : (wM cyI cyZ a σ)[24]? = some (a 24, .inl (cyI, 8, .inl (σ 24))) := rfl
theorem sM_24 {cyI cyZ : ClassId} {a : Nat → Nat} {σ : Mem} (j : Nat) (x : Int32) : (wM cyI cyZ a σ).set 24 (a 24, .inl (cyI, 8, .inl (upd (σ 24) j x))) = wM cyI cyZ a (st σ 24 j x) := rfl
theorem gM_25 {cyI cyZ : ClassId} {a : Nat → Nat} {σ : Mem} : (wM cyI cyZ a σ)[25]? = some (a 25, .inl (cyI, 8, .inl (σ 25))) := rfl
theorem sM_25 {cyI cyZ : ClassId} {a : Nat → Nat} {σ : Mem} (j : Nat) (x : Int32) : (wM cyI cyZ a σ).set 25 (a 25, .inl (cyI, 8, .inl (upd (σ 25) j x))) = wM cyI cyZ a (st σ 25 j x) := rfl
theorem gM_26 {cyI cyZ : ClassId} {a : Nat → Nat} {σ : Mem} : (wM cyI cyZ a σ)[26]? = some (a 26, .inl (cyI, 6561, .inl (σ 26))) := rfl
theorem sM_26 {cyI cyZ : ClassId} {a : Nat → Nat} {σ : Mem} (j : Nat) (x : Int32) : (wM cyI cyZ a σ).set 26 (a 26, .inl (cyI, 6561, .inl (upd (σ 26) j x))) = wM cyI cyZ a (st σ 26 j x) := rfl
theorem gC_K {cyI cyZ : ClassId} {a : Nat → Nat} {σ : Mem} : (wC cyI cyZ a σ)[kx σ]? = some (a (kx σ), .inl (cyI, 6561, .inl (σ 25))) := by
  by_cases h : σ 16 10 = 0
  · simp [wC, kx, ky, h]
  · simp [wC, kx, ky, h]
theorem gC_S {cyI cyZ : ClassId} {a : Nat → Nat} {σ : Mem} : (wC cyI cyZ a σ)[ky σ]? = some (a (ky σ), .inl (cyI, 6561, .inl (σ 26))) := by
  by_cases h : σ 16 10 = 0
  · simp [wC, kx, ky, h]
  · simp [wC, kx, ky, h]
theorem sC_K {cyI cyZ : ClassId} {a : Nat → Nat} {σ : Mem} (j : Nat) (x : Int32) : (wC cyI cyZ a σ).set (kx σ) (a (kx σ), .inl (cyI, 6561, .inl (upd (σ 25) j x))) = wC cyI cyZ a (st σ 25 j x) := by
  by_cases h : σ 16 10 = 0
  · simp [wC, kx, ky, h, st]
  · simp [wC, kx, ky, h, st]
theorem sC_S {cyI cyZ : ClassId} {a : Nat → Nat} {σ : Mem} (j : Nat) (x : Int32) : (wC cyI cyZ a σ).set (ky σ) (a (ky σ), .inl (cyI, 6561, .inl (upd (σ 26) j x))) = wC cyI cyZ a (st σ 26 j x) := by
  by_cases h : σ 16 10 = 0
  · simp [wC, kx, ky, h, st]
  · simp [wC, kx, ky, h, st]
