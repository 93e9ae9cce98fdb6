noncomputable def F_X0_spoil (σ : Mem) : Option Mem :=
  (some (st σ 29 5 (0 : Int32))).bind fun σ1 =>
  some σ1
noncomputable def F_X3_isWordAt (σ : Mem) (x1 : Int32) : Option Int32 :=
  if x1 < (0 : Int32) then
    some (0 : Int32)
  else
    if (σ 13 0) ≤ x1 then
      some (0 : Int32)
    else
      (ld 8 (σ 14) x1).bind fun v3 =>
      if v3 = (0 : Int32) then
        some (1 : Int32)
      else
        some (0 : Int32)
noncomputable def F_X3_tokenAt (σ : Mem) (x1 : Int32) : Option Int32 :=
  (ld 8 (σ 15) x1).bind fun v1 =>
  some v1
noncomputable def F_X5_meaningIn (x0 : Int32) (x1 : Int32) : Int32 :=
  ((x0 >>> ((((7 : Int32) - x1) * (2 : Int32)) &&& 31)) &&& (3 : Int32))
noncomputable def F_X7_spotOf (σ : Mem) (x1 : Int32) (x2 : Int32) : Int32 :=
  ((x1 * (3 : Int32)) + x2)
noncomputable def F_X7_sortAt (σ : Mem) (x1 : Int32) : Option Int32 :=
  (ld 120 (σ 8) x1).bind fun v1 =>
  some v1
noncomputable def F_X2_start (σ : Mem) : Option Mem :=
  (some (st σ 17 0 (0 : Int32))).bind fun σ1 =>
  (some (st σ1 17 1 (0 : Int32))).bind fun σ3 =>
  (some (st σ3 17 2 (0 : Int32))).bind fun σ5 =>
  (some (st σ5 17 3 (-1 : Int32))).bind fun σ7 =>
  (some (st σ7 17 4 (0 : Int32))).bind fun σ9 =>
  (some (st σ9 17 5 (-1 : Int32))).bind fun σ11 =>
  (some (st σ11 17 6 (-1 : Int32))).bind fun σ13 =>
  (some (st σ13 17 7 (0 : Int32))).bind fun σ15 =>
  some σ15
noncomputable def F_X7_aAt (σ : Mem) (x1 : Int32) : Option Int32 :=
  (ld 120 (σ 9) x1).bind fun v1 =>
  some v1
noncomputable def F_X7_bAt (σ : Mem) (x1 : Int32) : Option Int32 :=
  (ld 120 (σ 10) x1).bind fun v1 =>
  some v1
noncomputable def F_X2_tellTable (σ : Mem) (x1 : Int32) : Option Mem :=
  (some (st σ 17 2 ((σ 17 2) + (1 : Int32)))).bind fun σ1 =>
  (some (st σ1 17 3 x1)).bind fun σ3 =>
  some σ3
noncomputable def F_X2_tellWanted (σ : Mem) (x1 : Int32) (x2 : Int32) : Option Mem :=
  (some (st σ 17 4 ((σ 17 4) + (1 : Int32)))).bind fun σ1 =>
  (some (st σ1 17 6 x1)).bind fun σ3 =>
  (some (st σ3 17 5 x2)).bind fun σ5 =>
  some σ5
noncomputable def F_X2_tellDoing (σ : Mem) (x1 : Int32) : Option Mem :=
  (some (st σ 17 0 ((σ 17 0) + (1 : Int32)))).bind fun σ1 =>
  (some (st σ1 17 1 x1)).bind fun σ3 =>
  some σ3
noncomputable def F_X5_originOf (x0 : Int32) (x1 : Int32) (x2 : Int32) : Int32 :=
  ((((x0 * (3 : Int32)) + (x1 - x1 / (3 : Int32) * (3 : Int32))) * (3 : Int32)) + (x2 - x2 / (3 : Int32) * (3 : Int32)))
noncomputable def F_X7_cAt (σ : Mem) (x1 : Int32) : Option Int32 :=
  (ld 120 (σ 11) x1).bind fun v1 =>
  some v1
noncomputable def F_X2_tellTest (σ : Mem) (x1 : Int32) (x2 : Int32) (x3 : Int32) (x4 : Int32) (x5 : Int32) : Option Mem :=
  (sto 8 22 σ (σ 17 7) x1).bind fun σ1 =>
  (sto 8 18 σ1 (σ1 17 7) x2).bind fun σ3 =>
  (sto 8 19 σ3 (σ3 17 7) x3).bind fun σ5 =>
  (sto 8 20 σ5 (σ5 17 7) x4).bind fun σ7 =>
  (sto 8 21 σ7 (σ7 17 7) x5).bind fun σ9 =>
  (some (st σ9 17 7 ((σ9 17 7) + (1 : Int32)))).bind fun σ11 =>
  some σ11
noncomputable def F_X3_isNumber (σ : Mem) (x1 : Int32) : Option Int32 :=
  if x1 < (0 : Int32) then
    some (0 : Int32)
  else
    if (σ 13 0) ≤ x1 then
      some (0 : Int32)
    else
      (ld 8 (σ 14) x1).bind fun v3 =>
      if v3 = (0 : Int32) then
        some (0 : Int32)
      else
        some (1 : Int32)
noncomputable def F_X5_tellMeaning (σ : Mem) (x1 : Int32) (x2 : Int32) : Option Mem :=
  (F_X7_aAt σ x2).bind fun v1 =>
  (F_X7_bAt σ x2).bind fun v3 =>
  (ld 9 (σ 34) x1).bind fun v5 =>
  if v5 = (0 : Int32) then
    (F_X2_tellTable σ v1).bind fun σ8 =>
    some σ8
  else
    if v5 = (1 : Int32) then
      (ld 9 (σ 34) (x1 + (1 : Int32))).bind fun v11 =>
      if v11 = (4 : Int32) then
        some σ
      else
        (F_X2_tellWanted σ v1 v3).bind fun σ14 =>
        some σ14
    else
      if v5 = (2 : Int32) then
        (F_X2_tellDoing σ v1).bind fun σ17 =>
        some σ17
      else
        if v5 = (3 : Int32) then
          (F_X7_cAt σ x2).bind fun v20 =>
          (F_X2_tellTest σ (F_X5_originOf x1 x2 (0 : Int32)) v1 v3 (2 : Int32) v20).bind fun σ22 =>
          some σ22
        else
          if v5 = (4 : Int32) then
            if x1 ≤ (0 : Int32) then
              if (-1 : Int32) < (0 : Int32) then
                some σ
              else
                (F_X3_isNumber σ (x1 + (1 : Int32))).bind fun v27 =>
                if v27 = (0 : Int32) then
                  some σ
                else
                  (F_X7_aAt σ (-1 : Int32)).bind fun v30 =>
                  (F_X7_bAt σ (-1 : Int32)).bind fun v32 =>
                  (F_X3_tokenAt σ (x1 + (1 : Int32))).bind fun v34 =>
                  (F_X2_tellTest σ (F_X5_originOf x1 x2 (-1 : Int32)) v30 v32 v1 v34).bind fun σ36 =>
                  some σ36
            else
              (ld 9 (σ 24) (x1 - (1 : Int32))).bind fun v38 =>
              if v38 < (0 : Int32) then
                some σ
              else
                (F_X3_isNumber σ (x1 + (1 : Int32))).bind fun v41 =>
                if v41 = (0 : Int32) then
                  some σ
                else
                  (F_X7_aAt σ v38).bind fun v44 =>
                  (F_X7_bAt σ v38).bind fun v46 =>
                  (F_X3_tokenAt σ (x1 + (1 : Int32))).bind fun v48 =>
                  (F_X2_tellTest σ (F_X5_originOf x1 x2 v38) v44 v46 v1 v48).bind fun σ50 =>
                  some σ50
          else
            some σ
noncomputable def F_X2_end (σ : Mem) : Option Mem :=
  if (σ 17 2) = (0 : Int32) then
    (some (st σ 17 3 (σ 17 6))).bind fun σ2 =>
    some σ2
  else
    some σ
noncomputable def B_X5_fillForm_0 (σ : Mem) (x1 : Int32) : Option (Nat × Mem × List Int32) :=
  some (2, σ, [x1, (0 : Int32)])
noncomputable def B_X5_fillForm_2 (σ : Mem) (x1 : Int32) (x2 : Int32) : Option (Nat × Mem × List Int32) :=
  if (8 : Int32) < x2 then
    (F_X2_start σ).bind fun σ2 =>
    some (93, σ2, [(0 : Int32)])
  else
    (F_X3_isWordAt σ x2).bind fun v4 =>
    if v4 = (0 : Int32) then
      (sto 9 24 σ x2 (-1 : Int32)).bind fun σ7 =>
      if v4 = (0 : Int32) then
        (sto 9 34 σ7 x2 (-1 : Int32)).bind fun σ10 =>
        some (2, σ10, [x1, (x2 + (1 : Int32))])
      else
        (ld 9 (σ7 24) x2).bind fun v12 =>
        (F_X7_sortAt σ7 v12).bind fun v14 =>
        (sto 9 34 σ7 x2 v14).bind fun σ16 =>
        some (2, σ16, [x1, (x2 + (1 : Int32))])
    else
      (F_X3_tokenAt σ x2).bind fun v18 =>
      (sto 9 24 σ x2 (F_X7_spotOf σ v18 (F_X5_meaningIn x1 x2))).bind fun σ20 =>
      if v4 = (0 : Int32) then
        (sto 9 34 σ20 x2 (-1 : Int32)).bind fun σ23 =>
        some (2, σ23, [x1, (x2 + (1 : Int32))])
      else
        (ld 9 (σ20 24) x2).bind fun v25 =>
        (F_X7_sortAt σ20 v25).bind fun v27 =>
        (sto 9 34 σ20 x2 v27).bind fun σ29 =>
        some (2, σ29, [x1, (x2 + (1 : Int32))])
noncomputable def B_X5_fillForm_93 (σ : Mem) (x2 : Int32) : Option (Nat × Mem × List Int32) :=
  if (8 : Int32) ≤ x2 then
    (F_X2_end σ).bind fun σ2 =>
    some (99999, σ2, [])
  else
    (ld 9 (σ 24) x2).bind fun v4 =>
    if v4 < (0 : Int32) then
      some (93, σ, [(x2 + (1 : Int32))])
    else
      (ld 9 (σ 24) x2).bind fun v7 =>
      (F_X5_tellMeaning σ x2 v7).bind fun σ9 =>
      some (93, σ9, [(x2 + (1 : Int32))])
noncomputable def B_X5_fillForm : Nat → Mem → List Int32 → Option (Nat × Mem × List Int32) := fun pc σ vs => match pc, vs with
  | 0, [x1] => B_X5_fillForm_0 σ x1
  | 2, [x1, x2] => B_X5_fillForm_2 σ x1 x2
  | 93, [x2] => B_X5_fillForm_93 σ x2
  | _, _ => none
noncomputable def F_X5_fillForm (σ : Mem) (x1 : Int32) : Option Mem := (finL B_X5_fillForm 0 σ [x1]).bind extV
noncomputable def F_X5_formOf (σ : Mem) (x1 : Int32) : Option Mem :=
  (ld 6561 (σ 25) x1).bind fun v1 =>
  (F_X5_fillForm σ v1).bind fun σ3 =>
  some σ3
noncomputable def F_X2_from (σ : Mem) : Int32 :=
  (σ 17 3)
noncomputable def F_X6_rowsOf (σ : Mem) (x1 : Int32) : Option Int32 :=
  (ld 4 (σ 3) x1).bind fun v1 =>
  some v1
noncomputable def F_X2_tests (σ : Mem) : Int32 :=
  (σ 17 7)
noncomputable def F_X2_originOf (σ : Mem) (x1 : Int32) : Option Int32 :=
  (ld 8 (σ 22) x1).bind fun v1 =>
  some v1
noncomputable def F_X2_tableOf (σ : Mem) (x1 : Int32) : Option Int32 :=
  (ld 8 (σ 18) x1).bind fun v1 =>
  some v1
noncomputable def F_X2_columnOf (σ : Mem) (x1 : Int32) : Option Int32 :=
  (ld 8 (σ 19) x1).bind fun v1 =>
  some v1
noncomputable def B_X6_linkingColumn_0 (σ : Mem) (x1 : Int32) (x2 : Int32) : Option (Nat × Unit × List Int32) :=
  some (2, (), [x1, x2, (0 : Int32)])
noncomputable def B_X6_linkingColumn_2 (σ : Mem) (x1 : Int32) (x2 : Int32) (x3 : Int32) : Option (Nat × Unit × List Int32) :=
  (ld 4 (σ 2) x1).bind fun v1 =>
  if v1 ≤ x3 then
    some (99999, (), [(-1 : Int32)])
  else
    (ld 16 (σ 4) ((x1 * (4 : Int32)) + x3)).bind fun v4 =>
    if v4 = x2 then
      some (99999, (), [x3])
    else
      some (2, (), [x1, x2, (x3 + (1 : Int32))])
noncomputable def B_X6_linkingColumn (σ : Mem) : Nat → Unit → List Int32 → Option (Nat × Unit × List Int32) := fun pc _ vs => match pc, vs with
  | 0, [x1, x2] => B_X6_linkingColumn_0 σ x1 x2
  | 2, [x1, x2, x3] => B_X6_linkingColumn_2 σ x1 x2 x3
  | _, _ => none
noncomputable def F_X6_linkingColumn (σ : Mem) (x1 : Int32) (x2 : Int32) : Option Int32 := (finL (B_X6_linkingColumn σ) 0 () [x1, x2]).bind extR
noncomputable def F_X6_cell (σ : Mem) (x1 : Int32) (x2 : Int32) (x3 : Int32) : Option Int32 :=
  (ld 320 (σ 5) ((((x1 * (20 : Int32)) + x2) * (4 : Int32)) + x3)).bind fun v1 =>
  some v1
noncomputable def F_X6_hasRow (σ : Mem) (x1 : Int32) (x2 : Int32) : Option Int32 :=
  if x2 < (0 : Int32) then
    some (0 : Int32)
  else
    (ld 4 (σ 3) x1).bind fun v2 =>
    if v2 ≤ x2 then
      some (0 : Int32)
    else
      some (1 : Int32)
noncomputable def F_X2_thanOf (σ : Mem) (x1 : Int32) : Option Int32 :=
  (ld 8 (σ 20) x1).bind fun v1 =>
  some v1
noncomputable def F_X2_numberOf (σ : Mem) (x1 : Int32) : Option Int32 :=
  (ld 8 (σ 21) x1).bind fun v1 =>
  some v1
noncomputable def F_X1_holds (x0 : Int32) (x1 : Int32) (x2 : Int32) : Int32 :=
  if x1 = (0 : Int32) then
    if x0 ≤ x2 then
      (0 : Int32)
    else
      (1 : Int32)
  else
    if x1 = (1 : Int32) then
      if x2 ≤ x0 then
        (0 : Int32)
      else
        (1 : Int32)
    else
      if x0 = x2 then
        (1 : Int32)
      else
        (0 : Int32)
noncomputable def B_X1_seekRows_0 (σ : Mem) (x2 : Int32) : Option (Nat × Unit × List Int32) :=
  (F_X2_tableOf σ x2).bind fun v1 =>
  (F_X2_columnOf σ x2).bind fun v3 =>
  if v1 = (F_X2_from σ) then
    some (48, (), [x2, (F_X2_from σ), v1, v3, v3, (0 : Int32), (0 : Int32)])
  else
    (F_X6_linkingColumn σ (F_X2_from σ) v1).bind fun v6 =>
    some (48, (), [x2, (F_X2_from σ), v1, v3, v6, (0 : Int32), (0 : Int32)])
noncomputable def B_X1_seekRows_48 (σ : Mem) (x2 : Int32) (x3 : Int32) (x4 : Int32) (x5 : Int32) (x6 : Int32) (x7 : Int32) (x8 : Int32) : Option (Nat × Unit × List Int32) :=
  if x6 < (0 : Int32) then
    some (99999, (), [x7])
  else
    (F_X6_rowsOf σ x3).bind fun v2 =>
    if v2 ≤ x8 then
      some (99999, (), [x7])
    else
      (F_X6_cell σ x3 x8 x6).bind fun v5 =>
      if x4 = x3 then
        if v5 = (-1000000 : Int32) then
          some (48, (), [x2, x3, x4, x5, x6, x7, (x8 + (1 : Int32))])
        else
          (F_X2_thanOf σ x2).bind fun v9 =>
          (F_X2_numberOf σ x2).bind fun v11 =>
          if (F_X1_holds v5 v9 v11) = (0 : Int32) then
            some (48, (), [x2, x3, x4, x5, x6, x7, (x8 + (1 : Int32))])
          else
            some (48, (), [x2, x3, x4, x5, x6, (x7 ||| ((1 : Int32) <<< (x8 &&& 31))), (x8 + (1 : Int32))])
      else
        (F_X6_hasRow σ x4 v5).bind fun v14 =>
        if v14 = (0 : Int32) then
          if (-1000000 : Int32) = (-1000000 : Int32) then
            some (48, (), [x2, x3, x4, x5, x6, x7, (x8 + (1 : Int32))])
          else
            (F_X2_thanOf σ x2).bind fun v18 =>
            (F_X2_numberOf σ x2).bind fun v20 =>
            if (F_X1_holds (-1000000 : Int32) v18 v20) = (0 : Int32) then
              some (48, (), [x2, x3, x4, x5, x6, x7, (x8 + (1 : Int32))])
            else
              some (48, (), [x2, x3, x4, x5, x6, (x7 ||| ((1 : Int32) <<< (x8 &&& 31))), (x8 + (1 : Int32))])
        else
          (F_X6_cell σ x4 v5 x5).bind fun v23 =>
          if v23 = (-1000000 : Int32) then
            some (48, (), [x2, x3, x4, x5, x6, x7, (x8 + (1 : Int32))])
          else
            (F_X2_thanOf σ x2).bind fun v26 =>
            (F_X2_numberOf σ x2).bind fun v28 =>
            if (F_X1_holds v23 v26 v28) = (0 : Int32) then
              some (48, (), [x2, x3, x4, x5, x6, x7, (x8 + (1 : Int32))])
            else
              some (48, (), [x2, x3, x4, x5, x6, (x7 ||| ((1 : Int32) <<< (x8 &&& 31))), (x8 + (1 : Int32))])
noncomputable def B_X1_seekRows (σ : Mem) : Nat → Unit → List Int32 → Option (Nat × Unit × List Int32) := fun pc _ vs => match pc, vs with
  | 0, [x2] => B_X1_seekRows_0 σ x2
  | 48, [x2, x3, x4, x5, x6, x7, x8] => B_X1_seekRows_48 σ x2 x3 x4 x5 x6 x7 x8
  | _, _ => none
noncomputable def F_X1_seekRows (σ : Mem) (x2 : Int32) : Option Int32 := (finL (B_X1_seekRows σ) 0 () [x2]).bind extR
noncomputable def F_X1_rowsHolding (σ : Mem) (x2 : Int32) : Option (Int32 × Mem) :=
  (F_X2_originOf σ x2).bind fun v1 =>
  (ld 288 (σ 28) ((v1 * (4 : Int32)) + (F_X2_from σ))).bind fun v3 =>
  if v3 = (-1 : Int32) then
    (F_X1_seekRows σ x2).bind fun v8 =>
    (sto 288 28 σ ((v1 * (4 : Int32)) + (F_X2_from σ)) v8).bind fun σ10 =>
    (ld 288 (σ10 28) ((v1 * (4 : Int32)) + (F_X2_from σ))).bind fun v12 =>
    some (v12, σ10)
  else
    (ld 288 (σ 28) ((v1 * (4 : Int32)) + (F_X2_from σ))).bind fun v6 =>
    some (v6, σ)
noncomputable def B_X1_rowsFound_0 (σ : Mem) : Option (Nat × Mem × List Int32) :=
  (F_X6_rowsOf σ (F_X2_from σ)).bind fun v1 =>
  (some (((1 : Int32) <<< (v1 &&& 31)) - (1 : Int32))).bind fun y3 =>
  some (18, σ, [y3, (0 : Int32)])
noncomputable def B_X1_rowsFound_18 (σ : Mem) (x2 : Int32) (x3 : Int32) : Option (Nat × Mem × List Int32) :=
  if (F_X2_tests σ) ≤ x3 then
    some (99999, σ, [x2])
  else
    (F_X1_rowsHolding σ x3).bind fun p2 =>
    some (18, p2.2, [(x2 &&& p2.1), (x3 + (1 : Int32))])
noncomputable def B_X1_rowsFound : Nat → Mem → List Int32 → Option (Nat × Mem × List Int32) := fun pc σ vs => match pc, vs with
  | 0, [] => B_X1_rowsFound_0 σ 
  | 18, [x2, x3] => B_X1_rowsFound_18 σ x2 x3
  | _, _ => none
noncomputable def F_X1_rowsFound (σ : Mem) : Option (Int32 × Mem) := (finL B_X1_rowsFound 0 σ []).bind extM
noncomputable def F_X2_doing (σ : Mem) : Int32 :=
  (σ 17 1)
noncomputable def F_J6_bitCount_0f7a4 (x0 : Int32) : Int32 :=
  ((((((((x0 - (((Int32.toUInt32 x0 >>> (Int32.toUInt32 (1 : Int32) &&& Int32.toUInt32 31)).toInt32) &&& (1431655765 : Int32))) &&& (858993459 : Int32)) + (((Int32.toUInt32 (x0 - (((Int32.toUInt32 x0 >>> (Int32.toUInt32 (1 : Int32) &&& Int32.toUInt32 31)).toInt32) &&& (1431655765 : Int32))) >>> (Int32.toUInt32 (2 : Int32) &&& Int32.toUInt32 31)).toInt32) &&& (858993459 : Int32))) + ((Int32.toUInt32 (((x0 - (((Int32.toUInt32 x0 >>> (Int32.toUInt32 (1 : Int32) &&& Int32.toUInt32 31)).toInt32) &&& (1431655765 : Int32))) &&& (858993459 : Int32)) + (((Int32.toUInt32 (x0 - (((Int32.toUInt32 x0 >>> (Int32.toUInt32 (1 : Int32) &&& Int32.toUInt32 31)).toInt32) &&& (1431655765 : Int32))) >>> (Int32.toUInt32 (2 : Int32) &&& Int32.toUInt32 31)).toInt32) &&& (858993459 : Int32))) >>> (Int32.toUInt32 (4 : Int32) &&& Int32.toUInt32 31)).toInt32)) &&& (252645135 : Int32)) + ((Int32.toUInt32 (((((x0 - (((Int32.toUInt32 x0 >>> (Int32.toUInt32 (1 : Int32) &&& Int32.toUInt32 31)).toInt32) &&& (1431655765 : Int32))) &&& (858993459 : Int32)) + (((Int32.toUInt32 (x0 - (((Int32.toUInt32 x0 >>> (Int32.toUInt32 (1 : Int32) &&& Int32.toUInt32 31)).toInt32) &&& (1431655765 : Int32))) >>> (Int32.toUInt32 (2 : Int32) &&& Int32.toUInt32 31)).toInt32) &&& (858993459 : Int32))) + ((Int32.toUInt32 (((x0 - (((Int32.toUInt32 x0 >>> (Int32.toUInt32 (1 : Int32) &&& Int32.toUInt32 31)).toInt32) &&& (1431655765 : Int32))) &&& (858993459 : Int32)) + (((Int32.toUInt32 (x0 - (((Int32.toUInt32 x0 >>> (Int32.toUInt32 (1 : Int32) &&& Int32.toUInt32 31)).toInt32) &&& (1431655765 : Int32))) >>> (Int32.toUInt32 (2 : Int32) &&& Int32.toUInt32 31)).toInt32) &&& (858993459 : Int32))) >>> (Int32.toUInt32 (4 : Int32) &&& Int32.toUInt32 31)).toInt32)) &&& (252645135 : Int32)) >>> (Int32.toUInt32 (8 : Int32) &&& Int32.toUInt32 31)).toInt32)) + ((Int32.toUInt32 ((((((x0 - (((Int32.toUInt32 x0 >>> (Int32.toUInt32 (1 : Int32) &&& Int32.toUInt32 31)).toInt32) &&& (1431655765 : Int32))) &&& (858993459 : Int32)) + (((Int32.toUInt32 (x0 - (((Int32.toUInt32 x0 >>> (Int32.toUInt32 (1 : Int32) &&& Int32.toUInt32 31)).toInt32) &&& (1431655765 : Int32))) >>> (Int32.toUInt32 (2 : Int32) &&& Int32.toUInt32 31)).toInt32) &&& (858993459 : Int32))) + ((Int32.toUInt32 (((x0 - (((Int32.toUInt32 x0 >>> (Int32.toUInt32 (1 : Int32) &&& Int32.toUInt32 31)).toInt32) &&& (1431655765 : Int32))) &&& (858993459 : Int32)) + (((Int32.toUInt32 (x0 - (((Int32.toUInt32 x0 >>> (Int32.toUInt32 (1 : Int32) &&& Int32.toUInt32 31)).toInt32) &&& (1431655765 : Int32))) >>> (Int32.toUInt32 (2 : Int32) &&& Int32.toUInt32 31)).toInt32) &&& (858993459 : Int32))) >>> (Int32.toUInt32 (4 : Int32) &&& Int32.toUInt32 31)).toInt32)) &&& (252645135 : Int32)) + ((Int32.toUInt32 (((((x0 - (((Int32.toUInt32 x0 >>> (Int32.toUInt32 (1 : Int32) &&& Int32.toUInt32 31)).toInt32) &&& (1431655765 : Int32))) &&& (858993459 : Int32)) + (((Int32.toUInt32 (x0 - (((Int32.toUInt32 x0 >>> (Int32.toUInt32 (1 : Int32) &&& Int32.toUInt32 31)).toInt32) &&& (1431655765 : Int32))) >>> (Int32.toUInt32 (2 : Int32) &&& Int32.toUInt32 31)).toInt32) &&& (858993459 : Int32))) + ((Int32.toUInt32 (((x0 - (((Int32.toUInt32 x0 >>> (Int32.toUInt32 (1 : Int32) &&& Int32.toUInt32 31)).toInt32) &&& (1431655765 : Int32))) &&& (858993459 : Int32)) + (((Int32.toUInt32 (x0 - (((Int32.toUInt32 x0 >>> (Int32.toUInt32 (1 : Int32) &&& Int32.toUInt32 31)).toInt32) &&& (1431655765 : Int32))) >>> (Int32.toUInt32 (2 : Int32) &&& Int32.toUInt32 31)).toInt32) &&& (858993459 : Int32))) >>> (Int32.toUInt32 (4 : Int32) &&& Int32.toUInt32 31)).toInt32)) &&& (252645135 : Int32)) >>> (Int32.toUInt32 (8 : Int32) &&& Int32.toUInt32 31)).toInt32)) >>> (Int32.toUInt32 (16 : Int32) &&& Int32.toUInt32 31)).toInt32)) &&& (63 : Int32))
noncomputable def F_X8_holdsBit (x0 : Int32) (x1 : Int32) : Int32 :=
  if ((x0 >>> (x1 &&& 31)) &&& (1 : Int32)) = (0 : Int32) then
    (0 : Int32)
  else
    (1 : Int32)
noncomputable def F_X2_wanted (σ : Mem) : Int32 :=
  (σ 17 5)
noncomputable def F_X1_joined (x0 : Int32) (x1 : Int32) (x2 : Int32) : Int32 :=
  if x0 = (1 : Int32) then
    (x1 + x2)
  else
    if x1 = (-1000000 : Int32) then
      x2
    else
      if x0 = (2 : Int32) then
        (if x1 < x2 then x2 else x1)
      else
        (if x2 < x1 then x2 else x1)
noncomputable def B_X1_answerOf_0 (σ : Mem) : Option (Nat × Mem × List Int32) :=
  (F_X1_rowsFound σ).bind fun p1 =>
  if (F_X2_doing p1.2) = (0 : Int32) then
    some (99999, p1.2, [(F_J6_bitCount_0f7a4 p1.1)])
  else
    if (F_X2_doing p1.2) = (1 : Int32) then
      some (36, p1.2, [p1.1, (0 : Int32), (0 : Int32)])
    else
      some (36, p1.2, [p1.1, (-1000000 : Int32), (0 : Int32)])
noncomputable def B_X1_answerOf_36 (σ : Mem) (x2 : Int32) (x3 : Int32) (x4 : Int32) : Option (Nat × Mem × List Int32) :=
  if (20 : Int32) ≤ x4 then
    some (99999, σ, [x3])
  else
    if (F_X8_holdsBit x2 x4) = (0 : Int32) then
      if (-1000000 : Int32) = (-1000000 : Int32) then
        some (36, σ, [x2, x3, (x4 + (1 : Int32))])
      else
        (some (F_X1_joined (F_X2_doing σ) x3 (-1000000 : Int32))).bind fun y4 =>
        some (36, σ, [x2, y4, (x4 + (1 : Int32))])
    else
      (F_X6_cell σ (F_X2_from σ) x4 (F_X2_wanted σ)).bind fun v6 =>
      if v6 = (-1000000 : Int32) then
        some (36, σ, [x2, x3, (x4 + (1 : Int32))])
      else
        some (36, σ, [x2, (F_X1_joined (F_X2_doing σ) x3 v6), (x4 + (1 : Int32))])
noncomputable def B_X1_answerOf : Nat → Mem → List Int32 → Option (Nat × Mem × List Int32) := fun pc σ vs => match pc, vs with
  | 0, [] => B_X1_answerOf_0 σ 
  | 36, [x2, x3, x4] => B_X1_answerOf_36 σ x2 x3 x4
  | _, _ => none
noncomputable def F_X1_answerOf (σ : Mem) : Option (Int32 × Mem) := (finL B_X1_answerOf 0 σ []).bind extM
noncomputable def B_X0_learnAnswers_0 (σ : Mem) (x1 : Int32) : Option (Nat × Mem × List Int32) :=
  if x1 ≤ (σ 29 5) then
    some (99999, σ, [])
  else
    (F_X5_formOf σ (σ 29 5)).bind fun σ2 =>
    (F_X1_answerOf σ2).bind fun p4 =>
    (sto 6561 33 p4.2 (σ 29 5) p4.1).bind fun σ6 =>
    (some (st σ6 29 5 ((σ6 29 5) + (1 : Int32)))).bind fun σ8 =>
    some (0, σ8, [x1])
noncomputable def B_X0_learnAnswers : Nat → Mem → List Int32 → Option (Nat × Mem × List Int32) := fun pc σ vs => match pc, vs with
  | 0, [x1] => B_X0_learnAnswers_0 σ x1
  | _, _ => none
noncomputable def F_X0_learnAnswers (σ : Mem) (x1 : Int32) : Option Mem := (finL B_X0_learnAnswers 0 σ [x1]).bind extV
noncomputable def F_X4_empty (σ : Mem) : Option Mem :=
  (some (st σ 30 2 ((σ 30 2) + (1 : Int32)))).bind fun σ1 =>
  (some (st σ1 30 3 (0 : Int32))).bind fun σ3 =>
  some σ3
noncomputable def B_X4_add_0 (σ : Mem) (x1 : Int32) : Option (Nat × Mem × List Int32) :=
  (some ((Int32.toUInt32 (x1 * (-1640531535 : Int32)) >>> (Int32.toUInt32 (19 : Int32) &&& Int32.toUInt32 31)).toInt32)).bind fun y1 =>
  some (10, σ, [x1, y1, (0 : Int32)])
noncomputable def B_X4_add_10 (σ : Mem) (x1 : Int32) (x2 : Int32) (x3 : Int32) : Option (Nat × Mem × List Int32) :=
  if (8192 : Int32) ≤ x3 then
    some (99999, σ, [])
  else
    (ld 8192 (σ 32) x2).bind fun v2 =>
    if v2 = (σ 30 2) then
      (ld 8192 (σ 31) x2).bind fun v5 =>
      if v5 = x1 then
        some (99999, σ, [])
      else
        (some ((x2 + (1 : Int32)) - (x2 + (1 : Int32)) / (8192 : Int32) * (8192 : Int32))).bind fun y8 =>
        some (10, σ, [x1, y8, (x3 + (1 : Int32))])
    else
      (sto 8192 32 σ x2 (σ 30 2)).bind fun σ10 =>
      (sto 8192 31 σ10 x2 x1).bind fun σ12 =>
      (some (st σ12 30 3 ((σ12 30 3) + (1 : Int32)))).bind fun σ14 =>
      some (99999, σ14, [])
noncomputable def B_X4_add : Nat → Mem → List Int32 → Option (Nat × Mem × List Int32) := fun pc σ vs => match pc, vs with
  | 0, [x1] => B_X4_add_0 σ x1
  | 10, [x1, x2, x3] => B_X4_add_10 σ x1 x2 x3
  | _, _ => none
noncomputable def F_X4_add (σ : Mem) (x1 : Int32) : Option Mem := (finL B_X4_add 0 σ [x1]).bind extV
noncomputable def F_X4_size (σ : Mem) : Int32 :=
  (σ 30 3)
noncomputable def B_X0_unlikeAnswers_0 (σ : Mem) (x1 : Int32) : Option (Nat × Mem × List Int32) :=
  (F_X4_empty σ).bind fun σ1 =>
  some (9, σ1, [x1, (0 : Int32)])
noncomputable def B_X0_unlikeAnswers_9 (σ : Mem) (x1 : Int32) (x2 : Int32) : Option (Nat × Mem × List Int32) :=
  if x1 ≤ x2 then
    some (99999, σ, [(F_X4_size σ)])
  else
    (ld 6561 (σ 33) x2).bind fun v2 =>
    (F_X4_add σ v2).bind fun σ4 =>
    some (9, σ4, [x1, (x2 + (1 : Int32))])
noncomputable def B_X0_unlikeAnswers : Nat → Mem → List Int32 → Option (Nat × Mem × List Int32) := fun pc σ vs => match pc, vs with
  | 0, [x1] => B_X0_unlikeAnswers_0 σ x1
  | 9, [x1, x2] => B_X0_unlikeAnswers_9 σ x1 x2
  | _, _ => none
noncomputable def F_X0_unlikeAnswers (σ : Mem) (x1 : Int32) : Option (Int32 × Mem) := (finL B_X0_unlikeAnswers 0 σ [x1]).bind extM
noncomputable def F_X3_size (σ : Mem) : Int32 :=
  (σ 13 0)
noncomputable def F_X5_meaningAt (σ : Mem) (x1 : Int32) (x2 : Int32) : Option Int32 :=
  (F_X3_isNumber σ x2).bind fun v1 =>
  if v1 = (0 : Int32) then
    (ld 6561 (σ 25) x1).bind fun v4 =>
    some (F_X5_meaningIn v4 x2)
  else
    some (-1 : Int32)
noncomputable def B_X0_parts_0 (σ : Mem) (x1 : Int32) (x2 : Int32) : Option (Nat × Unit × List Int32) :=
  some (2, (), [x1, x2, (1 : Int32)])
noncomputable def B_X0_parts_2 (σ : Mem) (x1 : Int32) (x2 : Int32) (x3 : Int32) : Option (Nat × Unit × List Int32) :=
  if x2 ≤ x3 then
    some (99999, (), [(0 : Int32)])
  else
    (F_X5_meaningAt σ x3 x1).bind fun v2 =>
    (F_X5_meaningAt σ (0 : Int32) x1).bind fun v4 =>
    if v2 = v4 then
      some (2, (), [x1, x2, (x3 + (1 : Int32))])
    else
      some (99999, (), [(1 : Int32)])
noncomputable def B_X0_parts (σ : Mem) : Nat → Unit → List Int32 → Option (Nat × Unit × List Int32) := fun pc _ vs => match pc, vs with
  | 0, [x1, x2] => B_X0_parts_0 σ x1 x2
  | 2, [x1, x2, x3] => B_X0_parts_2 σ x1 x2 x3
  | _, _ => none
noncomputable def F_X0_parts (σ : Mem) (x1 : Int32) (x2 : Int32) : Option Int32 := (finL (B_X0_parts σ) 0 () [x1, x2]).bind extR
noncomputable def B_X0_worstAt_0 (σ : Mem) (x1 : Int32) (x2 : Int32) : Option (Nat × Mem × List Int32) :=
  some (5, σ, [x1, x2, (0 : Int32), (0 : Int32)])
noncomputable def B_X0_worstAt_5 (σ : Mem) (x1 : Int32) (x2 : Int32) (x3 : Int32) (x4 : Int32) : Option (Nat × Mem × List Int32) :=
  if (3 : Int32) ≤ x4 then
    some (99999, σ, [x3])
  else
    (F_X4_empty σ).bind fun σ2 =>
    some (21, σ2, [x1, x2, x3, x4, (0 : Int32)])
noncomputable def B_X0_worstAt_21 (σ : Mem) (x1 : Int32) (x2 : Int32) (x3 : Int32) (x4 : Int32) (x5 : Int32) : Option (Nat × Mem × List Int32) :=
  if x2 ≤ x5 then
    (some (if x3 < (F_X4_size σ) then (F_X4_size σ) else x3)).bind fun y2 =>
    some (5, σ, [x1, x2, y2, (x4 + (1 : Int32))])
  else
    (F_X5_meaningAt σ x5 x1).bind fun v4 =>
    if v4 = x4 then
      (ld 6561 (σ 33) x5).bind fun v7 =>
      (F_X4_add σ v7).bind fun σ9 =>
      some (21, σ9, [x1, x2, x3, x4, (x5 + (1 : Int32))])
    else
      some (21, σ, [x1, x2, x3, x4, (x5 + (1 : Int32))])
noncomputable def B_X0_worstAt : Nat → Mem → List Int32 → Option (Nat × Mem × List Int32) := fun pc σ vs => match pc, vs with
  | 0, [x1, x2] => B_X0_worstAt_0 σ x1 x2
  | 5, [x1, x2, x3, x4] => B_X0_worstAt_5 σ x1 x2 x3 x4
  | 21, [x1, x2, x3, x4, x5] => B_X0_worstAt_21 σ x1 x2 x3 x4 x5
  | _, _ => none
noncomputable def F_X0_worstAt (σ : Mem) (x1 : Int32) (x2 : Int32) : Option (Int32 × Mem) := (finL B_X0_worstAt 0 σ [x1, x2]).bind extM
noncomputable def B_X0_placeToAsk_0 (σ : Mem) (x1 : Int32) : Option (Nat × Mem × List Int32) :=
  some (10, σ, [x1, (-5 : Int32), (6562 : Int32), (0 : Int32)])
noncomputable def B_X0_placeToAsk_10 (σ : Mem) (x1 : Int32) (x2 : Int32) (x3 : Int32) (x4 : Int32) : Option (Nat × Mem × List Int32) :=
  if (F_X3_size σ) ≤ x4 then
    some (99999, σ, [x2])
  else
    (F_X0_parts σ x4 x1).bind fun v2 =>
    if v2 = (0 : Int32) then
      if x3 ≤ x3 then
        some (10, σ, [x1, x2, x3, (x4 + (1 : Int32))])
      else
        some (10, σ, [x1, x4, x3, (x4 + (1 : Int32))])
    else
      (F_X0_worstAt σ x4 x1).bind fun p6 =>
      if x3 ≤ p6.1 then
        some (10, p6.2, [x1, x2, x3, (x4 + (1 : Int32))])
      else
        some (10, p6.2, [x1, x4, p6.1, (x4 + (1 : Int32))])
noncomputable def B_X0_placeToAsk : Nat → Mem → List Int32 → Option (Nat × Mem × List Int32) := fun pc σ vs => match pc, vs with
  | 0, [x1] => B_X0_placeToAsk_0 σ x1
  | 10, [x1, x2, x3, x4] => B_X0_placeToAsk_10 σ x1 x2 x3 x4
  | _, _ => none
noncomputable def F_X0_placeToAsk (σ : Mem) (x1 : Int32) : Option (Int32 × Mem) := (finL B_X0_placeToAsk 0 σ [x1]).bind extM
noncomputable def F_X1_spoil (σ : Mem) : Option Mem :=
  (some (fillM σ 28 288 (-1 : Int32))).bind fun σ1 =>
  some σ1
noncomputable def B_X1_testsFailing_0 (σ : Mem) (x2 : Int32) : Option (Nat × Mem × List Int32) :=
  some (5, σ, [x2, (0 : Int32), (0 : Int32)])
noncomputable def B_X1_testsFailing_5 (σ : Mem) (x2 : Int32) (x3 : Int32) (x4 : Int32) : Option (Nat × Mem × List Int32) :=
  if (F_X2_tests σ) ≤ x4 then
    some (99999, σ, [x3])
  else
    (F_X1_rowsHolding σ x4).bind fun p2 =>
    if (F_X8_holdsBit p2.1 x2) = (0 : Int32) then
      some (5, p2.2, [x2, (x3 ||| ((1 : Int32) <<< (x4 &&& 31))), (x4 + (1 : Int32))])
    else
      some (5, p2.2, [x2, x3, (x4 + (1 : Int32))])
noncomputable def B_X1_testsFailing : Nat → Mem → List Int32 → Option (Nat × Mem × List Int32) := fun pc σ vs => match pc, vs with
  | 0, [x2] => B_X1_testsFailing_0 σ x2
  | 5, [x2, x3, x4] => B_X1_testsFailing_5 σ x2 x3 x4
  | _, _ => none
noncomputable def F_X1_testsFailing (σ : Mem) (x2 : Int32) : Option (Int32 × Mem) := (finL B_X1_testsFailing 0 σ [x2]).bind extM
noncomputable def F_J6_compare_7cf53 (x0 : Int32) (x1 : Int32) : Int32 :=
  if x1 ≤ x0 then
    if x0 = x1 then
      (0 : Int32)
    else
      (1 : Int32)
  else
    (-1 : Int32)
noncomputable def F_X1_isLesserSet (x0 : Int32) (x1 : Int32) : Int32 :=
  if (F_J6_compare_7cf53 (F_J6_bitCount_0f7a4 x0) (F_J6_bitCount_0f7a4 x1)) < (0 : Int32) then
    (1 : Int32)
  else
    if (F_J6_compare_7cf53 (F_J6_bitCount_0f7a4 x0) (F_J6_bitCount_0f7a4 x1)) = (0 : Int32) then
      if x1 ≤ x0 then
        (0 : Int32)
      else
        (1 : Int32)
    else
      (0 : Int32)
noncomputable def B_X1_testsInTheWay_0 (σ : Mem) : Option (Nat × Mem × List Int32) :=
  some (5, σ, [(-5 : Int32), (0 : Int32)])
noncomputable def B_X1_testsInTheWay_5 (σ : Mem) (x2 : Int32) (x3 : Int32) : Option (Nat × Mem × List Int32) :=
  (F_X6_rowsOf σ (F_X2_from σ)).bind fun v1 =>
  if v1 ≤ x3 then
    some (99999, σ, [x2])
  else
    (F_X1_testsFailing σ x3).bind fun p4 =>
    if x2 = (-5 : Int32) then
      some (5, p4.2, [p4.1, (x3 + (1 : Int32))])
    else
      if (F_X1_isLesserSet p4.1 x2) = (0 : Int32) then
        some (5, p4.2, [x2, (x3 + (1 : Int32))])
      else
        some (5, p4.2, [p4.1, (x3 + (1 : Int32))])
noncomputable def B_X1_testsInTheWay : Nat → Mem → List Int32 → Option (Nat × Mem × List Int32) := fun pc σ vs => match pc, vs with
  | 0, [] => B_X1_testsInTheWay_0 σ 
  | 5, [x2, x3] => B_X1_testsInTheWay_5 σ x2 x3
  | _, _ => none
noncomputable def F_X1_testsInTheWay (σ : Mem) : Option (Int32 × Mem) := (finL B_X1_testsInTheWay 0 σ []).bind extM
noncomputable def B_X2_testsReach_0 (σ : Mem) : Option (Nat × Unit × List Int32) :=
  some (2, (), [(0 : Int32)])
noncomputable def B_X2_testsReach_2 (σ : Mem) (x2 : Int32) : Option (Nat × Unit × List Int32) :=
  if (σ 17 7) ≤ x2 then
    some (99999, (), [(1 : Int32)])
  else
    (ld 8 (σ 18) x2).bind fun v2 =>
    if v2 = (σ 17 3) then
      some (2, (), [(x2 + (1 : Int32))])
    else
      (ld 8 (σ 18) x2).bind fun v5 =>
      (F_X6_linkingColumn σ (σ 17 3) v5).bind fun v7 =>
      if (0 : Int32) ≤ v7 then
        some (2, (), [(x2 + (1 : Int32))])
      else
        some (99999, (), [(0 : Int32)])
noncomputable def B_X2_testsReach (σ : Mem) : Nat → Unit → List Int32 → Option (Nat × Unit × List Int32) := fun pc _ vs => match pc, vs with
  | 0, [] => B_X2_testsReach_0 σ 
  | 2, [x2] => B_X2_testsReach_2 σ x2
  | _, _ => none
noncomputable def F_X2_testsReach (σ : Mem) : Option Int32 := (finL (B_X2_testsReach σ) 0 () []).bind extR
noncomputable def F_X2_stands (σ : Mem) : Option Int32 :=
  if (1 : Int32) < (σ 17 0) then
    some (0 : Int32)
  else
    if (1 : Int32) < (σ 17 2) then
      some (0 : Int32)
    else
      if (1 : Int32) < (σ 17 4) then
        some (0 : Int32)
      else
        if (0 : Int32) ≤ (σ 17 3) then
          if (σ 17 4) = (1 : Int32) then
            if (σ 17 1) = (0 : Int32) then
              if (1 : Int32) = (0 : Int32) then
                if (σ 17 4) = (1 : Int32) then
                  if (σ 17 6) = (σ 17 3) then
                    (F_X2_testsReach σ).bind fun v32 =>
                    if vp_nar .boolean v32 = v32 then some v32 else none
                  else
                    some (0 : Int32)
                else
                  (F_X2_testsReach σ).bind fun v28 =>
                  if vp_nar .boolean v28 = v28 then some v28 else none
              else
                some (0 : Int32)
            else
              if (1 : Int32) = (1 : Int32) then
                if (σ 17 4) = (1 : Int32) then
                  if (σ 17 6) = (σ 17 3) then
                    (F_X2_testsReach σ).bind fun v41 =>
                    if vp_nar .boolean v41 = v41 then some v41 else none
                  else
                    some (0 : Int32)
                else
                  (F_X2_testsReach σ).bind fun v37 =>
                  if vp_nar .boolean v37 = v37 then some v37 else none
              else
                some (0 : Int32)
          else
            if (σ 17 1) = (0 : Int32) then
              if (0 : Int32) = (0 : Int32) then
                if (σ 17 4) = (1 : Int32) then
                  if (σ 17 6) = (σ 17 3) then
                    (F_X2_testsReach σ).bind fun v13 =>
                    if vp_nar .boolean v13 = v13 then some v13 else none
                  else
                    some (0 : Int32)
                else
                  (F_X2_testsReach σ).bind fun v9 =>
                  if vp_nar .boolean v9 = v9 then some v9 else none
              else
                some (0 : Int32)
            else
              if (0 : Int32) = (1 : Int32) then
                if (σ 17 4) = (1 : Int32) then
                  if (σ 17 6) = (σ 17 3) then
                    (F_X2_testsReach σ).bind fun v22 =>
                    if vp_nar .boolean v22 = v22 then some v22 else none
                  else
                    some (0 : Int32)
                else
                  (F_X2_testsReach σ).bind fun v18 =>
                  if vp_nar .boolean v18 = v18 then some v18 else none
              else
                some (0 : Int32)
        else
          some (0 : Int32)
noncomputable def F_X3_has (σ : Mem) (x1 : Int32) : Int32 :=
  if x1 < (0 : Int32) then
    (0 : Int32)
  else
    if (σ 13 0) ≤ x1 then
      (0 : Int32)
    else
      (1 : Int32)
noncomputable def F_X3_add (σ : Mem) (x1 : Int32) (x2 : Int32) : Option (Int32 × Mem) :=
  (sto 8 15 σ (σ 13 0) x1).bind fun σ1 =>
  (sto 8 14 σ1 (σ1 13 0) (vp_nar .boolean x2)).bind fun σ3 =>
  (some (st σ3 13 0 ((σ3 13 0) + (1 : Int32)))).bind fun σ5 =>
  some ((σ5 13 0), σ5)
noncomputable def F_X3_addWord (σ : Mem) (x1 : Int32) : Option (Int32 × Mem) :=
  (F_X3_add σ x1 (0 : Int32)).bind fun p1 =>
  some (p1.1, p1.2)
noncomputable def F_X3_addNumber (σ : Mem) (x1 : Int32) : Option (Int32 × Mem) :=
  (F_X3_add σ x1 (1 : Int32)).bind fun p1 =>
  some (p1.1, p1.2)
noncomputable def F_X3_empty (σ : Mem) : Option (Int32 × Mem) :=
  (some (st σ 13 0 (0 : Int32))).bind fun σ1 =>
  some ((σ 13 0), σ1)
noncomputable def B_X3_isFirstOfWord_0 (σ : Mem) (x1 : Int32) : Option (Nat × Unit × List Int32) :=
  (F_X3_isWordAt σ x1).bind fun v1 =>
  if v1 = (0 : Int32) then
    some (99999, (), [(0 : Int32)])
  else
    some (12, (), [x1, (0 : Int32)])
noncomputable def B_X3_isFirstOfWord_12 (σ : Mem) (x1 : Int32) (x2 : Int32) : Option (Nat × Unit × List Int32) :=
  if x1 ≤ x2 then
    some (99999, (), [(1 : Int32)])
  else
    (F_X3_isWordAt σ x2).bind fun v2 =>
    if v2 = (0 : Int32) then
      some (12, (), [x1, (x2 + (1 : Int32))])
    else
      (ld 8 (σ 15) x2).bind fun v5 =>
      (ld 8 (σ 15) x1).bind fun v7 =>
      if v5 = v7 then
        some (99999, (), [(0 : Int32)])
      else
        some (12, (), [x1, (x2 + (1 : Int32))])
noncomputable def B_X3_isFirstOfWord (σ : Mem) : Nat → Unit → List Int32 → Option (Nat × Unit × List Int32) := fun pc _ vs => match pc, vs with
  | 0, [x1] => B_X3_isFirstOfWord_0 σ x1
  | 12, [x1, x2] => B_X3_isFirstOfWord_12 σ x1 x2
  | _, _ => none
noncomputable def F_X3_isFirstOfWord (σ : Mem) (x1 : Int32) : Option Int32 := (finL (B_X3_isFirstOfWord σ) 0 () [x1]).bind extR
noncomputable def F_X5_spoil (σ : Mem) : Option Mem :=
  (some (st σ 16 9 (0 : Int32))).bind fun σ1 =>
  some σ1
noncomputable def F_X5_hasSort (σ : Mem) (x1 : Int32) (x2 : Int32) (x3 : Int32) : Option Int32 :=
  (F_X3_isWordAt σ x2).bind fun v1 =>
  if v1 = (0 : Int32) then
    some (0 : Int32)
  else
    (F_X3_tokenAt σ x2).bind fun v4 =>
    (F_X7_sortAt σ (F_X7_spotOf σ v4 (F_X5_meaningIn x1 x2))).bind fun v6 =>
    if v6 = x3 then
      some (1 : Int32)
    else
      some (0 : Int32)
noncomputable def B_X5_passNumber_0 (σ : Mem) (x1 : Int32) (x2 : Int32) : Option (Nat × Mem × List Int32) :=
  some (5, σ, [x1, x2, (0 : Int32), (0 : Int32)])
noncomputable def B_X5_passNumber_5 (σ : Mem) (x1 : Int32) (x2 : Int32) (x3 : Int32) (x4 : Int32) : Option (Nat × Mem × List Int32) :=
  if x2 ≤ x4 then
    some (99999, σ, [x3])
  else
    (ld 6561 (σ 25) x4).bind fun v2 =>
    (F_X5_hasSort σ v2 (x1 - (1 : Int32)) (4 : Int32)).bind fun v4 =>
    if v4 = (0 : Int32) then
      some (5, σ, [x1, x2, x3, (x4 + (1 : Int32))])
    else
      (ld 6561 (σ 25) x4).bind fun v7 =>
      (sto 6561 25 σ x3 v7).bind fun σ9 =>
      some (5, σ9, [x1, x2, (x3 + (1 : Int32)), (x4 + (1 : Int32))])
noncomputable def B_X5_passNumber : Nat → Mem → List Int32 → Option (Nat × Mem × List Int32) := fun pc σ vs => match pc, vs with
  | 0, [x1, x2] => B_X5_passNumber_0 σ x1 x2
  | 5, [x1, x2, x3, x4] => B_X5_passNumber_5 σ x1 x2 x3 x4
  | _, _ => none
noncomputable def F_X5_passNumber (σ : Mem) (x1 : Int32) (x2 : Int32) : Option (Int32 × Mem) := (finL B_X5_passNumber 0 σ [x1, x2]).bind extM
noncomputable def F_X7_meaningsOf (σ : Mem) (x1 : Int32) : Option Int32 :=
  (ld 40 (σ 7) x1).bind fun v1 =>
  some v1
noncomputable def F_X7_costAt (σ : Mem) (x1 : Int32) : Option Int32 :=
  (ld 120 (σ 12) x1).bind fun v1 =>
  some v1
noncomputable def F_X5_keyPart (x0 : Int32) (x1 : Int32) (x2 : Int32) : Int32 :=
  ((x2 <<< ((16 : Int32) &&& 31)) + (x1 <<< ((((7 : Int32) - x0) * (2 : Int32)) &&& 31)))
noncomputable def B_X5_growByWord_0 (σ : Mem) (x1 : Int32) (x2 : Int32) : Option (Nat × Mem × List Int32) :=
  (F_X3_tokenAt σ x1).bind fun v1 =>
  (F_X3_isNumber σ (x1 + (1 : Int32))).bind fun v3 =>
  some (27, σ, [x1, x2, v1, v3, (0 : Int32), (0 : Int32)])
noncomputable def B_X5_growByWord_27 (σ : Mem) (x1 : Int32) (x2 : Int32) (x3 : Int32) (x4 : Int32) (x5 : Int32) (x6 : Int32) : Option (Nat × Mem × List Int32) :=
  if x2 ≤ x6 then
    (F_X5_swap σ).bind fun σ2 =>
    some (99999, σ2, [x5])
  else
    if x4 = (0 : Int32) then
      some (66, σ, [x1, x2, x3, x4, x5, x6, (0 : Int32), (0 : Int32)])
    else
      (ld 6561 (σ 25) x6).bind fun v5 =>
      (F_X5_hasSort σ v5 (x1 - (1 : Int32)) (1 : Int32)).bind fun v7 =>
      if v7 = (0 : Int32) then
        some (66, σ, [x1, x2, x3, x4, x5, x6, (0 : Int32), (0 : Int32)])
      else
        some (66, σ, [x1, x2, x3, x4, x5, x6, (1 : Int32), (0 : Int32)])
noncomputable def B_X5_growByWord_66 (σ : Mem) (x1 : Int32) (x2 : Int32) (x3 : Int32) (x4 : Int32) (x5 : Int32) (x6 : Int32) (x7 : Int32) (x8 : Int32) : Option (Nat × Mem × List Int32) :=
  (F_X7_meaningsOf σ x3).bind fun v1 =>
  if v1 ≤ x8 then
    some (27, σ, [x1, x2, x3, x4, x5, (x6 + (1 : Int32))])
  else
    if (6561 : Int32) ≤ x5 then
      some (27, σ, [x1, x2, x3, x4, x5, (x6 + (1 : Int32))])
    else
      if x7 = (0 : Int32) then
        (F_X7_sortAt σ (F_X7_spotOf σ x3 x8)).bind fun v12 =>
        if v12 = (4 : Int32) then
          some (66, σ, [x1, x2, x3, x4, x5, x6, x7, (x8 + (1 : Int32))])
        else
          (ld 6561 (σ 25) x6).bind fun v15 =>
          (F_X7_costAt σ (F_X7_spotOf σ x3 x8)).bind fun v17 =>
          (sto 6561 26 σ x5 (v15 + (F_X5_keyPart x1 x8 v17))).bind fun σ19 =>
          some (66, σ19, [x1, x2, x3, x4, (x5 + (1 : Int32)), x6, x7, (x8 + (1 : Int32))])
      else
        (ld 6561 (σ 25) x6).bind fun v6 =>
        (F_X7_costAt σ (F_X7_spotOf σ x3 x8)).bind fun v8 =>
        (sto 6561 26 σ x5 (v6 + (F_X5_keyPart x1 x8 v8))).bind fun σ10 =>
        some (66, σ10, [x1, x2, x3, x4, (x5 + (1 : Int32)), x6, x7, (x8 + (1 : Int32))])
noncomputable def B_X5_growByWord : Nat → Mem → List Int32 → Option (Nat × Mem × List Int32) := fun pc σ vs => match pc, vs with
  | 0, [x1, x2] => B_X5_growByWord_0 σ x1 x2
  | 27, [x1, x2, x3, x4, x5, x6] => B_X5_growByWord_27 σ x1 x2 x3 x4 x5 x6
  | 66, [x1, x2, x3, x4, x5, x6, x7, x8] => B_X5_growByWord_66 σ x1 x2 x3 x4 x5 x6 x7 x8
  | _, _ => none
noncomputable def F_X5_growByWord (σ : Mem) (x1 : Int32) (x2 : Int32) : Option (Int32 × Mem) := (finL B_X5_growByWord 0 σ [x1, x2]).bind extM
noncomputable def B_X5_growKeys_0 (σ : Mem) : Option (Nat × Mem × List Int32) :=
  (sto 6561 25 σ (0 : Int32) (0 : Int32)).bind fun σ1 =>
  some (11, σ1, [(1 : Int32), (0 : Int32)])
noncomputable def B_X5_growKeys_11 (σ : Mem) (x1 : Int32) (x2 : Int32) : Option (Nat × Mem × List Int32) :=
  if (F_X3_size σ) ≤ x2 then
    some (99999, σ, [x1])
  else
    (F_X3_isNumber σ x2).bind fun v2 =>
    if v2 = (0 : Int32) then
      (F_X5_growByWord σ x2 x1).bind fun p5 =>
      some (11, p5.2, [p5.1, (x2 + (1 : Int32))])
    else
      (F_X5_passNumber σ x2 x1).bind fun p7 =>
      some (11, p7.2, [p7.1, (x2 + (1 : Int32))])
noncomputable def B_X5_growKeys : Nat → Mem → List Int32 → Option (Nat × Mem × List Int32) := fun pc σ vs => match pc, vs with
  | 0, [] => B_X5_growKeys_0 σ 
  | 11, [x1, x2] => B_X5_growKeys_11 σ x1 x2
  | _, _ => none
noncomputable def F_X5_growKeys (σ : Mem) : Option (Int32 × Mem) := (finL B_X5_growKeys 0 σ []).bind extM
noncomputable def B_X5_keepStanding_0 (σ : Mem) (x1 : Int32) : Option (Nat × Mem × List Int32) :=
  some (4, σ, [x1, (0 : Int32), (0 : Int32)])
noncomputable def B_X5_keepStanding_4 (σ : Mem) (x1 : Int32) (x2 : Int32) (x3 : Int32) : Option (Nat × Mem × List Int32) :=
  if x1 ≤ x3 then
    some (99999, σ, [x2])
  else
    (ld 6561 (σ 25) x3).bind fun v2 =>
    (F_X5_fillForm σ v2).bind fun σ4 =>
    (F_X2_stands σ4).bind fun v6 =>
    if v6 = (0 : Int32) then
      some (4, σ4, [x1, x2, (x3 + (1 : Int32))])
    else
      (ld 6561 (σ4 25) x3).bind fun v9 =>
      (sto 6561 25 σ4 x2 v9).bind fun σ11 =>
      some (4, σ11, [x1, (x2 + (1 : Int32)), (x3 + (1 : Int32))])
noncomputable def B_X5_keepStanding : Nat → Mem → List Int32 → Option (Nat × Mem × List Int32) := fun pc σ vs => match pc, vs with
  | 0, [x1] => B_X5_keepStanding_0 σ x1
  | 4, [x1, x2, x3] => B_X5_keepStanding_4 σ x1 x2 x3
  | _, _ => none
noncomputable def F_X5_keepStanding (σ : Mem) (x1 : Int32) : Option (Int32 × Mem) := (finL B_X5_keepStanding 0 σ [x1]).bind extM
noncomputable def F_X5_costAt (σ : Mem) (x1 : Int32) : Option Int32 :=
  (ld 6561 (σ 25) x1).bind fun v1 =>
  some (v1 >>> ((16 : Int32) &&& 31))
noncomputable def B_X5_sortByCost_0 (σ : Mem) : Option (Nat × Mem × List Int32) :=
  (some (fillM σ 23 794 (0 : Int32))).bind fun σ1 =>
  some (10, σ1, [(0 : Int32)])
noncomputable def B_X5_sortByCost_10 (σ : Mem) (x1 : Int32) : Option (Nat × Mem × List Int32) :=
  if (σ 16 8) ≤ x1 then
    some (42, σ, [(1 : Int32)])
  else
    (F_X5_costAt σ x1).bind fun v2 =>
    (ld 794 (σ 23) (v2 + (1 : Int32))).bind fun v4 =>
    (sto 794 23 σ (v2 + (1 : Int32)) (v4 + (1 : Int32))).bind fun σ6 =>
    some (10, σ6, [(x1 + (1 : Int32))])
noncomputable def B_X5_sortByCost_42 (σ : Mem) (x1 : Int32) : Option (Nat × Mem × List Int32) :=
  if (794 : Int32) ≤ x1 then
    some (76, σ, [(0 : Int32)])
  else
    (ld 794 (σ 23) x1).bind fun v2 =>
    (ld 794 (σ 23) (x1 - (1 : Int32))).bind fun v4 =>
    (sto 794 23 σ x1 (v2 + v4)).bind fun σ6 =>
    some (42, σ6, [(x1 + (1 : Int32))])
noncomputable def B_X5_sortByCost_76 (σ : Mem) (x1 : Int32) : Option (Nat × Mem × List Int32) :=
  if (σ 16 8) ≤ x1 then
    (F_X5_swap σ).bind fun σ2 =>
    some (99999, σ2, [])
  else
    (F_X5_costAt σ x1).bind fun v4 =>
    (ld 794 (σ 23) v4).bind fun v6 =>
    (ld 6561 (σ 25) x1).bind fun v8 =>
    (sto 6561 26 σ v6 v8).bind fun σ10 =>
    (ld 794 (σ10 23) v4).bind fun v12 =>
    (sto 794 23 σ10 v4 (v12 + (1 : Int32))).bind fun σ14 =>
    some (76, σ14, [(x1 + (1 : Int32))])
noncomputable def B_X5_sortByCost : Nat → Mem → List Int32 → Option (Nat × Mem × List Int32) := fun pc σ vs => match pc, vs with
  | 0, [] => B_X5_sortByCost_0 σ 
  | 10, [x1] => B_X5_sortByCost_10 σ x1
  | 42, [x1] => B_X5_sortByCost_42 σ x1
  | 76, [x1] => B_X5_sortByCost_76 σ x1
  | _, _ => none
noncomputable def F_X5_sortByCost (σ : Mem) : Option Mem := (finL B_X5_sortByCost 0 σ []).bind extV
noncomputable def F_X5_refresh (σ : Mem) : Option Mem :=
  if (σ 16 9) = (0 : Int32) then
    (some (st σ 16 9 (1 : Int32))).bind fun σ2 =>
    (F_X5_growKeys σ2).bind fun p4 =>
    (F_X5_keepStanding p4.2 p4.1).bind fun p6 =>
    (some (st p6.2 16 8 p6.1)).bind fun σ8 =>
    (F_X5_sortByCost σ8).bind fun σ10 =>
    some σ10
  else
    some σ
noncomputable def F_X5_size (σ : Mem) : Option (Int32 × Mem) :=
  (F_X5_refresh σ).bind fun σ1 =>
  some ((σ1 16 8), σ1)
noncomputable def F_X5_has (σ : Mem) (x1 : Int32) : Option (Int32 × Mem) :=
  (F_X5_refresh σ).bind fun σ1 =>
  if x1 < (0 : Int32) then
    some ((0 : Int32), σ1)
  else
    if (σ1 16 8) ≤ x1 then
      some ((0 : Int32), σ1)
    else
      some ((1 : Int32), σ1)
noncomputable def B_X5_near_0 (σ : Mem) (x1 : Int32) : Option (Nat × Mem × List Int32) :=
  (F_X5_refresh σ).bind fun σ1 =>
  some (6, σ1, [x1, (0 : Int32)])
noncomputable def B_X5_near_6 (σ : Mem) (x1 : Int32) (x2 : Int32) : Option (Nat × Mem × List Int32) :=
  if (σ 16 8) ≤ x2 then
    some (99999, σ, [x2])
  else
    (F_X5_costAt σ x2).bind fun v2 =>
    (F_X5_costAt σ (0 : Int32)).bind fun v4 =>
    if (v4 + x1) < v2 then
      some (99999, σ, [x2])
    else
      some (6, σ, [x1, (x2 + (1 : Int32))])
noncomputable def B_X5_near : Nat → Mem → List Int32 → Option (Nat × Mem × List Int32) := fun pc σ vs => match pc, vs with
  | 0, [x1] => B_X5_near_0 σ x1
  | 6, [x1, x2] => B_X5_near_6 σ x1 x2
  | _, _ => none
noncomputable def F_X5_near (σ : Mem) (x1 : Int32) : Option (Int32 × Mem) := (finL B_X5_near 0 σ [x1]).bind extM
noncomputable def F_X6_size (σ : Mem) : Int32 :=
  (σ 1 0)
noncomputable def F_X6_hasTable (σ : Mem) (x1 : Int32) : Int32 :=
  if x1 < (0 : Int32) then
    (0 : Int32)
  else
    if (σ 1 0) ≤ x1 then
      (0 : Int32)
    else
      (1 : Int32)
noncomputable def F_X6_hasColumn (σ : Mem) (x1 : Int32) (x2 : Int32) : Option Int32 :=
  if (F_X6_hasTable σ x1) = (0 : Int32) then
    some (0 : Int32)
  else
    if x2 < (0 : Int32) then
      some (0 : Int32)
    else
      (ld 4 (σ 2) x1).bind fun v3 =>
      if v3 ≤ x2 then
        some (0 : Int32)
      else
        some (1 : Int32)
noncomputable def F_X6_hasCell (σ : Mem) (x1 : Int32) (x2 : Int32) (x3 : Int32) : Option Int32 :=
  (F_X6_hasColumn σ x1 x3).bind fun v1 =>
  if v1 = (0 : Int32) then
    some (0 : Int32)
  else
    if x2 < (0 : Int32) then
      some (0 : Int32)
    else
      (ld 4 (σ 3) x1).bind fun v5 =>
      if v5 ≤ x2 then
        some (0 : Int32)
      else
        some (1 : Int32)
noncomputable def F_X6_addTable (σ : Mem) (x1 : Int32) : Option (Int32 × Mem) :=
  (sto 4 2 σ (σ 1 0) x1).bind fun σ1 =>
  (some (st σ1 1 0 ((σ1 1 0) + (1 : Int32)))).bind fun σ3 =>
  some (((σ3 1 0) - (1 : Int32)), σ3)
noncomputable def F_X6_addRow (σ : Mem) (x1 : Int32) : Option (Int32 × Mem) :=
  (ld 4 (σ 3) x1).bind fun v1 =>
  (sto 4 3 σ x1 (v1 + (1 : Int32))).bind fun σ3 =>
  (ld 4 (σ3 3) x1).bind fun v5 =>
  some ((v5 - (1 : Int32)), σ3)
noncomputable def F_X6_setCell (σ : Mem) (x1 : Int32) (x2 : Int32) (x3 : Int32) (x4 : Int32) : Option Mem :=
  (sto 320 5 σ ((((x1 * (20 : Int32)) + x2) * (4 : Int32)) + x3) x4).bind fun σ1 =>
  some σ1
noncomputable def F_X6_changeLink (σ : Mem) (x1 : Int32) (x2 : Int32) (x3 : Int32) : Option (Int32 × Mem) :=
  (ld 16 (σ 4) ((x1 * (4 : Int32)) + x2)).bind fun v1 =>
  (sto 16 4 σ ((x1 * (4 : Int32)) + x2) x3).bind fun σ3 =>
  some (v1, σ3)
noncomputable def F_X7_size (σ : Mem) : Int32 :=
  (σ 6 0)
noncomputable def F_X7_addMeaning (σ : Mem) (x1 : Int32) (x2 : Int32) (x3 : Int32) (x4 : Int32) (x5 : Int32) (x6 : Int32) : Option (Int32 × Mem) :=
  (ld 40 (σ 7) x1).bind fun v1 =>
  (sto 120 8 σ (F_X7_spotOf σ x1 v1) x2).bind fun σ3 =>
  (sto 120 9 σ3 (F_X7_spotOf σ x1 v1) x3).bind fun σ5 =>
  (sto 120 10 σ5 (F_X7_spotOf σ x1 v1) x4).bind fun σ7 =>
  (sto 120 11 σ7 (F_X7_spotOf σ x1 v1) x5).bind fun σ9 =>
  (sto 120 12 σ9 (F_X7_spotOf σ x1 v1) x6).bind fun σ11 =>
  (ld 40 (σ11 7) x1).bind fun v13 =>
  (sto 40 7 σ11 x1 (v13 + (1 : Int32))).bind fun σ15 =>
  (some (st σ15 6 0 ((σ15 6 0) + (1 : Int32)))).bind fun σ17 =>
  (ld 40 (σ17 7) x1).bind fun v19 =>
  some ((v19 - (1 : Int32)), σ17)
noncomputable def F_X7_dropMeanings (σ : Mem) (x1 : Int32) : Option (Int32 × Mem) :=
  (ld 40 (σ 7) x1).bind fun v1 =>
  (sto 40 7 σ x1 (0 : Int32)).bind fun σ3 =>
  (some (st σ3 6 0 ((σ3 6 0) - v1))).bind fun σ5 =>
  some (v1, σ5)
noncomputable def B_X7_learn_0 (σ : Mem) (x1 : Int32) (x2 : Int32) : Option (Nat × Mem × List Int32) :=
  some (5, σ, [x1, x2, (0 : Int32), (0 : Int32)])
noncomputable def B_X7_learn_5 (σ : Mem) (x1 : Int32) (x2 : Int32) (x3 : Int32) (x4 : Int32) : Option (Nat × Mem × List Int32) :=
  (ld 40 (σ 7) x1).bind fun v1 =>
  if v1 ≤ x4 then
    some (99999, σ, [x3])
  else
    (ld 120 (σ 12) (F_X7_spotOf σ x1 x4)).bind fun v4 =>
    if x4 = x2 then
      (sto 120 12 σ (F_X7_spotOf σ x1 x4) (if (v4 - (1 : Int32)) < (0 : Int32) then (0 : Int32) else (v4 - (1 : Int32)))).bind fun σ12 =>
      (ld 120 (σ12 12) (F_X7_spotOf σ x1 x4)).bind fun v14 =>
      if v14 = v4 then
        some (5, σ12, [x1, x2, x3, (x4 + (1 : Int32))])
      else
        some (5, σ12, [x1, x2, (x3 + (1 : Int32)), (x4 + (1 : Int32))])
    else
      (sto 120 12 σ (F_X7_spotOf σ x1 x4) (if (99 : Int32) < (v4 + (1 : Int32)) then (99 : Int32) else (v4 + (1 : Int32)))).bind fun σ7 =>
      (ld 120 (σ7 12) (F_X7_spotOf σ x1 x4)).bind fun v9 =>
      if v9 = v4 then
        some (5, σ7, [x1, x2, x3, (x4 + (1 : Int32))])
      else
        some (5, σ7, [x1, x2, (x3 + (1 : Int32)), (x4 + (1 : Int32))])
noncomputable def B_X7_learn : Nat → Mem → List Int32 → Option (Nat × Mem × List Int32) := fun pc σ vs => match pc, vs with
  | 0, [x1, x2] => B_X7_learn_0 σ x1 x2
  | 5, [x1, x2, x3, x4] => B_X7_learn_5 σ x1 x2 x3 x4
  | _, _ => none
noncomputable def F_X7_learn (σ : Mem) (x1 : Int32) (x2 : Int32) : Option (Int32 × Mem) := (finL B_X7_learn 0 σ [x1, x2]).bind extM
noncomputable def F_X8_table (σ : Mem) (x1 : Int32) : Option (Int32 × Mem) :=
  if x1 < (1 : Int32) then
    some ((-1 : Int32), σ)
  else
    if x1 ≤ (4 : Int32) then
      if (F_X6_size σ) < (4 : Int32) then
        (F_X6_addTable σ x1).bind fun p4 =>
        some (p4.1, p4.2)
      else
        some ((-2 : Int32), σ)
    else
      some ((-1 : Int32), σ)
noncomputable def F_X8_rowsChanged (σ : Mem) : Option Mem :=
  (F_X1_spoil σ).bind fun σ1 =>
  (F_X0_spoil σ1).bind fun σ3 =>
  some σ3
noncomputable def F_X8_row (σ : Mem) (x1 : Int32) : Option (Int32 × Mem) :=
  if (F_X6_hasTable σ x1) = (0 : Int32) then
    some ((-1 : Int32), σ)
  else
    (F_X6_rowsOf σ x1).bind fun v2 =>
    if v2 < (20 : Int32) then
      (F_X8_rowsChanged σ).bind fun σ5 =>
      (F_X6_addRow σ5 x1).bind fun p7 =>
      some (p7.1, p7.2)
    else
      some ((-2 : Int32), σ)
noncomputable def F_X8_isValue (x0 : Int32) : Int32 :=
  if x0 < (-999 : Int32) then
    (0 : Int32)
  else
    if (999 : Int32) < x0 then
      (0 : Int32)
    else
      (1 : Int32)
noncomputable def F_X8_put (σ : Mem) (x1 : Int32) (x2 : Int32) (x3 : Int32) (x4 : Int32) : Option (Int32 × Mem) :=
  (F_X6_hasCell σ x1 x2 x3).bind fun v1 =>
  if v1 = (0 : Int32) then
    some ((-1 : Int32), σ)
  else
    if x4 = (-1000 : Int32) then
      (F_X8_rowsChanged σ).bind fun σ5 =>
      if x4 = (-1000 : Int32) then
        (F_X6_setCell σ5 x1 x2 x3 (-1000000 : Int32)).bind fun σ10 =>
        some ((1 : Int32), σ10)
      else
        (F_X6_setCell σ5 x1 x2 x3 x4).bind fun σ8 =>
        some ((1 : Int32), σ8)
    else
      if (F_X8_isValue x4) = (0 : Int32) then
        some ((-1 : Int32), σ)
      else
        (F_X8_rowsChanged σ).bind fun σ13 =>
        if x4 = (-1000 : Int32) then
          (F_X6_setCell σ13 x1 x2 x3 (-1000000 : Int32)).bind fun σ18 =>
          some ((1 : Int32), σ18)
        else
          (F_X6_setCell σ13 x1 x2 x3 x4).bind fun σ16 =>
          some ((1 : Int32), σ16)
noncomputable def F_X8_value (σ : Mem) (x1 : Int32) (x2 : Int32) (x3 : Int32) : Option Int32 :=
  (F_X6_hasCell σ x1 x2 x3).bind fun v1 =>
  if v1 = (0 : Int32) then
    some (-2000000 : Int32)
  else
    (F_X6_cell σ x1 x2 x3).bind fun v4 =>
    some v4
noncomputable def F_X8_questionChanged (σ : Mem) : Option Mem :=
  (F_X5_spoil σ).bind fun σ1 =>
  (F_X8_rowsChanged σ1).bind fun σ3 =>
  some σ3
noncomputable def F_X8_link (σ : Mem) (x1 : Int32) (x2 : Int32) (x3 : Int32) : Option (Int32 × Mem) :=
  if x3 = (-1 : Int32) then
    (F_X6_hasColumn σ x1 x2).bind fun v2 =>
    if v2 = (0 : Int32) then
      some ((-9 : Int32), σ)
    else
      if (1 : Int32) = (0 : Int32) then
        some ((-9 : Int32), σ)
      else
        if x3 = x1 then
          some ((-9 : Int32), σ)
        else
          (F_X8_questionChanged σ).bind fun σ7 =>
          (F_X6_changeLink σ7 x1 x2 x3).bind fun p9 =>
          some (p9.1, p9.2)
  else
    if (F_X6_hasTable σ x3) = (0 : Int32) then
      (F_X6_hasColumn σ x1 x2).bind fun v12 =>
      if v12 = (0 : Int32) then
        some ((-9 : Int32), σ)
      else
        if (0 : Int32) = (0 : Int32) then
          some ((-9 : Int32), σ)
        else
          if x3 = x1 then
            some ((-9 : Int32), σ)
          else
            (F_X8_questionChanged σ).bind fun σ17 =>
            (F_X6_changeLink σ17 x1 x2 x3).bind fun p19 =>
            some (p19.1, p19.2)
    else
      (F_X6_hasColumn σ x1 x2).bind fun v21 =>
      if v21 = (0 : Int32) then
        some ((-9 : Int32), σ)
      else
        if (1 : Int32) = (0 : Int32) then
          some ((-9 : Int32), σ)
        else
          if x3 = x1 then
            some ((-9 : Int32), σ)
          else
            (F_X8_questionChanged σ).bind fun σ26 =>
            (F_X6_changeLink σ26 x1 x2 x3).bind fun p28 =>
            some (p28.1, p28.2)
noncomputable def F_X8_isWord (x0 : Int32) : Int32 :=
  if x0 < (0 : Int32) then
    (0 : Int32)
  else
    if (40 : Int32) ≤ x0 then
      (0 : Int32)
    else
      (1 : Int32)
noncomputable def F_X8_isMeaning (σ : Mem) (x1 : Int32) (x2 : Int32) (x3 : Int32) (x4 : Int32) : Option Int32 :=
  if x1 = (0 : Int32) then
    if (F_X6_hasTable σ x2) = (0 : Int32) then
      some (0 : Int32)
    else
      if x3 = (0 : Int32) then
        if x4 = (0 : Int32) then
          some (1 : Int32)
        else
          some (0 : Int32)
      else
        some (0 : Int32)
  else
    if x1 = (1 : Int32) then
      (F_X6_hasColumn σ x2 x3).bind fun v6 =>
      if v6 = (0 : Int32) then
        some (0 : Int32)
      else
        if x4 = (0 : Int32) then
          some (1 : Int32)
        else
          some (0 : Int32)
    else
      if x1 = (2 : Int32) then
        if (3 : Int32) < x2 then
          some (0 : Int32)
        else
          if x3 = (0 : Int32) then
            if x4 = (0 : Int32) then
              some (1 : Int32)
            else
              some (0 : Int32)
          else
            some (0 : Int32)
      else
        if x1 = (3 : Int32) then
          (F_X6_hasColumn σ x2 x3).bind fun v15 =>
          if v15 = (0 : Int32) then
            some (0 : Int32)
          else
            if (F_X8_isValue x4) = (0 : Int32) then
              some (0 : Int32)
            else
              some (1 : Int32)
        else
          if x1 = (4 : Int32) then
            if (2 : Int32) < x2 then
              some (0 : Int32)
            else
              if x3 = (0 : Int32) then
                if x4 = (0 : Int32) then
                  some (1 : Int32)
                else
                  some (0 : Int32)
              else
                some (0 : Int32)
          else
            if x1 = (5 : Int32) then
              if x2 = (0 : Int32) then
                if x3 = (0 : Int32) then
                  if x4 = (0 : Int32) then
                    some (1 : Int32)
                  else
                    some (0 : Int32)
                else
                  some (0 : Int32)
              else
                some (0 : Int32)
            else
              some (0 : Int32)
noncomputable def F_X8_mean (σ : Mem) (x1 : Int32) (x2 : Int32) (x3 : Int32) (x4 : Int32) (x5 : Int32) : Option (Int32 × Mem) :=
  if (F_X8_isWord x1) = (0 : Int32) then
    some ((-1 : Int32), σ)
  else
    if x3 < (0 : Int32) then
      some ((-1 : Int32), σ)
    else
      if x5 < (0 : Int32) then
        some ((-1 : Int32), σ)
      else
        if x5 ≤ (99 : Int32) then
          (F_X8_isMeaning σ x2 (x3 / (100 : Int32)) (x3 - x3 / (100 : Int32) * (100 : Int32)) x4).bind fun v5 =>
          if v5 = (0 : Int32) then
            some ((-1 : Int32), σ)
          else
            (F_X7_meaningsOf σ x1).bind fun v8 =>
            if v8 < (3 : Int32) then
              (F_X8_questionChanged σ).bind fun σ11 =>
              (F_X7_addMeaning σ11 x1 x2 (x3 / (100 : Int32)) (x3 - x3 / (100 : Int32) * (100 : Int32)) x4 x5).bind fun p13 =>
              some (p13.1, p13.2)
            else
              some ((-2 : Int32), σ)
        else
          some ((-1 : Int32), σ)
noncomputable def F_X8_cost (σ : Mem) (x1 : Int32) (x2 : Int32) : Option Int32 :=
  if (F_X8_isWord x1) = (0 : Int32) then
    some (-1 : Int32)
  else
    if x2 < (0 : Int32) then
      some (-1 : Int32)
    else
      (F_X7_meaningsOf σ x1).bind fun v3 =>
      if x2 < v3 then
        (F_X7_costAt σ (F_X7_spotOf σ x1 x2)).bind fun v6 =>
        some v6
      else
        some (-1 : Int32)
noncomputable def F_X8_forget (σ : Mem) (x1 : Int32) : Option (Int32 × Mem) :=
  if (F_X8_isWord x1) = (0 : Int32) then
    some ((-1 : Int32), σ)
  else
    (F_X8_questionChanged σ).bind fun σ2 =>
    (F_X7_dropMeanings σ2 x1).bind fun p4 =>
    some (p4.1, p4.2)
noncomputable def F_X8_word (σ : Mem) (x1 : Int32) : Option (Int32 × Mem) :=
  if (F_X8_isWord x1) = (0 : Int32) then
    some ((-1 : Int32), σ)
  else
    if (F_X3_size σ) < (8 : Int32) then
      (F_X8_questionChanged σ).bind fun σ3 =>
      (F_X3_addWord σ3 x1).bind fun p5 =>
      some (p5.1, p5.2)
    else
      some ((-2 : Int32), σ)
noncomputable def F_X8_number (σ : Mem) (x1 : Int32) : Option (Int32 × Mem) :=
  if (F_X8_isValue x1) = (0 : Int32) then
    some ((-1 : Int32), σ)
  else
    if (F_X3_size σ) < (8 : Int32) then
      (F_X8_questionChanged σ).bind fun σ3 =>
      (F_X3_addNumber σ3 x1).bind fun p5 =>
      some (p5.1, p5.2)
    else
      some ((-2 : Int32), σ)
noncomputable def F_X8_clear (σ : Mem) : Option (Int32 × Mem) :=
  (F_X8_questionChanged σ).bind fun σ1 =>
  (F_X3_empty σ1).bind fun p3 =>
  some (p3.1, p3.2)
noncomputable def F_X8_readings (σ : Mem) : Option (Int32 × Mem) :=
  (F_X5_size σ).bind fun p1 =>
  some (p1.1, p1.2)
noncomputable def F_X8_reading (σ : Mem) (x1 : Int32) (x2 : Int32) : Option (Int32 × Mem) :=
  (F_X5_has σ x1).bind fun p1 =>
  if p1.1 = (0 : Int32) then
    some ((-9 : Int32), p1.2)
  else
    if x2 < (10 : Int32) then
      (F_X5_formOf p1.2 x1).bind fun σ5 =>
      if x2 = (0 : Int32) then
        (F_X5_costAt σ5 x1).bind fun v8 =>
        some (v8, σ5)
      else
        if x2 = (1 : Int32) then
          some ((F_X2_doing σ5), σ5)
        else
          if x2 = (2 : Int32) then
            some ((F_X2_from σ5), σ5)
          else
            if x2 = (3 : Int32) then
              some ((F_X2_wanted σ5), σ5)
            else
              if x2 = (4 : Int32) then
                some ((F_X2_tests σ5), σ5)
              else
                if x2 = (5 : Int32) then
                  (F_X1_rowsFound σ5).bind fun p15 =>
                  some ((F_J6_bitCount_0f7a4 p15.1), p15.2)
                else
                  some ((-9 : Int32), σ5)
    else
      if (F_X3_has p1.2 (x2 - (10 : Int32))) = (0 : Int32) then
        some ((-9 : Int32), p1.2)
      else
        (F_X5_meaningAt p1.2 x1 (x2 - (10 : Int32))).bind fun v18 =>
        some (v18, p1.2)
noncomputable def F_X8_test (σ : Mem) (x1 : Int32) (x2 : Int32) (x3 : Int32) : Option (Int32 × Mem) :=
  (F_X5_has σ x1).bind fun p1 =>
  if p1.1 = (0 : Int32) then
    some ((-2000000 : Int32), p1.2)
  else
    (F_X5_formOf p1.2 x1).bind fun σ4 =>
    if x2 < (0 : Int32) then
      some ((-2000000 : Int32), σ4)
    else
      if x2 < (F_X2_tests σ4) then
        if x3 = (0 : Int32) then
          (F_X2_tableOf σ4 x2).bind fun v9 =>
          some (v9, σ4)
        else
          if x3 = (1 : Int32) then
            (F_X2_columnOf σ4 x2).bind fun v12 =>
            some (v12, σ4)
          else
            if x3 = (2 : Int32) then
              (F_X2_thanOf σ4 x2).bind fun v15 =>
              some (v15, σ4)
            else
              if x3 = (3 : Int32) then
                (F_X2_numberOf σ4 x2).bind fun v18 =>
                some (v18, σ4)
              else
                some ((-2000000 : Int32), σ4)
      else
        some ((-2000000 : Int32), σ4)
noncomputable def F_X8_answer (σ : Mem) (x1 : Int32) : Option (Int32 × Mem) :=
  (F_X5_has σ x1).bind fun p1 =>
  if p1.1 = (0 : Int32) then
    some ((-2000000 : Int32), p1.2)
  else
    (F_X5_formOf p1.2 x1).bind fun σ4 =>
    (F_X1_answerOf σ4).bind fun p6 =>
    some (p6.1, p6.2)
noncomputable def B_X8_found_0 (σ : Mem) (x1 : Int32) (x2 : Int32) : Option (Nat × Mem × List Int32) :=
  (F_X5_has σ x1).bind fun p1 =>
  if p1.1 = (0 : Int32) then
    some (99999, p1.2, [(-1 : Int32)])
  else
    if (0 : Int32) ≤ x2 then
      (F_X5_formOf p1.2 x1).bind fun σ5 =>
      (F_X1_rowsFound σ5).bind fun p7 =>
      some (39, p7.2, [p7.1, x2, (0 : Int32)])
    else
      some (99999, p1.2, [(-1 : Int32)])
noncomputable def B_X8_found_39 (σ : Mem) (x3 : Int32) (x4 : Int32) (x5 : Int32) : Option (Nat × Mem × List Int32) :=
  if (20 : Int32) ≤ x5 then
    some (99999, σ, [(-1 : Int32)])
  else
    if (F_X8_holdsBit x3 x5) = (0 : Int32) then
      some (39, σ, [x3, x4, (x5 + (1 : Int32))])
    else
      if x4 = (0 : Int32) then
        some (99999, σ, [x5])
      else
        some (39, σ, [x3, (x4 + (-1 : Int32)), (x5 + (1 : Int32))])
noncomputable def B_X8_found : Nat → Mem → List Int32 → Option (Nat × Mem × List Int32) := fun pc σ vs => match pc, vs with
  | 0, [x1, x2] => B_X8_found_0 σ x1 x2
  | 39, [x3, x4, x5] => B_X8_found_39 σ x3 x4 x5
  | _, _ => none
noncomputable def F_X8_found (σ : Mem) (x1 : Int32) (x2 : Int32) : Option (Int32 × Mem) := (finL B_X8_found 0 σ [x1, x2]).bind extM
noncomputable def F_X8_isDistance (x0 : Int32) : Int32 :=
  if x0 < (0 : Int32) then
    (0 : Int32)
  else
    if (1000 : Int32) < x0 then
      (0 : Int32)
    else
      (1 : Int32)
noncomputable def F_X8_answers (σ : Mem) (x1 : Int32) : Option (Int32 × Mem) :=
  if (F_X8_isDistance x1) = (0 : Int32) then
    some ((-1 : Int32), σ)
  else
    (F_X5_near σ x1).bind fun p2 =>
    (F_X0_learnAnswers p2.2 p2.1).bind fun σ4 =>
    (F_X0_unlikeAnswers σ4 p2.1).bind fun p6 =>
    some (p6.1, p6.2)
noncomputable def F_X8_back (σ : Mem) (x1 : Int32) : Option (Int32 × Mem) :=
  if (F_X8_isDistance x1) = (0 : Int32) then
    some ((-1 : Int32), σ)
  else
    (F_X5_near σ x1).bind fun p2 =>
    (F_X0_learnAnswers p2.2 p2.1).bind fun σ4 =>
    (F_X0_placeToAsk σ4 p2.1).bind fun p6 =>
    some (p6.1, p6.2)
noncomputable def B_X8_agree_0 (σ : Mem) (x1 : Int32) (x2 : Int32) (x3 : Int32) : Option (Nat × Mem × List Int32) :=
  if (F_X8_isDistance x1) = (0 : Int32) then
    some (99999, σ, [(-1 : Int32)])
  else
    if (F_X3_has σ x2) = (0 : Int32) then
      some (99999, σ, [(-1 : Int32)])
    else
      (F_X3_isNumber σ x2).bind fun v3 =>
      if v3 = (0 : Int32) then
        (F_X5_near σ x1).bind fun p6 =>
        some (47, p6.2, [x2, x3, p6.1, (0 : Int32), (0 : Int32)])
      else
        some (99999, σ, [(-1 : Int32)])
noncomputable def B_X8_agree_47 (σ : Mem) (x2 : Int32) (x3 : Int32) (x4 : Int32) (x5 : Int32) (x6 : Int32) : Option (Nat × Mem × List Int32) :=
  if x4 ≤ x6 then
    some (99999, σ, [x5])
  else
    (F_X5_meaningAt σ x6 x2).bind fun v2 =>
    if v2 = x3 then
      some (47, σ, [x2, x3, x4, (x5 + (1 : Int32)), (x6 + (1 : Int32))])
    else
      some (47, σ, [x2, x3, x4, x5, (x6 + (1 : Int32))])
noncomputable def B_X8_agree : Nat → Mem → List Int32 → Option (Nat × Mem × List Int32) := fun pc σ vs => match pc, vs with
  | 0, [x1, x2, x3] => B_X8_agree_0 σ x1 x2 x3
  | 47, [x2, x3, x4, x5, x6] => B_X8_agree_47 σ x2 x3 x4 x5 x6
  | _, _ => none
noncomputable def F_X8_agree (σ : Mem) (x1 : Int32) (x2 : Int32) (x3 : Int32) : Option (Int32 × Mem) := (finL B_X8_agree 0 σ [x1, x2, x3]).bind extM
noncomputable def B_X8_take_0 (σ : Mem) (x1 : Int32) : Option (Nat × Mem × List Int32) :=
  (F_X5_has σ x1).bind fun p1 =>
  if p1.1 = (0 : Int32) then
    some (99999, p1.2, [(-1 : Int32)])
  else
    some (17, p1.2, [x1, (0 : Int32), (0 : Int32)])
noncomputable def B_X8_take_17 (σ : Mem) (x1 : Int32) (x2 : Int32) (x3 : Int32) : Option (Nat × Mem × List Int32) :=
  if (F_X3_size σ) ≤ x3 then
    (F_X8_questionChanged σ).bind fun σ2 =>
    some (99999, σ2, [x2])
  else
    (F_X3_isFirstOfWord σ x3).bind fun v4 =>
    if v4 = (0 : Int32) then
      some (17, σ, [x1, x2, (x3 + (1 : Int32))])
    else
      (F_X3_tokenAt σ x3).bind fun v7 =>
      (F_X5_meaningAt σ x1 x3).bind fun v9 =>
      (F_X7_learn σ v7 v9).bind fun p11 =>
      some (17, p11.2, [x1, (x2 + p11.1), (x3 + (1 : Int32))])
noncomputable def B_X8_take : Nat → Mem → List Int32 → Option (Nat × Mem × List Int32) := fun pc σ vs => match pc, vs with
  | 0, [x1] => B_X8_take_0 σ x1
  | 17, [x1, x2, x3] => B_X8_take_17 σ x1 x2 x3
  | _, _ => none
noncomputable def F_X8_take (σ : Mem) (x1 : Int32) : Option (Int32 × Mem) := (finL B_X8_take 0 σ [x1]).bind extM
noncomputable def F_X8_why (σ : Mem) (x1 : Int32) : Option (Int32 × Mem) :=
  (F_X5_has σ x1).bind fun p1 =>
  if p1.1 = (0 : Int32) then
    some ((-1 : Int32), p1.2)
  else
    (F_X5_formOf p1.2 x1).bind fun σ4 =>
    (F_X1_testsInTheWay σ4).bind fun p6 =>
    some (p6.1, p6.2)
noncomputable def F_X8_count (σ : Mem) (x1 : Int32) : Int32 :=
  if x1 = (0 : Int32) then
    (F_X6_size σ)
  else
    if x1 = (1 : Int32) then
      (F_X3_size σ)
    else
      if x1 = (2 : Int32) then
        (F_X7_size σ)
      else
        (-1 : Int32)
noncomputable def F_X9_within (x0 : Int32) (x1 : Int32) (x2 : Int32) : Int32 :=
  if x0 < x1 then
    (0 : Int32)
  else
    if x2 < x0 then
      (0 : Int32)
    else
      (1 : Int32)
noncomputable def F_X9_isTable (σ : Mem) (x1 : Int32) : Int32 :=
  if x1 < (0 : Int32) then
    (0 : Int32)
  else
    if (σ 0 4) ≤ x1 then
      (0 : Int32)
    else
      (1 : Int32)
noncomputable def F_X9_isColumn (σ : Mem) (x1 : Int32) (x2 : Int32) : Option Int32 :=
  if (F_X9_isTable σ x1) = (0 : Int32) then
    some (0 : Int32)
  else
    if x2 < (0 : Int32) then
      some (0 : Int32)
    else
      (ld 4 (σ 1) x1).bind fun v3 =>
      if v3 ≤ x2 then
        some (0 : Int32)
      else
        some (1 : Int32)
noncomputable def F_X9_isCell (σ : Mem) (x1 : Int32) (x2 : Int32) (x3 : Int32) : Option Int32 :=
  (F_X9_isColumn σ x1 x3).bind fun v1 =>
  if v1 = (0 : Int32) then
    some (0 : Int32)
  else
    if x2 < (0 : Int32) then
      some (0 : Int32)
    else
      (ld 4 (σ 2) x1).bind fun v5 =>
      if v5 ≤ x2 then
        some (0 : Int32)
      else
        some (1 : Int32)
noncomputable def B_X9_table_0 (σ : Mem) (x1 : Int32) : Option (Nat × Mem × List Int32) :=
  if (F_X9_within x1 (1 : Int32) (4 : Int32)) = (0 : Int32) then
    some (99999, σ, [(-1 : Int32)])
  else
    if (σ 0 4) = (4 : Int32) then
      some (99999, σ, [(-2 : Int32)])
    else
      (sto 4 1 σ (σ 0 4) x1).bind fun σ3 =>
      some (34, σ3, [(0 : Int32)])
noncomputable def B_X9_table_34 (σ : Mem) (x2 : Int32) : Option (Nat × Mem × List Int32) :=
  if (4 : Int32) ≤ x2 then
    (some (st σ 0 4 ((σ 0 4) + (1 : Int32)))).bind fun σ2 =>
    some (99999, σ2, [((σ2 0 4) - (1 : Int32))])
  else
    (sto 16 4 σ (((4 : Int32) * (σ 0 4)) + x2) (-1 : Int32)).bind fun σ4 =>
    some (34, σ4, [(x2 + (1 : Int32))])
noncomputable def B_X9_table : Nat → Mem → List Int32 → Option (Nat × Mem × List Int32) := fun pc σ vs => match pc, vs with
  | 0, [x1] => B_X9_table_0 σ x1
  | 34, [x2] => B_X9_table_34 σ x2
  | _, _ => none
noncomputable def F_X9_table (σ : Mem) (x1 : Int32) : Option (Int32 × Mem) := (finL B_X9_table 0 σ [x1]).bind extM
noncomputable def B_X9_row_0 (σ : Mem) (x1 : Int32) : Option (Nat × Mem × List Int32) :=
  if (F_X9_isTable σ x1) = (0 : Int32) then
    some (99999, σ, [(-1 : Int32)])
  else
    (ld 4 (σ 2) x1).bind fun v2 =>
    if v2 = (20 : Int32) then
      some (99999, σ, [(-2 : Int32)])
    else
      some (26, σ, [x1, (0 : Int32)])
noncomputable def B_X9_row_26 (σ : Mem) (x1 : Int32) (x2 : Int32) : Option (Nat × Mem × List Int32) :=
  if (4 : Int32) ≤ x2 then
    (ld 4 (σ 2) x1).bind fun v2 =>
    (sto 4 2 σ x1 (v2 + (1 : Int32))).bind fun σ4 =>
    (ld 4 (σ4 2) x1).bind fun v6 =>
    some (99999, σ4, [(v6 - (1 : Int32))])
  else
    (ld 4 (σ 2) x1).bind fun v8 =>
    (sto 320 3 σ (((((20 : Int32) * x1) + v8) * (4 : Int32)) + x2) (-1000 : Int32)).bind fun σ10 =>
    some (26, σ10, [x1, (x2 + (1 : Int32))])
noncomputable def B_X9_row : Nat → Mem → List Int32 → Option (Nat × Mem × List Int32) := fun pc σ vs => match pc, vs with
  | 0, [x1] => B_X9_row_0 σ x1
  | 26, [x1, x2] => B_X9_row_26 σ x1 x2
  | _, _ => none
noncomputable def F_X9_row (σ : Mem) (x1 : Int32) : Option (Int32 × Mem) := (finL B_X9_row 0 σ [x1]).bind extM
noncomputable def F_X9_put (σ : Mem) (x1 : Int32) (x2 : Int32) (x3 : Int32) (x4 : Int32) : Option (Int32 × Mem) :=
  (F_X9_isCell σ x1 x2 x3).bind fun v1 =>
  if v1 = (0 : Int32) then
    some ((-1 : Int32), σ)
  else
    if (F_X9_within x4 (-1000 : Int32) (999 : Int32)) = (0 : Int32) then
      some ((-1 : Int32), σ)
    else
      (sto 320 3 σ (((((20 : Int32) * x1) + x2) * (4 : Int32)) + x3) x4).bind fun σ5 =>
      some ((1 : Int32), σ5)
noncomputable def F_X9_valueOf (σ : Mem) (x1 : Int32) (x2 : Int32) (x3 : Int32) : Option Int32 :=
  (ld 320 (σ 3) (((((20 : Int32) * x1) + x2) * (4 : Int32)) + x3)).bind fun v1 =>
  some v1
noncomputable def F_X9_value (σ : Mem) (x1 : Int32) (x2 : Int32) (x3 : Int32) : Option Int32 :=
  (F_X9_isCell σ x1 x2 x3).bind fun v1 =>
  if v1 = (0 : Int32) then
    some (-2000000 : Int32)
  else
    (F_X9_valueOf σ x1 x2 x3).bind fun v4 =>
    if v4 = (-1000 : Int32) then
      some (-1000000 : Int32)
    else
      some v4
noncomputable def F_X9_link (σ : Mem) (x1 : Int32) (x2 : Int32) (x3 : Int32) : Option (Int32 × Mem) :=
  (F_X9_isColumn σ x1 x2).bind fun v1 =>
  if v1 = (0 : Int32) then
    some ((-9 : Int32), σ)
  else
    if x3 = (-1 : Int32) then
      if x3 = x1 then
        some ((-9 : Int32), σ)
      else
        (ld 16 (σ 4) (((4 : Int32) * x1) + x2)).bind fun v6 =>
        (sto 16 4 σ (((4 : Int32) * x1) + x2) x3).bind fun σ8 =>
        some (v6, σ8)
    else
      if (F_X9_isTable σ x3) = (0 : Int32) then
        some ((-9 : Int32), σ)
      else
        if x3 = x1 then
          some ((-9 : Int32), σ)
        else
          (ld 16 (σ 4) (((4 : Int32) * x1) + x2)).bind fun v12 =>
          (sto 16 4 σ (((4 : Int32) * x1) + x2) x3).bind fun σ14 =>
          some (v12, σ14)
noncomputable def F_X9_isWord (x0 : Int32) : Int32 :=
  if x0 < (0 : Int32) then
    (0 : Int32)
  else
    if (40 : Int32) ≤ x0 then
      (0 : Int32)
    else
      (1 : Int32)
noncomputable def F_X9_mayMean (σ : Mem) (x1 : Int32) (x2 : Int32) (x3 : Int32) (x4 : Int32) : Option Int32 :=
  if x1 = (0 : Int32) then
    if (F_X9_isTable σ x2) = (0 : Int32) then
      some (0 : Int32)
    else
      if x3 = (0 : Int32) then
        if x4 = (0 : Int32) then
          some (1 : Int32)
        else
          some (0 : Int32)
      else
        some (0 : Int32)
  else
    if x1 = (1 : Int32) then
      (F_X9_isColumn σ x2 x3).bind fun v6 =>
      if v6 = (0 : Int32) then
        some (0 : Int32)
      else
        if x4 = (0 : Int32) then
          some (1 : Int32)
        else
          some (0 : Int32)
    else
      if x1 = (2 : Int32) then
        if (F_X9_within x2 (0 : Int32) (3 : Int32)) = (0 : Int32) then
          some (0 : Int32)
        else
          if x3 = (0 : Int32) then
            if x4 = (0 : Int32) then
              some (1 : Int32)
            else
              some (0 : Int32)
          else
            some (0 : Int32)
      else
        if x1 = (3 : Int32) then
          (F_X9_isColumn σ x2 x3).bind fun v15 =>
          if v15 = (0 : Int32) then
            some (0 : Int32)
          else
            if (F_X9_within x4 (-999 : Int32) (999 : Int32)) = (0 : Int32) then
              some (0 : Int32)
            else
              some (1 : Int32)
        else
          if x1 = (4 : Int32) then
            if (F_X9_within x2 (0 : Int32) (2 : Int32)) = (0 : Int32) then
              some (0 : Int32)
            else
              if x3 = (0 : Int32) then
                if x4 = (0 : Int32) then
                  some (1 : Int32)
                else
                  some (0 : Int32)
              else
                some (0 : Int32)
          else
            if x1 = (5 : Int32) then
              if x2 = (0 : Int32) then
                if x3 = (0 : Int32) then
                  if x4 = (0 : Int32) then
                    some (1 : Int32)
                  else
                    some (0 : Int32)
                else
                  some (0 : Int32)
              else
                some (0 : Int32)
            else
              some (0 : Int32)
noncomputable def F_X9_mean (σ : Mem) (x1 : Int32) (x2 : Int32) (x3 : Int32) (x4 : Int32) (x5 : Int32) : Option (Int32 × Mem) :=
  if (F_X9_isWord x1) = (0 : Int32) then
    some ((-1 : Int32), σ)
  else
    if x3 < (0 : Int32) then
      some ((-1 : Int32), σ)
    else
      (F_X9_mayMean σ x2 (x3 / (100 : Int32)) (x3 - x3 / (100 : Int32) * (100 : Int32)) x4).bind fun v3 =>
      if v3 = (0 : Int32) then
        some ((-1 : Int32), σ)
      else
        if (F_X9_within x5 (0 : Int32) (99 : Int32)) = (0 : Int32) then
          some ((-1 : Int32), σ)
        else
          (ld 40 (σ 5) x1).bind fun v7 =>
          if v7 = (3 : Int32) then
            some ((-2 : Int32), σ)
          else
            (ld 40 (σ 5) x1).bind fun v10 =>
            (sto 120 6 σ (((3 : Int32) * x1) + v10) x2).bind fun σ12 =>
            (sto 120 7 σ12 (((3 : Int32) * x1) + v10) (x3 / (100 : Int32))).bind fun σ14 =>
            (sto 120 8 σ14 (((3 : Int32) * x1) + v10) (x3 - x3 / (100 : Int32) * (100 : Int32))).bind fun σ16 =>
            (sto 120 9 σ16 (((3 : Int32) * x1) + v10) x4).bind fun σ18 =>
            (sto 120 10 σ18 (((3 : Int32) * x1) + v10) x5).bind fun σ20 =>
            (ld 40 (σ20 5) x1).bind fun v22 =>
            (sto 40 5 σ20 x1 (v22 + (1 : Int32))).bind fun σ24 =>
            (ld 40 (σ24 5) x1).bind fun v26 =>
            some ((v26 - (1 : Int32)), σ24)
noncomputable def F_X9_cost (σ : Mem) (x1 : Int32) (x2 : Int32) : Option Int32 :=
  if (F_X9_isWord x1) = (0 : Int32) then
    some (-1 : Int32)
  else
    if x2 < (0 : Int32) then
      some (-1 : Int32)
    else
      (ld 40 (σ 5) x1).bind fun v3 =>
      if v3 ≤ x2 then
        some (-1 : Int32)
      else
        (ld 120 (σ 10) (((3 : Int32) * x1) + x2)).bind fun v6 =>
        some v6
noncomputable def F_X9_forget (σ : Mem) (x1 : Int32) : Option (Int32 × Mem) :=
  if (F_X9_isWord x1) = (0 : Int32) then
    some ((-1 : Int32), σ)
  else
    (ld 40 (σ 5) x1).bind fun v2 =>
    (sto 40 5 σ x1 (0 : Int32)).bind fun σ4 =>
    some (v2, σ4)
noncomputable def F_X9_add (σ : Mem) (x1 : Int32) (x2 : Int32) : Option (Int32 × Mem) :=
  if (σ 0 13) = (8 : Int32) then
    some ((-2 : Int32), σ)
  else
    (sto 8 11 σ (σ 0 13) x1).bind fun σ2 =>
    (sto 8 12 σ2 (σ2 0 13) (vp_nar .boolean x2)).bind fun σ4 =>
    (some (st σ4 0 13 ((σ4 0 13) + (1 : Int32)))).bind fun σ6 =>
    some ((σ6 0 13), σ6)
noncomputable def F_X9_word (σ : Mem) (x1 : Int32) : Option (Int32 × Mem) :=
  if (F_X9_isWord x1) = (0 : Int32) then
    some ((-1 : Int32), σ)
  else
    (F_X9_add σ x1 (0 : Int32)).bind fun p2 =>
    some (p2.1, p2.2)
noncomputable def F_X9_number (σ : Mem) (x1 : Int32) : Option (Int32 × Mem) :=
  if (F_X9_within x1 (-999 : Int32) (999 : Int32)) = (0 : Int32) then
    some ((-1 : Int32), σ)
  else
    (F_X9_add σ x1 (1 : Int32)).bind fun p2 =>
    some (p2.1, p2.2)
noncomputable def F_X9_clear (σ : Mem) : Option (Int32 × Mem) :=
  (some (st σ 0 13 (0 : Int32))).bind fun σ1 =>
  some ((σ 0 13), σ1)
noncomputable def F_X9_at (σ : Mem) (x1 : Int32) : Option Int32 :=
  if x1 < (0 : Int32) then
    some (-1 : Int32)
  else
    if (σ 0 13) ≤ x1 then
      some (-1 : Int32)
    else
      (ld 8 (σ 12) x1).bind fun v3 =>
      if v3 = (0 : Int32) then
        (ld 8 (σ 11) x1).bind fun v6 =>
        (ld 8 (σ 21) x1).bind fun v8 =>
        some (((3 : Int32) * v6) + v8)
      else
        some (-1 : Int32)
noncomputable def F_X9_is (σ : Mem) (x1 : Int32) (x2 : Int32) : Option Int32 :=
  (F_X9_at σ x1).bind fun v1 =>
  if v1 < (0 : Int32) then
    some (0 : Int32)
  else
    (ld 120 (σ 6) v1).bind fun v4 =>
    if v4 = x2 then
      some (1 : Int32)
    else
      some (0 : Int32)
noncomputable def F_X9_addTest (σ : Mem) (x1 : Int32) (x2 : Int32) (x3 : Int32) (x4 : Int32) : Option Mem :=
  (sto 8 22 σ (σ 0 32) x1).bind fun σ1 =>
  (sto 8 23 σ1 (σ1 0 32) x2).bind fun σ3 =>
  (sto 8 24 σ3 (σ3 0 32) x3).bind fun σ5 =>
  (sto 8 25 σ5 (σ5 0 32) x4).bind fun σ7 =>
  (some (st σ7 0 32 ((σ7 0 32) + (1 : Int32)))).bind fun σ9 =>
  some σ9
noncomputable def B_X9_linkTo_0 (σ : Mem) (x1 : Int32) : Option (Nat × Unit × List Int32) :=
  some (2, (), [x1, (0 : Int32)])
noncomputable def B_X9_linkTo_2 (σ : Mem) (x1 : Int32) (x2 : Int32) : Option (Nat × Unit × List Int32) :=
  (ld 4 (σ 1) (σ 0 25)).bind fun v1 =>
  if v1 ≤ x2 then
    some (99999, (), [(-1 : Int32)])
  else
    (ld 16 (σ 4) (((4 : Int32) * (σ 0 25)) + x2)).bind fun v4 =>
    if v4 = x1 then
      some (99999, (), [x2])
    else
      some (2, (), [x1, (x2 + (1 : Int32))])
noncomputable def B_X9_linkTo (σ : Mem) : Nat → Unit → List Int32 → Option (Nat × Unit × List Int32) := fun pc _ vs => match pc, vs with
  | 0, [x1] => B_X9_linkTo_0 σ x1
  | 2, [x1, x2] => B_X9_linkTo_2 σ x1 x2
  | _, _ => none
noncomputable def F_X9_linkTo (σ : Mem) (x1 : Int32) : Option Int32 := (finL (B_X9_linkTo σ) 0 () [x1]).bind extR
noncomputable def B_X9_reads_0 (σ : Mem) : Option (Nat × Mem × List Int32) :=
  (some (st σ 0 24 (-1 : Int32))).bind fun σ1 =>
  (some (st σ1 0 25 (-1 : Int32))).bind fun σ3 =>
  (some (st σ3 0 26 (-1 : Int32))).bind fun σ5 =>
  (some (st σ5 0 27 (0 : Int32))).bind fun σ7 =>
  (some (st σ7 0 32 (0 : Int32))).bind fun σ9 =>
  some (29, σ9, [(-1 : Int32), (0 : Int32)])
noncomputable def B_X9_reads_29 (σ : Mem) (x1 : Int32) (x2 : Int32) : Option (Nat × Mem × List Int32) :=
  if (σ 0 13) ≤ x2 then
    if (0 : Int32) ≤ (σ 0 24) then
      (some (st σ 0 24 (σ 0 24))).bind fun σ3 =>
      some (349, σ3, [x1])
    else
      (some (st σ 0 24 (0 : Int32))).bind fun σ5 =>
      some (349, σ5, [x1])
  else
    (ld 8 (σ 12) x2).bind fun v7 =>
    if v7 = (0 : Int32) then
      (F_X9_at σ x2).bind fun v10 =>
      (ld 120 (σ 10) v10).bind fun v12 =>
      (some (st σ 0 27 ((σ 0 27) + v12))).bind fun σ14 =>
      if (σ14 0 13) ≤ (x2 + (1 : Int32)) then
        some (108, σ14, [x1, x2, v10, (0 : Int32)])
      else
        (ld 8 (σ14 12) (x2 + (1 : Int32))).bind fun v17 =>
        if v17 = (0 : Int32) then
          some (108, σ14, [x1, x2, v10, (0 : Int32)])
        else
          some (108, σ14, [x1, x2, v10, (1 : Int32)])
    else
      (F_X9_is σ (x2 - (1 : Int32)) (4 : Int32)).bind fun v20 =>
      if v20 = (0 : Int32) then
        some (99999, σ, [(0 : Int32)])
      else
        some (324, σ, [x1, x2])
noncomputable def B_X9_reads_108 (σ : Mem) (x1 : Int32) (x2 : Int32) (x3 : Int32) (x4 : Int32) : Option (Nat × Mem × List Int32) :=
  (ld 120 (σ 6) x3).bind fun v1 =>
  if v1 = (4 : Int32) then
    (F_X9_is σ (x2 - (1 : Int32)) (1 : Int32)).bind fun v4 =>
    if v4 = (0 : Int32) then
      some (99999, σ, [(0 : Int32)])
    else
      if x4 = (0 : Int32) then
        some (99999, σ, [(0 : Int32)])
      else
        some (136, σ, [x1, x2, x3])
  else
    some (136, σ, [x1, x2, x3])
noncomputable def B_X9_reads_136 (σ : Mem) (x1 : Int32) (x2 : Int32) (x3 : Int32) : Option (Nat × Mem × List Int32) :=
  (ld 120 (σ 6) x3).bind fun v1 =>
  if v1 = (4 : Int32) then
    (F_X9_at σ (x2 - (1 : Int32))).bind fun v4 =>
    (ld 120 (σ 7) v4).bind fun v6 =>
    (ld 120 (σ 8) v4).bind fun v8 =>
    (ld 120 (σ 7) x3).bind fun v10 =>
    (ld 8 (σ 11) (x2 + (1 : Int32))).bind fun v12 =>
    (F_X9_addTest σ v6 v8 v10 v12).bind fun σ14 =>
    some (187, σ14, [x1, x2, x3])
  else
    some (187, σ, [x1, x2, x3])
noncomputable def B_X9_reads_187 (σ : Mem) (x1 : Int32) (x2 : Int32) (x3 : Int32) : Option (Nat × Mem × List Int32) :=
  (ld 120 (σ 6) x3).bind fun v1 =>
  if v1 = (3 : Int32) then
    (ld 120 (σ 7) x3).bind fun v4 =>
    (ld 120 (σ 8) x3).bind fun v6 =>
    (ld 120 (σ 9) x3).bind fun v8 =>
    (F_X9_addTest σ v4 v6 (2 : Int32) v8).bind fun σ10 =>
    some (220, σ10, [x1, x2, x3])
  else
    some (220, σ, [x1, x2, x3])
noncomputable def B_X9_reads_220 (σ : Mem) (x1 : Int32) (x2 : Int32) (x3 : Int32) : Option (Nat × Mem × List Int32) :=
  (ld 120 (σ 6) x3).bind fun v1 =>
  if v1 = (0 : Int32) then
    if (σ 0 25) < (0 : Int32) then
      (ld 120 (σ 7) x3).bind fun v5 =>
      (some (st σ 0 25 v5)).bind fun σ7 =>
      some (248, σ7, [x1, x2, x3])
    else
      some (99999, σ, [(0 : Int32)])
  else
    some (248, σ, [x1, x2, x3])
noncomputable def B_X9_reads_248 (σ : Mem) (x1 : Int32) (x2 : Int32) (x3 : Int32) : Option (Nat × Mem × List Int32) :=
  (ld 120 (σ 6) x3).bind fun v1 =>
  if v1 = (2 : Int32) then
    if (σ 0 24) < (0 : Int32) then
      (ld 120 (σ 7) x3).bind fun v5 =>
      (some (st σ 0 24 v5)).bind fun σ7 =>
      some (277, σ7, [x1, x2, x3])
    else
      some (99999, σ, [(0 : Int32)])
  else
    some (277, σ, [x1, x2, x3])
noncomputable def B_X9_reads_277 (σ : Mem) (x1 : Int32) (x2 : Int32) (x3 : Int32) : Option (Nat × Mem × List Int32) :=
  (ld 120 (σ 6) x3).bind fun v1 =>
  if v1 = (1 : Int32) then
    (F_X9_is σ (x2 + (1 : Int32)) (4 : Int32)).bind fun v4 =>
    if v4 = (0 : Int32) then
      if (σ 0 26) < (0 : Int32) then
        (ld 120 (σ 8) x3).bind fun v8 =>
        (some (st σ 0 26 v8)).bind fun σ10 =>
        (ld 120 (σ10 7) x3).bind fun v12 =>
        some (324, σ10, [v12, x2])
      else
        some (99999, σ, [(0 : Int32)])
    else
      some (324, σ, [x1, x2])
  else
    some (324, σ, [x1, x2])
noncomputable def B_X9_reads_324 (σ : Mem) (x1 : Int32) (x2 : Int32) : Option (Nat × Mem × List Int32) :=
  some (29, σ, [x1, (x2 + (1 : Int32))])
noncomputable def B_X9_reads_349 (σ : Mem) (x1 : Int32) : Option (Nat × Mem × List Int32) :=
  if (0 : Int32) ≤ (σ 0 25) then
    (some (st σ 0 25 (σ 0 25))).bind fun σ2 =>
    some (368, σ2, [x1])
  else
    (some (st σ 0 25 x1)).bind fun σ4 =>
    some (368, σ4, [x1])
noncomputable def B_X9_reads_368 (σ : Mem) (x1 : Int32) : Option (Nat × Mem × List Int32) :=
  if (σ 0 25) < (0 : Int32) then
    some (99999, σ, [(0 : Int32)])
  else
    if (σ 0 26) < (0 : Int32) then
      if (σ 0 26) < (0 : Int32) then
        if (σ 0 24) = (0 : Int32) then
          if (0 : Int32) = (0 : Int32) then
            some (419, σ, [])
          else
            some (99999, σ, [(0 : Int32)])
        else
          if (0 : Int32) = (1 : Int32) then
            some (419, σ, [])
          else
            some (99999, σ, [(0 : Int32)])
      else
        if (σ 0 24) = (0 : Int32) then
          if (1 : Int32) = (0 : Int32) then
            some (419, σ, [])
          else
            some (99999, σ, [(0 : Int32)])
        else
          if (1 : Int32) = (1 : Int32) then
            some (419, σ, [])
          else
            some (99999, σ, [(0 : Int32)])
    else
      if x1 = (σ 0 25) then
        if (σ 0 26) < (0 : Int32) then
          if (σ 0 24) = (0 : Int32) then
            if (0 : Int32) = (0 : Int32) then
              some (419, σ, [])
            else
              some (99999, σ, [(0 : Int32)])
          else
            if (0 : Int32) = (1 : Int32) then
              some (419, σ, [])
            else
              some (99999, σ, [(0 : Int32)])
        else
          if (σ 0 24) = (0 : Int32) then
            if (1 : Int32) = (0 : Int32) then
              some (419, σ, [])
            else
              some (99999, σ, [(0 : Int32)])
          else
            if (1 : Int32) = (1 : Int32) then
              some (419, σ, [])
            else
              some (99999, σ, [(0 : Int32)])
      else
        some (99999, σ, [(0 : Int32)])
noncomputable def B_X9_reads_419 (σ : Mem) : Option (Nat × Mem × List Int32) :=
  some (423, σ, [(1 : Int32), (0 : Int32)])
noncomputable def B_X9_reads_423 (σ : Mem) (x2 : Int32) (x3 : Int32) : Option (Nat × Mem × List Int32) :=
  if (σ 0 32) ≤ x3 then
    if vp_nar .boolean x2 = x2 then some (99999, σ, [x2]) else none
  else
    if x2 = (0 : Int32) then
      some (423, σ, [(0 : Int32), (x3 + (1 : Int32))])
    else
      (ld 8 (σ 22) x3).bind fun v4 =>
      if v4 = (σ 0 25) then
        some (423, σ, [(1 : Int32), (x3 + (1 : Int32))])
      else
        (ld 8 (σ 22) x3).bind fun v7 =>
        (F_X9_linkTo σ v7).bind fun v9 =>
        if v9 < (0 : Int32) then
          some (423, σ, [(0 : Int32), (x3 + (1 : Int32))])
        else
          some (423, σ, [(1 : Int32), (x3 + (1 : Int32))])
noncomputable def B_X9_reads : Nat → Mem → List Int32 → Option (Nat × Mem × List Int32) := fun pc σ vs => match pc, vs with
  | 0, [] => B_X9_reads_0 σ 
  | 29, [x1, x2] => B_X9_reads_29 σ x1 x2
  | 108, [x1, x2, x3, x4] => B_X9_reads_108 σ x1 x2 x3 x4
  | 136, [x1, x2, x3] => B_X9_reads_136 σ x1 x2 x3
  | 187, [x1, x2, x3] => B_X9_reads_187 σ x1 x2 x3
  | 220, [x1, x2, x3] => B_X9_reads_220 σ x1 x2 x3
  | 248, [x1, x2, x3] => B_X9_reads_248 σ x1 x2 x3
  | 277, [x1, x2, x3] => B_X9_reads_277 σ x1 x2 x3
  | 324, [x1, x2] => B_X9_reads_324 σ x1 x2
  | 349, [x1] => B_X9_reads_349 σ x1
  | 368, [x1] => B_X9_reads_368 σ x1
  | 419, [] => B_X9_reads_419 σ 
  | 423, [x2, x3] => B_X9_reads_423 σ x2 x3
  | _, _ => none
noncomputable def F_X9_reads (σ : Mem) : Option (Int32 × Mem) := (finL B_X9_reads 0 σ []).bind extM
noncomputable def B_X9_takeWay_0 (σ : Mem) (x1 : Int32) : Option (Nat × Mem × List Int32) :=
  some (12, σ, [(1 : Int32), x1, ((σ 0 13) - (1 : Int32))])
noncomputable def B_X9_takeWay_12 (σ : Mem) (x2 : Int32) (x3 : Int32) (x4 : Int32) : Option (Nat × Mem × List Int32) :=
  if x4 < (0 : Int32) then
    if vp_nar .boolean x2 = x2 then some (99999, σ, [x2]) else none
  else
    (sto 8 21 σ x4 (x3 - x3 / (3 : Int32) * (3 : Int32))).bind fun σ3 =>
    if x2 = (0 : Int32) then
      some (12, σ3, [(0 : Int32), (x3 / (3 : Int32)), (x4 + (-1 : Int32))])
    else
      (ld 8 (σ3 12) x4).bind fun v6 =>
      if v6 = (0 : Int32) then
        (ld 8 (σ3 21) x4).bind fun v9 =>
        (ld 8 (σ3 11) x4).bind fun v11 =>
        (ld 40 (σ3 5) v11).bind fun v13 =>
        if v13 ≤ v9 then
          some (12, σ3, [(0 : Int32), (x3 / (3 : Int32)), (x4 + (-1 : Int32))])
        else
          some (12, σ3, [(1 : Int32), (x3 / (3 : Int32)), (x4 + (-1 : Int32))])
      else
        (ld 8 (σ3 21) x4).bind fun v16 =>
        if v16 = (0 : Int32) then
          some (12, σ3, [(1 : Int32), (x3 / (3 : Int32)), (x4 + (-1 : Int32))])
        else
          some (12, σ3, [(0 : Int32), (x3 / (3 : Int32)), (x4 + (-1 : Int32))])
noncomputable def B_X9_takeWay : Nat → Mem → List Int32 → Option (Nat × Mem × List Int32) := fun pc σ vs => match pc, vs with
  | 0, [x1] => B_X9_takeWay_0 σ x1
  | 12, [x2, x3, x4] => B_X9_takeWay_12 σ x2 x3 x4
  | _, _ => none
noncomputable def F_X9_takeWay (σ : Mem) (x1 : Int32) : Option (Int32 × Mem) := (finL B_X9_takeWay 0 σ [x1]).bind extM
noncomputable def B_X9_findReadings_0 (σ : Mem) : Option (Nat × Mem × List Int32) :=
  (some (st σ 0 22 (0 : Int32))).bind fun σ1 =>
  some (9, σ1, [(1 : Int32), (0 : Int32)])
noncomputable def B_X9_findReadings_9 (σ : Mem) (x1 : Int32) (x2 : Int32) : Option (Nat × Mem × List Int32) :=
  if (σ 0 13) ≤ x2 then
    some (29, σ, [x1, (0 : Int32)])
  else
    some (9, σ, [(x1 * (3 : Int32)), (x2 + (1 : Int32))])
noncomputable def B_X9_findReadings_29 (σ : Mem) (x1 : Int32) (x2 : Int32) : Option (Nat × Mem × List Int32) :=
  if x1 ≤ x2 then
    some (90, σ, [(0 : Int32)])
  else
    (F_X9_takeWay σ x2).bind fun p2 =>
    if p2.1 = (0 : Int32) then
      some (29, p2.2, [x1, (x2 + (1 : Int32))])
    else
      (F_X9_reads p2.2).bind fun p5 =>
      if p5.1 = (0 : Int32) then
        some (29, p5.2, [x1, (x2 + (1 : Int32))])
      else
        (sto 6561 15 p5.2 (p5.2 0 22) x2).bind fun σ8 =>
        (sto 6561 16 σ8 (σ8 0 22) (σ8 0 27)).bind fun σ10 =>
        (some (st σ10 0 22 ((σ10 0 22) + (1 : Int32)))).bind fun σ12 =>
        some (29, σ12, [x1, (x2 + (1 : Int32))])
noncomputable def B_X9_findReadings_90 (σ : Mem) (x2 : Int32) : Option (Nat × Mem × List Int32) :=
  if (900 : Int32) < x2 then
    some (112, σ, [(0 : Int32)])
  else
    (sto 902 17 σ x2 (0 : Int32)).bind fun σ2 =>
    some (90, σ2, [(x2 + (1 : Int32))])
noncomputable def B_X9_findReadings_112 (σ : Mem) (x2 : Int32) : Option (Nat × Mem × List Int32) :=
  if (σ 0 22) ≤ x2 then
    some (145, σ, [(1 : Int32)])
  else
    (ld 6561 (σ 16) x2).bind fun v2 =>
    (ld 902 (σ 17) (v2 + (1 : Int32))).bind fun v4 =>
    (sto 902 17 σ (v2 + (1 : Int32)) (v4 + (1 : Int32))).bind fun σ6 =>
    some (112, σ6, [(x2 + (1 : Int32))])
noncomputable def B_X9_findReadings_145 (σ : Mem) (x2 : Int32) : Option (Nat × Mem × List Int32) :=
  if (900 : Int32) < x2 then
    some (177, σ, [(0 : Int32)])
  else
    (ld 902 (σ 17) x2).bind fun v2 =>
    (ld 902 (σ 17) (x2 - (1 : Int32))).bind fun v4 =>
    (sto 902 17 σ x2 (v2 + v4)).bind fun σ6 =>
    some (145, σ6, [(x2 + (1 : Int32))])
noncomputable def B_X9_findReadings_177 (σ : Mem) (x2 : Int32) : Option (Nat × Mem × List Int32) :=
  if (σ 0 22) ≤ x2 then
    some (99999, σ, [])
  else
    (ld 6561 (σ 16) x2).bind fun v2 =>
    (ld 902 (σ 17) v2).bind fun v4 =>
    (ld 6561 (σ 15) x2).bind fun v6 =>
    (sto 6561 13 σ v4 v6).bind fun σ8 =>
    (ld 6561 (σ8 16) x2).bind fun v10 =>
    (sto 6561 14 σ8 v4 v10).bind fun σ12 =>
    (ld 6561 (σ12 16) x2).bind fun v14 =>
    (ld 902 (σ12 17) v14).bind fun v16 =>
    (sto 902 17 σ12 v14 (v16 + (1 : Int32))).bind fun σ18 =>
    some (177, σ18, [(x2 + (1 : Int32))])
noncomputable def B_X9_findReadings : Nat → Mem → List Int32 → Option (Nat × Mem × List Int32) := fun pc σ vs => match pc, vs with
  | 0, [] => B_X9_findReadings_0 σ 
  | 9, [x1, x2] => B_X9_findReadings_9 σ x1 x2
  | 29, [x1, x2] => B_X9_findReadings_29 σ x1 x2
  | 90, [x2] => B_X9_findReadings_90 σ x2
  | 112, [x2] => B_X9_findReadings_112 σ x2
  | 145, [x2] => B_X9_findReadings_145 σ x2
  | 177, [x2] => B_X9_findReadings_177 σ x2
  | _, _ => none
noncomputable def F_X9_findReadings (σ : Mem) : Option Mem := (finL B_X9_findReadings 0 σ []).bind extV
noncomputable def F_X9_have (σ : Mem) (x1 : Int32) : Option (Int32 × Mem) :=
  (F_X9_findReadings σ).bind fun σ1 =>
  if x1 < (0 : Int32) then
    some ((0 : Int32), σ1)
  else
    if x1 < (σ1 0 22) then
      (ld 6561 (σ1 13) x1).bind fun v5 =>
      (F_X9_takeWay σ1 v5).bind fun p7 =>
      if p7.1 = (0 : Int32) then
        some ((0 : Int32), p7.2)
      else
        (F_X9_reads p7.2).bind fun p10 =>
        if p10.1 = (0 : Int32) then
          some ((0 : Int32), p10.2)
        else
          some ((1 : Int32), p10.2)
    else
      some ((0 : Int32), σ1)
noncomputable def F_X9_readings (σ : Mem) : Option (Int32 × Mem) :=
  (F_X9_findReadings σ).bind fun σ1 =>
  some ((σ1 0 22), σ1)
noncomputable def F_X9_holds (σ : Mem) (x1 : Int32) (x2 : Int32) : Option Int32 :=
  (ld 8 (σ 22) x1).bind fun v1 =>
  if v1 = (σ 0 25) then
    (ld 8 (σ 23) x1).bind fun v4 =>
    (F_X9_valueOf σ v1 x2 v4).bind fun v6 =>
    if v6 = (-1000 : Int32) then
      some (0 : Int32)
    else
      (ld 8 (σ 24) x1).bind fun v9 =>
      if v9 = (0 : Int32) then
        (ld 8 (σ 25) x1).bind fun v21 =>
        if v6 ≤ v21 then
          some (0 : Int32)
        else
          some (1 : Int32)
      else
        (ld 8 (σ 24) x1).bind fun v12 =>
        if v12 = (1 : Int32) then
          (ld 8 (σ 25) x1).bind fun v18 =>
          if v18 ≤ v6 then
            some (0 : Int32)
          else
            some (1 : Int32)
        else
          (ld 8 (σ 25) x1).bind fun v15 =>
          if v6 = v15 then
            some (1 : Int32)
          else
            some (0 : Int32)
  else
    (F_X9_linkTo σ v1).bind fun v24 =>
    (F_X9_valueOf σ (σ 0 25) x2 v24).bind fun v26 =>
    if v26 < (0 : Int32) then
      some (0 : Int32)
    else
      (ld 4 (σ 2) v1).bind fun v29 =>
      if v26 < v29 then
        (ld 8 (σ 23) x1).bind fun v32 =>
        (F_X9_valueOf σ v1 v26 v32).bind fun v34 =>
        if v34 = (-1000 : Int32) then
          some (0 : Int32)
        else
          (ld 8 (σ 24) x1).bind fun v37 =>
          if v37 = (0 : Int32) then
            (ld 8 (σ 25) x1).bind fun v49 =>
            if v34 ≤ v49 then
              some (0 : Int32)
            else
              some (1 : Int32)
          else
            (ld 8 (σ 24) x1).bind fun v40 =>
            if v40 = (1 : Int32) then
              (ld 8 (σ 25) x1).bind fun v46 =>
              if v46 ≤ v34 then
                some (0 : Int32)
              else
                some (1 : Int32)
            else
              (ld 8 (σ 25) x1).bind fun v43 =>
              if v34 = v43 then
                some (1 : Int32)
              else
                some (0 : Int32)
      else
        some (0 : Int32)
noncomputable def B_X9_isFound_0 (σ : Mem) (x1 : Int32) (x2 : Int32) : Option (Nat × Unit × List Int32) :=
  some (5, (), [x1, x2, (1 : Int32), (0 : Int32)])
noncomputable def B_X9_isFound_5 (σ : Mem) (x1 : Int32) (x2 : Int32) (x3 : Int32) (x4 : Int32) : Option (Nat × Unit × List Int32) :=
  if (σ 0 32) ≤ x4 then
    if vp_nar .boolean x3 = x3 then some (99999, (), [x3]) else none
  else
    if x3 = (0 : Int32) then
      some (5, (), [x1, x2, (0 : Int32), (x4 + (1 : Int32))])
    else
      if ((x2 >>> (x4 &&& 31)) &&& (1 : Int32)) = (1 : Int32) then
        some (5, (), [x1, x2, (1 : Int32), (x4 + (1 : Int32))])
      else
        (F_X9_holds σ x4 x1).bind fun v5 =>
        if v5 = (0 : Int32) then
          some (5, (), [x1, x2, (0 : Int32), (x4 + (1 : Int32))])
        else
          some (5, (), [x1, x2, (1 : Int32), (x4 + (1 : Int32))])
noncomputable def B_X9_isFound (σ : Mem) : Nat → Unit → List Int32 → Option (Nat × Unit × List Int32) := fun pc _ vs => match pc, vs with
  | 0, [x1, x2] => B_X9_isFound_0 σ x1 x2
  | 5, [x1, x2, x3, x4] => B_X9_isFound_5 σ x1 x2 x3 x4
  | _, _ => none
noncomputable def F_X9_isFound (σ : Mem) (x1 : Int32) (x2 : Int32) : Option Int32 := (finL (B_X9_isFound σ) 0 () [x1, x2]).bind extR
noncomputable def B_X9_foundMany_0 (σ : Mem) (x1 : Int32) : Option (Nat × Unit × List Int32) :=
  some (4, (), [x1, (0 : Int32), (0 : Int32)])
noncomputable def B_X9_foundMany_4 (σ : Mem) (x1 : Int32) (x2 : Int32) (x3 : Int32) : Option (Nat × Unit × List Int32) :=
  (ld 4 (σ 2) (σ 0 25)).bind fun v1 =>
  if v1 ≤ x3 then
    some (99999, (), [x2])
  else
    (F_X9_isFound σ x3 x1).bind fun v4 =>
    if v4 = (0 : Int32) then
      some (4, (), [x1, (x2 + (0 : Int32)), (x3 + (1 : Int32))])
    else
      some (4, (), [x1, (x2 + (1 : Int32)), (x3 + (1 : Int32))])
noncomputable def B_X9_foundMany (σ : Mem) : Nat → Unit → List Int32 → Option (Nat × Unit × List Int32) := fun pc _ vs => match pc, vs with
  | 0, [x1] => B_X9_foundMany_0 σ x1
  | 4, [x1, x2, x3] => B_X9_foundMany_4 σ x1 x2 x3
  | _, _ => none
noncomputable def F_X9_foundMany (σ : Mem) (x1 : Int32) : Option Int32 := (finL (B_X9_foundMany σ) 0 () [x1]).bind extR
noncomputable def B_X9_answerOf_0 (σ : Mem) : Option (Nat × Unit × List Int32) :=
  if (σ 0 24) = (0 : Int32) then
    (F_X9_foundMany σ (0 : Int32)).bind fun v2 =>
    some (99999, (), [v2])
  else
    some (24, (), [(0 : Int32), (-1000000 : Int32), (-1000000 : Int32), (0 : Int32)])
noncomputable def B_X9_answerOf_24 (σ : Mem) (x1 : Int32) (x2 : Int32) (x3 : Int32) (x4 : Int32) : Option (Nat × Unit × List Int32) :=
  (ld 4 (σ 2) (σ 0 25)).bind fun v1 =>
  if v1 ≤ x4 then
    if (σ 0 24) = (1 : Int32) then
      some (99999, (), [x1])
    else
      if (σ 0 24) = (2 : Int32) then
        some (99999, (), [x2])
      else
        some (99999, (), [x3])
  else
    (F_X9_valueOf σ (σ 0 25) x4 (σ 0 26)).bind fun v6 =>
    (F_X9_isFound σ x4 (0 : Int32)).bind fun v8 =>
    if v8 = (0 : Int32) then
      some (24, (), [x1, x2, x3, (x4 + (1 : Int32))])
    else
      if v6 = (-1000 : Int32) then
        some (24, (), [x1, x2, x3, (x4 + (1 : Int32))])
      else
        if x2 = (-1000000 : Int32) then
          if x3 = (-1000000 : Int32) then
            some (24, (), [(x1 + v6), v6, v6, (x4 + (1 : Int32))])
          else
            if x3 ≤ v6 then
              some (24, (), [(x1 + v6), v6, x3, (x4 + (1 : Int32))])
            else
              some (24, (), [(x1 + v6), v6, v6, (x4 + (1 : Int32))])
        else
          if v6 ≤ x2 then
            if x3 = (-1000000 : Int32) then
              some (24, (), [(x1 + v6), x2, v6, (x4 + (1 : Int32))])
            else
              if x3 ≤ v6 then
                some (24, (), [(x1 + v6), x2, x3, (x4 + (1 : Int32))])
              else
                some (24, (), [(x1 + v6), x2, v6, (x4 + (1 : Int32))])
          else
            if x3 = (-1000000 : Int32) then
              some (24, (), [(x1 + v6), v6, v6, (x4 + (1 : Int32))])
            else
              if x3 ≤ v6 then
                some (24, (), [(x1 + v6), v6, x3, (x4 + (1 : Int32))])
              else
                some (24, (), [(x1 + v6), v6, v6, (x4 + (1 : Int32))])
noncomputable def B_X9_answerOf (σ : Mem) : Nat → Unit → List Int32 → Option (Nat × Unit × List Int32) := fun pc _ vs => match pc, vs with
  | 0, [] => B_X9_answerOf_0 σ 
  | 24, [x1, x2, x3, x4] => B_X9_answerOf_24 σ x1 x2 x3 x4
  | _, _ => none
noncomputable def F_X9_answerOf (σ : Mem) : Option Int32 := (finL (B_X9_answerOf σ) 0 () []).bind extR
noncomputable def F_X9_reading (σ : Mem) (x1 : Int32) (x2 : Int32) : Option (Int32 × Mem) :=
  (F_X9_have σ x1).bind fun p1 =>
  if p1.1 = (0 : Int32) then
    some ((-9 : Int32), p1.2)
  else
    if x2 = (0 : Int32) then
      some ((p1.2 0 27), p1.2)
    else
      if x2 = (1 : Int32) then
        some ((p1.2 0 24), p1.2)
      else
        if x2 = (2 : Int32) then
          some ((p1.2 0 25), p1.2)
        else
          if x2 = (3 : Int32) then
            some ((p1.2 0 26), p1.2)
          else
            if x2 = (4 : Int32) then
              some ((p1.2 0 32), p1.2)
            else
              if x2 = (5 : Int32) then
                (F_X9_foundMany p1.2 (0 : Int32)).bind fun v10 =>
                some (v10, p1.2)
              else
                if x2 < (10 : Int32) then
                  some ((-9 : Int32), p1.2)
                else
                  if x2 < ((10 : Int32) + (p1.2 0 13)) then
                    (ld 8 (p1.2 12) (x2 - (10 : Int32))).bind fun v14 =>
                    if v14 = (0 : Int32) then
                      (ld 8 (p1.2 21) (x2 - (10 : Int32))).bind fun v17 =>
                      some (v17, p1.2)
                    else
                      some ((-1 : Int32), p1.2)
                  else
                    some ((-9 : Int32), p1.2)
noncomputable def F_X9_test (σ : Mem) (x1 : Int32) (x2 : Int32) (x3 : Int32) : Option (Int32 × Mem) :=
  (F_X9_have σ x1).bind fun p1 =>
  if p1.1 = (0 : Int32) then
    some ((-2000000 : Int32), p1.2)
  else
    if x2 < (0 : Int32) then
      some ((-2000000 : Int32), p1.2)
    else
      if (p1.2 0 32) ≤ x2 then
        some ((-2000000 : Int32), p1.2)
      else
        if (F_X9_within x3 (0 : Int32) (3 : Int32)) = (0 : Int32) then
          some ((-2000000 : Int32), p1.2)
        else
          if x3 = (0 : Int32) then
            (ld 8 (p1.2 22) x2).bind fun v16 =>
            some (v16, p1.2)
          else
            if x3 = (1 : Int32) then
              (ld 8 (p1.2 23) x2).bind fun v14 =>
              some (v14, p1.2)
            else
              if x3 = (2 : Int32) then
                (ld 8 (p1.2 24) x2).bind fun v12 =>
                some (v12, p1.2)
              else
                (ld 8 (p1.2 25) x2).bind fun v10 =>
                some (v10, p1.2)
noncomputable def F_X9_answer (σ : Mem) (x1 : Int32) : Option (Int32 × Mem) :=
  (F_X9_have σ x1).bind fun p1 =>
  if p1.1 = (0 : Int32) then
    some ((-2000000 : Int32), p1.2)
  else
    (F_X9_answerOf p1.2).bind fun v4 =>
    some (v4, p1.2)
noncomputable def B_X9_found_0 (σ : Mem) (x1 : Int32) (x2 : Int32) : Option (Nat × Mem × List Int32) :=
  (F_X9_have σ x1).bind fun p1 =>
  if p1.1 = (0 : Int32) then
    some (99999, p1.2, [(-1 : Int32)])
  else
    if (0 : Int32) ≤ x2 then
      some (19, p1.2, [x2, (0 : Int32)])
    else
      some (99999, p1.2, [(-1 : Int32)])
noncomputable def B_X9_found_19 (σ : Mem) (x3 : Int32) (x4 : Int32) : Option (Nat × Mem × List Int32) :=
  (ld 4 (σ 2) (σ 0 25)).bind fun v1 =>
  if v1 ≤ x4 then
    some (99999, σ, [(-1 : Int32)])
  else
    (F_X9_isFound σ x4 (0 : Int32)).bind fun v4 =>
    if v4 = (0 : Int32) then
      some (19, σ, [x3, (x4 + (1 : Int32))])
    else
      if x3 = (0 : Int32) then
        some (99999, σ, [x4])
      else
        some (19, σ, [(x3 + (-1 : Int32)), (x4 + (1 : Int32))])
noncomputable def B_X9_found : Nat → Mem → List Int32 → Option (Nat × Mem × List Int32) := fun pc σ vs => match pc, vs with
  | 0, [x1, x2] => B_X9_found_0 σ x1 x2
  | 19, [x3, x4] => B_X9_found_19 σ x3 x4
  | _, _ => none
noncomputable def F_X9_found (σ : Mem) (x1 : Int32) (x2 : Int32) : Option (Int32 × Mem) := (finL B_X9_found 0 σ [x1, x2]).bind extM
noncomputable def B_X9_findNear_0 (σ : Mem) (x1 : Int32) : Option (Nat × Mem × List Int32) :=
  (F_X9_findReadings σ).bind fun σ1 =>
  some (6, σ1, [x1, (0 : Int32)])
noncomputable def B_X9_findNear_6 (σ : Mem) (x1 : Int32) (x2 : Int32) : Option (Nat × Mem × List Int32) :=
  if (σ 0 22) ≤ x2 then
    some (39, σ, [x2, (0 : Int32)])
  else
    (ld 6561 (σ 14) x2).bind fun v2 =>
    (ld 6561 (σ 14) (0 : Int32)).bind fun v4 =>
    if (v4 + x1) < v2 then
      some (39, σ, [x2, (0 : Int32)])
    else
      some (6, σ, [x1, (x2 + (1 : Int32))])
noncomputable def B_X9_findNear_39 (σ : Mem) (x2 : Int32) (x3 : Int32) : Option (Nat × Mem × List Int32) :=
  if x2 ≤ x3 then
    some (99, σ, [x2, (0 : Int32)])
  else
    (ld 6561 (σ 13) x3).bind fun v2 =>
    (F_X9_takeWay σ v2).bind fun p4 =>
    if p4.1 = (0 : Int32) then
      if (0 : Int32) = (0 : Int32) then
        (sto 6561 26 p4.2 x3 (-1000000 : Int32)).bind fun σ8 =>
        some (39, σ8, [x2, (x3 + (1 : Int32))])
      else
        (F_X9_answerOf p4.2).bind fun v10 =>
        (sto 6561 26 p4.2 x3 v10).bind fun σ12 =>
        some (39, σ12, [x2, (x3 + (1 : Int32))])
    else
      (F_X9_reads p4.2).bind fun p14 =>
      if p14.1 = (0 : Int32) then
        if (0 : Int32) = (0 : Int32) then
          (sto 6561 26 p14.2 x3 (-1000000 : Int32)).bind fun σ18 =>
          some (39, σ18, [x2, (x3 + (1 : Int32))])
        else
          (F_X9_answerOf p14.2).bind fun v20 =>
          (sto 6561 26 p14.2 x3 v20).bind fun σ22 =>
          some (39, σ22, [x2, (x3 + (1 : Int32))])
      else
        if (1 : Int32) = (0 : Int32) then
          (sto 6561 26 p14.2 x3 (-1000000 : Int32)).bind fun σ25 =>
          some (39, σ25, [x2, (x3 + (1 : Int32))])
        else
          (F_X9_answerOf p14.2).bind fun v27 =>
          (sto 6561 26 p14.2 x3 v27).bind fun σ29 =>
          some (39, σ29, [x2, (x3 + (1 : Int32))])
noncomputable def B_X9_findNear_99 (σ : Mem) (x2 : Int32) (x3 : Int32) : Option (Nat × Mem × List Int32) :=
  if (16384 : Int32) ≤ x3 then
    some (121, σ, [x2, (0 : Int32)])
  else
    (sto 16384 18 σ x3 (-1 : Int32)).bind fun σ2 =>
    some (99, σ2, [x2, (x3 + (1 : Int32))])
noncomputable def B_X9_findNear_121 (σ : Mem) (x2 : Int32) (x3 : Int32) : Option (Nat × Mem × List Int32) :=
  if x2 ≤ x3 then
    some (99999, σ, [x2])
  else
    (ld 6561 (σ 26) x3).bind fun v2 =>
    (some (((Int32.toUInt32 (v2 * (40503 : Int32)) >>> (Int32.toUInt32 (7 : Int32) &&& Int32.toUInt32 31)).toInt32) &&& (16383 : Int32))).bind fun y4 =>
    some (144, σ, [x2, x3, y4])
noncomputable def B_X9_findNear_144 (σ : Mem) (x2 : Int32) (x3 : Int32) (x4 : Int32) : Option (Nat × Mem × List Int32) :=
  (ld 16384 (σ 18) x4).bind fun v1 =>
  if v1 < (0 : Int32) then
    (ld 16384 (σ 18) x4).bind fun v4 =>
    if (0 : Int32) ≤ v4 then
      (ld 16384 (σ 18) x4).bind fun v7 =>
      (sto 16384 18 σ x4 v7).bind fun σ9 =>
      (ld 16384 (σ9 18) x4).bind fun v11 =>
      (sto 6561 19 σ9 x3 v11).bind fun σ13 =>
      some (121, σ13, [x2, (x3 + (1 : Int32))])
    else
      (sto 16384 18 σ x4 x3).bind fun σ15 =>
      (ld 16384 (σ15 18) x4).bind fun v17 =>
      (sto 6561 19 σ15 x3 v17).bind fun σ19 =>
      some (121, σ19, [x2, (x3 + (1 : Int32))])
  else
    (ld 16384 (σ 18) x4).bind fun v21 =>
    (ld 6561 (σ 26) v21).bind fun v23 =>
    (ld 6561 (σ 26) x3).bind fun v25 =>
    if v23 = v25 then
      (ld 16384 (σ 18) x4).bind fun v28 =>
      if (0 : Int32) ≤ v28 then
        (ld 16384 (σ 18) x4).bind fun v31 =>
        (sto 16384 18 σ x4 v31).bind fun σ33 =>
        (ld 16384 (σ33 18) x4).bind fun v35 =>
        (sto 6561 19 σ33 x3 v35).bind fun σ37 =>
        some (121, σ37, [x2, (x3 + (1 : Int32))])
      else
        (sto 16384 18 σ x4 x3).bind fun σ39 =>
        (ld 16384 (σ39 18) x4).bind fun v41 =>
        (sto 6561 19 σ39 x3 v41).bind fun σ43 =>
        some (121, σ43, [x2, (x3 + (1 : Int32))])
    else
      some (144, σ, [x2, x3, ((x4 + (1 : Int32)) &&& (16383 : Int32))])
noncomputable def B_X9_findNear : Nat → Mem → List Int32 → Option (Nat × Mem × List Int32) := fun pc σ vs => match pc, vs with
  | 0, [x1] => B_X9_findNear_0 σ x1
  | 6, [x1, x2] => B_X9_findNear_6 σ x1 x2
  | 39, [x2, x3] => B_X9_findNear_39 σ x2 x3
  | 99, [x2, x3] => B_X9_findNear_99 σ x2 x3
  | 121, [x2, x3] => B_X9_findNear_121 σ x2 x3
  | 144, [x2, x3, x4] => B_X9_findNear_144 σ x2 x3 x4
  | _, _ => none
noncomputable def F_X9_findNear (σ : Mem) (x1 : Int32) : Option (Int32 × Mem) := (finL B_X9_findNear 0 σ [x1]).bind extM
noncomputable def B_X9_meaningAt_0 (σ : Mem) (x1 : Int32) (x2 : Int32) : Option (Nat × Unit × List Int32) :=
  (ld 6561 (σ 13) x1).bind fun v1 =>
  some (15, (), [x2, v1, ((σ 0 13) - (1 : Int32))])
noncomputable def B_X9_meaningAt_15 (σ : Mem) (x2 : Int32) (x3 : Int32) (x4 : Int32) : Option (Nat × Unit × List Int32) :=
  if x4 ≤ x2 then
    some (99999, (), [(x3 - x3 / (3 : Int32) * (3 : Int32))])
  else
    some (15, (), [x2, (x3 / (3 : Int32)), (x4 + (-1 : Int32))])
noncomputable def B_X9_meaningAt (σ : Mem) : Nat → Unit → List Int32 → Option (Nat × Unit × List Int32) := fun pc _ vs => match pc, vs with
  | 0, [x1, x2] => B_X9_meaningAt_0 σ x1 x2
  | 15, [x2, x3, x4] => B_X9_meaningAt_15 σ x2 x3 x4
  | _, _ => none
noncomputable def F_X9_meaningAt (σ : Mem) (x1 : Int32) (x2 : Int32) : Option Int32 := (finL (B_X9_meaningAt σ) 0 () [x1, x2]).bind extR
noncomputable def B_X9_unlike_0 (σ : Mem) (x1 : Int32) (x2 : Int32) (x3 : Int32) : Option (Nat × Mem × List Int32) :=
  some (6, σ, [x1, x2, x3, (0 : Int32), (0 : Int32)])
noncomputable def B_X9_unlike_6 (σ : Mem) (x1 : Int32) (x2 : Int32) (x3 : Int32) (x4 : Int32) (x5 : Int32) : Option (Nat × Mem × List Int32) :=
  if x1 ≤ x5 then
    some (29, σ, [x1, x2, x3, x4, (0 : Int32)])
  else
    (sto 6561 20 σ x5 (vp_nar .boolean (0 : Int32))).bind fun σ2 =>
    some (6, σ2, [x1, x2, x3, x4, (x5 + (1 : Int32))])
noncomputable def B_X9_unlike_29 (σ : Mem) (x1 : Int32) (x2 : Int32) (x3 : Int32) (x4 : Int32) (x5 : Int32) : Option (Nat × Mem × List Int32) :=
  if x1 ≤ x5 then
    some (99999, σ, [x4])
  else
    if x2 < (0 : Int32) then
      (ld 6561 (σ 19) x5).bind fun v3 =>
      (ld 6561 (σ 20) v3).bind fun v5 =>
      if v5 = (0 : Int32) then
        (ld 6561 (σ 19) x5).bind fun v8 =>
        (sto 6561 20 σ v8 (vp_nar .boolean (1 : Int32))).bind fun σ10 =>
        some (29, σ10, [x1, x2, x3, (x4 + (1 : Int32)), (x5 + (1 : Int32))])
      else
        (ld 6561 (σ 19) x5).bind fun v12 =>
        (sto 6561 20 σ v12 (vp_nar .boolean (1 : Int32))).bind fun σ14 =>
        some (29, σ14, [x1, x2, x3, (x4 + (0 : Int32)), (x5 + (1 : Int32))])
    else
      (F_X9_meaningAt σ x5 x2).bind fun v16 =>
      if v16 = x3 then
        (ld 6561 (σ 19) x5).bind fun v19 =>
        (ld 6561 (σ 20) v19).bind fun v21 =>
        if v21 = (0 : Int32) then
          (ld 6561 (σ 19) x5).bind fun v24 =>
          (sto 6561 20 σ v24 (vp_nar .boolean (1 : Int32))).bind fun σ26 =>
          some (29, σ26, [x1, x2, x3, (x4 + (1 : Int32)), (x5 + (1 : Int32))])
        else
          (ld 6561 (σ 19) x5).bind fun v28 =>
          (sto 6561 20 σ v28 (vp_nar .boolean (1 : Int32))).bind fun σ30 =>
          some (29, σ30, [x1, x2, x3, (x4 + (0 : Int32)), (x5 + (1 : Int32))])
      else
        some (29, σ, [x1, x2, x3, x4, (x5 + (1 : Int32))])
noncomputable def B_X9_unlike : Nat → Mem → List Int32 → Option (Nat × Mem × List Int32) := fun pc σ vs => match pc, vs with
  | 0, [x1, x2, x3] => B_X9_unlike_0 σ x1 x2 x3
  | 6, [x1, x2, x3, x4, x5] => B_X9_unlike_6 σ x1 x2 x3 x4 x5
  | 29, [x1, x2, x3, x4, x5] => B_X9_unlike_29 σ x1 x2 x3 x4 x5
  | _, _ => none
noncomputable def F_X9_unlike (σ : Mem) (x1 : Int32) (x2 : Int32) (x3 : Int32) : Option (Int32 × Mem) := (finL B_X9_unlike 0 σ [x1, x2, x3]).bind extM
noncomputable def F_X9_answers (σ : Mem) (x1 : Int32) : Option (Int32 × Mem) :=
  if (F_X9_within x1 (0 : Int32) (1000 : Int32)) = (0 : Int32) then
    some ((-1 : Int32), σ)
  else
    (F_X9_findNear σ x1).bind fun p2 =>
    (F_X9_unlike p2.2 p2.1 (-1 : Int32) (0 : Int32)).bind fun p4 =>
    some (p4.1, p4.2)
noncomputable def B_X9_back_0 (σ : Mem) (x1 : Int32) : Option (Nat × Mem × List Int32) :=
  if (F_X9_within x1 (0 : Int32) (1000 : Int32)) = (0 : Int32) then
    some (99999, σ, [(-1 : Int32)])
  else
    (F_X9_findNear σ x1).bind fun p2 =>
    some (28, p2.2, [p2.1, (-5 : Int32), (0 : Int32), (0 : Int32)])
noncomputable def B_X9_back_28 (σ : Mem) (x2 : Int32) (x3 : Int32) (x4 : Int32) (x5 : Int32) : Option (Nat × Mem × List Int32) :=
  if (σ 0 13) ≤ x5 then
    some (99999, σ, [x3])
  else
    some (46, σ, [x2, x3, x4, x5, (0 : Int32), (0 : Int32), (0 : Int32)])
noncomputable def B_X9_back_46 (σ : Mem) (x2 : Int32) (x3 : Int32) (x4 : Int32) (x5 : Int32) (x6 : Int32) (x7 : Int32) (x8 : Int32) : Option (Nat × Mem × List Int32) :=
  if (3 : Int32) ≤ x8 then
    if x6 ≤ (1 : Int32) then
      some (28, σ, [x2, x3, x4, (x5 + (1 : Int32))])
    else
      if x3 < (0 : Int32) then
        some (28, σ, [x2, x5, x7, (x5 + (1 : Int32))])
      else
        if x4 ≤ x7 then
          some (28, σ, [x2, x3, x4, (x5 + (1 : Int32))])
        else
          some (28, σ, [x2, x5, x7, (x5 + (1 : Int32))])
  else
    (ld 8 (σ 12) x5).bind fun v5 =>
    if v5 = (0 : Int32) then
      (F_X9_unlike σ x2 x5 x8).bind fun p11 =>
      if p11.1 ≤ (0 : Int32) then
        if p11.1 ≤ x7 then
          some (46, p11.2, [x2, x3, x4, x5, (x6 + (0 : Int32)), x7, (x8 + (1 : Int32))])
        else
          some (46, p11.2, [x2, x3, x4, x5, (x6 + (0 : Int32)), p11.1, (x8 + (1 : Int32))])
      else
        if p11.1 ≤ x7 then
          some (46, p11.2, [x2, x3, x4, x5, (x6 + (1 : Int32)), x7, (x8 + (1 : Int32))])
        else
          some (46, p11.2, [x2, x3, x4, x5, (x6 + (1 : Int32)), p11.1, (x8 + (1 : Int32))])
    else
      if x6 ≤ (1 : Int32) then
        some (28, σ, [x2, x3, x4, (x5 + (1 : Int32))])
      else
        if x3 < (0 : Int32) then
          some (28, σ, [x2, x5, x7, (x5 + (1 : Int32))])
        else
          if x4 ≤ x7 then
            some (28, σ, [x2, x3, x4, (x5 + (1 : Int32))])
          else
            some (28, σ, [x2, x5, x7, (x5 + (1 : Int32))])
noncomputable def B_X9_back : Nat → Mem → List Int32 → Option (Nat × Mem × List Int32) := fun pc σ vs => match pc, vs with
  | 0, [x1] => B_X9_back_0 σ x1
  | 28, [x2, x3, x4, x5] => B_X9_back_28 σ x2 x3 x4 x5
  | 46, [x2, x3, x4, x5, x6, x7, x8] => B_X9_back_46 σ x2 x3 x4 x5 x6 x7 x8
  | _, _ => none
noncomputable def F_X9_back (σ : Mem) (x1 : Int32) : Option (Int32 × Mem) := (finL B_X9_back 0 σ [x1]).bind extM
noncomputable def B_X9_agree_0 (σ : Mem) (x1 : Int32) (x2 : Int32) (x3 : Int32) : Option (Nat × Mem × List Int32) :=
  if (F_X9_within x1 (0 : Int32) (1000 : Int32)) = (0 : Int32) then
    some (99999, σ, [(-1 : Int32)])
  else
    if x2 < (0 : Int32) then
      some (99999, σ, [(-1 : Int32)])
    else
      if (σ 0 13) ≤ x2 then
        some (99999, σ, [(-1 : Int32)])
      else
        (ld 8 (σ 12) x2).bind fun v4 =>
        if v4 = (0 : Int32) then
          (F_X9_findNear σ x1).bind fun p7 =>
          some (47, p7.2, [x2, x3, p7.1, (0 : Int32), (0 : Int32)])
        else
          some (99999, σ, [(-1 : Int32)])
noncomputable def B_X9_agree_47 (σ : Mem) (x2 : Int32) (x3 : Int32) (x4 : Int32) (x5 : Int32) (x6 : Int32) : Option (Nat × Mem × List Int32) :=
  if x4 ≤ x6 then
    some (99999, σ, [x5])
  else
    (F_X9_meaningAt σ x6 x2).bind fun v2 =>
    if v2 = x3 then
      some (47, σ, [x2, x3, x4, (x5 + (1 : Int32)), (x6 + (1 : Int32))])
    else
      some (47, σ, [x2, x3, x4, (x5 + (0 : Int32)), (x6 + (1 : Int32))])
noncomputable def B_X9_agree : Nat → Mem → List Int32 → Option (Nat × Mem × List Int32) := fun pc σ vs => match pc, vs with
  | 0, [x1, x2, x3] => B_X9_agree_0 σ x1 x2 x3
  | 47, [x2, x3, x4, x5, x6] => B_X9_agree_47 σ x2 x3 x4 x5 x6
  | _, _ => none
noncomputable def F_X9_agree (σ : Mem) (x1 : Int32) (x2 : Int32) (x3 : Int32) : Option (Int32 × Mem) := (finL B_X9_agree 0 σ [x1, x2, x3]).bind extM
noncomputable def B_X9_take_0 (σ : Mem) (x1 : Int32) : Option (Nat × Mem × List Int32) :=
  (F_X9_have σ x1).bind fun p1 =>
  if p1.1 = (0 : Int32) then
    some (99999, p1.2, [(-1 : Int32)])
  else
    some (14, p1.2, [(0 : Int32), (0 : Int32)])
noncomputable def B_X9_take_14 (σ : Mem) (x2 : Int32) (x3 : Int32) : Option (Nat × Mem × List Int32) :=
  if (σ 0 13) ≤ x3 then
    some (99999, σ, [x2])
  else
    (ld 8 (σ 12) x3).bind fun v2 =>
    some (33, σ, [x2, x3, v2, (0 : Int32)])
noncomputable def B_X9_take_33 (σ : Mem) (x2 : Int32) (x3 : Int32) (x4 : Int32) (x5 : Int32) : Option (Nat × Mem × List Int32) :=
  if x3 ≤ x5 then
    some (86, σ, [x2, x3, x4, (0 : Int32)])
  else
    if x4 = (0 : Int32) then
      (ld 8 (σ 12) x5).bind fun v3 =>
      if v3 = (0 : Int32) then
        (ld 8 (σ 11) x5).bind fun v6 =>
        (ld 8 (σ 11) x3).bind fun v8 =>
        if v6 = v8 then
          some (33, σ, [x2, x3, (1 : Int32), (x5 + (1 : Int32))])
        else
          some (33, σ, [x2, x3, (0 : Int32), (x5 + (1 : Int32))])
      else
        some (33, σ, [x2, x3, (0 : Int32), (x5 + (1 : Int32))])
    else
      some (33, σ, [x2, x3, (1 : Int32), (x5 + (1 : Int32))])
noncomputable def B_X9_take_86 (σ : Mem) (x2 : Int32) (x3 : Int32) (x4 : Int32) (x5 : Int32) : Option (Nat × Mem × List Int32) :=
  if x4 = (0 : Int32) then
    (ld 8 (σ 11) x3).bind fun v2 =>
    (ld 40 (σ 5) v2).bind fun v4 =>
    if v4 ≤ x5 then
      some (14, σ, [x2, (x3 + (1 : Int32))])
    else
      (ld 8 (σ 11) x3).bind fun v7 =>
      (ld 120 (σ 10) (((3 : Int32) * v7) + x5)).bind fun v9 =>
      (ld 8 (σ 21) x3).bind fun v11 =>
      if x5 = v11 then
        if (0 : Int32) ≤ (v9 - (1 : Int32)) then
          if (v9 - (1 : Int32)) ≤ (99 : Int32) then
            (sto 120 10 σ (((3 : Int32) * v7) + x5) (v9 - (1 : Int32))).bind fun σ33 =>
            (ld 120 (σ33 10) (((3 : Int32) * v7) + x5)).bind fun v35 =>
            if v35 = v9 then
              some (86, σ33, [(x2 + (0 : Int32)), x3, x4, (x5 + (1 : Int32))])
            else
              some (86, σ33, [(x2 + (1 : Int32)), x3, x4, (x5 + (1 : Int32))])
          else
            (sto 120 10 σ (((3 : Int32) * v7) + x5) (99 : Int32)).bind fun σ38 =>
            (ld 120 (σ38 10) (((3 : Int32) * v7) + x5)).bind fun v40 =>
            if v40 = v9 then
              some (86, σ38, [(x2 + (0 : Int32)), x3, x4, (x5 + (1 : Int32))])
            else
              some (86, σ38, [(x2 + (1 : Int32)), x3, x4, (x5 + (1 : Int32))])
        else
          (sto 120 10 σ (((3 : Int32) * v7) + x5) (0 : Int32)).bind fun σ43 =>
          (ld 120 (σ43 10) (((3 : Int32) * v7) + x5)).bind fun v45 =>
          if v45 = v9 then
            some (86, σ43, [(x2 + (0 : Int32)), x3, x4, (x5 + (1 : Int32))])
          else
            some (86, σ43, [(x2 + (1 : Int32)), x3, x4, (x5 + (1 : Int32))])
      else
        if (0 : Int32) ≤ (v9 + (1 : Int32)) then
          if (v9 + (1 : Int32)) ≤ (99 : Int32) then
            (sto 120 10 σ (((3 : Int32) * v7) + x5) (v9 + (1 : Int32))).bind fun σ16 =>
            (ld 120 (σ16 10) (((3 : Int32) * v7) + x5)).bind fun v18 =>
            if v18 = v9 then
              some (86, σ16, [(x2 + (0 : Int32)), x3, x4, (x5 + (1 : Int32))])
            else
              some (86, σ16, [(x2 + (1 : Int32)), x3, x4, (x5 + (1 : Int32))])
          else
            (sto 120 10 σ (((3 : Int32) * v7) + x5) (99 : Int32)).bind fun σ21 =>
            (ld 120 (σ21 10) (((3 : Int32) * v7) + x5)).bind fun v23 =>
            if v23 = v9 then
              some (86, σ21, [(x2 + (0 : Int32)), x3, x4, (x5 + (1 : Int32))])
            else
              some (86, σ21, [(x2 + (1 : Int32)), x3, x4, (x5 + (1 : Int32))])
        else
          (sto 120 10 σ (((3 : Int32) * v7) + x5) (0 : Int32)).bind fun σ26 =>
          (ld 120 (σ26 10) (((3 : Int32) * v7) + x5)).bind fun v28 =>
          if v28 = v9 then
            some (86, σ26, [(x2 + (0 : Int32)), x3, x4, (x5 + (1 : Int32))])
          else
            some (86, σ26, [(x2 + (1 : Int32)), x3, x4, (x5 + (1 : Int32))])
  else
    some (14, σ, [x2, (x3 + (1 : Int32))])
noncomputable def B_X9_take : Nat → Mem → List Int32 → Option (Nat × Mem × List Int32) := fun pc σ vs => match pc, vs with
  | 0, [x1] => B_X9_take_0 σ x1
  | 14, [x2, x3] => B_X9_take_14 σ x2 x3
  | 33, [x2, x3, x4, x5] => B_X9_take_33 σ x2 x3 x4 x5
  | 86, [x2, x3, x4, x5] => B_X9_take_86 σ x2 x3 x4 x5
  | _, _ => none
noncomputable def F_X9_take (σ : Mem) (x1 : Int32) : Option (Int32 × Mem) := (finL B_X9_take 0 σ [x1]).bind extM
noncomputable def B_X9_why_0 (σ : Mem) (x1 : Int32) : Option (Nat × Mem × List Int32) :=
  (F_X9_have σ x1).bind fun p1 =>
  if p1.1 = (0 : Int32) then
    some (99999, p1.2, [(-1 : Int32)])
  else
    some (18, p1.2, [(-5 : Int32), (0 : Int32), (0 : Int32)])
noncomputable def B_X9_why_18 (σ : Mem) (x2 : Int32) (x3 : Int32) (x4 : Int32) : Option (Nat × Mem × List Int32) :=
  if ((1 : Int32) <<< ((σ 0 32) &&& 31)) ≤ x4 then
    some (99999, σ, [x2])
  else
    some (35, σ, [x2, x3, x4, (0 : Int32), (0 : Int32)])
noncomputable def B_X9_why_35 (σ : Mem) (x2 : Int32) (x3 : Int32) (x4 : Int32) (x5 : Int32) (x6 : Int32) : Option (Nat × Mem × List Int32) :=
  if (σ 0 32) ≤ x6 then
    (F_X9_foundMany σ x4).bind fun v2 =>
    if v2 ≤ (0 : Int32) then
      some (18, σ, [x2, x3, (x4 + (1 : Int32))])
    else
      if x2 < (0 : Int32) then
        some (18, σ, [x4, x5, (x4 + (1 : Int32))])
      else
        if x3 ≤ x5 then
          some (18, σ, [x2, x3, (x4 + (1 : Int32))])
        else
          some (18, σ, [x4, x5, (x4 + (1 : Int32))])
  else
    (some (x5 + ((x4 >>> (x6 &&& 31)) &&& (1 : Int32)))).bind fun y7 =>
    some (35, σ, [x2, x3, x4, y7, (x6 + (1 : Int32))])
noncomputable def B_X9_why : Nat → Mem → List Int32 → Option (Nat × Mem × List Int32) := fun pc σ vs => match pc, vs with
  | 0, [x1] => B_X9_why_0 σ x1
  | 18, [x2, x3, x4] => B_X9_why_18 σ x2 x3 x4
  | 35, [x2, x3, x4, x5, x6] => B_X9_why_35 σ x2 x3 x4 x5 x6
  | _, _ => none
noncomputable def F_X9_why (σ : Mem) (x1 : Int32) : Option (Int32 × Mem) := (finL B_X9_why 0 σ [x1]).bind extM
noncomputable def B_X9_count_0 (σ : Mem) (x1 : Int32) : Option (Nat × Unit × List Int32) :=
  some (4, (), [x1, (0 : Int32), (0 : Int32)])
noncomputable def B_X9_count_4 (σ : Mem) (x1 : Int32) (x2 : Int32) (x3 : Int32) : Option (Nat × Unit × List Int32) :=
  if (40 : Int32) ≤ x3 then
    if x1 = (0 : Int32) then
      some (99999, (), [(σ 0 4)])
    else
      if x1 = (1 : Int32) then
        some (99999, (), [(σ 0 13)])
      else
        if x1 = (2 : Int32) then
          some (99999, (), [x2])
        else
          some (99999, (), [(-1 : Int32)])
  else
    (ld 40 (σ 5) x3).bind fun v5 =>
    some (4, (), [x1, (x2 + v5), (x3 + (1 : Int32))])
noncomputable def B_X9_count (σ : Mem) : Nat → Unit → List Int32 → Option (Nat × Unit × List Int32) := fun pc _ vs => match pc, vs with
  | 0, [x1] => B_X9_count_0 σ x1
  | 4, [x1, x2, x3] => B_X9_count_4 σ x1 x2 x3
  | _, _ => none
noncomputable def F_X9_count (σ : Mem) (x1 : Int32) : Option Int32 := (finL (B_X9_count σ) 0 () [x1]).bind extR
