-- X5_tellMeaning X2_end X5_fillForm X5_formOf X2_from X6_rowsOf X2_tests X2_originOf X2_tableOf X2_columnOf X6_linkingColumn X6_cell
abbrev ts_X5_tellMeaning : List Cond := .code yX5_tellMeaning cX5_tellMeaning 6 none :: wsL_law
set_option maxHeartbeats 4000000 in
set_option maxRecDepth 100000 in
theorem c_X5_tellMeaning (l : Launch) (D : va_G) (cyI cyZ : ClassId) (a : Nat → Nat) (A : Nat → Prop) (σ : Mem) (x1 : Int32) (x2 : Int32) (σ' : Mem) (hF : F_X5_tellMeaning σ x1 x2 = some σ') : CtV l yX5_tellMeaning ts_X5_tellMeaning ({ frames := 2, cells := 0, slots := 0, locals := 42 } : Room) [.ref (a 16), .int x1, .int x2] D cyI cyZ A (wC cyI cyZ a σ) (wC cyI cyZ a σ') := by
  refine CtV.of (cc := cX5_tellMeaning) (maxL := 6) (ret := none) (by decide) rfl (Nat.le_of_ble_eq_true rfl) ?_
  intro p e s m below meth c ls hC hP hD hl
  obtain ⟨hx, hb, hr, hml, hown, hts, hK, hN, hlocks⟩ := hC
  have hown : s.vm.findClass RX5 = some m.cls := hown
  have hS : va_S A s.heap s.heap [] := va_S.rf
  have hl : lv_has ls 6 [(0, .ref (a 16)), (1, .int x1), (2, .int x2)] := hl
  unfold F_X5_tellMeaning at hF
  refine lv_aload_n hx hb dX5_tellMeaning_0 rfl (lv_at hl 0 rfl) ?_
  refine va_get (D := D) (ci := 5) (v := .ref (a 6)) (C := RX5) (T := TX5) (N := 10) hx hb hts inlX5 hown hK hP 16 gC_16 rfl 1 (by decide) (hts _ mw_78) (fun _ h9 => h9) rfl dX5_tellMeaning_1 ?_
  refine lv_iload_n hx hb dX5_tellMeaning_4 rfl (lv_at hl 2 rfl) ?_
  obtain ⟨v1, e2, hF⟩ := Option.bind_eq_some_iff.mp hF
  refine z_callVI (w' := (wC cyI cyZ a σ)) (As := [.int x2]) (rest := []) ⟨hx, hb, hml, hown, hts⟩ (c_X7_aAt l D cyI cyZ a A σ x2 _ e2) (cwV 1 hts (gd_V mw_467 mw_468 mw_469 mw_18 mw_470) rfl rfl rfl (by decide +kernel) ⟨Nat.le_of_ble_eq_true rfl, Nat.le_of_ble_eq_true rfl⟩) hK hN hP hD hS 7 6 rfl rfl gC_6 rfl hl.1 rfl (Nat.le_of_ble_eq_true rfl) dX5_tellMeaning_5 ⟨Nat.zero_le _, Nat.zero_le _⟩ (fun H locs hP hD hS => ?_)
  refine lv_istore_n (lv' := [(3, .int v1), (0, .ref (a 16)), (1, .int x1), (2, .int x2)]) hx hb dX5_tellMeaning_8 rfl hl (by decide) rfl (fun ls hl => ?_)
  refine lv_aload_n hx hb dX5_tellMeaning_9 rfl (lv_at hl 1 rfl) ?_
  refine va_get (D := D) (ci := 5) (v := .ref (a 6)) (C := RX5) (T := TX5) (N := 10) hx hb hts inlX5 hown hK hP 16 gC_16 rfl 1 (by decide) (hts _ mw_78) (fun _ h9 => h9) rfl dX5_tellMeaning_10 ?_
  refine lv_iload_n hx hb dX5_tellMeaning_13 rfl (lv_at hl 3 rfl) ?_
  obtain ⟨v3, e4, hF⟩ := Option.bind_eq_some_iff.mp hF
  refine z_callVI (w' := (wC cyI cyZ a σ)) (As := [.int x2]) (rest := []) ⟨hx, hb, hml, hown, hts⟩ (c_X7_bAt l D cyI cyZ a A σ x2 _ e4) (cwV 1 hts (gd_V mw_471 mw_472 mw_473 mw_18 mw_474) rfl rfl rfl (by decide +kernel) ⟨Nat.le_of_ble_eq_true rfl, Nat.le_of_ble_eq_true rfl⟩) hK hN hP hD hS 7 6 rfl rfl gC_6 rfl hl.1 rfl (Nat.le_of_ble_eq_true rfl) dX5_tellMeaning_14 ⟨Nat.zero_le _, Nat.zero_le _⟩ (fun H locs hP hD hS => ?_)
  refine lv_istore (lv' := [(4, .int v3), (3, .int v1), (0, .ref (a 16)), (1, .int x1), (2, .int x2)]) hx hb dX5_tellMeaning_17 hl (by decide) rfl (fun ls hl => ?_)
  refine lv_aload_n hx hb dX5_tellMeaning_19 rfl (lv_at hl 2 rfl) ?_
  refine va_get (D := D) (ci := 5) (v := .ref (a 6)) (C := RX5) (T := TX5) (N := 10) hx hb hts inlX5 hown hK hP 16 gC_16 rfl 1 (by decide) (hts _ mw_78) (fun _ h9 => h9) rfl dX5_tellMeaning_20 ?_
  refine lv_iload_n hx hb dX5_tellMeaning_23 rfl (lv_at hl 4 rfl) ?_
  obtain ⟨v5, e6, hF⟩ := Option.bind_eq_some_iff.mp hF
  refine z_callVI (w' := (wC cyI cyZ a σ)) (As := [.int x2]) (rest := []) ⟨hx, hb, hml, hown, hts⟩ (c_X7_sortAt l D cyI cyZ a A σ x2 _ e6) (cwV 1 hts (gd_V mw_426 mw_427 mw_428 mw_18 mw_429) rfl rfl rfl (by decide +kernel) ⟨Nat.le_of_ble_eq_true rfl, Nat.le_of_ble_eq_true rfl⟩) hK hN hP hD hS 7 6 rfl rfl gC_6 rfl hl.1 rfl (Nat.le_of_ble_eq_true rfl) dX5_tellMeaning_24 ⟨Nat.zero_le _, Nat.zero_le _⟩ (fun H locs hP hD hS => ?_)
  by_cases c7 : v5 = (0 : Int32)
  · rw [if_pos c7] at hF
    refine lv_tableIn (off := 33) (tgt := 60) hx hb dX5_tellMeaning_27 (by rw [c7]; decide) (by rw [c7]; decide) (by rw [c7]; rfl) (by decide) ?_
    refine lv_aload_n hx hb dX5_tellMeaning_60 rfl (lv_at hl 2 rfl) ?_
    refine va_get (D := D) (ci := 5) (v := .ref (a 17)) (C := RX5) (T := TX5) (N := 10) hx hb hts inlX5 hown hK hP 16 gC_16 rfl 3 (by decide) (hts _ mw_72) (fun _ h9 => h9) rfl dX5_tellMeaning_61 ?_
    refine lv_iload_n hx hb dX5_tellMeaning_64 rfl (lv_at hl 1 rfl) ?_
    obtain ⟨σ8, e9, hF⟩ := Option.bind_eq_some_iff.mp hF
    refine z_callVV (w' := (wC cyI cyZ a σ8)) (As := [.int v1]) (rest := []) ⟨hx, hb, hml, hown, hts⟩ (c_X2_tellTable l D cyI cyZ a A σ v1 σ8 e9) (cwV 1 hts (gd_V mw_475 mw_476 mw_477 mw_71 mw_478) rfl rfl rfl (by decide +kernel) ⟨Nat.le_of_ble_eq_true rfl, Nat.le_of_ble_eq_true rfl⟩) hK hN hP hD hS 2 17 rfl rfl gC_17 rfl hl.1 rfl (Nat.le_of_ble_eq_true rfl) dX5_tellMeaning_65 ⟨Nat.zero_le _, Nat.zero_le _⟩ (fun H locs hP hD hS => ?_)
    refine lv_goto (tgt := 215) hx hb dX5_tellMeaning_68 (by decide) ?_
    cases hF
    exact z_vret hx hb hr hlocks hK hP hD hS dX5_tellMeaning_215
  · rw [if_neg c7] at hF
    by_cases c10 : v5 = (1 : Int32)
    · rw [if_pos c10] at hF
      refine lv_tableIn (off := 44) (tgt := 71) hx hb dX5_tellMeaning_27 (by rw [c10]; decide) (by rw [c10]; decide) (by rw [c10]; rfl) (by decide) ?_
      refine lv_aload_n hx hb dX5_tellMeaning_71 rfl (lv_at hl 2 rfl) ?_
      refine lv_iload_n hx hb dX5_tellMeaning_72 rfl (lv_at hl 3 rfl) ?_
      refine lv_iconst (v := (1 : Int32)) hx hb dX5_tellMeaning_73 (by decide) ?_
      refine lv_iadd hx hb dX5_tellMeaning_74 ?_
      obtain ⟨v11, e12, hF⟩ := Option.bind_eq_some_iff.mp hF
      refine z_callVI (w' := (wC cyI cyZ a σ)) (As := [.int (x1 + (1 : Int32))]) (rest := []) ⟨hx, hb, hml, hown, hts⟩ (c_X5_isThanAt l D cyI cyZ a A σ (x1 + (1 : Int32)) _ e12) (cwV 1 hts (gd_V mw_479 mw_480 mw_481 mw_26 mw_482) rfl rfl rfl (by decide +kernel) ⟨Nat.le_of_ble_eq_true rfl, Nat.le_of_ble_eq_true rfl⟩) hK hN hP hD hS 5 16 rfl rfl gC_16 rfl hl.1 rfl (Nat.le_of_ble_eq_true rfl) dX5_tellMeaning_75 ⟨Nat.zero_le _, Nat.zero_le _⟩ (fun H locs hP hD hS => ?_)
      refine lv_if_ne (tgt := 215) hx hb dX5_tellMeaning_78 (by decide) (fun c13 => ?_) (fun c13 => ?_)
      · rw [if_neg c13] at hF
        cases hF
        exact z_vret hx hb hr hlocks hK hP hD hS dX5_tellMeaning_215
      · rw [if_pos c13] at hF
        refine lv_aload_n hx hb dX5_tellMeaning_81 rfl (lv_at hl 2 rfl) ?_
        refine va_get (D := D) (ci := 5) (v := .ref (a 17)) (C := RX5) (T := TX5) (N := 10) hx hb hts inlX5 hown hK hP 16 gC_16 rfl 3 (by decide) (hts _ mw_72) (fun _ h9 => h9) rfl dX5_tellMeaning_82 ?_
        refine lv_iload_n hx hb dX5_tellMeaning_85 rfl (lv_at hl 1 rfl) ?_
        refine lv_iload hx hb dX5_tellMeaning_86 (lv_at hl 0 rfl) ?_
        obtain ⟨σ14, e15, hF⟩ := Option.bind_eq_some_iff.mp hF
        refine z_callVV (w' := (wC cyI cyZ a σ14)) (As := [.int v1, .int v3]) (rest := []) ⟨hx, hb, hml, hown, hts⟩ (c_X2_tellWanted l D cyI cyZ a A σ v1 v3 σ14 e15) (cwV 2 hts (gd_V mw_483 mw_484 mw_485 mw_71 mw_486) rfl rfl rfl (by decide +kernel) ⟨Nat.le_of_ble_eq_true rfl, Nat.le_of_ble_eq_true rfl⟩) hK hN hP hD hS 2 17 rfl rfl gC_17 rfl hl.1 rfl (Nat.le_of_ble_eq_true rfl) dX5_tellMeaning_88 ⟨Nat.zero_le _, Nat.zero_le _⟩ (fun H locs hP hD hS => ?_)
        refine lv_goto (tgt := 215) hx hb dX5_tellMeaning_91 (by decide) ?_
        cases hF
        exact z_vret hx hb hr hlocks hK hP hD hS dX5_tellMeaning_215
    · rw [if_neg c10] at hF
      by_cases c16 : v5 = (2 : Int32)
      · rw [if_pos c16] at hF
        refine lv_tableIn (off := 67) (tgt := 94) hx hb dX5_tellMeaning_27 (by rw [c16]; decide) (by rw [c16]; decide) (by rw [c16]; rfl) (by decide) ?_
        refine lv_aload_n hx hb dX5_tellMeaning_94 rfl (lv_at hl 2 rfl) ?_
        refine va_get (D := D) (ci := 5) (v := .ref (a 17)) (C := RX5) (T := TX5) (N := 10) hx hb hts inlX5 hown hK hP 16 gC_16 rfl 3 (by decide) (hts _ mw_72) (fun _ h9 => h9) rfl dX5_tellMeaning_95 ?_
        refine lv_iload_n hx hb dX5_tellMeaning_98 rfl (lv_at hl 1 rfl) ?_
        obtain ⟨σ17, e18, hF⟩ := Option.bind_eq_some_iff.mp hF
        refine z_callVV (w' := (wC cyI cyZ a σ17)) (As := [.int v1]) (rest := []) ⟨hx, hb, hml, hown, hts⟩ (c_X2_tellDoing l D cyI cyZ a A σ v1 σ17 e18) (cwV 1 hts (gd_V mw_487 mw_488 mw_489 mw_71 mw_490) rfl rfl rfl (by decide +kernel) ⟨Nat.le_of_ble_eq_true rfl, Nat.le_of_ble_eq_true rfl⟩) hK hN hP hD hS 2 17 rfl rfl gC_17 rfl hl.1 rfl (Nat.le_of_ble_eq_true rfl) dX5_tellMeaning_99 ⟨Nat.zero_le _, Nat.zero_le _⟩ (fun H locs hP hD hS => ?_)
        refine lv_goto (tgt := 215) hx hb dX5_tellMeaning_102 (by decide) ?_
        cases hF
        exact z_vret hx hb hr hlocks hK hP hD hS dX5_tellMeaning_215
      · rw [if_neg c16] at hF
        by_cases c19 : v5 = (3 : Int32)
        · rw [if_pos c19] at hF
          refine lv_tableIn (off := 78) (tgt := 105) hx hb dX5_tellMeaning_27 (by rw [c19]; decide) (by rw [c19]; decide) (by rw [c19]; rfl) (by decide) ?_
          refine lv_aload_n hx hb dX5_tellMeaning_105 rfl (lv_at hl 2 rfl) ?_
          refine va_get (D := D) (ci := 5) (v := .ref (a 17)) (C := RX5) (T := TX5) (N := 10) hx hb hts inlX5 hown hK hP 16 gC_16 rfl 3 (by decide) (hts _ mw_72) (fun _ h9 => h9) rfl dX5_tellMeaning_106 ?_
          refine lv_iload_n hx hb dX5_tellMeaning_109 rfl (lv_at hl 3 rfl) ?_
          refine lv_iload_n hx hb dX5_tellMeaning_110 rfl (lv_at hl 4 rfl) ?_
          refine lv_iconst (v := (0 : Int32)) hx hb dX5_tellMeaning_111 (by decide) ?_
          refine z_callSI (w' := (wC cyI cyZ a σ)) (As := [.int x1, .int x2, .int (0 : Int32)]) (rest := [.ref (a 17)]) ⟨hx, hb, hml, hown, hts⟩ (c_X5_originOf l D cyI cyZ A (wC cyI cyZ a σ) x1 x2 (0 : Int32) _ rfl) (va_cwS 3 hts (gd_S mw_491 mw_492 mw_26 mw_493) rfl rfl rfl (by decide +kernel) ⟨Nat.le_of_ble_eq_true rfl, Nat.le_of_ble_eq_true rfl⟩) hK hN hP hD hS rfl hl.1 rfl (Nat.le_of_ble_eq_true rfl) dX5_tellMeaning_112 ⟨Nat.zero_le _, Nat.zero_le _⟩ (fun H locs hP hD hS => ?_)
          refine lv_iload_n hx hb dX5_tellMeaning_115 rfl (lv_at hl 1 rfl) ?_
          refine lv_iload hx hb dX5_tellMeaning_116 (lv_at hl 0 rfl) ?_
          refine lv_iconst (v := (2 : Int32)) hx hb dX5_tellMeaning_118 (by decide) ?_
          refine lv_aload_n hx hb dX5_tellMeaning_119 rfl (lv_at hl 2 rfl) ?_
          refine va_get (D := D) (ci := 5) (v := .ref (a 6)) (C := RX5) (T := TX5) (N := 10) hx hb hts inlX5 hown hK hP 16 gC_16 rfl 1 (by decide) (hts _ mw_78) (fun _ h9 => h9) rfl dX5_tellMeaning_120 ?_
          refine lv_iload_n hx hb dX5_tellMeaning_123 rfl (lv_at hl 4 rfl) ?_
          obtain ⟨v20, e21, hF⟩ := Option.bind_eq_some_iff.mp hF
          refine z_callVI (w' := (wC cyI cyZ a σ)) (As := [.int x2]) (rest := [.int (2 : Int32), .int v3, .int v1, .int (F_X5_originOf x1 x2 (0 : Int32)), .ref (a 17)]) ⟨hx, hb, hml, hown, hts⟩ (c_X7_cAt l D cyI cyZ a A σ x2 _ e21) (cwV 1 hts (gd_V mw_494 mw_495 mw_496 mw_18 mw_497) rfl rfl rfl (by decide +kernel) ⟨Nat.le_of_ble_eq_true rfl, Nat.le_of_ble_eq_true rfl⟩) hK hN hP hD hS 7 6 rfl rfl gC_6 rfl hl.1 rfl (Nat.le_of_ble_eq_true rfl) dX5_tellMeaning_124 ⟨Nat.zero_le _, Nat.zero_le _⟩ (fun H locs hP hD hS => ?_)
          obtain ⟨σ22, e23, hF⟩ := Option.bind_eq_some_iff.mp hF
          refine z_callVV (w' := (wC cyI cyZ a σ22)) (As := [.int (F_X5_originOf x1 x2 (0 : Int32)), .int v1, .int v3, .int (2 : Int32), .int v20]) (rest := []) ⟨hx, hb, hml, hown, hts⟩ (c_X2_tellTest l D cyI cyZ a A σ (F_X5_originOf x1 x2 (0 : Int32)) v1 v3 (2 : Int32) v20 σ22 e23) (cwV 5 hts (gd_V mw_498 mw_499 mw_500 mw_71 mw_501) rfl rfl rfl (by decide +kernel) ⟨Nat.le_of_ble_eq_true rfl, Nat.le_of_ble_eq_true rfl⟩) hK hN hP hD hS 2 17 rfl rfl gC_17 rfl hl.1 rfl (Nat.le_of_ble_eq_true rfl) dX5_tellMeaning_127 ⟨Nat.zero_le _, Nat.zero_le _⟩ (fun H locs hP hD hS => ?_)
          refine lv_goto (tgt := 215) hx hb dX5_tellMeaning_130 (by decide) ?_
          cases hF
          exact z_vret hx hb hr hlocks hK hP hD hS dX5_tellMeaning_215
        · rw [if_neg c19] at hF
          by_cases c24 : v5 = (4 : Int32)
          · rw [if_pos c24] at hF
            refine lv_tableIn (off := 106) (tgt := 133) hx hb dX5_tellMeaning_27 (by rw [c24]; decide) (by rw [c24]; decide) (by rw [c24]; rfl) (by decide) ?_
            refine lv_iload_n hx hb dX5_tellMeaning_133 rfl (lv_at hl 3 rfl) ?_
            refine lv_if_le (tgt := 148) hx hb dX5_tellMeaning_134 (by decide) (fun c25 => ?_) (fun c25 => ?_)
            · rw [if_pos c25] at hF
              refine lv_iconst (v := (-1 : Int32)) hx hb dX5_tellMeaning_148 (by decide) ?_
              refine lv_istore (lv' := [(5, .int (-1 : Int32)), (4, .int v3), (3, .int v1), (0, .ref (a 16)), (1, .int x1), (2, .int x2)]) hx hb dX5_tellMeaning_149 hl (by decide) rfl (fun ls hl => ?_)
              refine lv_iload hx hb dX5_tellMeaning_151 (lv_at hl 0 rfl) ?_
              refine lv_if_lt (tgt := 215) hx hb dX5_tellMeaning_153 (by decide) (fun c26 => ?_) (fun c26 => ?_)
              · rw [if_pos c26] at hF
                cases hF
                exact z_vret hx hb hr hlocks hK hP hD hS dX5_tellMeaning_215
              · rw [if_neg c26] at hF
                refine lv_aload_n hx hb dX5_tellMeaning_156 rfl (lv_at hl 3 rfl) ?_
                refine va_get (D := D) (ci := 5) (v := .ref (a 13)) (C := RX5) (T := TX5) (N := 10) hx hb hts inlX5 hown hK hP 16 gC_16 rfl 2 (by decide) (hts _ mw_79) (fun _ h9 => h9) rfl dX5_tellMeaning_157 ?_
                refine lv_iload_n hx hb dX5_tellMeaning_160 rfl (lv_at hl 4 rfl) ?_
                refine lv_iconst (v := (1 : Int32)) hx hb dX5_tellMeaning_161 (by decide) ?_
                refine lv_iadd hx hb dX5_tellMeaning_162 ?_
                obtain ⟨v27, e28, hF⟩ := Option.bind_eq_some_iff.mp hF
                refine z_callVI (w' := (wC cyI cyZ a σ)) (As := [.int (x1 + (1 : Int32))]) (rest := []) ⟨hx, hb, hml, hown, hts⟩ (c_X3_isNumber l D cyI cyZ a A σ (x1 + (1 : Int32)) _ e28) (cwV 1 hts (gd_V mw_402 mw_403 mw_404 mw_22 mw_405) rfl rfl rfl (by decide +kernel) ⟨Nat.le_of_ble_eq_true rfl, Nat.le_of_ble_eq_true rfl⟩) hK hN hP hD hS 3 13 rfl rfl gC_13 rfl hl.1 rfl (Nat.le_of_ble_eq_true rfl) dX5_tellMeaning_163 ⟨Nat.zero_le _, Nat.zero_le _⟩ (fun H locs hP hD hS => ?_)
                refine lv_if_eq (tgt := 215) hx hb dX5_tellMeaning_166 (by decide) (fun c29 => ?_) (fun c29 => ?_)
                · rw [if_pos c29] at hF
                  cases hF
                  exact z_vret hx hb hr hlocks hK hP hD hS dX5_tellMeaning_215
                · rw [if_neg c29] at hF
                  refine lv_aload_n hx hb dX5_tellMeaning_169 rfl (lv_at hl 3 rfl) ?_
                  refine va_get (D := D) (ci := 5) (v := .ref (a 17)) (C := RX5) (T := TX5) (N := 10) hx hb hts inlX5 hown hK hP 16 gC_16 rfl 3 (by decide) (hts _ mw_72) (fun _ h9 => h9) rfl dX5_tellMeaning_170 ?_
                  refine lv_iload_n hx hb dX5_tellMeaning_173 rfl (lv_at hl 4 rfl) ?_
                  refine lv_iload_n hx hb dX5_tellMeaning_174 rfl (lv_at hl 5 rfl) ?_
                  refine lv_iload hx hb dX5_tellMeaning_175 (lv_at hl 0 rfl) ?_
                  refine z_callSI (w' := (wC cyI cyZ a σ)) (As := [.int x1, .int x2, .int (-1 : Int32)]) (rest := [.ref (a 17)]) ⟨hx, hb, hml, hown, hts⟩ (c_X5_originOf l D cyI cyZ A (wC cyI cyZ a σ) x1 x2 (-1 : Int32) _ rfl) (va_cwS 3 hts (gd_S mw_491 mw_492 mw_26 mw_493) rfl rfl rfl (by decide +kernel) ⟨Nat.le_of_ble_eq_true rfl, Nat.le_of_ble_eq_true rfl⟩) hK hN hP hD hS rfl hl.1 rfl (Nat.le_of_ble_eq_true rfl) dX5_tellMeaning_177 ⟨Nat.zero_le _, Nat.zero_le _⟩ (fun H locs hP hD hS => ?_)
                  refine lv_aload_n hx hb dX5_tellMeaning_180 rfl (lv_at hl 3 rfl) ?_
                  refine va_get (D := D) (ci := 5) (v := .ref (a 6)) (C := RX5) (T := TX5) (N := 10) hx hb hts inlX5 hown hK hP 16 gC_16 rfl 1 (by decide) (hts _ mw_78) (fun _ h9 => h9) rfl dX5_tellMeaning_181 ?_
                  refine lv_iload hx hb dX5_tellMeaning_184 (lv_at hl 0 rfl) ?_
                  obtain ⟨v30, e31, hF⟩ := Option.bind_eq_some_iff.mp hF
                  refine z_callVI (w' := (wC cyI cyZ a σ)) (As := [.int (-1 : Int32)]) (rest := [.int (F_X5_originOf x1 x2 (-1 : Int32)), .ref (a 17)]) ⟨hx, hb, hml, hown, hts⟩ (c_X7_aAt l D cyI cyZ a A σ (-1 : Int32) _ e31) (cwV 1 hts (gd_V mw_467 mw_468 mw_469 mw_18 mw_470) rfl rfl rfl (by decide +kernel) ⟨Nat.le_of_ble_eq_true rfl, Nat.le_of_ble_eq_true rfl⟩) hK hN hP hD hS 7 6 rfl rfl gC_6 rfl hl.1 rfl (Nat.le_of_ble_eq_true rfl) dX5_tellMeaning_186 ⟨Nat.zero_le _, Nat.zero_le _⟩ (fun H locs hP hD hS => ?_)
                  refine lv_aload_n hx hb dX5_tellMeaning_189 rfl (lv_at hl 3 rfl) ?_
                  refine va_get (D := D) (ci := 5) (v := .ref (a 6)) (C := RX5) (T := TX5) (N := 10) hx hb hts inlX5 hown hK hP 16 gC_16 rfl 1 (by decide) (hts _ mw_78) (fun _ h9 => h9) rfl dX5_tellMeaning_190 ?_
                  refine lv_iload hx hb dX5_tellMeaning_193 (lv_at hl 0 rfl) ?_
                  obtain ⟨v32, e33, hF⟩ := Option.bind_eq_some_iff.mp hF
                  refine z_callVI (w' := (wC cyI cyZ a σ)) (As := [.int (-1 : Int32)]) (rest := [.int v30, .int (F_X5_originOf x1 x2 (-1 : Int32)), .ref (a 17)]) ⟨hx, hb, hml, hown, hts⟩ (c_X7_bAt l D cyI cyZ a A σ (-1 : Int32) _ e33) (cwV 1 hts (gd_V mw_471 mw_472 mw_473 mw_18 mw_474) rfl rfl rfl (by decide +kernel) ⟨Nat.le_of_ble_eq_true rfl, Nat.le_of_ble_eq_true rfl⟩) hK hN hP hD hS 7 6 rfl rfl gC_6 rfl hl.1 rfl (Nat.le_of_ble_eq_true rfl) dX5_tellMeaning_195 ⟨Nat.zero_le _, Nat.zero_le _⟩ (fun H locs hP hD hS => ?_)
                  refine lv_iload_n hx hb dX5_tellMeaning_198 rfl (lv_at hl 2 rfl) ?_
                  refine lv_aload_n hx hb dX5_tellMeaning_199 rfl (lv_at hl 3 rfl) ?_
                  refine va_get (D := D) (ci := 5) (v := .ref (a 13)) (C := RX5) (T := TX5) (N := 10) hx hb hts inlX5 hown hK hP 16 gC_16 rfl 2 (by decide) (hts _ mw_79) (fun _ h9 => h9) rfl dX5_tellMeaning_200 ?_
                  refine lv_iload_n hx hb dX5_tellMeaning_203 rfl (lv_at hl 4 rfl) ?_
                  refine lv_iconst (v := (1 : Int32)) hx hb dX5_tellMeaning_204 (by decide) ?_
                  refine lv_iadd hx hb dX5_tellMeaning_205 ?_
                  obtain ⟨v34, e35, hF⟩ := Option.bind_eq_some_iff.mp hF
                  refine z_callVI (w' := (wC cyI cyZ a σ)) (As := [.int (x1 + (1 : Int32))]) (rest := [.int v1, .int v32, .int v30, .int (F_X5_originOf x1 x2 (-1 : Int32)), .ref (a 17)]) ⟨hx, hb, hml, hown, hts⟩ (c_X3_tokenAt l D cyI cyZ a A σ (x1 + (1 : Int32)) _ e35) (cwV 1 hts (gd_V mw_418 mw_419 mw_420 mw_22 mw_421) rfl rfl rfl (by decide +kernel) ⟨Nat.le_of_ble_eq_true rfl, Nat.le_of_ble_eq_true rfl⟩) hK hN hP hD hS 3 13 rfl rfl gC_13 rfl hl.1 rfl (Nat.le_of_ble_eq_true rfl) dX5_tellMeaning_206 ⟨Nat.zero_le _, Nat.zero_le _⟩ (fun H locs hP hD hS => ?_)
                  obtain ⟨σ36, e37, hF⟩ := Option.bind_eq_some_iff.mp hF
                  refine z_callVV (w' := (wC cyI cyZ a σ36)) (As := [.int (F_X5_originOf x1 x2 (-1 : Int32)), .int v30, .int v32, .int v1, .int v34]) (rest := []) ⟨hx, hb, hml, hown, hts⟩ (c_X2_tellTest l D cyI cyZ a A σ (F_X5_originOf x1 x2 (-1 : Int32)) v30 v32 v1 v34 σ36 e37) (cwV 5 hts (gd_V mw_498 mw_499 mw_500 mw_71 mw_501) rfl rfl rfl (by decide +kernel) ⟨Nat.le_of_ble_eq_true rfl, Nat.le_of_ble_eq_true rfl⟩) hK hN hP hD hS 2 17 rfl rfl gC_17 rfl hl.1 rfl (Nat.le_of_ble_eq_true rfl) dX5_tellMeaning_209 ⟨Nat.zero_le _, Nat.zero_le _⟩ (fun H locs hP hD hS => ?_)
                  refine lv_goto (tgt := 215) hx hb dX5_tellMeaning_212 (by decide) ?_
                  cases hF
                  exact z_vret hx hb hr hlocks hK hP hD hS dX5_tellMeaning_215
            · rw [if_neg c25] at hF
              refine lv_aload_n hx hb dX5_tellMeaning_137 rfl (lv_at hl 2 rfl) ?_
              refine va_get (D := D) (ci := 5) (v := .ref (a 24)) (C := RX5) (T := TX5) (N := 10) hx hb hts inlX5 hown hK hP 16 gC_16 rfl 5 (by decide) (hts _ mw_74) (fun _ h9 => h9) rfl dX5_tellMeaning_138 ?_
              refine lv_iload_n hx hb dX5_tellMeaning_141 rfl (lv_at hl 3 rfl) ?_
              refine lv_iconst (v := (1 : Int32)) hx hb dX5_tellMeaning_142 (by decide) ?_
              refine lv_isub hx hb dX5_tellMeaning_143 ?_
              obtain ⟨v38, e39, hF⟩ := Option.bind_eq_some_iff.mp hF
              refine z_ild hx hb hK hP 24 gC_24 e39 dX5_tellMeaning_144 ?_
              refine lv_goto (tgt := 149) hx hb dX5_tellMeaning_145 (by decide) ?_
              refine lv_istore (lv' := [(5, .int v38), (4, .int v3), (3, .int v1), (0, .ref (a 16)), (1, .int x1), (2, .int x2)]) hx hb dX5_tellMeaning_149 hl (by decide) rfl (fun ls hl => ?_)
              refine lv_iload hx hb dX5_tellMeaning_151 (lv_at hl 0 rfl) ?_
              refine lv_if_lt (tgt := 215) hx hb dX5_tellMeaning_153 (by decide) (fun c40 => ?_) (fun c40 => ?_)
              · rw [if_pos c40] at hF
                cases hF
                exact z_vret hx hb hr hlocks hK hP hD hS dX5_tellMeaning_215
              · rw [if_neg c40] at hF
                refine lv_aload_n hx hb dX5_tellMeaning_156 rfl (lv_at hl 3 rfl) ?_
                refine va_get (D := D) (ci := 5) (v := .ref (a 13)) (C := RX5) (T := TX5) (N := 10) hx hb hts inlX5 hown hK hP 16 gC_16 rfl 2 (by decide) (hts _ mw_79) (fun _ h9 => h9) rfl dX5_tellMeaning_157 ?_
                refine lv_iload_n hx hb dX5_tellMeaning_160 rfl (lv_at hl 4 rfl) ?_
                refine lv_iconst (v := (1 : Int32)) hx hb dX5_tellMeaning_161 (by decide) ?_
                refine lv_iadd hx hb dX5_tellMeaning_162 ?_
                obtain ⟨v41, e42, hF⟩ := Option.bind_eq_some_iff.mp hF
                refine z_callVI (w' := (wC cyI cyZ a σ)) (As := [.int (x1 + (1 : Int32))]) (rest := []) ⟨hx, hb, hml, hown, hts⟩ (c_X3_isNumber l D cyI cyZ a A σ (x1 + (1 : Int32)) _ e42) (cwV 1 hts (gd_V mw_402 mw_403 mw_404 mw_22 mw_405) rfl rfl rfl (by decide +kernel) ⟨Nat.le_of_ble_eq_true rfl, Nat.le_of_ble_eq_true rfl⟩) hK hN hP hD hS 3 13 rfl rfl gC_13 rfl hl.1 rfl (Nat.le_of_ble_eq_true rfl) dX5_tellMeaning_163 ⟨Nat.zero_le _, Nat.zero_le _⟩ (fun H locs hP hD hS => ?_)
                refine lv_if_eq (tgt := 215) hx hb dX5_tellMeaning_166 (by decide) (fun c43 => ?_) (fun c43 => ?_)
                · rw [if_pos c43] at hF
                  cases hF
                  exact z_vret hx hb hr hlocks hK hP hD hS dX5_tellMeaning_215
                · rw [if_neg c43] at hF
                  refine lv_aload_n hx hb dX5_tellMeaning_169 rfl (lv_at hl 3 rfl) ?_
                  refine va_get (D := D) (ci := 5) (v := .ref (a 17)) (C := RX5) (T := TX5) (N := 10) hx hb hts inlX5 hown hK hP 16 gC_16 rfl 3 (by decide) (hts _ mw_72) (fun _ h9 => h9) rfl dX5_tellMeaning_170 ?_
                  refine lv_iload_n hx hb dX5_tellMeaning_173 rfl (lv_at hl 4 rfl) ?_
                  refine lv_iload_n hx hb dX5_tellMeaning_174 rfl (lv_at hl 5 rfl) ?_
                  refine lv_iload hx hb dX5_tellMeaning_175 (lv_at hl 0 rfl) ?_
                  refine z_callSI (w' := (wC cyI cyZ a σ)) (As := [.int x1, .int x2, .int v38]) (rest := [.ref (a 17)]) ⟨hx, hb, hml, hown, hts⟩ (c_X5_originOf l D cyI cyZ A (wC cyI cyZ a σ) x1 x2 v38 _ rfl) (va_cwS 3 hts (gd_S mw_491 mw_492 mw_26 mw_493) rfl rfl rfl (by decide +kernel) ⟨Nat.le_of_ble_eq_true rfl, Nat.le_of_ble_eq_true rfl⟩) hK hN hP hD hS rfl hl.1 rfl (Nat.le_of_ble_eq_true rfl) dX5_tellMeaning_177 ⟨Nat.zero_le _, Nat.zero_le _⟩ (fun H locs hP hD hS => ?_)
                  refine lv_aload_n hx hb dX5_tellMeaning_180 rfl (lv_at hl 3 rfl) ?_
                  refine va_get (D := D) (ci := 5) (v := .ref (a 6)) (C := RX5) (T := TX5) (N := 10) hx hb hts inlX5 hown hK hP 16 gC_16 rfl 1 (by decide) (hts _ mw_78) (fun _ h9 => h9) rfl dX5_tellMeaning_181 ?_
                  refine lv_iload hx hb dX5_tellMeaning_184 (lv_at hl 0 rfl) ?_
                  obtain ⟨v44, e45, hF⟩ := Option.bind_eq_some_iff.mp hF
                  refine z_callVI (w' := (wC cyI cyZ a σ)) (As := [.int v38]) (rest := [.int (F_X5_originOf x1 x2 v38), .ref (a 17)]) ⟨hx, hb, hml, hown, hts⟩ (c_X7_aAt l D cyI cyZ a A σ v38 _ e45) (cwV 1 hts (gd_V mw_467 mw_468 mw_469 mw_18 mw_470) rfl rfl rfl (by decide +kernel) ⟨Nat.le_of_ble_eq_true rfl, Nat.le_of_ble_eq_true rfl⟩) hK hN hP hD hS 7 6 rfl rfl gC_6 rfl hl.1 rfl (Nat.le_of_ble_eq_true rfl) dX5_tellMeaning_186 ⟨Nat.zero_le _, Nat.zero_le _⟩ (fun H locs hP hD hS => ?_)
                  refine lv_aload_n hx hb dX5_tellMeaning_189 rfl (lv_at hl 3 rfl) ?_
                  refine va_get (D := D) (ci := 5) (v := .ref (a 6)) (C := RX5) (T := TX5) (N := 10) hx hb hts inlX5 hown hK hP 16 gC_16 rfl 1 (by decide) (hts _ mw_78) (fun _ h9 => h9) rfl dX5_tellMeaning_190 ?_
                  refine lv_iload hx hb dX5_tellMeaning_193 (lv_at hl 0 rfl) ?_
                  obtain ⟨v46, e47, hF⟩ := Option.bind_eq_some_iff.mp hF
                  refine z_callVI (w' := (wC cyI cyZ a σ)) (As := [.int v38]) (rest := [.int v44, .int (F_X5_originOf x1 x2 v38), .ref (a 17)]) ⟨hx, hb, hml, hown, hts⟩ (c_X7_bAt l D cyI cyZ a A σ v38 _ e47) (cwV 1 hts (gd_V mw_471 mw_472 mw_473 mw_18 mw_474) rfl rfl rfl (by decide +kernel) ⟨Nat.le_of_ble_eq_true rfl, Nat.le_of_ble_eq_true rfl⟩) hK hN hP hD hS 7 6 rfl rfl gC_6 rfl hl.1 rfl (Nat.le_of_ble_eq_true rfl) dX5_tellMeaning_195 ⟨Nat.zero_le _, Nat.zero_le _⟩ (fun H locs hP hD hS => ?_)
                  refine lv_iload_n hx hb dX5_tellMeaning_198 rfl (lv_at hl 2 rfl) ?_
                  refine lv_aload_n hx hb dX5_tellMeaning_199 rfl (lv_at hl 3 rfl) ?_
                  refine va_get (D := D) (ci := 5) (v := .ref (a 13)) (C := RX5) (T := TX5) (N := 10) hx hb hts inlX5 hown hK hP 16 gC_16 rfl 2 (by decide) (hts _ mw_79) (fun _ h9 => h9) rfl dX5_tellMeaning_200 ?_
                  refine lv_iload_n hx hb dX5_tellMeaning_203 rfl (lv_at hl 4 rfl) ?_
                  refine lv_iconst (v := (1 : Int32)) hx hb dX5_tellMeaning_204 (by decide) ?_
                  refine lv_iadd hx hb dX5_tellMeaning_205 ?_
                  obtain ⟨v48, e49, hF⟩ := Option.bind_eq_some_iff.mp hF
                  refine z_callVI (w' := (wC cyI cyZ a σ)) (As := [.int (x1 + (1 : Int32))]) (rest := [.int v1, .int v46, .int v44, .int (F_X5_originOf x1 x2 v38), .ref (a 17)]) ⟨hx, hb, hml, hown, hts⟩ (c_X3_tokenAt l D cyI cyZ a A σ (x1 + (1 : Int32)) _ e49) (cwV 1 hts (gd_V mw_418 mw_419 mw_420 mw_22 mw_421) rfl rfl rfl (by decide +kernel) ⟨Nat.le_of_ble_eq_true rfl, Nat.le_of_ble_eq_true rfl⟩) hK hN hP hD hS 3 13 rfl rfl gC_13 rfl hl.1 rfl (Nat.le_of_ble_eq_true rfl) dX5_tellMeaning_206 ⟨Nat.zero_le _, Nat.zero_le _⟩ (fun H locs hP hD hS => ?_)
                  obtain ⟨σ50, e51, hF⟩ := Option.bind_eq_some_iff.mp hF
                  refine z_callVV (w' := (wC cyI cyZ a σ50)) (As := [.int (F_X5_originOf x1 x2 v38), .int v44, .int v46, .int v1, .int v48]) (rest := []) ⟨hx, hb, hml, hown, hts⟩ (c_X2_tellTest l D cyI cyZ a A σ (F_X5_originOf x1 x2 v38) v44 v46 v1 v48 σ50 e51) (cwV 5 hts (gd_V mw_498 mw_499 mw_500 mw_71 mw_501) rfl rfl rfl (by decide +kernel) ⟨Nat.le_of_ble_eq_true rfl, Nat.le_of_ble_eq_true rfl⟩) hK hN hP hD hS 2 17 rfl rfl gC_17 rfl hl.1 rfl (Nat.le_of_ble_eq_true rfl) dX5_tellMeaning_209 ⟨Nat.zero_le _, Nat.zero_le _⟩ (fun H locs hP hD hS => ?_)
                  refine lv_goto (tgt := 215) hx hb dX5_tellMeaning_212 (by decide) ?_
                  cases hF
                  exact z_vret hx hb hr hlocks hK hP hD hS dX5_tellMeaning_215
          · rw [if_neg c24] at hF
            refine lv_tableOut (tgt := 215) hx hb dX5_tellMeaning_27 (z_notin5 c7 c10 c16 c19 c24) (by decide) ?_
            cases hF
            exact z_vret hx hb hr hlocks hK hP hD hS dX5_tellMeaning_215
abbrev ts_X2_end : List Cond := .code yX2_end cX2_end 1 none :: wsL_law
set_option maxHeartbeats 4000000 in
set_option maxRecDepth 100000 in
theorem c_X2_end (l : Launch) (D : va_G) (cyI cyZ : ClassId) (a : Nat → Nat) (A : Nat → Prop) (σ : Mem) (σ' : Mem) (hF : F_X2_end σ  = some σ') : CtV l yX2_end ts_X2_end ({ frames := 0, cells := 0, slots := 0, locals := 0 } : Room) [.ref (a 17)] D cyI cyZ A (wC cyI cyZ a σ) (wC cyI cyZ a σ') := by
  refine CtV.of (cc := cX2_end) (maxL := 1) (ret := none) (by decide) rfl (Nat.le_of_ble_eq_true rfl) ?_
  intro p e s m below meth c ls hC hP hD hl
  obtain ⟨hx, hb, hr, hml, hown, hts, hK, hN, hlocks⟩ := hC
  have hown : s.vm.findClass RX2 = some m.cls := hown
  have hS : va_S A s.heap s.heap [] := va_S.rf
  have hl : lv_has ls 1 [(0, .ref (a 17))] := hl
  unfold F_X2_end at hF
  refine lv_aload_n hx hb dX2_end_0 rfl (lv_at hl 0 rfl) ?_
  refine va_get (D := D) (ci := 2) (v := .int (σ 17 2)) (C := RX2) (T := TX2) (N := 13) hx hb hts inlX2 hown hK hP 17 gC_17 rfl 2 (by decide) (hts _ mw_457) (fun _ h9 => h9) rfl dX2_end_1 ?_
  refine lv_if_ne (tgt := 15) hx hb dX2_end_4 (by decide) (fun c1 => ?_) (fun c1 => ?_)
  · rw [if_neg c1] at hF
    cases hF
    exact z_vret hx hb hr hlocks hK hP hD hS dX2_end_15
  · rw [if_pos c1] at hF
    refine lv_aload_n hx hb dX2_end_7 rfl (lv_at hl 0 rfl) ?_
    refine lv_aload_n hx hb dX2_end_8 rfl (lv_at hl 0 rfl) ?_
    refine va_get (D := D) (ci := 2) (v := .int (σ 17 6)) (C := RX2) (T := TX2) (N := 13) hx hb hts inlX2 hown hK hP 17 gC_17 rfl 6 (by decide) (hts _ mw_461) (fun _ h9 => h9) rfl dX2_end_9 ?_
    obtain ⟨σ2, e3, hF⟩ := Option.bind_eq_some_iff.mp hF
    refine va_put (D := D) (ci := 2) (v := .int (σ 17 6)) (ty := .int) (C := RX2) (T := TX2) (N := 13) hx hb hts inlX2 tyX2 tyX2_ok nmX2 hown hK hP hD hS 17 gC_17 rfl 3 (by decide) (hts _ mw_458) (fun _ h9 => h9) rfl (by decide +kernel) rfl rfl (Nat.le_of_ble_eq_true rfl) dX2_end_12 (fun H locs hP hD hS => ?_)
    rw [sC_17_3, Option.some.inj e3] at hP hD
    cases hF
    exact z_vret hx hb hr hlocks hK hP hD hS dX2_end_15
abbrev ts_X5_fillForm : List Cond := .code yX5_fillForm cX5_fillForm 3 none :: wsL_law
def SH_X5_fillForm (a : Nat → Nat) (ls : Array Slot) (pc : Nat) (vs : List Int32) : Prop := (pc = 0 ∧ ∃ x1 : Int32, vs = [x1] ∧ lv_has ls 3 [(0, .ref (a 16)), (1, .int x1)]) ∨ (pc = 2 ∧ ∃ x1 x2 : Int32, vs = [x1, x2] ∧ lv_has ls 3 [(0, .ref (a 16)), (1, .int x1), (2, .int x2)]) ∨ (pc = 69 ∧ ∃ x2 : Int32, vs = [x2] ∧ lv_has ls 3 [(0, .ref (a 16)), (2, .int x2)])
section
variable {p : Program} {l : Launch} {e : Env} {s : State} {m : MethodId} {args : Array Value} {below : List Frame} {meth : Method} {c : Code} {D : va_G} {A : Nat → Prop} {a : Nat → Nat} {cyI cyZ : ClassId} {σ' : Mem} {q : Mem × List Int32}
set_option maxHeartbeats 4000000 in
set_option maxRecDepth 100000 in
theorem wl_X5_fillForm_0 (σ : Mem) (hC : CX p c cX5_fillForm meth none s m args yX5_fillForm.cls 3 D cyI cyZ) (hq : extV q = some σ') (n : Nat) (ih : ∀ (pc : Nat) (x : Mem) (vs : List Int32) (ls : Array Slot) (H : Heap) (locs : List Loc), goL B_X5_fillForm n pc x vs = some q → SH_X5_fillForm a ls pc vs → va_P D vwCl (wC cyI cyZ a x) H → va_D A (wC cyI cyZ a x) → va_S A s.heap H locs → W p l e (headSpec ts_X5_fillForm ({ frames := 3, cells := 0, slots := 0, locals := 67 } : Room)).room s m args below meth c H locs 0 0 (MQ below (QcV D cyI cyZ A (wC cyI cyZ a σ')) args s 0 0 A) (F0 m pc ls [])) (x1 : Int32) (ls : Array Slot) (H : Heap) (locs : List Loc) (hgo : goL B_X5_fillForm (n + 1) 0 σ [x1] = some q) (hl : lv_has ls 3 [(0, .ref (a 16)), (1, .int x1)]) (hP : va_P D vwCl (wC cyI cyZ a σ) H) (hD : va_D A (wC cyI cyZ a σ)) (hS : va_S A s.heap H locs) : W p l e (headSpec ts_X5_fillForm ({ frames := 3, cells := 0, slots := 0, locals := 67 } : Room)).room s m args below meth c H locs 0 0 (MQ below (QcV D cyI cyZ A (wC cyI cyZ a σ')) args s 0 0 A) (F0 m 0 ls []) := by
  obtain ⟨hx, hb, hr, hml, hown, hts, hK, hN, hlocks⟩ := hC
  have hown : s.vm.findClass RX5 = some m.cls := hown
  obtain ⟨yy, hF, hgo⟩ := goL_step (by decide) hgo
  have hF : B_X5_fillForm_0 σ x1 = some yy := hF
  unfold B_X5_fillForm_0 at hF
  refine lv_iconst (v := (0 : Int32)) hx hb dX5_fillForm_0 (by decide) ?_
  refine lv_istore_n (lv' := [(2, .int (0 : Int32)), (0, .ref (a 16)), (1, .int x1)]) hx hb dX5_fillForm_1 rfl hl (by decide) rfl (fun ls hl => ?_)
  cases hF
  exact ih _ _ _ _ _ _ hgo (Or.inr (Or.inl ⟨rfl, _, _, rfl, lv_sub hl [1, 2, 0] rfl⟩)) hP hD hS
set_option maxHeartbeats 4000000 in
set_option maxRecDepth 100000 in
theorem wl_X5_fillForm_2 (σ : Mem) (hC : CX p c cX5_fillForm meth none s m args yX5_fillForm.cls 3 D cyI cyZ) (hq : extV q = some σ') (n : Nat) (ih : ∀ (pc : Nat) (x : Mem) (vs : List Int32) (ls : Array Slot) (H : Heap) (locs : List Loc), goL B_X5_fillForm n pc x vs = some q → SH_X5_fillForm a ls pc vs → va_P D vwCl (wC cyI cyZ a x) H → va_D A (wC cyI cyZ a x) → va_S A s.heap H locs → W p l e (headSpec ts_X5_fillForm ({ frames := 3, cells := 0, slots := 0, locals := 67 } : Room)).room s m args below meth c H locs 0 0 (MQ below (QcV D cyI cyZ A (wC cyI cyZ a σ')) args s 0 0 A) (F0 m pc ls [])) (x1 : Int32) (x2 : Int32) (ls : Array Slot) (H : Heap) (locs : List Loc) (hgo : goL B_X5_fillForm (n + 1) 2 σ [x1, x2] = some q) (hl : lv_has ls 3 [(0, .ref (a 16)), (1, .int x1), (2, .int x2)]) (hP : va_P D vwCl (wC cyI cyZ a σ) H) (hD : va_D A (wC cyI cyZ a σ)) (hS : va_S A s.heap H locs) : W p l e (headSpec ts_X5_fillForm ({ frames := 3, cells := 0, slots := 0, locals := 67 } : Room)).room s m args below meth c H locs 0 0 (MQ below (QcV D cyI cyZ A (wC cyI cyZ a σ')) args s 0 0 A) (F0 m 2 ls []) := by
  obtain ⟨hx, hb, hr, hml, hown, hts, hK, hN, hlocks⟩ := hC
  have hown : s.vm.findClass RX5 = some m.cls := hown
  obtain ⟨yy, hF, hgo⟩ := goL_step (by decide) hgo
  have hF : B_X5_fillForm_2 σ x1 x2 = some yy := hF
  unfold B_X5_fillForm_2 at hF
  refine lv_iload_n hx hb dX5_fillForm_2 rfl (lv_at hl 2 rfl) ?_
  refine lv_aload_n hx hb dX5_fillForm_3 rfl (lv_at hl 0 rfl) ?_
  refine va_get (D := D) (ci := 5) (v := .ref (a 13)) (C := RX5) (T := TX5) (N := 10) hx hb hts inlX5 hown hK hP 16 gC_16 rfl 2 (by decide) (hts _ mw_79) (fun _ h9 => h9) rfl dX5_fillForm_4 ?_
  refine z_callVI (w' := (wC cyI cyZ a σ)) (As := []) (rest := [.int x2]) ⟨hx, hb, hml, hown, hts⟩ (c_X3_size l D cyI cyZ a A σ  _ rfl) (cwV 0 hts (gd_V mw_401 mw_339 mw_340 mw_22 mw_341) rfl rfl rfl (by decide +kernel) ⟨Nat.le_of_ble_eq_true rfl, Nat.le_of_ble_eq_true rfl⟩) hK hN hP hD hS 3 13 rfl rfl gC_13 rfl hl.1 rfl (Nat.le_of_ble_eq_true rfl) dX5_fillForm_7 ⟨Nat.zero_le _, Nat.zero_le _⟩ (fun H locs hP hD hS => ?_)
  refine lv_icmp_ge (tgt := 60) hx hb dX5_fillForm_10 (by decide) (fun c1 => ?_) (fun c1 => ?_)
  · rw [if_pos c1] at hF
    refine lv_aload_n hx hb dX5_fillForm_60 rfl (lv_at hl 0 rfl) ?_
    refine va_get (D := D) (ci := 5) (v := .ref (a 17)) (C := RX5) (T := TX5) (N := 10) hx hb hts inlX5 hown hK hP 16 gC_16 rfl 3 (by decide) (hts _ mw_72) (fun _ h9 => h9) rfl dX5_fillForm_61 ?_
    obtain ⟨σ2, e3, hF⟩ := Option.bind_eq_some_iff.mp hF
    refine z_callVV (w' := (wC cyI cyZ a σ2)) (As := []) (rest := []) ⟨hx, hb, hml, hown, hts⟩ (c_X2_start l D cyI cyZ a A σ  σ2 e3) (cwV 0 hts (gd_V mw_451 mw_452 mw_453 mw_71 mw_454) rfl rfl rfl (by decide +kernel) ⟨Nat.le_of_ble_eq_true rfl, Nat.le_of_ble_eq_true rfl⟩) hK hN hP hD hS 2 17 rfl rfl gC_17 rfl hl.1 rfl (Nat.le_of_ble_eq_true rfl) dX5_fillForm_64 ⟨Nat.zero_le _, Nat.zero_le _⟩ (fun H locs hP hD hS => ?_)
    refine lv_iconst (v := (0 : Int32)) hx hb dX5_fillForm_67 (by decide) ?_
    refine lv_istore_n (lv' := [(2, .int (0 : Int32)), (0, .ref (a 16)), (1, .int x1)]) hx hb dX5_fillForm_68 rfl hl (by decide) rfl (fun ls hl => ?_)
    cases hF
    exact ih _ _ _ _ _ _ hgo (Or.inr (Or.inr (⟨rfl, _, rfl, lv_sub hl [1, 0] rfl⟩))) hP hD hS
  · rw [if_neg c1] at hF
    refine lv_aload_n hx hb dX5_fillForm_13 rfl (lv_at hl 0 rfl) ?_
    refine va_get (D := D) (ci := 5) (v := .ref (a 24)) (C := RX5) (T := TX5) (N := 10) hx hb hts inlX5 hown hK hP 16 gC_16 rfl 5 (by decide) (hts _ mw_74) (fun _ h9 => h9) rfl dX5_fillForm_14 ?_
    refine lv_iload_n hx hb dX5_fillForm_17 rfl (lv_at hl 2 rfl) ?_
    refine lv_aload_n hx hb dX5_fillForm_18 rfl (lv_at hl 0 rfl) ?_
    refine va_get (D := D) (ci := 5) (v := .ref (a 13)) (C := RX5) (T := TX5) (N := 10) hx hb hts inlX5 hown hK hP 16 gC_16 rfl 2 (by decide) (hts _ mw_79) (fun _ h9 => h9) rfl dX5_fillForm_19 ?_
    refine lv_iload_n hx hb dX5_fillForm_22 rfl (lv_at hl 2 rfl) ?_
    obtain ⟨v4, e5, hF⟩ := Option.bind_eq_some_iff.mp hF
    refine z_callVI (w' := (wC cyI cyZ a σ)) (As := [.int x2]) (rest := [.int x2, .ref (a 24)]) ⟨hx, hb, hml, hown, hts⟩ (c_X3_isNumber l D cyI cyZ a A σ x2 _ e5) (cwV 1 hts (gd_V mw_402 mw_403 mw_404 mw_22 mw_405) rfl rfl rfl (by decide +kernel) ⟨Nat.le_of_ble_eq_true rfl, Nat.le_of_ble_eq_true rfl⟩) hK hN hP hD hS 3 13 rfl rfl gC_13 rfl hl.1 rfl (Nat.le_of_ble_eq_true rfl) dX5_fillForm_23 ⟨Nat.zero_le _, Nat.zero_le _⟩ (fun H locs hP hD hS => ?_)
    refine lv_if_eq (tgt := 33) hx hb dX5_fillForm_26 (by decide) (fun c6 => ?_) (fun c6 => ?_)
    · rw [if_pos c6] at hF
      refine lv_aload_n hx hb dX5_fillForm_33 rfl (lv_at hl 0 rfl) ?_
      refine va_get (D := D) (ci := 5) (v := .ref (a 6)) (C := RX5) (T := TX5) (N := 10) hx hb hts inlX5 hown hK hP 16 gC_16 rfl 1 (by decide) (hts _ mw_78) (fun _ h9 => h9) rfl dX5_fillForm_34 ?_
      refine lv_aload_n hx hb dX5_fillForm_37 rfl (lv_at hl 0 rfl) ?_
      refine va_get (D := D) (ci := 5) (v := .ref (a 13)) (C := RX5) (T := TX5) (N := 10) hx hb hts inlX5 hown hK hP 16 gC_16 rfl 2 (by decide) (hts _ mw_79) (fun _ h9 => h9) rfl dX5_fillForm_38 ?_
      refine lv_iload_n hx hb dX5_fillForm_41 rfl (lv_at hl 2 rfl) ?_
      obtain ⟨v7, e8, hF⟩ := Option.bind_eq_some_iff.mp hF
      refine z_callVI (w' := (wC cyI cyZ a σ)) (As := [.int x2]) (rest := [.ref (a 6), .int x2, .ref (a 24)]) ⟨hx, hb, hml, hown, hts⟩ (c_X3_tokenAt l D cyI cyZ a A σ x2 _ e8) (cwV 1 hts (gd_V mw_418 mw_419 mw_420 mw_22 mw_421) rfl rfl rfl (by decide +kernel) ⟨Nat.le_of_ble_eq_true rfl, Nat.le_of_ble_eq_true rfl⟩) hK hN hP hD hS 3 13 rfl rfl gC_13 rfl hl.1 rfl (Nat.le_of_ble_eq_true rfl) dX5_fillForm_42 ⟨Nat.zero_le _, Nat.zero_le _⟩ (fun H locs hP hD hS => ?_)
      refine lv_iload_n hx hb dX5_fillForm_45 rfl (lv_at hl 1 rfl) ?_
      refine lv_iload_n hx hb dX5_fillForm_46 rfl (lv_at hl 2 rfl) ?_
      refine z_callSI (w' := (wC cyI cyZ a σ)) (As := [.int x1, .int x2]) (rest := [.int v7, .ref (a 6), .int x2, .ref (a 24)]) ⟨hx, hb, hml, hown, hts⟩ (c_X5_meaningIn l D cyI cyZ A (wC cyI cyZ a σ) x1 x2 _ rfl) (va_cwS 2 hts (gd_S mw_422 mw_423 mw_26 mw_424) rfl rfl rfl (by decide +kernel) ⟨Nat.le_of_ble_eq_true rfl, Nat.le_of_ble_eq_true rfl⟩) hK hN hP hD hS rfl hl.1 rfl (Nat.le_of_ble_eq_true rfl) dX5_fillForm_47 ⟨Nat.zero_le _, Nat.zero_le _⟩ (fun H locs hP hD hS => ?_)
      refine z_callVI (w' := (wC cyI cyZ a σ)) (As := [.int v7, .int (F_X5_meaningIn x1 x2)]) (rest := [.int x2, .ref (a 24)]) ⟨hx, hb, hml, hown, hts⟩ (c_X7_spotOf l D cyI cyZ a A σ v7 (F_X5_meaningIn x1 x2) _ rfl) (cwV 2 hts (gd_V mw_425 mw_295 mw_296 mw_18 mw_297) rfl rfl rfl (by decide +kernel) ⟨Nat.le_of_ble_eq_true rfl, Nat.le_of_ble_eq_true rfl⟩) hK hN hP hD hS 7 6 rfl rfl gC_6 rfl hl.1 rfl (Nat.le_of_ble_eq_true rfl) dX5_fillForm_50 ⟨Nat.zero_le _, Nat.zero_le _⟩ (fun H locs hP hD hS => ?_)
      obtain ⟨σ9, e10, hF⟩ := Option.bind_eq_some_iff.mp hF
      refine z_ist (wC cyI cyZ a) hx hb hK hP hD hS 24 gC_24 sC_24 e10 dX5_fillForm_53 (fun H locs hP hD hS => ?_)
      refine lv_iinc (v := (x2 + (1 : Int32))) (lv' := [(2, .int (x2 + (1 : Int32))), (0, .ref (a 16)), (1, .int x1)]) hx hb dX5_fillForm_54 hl (k := 2) rfl rfl (by decide) rfl (fun ls hl => ?_)
      refine lv_goto (tgt := 2) hx hb dX5_fillForm_57 (by decide) ?_
      cases hF
      exact ih _ _ _ _ _ _ hgo (Or.inr (Or.inl ⟨rfl, _, _, rfl, lv_sub hl [1, 2, 0] rfl⟩)) hP hD hS
    · rw [if_neg c6] at hF
      refine lv_iconst (v := (-1 : Int32)) hx hb dX5_fillForm_29 (by decide) ?_
      refine lv_goto (tgt := 53) hx hb dX5_fillForm_30 (by decide) ?_
      obtain ⟨σ11, e12, hF⟩ := Option.bind_eq_some_iff.mp hF
      refine z_ist (wC cyI cyZ a) hx hb hK hP hD hS 24 gC_24 sC_24 e12 dX5_fillForm_53 (fun H locs hP hD hS => ?_)
      refine lv_iinc (v := (x2 + (1 : Int32))) (lv' := [(2, .int (x2 + (1 : Int32))), (0, .ref (a 16)), (1, .int x1)]) hx hb dX5_fillForm_54 hl (k := 2) rfl rfl (by decide) rfl (fun ls hl => ?_)
      refine lv_goto (tgt := 2) hx hb dX5_fillForm_57 (by decide) ?_
      cases hF
      exact ih _ _ _ _ _ _ hgo (Or.inr (Or.inl ⟨rfl, _, _, rfl, lv_sub hl [1, 2, 0] rfl⟩)) hP hD hS
set_option maxHeartbeats 4000000 in
set_option maxRecDepth 100000 in
theorem wl_X5_fillForm_69 (σ : Mem) (hC : CX p c cX5_fillForm meth none s m args yX5_fillForm.cls 3 D cyI cyZ) (hq : extV q = some σ') (n : Nat) (ih : ∀ (pc : Nat) (x : Mem) (vs : List Int32) (ls : Array Slot) (H : Heap) (locs : List Loc), goL B_X5_fillForm n pc x vs = some q → SH_X5_fillForm a ls pc vs → va_P D vwCl (wC cyI cyZ a x) H → va_D A (wC cyI cyZ a x) → va_S A s.heap H locs → W p l e (headSpec ts_X5_fillForm ({ frames := 3, cells := 0, slots := 0, locals := 67 } : Room)).room s m args below meth c H locs 0 0 (MQ below (QcV D cyI cyZ A (wC cyI cyZ a σ')) args s 0 0 A) (F0 m pc ls [])) (x2 : Int32) (ls : Array Slot) (H : Heap) (locs : List Loc) (hgo : goL B_X5_fillForm (n + 1) 69 σ [x2] = some q) (hl : lv_has ls 3 [(0, .ref (a 16)), (2, .int x2)]) (hP : va_P D vwCl (wC cyI cyZ a σ) H) (hD : va_D A (wC cyI cyZ a σ)) (hS : va_S A s.heap H locs) : W p l e (headSpec ts_X5_fillForm ({ frames := 3, cells := 0, slots := 0, locals := 67 } : Room)).room s m args below meth c H locs 0 0 (MQ below (QcV D cyI cyZ A (wC cyI cyZ a σ')) args s 0 0 A) (F0 m 69 ls []) := by
  obtain ⟨hx, hb, hr, hml, hown, hts, hK, hN, hlocks⟩ := hC
  have hown : s.vm.findClass RX5 = some m.cls := hown
  obtain ⟨yy, hF, hgo⟩ := goL_step (by decide) hgo
  have hF : B_X5_fillForm_69 σ x2 = some yy := hF
  unfold B_X5_fillForm_69 at hF
  refine lv_iload_n hx hb dX5_fillForm_69 rfl (lv_at hl 1 rfl) ?_
  refine lv_aload_n hx hb dX5_fillForm_70 rfl (lv_at hl 0 rfl) ?_
  refine va_get (D := D) (ci := 5) (v := .ref (a 13)) (C := RX5) (T := TX5) (N := 10) hx hb hts inlX5 hown hK hP 16 gC_16 rfl 2 (by decide) (hts _ mw_79) (fun _ h9 => h9) rfl dX5_fillForm_71 ?_
  refine z_callVI (w' := (wC cyI cyZ a σ)) (As := []) (rest := [.int x2]) ⟨hx, hb, hml, hown, hts⟩ (c_X3_size l D cyI cyZ a A σ  _ rfl) (cwV 0 hts (gd_V mw_401 mw_339 mw_340 mw_22 mw_341) rfl rfl rfl (by decide +kernel) ⟨Nat.le_of_ble_eq_true rfl, Nat.le_of_ble_eq_true rfl⟩) hK hN hP hD hS 3 13 rfl rfl gC_13 rfl hl.1 rfl (Nat.le_of_ble_eq_true rfl) dX5_fillForm_74 ⟨Nat.zero_le _, Nat.zero_le _⟩ (fun H locs hP hD hS => ?_)
  refine lv_icmp_ge (tgt := 106) hx hb dX5_fillForm_77 (by decide) (fun c1 => ?_) (fun c1 => ?_)
  · rw [if_pos c1] at hF
    refine lv_aload_n hx hb dX5_fillForm_106 rfl (lv_at hl 0 rfl) ?_
    refine va_get (D := D) (ci := 5) (v := .ref (a 17)) (C := RX5) (T := TX5) (N := 10) hx hb hts inlX5 hown hK hP 16 gC_16 rfl 3 (by decide) (hts _ mw_72) (fun _ h9 => h9) rfl dX5_fillForm_107 ?_
    obtain ⟨σ2, e3, hF⟩ := Option.bind_eq_some_iff.mp hF
    refine z_callVV (w' := (wC cyI cyZ a σ2)) (As := []) (rest := []) ⟨hx, hb, hml, hown, hts⟩ (c_X2_end l D cyI cyZ a A σ  σ2 e3) (cwV 0 hts (gd_V mw_502 mw_503 mw_504 mw_71 mw_505) rfl rfl rfl (by decide +kernel) ⟨Nat.le_of_ble_eq_true rfl, Nat.le_of_ble_eq_true rfl⟩) hK hN hP hD hS 2 17 rfl rfl gC_17 rfl hl.1 rfl (Nat.le_of_ble_eq_true rfl) dX5_fillForm_110 ⟨Nat.zero_le _, Nat.zero_le _⟩ (fun H locs hP hD hS => ?_)
    cases hF
    obtain rfl := extV_ret hq (goL_ret hgo)
    exact z_vret hx hb hr hlocks hK hP hD hS dX5_fillForm_113
  · rw [if_neg c1] at hF
    refine lv_aload_n hx hb dX5_fillForm_80 rfl (lv_at hl 0 rfl) ?_
    refine va_get (D := D) (ci := 5) (v := .ref (a 24)) (C := RX5) (T := TX5) (N := 10) hx hb hts inlX5 hown hK hP 16 gC_16 rfl 5 (by decide) (hts _ mw_74) (fun _ h9 => h9) rfl dX5_fillForm_81 ?_
    refine lv_iload_n hx hb dX5_fillForm_84 rfl (lv_at hl 1 rfl) ?_
    obtain ⟨v4, e5, hF⟩ := Option.bind_eq_some_iff.mp hF
    refine z_ild hx hb hK hP 24 gC_24 e5 dX5_fillForm_85 ?_
    refine lv_if_lt (tgt := 100) hx hb dX5_fillForm_86 (by decide) (fun c6 => ?_) (fun c6 => ?_)
    · rw [if_pos c6] at hF
      refine lv_iinc (v := (x2 + (1 : Int32))) (lv' := [(2, .int (x2 + (1 : Int32))), (0, .ref (a 16))]) hx hb dX5_fillForm_100 hl (k := 1) rfl rfl (by decide) rfl (fun ls hl => ?_)
      refine lv_goto (tgt := 69) hx hb dX5_fillForm_103 (by decide) ?_
      cases hF
      exact ih _ _ _ _ _ _ hgo (Or.inr (Or.inr (⟨rfl, _, rfl, lv_sub hl [1, 0] rfl⟩))) hP hD hS
    · rw [if_neg c6] at hF
      refine lv_aload_n hx hb dX5_fillForm_89 rfl (lv_at hl 0 rfl) ?_
      refine lv_iload_n hx hb dX5_fillForm_90 rfl (lv_at hl 1 rfl) ?_
      refine lv_aload_n hx hb dX5_fillForm_91 rfl (lv_at hl 0 rfl) ?_
      refine va_get (D := D) (ci := 5) (v := .ref (a 24)) (C := RX5) (T := TX5) (N := 10) hx hb hts inlX5 hown hK hP 16 gC_16 rfl 5 (by decide) (hts _ mw_74) (fun _ h9 => h9) rfl dX5_fillForm_92 ?_
      refine lv_iload_n hx hb dX5_fillForm_95 rfl (lv_at hl 1 rfl) ?_
      obtain ⟨v7, e8, hF⟩ := Option.bind_eq_some_iff.mp hF
      refine z_ild hx hb hK hP 24 gC_24 e8 dX5_fillForm_96 ?_
      obtain ⟨σ9, e10, hF⟩ := Option.bind_eq_some_iff.mp hF
      refine z_callVV (w' := (wC cyI cyZ a σ9)) (As := [.int x2, .int v7]) (rest := []) ⟨hx, hb, hml, hown, hts⟩ (c_X5_tellMeaning l D cyI cyZ a A σ x2 v7 σ9 e10) (cwV 2 hts (gd_V mw_463 mw_464 mw_465 mw_26 mw_466) rfl rfl rfl (by decide +kernel) ⟨Nat.le_of_ble_eq_true rfl, Nat.le_of_ble_eq_true rfl⟩) hK hN hP hD hS 5 16 rfl rfl gC_16 rfl hl.1 rfl (Nat.le_of_ble_eq_true rfl) dX5_fillForm_97 ⟨Nat.zero_le _, Nat.zero_le _⟩ (fun H locs hP hD hS => ?_)
      refine lv_iinc (v := (x2 + (1 : Int32))) (lv' := [(2, .int (x2 + (1 : Int32))), (0, .ref (a 16))]) hx hb dX5_fillForm_100 hl (k := 1) rfl rfl (by decide) rfl (fun ls hl => ?_)
      refine lv_goto (tgt := 69) hx hb dX5_fillForm_103 (by decide) ?_
      cases hF
      exact ih _ _ _ _ _ _ hgo (Or.inr (Or.inr (⟨rfl, _, rfl, lv_sub hl [1, 0] rfl⟩))) hP hD hS
theorem wk_X5_fillForm (hC : CX p c cX5_fillForm meth none s m args yX5_fillForm.cls 3 D cyI cyZ) (hq : extV q = some σ') : ∀ (n : Nat), ∀ (pc : Nat) (x : Mem) (vs : List Int32) (ls : Array Slot) (H : Heap) (locs : List Loc), goL B_X5_fillForm n pc x vs = some q → SH_X5_fillForm a ls pc vs → va_P D vwCl (wC cyI cyZ a x) H → va_D A (wC cyI cyZ a x) → va_S A s.heap H locs → W p l e (headSpec ts_X5_fillForm ({ frames := 3, cells := 0, slots := 0, locals := 67 } : Room)).room s m args below meth c H locs 0 0 (MQ below (QcV D cyI cyZ A (wC cyI cyZ a σ')) args s 0 0 A) (F0 m pc ls []) := by
  intro n
  induction n with
  | zero => intro pc x vs ls H locs h; exact absurd h (by simp [goL])
  | succ n ih =>
    intro pc x vs ls H locs hgo hsh hP hD hS
    rcases hsh with ⟨rfl, x1, rfl, hl⟩ | ⟨rfl, x1, x2, rfl, hl⟩ | ⟨rfl, x2, rfl, hl⟩
    · exact wl_X5_fillForm_0 x hC hq n ih x1 ls H locs hgo hl hP hD hS
    · exact wl_X5_fillForm_2 x hC hq n ih x1 x2 ls H locs hgo hl hP hD hS
    · exact wl_X5_fillForm_69 x hC hq n ih x2 ls H locs hgo hl hP hD hS
end
theorem c_X5_fillForm (l : Launch) (D : va_G) (cyI cyZ : ClassId) (a : Nat → Nat) (A : Nat → Prop) (σ : Mem) (x1 : Int32) (σ' : Mem) (hF : F_X5_fillForm σ x1 = some σ') : CtV l yX5_fillForm ts_X5_fillForm ({ frames := 3, cells := 0, slots := 0, locals := 67 } : Room) [.ref (a 16), .int x1] D cyI cyZ A (wC cyI cyZ a σ) (wC cyI cyZ a σ') := by
  refine CtV.of (cc := cX5_fillForm) (maxL := 3) (ret := none) (by decide) rfl (Nat.le_of_ble_eq_true rfl) ?_
  intro p e s m below meth c ls hC hP hD hl
  obtain ⟨q, hq, hr1⟩ := Option.bind_eq_some_iff.mp hF
  obtain ⟨n, hn⟩ := finL_some hq
  exact wk_X5_fillForm hC hr1 n 0 _ _ ls _ _ hn (Or.inl ⟨rfl, _, rfl, hl⟩) hP hD va_S.rf
abbrev ts_X5_formOf : List Cond := .code yX5_formOf cX5_formOf 2 (some (.object "PlainAsk$Form")) :: wsL_law
set_option maxHeartbeats 4000000 in
set_option maxRecDepth 100000 in
theorem c_X5_formOf (l : Launch) (D : va_G) (cyI cyZ : ClassId) (a : Nat → Nat) (A : Nat → Prop) (σ : Mem) (x1 : Int32) (σ' : Mem) (hF : F_X5_formOf σ x1 = some σ') : CtR l yX5_formOf ts_X5_formOf ({ frames := 4, cells := 0, slots := 0, locals := 89 } : Room) [.ref (a 16), .int x1] D cyI cyZ A (wC cyI cyZ a σ) (wC cyI cyZ a σ') (a 17) := by
  refine CtR.of (cc := cX5_formOf) (maxL := 2) (ret := (some (.object "PlainAsk$Form"))) (by decide) rfl (Nat.le_of_ble_eq_true rfl) ?_
  intro p e s m below meth c ls hC hP hD hl
  obtain ⟨hx, hb, hr, hml, hown, hts, hK, hN, hlocks⟩ := hC
  have hown : s.vm.findClass RX5 = some m.cls := hown
  have hS : va_S A s.heap s.heap [] := va_S.rf
  have hl : lv_has ls 2 [(0, .ref (a 16)), (1, .int x1)] := hl
  unfold F_X5_formOf at hF
  refine lv_aload_n hx hb dX5_formOf_0 rfl (lv_at hl 0 rfl) ?_
  refine lv_aload_n hx hb dX5_formOf_1 rfl (lv_at hl 0 rfl) ?_
  refine va_get (D := D) (ci := 5) (v := .ref (a (kx σ))) (C := RX5) (T := TX5) (N := 10) hx hb hts inlX5 hown hK hP 16 gC_16 rfl 6 (by decide) (hts _ mw_75) (fun _ h9 => h9) rfl dX5_formOf_2 ?_
  refine lv_iload_n hx hb dX5_formOf_5 rfl (lv_at hl 1 rfl) ?_
  obtain ⟨v1, e2, hF⟩ := Option.bind_eq_some_iff.mp hF
  refine z_ild hx hb hK hP (kx σ) gC_K e2 dX5_formOf_6 ?_
  obtain ⟨σ3, e4, hF⟩ := Option.bind_eq_some_iff.mp hF
  refine z_callVV (w' := (wC cyI cyZ a σ3)) (As := [.int v1]) (rest := []) ⟨hx, hb, hml, hown, hts⟩ (c_X5_fillForm l D cyI cyZ a A σ v1 σ3 e4) (cwV 1 hts (gd_V mw_447 mw_448 mw_449 mw_26 mw_450) rfl rfl rfl (by decide +kernel) ⟨Nat.le_of_ble_eq_true rfl, Nat.le_of_ble_eq_true rfl⟩) hK hN hP hD hS 5 16 rfl rfl gC_16 rfl hl.1 rfl (Nat.le_of_ble_eq_true rfl) dX5_formOf_7 ⟨Nat.zero_le _, Nat.zero_le _⟩ (fun H locs hP hD hS => ?_)
  refine lv_aload_n hx hb dX5_formOf_10 rfl (lv_at hl 0 rfl) ?_
  refine va_get (D := D) (ci := 5) (v := .ref (a 17)) (C := RX5) (T := TX5) (N := 10) hx hb hts inlX5 hown hK hP 16 gC_16 rfl 3 (by decide) (hts _ mw_72) (fun _ h9 => h9) rfl dX5_formOf_11 ?_
  cases hF
  exact z_aret hx hb hr hlocks hK hP hD hS dX5_formOf_14
abbrev ts_X2_from : List Cond := .code yX2_from cX2_from 1 (some .int) :: wsL_law
set_option maxHeartbeats 4000000 in
set_option maxRecDepth 100000 in
theorem c_X2_from (l : Launch) (D : va_G) (cyI cyZ : ClassId) (a : Nat → Nat) (A : Nat → Prop) (σ : Mem) (r : Int32) (hF : F_X2_from σ  = r) : CtI l yX2_from ts_X2_from ({ frames := 0, cells := 0, slots := 0, locals := 0 } : Room) [.ref (a 17)] D cyI cyZ A (wC cyI cyZ a σ) (wC cyI cyZ a σ) r := by
  refine CtI.of (cc := cX2_from) (maxL := 1) (ret := (some .int)) (by decide) rfl (Nat.le_of_ble_eq_true rfl) ?_
  intro p e s m below meth c ls hC hP hD hl
  obtain ⟨hx, hb, hr, hml, hown, hts, hK, hN, hlocks⟩ := hC
  have hown : s.vm.findClass RX2 = some m.cls := hown
  have hS : va_S A s.heap s.heap [] := va_S.rf
  have hl : lv_has ls 1 [(0, .ref (a 17))] := hl
  unfold F_X2_from at hF
  refine lv_aload_n hx hb dX2_from_0 rfl (lv_at hl 0 rfl) ?_
  refine va_get (D := D) (ci := 2) (v := .int (σ 17 3)) (C := RX2) (T := TX2) (N := 13) hx hb hts inlX2 hown hK hP 17 gC_17 rfl 3 (by decide) (hts _ mw_458) (fun _ h9 => h9) rfl dX2_from_1 ?_
  subst hF
  exact z_iret hx hb hr hlocks hK hP hD hS dX2_from_4
abbrev ts_X6_rowsOf : List Cond := .code yX6_rowsOf cX6_rowsOf 2 (some .int) :: wsL_law
set_option maxHeartbeats 4000000 in
set_option maxRecDepth 100000 in
theorem c_X6_rowsOf (l : Launch) (D : va_G) (cyI cyZ : ClassId) (a : Nat → Nat) (A : Nat → Prop) (σ : Mem) (x1 : Int32) (r : Int32) (hF : F_X6_rowsOf σ x1 = some r) : CtI l yX6_rowsOf ts_X6_rowsOf ({ frames := 0, cells := 0, slots := 0, locals := 0 } : Room) [.ref (a 1), .int x1] D cyI cyZ A (wC cyI cyZ a σ) (wC cyI cyZ a σ) r := by
  refine CtI.of (cc := cX6_rowsOf) (maxL := 2) (ret := (some .int)) (by decide) rfl (Nat.le_of_ble_eq_true rfl) ?_
  intro p e s m below meth c ls hC hP hD hl
  obtain ⟨hx, hb, hr, hml, hown, hts, hK, hN, hlocks⟩ := hC
  have hown : s.vm.findClass RX6 = some m.cls := hown
  have hS : va_S A s.heap s.heap [] := va_S.rf
  have hl : lv_has ls 2 [(0, .ref (a 1)), (1, .int x1)] := hl
  unfold F_X6_rowsOf at hF
  refine lv_aload_n hx hb dX6_rowsOf_0 rfl (lv_at hl 0 rfl) ?_
  refine va_get (D := D) (ci := 6) (v := .ref (a 3)) (C := RX6) (T := TX6) (N := 5) hx hb hts inlX6 hown hK hP 1 gC_1 rfl 2 (by decide) (hts _ mw_42) (fun _ h9 => h9) rfl dX6_rowsOf_1 ?_
  refine lv_iload_n hx hb dX6_rowsOf_4 rfl (lv_at hl 1 rfl) ?_
  obtain ⟨v1, e2, hF⟩ := Option.bind_eq_some_iff.mp hF
  refine z_ild hx hb hK hP 3 gC_3 e2 dX6_rowsOf_5 ?_
  cases hF
  exact z_iret hx hb hr hlocks hK hP hD hS dX6_rowsOf_6
abbrev ts_X2_tests : List Cond := .code yX2_tests cX2_tests 1 (some .int) :: wsL_law
set_option maxHeartbeats 4000000 in
set_option maxRecDepth 100000 in
theorem c_X2_tests (l : Launch) (D : va_G) (cyI cyZ : ClassId) (a : Nat → Nat) (A : Nat → Prop) (σ : Mem) (r : Int32) (hF : F_X2_tests σ  = r) : CtI l yX2_tests ts_X2_tests ({ frames := 0, cells := 0, slots := 0, locals := 0 } : Room) [.ref (a 17)] D cyI cyZ A (wC cyI cyZ a σ) (wC cyI cyZ a σ) r := by
  refine CtI.of (cc := cX2_tests) (maxL := 1) (ret := (some .int)) (by decide) rfl (Nat.le_of_ble_eq_true rfl) ?_
  intro p e s m below meth c ls hC hP hD hl
  obtain ⟨hx, hb, hr, hml, hown, hts, hK, hN, hlocks⟩ := hC
  have hown : s.vm.findClass RX2 = some m.cls := hown
  have hS : va_S A s.heap s.heap [] := va_S.rf
  have hl : lv_has ls 1 [(0, .ref (a 17))] := hl
  unfold F_X2_tests at hF
  refine lv_aload_n hx hb dX2_tests_0 rfl (lv_at hl 0 rfl) ?_
  refine va_get (D := D) (ci := 2) (v := .int (σ 17 7)) (C := RX2) (T := TX2) (N := 13) hx hb hts inlX2 hown hK hP 17 gC_17 rfl 7 (by decide) (hts _ mw_462) (fun _ h9 => h9) rfl dX2_tests_1 ?_
  subst hF
  exact z_iret hx hb hr hlocks hK hP hD hS dX2_tests_4
abbrev ts_X2_originOf : List Cond := .code yX2_originOf cX2_originOf 2 (some .int) :: wsL_law
set_option maxHeartbeats 4000000 in
set_option maxRecDepth 100000 in
theorem c_X2_originOf (l : Launch) (D : va_G) (cyI cyZ : ClassId) (a : Nat → Nat) (A : Nat → Prop) (σ : Mem) (x1 : Int32) (r : Int32) (hF : F_X2_originOf σ x1 = some r) : CtI l yX2_originOf ts_X2_originOf ({ frames := 0, cells := 0, slots := 0, locals := 0 } : Room) [.ref (a 17), .int x1] D cyI cyZ A (wC cyI cyZ a σ) (wC cyI cyZ a σ) r := by
  refine CtI.of (cc := cX2_originOf) (maxL := 2) (ret := (some .int)) (by decide) rfl (Nat.le_of_ble_eq_true rfl) ?_
  intro p e s m below meth c ls hC hP hD hl
  obtain ⟨hx, hb, hr, hml, hown, hts, hK, hN, hlocks⟩ := hC
  have hown : s.vm.findClass RX2 = some m.cls := hown
  have hS : va_S A s.heap s.heap [] := va_S.rf
  have hl : lv_has ls 2 [(0, .ref (a 17)), (1, .int x1)] := hl
  unfold F_X2_originOf at hF
  refine lv_aload_n hx hb dX2_originOf_0 rfl (lv_at hl 0 rfl) ?_
  refine va_get (D := D) (ci := 2) (v := .ref (a 22)) (C := RX2) (T := TX2) (N := 13) hx hb hts inlX2 hown hK hP 17 gC_17 rfl 12 (by decide) (hts _ mw_87) (fun _ h9 => h9) rfl dX2_originOf_1 ?_
  refine lv_iload_n hx hb dX2_originOf_4 rfl (lv_at hl 1 rfl) ?_
  obtain ⟨v1, e2, hF⟩ := Option.bind_eq_some_iff.mp hF
  refine z_ild hx hb hK hP 22 gC_22 e2 dX2_originOf_5 ?_
  cases hF
  exact z_iret hx hb hr hlocks hK hP hD hS dX2_originOf_6
abbrev ts_X2_tableOf : List Cond := .code yX2_tableOf cX2_tableOf 2 (some .int) :: wsL_law
set_option maxHeartbeats 4000000 in
set_option maxRecDepth 100000 in
theorem c_X2_tableOf (l : Launch) (D : va_G) (cyI cyZ : ClassId) (a : Nat → Nat) (A : Nat → Prop) (σ : Mem) (x1 : Int32) (r : Int32) (hF : F_X2_tableOf σ x1 = some r) : CtI l yX2_tableOf ts_X2_tableOf ({ frames := 0, cells := 0, slots := 0, locals := 0 } : Room) [.ref (a 17), .int x1] D cyI cyZ A (wC cyI cyZ a σ) (wC cyI cyZ a σ) r := by
  refine CtI.of (cc := cX2_tableOf) (maxL := 2) (ret := (some .int)) (by decide) rfl (Nat.le_of_ble_eq_true rfl) ?_
  intro p e s m below meth c ls hC hP hD hl
  obtain ⟨hx, hb, hr, hml, hown, hts, hK, hN, hlocks⟩ := hC
  have hown : s.vm.findClass RX2 = some m.cls := hown
  have hS : va_S A s.heap s.heap [] := va_S.rf
  have hl : lv_has ls 2 [(0, .ref (a 17)), (1, .int x1)] := hl
  unfold F_X2_tableOf at hF
  refine lv_aload_n hx hb dX2_tableOf_0 rfl (lv_at hl 0 rfl) ?_
  refine va_get (D := D) (ci := 2) (v := .ref (a 18)) (C := RX2) (T := TX2) (N := 13) hx hb hts inlX2 hown hK hP 17 gC_17 rfl 8 (by decide) (hts _ mw_83) (fun _ h9 => h9) rfl dX2_tableOf_1 ?_
  refine lv_iload_n hx hb dX2_tableOf_4 rfl (lv_at hl 1 rfl) ?_
  obtain ⟨v1, e2, hF⟩ := Option.bind_eq_some_iff.mp hF
  refine z_ild hx hb hK hP 18 gC_18 e2 dX2_tableOf_5 ?_
  cases hF
  exact z_iret hx hb hr hlocks hK hP hD hS dX2_tableOf_6
abbrev ts_X2_columnOf : List Cond := .code yX2_columnOf cX2_columnOf 2 (some .int) :: wsL_law
set_option maxHeartbeats 4000000 in
set_option maxRecDepth 100000 in
theorem c_X2_columnOf (l : Launch) (D : va_G) (cyI cyZ : ClassId) (a : Nat → Nat) (A : Nat → Prop) (σ : Mem) (x1 : Int32) (r : Int32) (hF : F_X2_columnOf σ x1 = some r) : CtI l yX2_columnOf ts_X2_columnOf ({ frames := 0, cells := 0, slots := 0, locals := 0 } : Room) [.ref (a 17), .int x1] D cyI cyZ A (wC cyI cyZ a σ) (wC cyI cyZ a σ) r := by
  refine CtI.of (cc := cX2_columnOf) (maxL := 2) (ret := (some .int)) (by decide) rfl (Nat.le_of_ble_eq_true rfl) ?_
  intro p e s m below meth c ls hC hP hD hl
  obtain ⟨hx, hb, hr, hml, hown, hts, hK, hN, hlocks⟩ := hC
  have hown : s.vm.findClass RX2 = some m.cls := hown
  have hS : va_S A s.heap s.heap [] := va_S.rf
  have hl : lv_has ls 2 [(0, .ref (a 17)), (1, .int x1)] := hl
  unfold F_X2_columnOf at hF
  refine lv_aload_n hx hb dX2_columnOf_0 rfl (lv_at hl 0 rfl) ?_
  refine va_get (D := D) (ci := 2) (v := .ref (a 19)) (C := RX2) (T := TX2) (N := 13) hx hb hts inlX2 hown hK hP 17 gC_17 rfl 9 (by decide) (hts _ mw_84) (fun _ h9 => h9) rfl dX2_columnOf_1 ?_
  refine lv_iload_n hx hb dX2_columnOf_4 rfl (lv_at hl 1 rfl) ?_
  obtain ⟨v1, e2, hF⟩ := Option.bind_eq_some_iff.mp hF
  refine z_ild hx hb hK hP 19 gC_19 e2 dX2_columnOf_5 ?_
  cases hF
  exact z_iret hx hb hr hlocks hK hP hD hS dX2_columnOf_6
abbrev ts_X6_linkingColumn : List Cond := .code yX6_linkingColumn cX6_linkingColumn 4 (some .int) :: wsL_law
def SH_X6_linkingColumn (a : Nat → Nat) (ls : Array Slot) (pc : Nat) (vs : List Int32) : Prop := (pc = 0 ∧ ∃ x1 x2 : Int32, vs = [x1, x2] ∧ lv_has ls 4 [(0, .ref (a 1)), (1, .int x1), (2, .int x2)]) ∨ (pc = 2 ∧ ∃ x1 x2 x3 : Int32, vs = [x1, x2, x3] ∧ lv_has ls 4 [(0, .ref (a 1)), (1, .int x1), (2, .int x2), (3, .int x3)])
section
variable {p : Program} {l : Launch} {e : Env} {s : State} {m : MethodId} {args : Array Value} {below : List Frame} {meth : Method} {c : Code} {D : va_G} {A : Nat → Prop} {a : Nat → Nat} {cyI cyZ : ClassId} {r : Int32} {q : Unit × List Int32}
set_option maxHeartbeats 4000000 in
set_option maxRecDepth 100000 in
theorem wl_X6_linkingColumn_0 (σ : Mem) (hC : CX p c cX6_linkingColumn meth (some .int) s m args yX6_linkingColumn.cls 4 D cyI cyZ) (hq : extR q = some r) (n : Nat) (ih : ∀ (pc : Nat) (x : Unit) (vs : List Int32) (ls : Array Slot) (H : Heap) (locs : List Loc), goL (B_X6_linkingColumn σ) n pc x vs = some q → SH_X6_linkingColumn a ls pc vs → va_P D vwCl (wC cyI cyZ a σ) H → va_D A (wC cyI cyZ a σ) → va_S A s.heap H locs → W p l e (headSpec ts_X6_linkingColumn ({ frames := 0, cells := 0, slots := 0, locals := 0 } : Room)).room s m args below meth c H locs 0 0 (MQ below (QcI D cyI cyZ A (wC cyI cyZ a σ) r) args s 0 0 A) (F0 m pc ls [])) (x1 : Int32) (x2 : Int32) (ls : Array Slot) (H : Heap) (locs : List Loc) (hgo : goL (B_X6_linkingColumn σ) (n + 1) 0 () [x1, x2] = some q) (hl : lv_has ls 4 [(0, .ref (a 1)), (1, .int x1), (2, .int x2)]) (hP : va_P D vwCl (wC cyI cyZ a σ) H) (hD : va_D A (wC cyI cyZ a σ)) (hS : va_S A s.heap H locs) : W p l e (headSpec ts_X6_linkingColumn ({ frames := 0, cells := 0, slots := 0, locals := 0 } : Room)).room s m args below meth c H locs 0 0 (MQ below (QcI D cyI cyZ A (wC cyI cyZ a σ) r) args s 0 0 A) (F0 m 0 ls []) := by
  obtain ⟨hx, hb, hr, hml, hown, hts, hK, hN, hlocks⟩ := hC
  have hown : s.vm.findClass RX6 = some m.cls := hown
  obtain ⟨yy, hF, hgo⟩ := goL_step (by decide) hgo
  have hF : B_X6_linkingColumn_0 σ x1 x2 = some yy := hF
  unfold B_X6_linkingColumn_0 at hF
  refine lv_iconst (v := (0 : Int32)) hx hb dX6_linkingColumn_0 (by decide) ?_
  refine lv_istore_n (lv' := [(3, .int (0 : Int32)), (0, .ref (a 1)), (1, .int x1), (2, .int x2)]) hx hb dX6_linkingColumn_1 rfl hl (by decide) rfl (fun ls hl => ?_)
  cases hF
  exact ih _ _ _ _ _ _ hgo (Or.inr (⟨rfl, _, _, _, rfl, lv_sub hl [1, 2, 3, 0] rfl⟩)) hP hD hS
set_option maxHeartbeats 4000000 in
set_option maxRecDepth 100000 in
theorem wl_X6_linkingColumn_2 (σ : Mem) (hC : CX p c cX6_linkingColumn meth (some .int) s m args yX6_linkingColumn.cls 4 D cyI cyZ) (hq : extR q = some r) (n : Nat) (ih : ∀ (pc : Nat) (x : Unit) (vs : List Int32) (ls : Array Slot) (H : Heap) (locs : List Loc), goL (B_X6_linkingColumn σ) n pc x vs = some q → SH_X6_linkingColumn a ls pc vs → va_P D vwCl (wC cyI cyZ a σ) H → va_D A (wC cyI cyZ a σ) → va_S A s.heap H locs → W p l e (headSpec ts_X6_linkingColumn ({ frames := 0, cells := 0, slots := 0, locals := 0 } : Room)).room s m args below meth c H locs 0 0 (MQ below (QcI D cyI cyZ A (wC cyI cyZ a σ) r) args s 0 0 A) (F0 m pc ls [])) (x1 : Int32) (x2 : Int32) (x3 : Int32) (ls : Array Slot) (H : Heap) (locs : List Loc) (hgo : goL (B_X6_linkingColumn σ) (n + 1) 2 () [x1, x2, x3] = some q) (hl : lv_has ls 4 [(0, .ref (a 1)), (1, .int x1), (2, .int x2), (3, .int x3)]) (hP : va_P D vwCl (wC cyI cyZ a σ) H) (hD : va_D A (wC cyI cyZ a σ)) (hS : va_S A s.heap H locs) : W p l e (headSpec ts_X6_linkingColumn ({ frames := 0, cells := 0, slots := 0, locals := 0 } : Room)).room s m args below meth c H locs 0 0 (MQ below (QcI D cyI cyZ A (wC cyI cyZ a σ) r) args s 0 0 A) (F0 m 2 ls []) := by
  obtain ⟨hx, hb, hr, hml, hown, hts, hK, hN, hlocks⟩ := hC
  have hown : s.vm.findClass RX6 = some m.cls := hown
  obtain ⟨yy, hF, hgo⟩ := goL_step (by decide) hgo
  have hF : B_X6_linkingColumn_2 σ x1 x2 x3 = some yy := hF
  unfold B_X6_linkingColumn_2 at hF
  refine lv_iload_n hx hb dX6_linkingColumn_2 rfl (lv_at hl 3 rfl) ?_
  refine lv_aload_n hx hb dX6_linkingColumn_3 rfl (lv_at hl 0 rfl) ?_
  refine va_get (D := D) (ci := 6) (v := .ref (a 2)) (C := RX6) (T := TX6) (N := 5) hx hb hts inlX6 hown hK hP 1 gC_1 rfl 1 (by decide) (hts _ mw_41) (fun _ h9 => h9) rfl dX6_linkingColumn_4 ?_
  refine lv_iload_n hx hb dX6_linkingColumn_7 rfl (lv_at hl 1 rfl) ?_
  obtain ⟨v1, e2, hF⟩ := Option.bind_eq_some_iff.mp hF
  refine z_ild hx hb hK hP 2 gC_2 e2 dX6_linkingColumn_8 ?_
  refine lv_icmp_ge (tgt := 34) hx hb dX6_linkingColumn_9 (by decide) (fun c3 => ?_) (fun c3 => ?_)
  · rw [if_pos c3] at hF
    refine lv_iconst (v := (-1 : Int32)) hx hb dX6_linkingColumn_34 (by decide) ?_
    cases hF
    obtain rfl := extR_ret hq (goL_ret hgo)
    exact z_iret hx hb hr hlocks hK hP hD hS dX6_linkingColumn_35
  · rw [if_neg c3] at hF
    refine lv_aload_n hx hb dX6_linkingColumn_12 rfl (lv_at hl 0 rfl) ?_
    refine va_get (D := D) (ci := 6) (v := .ref (a 4)) (C := RX6) (T := TX6) (N := 5) hx hb hts inlX6 hown hK hP 1 gC_1 rfl 3 (by decide) (hts _ mw_43) (fun _ h9 => h9) rfl dX6_linkingColumn_13 ?_
    refine lv_iload_n hx hb dX6_linkingColumn_16 rfl (lv_at hl 1 rfl) ?_
    refine lv_iconst (v := (4 : Int32)) hx hb dX6_linkingColumn_17 (by decide) ?_
    refine lv_imul hx hb dX6_linkingColumn_18 ?_
    refine lv_iload_n hx hb dX6_linkingColumn_19 rfl (lv_at hl 3 rfl) ?_
    refine lv_iadd hx hb dX6_linkingColumn_20 ?_
    obtain ⟨v4, e5, hF⟩ := Option.bind_eq_some_iff.mp hF
    refine z_ild hx hb hK hP 4 gC_4 e5 dX6_linkingColumn_21 ?_
    refine lv_iload_n hx hb dX6_linkingColumn_22 rfl (lv_at hl 2 rfl) ?_
    refine lv_icmp_ne (tgt := 28) hx hb dX6_linkingColumn_23 (by decide) (fun c6 => ?_) (fun c6 => ?_)
    · rw [if_neg c6] at hF
      refine lv_iinc (v := (x3 + (1 : Int32))) (lv' := [(3, .int (x3 + (1 : Int32))), (0, .ref (a 1)), (1, .int x1), (2, .int x2)]) hx hb dX6_linkingColumn_28 hl (k := 3) rfl rfl (by decide) rfl (fun ls hl => ?_)
      refine lv_goto (tgt := 2) hx hb dX6_linkingColumn_31 (by decide) ?_
      cases hF
      exact ih _ _ _ _ _ _ hgo (Or.inr (⟨rfl, _, _, _, rfl, lv_sub hl [1, 2, 3, 0] rfl⟩)) hP hD hS
    · rw [if_pos c6] at hF
      refine lv_iload_n hx hb dX6_linkingColumn_26 rfl (lv_at hl 3 rfl) ?_
      cases hF
      obtain rfl := extR_ret hq (goL_ret hgo)
      exact z_iret hx hb hr hlocks hK hP hD hS dX6_linkingColumn_27
theorem wk_X6_linkingColumn (σ : Mem) (hC : CX p c cX6_linkingColumn meth (some .int) s m args yX6_linkingColumn.cls 4 D cyI cyZ) (hq : extR q = some r) : ∀ (n : Nat), ∀ (pc : Nat) (x : Unit) (vs : List Int32) (ls : Array Slot) (H : Heap) (locs : List Loc), goL (B_X6_linkingColumn σ) n pc x vs = some q → SH_X6_linkingColumn a ls pc vs → va_P D vwCl (wC cyI cyZ a σ) H → va_D A (wC cyI cyZ a σ) → va_S A s.heap H locs → W p l e (headSpec ts_X6_linkingColumn ({ frames := 0, cells := 0, slots := 0, locals := 0 } : Room)).room s m args below meth c H locs 0 0 (MQ below (QcI D cyI cyZ A (wC cyI cyZ a σ) r) args s 0 0 A) (F0 m pc ls []) := by
  intro n
  induction n with
  | zero => intro pc x vs ls H locs h; exact absurd h (by simp [goL])
  | succ n ih =>
    intro pc x vs ls H locs hgo hsh hP hD hS
    rcases hsh with ⟨rfl, x1, x2, rfl, hl⟩ | ⟨rfl, x1, x2, x3, rfl, hl⟩
    · exact wl_X6_linkingColumn_0 σ hC hq n ih x1 x2 ls H locs hgo hl hP hD hS
    · exact wl_X6_linkingColumn_2 σ hC hq n ih x1 x2 x3 ls H locs hgo hl hP hD hS
end
theorem c_X6_linkingColumn (l : Launch) (D : va_G) (cyI cyZ : ClassId) (a : Nat → Nat) (A : Nat → Prop) (σ : Mem) (x1 : Int32) (x2 : Int32) (r : Int32) (hF : F_X6_linkingColumn σ x1 x2 = some r) : CtI l yX6_linkingColumn ts_X6_linkingColumn ({ frames := 0, cells := 0, slots := 0, locals := 0 } : Room) [.ref (a 1), .int x1, .int x2] D cyI cyZ A (wC cyI cyZ a σ) (wC cyI cyZ a σ) r := by
  refine CtI.of (cc := cX6_linkingColumn) (maxL := 4) (ret := (some .int)) (by decide) rfl (Nat.le_of_ble_eq_true rfl) ?_
  intro p e s m below meth c ls hC hP hD hl
  obtain ⟨q, hq, hr1⟩ := Option.bind_eq_some_iff.mp hF
  obtain ⟨n, hn⟩ := finL_some hq
  exact wk_X6_linkingColumn σ hC hr1 n 0 _ _ ls _ _ hn (Or.inl ⟨rfl, _, _, rfl, hl⟩) hP hD va_S.rf
abbrev ts_X6_cell : List Cond := .code yX6_cell cX6_cell 4 (some .int) :: wsL_law
set_option maxHeartbeats 4000000 in
set_option maxRecDepth 100000 in
theorem c_X6_cell (l : Launch) (D : va_G) (cyI cyZ : ClassId) (a : Nat → Nat) (A : Nat → Prop) (σ : Mem) (x1 : Int32) (x2 : Int32) (x3 : Int32) (r : Int32) (hF : F_X6_cell σ x1 x2 x3 = some r) : CtI l yX6_cell ts_X6_cell ({ frames := 0, cells := 0, slots := 0, locals := 0 } : Room) [.ref (a 1), .int x1, .int x2, .int x3] D cyI cyZ A (wC cyI cyZ a σ) (wC cyI cyZ a σ) r := by
  refine CtI.of (cc := cX6_cell) (maxL := 4) (ret := (some .int)) (by decide) rfl (Nat.le_of_ble_eq_true rfl) ?_
  intro p e s m below meth c ls hC hP hD hl
  obtain ⟨hx, hb, hr, hml, hown, hts, hK, hN, hlocks⟩ := hC
  have hown : s.vm.findClass RX6 = some m.cls := hown
  have hS : va_S A s.heap s.heap [] := va_S.rf
  have hl : lv_has ls 4 [(0, .ref (a 1)), (1, .int x1), (2, .int x2), (3, .int x3)] := hl
  unfold F_X6_cell at hF
  refine lv_aload_n hx hb dX6_cell_0 rfl (lv_at hl 0 rfl) ?_
  refine va_get (D := D) (ci := 6) (v := .ref (a 5)) (C := RX6) (T := TX6) (N := 5) hx hb hts inlX6 hown hK hP 1 gC_1 rfl 4 (by decide) (hts _ mw_44) (fun _ h9 => h9) rfl dX6_cell_1 ?_
  refine lv_iload_n hx hb dX6_cell_4 rfl (lv_at hl 1 rfl) ?_
  refine lv_bipush (v := (20 : Int32)) hx hb dX6_cell_5 (by decide) ?_
  refine lv_imul hx hb dX6_cell_7 ?_
  refine lv_iload_n hx hb dX6_cell_8 rfl (lv_at hl 2 rfl) ?_
  refine lv_iadd hx hb dX6_cell_9 ?_
  refine lv_iconst (v := (4 : Int32)) hx hb dX6_cell_10 (by decide) ?_
  refine lv_imul hx hb dX6_cell_11 ?_
  refine lv_iload_n hx hb dX6_cell_12 rfl (lv_at hl 3 rfl) ?_
  refine lv_iadd hx hb dX6_cell_13 ?_
  obtain ⟨v1, e2, hF⟩ := Option.bind_eq_some_iff.mp hF
  refine z_ild hx hb hK hP 5 gC_5 e2 dX6_cell_14 ?_
  cases hF
  exact z_iret hx hb hr hlocks hK hP hD hS dX6_cell_15
