-- X9_reading X9_test X9_answer X9_found
abbrev ts_X9_reading : List Cond := .code yX9_reading cX9_reading 3 (some .int) :: wsL_law
set_option maxHeartbeats 4000000 in
set_option maxRecDepth 100000 in
theorem c_X9_reading (l : Launch) (D : va_G) (cyI cyZ : ClassId) (a : Nat → Nat) (A : Nat → Prop) (σ : Mem) (x1 : Int32) (x2 : Int32) (r : Int32) (σ' : Mem) (hF : F_X9_reading σ x1 x2 = some (r, σ')) : CtI l yX9_reading ts_X9_reading ({ frames := 5, cells := 0, slots := 0, locals := 113 } : Room) [.ref (a 0), .int x1, .int x2] D cyI cyZ A (wM cyI cyZ a σ) (wM cyI cyZ a σ') r := by
  refine CtI.of (cc := cX9_reading) (maxL := 3) (ret := (some .int)) (by decide) rfl (Nat.le_of_ble_eq_true rfl) ?_
  intro p e s m below meth c ls hC hP hD hl
  obtain ⟨hx, hb, hr, hml, hown, hts, hK, hN, hlocks⟩ := hC
  have hown : s.vm.findClass RX9 = some m.cls := hown
  have hS : va_S A s.heap s.heap [] := va_S.rf
  have hl : lv_has ls 3 [(0, .ref (a 0)), (1, .int x1), (2, .int x2)] := hl
  unfold F_X9_reading at hF
  refine lv_aload_n hx hb dX9_reading_0 rfl (lv_at hl 0 rfl) ?_
  refine lv_iload_n hx hb dX9_reading_1 rfl (lv_at hl 1 rfl) ?_
  obtain ⟨p1, e2, hF⟩ := Option.bind_eq_some_iff.mp hF
  refine z_callVI (w' := (wM cyI cyZ a p1.2)) (As := [.int x1]) (rest := []) ⟨hx, hb, hml, hown, hts⟩ (c_X9_have l D cyI cyZ a A σ x1 p1.1 p1.2 e2) (cwV 1 hts (gd_V mw_655 mw_656 mw_657 mw_5 mw_658) rfl rfl rfl (by decide +kernel) ⟨Nat.le_of_ble_eq_true rfl, Nat.le_of_ble_eq_true rfl⟩) hK hN hP hD hS 9 0 rfl rfl gM_0 rfl hl.1 rfl (Nat.le_of_ble_eq_true rfl) dX9_reading_2 ⟨Nat.zero_le _, Nat.zero_le _⟩ (fun H locs hP hD hS => ?_)
  refine lv_if_ne (tgt := 11) hx hb dX9_reading_5 (by decide) (fun c3 => ?_) (fun c3 => ?_)
  · rw [if_neg c3] at hF
    refine lv_iload_n hx hb dX9_reading_11 rfl (lv_at hl 2 rfl) ?_
    by_cases c4 : x2 = (0 : Int32)
    · rw [if_pos c4] at hF
      refine lv_tableIn (off := 40) (tgt := 52) hx hb dX9_reading_12 (by rw [c4]; decide) (by rw [c4]; decide) (by rw [c4]; rfl) (by decide) ?_
      refine lv_aload_n hx hb dX9_reading_52 rfl (lv_at hl 0 rfl) ?_
      refine va_get (D := D) (ci := 9) (v := .int (p1.2 0 27)) (C := RX9) (T := TX9) (N := 34) hx hb hts inlX9 hown hK hP 0 gM_0 rfl 27 (by decide) (hts _ mw_533) (fun _ h9 => h9) rfl dX9_reading_53 ?_
      cases hF
      exact z_iret hx hb hr hlocks hK hP hD hS dX9_reading_56
    · rw [if_neg c4] at hF
      by_cases c5 : x2 = (1 : Int32)
      · rw [if_pos c5] at hF
        refine lv_tableIn (off := 45) (tgt := 57) hx hb dX9_reading_12 (by rw [c5]; decide) (by rw [c5]; decide) (by rw [c5]; rfl) (by decide) ?_
        refine lv_aload_n hx hb dX9_reading_57 rfl (lv_at hl 0 rfl) ?_
        refine va_get (D := D) (ci := 9) (v := .int (p1.2 0 24)) (C := RX9) (T := TX9) (N := 34) hx hb hts inlX9 hown hK hP 0 gM_0 rfl 24 (by decide) (hts _ mw_542) (fun _ h9 => h9) rfl dX9_reading_58 ?_
        cases hF
        exact z_iret hx hb hr hlocks hK hP hD hS dX9_reading_61
      · rw [if_neg c5] at hF
        by_cases c6 : x2 = (2 : Int32)
        · rw [if_pos c6] at hF
          refine lv_tableIn (off := 50) (tgt := 62) hx hb dX9_reading_12 (by rw [c6]; decide) (by rw [c6]; decide) (by rw [c6]; rfl) (by decide) ?_
          refine lv_aload_n hx hb dX9_reading_62 rfl (lv_at hl 0 rfl) ?_
          refine va_get (D := D) (ci := 9) (v := .int (p1.2 0 25)) (C := RX9) (T := TX9) (N := 34) hx hb hts inlX9 hown hK hP 0 gM_0 rfl 25 (by decide) (hts _ mw_543) (fun _ h9 => h9) rfl dX9_reading_63 ?_
          cases hF
          exact z_iret hx hb hr hlocks hK hP hD hS dX9_reading_66
        · rw [if_neg c6] at hF
          by_cases c7 : x2 = (3 : Int32)
          · rw [if_pos c7] at hF
            refine lv_tableIn (off := 55) (tgt := 67) hx hb dX9_reading_12 (by rw [c7]; decide) (by rw [c7]; decide) (by rw [c7]; rfl) (by decide) ?_
            refine lv_aload_n hx hb dX9_reading_67 rfl (lv_at hl 0 rfl) ?_
            refine va_get (D := D) (ci := 9) (v := .int (p1.2 0 26)) (C := RX9) (T := TX9) (N := 34) hx hb hts inlX9 hown hK hP 0 gM_0 rfl 26 (by decide) (hts _ mw_544) (fun _ h9 => h9) rfl dX9_reading_68 ?_
            cases hF
            exact z_iret hx hb hr hlocks hK hP hD hS dX9_reading_71
          · rw [if_neg c7] at hF
            by_cases c8 : x2 = (4 : Int32)
            · rw [if_pos c8] at hF
              refine lv_tableIn (off := 60) (tgt := 72) hx hb dX9_reading_12 (by rw [c8]; decide) (by rw [c8]; decide) (by rw [c8]; rfl) (by decide) ?_
              refine lv_aload_n hx hb dX9_reading_72 rfl (lv_at hl 0 rfl) ?_
              refine va_get (D := D) (ci := 9) (v := .int (p1.2 0 32)) (C := RX9) (T := TX9) (N := 34) hx hb hts inlX9 hown hK hP 0 gM_0 rfl 32 (by decide) (hts _ mw_545) (fun _ h9 => h9) rfl dX9_reading_73 ?_
              cases hF
              exact z_iret hx hb hr hlocks hK hP hD hS dX9_reading_76
            · rw [if_neg c8] at hF
              by_cases c9 : x2 = (5 : Int32)
              · rw [if_pos c9] at hF
                refine lv_tableIn (off := 65) (tgt := 77) hx hb dX9_reading_12 (by rw [c9]; decide) (by rw [c9]; decide) (by rw [c9]; rfl) (by decide) ?_
                refine lv_aload_n hx hb dX9_reading_77 rfl (lv_at hl 0 rfl) ?_
                refine lv_iconst (v := (0 : Int32)) hx hb dX9_reading_78 (by decide) ?_
                obtain ⟨v10, e11, hF⟩ := Option.bind_eq_some_iff.mp hF
                refine z_callVI (w' := (wM cyI cyZ a p1.2)) (As := [.int (0 : Int32)]) (rest := []) ⟨hx, hb, hml, hown, hts⟩ (c_X9_foundMany l D cyI cyZ a A p1.2 (0 : Int32) _ e11) (cwV 1 hts (gd_V mw_659 mw_660 mw_661 mw_5 mw_662) rfl rfl rfl (by decide +kernel) ⟨Nat.le_of_ble_eq_true rfl, Nat.le_of_ble_eq_true rfl⟩) hK hN hP hD hS 9 0 rfl rfl gM_0 rfl hl.1 rfl (Nat.le_of_ble_eq_true rfl) dX9_reading_79 ⟨Nat.zero_le _, Nat.zero_le _⟩ (fun H locs hP hD hS => ?_)
                cases hF
                exact z_iret hx hb hr hlocks hK hP hD hS dX9_reading_82
              · rw [if_neg c9] at hF
                refine lv_tableOut (tgt := 83) hx hb dX9_reading_12 (z_notin6 c4 c5 c6 c7 c8 c9) (by decide) ?_
                refine lv_iload_n hx hb dX9_reading_83 rfl (lv_at hl 2 rfl) ?_
                refine lv_bipush (v := (10 : Int32)) hx hb dX9_reading_84 (by decide) ?_
                refine lv_icmp_lt (tgt := 100) hx hb dX9_reading_86 (by decide) (fun c12 => ?_) (fun c12 => ?_)
                · rw [if_pos c12] at hF
                  refine lv_bipush (v := (-9 : Int32)) hx hb dX9_reading_100 (by decide) ?_
                  refine lv_goto (tgt := 130) hx hb dX9_reading_102 (by decide) ?_
                  cases hF
                  exact z_iret hx hb hr hlocks hK hP hD hS dX9_reading_130
                · rw [if_neg c12] at hF
                  refine lv_iload_n hx hb dX9_reading_89 rfl (lv_at hl 2 rfl) ?_
                  refine lv_bipush (v := (10 : Int32)) hx hb dX9_reading_90 (by decide) ?_
                  refine lv_aload_n hx hb dX9_reading_92 rfl (lv_at hl 0 rfl) ?_
                  refine va_get (D := D) (ci := 9) (v := .int (p1.2 0 13)) (C := RX9) (T := TX9) (N := 34) hx hb hts inlX9 hown hK hP 0 gM_0 rfl 13 (by decide) (hts _ mw_360) (fun _ h9 => h9) rfl dX9_reading_93 ?_
                  refine lv_iadd hx hb dX9_reading_96 ?_
                  refine lv_icmp_lt (tgt := 105) hx hb dX9_reading_97 (by decide) (fun c13 => ?_) (fun c13 => ?_)
                  · rw [if_pos c13] at hF
                    refine lv_aload_n hx hb dX9_reading_105 rfl (lv_at hl 0 rfl) ?_
                    refine va_get (D := D) (ci := 9) (v := .ref (a 12)) (C := RX9) (T := TX9) (N := 34) hx hb hts inlX9 hown hK hP 0 gM_0 rfl 12 (by decide) (hts _ mw_128) (fun _ h9 => h9) rfl dX9_reading_106 ?_
                    refine lv_iload_n hx hb dX9_reading_109 rfl (lv_at hl 2 rfl) ?_
                    refine lv_bipush (v := (10 : Int32)) hx hb dX9_reading_110 (by decide) ?_
                    refine lv_isub hx hb dX9_reading_112 ?_
                    obtain ⟨v14, e15, hF⟩ := Option.bind_eq_some_iff.mp hF
                    refine z_zld hx hb hK hP 12 gM_12 e15 dX9_reading_113 ?_
                    refine lv_if_eq (tgt := 121) hx hb dX9_reading_114 (by decide) (fun c16 => ?_) (fun c16 => ?_)
                    · rw [if_pos c16] at hF
                      refine lv_aload_n hx hb dX9_reading_121 rfl (lv_at hl 0 rfl) ?_
                      refine va_get (D := D) (ci := 9) (v := .ref (a 21)) (C := RX9) (T := TX9) (N := 34) hx hb hts inlX9 hown hK hP 0 gM_0 rfl 23 (by decide) (hts _ mw_137) (fun _ h9 => h9) rfl dX9_reading_122 ?_
                      refine lv_iload_n hx hb dX9_reading_125 rfl (lv_at hl 2 rfl) ?_
                      refine lv_bipush (v := (10 : Int32)) hx hb dX9_reading_126 (by decide) ?_
                      refine lv_isub hx hb dX9_reading_128 ?_
                      obtain ⟨v17, e18, hF⟩ := Option.bind_eq_some_iff.mp hF
                      refine z_ild hx hb hK hP 21 gM_21 e18 dX9_reading_129 ?_
                      cases hF
                      exact z_iret hx hb hr hlocks hK hP hD hS dX9_reading_130
                    · rw [if_neg c16] at hF
                      refine lv_iconst (v := (-1 : Int32)) hx hb dX9_reading_117 (by decide) ?_
                      refine lv_goto (tgt := 130) hx hb dX9_reading_118 (by decide) ?_
                      cases hF
                      exact z_iret hx hb hr hlocks hK hP hD hS dX9_reading_130
                  · rw [if_neg c13] at hF
                    refine lv_bipush (v := (-9 : Int32)) hx hb dX9_reading_100 (by decide) ?_
                    refine lv_goto (tgt := 130) hx hb dX9_reading_102 (by decide) ?_
                    cases hF
                    exact z_iret hx hb hr hlocks hK hP hD hS dX9_reading_130
  · rw [if_pos c3] at hF
    refine lv_bipush (v := (-9 : Int32)) hx hb dX9_reading_8 (by decide) ?_
    cases hF
    exact z_iret hx hb hr hlocks hK hP hD hS dX9_reading_10
abbrev ts_X9_test : List Cond := .code yX9_test cX9_test 4 (some .int) :: wsL_law
set_option maxHeartbeats 4000000 in
set_option maxRecDepth 100000 in
theorem c_X9_test (l : Launch) (D : va_G) (cyI cyZ : ClassId) (a : Nat → Nat) (A : Nat → Prop) (σ : Mem) (x1 : Int32) (x2 : Int32) (x3 : Int32) (r : Int32) (σ' : Mem) (hF : F_X9_test σ x1 x2 x3 = some (r, σ')) : CtI l yX9_test ts_X9_test ({ frames := 5, cells := 0, slots := 0, locals := 113 } : Room) [.ref (a 0), .int x1, .int x2, .int x3] D cyI cyZ A (wM cyI cyZ a σ) (wM cyI cyZ a σ') r := by
  refine CtI.of (cc := cX9_test) (maxL := 4) (ret := (some .int)) (by decide) rfl (Nat.le_of_ble_eq_true rfl) ?_
  intro p e s m below meth c ls hC hP hD hl
  obtain ⟨hx, hb, hr, hml, hown, hts, hK, hN, hlocks⟩ := hC
  have hown : s.vm.findClass RX9 = some m.cls := hown
  have hS : va_S A s.heap s.heap [] := va_S.rf
  have hl : lv_has ls 4 [(0, .ref (a 0)), (1, .int x1), (2, .int x2), (3, .int x3)] := hl
  unfold F_X9_test at hF
  refine lv_aload_n hx hb dX9_test_0 rfl (lv_at hl 0 rfl) ?_
  refine lv_iload_n hx hb dX9_test_1 rfl (lv_at hl 1 rfl) ?_
  obtain ⟨p1, e2, hF⟩ := Option.bind_eq_some_iff.mp hF
  refine z_callVI (w' := (wM cyI cyZ a p1.2)) (As := [.int x1]) (rest := []) ⟨hx, hb, hml, hown, hts⟩ (c_X9_have l D cyI cyZ a A σ x1 p1.1 p1.2 e2) (cwV 1 hts (gd_V mw_655 mw_656 mw_657 mw_5 mw_658) rfl rfl rfl (by decide +kernel) ⟨Nat.le_of_ble_eq_true rfl, Nat.le_of_ble_eq_true rfl⟩) hK hN hP hD hS 9 0 rfl rfl gM_0 rfl hl.1 rfl (Nat.le_of_ble_eq_true rfl) dX9_test_2 ⟨Nat.zero_le _, Nat.zero_le _⟩ (fun H locs hP hD hS => ?_)
  refine lv_if_eq (tgt := 29) hx hb dX9_test_5 (by decide) (fun c3 => ?_) (fun c3 => ?_)
  · rw [if_pos c3] at hF
    refine lv_ldc (v := (-2000000 : Int32)) hx hb hown (hts _ mw_247) dX9_test_29 ?_
    cases hF
    exact z_iret hx hb hr hlocks hK hP hD hS dX9_test_31
  · rw [if_neg c3] at hF
    refine lv_iload_n hx hb dX9_test_8 rfl (lv_at hl 2 rfl) ?_
    refine lv_if_lt (tgt := 29) hx hb dX9_test_9 (by decide) (fun c4 => ?_) (fun c4 => ?_)
    · rw [if_pos c4] at hF
      refine lv_ldc (v := (-2000000 : Int32)) hx hb hown (hts _ mw_247) dX9_test_29 ?_
      cases hF
      exact z_iret hx hb hr hlocks hK hP hD hS dX9_test_31
    · rw [if_neg c4] at hF
      refine lv_iload_n hx hb dX9_test_12 rfl (lv_at hl 2 rfl) ?_
      refine lv_aload_n hx hb dX9_test_13 rfl (lv_at hl 0 rfl) ?_
      refine va_get (D := D) (ci := 9) (v := .int (p1.2 0 32)) (C := RX9) (T := TX9) (N := 34) hx hb hts inlX9 hown hK hP 0 gM_0 rfl 32 (by decide) (hts _ mw_545) (fun _ h9 => h9) rfl dX9_test_14 ?_
      refine lv_icmp_ge (tgt := 29) hx hb dX9_test_17 (by decide) (fun c5 => ?_) (fun c5 => ?_)
      · rw [if_pos c5] at hF
        refine lv_ldc (v := (-2000000 : Int32)) hx hb hown (hts _ mw_247) dX9_test_29 ?_
        cases hF
        exact z_iret hx hb hr hlocks hK hP hD hS dX9_test_31
      · rw [if_neg c5] at hF
        refine lv_iload_n hx hb dX9_test_20 rfl (lv_at hl 3 rfl) ?_
        refine lv_iconst (v := (0 : Int32)) hx hb dX9_test_21 (by decide) ?_
        refine lv_iconst (v := (3 : Int32)) hx hb dX9_test_22 (by decide) ?_
        refine z_callSI (w' := (wM cyI cyZ a p1.2)) (As := [.int x3, .int (0 : Int32), .int (3 : Int32)]) (rest := []) ⟨hx, hb, hml, hown, hts⟩ (c_X9_within l D cyI cyZ A (wM cyI cyZ a p1.2) x3 (0 : Int32) (3 : Int32) _ rfl) (va_cwS 3 hts (gd_S mw_161 mw_162 mw_5 mw_163) rfl rfl rfl (by decide +kernel) ⟨Nat.le_of_ble_eq_true rfl, Nat.le_of_ble_eq_true rfl⟩) hK hN hP hD hS rfl hl.1 rfl (Nat.le_of_ble_eq_true rfl) dX9_test_23 ⟨Nat.zero_le _, Nat.zero_le _⟩ (fun H locs hP hD hS => ?_)
        refine lv_if_ne (tgt := 32) hx hb dX9_test_26 (by decide) (fun c6 => ?_) (fun c6 => ?_)
        · rw [if_neg c6] at hF
          refine lv_iload_n hx hb dX9_test_32 rfl (lv_at hl 3 rfl) ?_
          refine lv_if_ne (tgt := 45) hx hb dX9_test_33 (by decide) (fun c7 => ?_) (fun c7 => ?_)
          · rw [if_neg c7] at hF
            refine lv_iload_n hx hb dX9_test_45 rfl (lv_at hl 3 rfl) ?_
            refine lv_iconst (v := (1 : Int32)) hx hb dX9_test_46 (by decide) ?_
            refine lv_icmp_ne (tgt := 59) hx hb dX9_test_47 (by decide) (fun c8 => ?_) (fun c8 => ?_)
            · rw [if_neg c8] at hF
              refine lv_iload_n hx hb dX9_test_59 rfl (lv_at hl 3 rfl) ?_
              refine lv_iconst (v := (2 : Int32)) hx hb dX9_test_60 (by decide) ?_
              refine lv_icmp_ne (tgt := 73) hx hb dX9_test_61 (by decide) (fun c9 => ?_) (fun c9 => ?_)
              · rw [if_neg c9] at hF
                refine lv_aload_n hx hb dX9_test_73 rfl (lv_at hl 0 rfl) ?_
                refine va_get (D := D) (ci := 9) (v := .ref (a 25)) (C := RX9) (T := TX9) (N := 34) hx hb hts inlX9 hown hK hP 0 gM_0 rfl 31 (by decide) (hts _ mw_141) (fun _ h9 => h9) rfl dX9_test_74 ?_
                refine lv_iload_n hx hb dX9_test_77 rfl (lv_at hl 2 rfl) ?_
                obtain ⟨v10, e11, hF⟩ := Option.bind_eq_some_iff.mp hF
                refine z_ild hx hb hK hP 25 gM_25 e11 dX9_test_78 ?_
                cases hF
                exact z_iret hx hb hr hlocks hK hP hD hS dX9_test_79
              · rw [if_pos c9] at hF
                refine lv_aload_n hx hb dX9_test_64 rfl (lv_at hl 0 rfl) ?_
                refine va_get (D := D) (ci := 9) (v := .ref (a 24)) (C := RX9) (T := TX9) (N := 34) hx hb hts inlX9 hown hK hP 0 gM_0 rfl 30 (by decide) (hts _ mw_140) (fun _ h9 => h9) rfl dX9_test_65 ?_
                refine lv_iload_n hx hb dX9_test_68 rfl (lv_at hl 2 rfl) ?_
                obtain ⟨v12, e13, hF⟩ := Option.bind_eq_some_iff.mp hF
                refine z_ild hx hb hK hP 24 gM_24 e13 dX9_test_69 ?_
                refine lv_goto (tgt := 79) hx hb dX9_test_70 (by decide) ?_
                cases hF
                exact z_iret hx hb hr hlocks hK hP hD hS dX9_test_79
            · rw [if_pos c8] at hF
              refine lv_aload_n hx hb dX9_test_50 rfl (lv_at hl 0 rfl) ?_
              refine va_get (D := D) (ci := 9) (v := .ref (a 23)) (C := RX9) (T := TX9) (N := 34) hx hb hts inlX9 hown hK hP 0 gM_0 rfl 29 (by decide) (hts _ mw_139) (fun _ h9 => h9) rfl dX9_test_51 ?_
              refine lv_iload_n hx hb dX9_test_54 rfl (lv_at hl 2 rfl) ?_
              obtain ⟨v14, e15, hF⟩ := Option.bind_eq_some_iff.mp hF
              refine z_ild hx hb hK hP 23 gM_23 e15 dX9_test_55 ?_
              refine lv_goto (tgt := 79) hx hb dX9_test_56 (by decide) ?_
              cases hF
              exact z_iret hx hb hr hlocks hK hP hD hS dX9_test_79
          · rw [if_pos c7] at hF
            refine lv_aload_n hx hb dX9_test_36 rfl (lv_at hl 0 rfl) ?_
            refine va_get (D := D) (ci := 9) (v := .ref (a 22)) (C := RX9) (T := TX9) (N := 34) hx hb hts inlX9 hown hK hP 0 gM_0 rfl 28 (by decide) (hts _ mw_138) (fun _ h9 => h9) rfl dX9_test_37 ?_
            refine lv_iload_n hx hb dX9_test_40 rfl (lv_at hl 2 rfl) ?_
            obtain ⟨v16, e17, hF⟩ := Option.bind_eq_some_iff.mp hF
            refine z_ild hx hb hK hP 22 gM_22 e17 dX9_test_41 ?_
            refine lv_goto (tgt := 79) hx hb dX9_test_42 (by decide) ?_
            cases hF
            exact z_iret hx hb hr hlocks hK hP hD hS dX9_test_79
        · rw [if_pos c6] at hF
          refine lv_ldc (v := (-2000000 : Int32)) hx hb hown (hts _ mw_247) dX9_test_29 ?_
          cases hF
          exact z_iret hx hb hr hlocks hK hP hD hS dX9_test_31
abbrev ts_X9_answer : List Cond := .code yX9_answer cX9_answer 2 (some .int) :: wsL_law
set_option maxHeartbeats 4000000 in
set_option maxRecDepth 100000 in
theorem c_X9_answer (l : Launch) (D : va_G) (cyI cyZ : ClassId) (a : Nat → Nat) (A : Nat → Prop) (σ : Mem) (x1 : Int32) (r : Int32) (σ' : Mem) (hF : F_X9_answer σ x1 = some (r, σ')) : CtI l yX9_answer ts_X9_answer ({ frames := 5, cells := 0, slots := 0, locals := 120 } : Room) [.ref (a 0), .int x1] D cyI cyZ A (wM cyI cyZ a σ) (wM cyI cyZ a σ') r := by
  refine CtI.of (cc := cX9_answer) (maxL := 2) (ret := (some .int)) (by decide) rfl (Nat.le_of_ble_eq_true rfl) ?_
  intro p e s m below meth c ls hC hP hD hl
  obtain ⟨hx, hb, hr, hml, hown, hts, hK, hN, hlocks⟩ := hC
  have hown : s.vm.findClass RX9 = some m.cls := hown
  have hS : va_S A s.heap s.heap [] := va_S.rf
  have hl : lv_has ls 2 [(0, .ref (a 0)), (1, .int x1)] := hl
  unfold F_X9_answer at hF
  refine lv_aload_n hx hb dX9_answer_0 rfl (lv_at hl 0 rfl) ?_
  refine lv_iload_n hx hb dX9_answer_1 rfl (lv_at hl 1 rfl) ?_
  obtain ⟨p1, e2, hF⟩ := Option.bind_eq_some_iff.mp hF
  refine z_callVI (w' := (wM cyI cyZ a p1.2)) (As := [.int x1]) (rest := []) ⟨hx, hb, hml, hown, hts⟩ (c_X9_have l D cyI cyZ a A σ x1 p1.1 p1.2 e2) (cwV 1 hts (gd_V mw_655 mw_656 mw_657 mw_5 mw_658) rfl rfl rfl (by decide +kernel) ⟨Nat.le_of_ble_eq_true rfl, Nat.le_of_ble_eq_true rfl⟩) hK hN hP hD hS 9 0 rfl rfl gM_0 rfl hl.1 rfl (Nat.le_of_ble_eq_true rfl) dX9_answer_2 ⟨Nat.zero_le _, Nat.zero_le _⟩ (fun H locs hP hD hS => ?_)
  refine lv_if_eq (tgt := 15) hx hb dX9_answer_5 (by decide) (fun c3 => ?_) (fun c3 => ?_)
  · rw [if_pos c3] at hF
    refine lv_ldc (v := (-2000000 : Int32)) hx hb hown (hts _ mw_247) dX9_answer_15 ?_
    cases hF
    exact z_iret hx hb hr hlocks hK hP hD hS dX9_answer_17
  · rw [if_neg c3] at hF
    refine lv_aload_n hx hb dX9_answer_8 rfl (lv_at hl 0 rfl) ?_
    obtain ⟨v4, e5, hF⟩ := Option.bind_eq_some_iff.mp hF
    refine z_callVI (w' := (wM cyI cyZ a p1.2)) (As := []) (rest := []) ⟨hx, hb, hml, hown, hts⟩ (c_X9_answerOf l D cyI cyZ a A p1.2  _ e5) (cwV 0 hts (gd_V mw_711 mw_712 mw_713 mw_5 mw_714) rfl rfl rfl (by decide +kernel) ⟨Nat.le_of_ble_eq_true rfl, Nat.le_of_ble_eq_true rfl⟩) hK hN hP hD hS 9 0 rfl rfl gM_0 rfl hl.1 rfl (Nat.le_of_ble_eq_true rfl) dX9_answer_9 ⟨Nat.zero_le _, Nat.zero_le _⟩ (fun H locs hP hD hS => ?_)
    refine lv_goto (tgt := 17) hx hb dX9_answer_12 (by decide) ?_
    cases hF
    exact z_iret hx hb hr hlocks hK hP hD hS dX9_answer_17
abbrev ts_X9_found : List Cond := .code yX9_found cX9_found 5 (some .int) :: wsL_law
def SH_X9_found (a : Nat → Nat) (ls : Array Slot) (pc : Nat) (vs : List Int32) : Prop := (pc = 0 ∧ ∃ x1 x2 : Int32, vs = [x1, x2] ∧ lv_has ls 5 [(0, .ref (a 0)), (1, .int x1), (2, .int x2)]) ∨ (pc = 19 ∧ ∃ x3 x4 : Int32, vs = [x3, x4] ∧ lv_has ls 5 [(0, .ref (a 0)), (3, .int x3), (4, .int x4)])
section
variable {p : Program} {l : Launch} {e : Env} {s : State} {m : MethodId} {args : Array Value} {below : List Frame} {meth : Method} {c : Code} {D : va_G} {A : Nat → Prop} {a : Nat → Nat} {cyI cyZ : ClassId} {r : Int32} {σ' : Mem} {q : Mem × List Int32}
set_option maxHeartbeats 4000000 in
set_option maxRecDepth 100000 in
theorem wl_X9_found_0 (σ : Mem) (hC : CX p c cX9_found meth (some .int) s m args yX9_found.cls 5 D cyI cyZ) (hq : extM q = some (r, σ')) (n : Nat) (ih : ∀ (pc : Nat) (x : Mem) (vs : List Int32) (ls : Array Slot) (H : Heap) (locs : List Loc), goL B_X9_found n pc x vs = some q → SH_X9_found a ls pc vs → va_P D vwCl (wM cyI cyZ a x) H → va_D A (wM cyI cyZ a x) → va_S A s.heap H locs → W p l e (headSpec ts_X9_found ({ frames := 5, cells := 0, slots := 0, locals := 113 } : Room)).room s m args below meth c H locs 0 0 (MQ below (QcI D cyI cyZ A (wM cyI cyZ a σ') r) args s 0 0 A) (F0 m pc ls [])) (x1 : Int32) (x2 : Int32) (ls : Array Slot) (H : Heap) (locs : List Loc) (hgo : goL B_X9_found (n + 1) 0 σ [x1, x2] = some q) (hl : lv_has ls 5 [(0, .ref (a 0)), (1, .int x1), (2, .int x2)]) (hP : va_P D vwCl (wM cyI cyZ a σ) H) (hD : va_D A (wM cyI cyZ a σ)) (hS : va_S A s.heap H locs) : W p l e (headSpec ts_X9_found ({ frames := 5, cells := 0, slots := 0, locals := 113 } : Room)).room s m args below meth c H locs 0 0 (MQ below (QcI D cyI cyZ A (wM cyI cyZ a σ') r) args s 0 0 A) (F0 m 0 ls []) := by
  obtain ⟨hx, hb, hr, hml, hown, hts, hK, hN, hlocks⟩ := hC
  have hown : s.vm.findClass RX9 = some m.cls := hown
  obtain ⟨yy, hF, hgo⟩ := goL_step (by decide) hgo
  have hF : B_X9_found_0 σ x1 x2 = some yy := hF
  unfold B_X9_found_0 at hF
  refine lv_aload_n hx hb dX9_found_0 rfl (lv_at hl 0 rfl) ?_
  refine lv_iload_n hx hb dX9_found_1 rfl (lv_at hl 1 rfl) ?_
  obtain ⟨p1, e2, hF⟩ := Option.bind_eq_some_iff.mp hF
  refine z_callVI (w' := (wM cyI cyZ a p1.2)) (As := [.int x1]) (rest := []) ⟨hx, hb, hml, hown, hts⟩ (c_X9_have l D cyI cyZ a A σ x1 p1.1 p1.2 e2) (cwV 1 hts (gd_V mw_655 mw_656 mw_657 mw_5 mw_658) rfl rfl rfl (by decide +kernel) ⟨Nat.le_of_ble_eq_true rfl, Nat.le_of_ble_eq_true rfl⟩) hK hN hP hD hS 9 0 rfl rfl gM_0 rfl hl.1 rfl (Nat.le_of_ble_eq_true rfl) dX9_found_2 ⟨Nat.zero_le _, Nat.zero_le _⟩ (fun H locs hP hD hS => ?_)
  refine lv_if_eq (tgt := 12) hx hb dX9_found_5 (by decide) (fun c3 => ?_) (fun c3 => ?_)
  · rw [if_pos c3] at hF
    refine lv_iconst (v := (-1 : Int32)) hx hb dX9_found_12 (by decide) ?_
    cases hF
    obtain ⟨rfl, rfl⟩ := extM_ret hq (goL_ret hgo)
    exact z_iret hx hb hr hlocks hK hP hD hS dX9_found_13
  · rw [if_neg c3] at hF
    refine lv_iload_n hx hb dX9_found_8 rfl (lv_at hl 2 rfl) ?_
    refine lv_if_ge (tgt := 14) hx hb dX9_found_9 (by decide) (fun c4 => ?_) (fun c4 => ?_)
    · rw [if_pos c4] at hF
      refine lv_iload_n hx hb dX9_found_14 rfl (lv_at hl 2 rfl) ?_
      refine lv_istore_n (lv' := [(3, .int x2), (0, .ref (a 0)), (1, .int x1), (2, .int x2)]) hx hb dX9_found_15 rfl hl (by decide) rfl (fun ls hl => ?_)
      refine lv_iconst (v := (0 : Int32)) hx hb dX9_found_16 (by decide) ?_
      refine lv_istore (lv' := [(4, .int (0 : Int32)), (3, .int x2), (0, .ref (a 0)), (1, .int x1), (2, .int x2)]) hx hb dX9_found_17 hl (by decide) rfl (fun ls hl => ?_)
      cases hF
      exact ih _ _ _ _ _ _ hgo (Or.inr (⟨rfl, _, _, rfl, lv_sub hl [2, 1, 0] rfl⟩)) hP hD hS
    · rw [if_neg c4] at hF
      refine lv_iconst (v := (-1 : Int32)) hx hb dX9_found_12 (by decide) ?_
      cases hF
      obtain ⟨rfl, rfl⟩ := extM_ret hq (goL_ret hgo)
      exact z_iret hx hb hr hlocks hK hP hD hS dX9_found_13
set_option maxHeartbeats 4000000 in
set_option maxRecDepth 100000 in
theorem wl_X9_found_19 (σ : Mem) (hC : CX p c cX9_found meth (some .int) s m args yX9_found.cls 5 D cyI cyZ) (hq : extM q = some (r, σ')) (n : Nat) (ih : ∀ (pc : Nat) (x : Mem) (vs : List Int32) (ls : Array Slot) (H : Heap) (locs : List Loc), goL B_X9_found n pc x vs = some q → SH_X9_found a ls pc vs → va_P D vwCl (wM cyI cyZ a x) H → va_D A (wM cyI cyZ a x) → va_S A s.heap H locs → W p l e (headSpec ts_X9_found ({ frames := 5, cells := 0, slots := 0, locals := 113 } : Room)).room s m args below meth c H locs 0 0 (MQ below (QcI D cyI cyZ A (wM cyI cyZ a σ') r) args s 0 0 A) (F0 m pc ls [])) (x3 : Int32) (x4 : Int32) (ls : Array Slot) (H : Heap) (locs : List Loc) (hgo : goL B_X9_found (n + 1) 19 σ [x3, x4] = some q) (hl : lv_has ls 5 [(0, .ref (a 0)), (3, .int x3), (4, .int x4)]) (hP : va_P D vwCl (wM cyI cyZ a σ) H) (hD : va_D A (wM cyI cyZ a σ)) (hS : va_S A s.heap H locs) : W p l e (headSpec ts_X9_found ({ frames := 5, cells := 0, slots := 0, locals := 113 } : Room)).room s m args below meth c H locs 0 0 (MQ below (QcI D cyI cyZ A (wM cyI cyZ a σ') r) args s 0 0 A) (F0 m 19 ls []) := by
  obtain ⟨hx, hb, hr, hml, hown, hts, hK, hN, hlocks⟩ := hC
  have hown : s.vm.findClass RX9 = some m.cls := hown
  obtain ⟨yy, hF, hgo⟩ := goL_step (by decide) hgo
  have hF : B_X9_found_19 σ x3 x4 = some yy := hF
  unfold B_X9_found_19 at hF
  refine lv_iload hx hb dX9_found_19 (lv_at hl 2 rfl) ?_
  refine lv_aload_n hx hb dX9_found_21 rfl (lv_at hl 0 rfl) ?_
  refine va_get (D := D) (ci := 9) (v := .ref (a 2)) (C := RX9) (T := TX9) (N := 34) hx hb hts inlX9 hown hK hP 0 gM_0 rfl 1 (by decide) (hts _ mw_118) (fun _ h9 => h9) rfl dX9_found_22 ?_
  refine lv_aload_n hx hb dX9_found_25 rfl (lv_at hl 0 rfl) ?_
  refine va_get (D := D) (ci := 9) (v := .int (σ 0 25)) (C := RX9) (T := TX9) (N := 34) hx hb hts inlX9 hown hK hP 0 gM_0 rfl 25 (by decide) (hts _ mw_543) (fun _ h9 => h9) rfl dX9_found_26 ?_
  obtain ⟨v1, e2, hF⟩ := Option.bind_eq_some_iff.mp hF
  refine z_ild hx hb hK hP 2 gM_2 e2 dX9_found_29 ?_
  refine lv_icmp_ge (tgt := 59) hx hb dX9_found_30 (by decide) (fun c3 => ?_) (fun c3 => ?_)
  · rw [if_pos c3] at hF
    refine lv_iconst (v := (-1 : Int32)) hx hb dX9_found_59 (by decide) ?_
    cases hF
    obtain ⟨rfl, rfl⟩ := extM_ret hq (goL_ret hgo)
    exact z_iret hx hb hr hlocks hK hP hD hS dX9_found_60
  · rw [if_neg c3] at hF
    refine lv_aload_n hx hb dX9_found_33 rfl (lv_at hl 0 rfl) ?_
    refine lv_iload hx hb dX9_found_34 (lv_at hl 2 rfl) ?_
    refine lv_iconst (v := (0 : Int32)) hx hb dX9_found_36 (by decide) ?_
    obtain ⟨v4, e5, hF⟩ := Option.bind_eq_some_iff.mp hF
    refine z_callVI (w' := (wM cyI cyZ a σ)) (As := [.int x4, .int (0 : Int32)]) (rest := []) ⟨hx, hb, hml, hown, hts⟩ (c_X9_isFound l D cyI cyZ a A σ x4 (0 : Int32) _ e5) (cwV 2 hts (gd_V mw_663 mw_664 mw_665 mw_5 mw_666) rfl rfl rfl (by decide +kernel) ⟨Nat.le_of_ble_eq_true rfl, Nat.le_of_ble_eq_true rfl⟩) hK hN hP hD hS 9 0 rfl rfl gM_0 rfl hl.1 rfl (Nat.le_of_ble_eq_true rfl) dX9_found_37 ⟨Nat.zero_le _, Nat.zero_le _⟩ (fun H locs hP hD hS => ?_)
    refine lv_if_eq (tgt := 53) hx hb dX9_found_40 (by decide) (fun c6 => ?_) (fun c6 => ?_)
    · rw [if_pos c6] at hF
      refine lv_iinc (v := (x4 + (1 : Int32))) (lv' := [(4, .int (x4 + (1 : Int32))), (0, .ref (a 0)), (3, .int x3)]) hx hb dX9_found_53 hl (k := 2) rfl rfl (by decide) rfl (fun ls hl => ?_)
      refine lv_goto (tgt := 19) hx hb dX9_found_56 (by decide) ?_
      cases hF
      exact ih _ _ _ _ _ _ hgo (Or.inr (⟨rfl, _, _, rfl, lv_sub hl [1, 2, 0] rfl⟩)) hP hD hS
    · rw [if_neg c6] at hF
      refine lv_iload_n hx hb dX9_found_43 rfl (lv_at hl 1 rfl) ?_
      refine lv_if_ne (tgt := 50) hx hb dX9_found_44 (by decide) (fun c7 => ?_) (fun c7 => ?_)
      · rw [if_neg c7] at hF
        refine lv_iinc (v := (x3 + (-1 : Int32))) (lv' := [(3, .int (x3 + (-1 : Int32))), (0, .ref (a 0)), (4, .int x4)]) hx hb dX9_found_50 hl (k := 1) rfl rfl (by decide) rfl (fun ls hl => ?_)
        refine lv_iinc (v := (x4 + (1 : Int32))) (lv' := [(4, .int (x4 + (1 : Int32))), (3, .int (x3 + (-1 : Int32))), (0, .ref (a 0))]) hx hb dX9_found_53 hl (k := 2) rfl rfl (by decide) rfl (fun ls hl => ?_)
        refine lv_goto (tgt := 19) hx hb dX9_found_56 (by decide) ?_
        cases hF
        exact ih _ _ _ _ _ _ hgo (Or.inr (⟨rfl, _, _, rfl, lv_sub hl [2, 1, 0] rfl⟩)) hP hD hS
      · rw [if_pos c7] at hF
        refine lv_iload hx hb dX9_found_47 (lv_at hl 2 rfl) ?_
        cases hF
        obtain ⟨rfl, rfl⟩ := extM_ret hq (goL_ret hgo)
        exact z_iret hx hb hr hlocks hK hP hD hS dX9_found_49
theorem wk_X9_found (hC : CX p c cX9_found meth (some .int) s m args yX9_found.cls 5 D cyI cyZ) (hq : extM q = some (r, σ')) : ∀ (n : Nat), ∀ (pc : Nat) (x : Mem) (vs : List Int32) (ls : Array Slot) (H : Heap) (locs : List Loc), goL B_X9_found n pc x vs = some q → SH_X9_found a ls pc vs → va_P D vwCl (wM cyI cyZ a x) H → va_D A (wM cyI cyZ a x) → va_S A s.heap H locs → W p l e (headSpec ts_X9_found ({ frames := 5, cells := 0, slots := 0, locals := 113 } : Room)).room s m args below meth c H locs 0 0 (MQ below (QcI D cyI cyZ A (wM cyI cyZ a σ') r) args s 0 0 A) (F0 m pc ls []) := by
  intro n
  induction n with
  | zero => intro pc x vs ls H locs h; exact absurd h (by simp [goL])
  | succ n ih =>
    intro pc x vs ls H locs hgo hsh hP hD hS
    rcases hsh with ⟨rfl, x1, x2, rfl, hl⟩ | ⟨rfl, x3, x4, rfl, hl⟩
    · exact wl_X9_found_0 x hC hq n ih x1 x2 ls H locs hgo hl hP hD hS
    · exact wl_X9_found_19 x hC hq n ih x3 x4 ls H locs hgo hl hP hD hS
end
theorem c_X9_found (l : Launch) (D : va_G) (cyI cyZ : ClassId) (a : Nat → Nat) (A : Nat → Prop) (σ : Mem) (x1 : Int32) (x2 : Int32) (r : Int32) (σ' : Mem) (hF : F_X9_found σ x1 x2 = some (r, σ')) : CtI l yX9_found ts_X9_found ({ frames := 5, cells := 0, slots := 0, locals := 113 } : Room) [.ref (a 0), .int x1, .int x2] D cyI cyZ A (wM cyI cyZ a σ) (wM cyI cyZ a σ') r := by
  refine CtI.of (cc := cX9_found) (maxL := 5) (ret := (some .int)) (by decide) rfl (Nat.le_of_ble_eq_true rfl) ?_
  intro p e s m below meth c ls hC hP hD hl
  obtain ⟨q, hq, hr1⟩ := Option.bind_eq_some_iff.mp hF
  obtain ⟨n, hn⟩ := finL_some hq
  exact wk_X9_found hC hr1 n 0 _ _ ls _ _ hn (Or.inl ⟨rfl, _, _, rfl, hl⟩) hP hD va_S.rf
