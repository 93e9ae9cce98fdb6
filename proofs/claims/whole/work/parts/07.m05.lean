-- X2_stands X3_has X3_add X3_addWord X3_addNumber X3_empty X3_isFirstOfWord X5_spoil X5_hasSort X5_passNumber X7_meaningsOf X7_costAt X5_keyPart
abbrev ts_X2_stands : List Cond := .code yX2_stands cX2_stands 2 (some .boolean) :: wsL_law
set_option maxHeartbeats 4000000 in
set_option maxRecDepth 100000 in
theorem c_X2_stands (l : Launch) (D : va_G) (cyI cyZ : ClassId) (a : Nat → Nat) (A : Nat → Prop) (σ : Mem) (r : Int32) (hF : F_X2_stands σ  = some r) : CtI l yX2_stands ts_X2_stands ({ frames := 2, cells := 0, slots := 0, locals := 45 } : Room) [.ref (a 17), .ref (a 1)] D cyI cyZ A (wC cyI cyZ a σ) (wC cyI cyZ a σ) r := by
  refine CtI.of (cc := cX2_stands) (maxL := 2) (ret := (some .boolean)) (by decide) rfl (Nat.le_of_ble_eq_true rfl) ?_
  intro p e s m below meth c ls hC hP hD hl
  obtain ⟨hx, hb, hr, hml, hown, hts, hK, hN, hlocks⟩ := hC
  have hown : s.vm.findClass RX2 = some m.cls := hown
  have hS : va_S A s.heap s.heap [] := va_S.rf
  have hl : lv_has ls 2 [(0, .ref (a 17)), (1, .ref (a 1))] := hl
  unfold F_X2_stands at hF
  refine lv_aload_n hx hb dX2_stands_0 rfl (lv_at hl 0 rfl) ?_
  refine va_get (D := D) (ci := 2) (v := .int (σ 17 0)) (C := RX2) (T := TX2) (N := 13) hx hb hts inlX2 hown hK hP 17 gC_17 rfl 0 (by decide) (hts _ mw_456) (fun _ h9 => h9) rfl dX2_stands_1 ?_
  refine lv_iconst (v := (1 : Int32)) hx hb dX2_stands_4 (by decide) ?_
  refine lv_icmp_gt (tgt := 31) hx hb dX2_stands_5 (by decide) (fun c1 => ?_) (fun c1 => ?_)
  · rw [if_pos c1] at hF
    refine lv_iconst (v := (0 : Int32)) hx hb dX2_stands_31 (by decide) ?_
    cases hF
    exact z_zret hx hb hr hlocks hK hP hD hS rfl dX2_stands_32
  · rw [if_neg c1] at hF
    refine lv_aload_n hx hb dX2_stands_8 rfl (lv_at hl 0 rfl) ?_
    refine va_get (D := D) (ci := 2) (v := .int (σ 17 2)) (C := RX2) (T := TX2) (N := 13) hx hb hts inlX2 hown hK hP 17 gC_17 rfl 2 (by decide) (hts _ mw_458) (fun _ h9 => h9) rfl dX2_stands_9 ?_
    refine lv_iconst (v := (1 : Int32)) hx hb dX2_stands_12 (by decide) ?_
    refine lv_icmp_gt (tgt := 31) hx hb dX2_stands_13 (by decide) (fun c2 => ?_) (fun c2 => ?_)
    · rw [if_pos c2] at hF
      refine lv_iconst (v := (0 : Int32)) hx hb dX2_stands_31 (by decide) ?_
      cases hF
      exact z_zret hx hb hr hlocks hK hP hD hS rfl dX2_stands_32
    · rw [if_neg c2] at hF
      refine lv_aload_n hx hb dX2_stands_16 rfl (lv_at hl 0 rfl) ?_
      refine va_get (D := D) (ci := 2) (v := .int (σ 17 4)) (C := RX2) (T := TX2) (N := 13) hx hb hts inlX2 hown hK hP 17 gC_17 rfl 4 (by decide) (hts _ mw_460) (fun _ h9 => h9) rfl dX2_stands_17 ?_
      refine lv_iconst (v := (1 : Int32)) hx hb dX2_stands_20 (by decide) ?_
      refine lv_icmp_gt (tgt := 31) hx hb dX2_stands_21 (by decide) (fun c3 => ?_) (fun c3 => ?_)
      · rw [if_pos c3] at hF
        refine lv_iconst (v := (0 : Int32)) hx hb dX2_stands_31 (by decide) ?_
        cases hF
        exact z_zret hx hb hr hlocks hK hP hD hS rfl dX2_stands_32
      · rw [if_neg c3] at hF
        refine lv_aload_n hx hb dX2_stands_24 rfl (lv_at hl 0 rfl) ?_
        refine va_get (D := D) (ci := 2) (v := .int (σ 17 3)) (C := RX2) (T := TX2) (N := 13) hx hb hts inlX2 hown hK hP 17 gC_17 rfl 3 (by decide) (hts _ mw_459) (fun _ h9 => h9) rfl dX2_stands_25 ?_
        refine lv_if_ge (tgt := 33) hx hb dX2_stands_28 (by decide) (fun c4 => ?_) (fun c4 => ?_)
        · rw [if_pos c4] at hF
          refine lv_aload_n hx hb dX2_stands_33 rfl (lv_at hl 0 rfl) ?_
          refine va_get (D := D) (ci := 2) (v := .int (σ 17 4)) (C := RX2) (T := TX2) (N := 13) hx hb hts inlX2 hown hK hP 17 gC_17 rfl 4 (by decide) (hts _ mw_460) (fun _ h9 => h9) rfl dX2_stands_34 ?_
          refine lv_iconst (v := (1 : Int32)) hx hb dX2_stands_37 (by decide) ?_
          refine lv_icmp_ne (tgt := 45) hx hb dX2_stands_38 (by decide) (fun c5 => ?_) (fun c5 => ?_)
          · rw [if_neg c5] at hF
            refine lv_iconst (v := (0 : Int32)) hx hb dX2_stands_45 (by decide) ?_
            refine lv_aload_n hx hb dX2_stands_46 rfl (lv_at hl 0 rfl) ?_
            refine va_get (D := D) (ci := 2) (v := .int (σ 17 1)) (C := RX2) (T := TX2) (N := 13) hx hb hts inlX2 hown hK hP 17 gC_17 rfl 1 (by decide) (hts _ mw_457) (fun _ h9 => h9) rfl dX2_stands_47 ?_
            refine lv_if_eq (tgt := 57) hx hb dX2_stands_50 (by decide) (fun c6 => ?_) (fun c6 => ?_)
            · rw [if_pos c6] at hF
              refine lv_iconst (v := (0 : Int32)) hx hb dX2_stands_57 (by decide) ?_
              refine lv_icmp_eq (tgt := 63) hx hb dX2_stands_58 (by decide) (fun c7 => ?_) (fun c7 => ?_)
              · rw [if_pos c7] at hF
                refine lv_aload_n hx hb dX2_stands_63 rfl (lv_at hl 0 rfl) ?_
                refine va_get (D := D) (ci := 2) (v := .int (σ 17 4)) (C := RX2) (T := TX2) (N := 13) hx hb hts inlX2 hown hK hP 17 gC_17 rfl 4 (by decide) (hts _ mw_460) (fun _ h9 => h9) rfl dX2_stands_64 ?_
                refine lv_iconst (v := (1 : Int32)) hx hb dX2_stands_67 (by decide) ?_
                refine lv_icmp_ne (tgt := 84) hx hb dX2_stands_68 (by decide) (fun c8 => ?_) (fun c8 => ?_)
                · rw [if_neg c8] at hF
                  refine lv_aload_n hx hb dX2_stands_84 rfl (lv_at hl 0 rfl) ?_
                  refine lv_aload_n hx hb dX2_stands_85 rfl (lv_at hl 1 rfl) ?_
                  obtain ⟨v9, e10, hF⟩ := Option.bind_eq_some_iff.mp hF
                  refine z_callVI (w' := (wC cyI cyZ a σ)) (As := [.ref (a 1)]) (rest := []) ⟨hx, hb, hml, hown, hts⟩ (c_X2_testsReach l D cyI cyZ a A σ  _ e10) (cwV 1 hts (gd_V mw_507 mw_508 mw_509 mw_71 mw_510) rfl rfl rfl (by decide +kernel) ⟨Nat.le_of_ble_eq_true rfl, Nat.le_of_ble_eq_true rfl⟩) hK hN hP hD hS 2 17 rfl rfl gC_17 rfl hl.1 rfl (Nat.le_of_ble_eq_true rfl) dX2_stands_86 ⟨Nat.zero_le _, Nat.zero_le _⟩ (fun H locs hP hD hS => ?_)
                  by_cases c11 : vp_nar .boolean v9 = v9
                  case neg => rw [if_neg c11] at hF; cases hF
                  rw [if_pos c11] at hF
                  cases hF
                  exact z_zret hx hb hr hlocks hK hP hD hS (z_nar c11) dX2_stands_89
                · rw [if_pos c8] at hF
                  refine lv_aload_n hx hb dX2_stands_71 rfl (lv_at hl 0 rfl) ?_
                  refine va_get (D := D) (ci := 2) (v := .int (σ 17 6)) (C := RX2) (T := TX2) (N := 13) hx hb hts inlX2 hown hK hP 17 gC_17 rfl 6 (by decide) (hts _ mw_462) (fun _ h9 => h9) rfl dX2_stands_72 ?_
                  refine lv_aload_n hx hb dX2_stands_75 rfl (lv_at hl 0 rfl) ?_
                  refine va_get (D := D) (ci := 2) (v := .int (σ 17 3)) (C := RX2) (T := TX2) (N := 13) hx hb hts inlX2 hown hK hP 17 gC_17 rfl 3 (by decide) (hts _ mw_459) (fun _ h9 => h9) rfl dX2_stands_76 ?_
                  refine lv_icmp_eq (tgt := 84) hx hb dX2_stands_79 (by decide) (fun c12 => ?_) (fun c12 => ?_)
                  · rw [if_pos c12] at hF
                    refine lv_aload_n hx hb dX2_stands_84 rfl (lv_at hl 0 rfl) ?_
                    refine lv_aload_n hx hb dX2_stands_85 rfl (lv_at hl 1 rfl) ?_
                    obtain ⟨v13, e14, hF⟩ := Option.bind_eq_some_iff.mp hF
                    refine z_callVI (w' := (wC cyI cyZ a σ)) (As := [.ref (a 1)]) (rest := []) ⟨hx, hb, hml, hown, hts⟩ (c_X2_testsReach l D cyI cyZ a A σ  _ e14) (cwV 1 hts (gd_V mw_507 mw_508 mw_509 mw_71 mw_510) rfl rfl rfl (by decide +kernel) ⟨Nat.le_of_ble_eq_true rfl, Nat.le_of_ble_eq_true rfl⟩) hK hN hP hD hS 2 17 rfl rfl gC_17 rfl hl.1 rfl (Nat.le_of_ble_eq_true rfl) dX2_stands_86 ⟨Nat.zero_le _, Nat.zero_le _⟩ (fun H locs hP hD hS => ?_)
                    by_cases c15 : vp_nar .boolean v13 = v13
                    case neg => rw [if_neg c15] at hF; cases hF
                    rw [if_pos c15] at hF
                    cases hF
                    exact z_zret hx hb hr hlocks hK hP hD hS (z_nar c15) dX2_stands_89
                  · rw [if_neg c12] at hF
                    refine lv_iconst (v := (0 : Int32)) hx hb dX2_stands_82 (by decide) ?_
                    cases hF
                    exact z_zret hx hb hr hlocks hK hP hD hS rfl dX2_stands_83
              · rw [if_neg c7] at hF
                refine lv_iconst (v := (0 : Int32)) hx hb dX2_stands_61 (by decide) ?_
                cases hF
                exact z_zret hx hb hr hlocks hK hP hD hS rfl dX2_stands_62
            · rw [if_neg c6] at hF
              refine lv_iconst (v := (1 : Int32)) hx hb dX2_stands_53 (by decide) ?_
              refine lv_goto (tgt := 58) hx hb dX2_stands_54 (by decide) ?_
              refine lv_icmp_eq (tgt := 63) hx hb dX2_stands_58 (by decide) (fun c16 => ?_) (fun c16 => ?_)
              · rw [if_pos c16] at hF
                refine lv_aload_n hx hb dX2_stands_63 rfl (lv_at hl 0 rfl) ?_
                refine va_get (D := D) (ci := 2) (v := .int (σ 17 4)) (C := RX2) (T := TX2) (N := 13) hx hb hts inlX2 hown hK hP 17 gC_17 rfl 4 (by decide) (hts _ mw_460) (fun _ h9 => h9) rfl dX2_stands_64 ?_
                refine lv_iconst (v := (1 : Int32)) hx hb dX2_stands_67 (by decide) ?_
                refine lv_icmp_ne (tgt := 84) hx hb dX2_stands_68 (by decide) (fun c17 => ?_) (fun c17 => ?_)
                · rw [if_neg c17] at hF
                  refine lv_aload_n hx hb dX2_stands_84 rfl (lv_at hl 0 rfl) ?_
                  refine lv_aload_n hx hb dX2_stands_85 rfl (lv_at hl 1 rfl) ?_
                  obtain ⟨v18, e19, hF⟩ := Option.bind_eq_some_iff.mp hF
                  refine z_callVI (w' := (wC cyI cyZ a σ)) (As := [.ref (a 1)]) (rest := []) ⟨hx, hb, hml, hown, hts⟩ (c_X2_testsReach l D cyI cyZ a A σ  _ e19) (cwV 1 hts (gd_V mw_507 mw_508 mw_509 mw_71 mw_510) rfl rfl rfl (by decide +kernel) ⟨Nat.le_of_ble_eq_true rfl, Nat.le_of_ble_eq_true rfl⟩) hK hN hP hD hS 2 17 rfl rfl gC_17 rfl hl.1 rfl (Nat.le_of_ble_eq_true rfl) dX2_stands_86 ⟨Nat.zero_le _, Nat.zero_le _⟩ (fun H locs hP hD hS => ?_)
                  by_cases c20 : vp_nar .boolean v18 = v18
                  case neg => rw [if_neg c20] at hF; cases hF
                  rw [if_pos c20] at hF
                  cases hF
                  exact z_zret hx hb hr hlocks hK hP hD hS (z_nar c20) dX2_stands_89
                · rw [if_pos c17] at hF
                  refine lv_aload_n hx hb dX2_stands_71 rfl (lv_at hl 0 rfl) ?_
                  refine va_get (D := D) (ci := 2) (v := .int (σ 17 6)) (C := RX2) (T := TX2) (N := 13) hx hb hts inlX2 hown hK hP 17 gC_17 rfl 6 (by decide) (hts _ mw_462) (fun _ h9 => h9) rfl dX2_stands_72 ?_
                  refine lv_aload_n hx hb dX2_stands_75 rfl (lv_at hl 0 rfl) ?_
                  refine va_get (D := D) (ci := 2) (v := .int (σ 17 3)) (C := RX2) (T := TX2) (N := 13) hx hb hts inlX2 hown hK hP 17 gC_17 rfl 3 (by decide) (hts _ mw_459) (fun _ h9 => h9) rfl dX2_stands_76 ?_
                  refine lv_icmp_eq (tgt := 84) hx hb dX2_stands_79 (by decide) (fun c21 => ?_) (fun c21 => ?_)
                  · rw [if_pos c21] at hF
                    refine lv_aload_n hx hb dX2_stands_84 rfl (lv_at hl 0 rfl) ?_
                    refine lv_aload_n hx hb dX2_stands_85 rfl (lv_at hl 1 rfl) ?_
                    obtain ⟨v22, e23, hF⟩ := Option.bind_eq_some_iff.mp hF
                    refine z_callVI (w' := (wC cyI cyZ a σ)) (As := [.ref (a 1)]) (rest := []) ⟨hx, hb, hml, hown, hts⟩ (c_X2_testsReach l D cyI cyZ a A σ  _ e23) (cwV 1 hts (gd_V mw_507 mw_508 mw_509 mw_71 mw_510) rfl rfl rfl (by decide +kernel) ⟨Nat.le_of_ble_eq_true rfl, Nat.le_of_ble_eq_true rfl⟩) hK hN hP hD hS 2 17 rfl rfl gC_17 rfl hl.1 rfl (Nat.le_of_ble_eq_true rfl) dX2_stands_86 ⟨Nat.zero_le _, Nat.zero_le _⟩ (fun H locs hP hD hS => ?_)
                    by_cases c24 : vp_nar .boolean v22 = v22
                    case neg => rw [if_neg c24] at hF; cases hF
                    rw [if_pos c24] at hF
                    cases hF
                    exact z_zret hx hb hr hlocks hK hP hD hS (z_nar c24) dX2_stands_89
                  · rw [if_neg c21] at hF
                    refine lv_iconst (v := (0 : Int32)) hx hb dX2_stands_82 (by decide) ?_
                    cases hF
                    exact z_zret hx hb hr hlocks hK hP hD hS rfl dX2_stands_83
              · rw [if_neg c16] at hF
                refine lv_iconst (v := (0 : Int32)) hx hb dX2_stands_61 (by decide) ?_
                cases hF
                exact z_zret hx hb hr hlocks hK hP hD hS rfl dX2_stands_62
          · rw [if_pos c5] at hF
            refine lv_iconst (v := (1 : Int32)) hx hb dX2_stands_41 (by decide) ?_
            refine lv_goto (tgt := 46) hx hb dX2_stands_42 (by decide) ?_
            refine lv_aload_n hx hb dX2_stands_46 rfl (lv_at hl 0 rfl) ?_
            refine va_get (D := D) (ci := 2) (v := .int (σ 17 1)) (C := RX2) (T := TX2) (N := 13) hx hb hts inlX2 hown hK hP 17 gC_17 rfl 1 (by decide) (hts _ mw_457) (fun _ h9 => h9) rfl dX2_stands_47 ?_
            refine lv_if_eq (tgt := 57) hx hb dX2_stands_50 (by decide) (fun c25 => ?_) (fun c25 => ?_)
            · rw [if_pos c25] at hF
              refine lv_iconst (v := (0 : Int32)) hx hb dX2_stands_57 (by decide) ?_
              refine lv_icmp_eq (tgt := 63) hx hb dX2_stands_58 (by decide) (fun c26 => ?_) (fun c26 => ?_)
              · rw [if_pos c26] at hF
                refine lv_aload_n hx hb dX2_stands_63 rfl (lv_at hl 0 rfl) ?_
                refine va_get (D := D) (ci := 2) (v := .int (σ 17 4)) (C := RX2) (T := TX2) (N := 13) hx hb hts inlX2 hown hK hP 17 gC_17 rfl 4 (by decide) (hts _ mw_460) (fun _ h9 => h9) rfl dX2_stands_64 ?_
                refine lv_iconst (v := (1 : Int32)) hx hb dX2_stands_67 (by decide) ?_
                refine lv_icmp_ne (tgt := 84) hx hb dX2_stands_68 (by decide) (fun c27 => ?_) (fun c27 => ?_)
                · rw [if_neg c27] at hF
                  refine lv_aload_n hx hb dX2_stands_84 rfl (lv_at hl 0 rfl) ?_
                  refine lv_aload_n hx hb dX2_stands_85 rfl (lv_at hl 1 rfl) ?_
                  obtain ⟨v28, e29, hF⟩ := Option.bind_eq_some_iff.mp hF
                  refine z_callVI (w' := (wC cyI cyZ a σ)) (As := [.ref (a 1)]) (rest := []) ⟨hx, hb, hml, hown, hts⟩ (c_X2_testsReach l D cyI cyZ a A σ  _ e29) (cwV 1 hts (gd_V mw_507 mw_508 mw_509 mw_71 mw_510) rfl rfl rfl (by decide +kernel) ⟨Nat.le_of_ble_eq_true rfl, Nat.le_of_ble_eq_true rfl⟩) hK hN hP hD hS 2 17 rfl rfl gC_17 rfl hl.1 rfl (Nat.le_of_ble_eq_true rfl) dX2_stands_86 ⟨Nat.zero_le _, Nat.zero_le _⟩ (fun H locs hP hD hS => ?_)
                  by_cases c30 : vp_nar .boolean v28 = v28
                  case neg => rw [if_neg c30] at hF; cases hF
                  rw [if_pos c30] at hF
                  cases hF
                  exact z_zret hx hb hr hlocks hK hP hD hS (z_nar c30) dX2_stands_89
                · rw [if_pos c27] at hF
                  refine lv_aload_n hx hb dX2_stands_71 rfl (lv_at hl 0 rfl) ?_
                  refine va_get (D := D) (ci := 2) (v := .int (σ 17 6)) (C := RX2) (T := TX2) (N := 13) hx hb hts inlX2 hown hK hP 17 gC_17 rfl 6 (by decide) (hts _ mw_462) (fun _ h9 => h9) rfl dX2_stands_72 ?_
                  refine lv_aload_n hx hb dX2_stands_75 rfl (lv_at hl 0 rfl) ?_
                  refine va_get (D := D) (ci := 2) (v := .int (σ 17 3)) (C := RX2) (T := TX2) (N := 13) hx hb hts inlX2 hown hK hP 17 gC_17 rfl 3 (by decide) (hts _ mw_459) (fun _ h9 => h9) rfl dX2_stands_76 ?_
                  refine lv_icmp_eq (tgt := 84) hx hb dX2_stands_79 (by decide) (fun c31 => ?_) (fun c31 => ?_)
                  · rw [if_pos c31] at hF
                    refine lv_aload_n hx hb dX2_stands_84 rfl (lv_at hl 0 rfl) ?_
                    refine lv_aload_n hx hb dX2_stands_85 rfl (lv_at hl 1 rfl) ?_
                    obtain ⟨v32, e33, hF⟩ := Option.bind_eq_some_iff.mp hF
                    refine z_callVI (w' := (wC cyI cyZ a σ)) (As := [.ref (a 1)]) (rest := []) ⟨hx, hb, hml, hown, hts⟩ (c_X2_testsReach l D cyI cyZ a A σ  _ e33) (cwV 1 hts (gd_V mw_507 mw_508 mw_509 mw_71 mw_510) rfl rfl rfl (by decide +kernel) ⟨Nat.le_of_ble_eq_true rfl, Nat.le_of_ble_eq_true rfl⟩) hK hN hP hD hS 2 17 rfl rfl gC_17 rfl hl.1 rfl (Nat.le_of_ble_eq_true rfl) dX2_stands_86 ⟨Nat.zero_le _, Nat.zero_le _⟩ (fun H locs hP hD hS => ?_)
                    by_cases c34 : vp_nar .boolean v32 = v32
                    case neg => rw [if_neg c34] at hF; cases hF
                    rw [if_pos c34] at hF
                    cases hF
                    exact z_zret hx hb hr hlocks hK hP hD hS (z_nar c34) dX2_stands_89
                  · rw [if_neg c31] at hF
                    refine lv_iconst (v := (0 : Int32)) hx hb dX2_stands_82 (by decide) ?_
                    cases hF
                    exact z_zret hx hb hr hlocks hK hP hD hS rfl dX2_stands_83
              · rw [if_neg c26] at hF
                refine lv_iconst (v := (0 : Int32)) hx hb dX2_stands_61 (by decide) ?_
                cases hF
                exact z_zret hx hb hr hlocks hK hP hD hS rfl dX2_stands_62
            · rw [if_neg c25] at hF
              refine lv_iconst (v := (1 : Int32)) hx hb dX2_stands_53 (by decide) ?_
              refine lv_goto (tgt := 58) hx hb dX2_stands_54 (by decide) ?_
              refine lv_icmp_eq (tgt := 63) hx hb dX2_stands_58 (by decide) (fun c35 => ?_) (fun c35 => ?_)
              · rw [if_pos c35] at hF
                refine lv_aload_n hx hb dX2_stands_63 rfl (lv_at hl 0 rfl) ?_
                refine va_get (D := D) (ci := 2) (v := .int (σ 17 4)) (C := RX2) (T := TX2) (N := 13) hx hb hts inlX2 hown hK hP 17 gC_17 rfl 4 (by decide) (hts _ mw_460) (fun _ h9 => h9) rfl dX2_stands_64 ?_
                refine lv_iconst (v := (1 : Int32)) hx hb dX2_stands_67 (by decide) ?_
                refine lv_icmp_ne (tgt := 84) hx hb dX2_stands_68 (by decide) (fun c36 => ?_) (fun c36 => ?_)
                · rw [if_neg c36] at hF
                  refine lv_aload_n hx hb dX2_stands_84 rfl (lv_at hl 0 rfl) ?_
                  refine lv_aload_n hx hb dX2_stands_85 rfl (lv_at hl 1 rfl) ?_
                  obtain ⟨v37, e38, hF⟩ := Option.bind_eq_some_iff.mp hF
                  refine z_callVI (w' := (wC cyI cyZ a σ)) (As := [.ref (a 1)]) (rest := []) ⟨hx, hb, hml, hown, hts⟩ (c_X2_testsReach l D cyI cyZ a A σ  _ e38) (cwV 1 hts (gd_V mw_507 mw_508 mw_509 mw_71 mw_510) rfl rfl rfl (by decide +kernel) ⟨Nat.le_of_ble_eq_true rfl, Nat.le_of_ble_eq_true rfl⟩) hK hN hP hD hS 2 17 rfl rfl gC_17 rfl hl.1 rfl (Nat.le_of_ble_eq_true rfl) dX2_stands_86 ⟨Nat.zero_le _, Nat.zero_le _⟩ (fun H locs hP hD hS => ?_)
                  by_cases c39 : vp_nar .boolean v37 = v37
                  case neg => rw [if_neg c39] at hF; cases hF
                  rw [if_pos c39] at hF
                  cases hF
                  exact z_zret hx hb hr hlocks hK hP hD hS (z_nar c39) dX2_stands_89
                · rw [if_pos c36] at hF
                  refine lv_aload_n hx hb dX2_stands_71 rfl (lv_at hl 0 rfl) ?_
                  refine va_get (D := D) (ci := 2) (v := .int (σ 17 6)) (C := RX2) (T := TX2) (N := 13) hx hb hts inlX2 hown hK hP 17 gC_17 rfl 6 (by decide) (hts _ mw_462) (fun _ h9 => h9) rfl dX2_stands_72 ?_
                  refine lv_aload_n hx hb dX2_stands_75 rfl (lv_at hl 0 rfl) ?_
                  refine va_get (D := D) (ci := 2) (v := .int (σ 17 3)) (C := RX2) (T := TX2) (N := 13) hx hb hts inlX2 hown hK hP 17 gC_17 rfl 3 (by decide) (hts _ mw_459) (fun _ h9 => h9) rfl dX2_stands_76 ?_
                  refine lv_icmp_eq (tgt := 84) hx hb dX2_stands_79 (by decide) (fun c40 => ?_) (fun c40 => ?_)
                  · rw [if_pos c40] at hF
                    refine lv_aload_n hx hb dX2_stands_84 rfl (lv_at hl 0 rfl) ?_
                    refine lv_aload_n hx hb dX2_stands_85 rfl (lv_at hl 1 rfl) ?_
                    obtain ⟨v41, e42, hF⟩ := Option.bind_eq_some_iff.mp hF
                    refine z_callVI (w' := (wC cyI cyZ a σ)) (As := [.ref (a 1)]) (rest := []) ⟨hx, hb, hml, hown, hts⟩ (c_X2_testsReach l D cyI cyZ a A σ  _ e42) (cwV 1 hts (gd_V mw_507 mw_508 mw_509 mw_71 mw_510) rfl rfl rfl (by decide +kernel) ⟨Nat.le_of_ble_eq_true rfl, Nat.le_of_ble_eq_true rfl⟩) hK hN hP hD hS 2 17 rfl rfl gC_17 rfl hl.1 rfl (Nat.le_of_ble_eq_true rfl) dX2_stands_86 ⟨Nat.zero_le _, Nat.zero_le _⟩ (fun H locs hP hD hS => ?_)
                    by_cases c43 : vp_nar .boolean v41 = v41
                    case neg => rw [if_neg c43] at hF; cases hF
                    rw [if_pos c43] at hF
                    cases hF
                    exact z_zret hx hb hr hlocks hK hP hD hS (z_nar c43) dX2_stands_89
                  · rw [if_neg c40] at hF
                    refine lv_iconst (v := (0 : Int32)) hx hb dX2_stands_82 (by decide) ?_
                    cases hF
                    exact z_zret hx hb hr hlocks hK hP hD hS rfl dX2_stands_83
              · rw [if_neg c35] at hF
                refine lv_iconst (v := (0 : Int32)) hx hb dX2_stands_61 (by decide) ?_
                cases hF
                exact z_zret hx hb hr hlocks hK hP hD hS rfl dX2_stands_62
        · rw [if_neg c4] at hF
          refine lv_iconst (v := (0 : Int32)) hx hb dX2_stands_31 (by decide) ?_
          cases hF
          exact z_zret hx hb hr hlocks hK hP hD hS rfl dX2_stands_32
abbrev ts_X3_has : List Cond := .code yX3_has cX3_has 2 (some .boolean) :: wsL_law
set_option maxHeartbeats 4000000 in
set_option maxRecDepth 100000 in
theorem c_X3_has (l : Launch) (D : va_G) (cyI cyZ : ClassId) (a : Nat → Nat) (A : Nat → Prop) (σ : Mem) (x1 : Int32) (r : Int32) (hF : F_X3_has σ x1 = r) : CtI l yX3_has ts_X3_has ({ frames := 0, cells := 0, slots := 0, locals := 0 } : Room) [.ref (a 13), .int x1] D cyI cyZ A (wC cyI cyZ a σ) (wC cyI cyZ a σ) r := by
  refine CtI.of (cc := cX3_has) (maxL := 2) (ret := (some .boolean)) (by decide) rfl (Nat.le_of_ble_eq_true rfl) ?_
  intro p e s m below meth c ls hC hP hD hl
  obtain ⟨hx, hb, hr, hml, hown, hts, hK, hN, hlocks⟩ := hC
  have hown : s.vm.findClass RX3 = some m.cls := hown
  have hS : va_S A s.heap s.heap [] := va_S.rf
  have hl : lv_has ls 2 [(0, .ref (a 13)), (1, .int x1)] := hl
  unfold F_X3_has at hF
  refine lv_iload_n hx hb dX3_has_0 rfl (lv_at hl 1 rfl) ?_
  refine lv_if_lt (tgt := 16) hx hb dX3_has_1 (by decide) (fun c1 => ?_) (fun c1 => ?_)
  · rw [if_pos c1] at hF
    refine lv_iconst (v := (0 : Int32)) hx hb dX3_has_16 (by decide) ?_
    subst hF
    exact z_zret hx hb hr hlocks hK hP hD hS rfl dX3_has_17
  · rw [if_neg c1] at hF
    refine lv_iload_n hx hb dX3_has_4 rfl (lv_at hl 1 rfl) ?_
    refine lv_aload_n hx hb dX3_has_5 rfl (lv_at hl 0 rfl) ?_
    refine va_get (D := D) (ci := 3) (v := .int (σ 13 0)) (C := RX3) (T := TX3) (N := 3) hx hb hts inlX3 hown hK hP 13 gC_13 rfl 0 (by decide) (hts _ mw_343) (fun _ h9 => h9) rfl dX3_has_6 ?_
    refine lv_icmp_ge (tgt := 16) hx hb dX3_has_9 (by decide) (fun c2 => ?_) (fun c2 => ?_)
    · rw [if_pos c2] at hF
      refine lv_iconst (v := (0 : Int32)) hx hb dX3_has_16 (by decide) ?_
      subst hF
      exact z_zret hx hb hr hlocks hK hP hD hS rfl dX3_has_17
    · rw [if_neg c2] at hF
      refine lv_iconst (v := (1 : Int32)) hx hb dX3_has_12 (by decide) ?_
      refine lv_goto (tgt := 17) hx hb dX3_has_13 (by decide) ?_
      subst hF
      exact z_zret hx hb hr hlocks hK hP hD hS rfl dX3_has_17
abbrev ts_X3_add : List Cond := .code yX3_add cX3_add 3 (some .int) :: wsL_law
set_option maxHeartbeats 4000000 in
set_option maxRecDepth 100000 in
theorem c_X3_add (l : Launch) (D : va_G) (cyI cyZ : ClassId) (a : Nat → Nat) (A : Nat → Prop) (σ : Mem) (x1 : Int32) (x2 : Int32) (r : Int32) (σ' : Mem) (hF : F_X3_add σ x1 x2 = some (r, σ')) : CtI l yX3_add ts_X3_add ({ frames := 0, cells := 0, slots := 0, locals := 0 } : Room) [.ref (a 13), .int x1, .int x2] D cyI cyZ A (wC cyI cyZ a σ) (wC cyI cyZ a σ') r := by
  refine CtI.of (cc := cX3_add) (maxL := 3) (ret := (some .int)) (by decide) rfl (Nat.le_of_ble_eq_true rfl) ?_
  intro p e s m below meth c ls hC hP hD hl
  obtain ⟨hx, hb, hr, hml, hown, hts, hK, hN, hlocks⟩ := hC
  have hown : s.vm.findClass RX3 = some m.cls := hown
  have hS : va_S A s.heap s.heap [] := va_S.rf
  have hl : lv_has ls 3 [(0, .ref (a 13)), (1, .int x1), (2, .int x2)] := hl
  unfold F_X3_add at hF
  refine lv_aload_n hx hb dX3_add_0 rfl (lv_at hl 0 rfl) ?_
  refine va_get (D := D) (ci := 3) (v := .ref (a 15)) (C := RX3) (T := TX3) (N := 3) hx hb hts inlX3 hown hK hP 13 gC_13 rfl 2 (by decide) (hts _ mw_64) (fun _ h9 => h9) rfl dX3_add_1 ?_
  refine lv_aload_n hx hb dX3_add_4 rfl (lv_at hl 0 rfl) ?_
  refine va_get (D := D) (ci := 3) (v := .int (σ 13 0)) (C := RX3) (T := TX3) (N := 3) hx hb hts inlX3 hown hK hP 13 gC_13 rfl 0 (by decide) (hts _ mw_343) (fun _ h9 => h9) rfl dX3_add_5 ?_
  refine lv_iload_n hx hb dX3_add_8 rfl (lv_at hl 1 rfl) ?_
  obtain ⟨σ1, e2, hF⟩ := Option.bind_eq_some_iff.mp hF
  refine z_ist (wC cyI cyZ a) hx hb hK hP hD hS 15 gC_15 sC_15 e2 dX3_add_9 (fun H locs hP hD hS => ?_)
  refine lv_aload_n hx hb dX3_add_10 rfl (lv_at hl 0 rfl) ?_
  refine va_get (D := D) (ci := 3) (v := .ref (a 14)) (C := RX3) (T := TX3) (N := 3) hx hb hts inlX3 hown hK hP 13 gC_13 rfl 1 (by decide) (hts _ mw_63) (fun _ h9 => h9) rfl dX3_add_11 ?_
  refine lv_aload_n hx hb dX3_add_14 rfl (lv_at hl 0 rfl) ?_
  refine va_get (D := D) (ci := 3) (v := .int (σ1 13 0)) (C := RX3) (T := TX3) (N := 3) hx hb hts inlX3 hown hK hP 13 gC_13 rfl 0 (by decide) (hts _ mw_343) (fun _ h9 => h9) rfl dX3_add_15 ?_
  refine lv_iload_n hx hb dX3_add_18 rfl (lv_at hl 2 rfl) ?_
  obtain ⟨σ3, e4, hF⟩ := Option.bind_eq_some_iff.mp hF
  refine z_zst (wC cyI cyZ a) hx hb hK hP hD hS 14 gC_14 sC_14 e4 dX3_add_19 (fun H locs hP hD hS => ?_)
  refine lv_aload_n hx hb dX3_add_20 rfl (lv_at hl 0 rfl) ?_
  refine lv_dup hx hb dX3_add_21 rfl ?_
  refine va_get (D := D) (ci := 3) (v := .int (σ3 13 0)) (C := RX3) (T := TX3) (N := 3) hx hb hts inlX3 hown hK hP 13 gC_13 rfl 0 (by decide) (hts _ mw_343) (fun _ h9 => h9) rfl dX3_add_22 ?_
  refine lv_iconst (v := (1 : Int32)) hx hb dX3_add_25 (by decide) ?_
  refine lv_iadd hx hb dX3_add_26 ?_
  obtain ⟨σ5, e6, hF⟩ := Option.bind_eq_some_iff.mp hF
  refine va_put (D := D) (ci := 3) (v := .int ((σ3 13 0) + (1 : Int32))) (ty := .int) (C := RX3) (T := TX3) (N := 3) hx hb hts inlX3 tyX3 tyX3_ok nmX3 hown hK hP hD hS 13 gC_13 rfl 0 (by decide) (hts _ mw_343) (fun _ h9 => h9) rfl (by decide +kernel) rfl rfl (Nat.le_of_ble_eq_true rfl) dX3_add_27 (fun H locs hP hD hS => ?_)
  rw [sC_13_0, Option.some.inj e6] at hP hD
  refine lv_aload_n hx hb dX3_add_30 rfl (lv_at hl 0 rfl) ?_
  refine va_get (D := D) (ci := 3) (v := .int (σ5 13 0)) (C := RX3) (T := TX3) (N := 3) hx hb hts inlX3 hown hK hP 13 gC_13 rfl 0 (by decide) (hts _ mw_343) (fun _ h9 => h9) rfl dX3_add_31 ?_
  cases hF
  exact z_iret hx hb hr hlocks hK hP hD hS dX3_add_34
abbrev ts_X3_addWord : List Cond := .code yX3_addWord cX3_addWord 2 (some .int) :: wsL_law
set_option maxHeartbeats 4000000 in
set_option maxRecDepth 100000 in
theorem c_X3_addWord (l : Launch) (D : va_G) (cyI cyZ : ClassId) (a : Nat → Nat) (A : Nat → Prop) (σ : Mem) (x1 : Int32) (r : Int32) (σ' : Mem) (hF : F_X3_addWord σ x1 = some (r, σ')) : CtI l yX3_addWord ts_X3_addWord ({ frames := 1, cells := 0, slots := 0, locals := 22 } : Room) [.ref (a 13), .int x1] D cyI cyZ A (wC cyI cyZ a σ) (wC cyI cyZ a σ') r := by
  refine CtI.of (cc := cX3_addWord) (maxL := 2) (ret := (some .int)) (by decide) rfl (Nat.le_of_ble_eq_true rfl) ?_
  intro p e s m below meth c ls hC hP hD hl
  obtain ⟨hx, hb, hr, hml, hown, hts, hK, hN, hlocks⟩ := hC
  have hown : s.vm.findClass RX3 = some m.cls := hown
  have hS : va_S A s.heap s.heap [] := va_S.rf
  have hl : lv_has ls 2 [(0, .ref (a 13)), (1, .int x1)] := hl
  unfold F_X3_addWord at hF
  refine lv_aload_n hx hb dX3_addWord_0 rfl (lv_at hl 0 rfl) ?_
  refine lv_iload_n hx hb dX3_addWord_1 rfl (lv_at hl 1 rfl) ?_
  refine lv_iconst (v := (0 : Int32)) hx hb dX3_addWord_2 (by decide) ?_
  obtain ⟨p1, e2, hF⟩ := Option.bind_eq_some_iff.mp hF
  refine z_callVI (w' := (wC cyI cyZ a p1.2)) (As := [.int x1, .int (0 : Int32)]) (rest := []) ⟨hx, hb, hml, hown, hts⟩ (c_X3_add l D cyI cyZ a A σ x1 (0 : Int32) p1.1 p1.2 e2) (cwV 2 hts (gd_V mw_348 mw_349 mw_350 mw_22 mw_351) rfl rfl rfl (by decide +kernel) ⟨Nat.le_of_ble_eq_true rfl, Nat.le_of_ble_eq_true rfl⟩) hK hN hP hD hS 3 13 rfl rfl gC_13 rfl hl.1 rfl (Nat.le_of_ble_eq_true rfl) dX3_addWord_3 ⟨Nat.zero_le _, Nat.zero_le _⟩ (fun H locs hP hD hS => ?_)
  cases hF
  exact z_iret hx hb hr hlocks hK hP hD hS dX3_addWord_6
abbrev ts_X3_addNumber : List Cond := .code yX3_addNumber cX3_addNumber 2 (some .int) :: wsL_law
set_option maxHeartbeats 4000000 in
set_option maxRecDepth 100000 in
theorem c_X3_addNumber (l : Launch) (D : va_G) (cyI cyZ : ClassId) (a : Nat → Nat) (A : Nat → Prop) (σ : Mem) (x1 : Int32) (r : Int32) (σ' : Mem) (hF : F_X3_addNumber σ x1 = some (r, σ')) : CtI l yX3_addNumber ts_X3_addNumber ({ frames := 1, cells := 0, slots := 0, locals := 22 } : Room) [.ref (a 13), .int x1] D cyI cyZ A (wC cyI cyZ a σ) (wC cyI cyZ a σ') r := by
  refine CtI.of (cc := cX3_addNumber) (maxL := 2) (ret := (some .int)) (by decide) rfl (Nat.le_of_ble_eq_true rfl) ?_
  intro p e s m below meth c ls hC hP hD hl
  obtain ⟨hx, hb, hr, hml, hown, hts, hK, hN, hlocks⟩ := hC
  have hown : s.vm.findClass RX3 = some m.cls := hown
  have hS : va_S A s.heap s.heap [] := va_S.rf
  have hl : lv_has ls 2 [(0, .ref (a 13)), (1, .int x1)] := hl
  unfold F_X3_addNumber at hF
  refine lv_aload_n hx hb dX3_addNumber_0 rfl (lv_at hl 0 rfl) ?_
  refine lv_iload_n hx hb dX3_addNumber_1 rfl (lv_at hl 1 rfl) ?_
  refine lv_iconst (v := (1 : Int32)) hx hb dX3_addNumber_2 (by decide) ?_
  obtain ⟨p1, e2, hF⟩ := Option.bind_eq_some_iff.mp hF
  refine z_callVI (w' := (wC cyI cyZ a p1.2)) (As := [.int x1, .int (1 : Int32)]) (rest := []) ⟨hx, hb, hml, hown, hts⟩ (c_X3_add l D cyI cyZ a A σ x1 (1 : Int32) p1.1 p1.2 e2) (cwV 2 hts (gd_V mw_348 mw_349 mw_350 mw_22 mw_351) rfl rfl rfl (by decide +kernel) ⟨Nat.le_of_ble_eq_true rfl, Nat.le_of_ble_eq_true rfl⟩) hK hN hP hD hS 3 13 rfl rfl gC_13 rfl hl.1 rfl (Nat.le_of_ble_eq_true rfl) dX3_addNumber_3 ⟨Nat.zero_le _, Nat.zero_le _⟩ (fun H locs hP hD hS => ?_)
  cases hF
  exact z_iret hx hb hr hlocks hK hP hD hS dX3_addNumber_6
abbrev ts_X3_empty : List Cond := .code yX3_empty cX3_empty 2 (some .int) :: wsL_law
set_option maxHeartbeats 4000000 in
set_option maxRecDepth 100000 in
theorem c_X3_empty (l : Launch) (D : va_G) (cyI cyZ : ClassId) (a : Nat → Nat) (A : Nat → Prop) (σ : Mem) (r : Int32) (σ' : Mem) (hF : F_X3_empty σ  = some (r, σ')) : CtI l yX3_empty ts_X3_empty ({ frames := 0, cells := 0, slots := 0, locals := 0 } : Room) [.ref (a 13)] D cyI cyZ A (wC cyI cyZ a σ) (wC cyI cyZ a σ') r := by
  refine CtI.of (cc := cX3_empty) (maxL := 2) (ret := (some .int)) (by decide) rfl (Nat.le_of_ble_eq_true rfl) ?_
  intro p e s m below meth c ls hC hP hD hl
  obtain ⟨hx, hb, hr, hml, hown, hts, hK, hN, hlocks⟩ := hC
  have hown : s.vm.findClass RX3 = some m.cls := hown
  have hS : va_S A s.heap s.heap [] := va_S.rf
  have hl : lv_has ls 2 [(0, .ref (a 13))] := hl
  unfold F_X3_empty at hF
  refine lv_aload_n hx hb dX3_empty_0 rfl (lv_at hl 0 rfl) ?_
  refine va_get (D := D) (ci := 3) (v := .int (σ 13 0)) (C := RX3) (T := TX3) (N := 3) hx hb hts inlX3 hown hK hP 13 gC_13 rfl 0 (by decide) (hts _ mw_343) (fun _ h9 => h9) rfl dX3_empty_1 ?_
  refine lv_istore_n (lv' := [(1, .int (σ 13 0)), (0, .ref (a 13))]) hx hb dX3_empty_4 rfl hl (by decide) rfl (fun ls hl => ?_)
  refine lv_aload_n hx hb dX3_empty_5 rfl (lv_at hl 1 rfl) ?_
  refine lv_iconst (v := (0 : Int32)) hx hb dX3_empty_6 (by decide) ?_
  obtain ⟨σ1, e2, hF⟩ := Option.bind_eq_some_iff.mp hF
  refine va_put (D := D) (ci := 3) (v := .int (0 : Int32)) (ty := .int) (C := RX3) (T := TX3) (N := 3) hx hb hts inlX3 tyX3 tyX3_ok nmX3 hown hK hP hD hS 13 gC_13 rfl 0 (by decide) (hts _ mw_343) (fun _ h9 => h9) rfl (by decide +kernel) rfl rfl (Nat.le_of_ble_eq_true rfl) dX3_empty_7 (fun H locs hP hD hS => ?_)
  rw [sC_13_0, Option.some.inj e2] at hP hD
  refine lv_iload_n hx hb dX3_empty_10 rfl (lv_at hl 0 rfl) ?_
  cases hF
  exact z_iret hx hb hr hlocks hK hP hD hS dX3_empty_11
abbrev ts_X3_isFirstOfWord : List Cond := .code yX3_isFirstOfWord cX3_isFirstOfWord 3 (some .boolean) :: wsL_law
def SH_X3_isFirstOfWord (a : Nat → Nat) (ls : Array Slot) (pc : Nat) (vs : List Int32) : Prop := (pc = 0 ∧ ∃ x1 : Int32, vs = [x1] ∧ lv_has ls 3 [(0, .ref (a 13)), (1, .int x1)]) ∨ (pc = 12 ∧ ∃ x1 x2 : Int32, vs = [x1, x2] ∧ lv_has ls 3 [(0, .ref (a 13)), (1, .int x1), (2, .int x2)])
section
variable {p : Program} {l : Launch} {e : Env} {s : State} {m : MethodId} {args : Array Value} {below : List Frame} {meth : Method} {c : Code} {D : va_G} {A : Nat → Prop} {a : Nat → Nat} {cyI cyZ : ClassId} {r : Int32} {q : Unit × List Int32}
set_option maxHeartbeats 4000000 in
set_option maxRecDepth 100000 in
theorem wl_X3_isFirstOfWord_0 (σ : Mem) (hC : CX p c cX3_isFirstOfWord meth (some .boolean) s m args yX3_isFirstOfWord.cls 3 D cyI cyZ) (hq : extR q = some r) (n : Nat) (ih : ∀ (pc : Nat) (x : Unit) (vs : List Int32) (ls : Array Slot) (H : Heap) (locs : List Loc), goL (B_X3_isFirstOfWord σ) n pc x vs = some q → SH_X3_isFirstOfWord a ls pc vs → va_P D vwCl (wC cyI cyZ a σ) H → va_D A (wC cyI cyZ a σ) → va_S A s.heap H locs → W p l e (headSpec ts_X3_isFirstOfWord ({ frames := 1, cells := 0, slots := 0, locals := 21 } : Room)).room s m args below meth c H locs 0 0 (MQ below (QcI D cyI cyZ A (wC cyI cyZ a σ) r) args s 0 0 A) (F0 m pc ls [])) (x1 : Int32) (ls : Array Slot) (H : Heap) (locs : List Loc) (hgo : goL (B_X3_isFirstOfWord σ) (n + 1) 0 () [x1] = some q) (hl : lv_has ls 3 [(0, .ref (a 13)), (1, .int x1)]) (hP : va_P D vwCl (wC cyI cyZ a σ) H) (hD : va_D A (wC cyI cyZ a σ)) (hS : va_S A s.heap H locs) : W p l e (headSpec ts_X3_isFirstOfWord ({ frames := 1, cells := 0, slots := 0, locals := 21 } : Room)).room s m args below meth c H locs 0 0 (MQ below (QcI D cyI cyZ A (wC cyI cyZ a σ) r) args s 0 0 A) (F0 m 0 ls []) := by
  obtain ⟨hx, hb, hr, hml, hown, hts, hK, hN, hlocks⟩ := hC
  have hown : s.vm.findClass RX3 = some m.cls := hown
  obtain ⟨yy, hF, hgo⟩ := goL_step (by decide) hgo
  have hF : B_X3_isFirstOfWord_0 σ x1 = some yy := hF
  unfold B_X3_isFirstOfWord_0 at hF
  refine lv_aload_n hx hb dX3_isFirstOfWord_0 rfl (lv_at hl 0 rfl) ?_
  refine lv_iload_n hx hb dX3_isFirstOfWord_1 rfl (lv_at hl 1 rfl) ?_
  obtain ⟨v1, e2, hF⟩ := Option.bind_eq_some_iff.mp hF
  refine z_callVI (w' := (wC cyI cyZ a σ)) (As := [.int x1]) (rest := []) ⟨hx, hb, hml, hown, hts⟩ (c_X3_isWordAt l D cyI cyZ a A σ x1 _ e2) (cwV 1 hts (gd_V mw_817 mw_416 mw_417 mw_22 mw_418) rfl rfl rfl (by decide +kernel) ⟨Nat.le_of_ble_eq_true rfl, Nat.le_of_ble_eq_true rfl⟩) hK hN hP hD hS 3 13 rfl rfl gC_13 rfl hl.1 rfl (Nat.le_of_ble_eq_true rfl) dX3_isFirstOfWord_2 ⟨Nat.zero_le _, Nat.zero_le _⟩ (fun H locs hP hD hS => ?_)
  refine lv_if_ne (tgt := 10) hx hb dX3_isFirstOfWord_5 (by decide) (fun c3 => ?_) (fun c3 => ?_)
  · rw [if_neg c3] at hF
    refine lv_iconst (v := (0 : Int32)) hx hb dX3_isFirstOfWord_10 (by decide) ?_
    refine lv_istore_n (lv' := [(2, .int (0 : Int32)), (0, .ref (a 13)), (1, .int x1)]) hx hb dX3_isFirstOfWord_11 rfl hl (by decide) rfl (fun ls hl => ?_)
    cases hF
    exact ih _ _ _ _ _ _ hgo (Or.inr (⟨rfl, _, _, rfl, lv_sub hl [1, 2, 0] rfl⟩)) hP hD hS
  · rw [if_pos c3] at hF
    refine lv_iconst (v := (0 : Int32)) hx hb dX3_isFirstOfWord_8 (by decide) ?_
    cases hF
    obtain rfl := extR_ret hq (goL_ret hgo)
    exact z_zret hx hb hr hlocks hK hP hD hS rfl dX3_isFirstOfWord_9
set_option maxHeartbeats 4000000 in
set_option maxRecDepth 100000 in
theorem wl_X3_isFirstOfWord_12 (σ : Mem) (hC : CX p c cX3_isFirstOfWord meth (some .boolean) s m args yX3_isFirstOfWord.cls 3 D cyI cyZ) (hq : extR q = some r) (n : Nat) (ih : ∀ (pc : Nat) (x : Unit) (vs : List Int32) (ls : Array Slot) (H : Heap) (locs : List Loc), goL (B_X3_isFirstOfWord σ) n pc x vs = some q → SH_X3_isFirstOfWord a ls pc vs → va_P D vwCl (wC cyI cyZ a σ) H → va_D A (wC cyI cyZ a σ) → va_S A s.heap H locs → W p l e (headSpec ts_X3_isFirstOfWord ({ frames := 1, cells := 0, slots := 0, locals := 21 } : Room)).room s m args below meth c H locs 0 0 (MQ below (QcI D cyI cyZ A (wC cyI cyZ a σ) r) args s 0 0 A) (F0 m pc ls [])) (x1 : Int32) (x2 : Int32) (ls : Array Slot) (H : Heap) (locs : List Loc) (hgo : goL (B_X3_isFirstOfWord σ) (n + 1) 12 () [x1, x2] = some q) (hl : lv_has ls 3 [(0, .ref (a 13)), (1, .int x1), (2, .int x2)]) (hP : va_P D vwCl (wC cyI cyZ a σ) H) (hD : va_D A (wC cyI cyZ a σ)) (hS : va_S A s.heap H locs) : W p l e (headSpec ts_X3_isFirstOfWord ({ frames := 1, cells := 0, slots := 0, locals := 21 } : Room)).room s m args below meth c H locs 0 0 (MQ below (QcI D cyI cyZ A (wC cyI cyZ a σ) r) args s 0 0 A) (F0 m 12 ls []) := by
  obtain ⟨hx, hb, hr, hml, hown, hts, hK, hN, hlocks⟩ := hC
  have hown : s.vm.findClass RX3 = some m.cls := hown
  obtain ⟨yy, hF, hgo⟩ := goL_step (by decide) hgo
  have hF : B_X3_isFirstOfWord_12 σ x1 x2 = some yy := hF
  unfold B_X3_isFirstOfWord_12 at hF
  refine lv_iload_n hx hb dX3_isFirstOfWord_12 rfl (lv_at hl 2 rfl) ?_
  refine lv_iload_n hx hb dX3_isFirstOfWord_13 rfl (lv_at hl 1 rfl) ?_
  refine lv_icmp_ge (tgt := 48) hx hb dX3_isFirstOfWord_14 (by decide) (fun c1 => ?_) (fun c1 => ?_)
  · rw [if_pos c1] at hF
    refine lv_iconst (v := (1 : Int32)) hx hb dX3_isFirstOfWord_48 (by decide) ?_
    cases hF
    obtain rfl := extR_ret hq (goL_ret hgo)
    exact z_zret hx hb hr hlocks hK hP hD hS rfl dX3_isFirstOfWord_49
  · rw [if_neg c1] at hF
    refine lv_aload_n hx hb dX3_isFirstOfWord_17 rfl (lv_at hl 0 rfl) ?_
    refine lv_iload_n hx hb dX3_isFirstOfWord_18 rfl (lv_at hl 2 rfl) ?_
    obtain ⟨v2, e3, hF⟩ := Option.bind_eq_some_iff.mp hF
    refine z_callVI (w' := (wC cyI cyZ a σ)) (As := [.int x2]) (rest := []) ⟨hx, hb, hml, hown, hts⟩ (c_X3_isWordAt l D cyI cyZ a A σ x2 _ e3) (cwV 1 hts (gd_V mw_817 mw_416 mw_417 mw_22 mw_418) rfl rfl rfl (by decide +kernel) ⟨Nat.le_of_ble_eq_true rfl, Nat.le_of_ble_eq_true rfl⟩) hK hN hP hD hS 3 13 rfl rfl gC_13 rfl hl.1 rfl (Nat.le_of_ble_eq_true rfl) dX3_isFirstOfWord_19 ⟨Nat.zero_le _, Nat.zero_le _⟩ (fun H locs hP hD hS => ?_)
    refine lv_if_eq (tgt := 42) hx hb dX3_isFirstOfWord_22 (by decide) (fun c4 => ?_) (fun c4 => ?_)
    · rw [if_pos c4] at hF
      refine lv_iinc (v := (x2 + (1 : Int32))) (lv' := [(2, .int (x2 + (1 : Int32))), (0, .ref (a 13)), (1, .int x1)]) hx hb dX3_isFirstOfWord_42 hl (k := 2) rfl rfl (by decide) rfl (fun ls hl => ?_)
      refine lv_goto (tgt := 12) hx hb dX3_isFirstOfWord_45 (by decide) ?_
      cases hF
      exact ih _ _ _ _ _ _ hgo (Or.inr (⟨rfl, _, _, rfl, lv_sub hl [1, 2, 0] rfl⟩)) hP hD hS
    · rw [if_neg c4] at hF
      refine lv_aload_n hx hb dX3_isFirstOfWord_25 rfl (lv_at hl 0 rfl) ?_
      refine va_get (D := D) (ci := 3) (v := .ref (a 15)) (C := RX3) (T := TX3) (N := 3) hx hb hts inlX3 hown hK hP 13 gC_13 rfl 2 (by decide) (hts _ mw_64) (fun _ h9 => h9) rfl dX3_isFirstOfWord_26 ?_
      refine lv_iload_n hx hb dX3_isFirstOfWord_29 rfl (lv_at hl 2 rfl) ?_
      obtain ⟨v5, e6, hF⟩ := Option.bind_eq_some_iff.mp hF
      refine z_ild hx hb hK hP 15 gC_15 e6 dX3_isFirstOfWord_30 ?_
      refine lv_aload_n hx hb dX3_isFirstOfWord_31 rfl (lv_at hl 0 rfl) ?_
      refine va_get (D := D) (ci := 3) (v := .ref (a 15)) (C := RX3) (T := TX3) (N := 3) hx hb hts inlX3 hown hK hP 13 gC_13 rfl 2 (by decide) (hts _ mw_64) (fun _ h9 => h9) rfl dX3_isFirstOfWord_32 ?_
      refine lv_iload_n hx hb dX3_isFirstOfWord_35 rfl (lv_at hl 1 rfl) ?_
      obtain ⟨v7, e8, hF⟩ := Option.bind_eq_some_iff.mp hF
      refine z_ild hx hb hK hP 15 gC_15 e8 dX3_isFirstOfWord_36 ?_
      refine lv_icmp_ne (tgt := 42) hx hb dX3_isFirstOfWord_37 (by decide) (fun c9 => ?_) (fun c9 => ?_)
      · rw [if_neg c9] at hF
        refine lv_iinc (v := (x2 + (1 : Int32))) (lv' := [(2, .int (x2 + (1 : Int32))), (0, .ref (a 13)), (1, .int x1)]) hx hb dX3_isFirstOfWord_42 hl (k := 2) rfl rfl (by decide) rfl (fun ls hl => ?_)
        refine lv_goto (tgt := 12) hx hb dX3_isFirstOfWord_45 (by decide) ?_
        cases hF
        exact ih _ _ _ _ _ _ hgo (Or.inr (⟨rfl, _, _, rfl, lv_sub hl [1, 2, 0] rfl⟩)) hP hD hS
      · rw [if_pos c9] at hF
        refine lv_iconst (v := (0 : Int32)) hx hb dX3_isFirstOfWord_40 (by decide) ?_
        cases hF
        obtain rfl := extR_ret hq (goL_ret hgo)
        exact z_zret hx hb hr hlocks hK hP hD hS rfl dX3_isFirstOfWord_41
theorem wk_X3_isFirstOfWord (σ : Mem) (hC : CX p c cX3_isFirstOfWord meth (some .boolean) s m args yX3_isFirstOfWord.cls 3 D cyI cyZ) (hq : extR q = some r) : ∀ (n : Nat), ∀ (pc : Nat) (x : Unit) (vs : List Int32) (ls : Array Slot) (H : Heap) (locs : List Loc), goL (B_X3_isFirstOfWord σ) n pc x vs = some q → SH_X3_isFirstOfWord a ls pc vs → va_P D vwCl (wC cyI cyZ a σ) H → va_D A (wC cyI cyZ a σ) → va_S A s.heap H locs → W p l e (headSpec ts_X3_isFirstOfWord ({ frames := 1, cells := 0, slots := 0, locals := 21 } : Room)).room s m args below meth c H locs 0 0 (MQ below (QcI D cyI cyZ A (wC cyI cyZ a σ) r) args s 0 0 A) (F0 m pc ls []) := by
  intro n
  induction n with
  | zero => intro pc x vs ls H locs h; exact absurd h (by simp [goL])
  | succ n ih =>
    intro pc x vs ls H locs hgo hsh hP hD hS
    rcases hsh with ⟨rfl, x1, rfl, hl⟩ | ⟨rfl, x1, x2, rfl, hl⟩
    · exact wl_X3_isFirstOfWord_0 σ hC hq n ih x1 ls H locs hgo hl hP hD hS
    · exact wl_X3_isFirstOfWord_12 σ hC hq n ih x1 x2 ls H locs hgo hl hP hD hS
end
theorem c_X3_isFirstOfWord (l : Launch) (D : va_G) (cyI cyZ : ClassId) (a : Nat → Nat) (A : Nat → Prop) (σ : Mem) (x1 : Int32) (r : Int32) (hF : F_X3_isFirstOfWord σ x1 = some r) : CtI l yX3_isFirstOfWord ts_X3_isFirstOfWord ({ frames := 1, cells := 0, slots := 0, locals := 21 } : Room) [.ref (a 13), .int x1] D cyI cyZ A (wC cyI cyZ a σ) (wC cyI cyZ a σ) r := by
  refine CtI.of (cc := cX3_isFirstOfWord) (maxL := 3) (ret := (some .boolean)) (by decide) rfl (Nat.le_of_ble_eq_true rfl) ?_
  intro p e s m below meth c ls hC hP hD hl
  obtain ⟨q, hq, hr1⟩ := Option.bind_eq_some_iff.mp hF
  obtain ⟨n, hn⟩ := finL_some hq
  exact wk_X3_isFirstOfWord σ hC hr1 n 0 _ _ ls _ _ hn (Or.inl ⟨rfl, _, rfl, hl⟩) hP hD va_S.rf
abbrev ts_X5_spoil : List Cond := .code yX5_spoil cX5_spoil 1 none :: wsL_law
set_option maxHeartbeats 4000000 in
set_option maxRecDepth 100000 in
theorem c_X5_spoil (l : Launch) (D : va_G) (cyI cyZ : ClassId) (a : Nat → Nat) (A : Nat → Prop) (σ : Mem) (σ' : Mem) (hF : F_X5_spoil σ  = some σ') : CtV l yX5_spoil ts_X5_spoil ({ frames := 0, cells := 0, slots := 0, locals := 0 } : Room) [.ref (a 16)] D cyI cyZ A (wC cyI cyZ a σ) (wC cyI cyZ a σ') := by
  refine CtV.of (cc := cX5_spoil) (maxL := 1) (ret := none) (by decide) rfl (Nat.le_of_ble_eq_true rfl) ?_
  intro p e s m below meth c ls hC hP hD hl
  obtain ⟨hx, hb, hr, hml, hown, hts, hK, hN, hlocks⟩ := hC
  have hown : s.vm.findClass RX5 = some m.cls := hown
  have hS : va_S A s.heap s.heap [] := va_S.rf
  have hl : lv_has ls 1 [(0, .ref (a 16))] := hl
  unfold F_X5_spoil at hF
  refine lv_aload_n hx hb dX5_spoil_0 rfl (lv_at hl 0 rfl) ?_
  refine lv_iconst (v := (0 : Int32)) hx hb dX5_spoil_1 (by decide) ?_
  obtain ⟨σ1, e2, hF⟩ := Option.bind_eq_some_iff.mp hF
  refine va_put (D := D) (ci := 5) (v := .int (0 : Int32)) (ty := .boolean) (C := RX5) (T := TX5) (N := 11) hx hb hts inlX5 tyX5 tyX5_ok nmX5 hown hK hP hD hS 16 gC_16 rfl 10 (by decide) (hts _ mw_266) (fun _ h9 => h9) rfl (by decide +kernel) rfl rfl (Nat.le_of_ble_eq_true rfl) dX5_spoil_2 (fun H locs hP hD hS => ?_)
  rw [sC_16_9, Option.some.inj e2] at hP hD
  cases hF
  exact z_vret hx hb hr hlocks hK hP hD hS dX5_spoil_5
abbrev ts_X5_hasSort : List Cond := .code yX5_hasSort cX5_hasSort 4 (some .boolean) :: wsL_law
set_option maxHeartbeats 4000000 in
set_option maxRecDepth 100000 in
theorem c_X5_hasSort (l : Launch) (D : va_G) (cyI cyZ : ClassId) (a : Nat → Nat) (A : Nat → Prop) (σ : Mem) (x1 : Int32) (x2 : Int32) (x3 : Int32) (r : Int32) (hF : F_X5_hasSort σ x1 x2 x3 = some r) : CtI l yX5_hasSort ts_X5_hasSort ({ frames := 1, cells := 0, slots := 0, locals := 22 } : Room) [.ref (a 16), .int x1, .int x2, .int x3] D cyI cyZ A (wC cyI cyZ a σ) (wC cyI cyZ a σ) r := by
  refine CtI.of (cc := cX5_hasSort) (maxL := 4) (ret := (some .boolean)) (by decide) rfl (Nat.le_of_ble_eq_true rfl) ?_
  intro p e s m below meth c ls hC hP hD hl
  obtain ⟨hx, hb, hr, hml, hown, hts, hK, hN, hlocks⟩ := hC
  have hown : s.vm.findClass RX5 = some m.cls := hown
  have hS : va_S A s.heap s.heap [] := va_S.rf
  have hl : lv_has ls 4 [(0, .ref (a 16)), (1, .int x1), (2, .int x2), (3, .int x3)] := hl
  unfold F_X5_hasSort at hF
  refine lv_aload_n hx hb dX5_hasSort_0 rfl (lv_at hl 0 rfl) ?_
  refine va_get (D := D) (ci := 5) (v := .ref (a 13)) (C := RX5) (T := TX5) (N := 11) hx hb hts inlX5 hown hK hP 16 gC_16 rfl 2 (by decide) (hts _ mw_80) (fun _ h9 => h9) rfl dX5_hasSort_1 ?_
  refine lv_iload_n hx hb dX5_hasSort_4 rfl (lv_at hl 2 rfl) ?_
  obtain ⟨v1, e2, hF⟩ := Option.bind_eq_some_iff.mp hF
  refine z_callVI (w' := (wC cyI cyZ a σ)) (As := [.int x2]) (rest := []) ⟨hx, hb, hml, hown, hts⟩ (c_X3_isWordAt l D cyI cyZ a A σ x2 _ e2) (cwV 1 hts (gd_V mw_415 mw_416 mw_417 mw_22 mw_418) rfl rfl rfl (by decide +kernel) ⟨Nat.le_of_ble_eq_true rfl, Nat.le_of_ble_eq_true rfl⟩) hK hN hP hD hS 3 13 rfl rfl gC_13 rfl hl.1 rfl (Nat.le_of_ble_eq_true rfl) dX5_hasSort_5 ⟨Nat.zero_le _, Nat.zero_le _⟩ (fun H locs hP hD hS => ?_)
  refine lv_if_eq (tgt := 46) hx hb dX5_hasSort_8 (by decide) (fun c3 => ?_) (fun c3 => ?_)
  · rw [if_pos c3] at hF
    refine lv_iconst (v := (0 : Int32)) hx hb dX5_hasSort_46 (by decide) ?_
    cases hF
    exact z_zret hx hb hr hlocks hK hP hD hS rfl dX5_hasSort_47
  · rw [if_neg c3] at hF
    refine lv_aload_n hx hb dX5_hasSort_11 rfl (lv_at hl 0 rfl) ?_
    refine va_get (D := D) (ci := 5) (v := .ref (a 6)) (C := RX5) (T := TX5) (N := 11) hx hb hts inlX5 hown hK hP 16 gC_16 rfl 1 (by decide) (hts _ mw_79) (fun _ h9 => h9) rfl dX5_hasSort_12 ?_
    refine lv_aload_n hx hb dX5_hasSort_15 rfl (lv_at hl 0 rfl) ?_
    refine va_get (D := D) (ci := 5) (v := .ref (a 6)) (C := RX5) (T := TX5) (N := 11) hx hb hts inlX5 hown hK hP 16 gC_16 rfl 1 (by decide) (hts _ mw_79) (fun _ h9 => h9) rfl dX5_hasSort_16 ?_
    refine lv_aload_n hx hb dX5_hasSort_19 rfl (lv_at hl 0 rfl) ?_
    refine va_get (D := D) (ci := 5) (v := .ref (a 13)) (C := RX5) (T := TX5) (N := 11) hx hb hts inlX5 hown hK hP 16 gC_16 rfl 2 (by decide) (hts _ mw_80) (fun _ h9 => h9) rfl dX5_hasSort_20 ?_
    refine lv_iload_n hx hb dX5_hasSort_23 rfl (lv_at hl 2 rfl) ?_
    obtain ⟨v4, e5, hF⟩ := Option.bind_eq_some_iff.mp hF
    refine z_callVI (w' := (wC cyI cyZ a σ)) (As := [.int x2]) (rest := [.ref (a 6), .ref (a 6)]) ⟨hx, hb, hml, hown, hts⟩ (c_X3_tokenAt l D cyI cyZ a A σ x2 _ e5) (cwV 1 hts (gd_V mw_419 mw_420 mw_421 mw_22 mw_422) rfl rfl rfl (by decide +kernel) ⟨Nat.le_of_ble_eq_true rfl, Nat.le_of_ble_eq_true rfl⟩) hK hN hP hD hS 3 13 rfl rfl gC_13 rfl hl.1 rfl (Nat.le_of_ble_eq_true rfl) dX5_hasSort_24 ⟨Nat.zero_le _, Nat.zero_le _⟩ (fun H locs hP hD hS => ?_)
    refine lv_iload_n hx hb dX5_hasSort_27 rfl (lv_at hl 1 rfl) ?_
    refine lv_iload_n hx hb dX5_hasSort_28 rfl (lv_at hl 2 rfl) ?_
    refine z_callSI (w' := (wC cyI cyZ a σ)) (As := [.int x1, .int x2]) (rest := [.int v4, .ref (a 6), .ref (a 6)]) ⟨hx, hb, hml, hown, hts⟩ (c_X5_meaningIn l D cyI cyZ A (wC cyI cyZ a σ) x1 x2 _ rfl) (va_cwS 2 hts (gd_S mw_423 mw_424 mw_26 mw_425) rfl rfl rfl (by decide +kernel) ⟨Nat.le_of_ble_eq_true rfl, Nat.le_of_ble_eq_true rfl⟩) hK hN hP hD hS rfl hl.1 rfl (Nat.le_of_ble_eq_true rfl) dX5_hasSort_29 ⟨Nat.zero_le _, Nat.zero_le _⟩ (fun H locs hP hD hS => ?_)
    refine z_callVI (w' := (wC cyI cyZ a σ)) (As := [.int v4, .int (F_X5_meaningIn x1 x2)]) (rest := [.ref (a 6)]) ⟨hx, hb, hml, hown, hts⟩ (c_X7_spotOf l D cyI cyZ a A σ v4 (F_X5_meaningIn x1 x2) _ rfl) (cwV 2 hts (gd_V mw_426 mw_296 mw_297 mw_18 mw_298) rfl rfl rfl (by decide +kernel) ⟨Nat.le_of_ble_eq_true rfl, Nat.le_of_ble_eq_true rfl⟩) hK hN hP hD hS 7 6 rfl rfl gC_6 rfl hl.1 rfl (Nat.le_of_ble_eq_true rfl) dX5_hasSort_32 ⟨Nat.zero_le _, Nat.zero_le _⟩ (fun H locs hP hD hS => ?_)
    obtain ⟨v6, e7, hF⟩ := Option.bind_eq_some_iff.mp hF
    refine z_callVI (w' := (wC cyI cyZ a σ)) (As := [.int (F_X7_spotOf σ v4 (F_X5_meaningIn x1 x2))]) (rest := []) ⟨hx, hb, hml, hown, hts⟩ (c_X7_sortAt l D cyI cyZ a A σ (F_X7_spotOf σ v4 (F_X5_meaningIn x1 x2)) _ e7) (cwV 1 hts (gd_V mw_427 mw_428 mw_429 mw_18 mw_430) rfl rfl rfl (by decide +kernel) ⟨Nat.le_of_ble_eq_true rfl, Nat.le_of_ble_eq_true rfl⟩) hK hN hP hD hS 7 6 rfl rfl gC_6 rfl hl.1 rfl (Nat.le_of_ble_eq_true rfl) dX5_hasSort_35 ⟨Nat.zero_le _, Nat.zero_le _⟩ (fun H locs hP hD hS => ?_)
    refine lv_iload_n hx hb dX5_hasSort_38 rfl (lv_at hl 3 rfl) ?_
    refine lv_icmp_ne (tgt := 46) hx hb dX5_hasSort_39 (by decide) (fun c8 => ?_) (fun c8 => ?_)
    · rw [if_neg c8] at hF
      refine lv_iconst (v := (0 : Int32)) hx hb dX5_hasSort_46 (by decide) ?_
      cases hF
      exact z_zret hx hb hr hlocks hK hP hD hS rfl dX5_hasSort_47
    · rw [if_pos c8] at hF
      refine lv_iconst (v := (1 : Int32)) hx hb dX5_hasSort_42 (by decide) ?_
      refine lv_goto (tgt := 47) hx hb dX5_hasSort_43 (by decide) ?_
      cases hF
      exact z_zret hx hb hr hlocks hK hP hD hS rfl dX5_hasSort_47
abbrev ts_X5_passNumber : List Cond := .code yX5_passNumber cX5_passNumber 5 (some .int) :: wsL_law
def SH_X5_passNumber (a : Nat → Nat) (ls : Array Slot) (pc : Nat) (vs : List Int32) : Prop := (pc = 0 ∧ ∃ x1 x2 : Int32, vs = [x1, x2] ∧ lv_has ls 5 [(0, .ref (a 16)), (1, .int x1), (2, .int x2)]) ∨ (pc = 5 ∧ ∃ x1 x2 x3 x4 : Int32, vs = [x1, x2, x3, x4] ∧ lv_has ls 5 [(0, .ref (a 16)), (1, .int x1), (2, .int x2), (3, .int x3), (4, .int x4)])
section
variable {p : Program} {l : Launch} {e : Env} {s : State} {m : MethodId} {args : Array Value} {below : List Frame} {meth : Method} {c : Code} {D : va_G} {A : Nat → Prop} {a : Nat → Nat} {cyI cyZ : ClassId} {r : Int32} {σ' : Mem} {q : Mem × List Int32}
set_option maxHeartbeats 4000000 in
set_option maxRecDepth 100000 in
theorem wl_X5_passNumber_0 (σ : Mem) (hC : CX p c cX5_passNumber meth (some .int) s m args yX5_passNumber.cls 5 D cyI cyZ) (hq : extM q = some (r, σ')) (n : Nat) (ih : ∀ (pc : Nat) (x : Mem) (vs : List Int32) (ls : Array Slot) (H : Heap) (locs : List Loc), goL B_X5_passNumber n pc x vs = some q → SH_X5_passNumber a ls pc vs → va_P D vwCl (wC cyI cyZ a x) H → va_D A (wC cyI cyZ a x) → va_S A s.heap H locs → W p l e (headSpec ts_X5_passNumber ({ frames := 2, cells := 0, slots := 0, locals := 45 } : Room)).room s m args below meth c H locs 0 0 (MQ below (QcI D cyI cyZ A (wC cyI cyZ a σ') r) args s 0 0 A) (F0 m pc ls [])) (x1 : Int32) (x2 : Int32) (ls : Array Slot) (H : Heap) (locs : List Loc) (hgo : goL B_X5_passNumber (n + 1) 0 σ [x1, x2] = some q) (hl : lv_has ls 5 [(0, .ref (a 16)), (1, .int x1), (2, .int x2)]) (hP : va_P D vwCl (wC cyI cyZ a σ) H) (hD : va_D A (wC cyI cyZ a σ)) (hS : va_S A s.heap H locs) : W p l e (headSpec ts_X5_passNumber ({ frames := 2, cells := 0, slots := 0, locals := 45 } : Room)).room s m args below meth c H locs 0 0 (MQ below (QcI D cyI cyZ A (wC cyI cyZ a σ') r) args s 0 0 A) (F0 m 0 ls []) := by
  obtain ⟨hx, hb, hr, hml, hown, hts, hK, hN, hlocks⟩ := hC
  have hown : s.vm.findClass RX5 = some m.cls := hown
  obtain ⟨yy, hF, hgo⟩ := goL_step (by decide) hgo
  have hF : B_X5_passNumber_0 σ x1 x2 = some yy := hF
  unfold B_X5_passNumber_0 at hF
  refine lv_iconst (v := (0 : Int32)) hx hb dX5_passNumber_0 (by decide) ?_
  refine lv_istore_n (lv' := [(3, .int (0 : Int32)), (0, .ref (a 16)), (1, .int x1), (2, .int x2)]) hx hb dX5_passNumber_1 rfl hl (by decide) rfl (fun ls hl => ?_)
  refine lv_iconst (v := (0 : Int32)) hx hb dX5_passNumber_2 (by decide) ?_
  refine lv_istore (lv' := [(4, .int (0 : Int32)), (3, .int (0 : Int32)), (0, .ref (a 16)), (1, .int x1), (2, .int x2)]) hx hb dX5_passNumber_3 hl (by decide) rfl (fun ls hl => ?_)
  cases hF
  exact ih _ _ _ _ _ _ hgo (Or.inr (⟨rfl, _, _, _, _, rfl, lv_sub hl [2, 3, 4, 1, 0] rfl⟩)) hP hD hS
set_option maxHeartbeats 4000000 in
set_option maxRecDepth 100000 in
theorem wl_X5_passNumber_5 (σ : Mem) (hC : CX p c cX5_passNumber meth (some .int) s m args yX5_passNumber.cls 5 D cyI cyZ) (hq : extM q = some (r, σ')) (n : Nat) (ih : ∀ (pc : Nat) (x : Mem) (vs : List Int32) (ls : Array Slot) (H : Heap) (locs : List Loc), goL B_X5_passNumber n pc x vs = some q → SH_X5_passNumber a ls pc vs → va_P D vwCl (wC cyI cyZ a x) H → va_D A (wC cyI cyZ a x) → va_S A s.heap H locs → W p l e (headSpec ts_X5_passNumber ({ frames := 2, cells := 0, slots := 0, locals := 45 } : Room)).room s m args below meth c H locs 0 0 (MQ below (QcI D cyI cyZ A (wC cyI cyZ a σ') r) args s 0 0 A) (F0 m pc ls [])) (x1 : Int32) (x2 : Int32) (x3 : Int32) (x4 : Int32) (ls : Array Slot) (H : Heap) (locs : List Loc) (hgo : goL B_X5_passNumber (n + 1) 5 σ [x1, x2, x3, x4] = some q) (hl : lv_has ls 5 [(0, .ref (a 16)), (1, .int x1), (2, .int x2), (3, .int x3), (4, .int x4)]) (hP : va_P D vwCl (wC cyI cyZ a σ) H) (hD : va_D A (wC cyI cyZ a σ)) (hS : va_S A s.heap H locs) : W p l e (headSpec ts_X5_passNumber ({ frames := 2, cells := 0, slots := 0, locals := 45 } : Room)).room s m args below meth c H locs 0 0 (MQ below (QcI D cyI cyZ A (wC cyI cyZ a σ') r) args s 0 0 A) (F0 m 5 ls []) := by
  obtain ⟨hx, hb, hr, hml, hown, hts, hK, hN, hlocks⟩ := hC
  have hown : s.vm.findClass RX5 = some m.cls := hown
  obtain ⟨yy, hF, hgo⟩ := goL_step (by decide) hgo
  have hF : B_X5_passNumber_5 σ x1 x2 x3 x4 = some yy := hF
  unfold B_X5_passNumber_5 at hF
  refine lv_iload hx hb dX5_passNumber_5 (lv_at hl 4 rfl) ?_
  refine lv_iload_n hx hb dX5_passNumber_7 rfl (lv_at hl 2 rfl) ?_
  refine lv_icmp_ge (tgt := 51) hx hb dX5_passNumber_8 (by decide) (fun c1 => ?_) (fun c1 => ?_)
  · rw [if_pos c1] at hF
    refine lv_iload_n hx hb dX5_passNumber_51 rfl (lv_at hl 3 rfl) ?_
    cases hF
    obtain ⟨rfl, rfl⟩ := extM_ret hq (goL_ret hgo)
    exact z_iret hx hb hr hlocks hK hP hD hS dX5_passNumber_52
  · rw [if_neg c1] at hF
    refine lv_aload_n hx hb dX5_passNumber_11 rfl (lv_at hl 0 rfl) ?_
    refine lv_aload_n hx hb dX5_passNumber_12 rfl (lv_at hl 0 rfl) ?_
    refine va_get (D := D) (ci := 5) (v := .ref (a (kx σ))) (C := RX5) (T := TX5) (N := 11) hx hb hts inlX5 hown hK hP 16 gC_16 rfl 7 (by decide) (hts _ mw_76) (fun _ h9 => h9) rfl dX5_passNumber_13 ?_
    refine lv_iload hx hb dX5_passNumber_16 (lv_at hl 4 rfl) ?_
    obtain ⟨v2, e3, hF⟩ := Option.bind_eq_some_iff.mp hF
    refine z_ild hx hb hK hP (kx σ) gC_K e3 dX5_passNumber_18 ?_
    refine lv_iload_n hx hb dX5_passNumber_19 rfl (lv_at hl 1 rfl) ?_
    refine lv_iconst (v := (1 : Int32)) hx hb dX5_passNumber_20 (by decide) ?_
    refine lv_isub hx hb dX5_passNumber_21 ?_
    refine lv_iconst (v := (4 : Int32)) hx hb dX5_passNumber_22 (by decide) ?_
    obtain ⟨v4, e5, hF⟩ := Option.bind_eq_some_iff.mp hF
    refine z_callVI (w' := (wC cyI cyZ a σ)) (As := [.int v2, .int (x1 - (1 : Int32)), .int (4 : Int32)]) (rest := []) ⟨hx, hb, hml, hown, hts⟩ (c_X5_hasSort l D cyI cyZ a A σ v2 (x1 - (1 : Int32)) (4 : Int32) _ e5) (cwV 3 hts (gd_V mw_411 mw_412 mw_413 mw_26 mw_414) rfl rfl rfl (by decide +kernel) ⟨Nat.le_of_ble_eq_true rfl, Nat.le_of_ble_eq_true rfl⟩) hK hN hP hD hS 5 16 rfl rfl gC_16 rfl hl.1 rfl (Nat.le_of_ble_eq_true rfl) dX5_passNumber_23 ⟨Nat.zero_le _, Nat.zero_le _⟩ (fun H locs hP hD hS => ?_)
    refine lv_if_eq (tgt := 45) hx hb dX5_passNumber_26 (by decide) (fun c6 => ?_) (fun c6 => ?_)
    · rw [if_pos c6] at hF
      refine lv_iinc (v := (x4 + (1 : Int32))) (lv' := [(4, .int (x4 + (1 : Int32))), (0, .ref (a 16)), (1, .int x1), (2, .int x2), (3, .int x3)]) hx hb dX5_passNumber_45 hl (k := 4) rfl rfl (by decide) rfl (fun ls hl => ?_)
      refine lv_goto (tgt := 5) hx hb dX5_passNumber_48 (by decide) ?_
      cases hF
      exact ih _ _ _ _ _ _ hgo (Or.inr (⟨rfl, _, _, _, _, rfl, lv_sub hl [1, 2, 3, 4, 0] rfl⟩)) hP hD hS
    · rw [if_neg c6] at hF
      refine lv_aload_n hx hb dX5_passNumber_29 rfl (lv_at hl 0 rfl) ?_
      refine va_get (D := D) (ci := 5) (v := .ref (a (kx σ))) (C := RX5) (T := TX5) (N := 11) hx hb hts inlX5 hown hK hP 16 gC_16 rfl 7 (by decide) (hts _ mw_76) (fun _ h9 => h9) rfl dX5_passNumber_30 ?_
      refine lv_iload_n hx hb dX5_passNumber_33 rfl (lv_at hl 3 rfl) ?_
      refine lv_aload_n hx hb dX5_passNumber_34 rfl (lv_at hl 0 rfl) ?_
      refine va_get (D := D) (ci := 5) (v := .ref (a (kx σ))) (C := RX5) (T := TX5) (N := 11) hx hb hts inlX5 hown hK hP 16 gC_16 rfl 7 (by decide) (hts _ mw_76) (fun _ h9 => h9) rfl dX5_passNumber_35 ?_
      refine lv_iload hx hb dX5_passNumber_38 (lv_at hl 4 rfl) ?_
      obtain ⟨v7, e8, hF⟩ := Option.bind_eq_some_iff.mp hF
      refine z_ild hx hb hK hP (kx σ) gC_K e8 dX5_passNumber_40 ?_
      obtain ⟨σ9, e10, hF⟩ := Option.bind_eq_some_iff.mp hF
      refine z_ist (wC cyI cyZ a) hx hb hK hP hD hS (kx σ) gC_K sC_K e10 dX5_passNumber_41 (fun H locs hP hD hS => ?_)
      refine lv_iinc (v := (x3 + (1 : Int32))) (lv' := [(3, .int (x3 + (1 : Int32))), (0, .ref (a 16)), (1, .int x1), (2, .int x2), (4, .int x4)]) hx hb dX5_passNumber_42 hl (k := 3) rfl rfl (by decide) rfl (fun ls hl => ?_)
      refine lv_iinc (v := (x4 + (1 : Int32))) (lv' := [(4, .int (x4 + (1 : Int32))), (3, .int (x3 + (1 : Int32))), (0, .ref (a 16)), (1, .int x1), (2, .int x2)]) hx hb dX5_passNumber_45 hl (k := 4) rfl rfl (by decide) rfl (fun ls hl => ?_)
      refine lv_goto (tgt := 5) hx hb dX5_passNumber_48 (by decide) ?_
      cases hF
      exact ih _ _ _ _ _ _ hgo (Or.inr (⟨rfl, _, _, _, _, rfl, lv_sub hl [2, 3, 4, 1, 0] rfl⟩)) hP hD hS
theorem wk_X5_passNumber (hC : CX p c cX5_passNumber meth (some .int) s m args yX5_passNumber.cls 5 D cyI cyZ) (hq : extM q = some (r, σ')) : ∀ (n : Nat), ∀ (pc : Nat) (x : Mem) (vs : List Int32) (ls : Array Slot) (H : Heap) (locs : List Loc), goL B_X5_passNumber n pc x vs = some q → SH_X5_passNumber a ls pc vs → va_P D vwCl (wC cyI cyZ a x) H → va_D A (wC cyI cyZ a x) → va_S A s.heap H locs → W p l e (headSpec ts_X5_passNumber ({ frames := 2, cells := 0, slots := 0, locals := 45 } : Room)).room s m args below meth c H locs 0 0 (MQ below (QcI D cyI cyZ A (wC cyI cyZ a σ') r) args s 0 0 A) (F0 m pc ls []) := by
  intro n
  induction n with
  | zero => intro pc x vs ls H locs h; exact absurd h (by simp [goL])
  | succ n ih =>
    intro pc x vs ls H locs hgo hsh hP hD hS
    rcases hsh with ⟨rfl, x1, x2, rfl, hl⟩ | ⟨rfl, x1, x2, x3, x4, rfl, hl⟩
    · exact wl_X5_passNumber_0 x hC hq n ih x1 x2 ls H locs hgo hl hP hD hS
    · exact wl_X5_passNumber_5 x hC hq n ih x1 x2 x3 x4 ls H locs hgo hl hP hD hS
end
theorem c_X5_passNumber (l : Launch) (D : va_G) (cyI cyZ : ClassId) (a : Nat → Nat) (A : Nat → Prop) (σ : Mem) (x1 : Int32) (x2 : Int32) (r : Int32) (σ' : Mem) (hF : F_X5_passNumber σ x1 x2 = some (r, σ')) : CtI l yX5_passNumber ts_X5_passNumber ({ frames := 2, cells := 0, slots := 0, locals := 45 } : Room) [.ref (a 16), .int x1, .int x2] D cyI cyZ A (wC cyI cyZ a σ) (wC cyI cyZ a σ') r := by
  refine CtI.of (cc := cX5_passNumber) (maxL := 5) (ret := (some .int)) (by decide) rfl (Nat.le_of_ble_eq_true rfl) ?_
  intro p e s m below meth c ls hC hP hD hl
  obtain ⟨q, hq, hr1⟩ := Option.bind_eq_some_iff.mp hF
  obtain ⟨n, hn⟩ := finL_some hq
  exact wk_X5_passNumber hC hr1 n 0 _ _ ls _ _ hn (Or.inl ⟨rfl, _, _, rfl, hl⟩) hP hD va_S.rf
abbrev ts_X7_meaningsOf : List Cond := .code yX7_meaningsOf cX7_meaningsOf 2 (some .int) :: wsL_law
set_option maxHeartbeats 4000000 in
set_option maxRecDepth 100000 in
theorem c_X7_meaningsOf (l : Launch) (D : va_G) (cyI cyZ : ClassId) (a : Nat → Nat) (A : Nat → Prop) (σ : Mem) (x1 : Int32) (r : Int32) (hF : F_X7_meaningsOf σ x1 = some r) : CtI l yX7_meaningsOf ts_X7_meaningsOf ({ frames := 0, cells := 0, slots := 0, locals := 0 } : Room) [.ref (a 6), .int x1] D cyI cyZ A (wC cyI cyZ a σ) (wC cyI cyZ a σ) r := by
  refine CtI.of (cc := cX7_meaningsOf) (maxL := 2) (ret := (some .int)) (by decide) rfl (Nat.le_of_ble_eq_true rfl) ?_
  intro p e s m below meth c ls hC hP hD hl
  obtain ⟨hx, hb, hr, hml, hown, hts, hK, hN, hlocks⟩ := hC
  have hown : s.vm.findClass RX7 = some m.cls := hown
  have hS : va_S A s.heap s.heap [] := va_S.rf
  have hl : lv_has ls 2 [(0, .ref (a 6)), (1, .int x1)] := hl
  unfold F_X7_meaningsOf at hF
  refine lv_aload_n hx hb dX7_meaningsOf_0 rfl (lv_at hl 0 rfl) ?_
  refine va_get (D := D) (ci := 7) (v := .ref (a 7)) (C := RX7) (T := TX7) (N := 7) hx hb hts inlX7 hown hK hP 6 gC_6 rfl 1 (by decide) (hts _ mw_53) (fun _ h9 => h9) rfl dX7_meaningsOf_1 ?_
  refine lv_iload_n hx hb dX7_meaningsOf_4 rfl (lv_at hl 1 rfl) ?_
  obtain ⟨v1, e2, hF⟩ := Option.bind_eq_some_iff.mp hF
  refine z_ild hx hb hK hP 7 gC_7 e2 dX7_meaningsOf_5 ?_
  cases hF
  exact z_iret hx hb hr hlocks hK hP hD hS dX7_meaningsOf_6
abbrev ts_X7_costAt : List Cond := .code yX7_costAt cX7_costAt 2 (some .int) :: wsL_law
set_option maxHeartbeats 4000000 in
set_option maxRecDepth 100000 in
theorem c_X7_costAt (l : Launch) (D : va_G) (cyI cyZ : ClassId) (a : Nat → Nat) (A : Nat → Prop) (σ : Mem) (x1 : Int32) (r : Int32) (hF : F_X7_costAt σ x1 = some r) : CtI l yX7_costAt ts_X7_costAt ({ frames := 0, cells := 0, slots := 0, locals := 0 } : Room) [.ref (a 6), .int x1] D cyI cyZ A (wC cyI cyZ a σ) (wC cyI cyZ a σ) r := by
  refine CtI.of (cc := cX7_costAt) (maxL := 2) (ret := (some .int)) (by decide) rfl (Nat.le_of_ble_eq_true rfl) ?_
  intro p e s m below meth c ls hC hP hD hl
  obtain ⟨hx, hb, hr, hml, hown, hts, hK, hN, hlocks⟩ := hC
  have hown : s.vm.findClass RX7 = some m.cls := hown
  have hS : va_S A s.heap s.heap [] := va_S.rf
  have hl : lv_has ls 2 [(0, .ref (a 6)), (1, .int x1)] := hl
  unfold F_X7_costAt at hF
  refine lv_aload_n hx hb dX7_costAt_0 rfl (lv_at hl 0 rfl) ?_
  refine va_get (D := D) (ci := 7) (v := .ref (a 12)) (C := RX7) (T := TX7) (N := 7) hx hb hts inlX7 hown hK hP 6 gC_6 rfl 6 (by decide) (hts _ mw_58) (fun _ h9 => h9) rfl dX7_costAt_1 ?_
  refine lv_iload_n hx hb dX7_costAt_4 rfl (lv_at hl 1 rfl) ?_
  obtain ⟨v1, e2, hF⟩ := Option.bind_eq_some_iff.mp hF
  refine z_ild hx hb hK hP 12 gC_12 e2 dX7_costAt_5 ?_
  cases hF
  exact z_iret hx hb hr hlocks hK hP hD hS dX7_costAt_6
abbrev ts_X5_keyPart : List Cond := .code yX5_keyPart cX5_keyPart 3 (some .int) :: wsL_law
set_option maxHeartbeats 4000000 in
set_option maxRecDepth 100000 in
theorem c_X5_keyPart (l : Launch) (D : va_G) (cyI cyZ : ClassId) (A : Nat → Prop) (w : va_W) (x0 : Int32) (x1 : Int32) (x2 : Int32) (r : Int32) (hF : F_X5_keyPart x0 x1 x2 = r) : CtI l yX5_keyPart ts_X5_keyPart ({ frames := 0, cells := 0, slots := 0, locals := 0 } : Room) [.int x0, .int x1, .int x2] D cyI cyZ A w w r := by
  refine CtI.of (cc := cX5_keyPart) (maxL := 3) (ret := (some .int)) (by decide) rfl (Nat.le_of_ble_eq_true rfl) ?_
  intro p e s m below meth c ls hC hP hD hl
  obtain ⟨hx, hb, hr, hml, hown, hts, hK, hN, hlocks⟩ := hC
  have hown : s.vm.findClass RX5 = some m.cls := hown
  have hS : va_S A s.heap s.heap [] := va_S.rf
  have hl : lv_has ls 3 [(0, .int x0), (1, .int x1), (2, .int x2)] := hl
  unfold F_X5_keyPart at hF
  refine lv_iload_n hx hb dX5_keyPart_0 rfl (lv_at hl 2 rfl) ?_
  refine lv_bipush (v := (16 : Int32)) hx hb dX5_keyPart_1 (by decide) ?_
  refine lv_ishl hx hb dX5_keyPart_3 ?_
  refine lv_iload_n hx hb dX5_keyPart_4 rfl (lv_at hl 1 rfl) ?_
  refine lv_bipush (v := (7 : Int32)) hx hb dX5_keyPart_5 (by decide) ?_
  refine lv_iload_n hx hb dX5_keyPart_7 rfl (lv_at hl 0 rfl) ?_
  refine lv_isub hx hb dX5_keyPart_8 ?_
  refine lv_iconst (v := (2 : Int32)) hx hb dX5_keyPart_9 (by decide) ?_
  refine lv_imul hx hb dX5_keyPart_10 ?_
  refine lv_ishl hx hb dX5_keyPart_11 ?_
  refine lv_iadd hx hb dX5_keyPart_12 ?_
  subst hF
  exact z_iret hx hb hr hlocks hK hP hD hS dX5_keyPart_13
