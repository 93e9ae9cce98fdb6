-- X9_holds X9_isFound X9_foundMany X9_answerOf
abbrev ts_X9_holds : List Cond := .code yX9_holds cX9_holds 6 (some .boolean) :: wsL_law
set_option maxHeartbeats 4000000 in
set_option maxRecDepth 100000 in
theorem c_X9_holds (l : Launch) (D : va_G) (cyI cyZ : ClassId) (a : Nat → Nat) (A : Nat → Prop) (σ : Mem) (x1 : Int32) (x2 : Int32) (r : Int32) (hF : F_X9_holds σ x1 x2 = some r) : CtI l yX9_holds ts_X9_holds ({ frames := 1, cells := 0, slots := 0, locals := 23 } : Room) [.ref (a 0), .int x1, .int x2] D cyI cyZ A (wM cyI cyZ a σ) (wM cyI cyZ a σ) r := by
  refine CtI.of (cc := cX9_holds) (maxL := 6) (ret := (some .boolean)) (by decide) rfl (Nat.le_of_ble_eq_true rfl) ?_
  intro p e s m below meth c ls hC hP hD hl
  obtain ⟨hx, hb, hr, hml, hown, hts, hK, hN, hlocks⟩ := hC
  have hown : s.vm.findClass RX9 = some m.cls := hown
  have hS : va_S A s.heap s.heap [] := va_S.rf
  have hl : lv_has ls 6 [(0, .ref (a 0)), (1, .int x1), (2, .int x2)] := hl
  unfold F_X9_holds at hF
  refine lv_aload_n hx hb dX9_holds_0 rfl (lv_at hl 0 rfl) ?_
  refine va_get (D := D) (ci := 9) (v := .ref (a 22)) (C := RX9) (T := TX9) (N := 34) hx hb hts inlX9 hown hK hP 0 gM_0 rfl 28 (by decide) (hts _ mw_138) (fun _ h9 => h9) rfl dX9_holds_1 ?_
  refine lv_iload_n hx hb dX9_holds_4 rfl (lv_at hl 1 rfl) ?_
  obtain ⟨v1, e2, hF⟩ := Option.bind_eq_some_iff.mp hF
  refine z_ild hx hb hK hP 22 gM_22 e2 dX9_holds_5 ?_
  refine lv_istore_n (lv' := [(3, .int v1), (0, .ref (a 0)), (1, .int x1), (2, .int x2)]) hx hb dX9_holds_6 rfl hl (by decide) rfl (fun ls hl => ?_)
  refine lv_iload_n hx hb dX9_holds_7 rfl (lv_at hl 3 rfl) ?_
  refine lv_istore (lv' := [(4, .int x2), (3, .int v1), (0, .ref (a 0)), (1, .int x1), (2, .int x2)]) hx hb dX9_holds_8 hl (by decide) rfl (fun ls hl => ?_)
  refine lv_iload_n hx hb dX9_holds_10 rfl (lv_at hl 1 rfl) ?_
  refine lv_aload_n hx hb dX9_holds_11 rfl (lv_at hl 2 rfl) ?_
  refine va_get (D := D) (ci := 9) (v := .int (σ 0 25)) (C := RX9) (T := TX9) (N := 34) hx hb hts inlX9 hown hK hP 0 gM_0 rfl 25 (by decide) (hts _ mw_543) (fun _ h9 => h9) rfl dX9_holds_12 ?_
  refine lv_icmp_eq (tgt := 52) hx hb dX9_holds_15 (by decide) (fun c3 => ?_) (fun c3 => ?_)
  · rw [if_pos c3] at hF
    refine lv_aload_n hx hb dX9_holds_52 rfl (lv_at hl 2 rfl) ?_
    refine lv_iload_n hx hb dX9_holds_53 rfl (lv_at hl 1 rfl) ?_
    refine lv_iload hx hb dX9_holds_54 (lv_at hl 0 rfl) ?_
    refine lv_aload_n hx hb dX9_holds_56 rfl (lv_at hl 2 rfl) ?_
    refine va_get (D := D) (ci := 9) (v := .ref (a 23)) (C := RX9) (T := TX9) (N := 34) hx hb hts inlX9 hown hK hP 0 gM_0 rfl 29 (by decide) (hts _ mw_139) (fun _ h9 => h9) rfl dX9_holds_57 ?_
    refine lv_iload_n hx hb dX9_holds_60 rfl (lv_at hl 3 rfl) ?_
    obtain ⟨v4, e5, hF⟩ := Option.bind_eq_some_iff.mp hF
    refine z_ild hx hb hK hP 23 gM_23 e5 dX9_holds_61 ?_
    obtain ⟨v6, e7, hF⟩ := Option.bind_eq_some_iff.mp hF
    refine z_callVI (w' := (wM cyI cyZ a σ)) (As := [.int v1, .int x2, .int v4]) (rest := []) ⟨hx, hb, hml, hown, hts⟩ (c_X9_valueOf l D cyI cyZ a A σ v1 x2 v4 _ e7) (cwV 3 hts (gd_V mw_249 mw_250 mw_251 mw_5 mw_252) rfl rfl rfl (by decide +kernel) ⟨Nat.le_of_ble_eq_true rfl, Nat.le_of_ble_eq_true rfl⟩) hK hN hP hD hS 9 0 rfl rfl gM_0 rfl hl.1 rfl (Nat.le_of_ble_eq_true rfl) dX9_holds_62 ⟨Nat.zero_le _, Nat.zero_le _⟩ (fun H locs hP hD hS => ?_)
    refine lv_istore (lv' := [(5, .int v6), (4, .int x2), (3, .int v1), (0, .ref (a 0)), (1, .int x1), (2, .int x2)]) hx hb dX9_holds_65 hl (by decide) rfl (fun ls hl => ?_)
    refine lv_iload hx hb dX9_holds_67 (lv_at hl 0 rfl) ?_
    refine lv_sipush (v := (-1000 : Int32)) hx hb dX9_holds_69 (by decide) ?_
    refine lv_icmp_ne (tgt := 77) hx hb dX9_holds_72 (by decide) (fun c8 => ?_) (fun c8 => ?_)
    · rw [if_neg c8] at hF
      refine lv_aload_n hx hb dX9_holds_77 rfl (lv_at hl 3 rfl) ?_
      refine va_get (D := D) (ci := 9) (v := .ref (a 24)) (C := RX9) (T := TX9) (N := 34) hx hb hts inlX9 hown hK hP 0 gM_0 rfl 30 (by decide) (hts _ mw_140) (fun _ h9 => h9) rfl dX9_holds_78 ?_
      refine lv_iload_n hx hb dX9_holds_81 rfl (lv_at hl 4 rfl) ?_
      obtain ⟨v9, e10, hF⟩ := Option.bind_eq_some_iff.mp hF
      refine z_ild hx hb hK hP 24 gM_24 e10 dX9_holds_82 ?_
      refine lv_if_ne (tgt := 105) hx hb dX9_holds_83 (by decide) (fun c11 => ?_) (fun c11 => ?_)
      · rw [if_neg c11] at hF
        refine lv_aload_n hx hb dX9_holds_105 rfl (lv_at hl 3 rfl) ?_
        refine va_get (D := D) (ci := 9) (v := .ref (a 24)) (C := RX9) (T := TX9) (N := 34) hx hb hts inlX9 hown hK hP 0 gM_0 rfl 30 (by decide) (hts _ mw_140) (fun _ h9 => h9) rfl dX9_holds_106 ?_
        refine lv_iload_n hx hb dX9_holds_109 rfl (lv_at hl 4 rfl) ?_
        obtain ⟨v12, e13, hF⟩ := Option.bind_eq_some_iff.mp hF
        refine z_ild hx hb hK hP 24 gM_24 e13 dX9_holds_110 ?_
        refine lv_iconst (v := (1 : Int32)) hx hb dX9_holds_111 (by decide) ?_
        refine lv_icmp_ne (tgt := 134) hx hb dX9_holds_112 (by decide) (fun c14 => ?_) (fun c14 => ?_)
        · rw [if_neg c14] at hF
          refine lv_iload hx hb dX9_holds_134 (lv_at hl 0 rfl) ?_
          refine lv_aload_n hx hb dX9_holds_136 rfl (lv_at hl 3 rfl) ?_
          refine va_get (D := D) (ci := 9) (v := .ref (a 25)) (C := RX9) (T := TX9) (N := 34) hx hb hts inlX9 hown hK hP 0 gM_0 rfl 31 (by decide) (hts _ mw_141) (fun _ h9 => h9) rfl dX9_holds_137 ?_
          refine lv_iload_n hx hb dX9_holds_140 rfl (lv_at hl 4 rfl) ?_
          obtain ⟨v15, e16, hF⟩ := Option.bind_eq_some_iff.mp hF
          refine z_ild hx hb hK hP 25 gM_25 e16 dX9_holds_141 ?_
          refine lv_icmp_ne (tgt := 149) hx hb dX9_holds_142 (by decide) (fun c17 => ?_) (fun c17 => ?_)
          · rw [if_neg c17] at hF
            refine lv_iconst (v := (0 : Int32)) hx hb dX9_holds_149 (by decide) ?_
            cases hF
            exact z_zret hx hb hr hlocks hK hP hD hS rfl dX9_holds_150
          · rw [if_pos c17] at hF
            refine lv_iconst (v := (1 : Int32)) hx hb dX9_holds_145 (by decide) ?_
            refine lv_goto (tgt := 150) hx hb dX9_holds_146 (by decide) ?_
            cases hF
            exact z_zret hx hb hr hlocks hK hP hD hS rfl dX9_holds_150
        · rw [if_pos c14] at hF
          refine lv_iload hx hb dX9_holds_115 (lv_at hl 0 rfl) ?_
          refine lv_aload_n hx hb dX9_holds_117 rfl (lv_at hl 3 rfl) ?_
          refine va_get (D := D) (ci := 9) (v := .ref (a 25)) (C := RX9) (T := TX9) (N := 34) hx hb hts inlX9 hown hK hP 0 gM_0 rfl 31 (by decide) (hts _ mw_141) (fun _ h9 => h9) rfl dX9_holds_118 ?_
          refine lv_iload_n hx hb dX9_holds_121 rfl (lv_at hl 4 rfl) ?_
          obtain ⟨v18, e19, hF⟩ := Option.bind_eq_some_iff.mp hF
          refine z_ild hx hb hK hP 25 gM_25 e19 dX9_holds_122 ?_
          refine lv_icmp_ge (tgt := 130) hx hb dX9_holds_123 (by decide) (fun c20 => ?_) (fun c20 => ?_)
          · rw [if_pos c20] at hF
            refine lv_iconst (v := (0 : Int32)) hx hb dX9_holds_130 (by decide) ?_
            refine lv_goto (tgt := 150) hx hb dX9_holds_131 (by decide) ?_
            cases hF
            exact z_zret hx hb hr hlocks hK hP hD hS rfl dX9_holds_150
          · rw [if_neg c20] at hF
            refine lv_iconst (v := (1 : Int32)) hx hb dX9_holds_126 (by decide) ?_
            refine lv_goto (tgt := 150) hx hb dX9_holds_127 (by decide) ?_
            cases hF
            exact z_zret hx hb hr hlocks hK hP hD hS rfl dX9_holds_150
      · rw [if_pos c11] at hF
        refine lv_iload hx hb dX9_holds_86 (lv_at hl 0 rfl) ?_
        refine lv_aload_n hx hb dX9_holds_88 rfl (lv_at hl 3 rfl) ?_
        refine va_get (D := D) (ci := 9) (v := .ref (a 25)) (C := RX9) (T := TX9) (N := 34) hx hb hts inlX9 hown hK hP 0 gM_0 rfl 31 (by decide) (hts _ mw_141) (fun _ h9 => h9) rfl dX9_holds_89 ?_
        refine lv_iload_n hx hb dX9_holds_92 rfl (lv_at hl 4 rfl) ?_
        obtain ⟨v21, e22, hF⟩ := Option.bind_eq_some_iff.mp hF
        refine z_ild hx hb hK hP 25 gM_25 e22 dX9_holds_93 ?_
        refine lv_icmp_le (tgt := 101) hx hb dX9_holds_94 (by decide) (fun c23 => ?_) (fun c23 => ?_)
        · rw [if_pos c23] at hF
          refine lv_iconst (v := (0 : Int32)) hx hb dX9_holds_101 (by decide) ?_
          refine lv_goto (tgt := 150) hx hb dX9_holds_102 (by decide) ?_
          cases hF
          exact z_zret hx hb hr hlocks hK hP hD hS rfl dX9_holds_150
        · rw [if_neg c23] at hF
          refine lv_iconst (v := (1 : Int32)) hx hb dX9_holds_97 (by decide) ?_
          refine lv_goto (tgt := 150) hx hb dX9_holds_98 (by decide) ?_
          cases hF
          exact z_zret hx hb hr hlocks hK hP hD hS rfl dX9_holds_150
    · rw [if_pos c8] at hF
      refine lv_iconst (v := (0 : Int32)) hx hb dX9_holds_75 (by decide) ?_
      cases hF
      exact z_zret hx hb hr hlocks hK hP hD hS rfl dX9_holds_76
  · rw [if_neg c3] at hF
    refine lv_aload_n hx hb dX9_holds_18 rfl (lv_at hl 2 rfl) ?_
    refine lv_aload_n hx hb dX9_holds_19 rfl (lv_at hl 2 rfl) ?_
    refine va_get (D := D) (ci := 9) (v := .int (σ 0 25)) (C := RX9) (T := TX9) (N := 34) hx hb hts inlX9 hown hK hP 0 gM_0 rfl 25 (by decide) (hts _ mw_543) (fun _ h9 => h9) rfl dX9_holds_20 ?_
    refine lv_iload_n hx hb dX9_holds_23 rfl (lv_at hl 4 rfl) ?_
    refine lv_aload_n hx hb dX9_holds_24 rfl (lv_at hl 2 rfl) ?_
    refine lv_iload_n hx hb dX9_holds_25 rfl (lv_at hl 1 rfl) ?_
    obtain ⟨v24, e25, hF⟩ := Option.bind_eq_some_iff.mp hF
    refine z_callVI (w' := (wM cyI cyZ a σ)) (As := [.int v1]) (rest := [.int x2, .int (σ 0 25), .ref (a 0)]) ⟨hx, hb, hml, hown, hts⟩ (c_X9_linkTo l D cyI cyZ a A σ v1 _ e25) (cwV 1 hts (gd_V mw_558 mw_559 mw_560 mw_5 mw_561) rfl rfl rfl (by decide +kernel) ⟨Nat.le_of_ble_eq_true rfl, Nat.le_of_ble_eq_true rfl⟩) hK hN hP hD hS 9 0 rfl rfl gM_0 rfl hl.1 rfl (Nat.le_of_ble_eq_true rfl) dX9_holds_26 ⟨Nat.zero_le _, Nat.zero_le _⟩ (fun H locs hP hD hS => ?_)
    obtain ⟨v26, e27, hF⟩ := Option.bind_eq_some_iff.mp hF
    refine z_callVI (w' := (wM cyI cyZ a σ)) (As := [.int (σ 0 25), .int x2, .int v24]) (rest := []) ⟨hx, hb, hml, hown, hts⟩ (c_X9_valueOf l D cyI cyZ a A σ (σ 0 25) x2 v24 _ e27) (cwV 3 hts (gd_V mw_249 mw_250 mw_251 mw_5 mw_252) rfl rfl rfl (by decide +kernel) ⟨Nat.le_of_ble_eq_true rfl, Nat.le_of_ble_eq_true rfl⟩) hK hN hP hD hS 9 0 rfl rfl gM_0 rfl hl.1 rfl (Nat.le_of_ble_eq_true rfl) dX9_holds_29 ⟨Nat.zero_le _, Nat.zero_le _⟩ (fun H locs hP hD hS => ?_)
    refine lv_istore (lv' := [(4, .int v26), (3, .int v1), (0, .ref (a 0)), (1, .int x1), (2, .int x2)]) hx hb dX9_holds_32 hl (by decide) rfl (fun ls hl => ?_)
    refine lv_iload hx hb dX9_holds_34 (lv_at hl 0 rfl) ?_
    refine lv_if_lt (tgt := 50) hx hb dX9_holds_36 (by decide) (fun c28 => ?_) (fun c28 => ?_)
    · rw [if_pos c28] at hF
      refine lv_iconst (v := (0 : Int32)) hx hb dX9_holds_50 (by decide) ?_
      cases hF
      exact z_zret hx hb hr hlocks hK hP hD hS rfl dX9_holds_51
    · rw [if_neg c28] at hF
      refine lv_iload hx hb dX9_holds_39 (lv_at hl 0 rfl) ?_
      refine lv_aload_n hx hb dX9_holds_41 rfl (lv_at hl 2 rfl) ?_
      refine va_get (D := D) (ci := 9) (v := .ref (a 2)) (C := RX9) (T := TX9) (N := 34) hx hb hts inlX9 hown hK hP 0 gM_0 rfl 1 (by decide) (hts _ mw_118) (fun _ h9 => h9) rfl dX9_holds_42 ?_
      refine lv_iload_n hx hb dX9_holds_45 rfl (lv_at hl 1 rfl) ?_
      obtain ⟨v29, e30, hF⟩ := Option.bind_eq_some_iff.mp hF
      refine z_ild hx hb hK hP 2 gM_2 e30 dX9_holds_46 ?_
      refine lv_icmp_lt (tgt := 52) hx hb dX9_holds_47 (by decide) (fun c31 => ?_) (fun c31 => ?_)
      · rw [if_pos c31] at hF
        refine lv_aload_n hx hb dX9_holds_52 rfl (lv_at hl 2 rfl) ?_
        refine lv_iload_n hx hb dX9_holds_53 rfl (lv_at hl 1 rfl) ?_
        refine lv_iload hx hb dX9_holds_54 (lv_at hl 0 rfl) ?_
        refine lv_aload_n hx hb dX9_holds_56 rfl (lv_at hl 2 rfl) ?_
        refine va_get (D := D) (ci := 9) (v := .ref (a 23)) (C := RX9) (T := TX9) (N := 34) hx hb hts inlX9 hown hK hP 0 gM_0 rfl 29 (by decide) (hts _ mw_139) (fun _ h9 => h9) rfl dX9_holds_57 ?_
        refine lv_iload_n hx hb dX9_holds_60 rfl (lv_at hl 3 rfl) ?_
        obtain ⟨v32, e33, hF⟩ := Option.bind_eq_some_iff.mp hF
        refine z_ild hx hb hK hP 23 gM_23 e33 dX9_holds_61 ?_
        obtain ⟨v34, e35, hF⟩ := Option.bind_eq_some_iff.mp hF
        refine z_callVI (w' := (wM cyI cyZ a σ)) (As := [.int v1, .int v26, .int v32]) (rest := []) ⟨hx, hb, hml, hown, hts⟩ (c_X9_valueOf l D cyI cyZ a A σ v1 v26 v32 _ e35) (cwV 3 hts (gd_V mw_249 mw_250 mw_251 mw_5 mw_252) rfl rfl rfl (by decide +kernel) ⟨Nat.le_of_ble_eq_true rfl, Nat.le_of_ble_eq_true rfl⟩) hK hN hP hD hS 9 0 rfl rfl gM_0 rfl hl.1 rfl (Nat.le_of_ble_eq_true rfl) dX9_holds_62 ⟨Nat.zero_le _, Nat.zero_le _⟩ (fun H locs hP hD hS => ?_)
        refine lv_istore (lv' := [(5, .int v34), (4, .int v26), (3, .int v1), (0, .ref (a 0)), (1, .int x1), (2, .int x2)]) hx hb dX9_holds_65 hl (by decide) rfl (fun ls hl => ?_)
        refine lv_iload hx hb dX9_holds_67 (lv_at hl 0 rfl) ?_
        refine lv_sipush (v := (-1000 : Int32)) hx hb dX9_holds_69 (by decide) ?_
        refine lv_icmp_ne (tgt := 77) hx hb dX9_holds_72 (by decide) (fun c36 => ?_) (fun c36 => ?_)
        · rw [if_neg c36] at hF
          refine lv_aload_n hx hb dX9_holds_77 rfl (lv_at hl 3 rfl) ?_
          refine va_get (D := D) (ci := 9) (v := .ref (a 24)) (C := RX9) (T := TX9) (N := 34) hx hb hts inlX9 hown hK hP 0 gM_0 rfl 30 (by decide) (hts _ mw_140) (fun _ h9 => h9) rfl dX9_holds_78 ?_
          refine lv_iload_n hx hb dX9_holds_81 rfl (lv_at hl 4 rfl) ?_
          obtain ⟨v37, e38, hF⟩ := Option.bind_eq_some_iff.mp hF
          refine z_ild hx hb hK hP 24 gM_24 e38 dX9_holds_82 ?_
          refine lv_if_ne (tgt := 105) hx hb dX9_holds_83 (by decide) (fun c39 => ?_) (fun c39 => ?_)
          · rw [if_neg c39] at hF
            refine lv_aload_n hx hb dX9_holds_105 rfl (lv_at hl 3 rfl) ?_
            refine va_get (D := D) (ci := 9) (v := .ref (a 24)) (C := RX9) (T := TX9) (N := 34) hx hb hts inlX9 hown hK hP 0 gM_0 rfl 30 (by decide) (hts _ mw_140) (fun _ h9 => h9) rfl dX9_holds_106 ?_
            refine lv_iload_n hx hb dX9_holds_109 rfl (lv_at hl 4 rfl) ?_
            obtain ⟨v40, e41, hF⟩ := Option.bind_eq_some_iff.mp hF
            refine z_ild hx hb hK hP 24 gM_24 e41 dX9_holds_110 ?_
            refine lv_iconst (v := (1 : Int32)) hx hb dX9_holds_111 (by decide) ?_
            refine lv_icmp_ne (tgt := 134) hx hb dX9_holds_112 (by decide) (fun c42 => ?_) (fun c42 => ?_)
            · rw [if_neg c42] at hF
              refine lv_iload hx hb dX9_holds_134 (lv_at hl 0 rfl) ?_
              refine lv_aload_n hx hb dX9_holds_136 rfl (lv_at hl 3 rfl) ?_
              refine va_get (D := D) (ci := 9) (v := .ref (a 25)) (C := RX9) (T := TX9) (N := 34) hx hb hts inlX9 hown hK hP 0 gM_0 rfl 31 (by decide) (hts _ mw_141) (fun _ h9 => h9) rfl dX9_holds_137 ?_
              refine lv_iload_n hx hb dX9_holds_140 rfl (lv_at hl 4 rfl) ?_
              obtain ⟨v43, e44, hF⟩ := Option.bind_eq_some_iff.mp hF
              refine z_ild hx hb hK hP 25 gM_25 e44 dX9_holds_141 ?_
              refine lv_icmp_ne (tgt := 149) hx hb dX9_holds_142 (by decide) (fun c45 => ?_) (fun c45 => ?_)
              · rw [if_neg c45] at hF
                refine lv_iconst (v := (0 : Int32)) hx hb dX9_holds_149 (by decide) ?_
                cases hF
                exact z_zret hx hb hr hlocks hK hP hD hS rfl dX9_holds_150
              · rw [if_pos c45] at hF
                refine lv_iconst (v := (1 : Int32)) hx hb dX9_holds_145 (by decide) ?_
                refine lv_goto (tgt := 150) hx hb dX9_holds_146 (by decide) ?_
                cases hF
                exact z_zret hx hb hr hlocks hK hP hD hS rfl dX9_holds_150
            · rw [if_pos c42] at hF
              refine lv_iload hx hb dX9_holds_115 (lv_at hl 0 rfl) ?_
              refine lv_aload_n hx hb dX9_holds_117 rfl (lv_at hl 3 rfl) ?_
              refine va_get (D := D) (ci := 9) (v := .ref (a 25)) (C := RX9) (T := TX9) (N := 34) hx hb hts inlX9 hown hK hP 0 gM_0 rfl 31 (by decide) (hts _ mw_141) (fun _ h9 => h9) rfl dX9_holds_118 ?_
              refine lv_iload_n hx hb dX9_holds_121 rfl (lv_at hl 4 rfl) ?_
              obtain ⟨v46, e47, hF⟩ := Option.bind_eq_some_iff.mp hF
              refine z_ild hx hb hK hP 25 gM_25 e47 dX9_holds_122 ?_
              refine lv_icmp_ge (tgt := 130) hx hb dX9_holds_123 (by decide) (fun c48 => ?_) (fun c48 => ?_)
              · rw [if_pos c48] at hF
                refine lv_iconst (v := (0 : Int32)) hx hb dX9_holds_130 (by decide) ?_
                refine lv_goto (tgt := 150) hx hb dX9_holds_131 (by decide) ?_
                cases hF
                exact z_zret hx hb hr hlocks hK hP hD hS rfl dX9_holds_150
              · rw [if_neg c48] at hF
                refine lv_iconst (v := (1 : Int32)) hx hb dX9_holds_126 (by decide) ?_
                refine lv_goto (tgt := 150) hx hb dX9_holds_127 (by decide) ?_
                cases hF
                exact z_zret hx hb hr hlocks hK hP hD hS rfl dX9_holds_150
          · rw [if_pos c39] at hF
            refine lv_iload hx hb dX9_holds_86 (lv_at hl 0 rfl) ?_
            refine lv_aload_n hx hb dX9_holds_88 rfl (lv_at hl 3 rfl) ?_
            refine va_get (D := D) (ci := 9) (v := .ref (a 25)) (C := RX9) (T := TX9) (N := 34) hx hb hts inlX9 hown hK hP 0 gM_0 rfl 31 (by decide) (hts _ mw_141) (fun _ h9 => h9) rfl dX9_holds_89 ?_
            refine lv_iload_n hx hb dX9_holds_92 rfl (lv_at hl 4 rfl) ?_
            obtain ⟨v49, e50, hF⟩ := Option.bind_eq_some_iff.mp hF
            refine z_ild hx hb hK hP 25 gM_25 e50 dX9_holds_93 ?_
            refine lv_icmp_le (tgt := 101) hx hb dX9_holds_94 (by decide) (fun c51 => ?_) (fun c51 => ?_)
            · rw [if_pos c51] at hF
              refine lv_iconst (v := (0 : Int32)) hx hb dX9_holds_101 (by decide) ?_
              refine lv_goto (tgt := 150) hx hb dX9_holds_102 (by decide) ?_
              cases hF
              exact z_zret hx hb hr hlocks hK hP hD hS rfl dX9_holds_150
            · rw [if_neg c51] at hF
              refine lv_iconst (v := (1 : Int32)) hx hb dX9_holds_97 (by decide) ?_
              refine lv_goto (tgt := 150) hx hb dX9_holds_98 (by decide) ?_
              cases hF
              exact z_zret hx hb hr hlocks hK hP hD hS rfl dX9_holds_150
        · rw [if_pos c36] at hF
          refine lv_iconst (v := (0 : Int32)) hx hb dX9_holds_75 (by decide) ?_
          cases hF
          exact z_zret hx hb hr hlocks hK hP hD hS rfl dX9_holds_76
      · rw [if_neg c31] at hF
        refine lv_iconst (v := (0 : Int32)) hx hb dX9_holds_50 (by decide) ?_
        cases hF
        exact z_zret hx hb hr hlocks hK hP hD hS rfl dX9_holds_51
abbrev ts_X9_isFound : List Cond := .code yX9_isFound cX9_isFound 5 (some .boolean) :: wsL_law
def SH_X9_isFound (a : Nat → Nat) (ls : Array Slot) (pc : Nat) (vs : List Int32) : Prop := (pc = 0 ∧ ∃ x1 x2 : Int32, vs = [x1, x2] ∧ lv_has ls 5 [(0, .ref (a 0)), (1, .int x1), (2, .int x2)]) ∨ (pc = 5 ∧ ∃ x1 x2 x3 x4 : Int32, vs = [x1, x2, x3, x4] ∧ lv_has ls 5 [(0, .ref (a 0)), (1, .int x1), (2, .int x2), (3, .int x3), (4, .int x4)])
section
variable {p : Program} {l : Launch} {e : Env} {s : State} {m : MethodId} {args : Array Value} {below : List Frame} {meth : Method} {c : Code} {D : va_G} {A : Nat → Prop} {a : Nat → Nat} {cyI cyZ : ClassId} {r : Int32} {q : Unit × List Int32}
set_option maxHeartbeats 4000000 in
set_option maxRecDepth 100000 in
theorem wl_X9_isFound_0 (σ : Mem) (hC : CX p c cX9_isFound meth (some .boolean) s m args yX9_isFound.cls 5 D cyI cyZ) (hq : extR q = some r) (n : Nat) (ih : ∀ (pc : Nat) (x : Unit) (vs : List Int32) (ls : Array Slot) (H : Heap) (locs : List Loc), goL (B_X9_isFound σ) n pc x vs = some q → SH_X9_isFound a ls pc vs → va_P D vwCl (wM cyI cyZ a σ) H → va_D A (wM cyI cyZ a σ) → va_S A s.heap H locs → W p l e (headSpec ts_X9_isFound ({ frames := 2, cells := 0, slots := 0, locals := 48 } : Room)).room s m args below meth c H locs 0 0 (MQ below (QcI D cyI cyZ A (wM cyI cyZ a σ) r) args s 0 0 A) (F0 m pc ls [])) (x1 : Int32) (x2 : Int32) (ls : Array Slot) (H : Heap) (locs : List Loc) (hgo : goL (B_X9_isFound σ) (n + 1) 0 () [x1, x2] = some q) (hl : lv_has ls 5 [(0, .ref (a 0)), (1, .int x1), (2, .int x2)]) (hP : va_P D vwCl (wM cyI cyZ a σ) H) (hD : va_D A (wM cyI cyZ a σ)) (hS : va_S A s.heap H locs) : W p l e (headSpec ts_X9_isFound ({ frames := 2, cells := 0, slots := 0, locals := 48 } : Room)).room s m args below meth c H locs 0 0 (MQ below (QcI D cyI cyZ A (wM cyI cyZ a σ) r) args s 0 0 A) (F0 m 0 ls []) := by
  obtain ⟨hx, hb, hr, hml, hown, hts, hK, hN, hlocks⟩ := hC
  have hown : s.vm.findClass RX9 = some m.cls := hown
  obtain ⟨yy, hF, hgo⟩ := goL_step (by decide) hgo
  have hF : B_X9_isFound_0 σ x1 x2 = some yy := hF
  unfold B_X9_isFound_0 at hF
  refine lv_iconst (v := (1 : Int32)) hx hb dX9_isFound_0 (by decide) ?_
  refine lv_istore_n (lv' := [(3, .int (1 : Int32)), (0, .ref (a 0)), (1, .int x1), (2, .int x2)]) hx hb dX9_isFound_1 rfl hl (by decide) rfl (fun ls hl => ?_)
  refine lv_iconst (v := (0 : Int32)) hx hb dX9_isFound_2 (by decide) ?_
  refine lv_istore (lv' := [(4, .int (0 : Int32)), (3, .int (1 : Int32)), (0, .ref (a 0)), (1, .int x1), (2, .int x2)]) hx hb dX9_isFound_3 hl (by decide) rfl (fun ls hl => ?_)
  cases hF
  exact ih _ _ _ _ _ _ hgo (Or.inr (⟨rfl, _, _, _, _, rfl, lv_sub hl [2, 3, 4, 1, 0] rfl⟩)) hP hD hS
set_option maxHeartbeats 4000000 in
set_option maxRecDepth 100000 in
theorem wl_X9_isFound_5 (σ : Mem) (hC : CX p c cX9_isFound meth (some .boolean) s m args yX9_isFound.cls 5 D cyI cyZ) (hq : extR q = some r) (n : Nat) (ih : ∀ (pc : Nat) (x : Unit) (vs : List Int32) (ls : Array Slot) (H : Heap) (locs : List Loc), goL (B_X9_isFound σ) n pc x vs = some q → SH_X9_isFound a ls pc vs → va_P D vwCl (wM cyI cyZ a σ) H → va_D A (wM cyI cyZ a σ) → va_S A s.heap H locs → W p l e (headSpec ts_X9_isFound ({ frames := 2, cells := 0, slots := 0, locals := 48 } : Room)).room s m args below meth c H locs 0 0 (MQ below (QcI D cyI cyZ A (wM cyI cyZ a σ) r) args s 0 0 A) (F0 m pc ls [])) (x1 : Int32) (x2 : Int32) (x3 : Int32) (x4 : Int32) (ls : Array Slot) (H : Heap) (locs : List Loc) (hgo : goL (B_X9_isFound σ) (n + 1) 5 () [x1, x2, x3, x4] = some q) (hl : lv_has ls 5 [(0, .ref (a 0)), (1, .int x1), (2, .int x2), (3, .int x3), (4, .int x4)]) (hP : va_P D vwCl (wM cyI cyZ a σ) H) (hD : va_D A (wM cyI cyZ a σ)) (hS : va_S A s.heap H locs) : W p l e (headSpec ts_X9_isFound ({ frames := 2, cells := 0, slots := 0, locals := 48 } : Room)).room s m args below meth c H locs 0 0 (MQ below (QcI D cyI cyZ A (wM cyI cyZ a σ) r) args s 0 0 A) (F0 m 5 ls []) := by
  obtain ⟨hx, hb, hr, hml, hown, hts, hK, hN, hlocks⟩ := hC
  have hown : s.vm.findClass RX9 = some m.cls := hown
  obtain ⟨yy, hF, hgo⟩ := goL_step (by decide) hgo
  have hF : B_X9_isFound_5 σ x1 x2 x3 x4 = some yy := hF
  unfold B_X9_isFound_5 at hF
  refine lv_iload hx hb dX9_isFound_5 (lv_at hl 4 rfl) ?_
  refine lv_aload_n hx hb dX9_isFound_7 rfl (lv_at hl 0 rfl) ?_
  refine va_get (D := D) (ci := 9) (v := .int (σ 0 32)) (C := RX9) (T := TX9) (N := 34) hx hb hts inlX9 hown hK hP 0 gM_0 rfl 32 (by decide) (hts _ mw_545) (fun _ h9 => h9) rfl dX9_isFound_8 ?_
  refine lv_icmp_ge (tgt := 50) hx hb dX9_isFound_11 (by decide) (fun c1 => ?_) (fun c1 => ?_)
  · rw [if_pos c1] at hF
    refine lv_iload_n hx hb dX9_isFound_50 rfl (lv_at hl 3 rfl) ?_
    by_cases c2 : vp_nar .boolean x3 = x3
    case neg => rw [if_neg c2] at hF; cases hF
    rw [if_pos c2] at hF
    cases hF
    obtain rfl := extR_ret hq (goL_ret hgo)
    exact z_zret hx hb hr hlocks hK hP hD hS (z_nar c2) dX9_isFound_51
  · rw [if_neg c1] at hF
    refine lv_iload_n hx hb dX9_isFound_14 rfl (lv_at hl 3 rfl) ?_
    refine lv_if_eq (tgt := 42) hx hb dX9_isFound_15 (by decide) (fun c3 => ?_) (fun c3 => ?_)
    · rw [if_pos c3] at hF
      refine lv_iconst (v := (0 : Int32)) hx hb dX9_isFound_42 (by decide) ?_
      refine lv_istore_n (lv' := [(3, .int (0 : Int32)), (0, .ref (a 0)), (1, .int x1), (2, .int x2), (4, .int x4)]) hx hb dX9_isFound_43 rfl hl (by decide) rfl (fun ls hl => ?_)
      refine lv_iinc (v := (x4 + (1 : Int32))) (lv' := [(4, .int (x4 + (1 : Int32))), (3, .int (0 : Int32)), (0, .ref (a 0)), (1, .int x1), (2, .int x2)]) hx hb dX9_isFound_44 hl (k := 4) rfl rfl (by decide) rfl (fun ls hl => ?_)
      refine lv_goto (tgt := 5) hx hb dX9_isFound_47 (by decide) ?_
      cases hF
      exact ih _ _ _ _ _ _ hgo (Or.inr (⟨rfl, _, _, _, _, rfl, lv_sub hl [2, 3, 4, 1, 0] rfl⟩)) hP hD hS
    · rw [if_neg c3] at hF
      refine lv_iload_n hx hb dX9_isFound_18 rfl (lv_at hl 2 rfl) ?_
      refine lv_iload hx hb dX9_isFound_19 (lv_at hl 4 rfl) ?_
      refine lv_ishr hx hb dX9_isFound_21 ?_
      refine lv_iconst (v := (1 : Int32)) hx hb dX9_isFound_22 (by decide) ?_
      refine lv_iand hx hb dX9_isFound_23 ?_
      refine lv_iconst (v := (1 : Int32)) hx hb dX9_isFound_24 (by decide) ?_
      refine lv_icmp_eq (tgt := 38) hx hb dX9_isFound_25 (by decide) (fun c4 => ?_) (fun c4 => ?_)
      · rw [if_pos c4] at hF
        refine lv_iconst (v := (1 : Int32)) hx hb dX9_isFound_38 (by decide) ?_
        refine lv_goto (tgt := 43) hx hb dX9_isFound_39 (by decide) ?_
        refine lv_istore_n (lv' := [(3, .int (1 : Int32)), (0, .ref (a 0)), (1, .int x1), (2, .int x2), (4, .int x4)]) hx hb dX9_isFound_43 rfl hl (by decide) rfl (fun ls hl => ?_)
        refine lv_iinc (v := (x4 + (1 : Int32))) (lv' := [(4, .int (x4 + (1 : Int32))), (3, .int (1 : Int32)), (0, .ref (a 0)), (1, .int x1), (2, .int x2)]) hx hb dX9_isFound_44 hl (k := 4) rfl rfl (by decide) rfl (fun ls hl => ?_)
        refine lv_goto (tgt := 5) hx hb dX9_isFound_47 (by decide) ?_
        cases hF
        exact ih _ _ _ _ _ _ hgo (Or.inr (⟨rfl, _, _, _, _, rfl, lv_sub hl [2, 3, 4, 1, 0] rfl⟩)) hP hD hS
      · rw [if_neg c4] at hF
        refine lv_aload_n hx hb dX9_isFound_28 rfl (lv_at hl 0 rfl) ?_
        refine lv_iload hx hb dX9_isFound_29 (lv_at hl 4 rfl) ?_
        refine lv_iload_n hx hb dX9_isFound_31 rfl (lv_at hl 1 rfl) ?_
        obtain ⟨v5, e6, hF⟩ := Option.bind_eq_some_iff.mp hF
        refine z_callVI (w' := (wM cyI cyZ a σ)) (As := [.int x4, .int x1]) (rest := []) ⟨hx, hb, hml, hown, hts⟩ (c_X9_holds l D cyI cyZ a A σ x4 x1 _ e6) (cwV 2 hts (gd_V mw_667 mw_668 mw_669 mw_5 mw_670) rfl rfl rfl (by decide +kernel) ⟨Nat.le_of_ble_eq_true rfl, Nat.le_of_ble_eq_true rfl⟩) hK hN hP hD hS 9 0 rfl rfl gM_0 rfl hl.1 rfl (Nat.le_of_ble_eq_true rfl) dX9_isFound_32 ⟨Nat.zero_le _, Nat.zero_le _⟩ (fun H locs hP hD hS => ?_)
        refine lv_if_eq (tgt := 42) hx hb dX9_isFound_35 (by decide) (fun c7 => ?_) (fun c7 => ?_)
        · rw [if_pos c7] at hF
          refine lv_iconst (v := (0 : Int32)) hx hb dX9_isFound_42 (by decide) ?_
          refine lv_istore_n (lv' := [(3, .int (0 : Int32)), (0, .ref (a 0)), (1, .int x1), (2, .int x2), (4, .int x4)]) hx hb dX9_isFound_43 rfl hl (by decide) rfl (fun ls hl => ?_)
          refine lv_iinc (v := (x4 + (1 : Int32))) (lv' := [(4, .int (x4 + (1 : Int32))), (3, .int (0 : Int32)), (0, .ref (a 0)), (1, .int x1), (2, .int x2)]) hx hb dX9_isFound_44 hl (k := 4) rfl rfl (by decide) rfl (fun ls hl => ?_)
          refine lv_goto (tgt := 5) hx hb dX9_isFound_47 (by decide) ?_
          cases hF
          exact ih _ _ _ _ _ _ hgo (Or.inr (⟨rfl, _, _, _, _, rfl, lv_sub hl [2, 3, 4, 1, 0] rfl⟩)) hP hD hS
        · rw [if_neg c7] at hF
          refine lv_iconst (v := (1 : Int32)) hx hb dX9_isFound_38 (by decide) ?_
          refine lv_goto (tgt := 43) hx hb dX9_isFound_39 (by decide) ?_
          refine lv_istore_n (lv' := [(3, .int (1 : Int32)), (0, .ref (a 0)), (1, .int x1), (2, .int x2), (4, .int x4)]) hx hb dX9_isFound_43 rfl hl (by decide) rfl (fun ls hl => ?_)
          refine lv_iinc (v := (x4 + (1 : Int32))) (lv' := [(4, .int (x4 + (1 : Int32))), (3, .int (1 : Int32)), (0, .ref (a 0)), (1, .int x1), (2, .int x2)]) hx hb dX9_isFound_44 hl (k := 4) rfl rfl (by decide) rfl (fun ls hl => ?_)
          refine lv_goto (tgt := 5) hx hb dX9_isFound_47 (by decide) ?_
          cases hF
          exact ih _ _ _ _ _ _ hgo (Or.inr (⟨rfl, _, _, _, _, rfl, lv_sub hl [2, 3, 4, 1, 0] rfl⟩)) hP hD hS
theorem wk_X9_isFound (σ : Mem) (hC : CX p c cX9_isFound meth (some .boolean) s m args yX9_isFound.cls 5 D cyI cyZ) (hq : extR q = some r) : ∀ (n : Nat), ∀ (pc : Nat) (x : Unit) (vs : List Int32) (ls : Array Slot) (H : Heap) (locs : List Loc), goL (B_X9_isFound σ) n pc x vs = some q → SH_X9_isFound a ls pc vs → va_P D vwCl (wM cyI cyZ a σ) H → va_D A (wM cyI cyZ a σ) → va_S A s.heap H locs → W p l e (headSpec ts_X9_isFound ({ frames := 2, cells := 0, slots := 0, locals := 48 } : Room)).room s m args below meth c H locs 0 0 (MQ below (QcI D cyI cyZ A (wM cyI cyZ a σ) r) args s 0 0 A) (F0 m pc ls []) := by
  intro n
  induction n with
  | zero => intro pc x vs ls H locs h; exact absurd h (by simp [goL])
  | succ n ih =>
    intro pc x vs ls H locs hgo hsh hP hD hS
    rcases hsh with ⟨rfl, x1, x2, rfl, hl⟩ | ⟨rfl, x1, x2, x3, x4, rfl, hl⟩
    · exact wl_X9_isFound_0 σ hC hq n ih x1 x2 ls H locs hgo hl hP hD hS
    · exact wl_X9_isFound_5 σ hC hq n ih x1 x2 x3 x4 ls H locs hgo hl hP hD hS
end
theorem c_X9_isFound (l : Launch) (D : va_G) (cyI cyZ : ClassId) (a : Nat → Nat) (A : Nat → Prop) (σ : Mem) (x1 : Int32) (x2 : Int32) (r : Int32) (hF : F_X9_isFound σ x1 x2 = some r) : CtI l yX9_isFound ts_X9_isFound ({ frames := 2, cells := 0, slots := 0, locals := 48 } : Room) [.ref (a 0), .int x1, .int x2] D cyI cyZ A (wM cyI cyZ a σ) (wM cyI cyZ a σ) r := by
  refine CtI.of (cc := cX9_isFound) (maxL := 5) (ret := (some .boolean)) (by decide) rfl (Nat.le_of_ble_eq_true rfl) ?_
  intro p e s m below meth c ls hC hP hD hl
  obtain ⟨q, hq, hr1⟩ := Option.bind_eq_some_iff.mp hF
  obtain ⟨n, hn⟩ := finL_some hq
  exact wk_X9_isFound σ hC hr1 n 0 _ _ ls _ _ hn (Or.inl ⟨rfl, _, _, rfl, hl⟩) hP hD va_S.rf
abbrev ts_X9_foundMany : List Cond := .code yX9_foundMany cX9_foundMany 4 (some .int) :: wsL_law
def SH_X9_foundMany (a : Nat → Nat) (ls : Array Slot) (pc : Nat) (vs : List Int32) : Prop := (pc = 0 ∧ ∃ x1 : Int32, vs = [x1] ∧ lv_has ls 4 [(0, .ref (a 0)), (1, .int x1)]) ∨ (pc = 4 ∧ ∃ x1 x2 x3 : Int32, vs = [x1, x2, x3] ∧ lv_has ls 4 [(0, .ref (a 0)), (1, .int x1), (2, .int x2), (3, .int x3)])
section
variable {p : Program} {l : Launch} {e : Env} {s : State} {m : MethodId} {args : Array Value} {below : List Frame} {meth : Method} {c : Code} {D : va_G} {A : Nat → Prop} {a : Nat → Nat} {cyI cyZ : ClassId} {r : Int32} {q : Unit × List Int32}
set_option maxHeartbeats 4000000 in
set_option maxRecDepth 100000 in
theorem wl_X9_foundMany_0 (σ : Mem) (hC : CX p c cX9_foundMany meth (some .int) s m args yX9_foundMany.cls 4 D cyI cyZ) (hq : extR q = some r) (n : Nat) (ih : ∀ (pc : Nat) (x : Unit) (vs : List Int32) (ls : Array Slot) (H : Heap) (locs : List Loc), goL (B_X9_foundMany σ) n pc x vs = some q → SH_X9_foundMany a ls pc vs → va_P D vwCl (wM cyI cyZ a σ) H → va_D A (wM cyI cyZ a σ) → va_S A s.heap H locs → W p l e (headSpec ts_X9_foundMany ({ frames := 3, cells := 0, slots := 0, locals := 72 } : Room)).room s m args below meth c H locs 0 0 (MQ below (QcI D cyI cyZ A (wM cyI cyZ a σ) r) args s 0 0 A) (F0 m pc ls [])) (x1 : Int32) (ls : Array Slot) (H : Heap) (locs : List Loc) (hgo : goL (B_X9_foundMany σ) (n + 1) 0 () [x1] = some q) (hl : lv_has ls 4 [(0, .ref (a 0)), (1, .int x1)]) (hP : va_P D vwCl (wM cyI cyZ a σ) H) (hD : va_D A (wM cyI cyZ a σ)) (hS : va_S A s.heap H locs) : W p l e (headSpec ts_X9_foundMany ({ frames := 3, cells := 0, slots := 0, locals := 72 } : Room)).room s m args below meth c H locs 0 0 (MQ below (QcI D cyI cyZ A (wM cyI cyZ a σ) r) args s 0 0 A) (F0 m 0 ls []) := by
  obtain ⟨hx, hb, hr, hml, hown, hts, hK, hN, hlocks⟩ := hC
  have hown : s.vm.findClass RX9 = some m.cls := hown
  obtain ⟨yy, hF, hgo⟩ := goL_step (by decide) hgo
  have hF : B_X9_foundMany_0 σ x1 = some yy := hF
  unfold B_X9_foundMany_0 at hF
  refine lv_iconst (v := (0 : Int32)) hx hb dX9_foundMany_0 (by decide) ?_
  refine lv_istore_n (lv' := [(2, .int (0 : Int32)), (0, .ref (a 0)), (1, .int x1)]) hx hb dX9_foundMany_1 rfl hl (by decide) rfl (fun ls hl => ?_)
  refine lv_iconst (v := (0 : Int32)) hx hb dX9_foundMany_2 (by decide) ?_
  refine lv_istore_n (lv' := [(3, .int (0 : Int32)), (2, .int (0 : Int32)), (0, .ref (a 0)), (1, .int x1)]) hx hb dX9_foundMany_3 rfl hl (by decide) rfl (fun ls hl => ?_)
  cases hF
  exact ih _ _ _ _ _ _ hgo (Or.inr (⟨rfl, _, _, _, rfl, lv_sub hl [2, 3, 1, 0] rfl⟩)) hP hD hS
set_option maxHeartbeats 4000000 in
set_option maxRecDepth 100000 in
theorem wl_X9_foundMany_4 (σ : Mem) (hC : CX p c cX9_foundMany meth (some .int) s m args yX9_foundMany.cls 4 D cyI cyZ) (hq : extR q = some r) (n : Nat) (ih : ∀ (pc : Nat) (x : Unit) (vs : List Int32) (ls : Array Slot) (H : Heap) (locs : List Loc), goL (B_X9_foundMany σ) n pc x vs = some q → SH_X9_foundMany a ls pc vs → va_P D vwCl (wM cyI cyZ a σ) H → va_D A (wM cyI cyZ a σ) → va_S A s.heap H locs → W p l e (headSpec ts_X9_foundMany ({ frames := 3, cells := 0, slots := 0, locals := 72 } : Room)).room s m args below meth c H locs 0 0 (MQ below (QcI D cyI cyZ A (wM cyI cyZ a σ) r) args s 0 0 A) (F0 m pc ls [])) (x1 : Int32) (x2 : Int32) (x3 : Int32) (ls : Array Slot) (H : Heap) (locs : List Loc) (hgo : goL (B_X9_foundMany σ) (n + 1) 4 () [x1, x2, x3] = some q) (hl : lv_has ls 4 [(0, .ref (a 0)), (1, .int x1), (2, .int x2), (3, .int x3)]) (hP : va_P D vwCl (wM cyI cyZ a σ) H) (hD : va_D A (wM cyI cyZ a σ)) (hS : va_S A s.heap H locs) : W p l e (headSpec ts_X9_foundMany ({ frames := 3, cells := 0, slots := 0, locals := 72 } : Room)).room s m args below meth c H locs 0 0 (MQ below (QcI D cyI cyZ A (wM cyI cyZ a σ) r) args s 0 0 A) (F0 m 4 ls []) := by
  obtain ⟨hx, hb, hr, hml, hown, hts, hK, hN, hlocks⟩ := hC
  have hown : s.vm.findClass RX9 = some m.cls := hown
  obtain ⟨yy, hF, hgo⟩ := goL_step (by decide) hgo
  have hF : B_X9_foundMany_4 σ x1 x2 x3 = some yy := hF
  unfold B_X9_foundMany_4 at hF
  refine lv_iload_n hx hb dX9_foundMany_4 rfl (lv_at hl 3 rfl) ?_
  refine lv_aload_n hx hb dX9_foundMany_5 rfl (lv_at hl 0 rfl) ?_
  refine va_get (D := D) (ci := 9) (v := .ref (a 2)) (C := RX9) (T := TX9) (N := 34) hx hb hts inlX9 hown hK hP 0 gM_0 rfl 1 (by decide) (hts _ mw_118) (fun _ h9 => h9) rfl dX9_foundMany_6 ?_
  refine lv_aload_n hx hb dX9_foundMany_9 rfl (lv_at hl 0 rfl) ?_
  refine va_get (D := D) (ci := 9) (v := .int (σ 0 25)) (C := RX9) (T := TX9) (N := 34) hx hb hts inlX9 hown hK hP 0 gM_0 rfl 25 (by decide) (hts _ mw_543) (fun _ h9 => h9) rfl dX9_foundMany_10 ?_
  obtain ⟨v1, e2, hF⟩ := Option.bind_eq_some_iff.mp hF
  refine z_ild hx hb hK hP 2 gM_2 e2 dX9_foundMany_13 ?_
  refine lv_icmp_ge (tgt := 40) hx hb dX9_foundMany_14 (by decide) (fun c3 => ?_) (fun c3 => ?_)
  · rw [if_pos c3] at hF
    refine lv_iload_n hx hb dX9_foundMany_40 rfl (lv_at hl 2 rfl) ?_
    cases hF
    obtain rfl := extR_ret hq (goL_ret hgo)
    exact z_iret hx hb hr hlocks hK hP hD hS dX9_foundMany_41
  · rw [if_neg c3] at hF
    refine lv_iload_n hx hb dX9_foundMany_17 rfl (lv_at hl 2 rfl) ?_
    refine lv_aload_n hx hb dX9_foundMany_18 rfl (lv_at hl 0 rfl) ?_
    refine lv_iload_n hx hb dX9_foundMany_19 rfl (lv_at hl 3 rfl) ?_
    refine lv_iload_n hx hb dX9_foundMany_20 rfl (lv_at hl 1 rfl) ?_
    obtain ⟨v4, e5, hF⟩ := Option.bind_eq_some_iff.mp hF
    refine z_callVI (w' := (wM cyI cyZ a σ)) (As := [.int x3, .int x1]) (rest := [.int x2]) ⟨hx, hb, hml, hown, hts⟩ (c_X9_isFound l D cyI cyZ a A σ x3 x1 _ e5) (cwV 2 hts (gd_V mw_663 mw_664 mw_665 mw_5 mw_666) rfl rfl rfl (by decide +kernel) ⟨Nat.le_of_ble_eq_true rfl, Nat.le_of_ble_eq_true rfl⟩) hK hN hP hD hS 9 0 rfl rfl gM_0 rfl hl.1 rfl (Nat.le_of_ble_eq_true rfl) dX9_foundMany_21 ⟨Nat.zero_le _, Nat.zero_le _⟩ (fun H locs hP hD hS => ?_)
    refine lv_if_eq (tgt := 31) hx hb dX9_foundMany_24 (by decide) (fun c6 => ?_) (fun c6 => ?_)
    · rw [if_pos c6] at hF
      refine lv_iconst (v := (0 : Int32)) hx hb dX9_foundMany_31 (by decide) ?_
      refine lv_iadd hx hb dX9_foundMany_32 ?_
      refine lv_istore_n (lv' := [(2, .int (x2 + (0 : Int32))), (0, .ref (a 0)), (1, .int x1), (3, .int x3)]) hx hb dX9_foundMany_33 rfl hl (by decide) rfl (fun ls hl => ?_)
      refine lv_iinc (v := (x3 + (1 : Int32))) (lv' := [(3, .int (x3 + (1 : Int32))), (2, .int (x2 + (0 : Int32))), (0, .ref (a 0)), (1, .int x1)]) hx hb dX9_foundMany_34 hl (k := 3) rfl rfl (by decide) rfl (fun ls hl => ?_)
      refine lv_goto (tgt := 4) hx hb dX9_foundMany_37 (by decide) ?_
      cases hF
      exact ih _ _ _ _ _ _ hgo (Or.inr (⟨rfl, _, _, _, rfl, lv_sub hl [2, 3, 1, 0] rfl⟩)) hP hD hS
    · rw [if_neg c6] at hF
      refine lv_iconst (v := (1 : Int32)) hx hb dX9_foundMany_27 (by decide) ?_
      refine lv_goto (tgt := 32) hx hb dX9_foundMany_28 (by decide) ?_
      refine lv_iadd hx hb dX9_foundMany_32 ?_
      refine lv_istore_n (lv' := [(2, .int (x2 + (1 : Int32))), (0, .ref (a 0)), (1, .int x1), (3, .int x3)]) hx hb dX9_foundMany_33 rfl hl (by decide) rfl (fun ls hl => ?_)
      refine lv_iinc (v := (x3 + (1 : Int32))) (lv' := [(3, .int (x3 + (1 : Int32))), (2, .int (x2 + (1 : Int32))), (0, .ref (a 0)), (1, .int x1)]) hx hb dX9_foundMany_34 hl (k := 3) rfl rfl (by decide) rfl (fun ls hl => ?_)
      refine lv_goto (tgt := 4) hx hb dX9_foundMany_37 (by decide) ?_
      cases hF
      exact ih _ _ _ _ _ _ hgo (Or.inr (⟨rfl, _, _, _, rfl, lv_sub hl [2, 3, 1, 0] rfl⟩)) hP hD hS
theorem wk_X9_foundMany (σ : Mem) (hC : CX p c cX9_foundMany meth (some .int) s m args yX9_foundMany.cls 4 D cyI cyZ) (hq : extR q = some r) : ∀ (n : Nat), ∀ (pc : Nat) (x : Unit) (vs : List Int32) (ls : Array Slot) (H : Heap) (locs : List Loc), goL (B_X9_foundMany σ) n pc x vs = some q → SH_X9_foundMany a ls pc vs → va_P D vwCl (wM cyI cyZ a σ) H → va_D A (wM cyI cyZ a σ) → va_S A s.heap H locs → W p l e (headSpec ts_X9_foundMany ({ frames := 3, cells := 0, slots := 0, locals := 72 } : Room)).room s m args below meth c H locs 0 0 (MQ below (QcI D cyI cyZ A (wM cyI cyZ a σ) r) args s 0 0 A) (F0 m pc ls []) := by
  intro n
  induction n with
  | zero => intro pc x vs ls H locs h; exact absurd h (by simp [goL])
  | succ n ih =>
    intro pc x vs ls H locs hgo hsh hP hD hS
    rcases hsh with ⟨rfl, x1, rfl, hl⟩ | ⟨rfl, x1, x2, x3, rfl, hl⟩
    · exact wl_X9_foundMany_0 σ hC hq n ih x1 ls H locs hgo hl hP hD hS
    · exact wl_X9_foundMany_4 σ hC hq n ih x1 x2 x3 ls H locs hgo hl hP hD hS
end
theorem c_X9_foundMany (l : Launch) (D : va_G) (cyI cyZ : ClassId) (a : Nat → Nat) (A : Nat → Prop) (σ : Mem) (x1 : Int32) (r : Int32) (hF : F_X9_foundMany σ x1 = some r) : CtI l yX9_foundMany ts_X9_foundMany ({ frames := 3, cells := 0, slots := 0, locals := 72 } : Room) [.ref (a 0), .int x1] D cyI cyZ A (wM cyI cyZ a σ) (wM cyI cyZ a σ) r := by
  refine CtI.of (cc := cX9_foundMany) (maxL := 4) (ret := (some .int)) (by decide) rfl (Nat.le_of_ble_eq_true rfl) ?_
  intro p e s m below meth c ls hC hP hD hl
  obtain ⟨q, hq, hr1⟩ := Option.bind_eq_some_iff.mp hF
  obtain ⟨n, hn⟩ := finL_some hq
  exact wk_X9_foundMany σ hC hr1 n 0 _ _ ls _ _ hn (Or.inl ⟨rfl, _, rfl, hl⟩) hP hD va_S.rf
abbrev ts_X9_answerOf : List Cond := .code yX9_answerOf cX9_answerOf 6 (some .int) :: wsL_law
def SH_X9_answerOf (a : Nat → Nat) (ls : Array Slot) (pc : Nat) (vs : List Int32) : Prop := (pc = 0 ∧ vs = [] ∧ lv_has ls 6 [(0, .ref (a 0))]) ∨ (pc = 24 ∧ ∃ x1 x2 x3 x4 : Int32, vs = [x1, x2, x3, x4] ∧ lv_has ls 6 [(0, .ref (a 0)), (1, .int x1), (2, .int x2), (3, .int x3), (4, .int x4)])
section
variable {p : Program} {l : Launch} {e : Env} {s : State} {m : MethodId} {args : Array Value} {below : List Frame} {meth : Method} {c : Code} {D : va_G} {A : Nat → Prop} {a : Nat → Nat} {cyI cyZ : ClassId} {r : Int32} {q : Unit × List Int32}
set_option maxHeartbeats 4000000 in
set_option maxRecDepth 100000 in
theorem wl_X9_answerOf_0 (σ : Mem) (hC : CX p c cX9_answerOf meth (some .int) s m args yX9_answerOf.cls 6 D cyI cyZ) (hq : extR q = some r) (n : Nat) (ih : ∀ (pc : Nat) (x : Unit) (vs : List Int32) (ls : Array Slot) (H : Heap) (locs : List Loc), goL (B_X9_answerOf σ) n pc x vs = some q → SH_X9_answerOf a ls pc vs → va_P D vwCl (wM cyI cyZ a σ) H → va_D A (wM cyI cyZ a σ) → va_S A s.heap H locs → W p l e (headSpec ts_X9_answerOf ({ frames := 4, cells := 0, slots := 0, locals := 95 } : Room)).room s m args below meth c H locs 0 0 (MQ below (QcI D cyI cyZ A (wM cyI cyZ a σ) r) args s 0 0 A) (F0 m pc ls [])) (ls : Array Slot) (H : Heap) (locs : List Loc) (hgo : goL (B_X9_answerOf σ) (n + 1) 0 () [] = some q) (hl : lv_has ls 6 [(0, .ref (a 0))]) (hP : va_P D vwCl (wM cyI cyZ a σ) H) (hD : va_D A (wM cyI cyZ a σ)) (hS : va_S A s.heap H locs) : W p l e (headSpec ts_X9_answerOf ({ frames := 4, cells := 0, slots := 0, locals := 95 } : Room)).room s m args below meth c H locs 0 0 (MQ below (QcI D cyI cyZ A (wM cyI cyZ a σ) r) args s 0 0 A) (F0 m 0 ls []) := by
  obtain ⟨hx, hb, hr, hml, hown, hts, hK, hN, hlocks⟩ := hC
  have hown : s.vm.findClass RX9 = some m.cls := hown
  obtain ⟨yy, hF, hgo⟩ := goL_step (by decide) hgo
  have hF : B_X9_answerOf_0 σ  = some yy := hF
  unfold B_X9_answerOf_0 at hF
  refine lv_aload_n hx hb dX9_answerOf_0 rfl (lv_at hl 0 rfl) ?_
  refine va_get (D := D) (ci := 9) (v := .int (σ 0 24)) (C := RX9) (T := TX9) (N := 34) hx hb hts inlX9 hown hK hP 0 gM_0 rfl 24 (by decide) (hts _ mw_542) (fun _ h9 => h9) rfl dX9_answerOf_1 ?_
  refine lv_if_ne (tgt := 13) hx hb dX9_answerOf_4 (by decide) (fun c1 => ?_) (fun c1 => ?_)
  · rw [if_neg c1] at hF
    refine lv_iconst (v := (0 : Int32)) hx hb dX9_answerOf_13 (by decide) ?_
    refine lv_istore_n (lv' := [(1, .int (0 : Int32)), (0, .ref (a 0))]) hx hb dX9_answerOf_14 rfl hl (by decide) rfl (fun ls hl => ?_)
    refine lv_ldc (v := (-1000000 : Int32)) hx hb hown (hts _ mw_248) dX9_answerOf_15 ?_
    refine lv_istore_n (lv' := [(2, .int (-1000000 : Int32)), (1, .int (0 : Int32)), (0, .ref (a 0))]) hx hb dX9_answerOf_17 rfl hl (by decide) rfl (fun ls hl => ?_)
    refine lv_ldc (v := (-1000000 : Int32)) hx hb hown (hts _ mw_248) dX9_answerOf_18 ?_
    refine lv_istore_n (lv' := [(3, .int (-1000000 : Int32)), (2, .int (-1000000 : Int32)), (1, .int (0 : Int32)), (0, .ref (a 0))]) hx hb dX9_answerOf_20 rfl hl (by decide) rfl (fun ls hl => ?_)
    refine lv_iconst (v := (0 : Int32)) hx hb dX9_answerOf_21 (by decide) ?_
    refine lv_istore (lv' := [(4, .int (0 : Int32)), (3, .int (-1000000 : Int32)), (2, .int (-1000000 : Int32)), (1, .int (0 : Int32)), (0, .ref (a 0))]) hx hb dX9_answerOf_22 hl (by decide) rfl (fun ls hl => ?_)
    cases hF
    exact ih _ _ _ _ _ _ hgo (Or.inr (⟨rfl, _, _, _, _, rfl, lv_sub hl [4, 3, 2, 1, 0] rfl⟩)) hP hD hS
  · rw [if_pos c1] at hF
    refine lv_aload_n hx hb dX9_answerOf_7 rfl (lv_at hl 0 rfl) ?_
    refine lv_iconst (v := (0 : Int32)) hx hb dX9_answerOf_8 (by decide) ?_
    obtain ⟨v2, e3, hF⟩ := Option.bind_eq_some_iff.mp hF
    refine z_callVI (w' := (wM cyI cyZ a σ)) (As := [.int (0 : Int32)]) (rest := []) ⟨hx, hb, hml, hown, hts⟩ (c_X9_foundMany l D cyI cyZ a A σ (0 : Int32) _ e3) (cwV 1 hts (gd_V mw_659 mw_660 mw_661 mw_5 mw_662) rfl rfl rfl (by decide +kernel) ⟨Nat.le_of_ble_eq_true rfl, Nat.le_of_ble_eq_true rfl⟩) hK hN hP hD hS 9 0 rfl rfl gM_0 rfl hl.1 rfl (Nat.le_of_ble_eq_true rfl) dX9_answerOf_9 ⟨Nat.zero_le _, Nat.zero_le _⟩ (fun H locs hP hD hS => ?_)
    cases hF
    obtain rfl := extR_ret hq (goL_ret hgo)
    exact z_iret hx hb hr hlocks hK hP hD hS dX9_answerOf_12
set_option maxHeartbeats 4000000 in
set_option maxRecDepth 100000 in
theorem wl_X9_answerOf_24 (σ : Mem) (hC : CX p c cX9_answerOf meth (some .int) s m args yX9_answerOf.cls 6 D cyI cyZ) (hq : extR q = some r) (n : Nat) (ih : ∀ (pc : Nat) (x : Unit) (vs : List Int32) (ls : Array Slot) (H : Heap) (locs : List Loc), goL (B_X9_answerOf σ) n pc x vs = some q → SH_X9_answerOf a ls pc vs → va_P D vwCl (wM cyI cyZ a σ) H → va_D A (wM cyI cyZ a σ) → va_S A s.heap H locs → W p l e (headSpec ts_X9_answerOf ({ frames := 4, cells := 0, slots := 0, locals := 95 } : Room)).room s m args below meth c H locs 0 0 (MQ below (QcI D cyI cyZ A (wM cyI cyZ a σ) r) args s 0 0 A) (F0 m pc ls [])) (x1 : Int32) (x2 : Int32) (x3 : Int32) (x4 : Int32) (ls : Array Slot) (H : Heap) (locs : List Loc) (hgo : goL (B_X9_answerOf σ) (n + 1) 24 () [x1, x2, x3, x4] = some q) (hl : lv_has ls 6 [(0, .ref (a 0)), (1, .int x1), (2, .int x2), (3, .int x3), (4, .int x4)]) (hP : va_P D vwCl (wM cyI cyZ a σ) H) (hD : va_D A (wM cyI cyZ a σ)) (hS : va_S A s.heap H locs) : W p l e (headSpec ts_X9_answerOf ({ frames := 4, cells := 0, slots := 0, locals := 95 } : Room)).room s m args below meth c H locs 0 0 (MQ below (QcI D cyI cyZ A (wM cyI cyZ a σ) r) args s 0 0 A) (F0 m 24 ls []) := by
  obtain ⟨hx, hb, hr, hml, hown, hts, hK, hN, hlocks⟩ := hC
  have hown : s.vm.findClass RX9 = some m.cls := hown
  obtain ⟨yy, hF, hgo⟩ := goL_step (by decide) hgo
  have hF : B_X9_answerOf_24 σ x1 x2 x3 x4 = some yy := hF
  unfold B_X9_answerOf_24 at hF
  refine lv_iload hx hb dX9_answerOf_24 (lv_at hl 4 rfl) ?_
  refine lv_aload_n hx hb dX9_answerOf_26 rfl (lv_at hl 0 rfl) ?_
  refine va_get (D := D) (ci := 9) (v := .ref (a 2)) (C := RX9) (T := TX9) (N := 34) hx hb hts inlX9 hown hK hP 0 gM_0 rfl 1 (by decide) (hts _ mw_118) (fun _ h9 => h9) rfl dX9_answerOf_27 ?_
  refine lv_aload_n hx hb dX9_answerOf_30 rfl (lv_at hl 0 rfl) ?_
  refine va_get (D := D) (ci := 9) (v := .int (σ 0 25)) (C := RX9) (T := TX9) (N := 34) hx hb hts inlX9 hown hK hP 0 gM_0 rfl 25 (by decide) (hts _ mw_543) (fun _ h9 => h9) rfl dX9_answerOf_31 ?_
  obtain ⟨v1, e2, hF⟩ := Option.bind_eq_some_iff.mp hF
  refine z_ild hx hb hK hP 2 gM_2 e2 dX9_answerOf_34 ?_
  refine lv_icmp_ge (tgt := 121) hx hb dX9_answerOf_35 (by decide) (fun c3 => ?_) (fun c3 => ?_)
  · rw [if_pos c3] at hF
    refine lv_aload_n hx hb dX9_answerOf_121 rfl (lv_at hl 0 rfl) ?_
    refine va_get (D := D) (ci := 9) (v := .int (σ 0 24)) (C := RX9) (T := TX9) (N := 34) hx hb hts inlX9 hown hK hP 0 gM_0 rfl 24 (by decide) (hts _ mw_542) (fun _ h9 => h9) rfl dX9_answerOf_122 ?_
    refine lv_iconst (v := (1 : Int32)) hx hb dX9_answerOf_125 (by decide) ?_
    refine lv_icmp_ne (tgt := 133) hx hb dX9_answerOf_126 (by decide) (fun c4 => ?_) (fun c4 => ?_)
    · rw [if_neg c4] at hF
      refine lv_aload_n hx hb dX9_answerOf_133 rfl (lv_at hl 0 rfl) ?_
      refine va_get (D := D) (ci := 9) (v := .int (σ 0 24)) (C := RX9) (T := TX9) (N := 34) hx hb hts inlX9 hown hK hP 0 gM_0 rfl 24 (by decide) (hts _ mw_542) (fun _ h9 => h9) rfl dX9_answerOf_134 ?_
      refine lv_iconst (v := (2 : Int32)) hx hb dX9_answerOf_137 (by decide) ?_
      refine lv_icmp_ne (tgt := 145) hx hb dX9_answerOf_138 (by decide) (fun c5 => ?_) (fun c5 => ?_)
      · rw [if_neg c5] at hF
        refine lv_iload_n hx hb dX9_answerOf_145 rfl (lv_at hl 3 rfl) ?_
        cases hF
        obtain rfl := extR_ret hq (goL_ret hgo)
        exact z_iret hx hb hr hlocks hK hP hD hS dX9_answerOf_146
      · rw [if_pos c5] at hF
        refine lv_iload_n hx hb dX9_answerOf_141 rfl (lv_at hl 2 rfl) ?_
        refine lv_goto (tgt := 146) hx hb dX9_answerOf_142 (by decide) ?_
        cases hF
        obtain rfl := extR_ret hq (goL_ret hgo)
        exact z_iret hx hb hr hlocks hK hP hD hS dX9_answerOf_146
    · rw [if_pos c4] at hF
      refine lv_iload_n hx hb dX9_answerOf_129 rfl (lv_at hl 1 rfl) ?_
      refine lv_goto (tgt := 146) hx hb dX9_answerOf_130 (by decide) ?_
      cases hF
      obtain rfl := extR_ret hq (goL_ret hgo)
      exact z_iret hx hb hr hlocks hK hP hD hS dX9_answerOf_146
  · rw [if_neg c3] at hF
    refine lv_aload_n hx hb dX9_answerOf_38 rfl (lv_at hl 0 rfl) ?_
    refine lv_aload_n hx hb dX9_answerOf_39 rfl (lv_at hl 0 rfl) ?_
    refine va_get (D := D) (ci := 9) (v := .int (σ 0 25)) (C := RX9) (T := TX9) (N := 34) hx hb hts inlX9 hown hK hP 0 gM_0 rfl 25 (by decide) (hts _ mw_543) (fun _ h9 => h9) rfl dX9_answerOf_40 ?_
    refine lv_iload hx hb dX9_answerOf_43 (lv_at hl 4 rfl) ?_
    refine lv_aload_n hx hb dX9_answerOf_45 rfl (lv_at hl 0 rfl) ?_
    refine va_get (D := D) (ci := 9) (v := .int (σ 0 26)) (C := RX9) (T := TX9) (N := 34) hx hb hts inlX9 hown hK hP 0 gM_0 rfl 26 (by decide) (hts _ mw_544) (fun _ h9 => h9) rfl dX9_answerOf_46 ?_
    obtain ⟨v6, e7, hF⟩ := Option.bind_eq_some_iff.mp hF
    refine z_callVI (w' := (wM cyI cyZ a σ)) (As := [.int (σ 0 25), .int x4, .int (σ 0 26)]) (rest := []) ⟨hx, hb, hml, hown, hts⟩ (c_X9_valueOf l D cyI cyZ a A σ (σ 0 25) x4 (σ 0 26) _ e7) (cwV 3 hts (gd_V mw_249 mw_250 mw_251 mw_5 mw_252) rfl rfl rfl (by decide +kernel) ⟨Nat.le_of_ble_eq_true rfl, Nat.le_of_ble_eq_true rfl⟩) hK hN hP hD hS 9 0 rfl rfl gM_0 rfl hl.1 rfl (Nat.le_of_ble_eq_true rfl) dX9_answerOf_49 ⟨Nat.zero_le _, Nat.zero_le _⟩ (fun H locs hP hD hS => ?_)
    refine lv_istore (lv' := [(5, .int v6), (0, .ref (a 0)), (1, .int x1), (2, .int x2), (3, .int x3), (4, .int x4)]) hx hb dX9_answerOf_52 hl (by decide) rfl (fun ls hl => ?_)
    refine lv_aload_n hx hb dX9_answerOf_54 rfl (lv_at hl 1 rfl) ?_
    refine lv_iload hx hb dX9_answerOf_55 (lv_at hl 5 rfl) ?_
    refine lv_iconst (v := (0 : Int32)) hx hb dX9_answerOf_57 (by decide) ?_
    obtain ⟨v8, e9, hF⟩ := Option.bind_eq_some_iff.mp hF
    refine z_callVI (w' := (wM cyI cyZ a σ)) (As := [.int x4, .int (0 : Int32)]) (rest := []) ⟨hx, hb, hml, hown, hts⟩ (c_X9_isFound l D cyI cyZ a A σ x4 (0 : Int32) _ e9) (cwV 2 hts (gd_V mw_663 mw_664 mw_665 mw_5 mw_666) rfl rfl rfl (by decide +kernel) ⟨Nat.le_of_ble_eq_true rfl, Nat.le_of_ble_eq_true rfl⟩) hK hN hP hD hS 9 0 rfl rfl gM_0 rfl hl.1 rfl (Nat.le_of_ble_eq_true rfl) dX9_answerOf_58 ⟨Nat.zero_le _, Nat.zero_le _⟩ (fun H locs hP hD hS => ?_)
    refine lv_if_eq (tgt := 115) hx hb dX9_answerOf_61 (by decide) (fun c10 => ?_) (fun c10 => ?_)
    · rw [if_pos c10] at hF
      refine lv_iinc (v := (x4 + (1 : Int32))) (lv' := [(4, .int (x4 + (1 : Int32))), (5, .int v6), (0, .ref (a 0)), (1, .int x1), (2, .int x2), (3, .int x3)]) hx hb dX9_answerOf_115 hl (k := 5) rfl rfl (by decide) rfl (fun ls hl => ?_)
      refine lv_goto (tgt := 24) hx hb dX9_answerOf_118 (by decide) ?_
      cases hF
      exact ih _ _ _ _ _ _ hgo (Or.inr (⟨rfl, _, _, _, _, rfl, lv_sub hl [2, 3, 4, 5, 0] rfl⟩)) hP hD hS
    · rw [if_neg c10] at hF
      refine lv_iload hx hb dX9_answerOf_64 (lv_at hl 0 rfl) ?_
      refine lv_sipush (v := (-1000 : Int32)) hx hb dX9_answerOf_66 (by decide) ?_
      refine lv_icmp_eq (tgt := 115) hx hb dX9_answerOf_69 (by decide) (fun c11 => ?_) (fun c11 => ?_)
      · rw [if_pos c11] at hF
        refine lv_iinc (v := (x4 + (1 : Int32))) (lv' := [(4, .int (x4 + (1 : Int32))), (5, .int v6), (0, .ref (a 0)), (1, .int x1), (2, .int x2), (3, .int x3)]) hx hb dX9_answerOf_115 hl (k := 5) rfl rfl (by decide) rfl (fun ls hl => ?_)
        refine lv_goto (tgt := 24) hx hb dX9_answerOf_118 (by decide) ?_
        cases hF
        exact ih _ _ _ _ _ _ hgo (Or.inr (⟨rfl, _, _, _, _, rfl, lv_sub hl [2, 3, 4, 5, 0] rfl⟩)) hP hD hS
      · rw [if_neg c11] at hF
        refine lv_iload_n hx hb dX9_answerOf_72 rfl (lv_at hl 2 rfl) ?_
        refine lv_iload hx hb dX9_answerOf_73 (lv_at hl 0 rfl) ?_
        refine lv_iadd hx hb dX9_answerOf_75 ?_
        refine lv_istore_n (lv' := [(1, .int (x1 + v6)), (5, .int v6), (0, .ref (a 0)), (2, .int x2), (3, .int x3), (4, .int x4)]) hx hb dX9_answerOf_76 rfl hl (by decide) rfl (fun ls hl => ?_)
        refine lv_iload_n hx hb dX9_answerOf_77 rfl (lv_at hl 3 rfl) ?_
        refine lv_ldc (v := (-1000000 : Int32)) hx hb hown (hts _ mw_248) dX9_answerOf_78 ?_
        refine lv_icmp_eq (tgt := 89) hx hb dX9_answerOf_80 (by decide) (fun c12 => ?_) (fun c12 => ?_)
        · rw [if_pos c12] at hF
          refine lv_iload hx hb dX9_answerOf_89 (lv_at hl 1 rfl) ?_
          refine lv_goto (tgt := 95) hx hb dX9_answerOf_91 (by decide) ?_
          refine lv_istore_n (lv' := [(2, .int v6), (1, .int (x1 + v6)), (5, .int v6), (0, .ref (a 0)), (3, .int x3), (4, .int x4)]) hx hb dX9_answerOf_95 rfl hl (by decide) rfl (fun ls hl => ?_)
          refine lv_iload_n hx hb dX9_answerOf_96 rfl (lv_at hl 4 rfl) ?_
          refine lv_ldc (v := (-1000000 : Int32)) hx hb hown (hts _ mw_248) dX9_answerOf_97 ?_
          refine lv_icmp_eq (tgt := 108) hx hb dX9_answerOf_99 (by decide) (fun c13 => ?_) (fun c13 => ?_)
          · rw [if_pos c13] at hF
            refine lv_iload hx hb dX9_answerOf_108 (lv_at hl 2 rfl) ?_
            refine lv_goto (tgt := 114) hx hb dX9_answerOf_110 (by decide) ?_
            refine lv_istore_n (lv' := [(3, .int v6), (2, .int v6), (1, .int (x1 + v6)), (5, .int v6), (0, .ref (a 0)), (4, .int x4)]) hx hb dX9_answerOf_114 rfl hl (by decide) rfl (fun ls hl => ?_)
            refine lv_iinc (v := (x4 + (1 : Int32))) (lv' := [(4, .int (x4 + (1 : Int32))), (3, .int v6), (2, .int v6), (1, .int (x1 + v6)), (5, .int v6), (0, .ref (a 0))]) hx hb dX9_answerOf_115 hl (k := 5) rfl rfl (by decide) rfl (fun ls hl => ?_)
            refine lv_goto (tgt := 24) hx hb dX9_answerOf_118 (by decide) ?_
            cases hF
            exact ih _ _ _ _ _ _ hgo (Or.inr (⟨rfl, _, _, _, _, rfl, lv_sub hl [5, 3, 2, 1, 0] rfl⟩)) hP hD hS
          · rw [if_neg c13] at hF
            refine lv_iload hx hb dX9_answerOf_102 (lv_at hl 2 rfl) ?_
            refine lv_iload_n hx hb dX9_answerOf_104 rfl (lv_at hl 4 rfl) ?_
            refine lv_icmp_ge (tgt := 113) hx hb dX9_answerOf_105 (by decide) (fun c14 => ?_) (fun c14 => ?_)
            · rw [if_pos c14] at hF
              refine lv_iload_n hx hb dX9_answerOf_113 rfl (lv_at hl 4 rfl) ?_
              refine lv_istore_n (lv' := [(3, .int x3), (2, .int v6), (1, .int (x1 + v6)), (5, .int v6), (0, .ref (a 0)), (4, .int x4)]) hx hb dX9_answerOf_114 rfl hl (by decide) rfl (fun ls hl => ?_)
              refine lv_iinc (v := (x4 + (1 : Int32))) (lv' := [(4, .int (x4 + (1 : Int32))), (3, .int x3), (2, .int v6), (1, .int (x1 + v6)), (5, .int v6), (0, .ref (a 0))]) hx hb dX9_answerOf_115 hl (k := 5) rfl rfl (by decide) rfl (fun ls hl => ?_)
              refine lv_goto (tgt := 24) hx hb dX9_answerOf_118 (by decide) ?_
              cases hF
              exact ih _ _ _ _ _ _ hgo (Or.inr (⟨rfl, _, _, _, _, rfl, lv_sub hl [5, 3, 2, 1, 0] rfl⟩)) hP hD hS
            · rw [if_neg c14] at hF
              refine lv_iload hx hb dX9_answerOf_108 (lv_at hl 2 rfl) ?_
              refine lv_goto (tgt := 114) hx hb dX9_answerOf_110 (by decide) ?_
              refine lv_istore_n (lv' := [(3, .int v6), (2, .int v6), (1, .int (x1 + v6)), (5, .int v6), (0, .ref (a 0)), (4, .int x4)]) hx hb dX9_answerOf_114 rfl hl (by decide) rfl (fun ls hl => ?_)
              refine lv_iinc (v := (x4 + (1 : Int32))) (lv' := [(4, .int (x4 + (1 : Int32))), (3, .int v6), (2, .int v6), (1, .int (x1 + v6)), (5, .int v6), (0, .ref (a 0))]) hx hb dX9_answerOf_115 hl (k := 5) rfl rfl (by decide) rfl (fun ls hl => ?_)
              refine lv_goto (tgt := 24) hx hb dX9_answerOf_118 (by decide) ?_
              cases hF
              exact ih _ _ _ _ _ _ hgo (Or.inr (⟨rfl, _, _, _, _, rfl, lv_sub hl [5, 3, 2, 1, 0] rfl⟩)) hP hD hS
        · rw [if_neg c12] at hF
          refine lv_iload hx hb dX9_answerOf_83 (lv_at hl 1 rfl) ?_
          refine lv_iload_n hx hb dX9_answerOf_85 rfl (lv_at hl 3 rfl) ?_
          refine lv_icmp_le (tgt := 94) hx hb dX9_answerOf_86 (by decide) (fun c15 => ?_) (fun c15 => ?_)
          · rw [if_pos c15] at hF
            refine lv_iload_n hx hb dX9_answerOf_94 rfl (lv_at hl 3 rfl) ?_
            refine lv_istore_n (lv' := [(2, .int x2), (1, .int (x1 + v6)), (5, .int v6), (0, .ref (a 0)), (3, .int x3), (4, .int x4)]) hx hb dX9_answerOf_95 rfl hl (by decide) rfl (fun ls hl => ?_)
            refine lv_iload_n hx hb dX9_answerOf_96 rfl (lv_at hl 4 rfl) ?_
            refine lv_ldc (v := (-1000000 : Int32)) hx hb hown (hts _ mw_248) dX9_answerOf_97 ?_
            refine lv_icmp_eq (tgt := 108) hx hb dX9_answerOf_99 (by decide) (fun c16 => ?_) (fun c16 => ?_)
            · rw [if_pos c16] at hF
              refine lv_iload hx hb dX9_answerOf_108 (lv_at hl 2 rfl) ?_
              refine lv_goto (tgt := 114) hx hb dX9_answerOf_110 (by decide) ?_
              refine lv_istore_n (lv' := [(3, .int v6), (2, .int x2), (1, .int (x1 + v6)), (5, .int v6), (0, .ref (a 0)), (4, .int x4)]) hx hb dX9_answerOf_114 rfl hl (by decide) rfl (fun ls hl => ?_)
              refine lv_iinc (v := (x4 + (1 : Int32))) (lv' := [(4, .int (x4 + (1 : Int32))), (3, .int v6), (2, .int x2), (1, .int (x1 + v6)), (5, .int v6), (0, .ref (a 0))]) hx hb dX9_answerOf_115 hl (k := 5) rfl rfl (by decide) rfl (fun ls hl => ?_)
              refine lv_goto (tgt := 24) hx hb dX9_answerOf_118 (by decide) ?_
              cases hF
              exact ih _ _ _ _ _ _ hgo (Or.inr (⟨rfl, _, _, _, _, rfl, lv_sub hl [5, 3, 2, 1, 0] rfl⟩)) hP hD hS
            · rw [if_neg c16] at hF
              refine lv_iload hx hb dX9_answerOf_102 (lv_at hl 2 rfl) ?_
              refine lv_iload_n hx hb dX9_answerOf_104 rfl (lv_at hl 4 rfl) ?_
              refine lv_icmp_ge (tgt := 113) hx hb dX9_answerOf_105 (by decide) (fun c17 => ?_) (fun c17 => ?_)
              · rw [if_pos c17] at hF
                refine lv_iload_n hx hb dX9_answerOf_113 rfl (lv_at hl 4 rfl) ?_
                refine lv_istore_n (lv' := [(3, .int x3), (2, .int x2), (1, .int (x1 + v6)), (5, .int v6), (0, .ref (a 0)), (4, .int x4)]) hx hb dX9_answerOf_114 rfl hl (by decide) rfl (fun ls hl => ?_)
                refine lv_iinc (v := (x4 + (1 : Int32))) (lv' := [(4, .int (x4 + (1 : Int32))), (3, .int x3), (2, .int x2), (1, .int (x1 + v6)), (5, .int v6), (0, .ref (a 0))]) hx hb dX9_answerOf_115 hl (k := 5) rfl rfl (by decide) rfl (fun ls hl => ?_)
                refine lv_goto (tgt := 24) hx hb dX9_answerOf_118 (by decide) ?_
                cases hF
                exact ih _ _ _ _ _ _ hgo (Or.inr (⟨rfl, _, _, _, _, rfl, lv_sub hl [5, 3, 2, 1, 0] rfl⟩)) hP hD hS
              · rw [if_neg c17] at hF
                refine lv_iload hx hb dX9_answerOf_108 (lv_at hl 2 rfl) ?_
                refine lv_goto (tgt := 114) hx hb dX9_answerOf_110 (by decide) ?_
                refine lv_istore_n (lv' := [(3, .int v6), (2, .int x2), (1, .int (x1 + v6)), (5, .int v6), (0, .ref (a 0)), (4, .int x4)]) hx hb dX9_answerOf_114 rfl hl (by decide) rfl (fun ls hl => ?_)
                refine lv_iinc (v := (x4 + (1 : Int32))) (lv' := [(4, .int (x4 + (1 : Int32))), (3, .int v6), (2, .int x2), (1, .int (x1 + v6)), (5, .int v6), (0, .ref (a 0))]) hx hb dX9_answerOf_115 hl (k := 5) rfl rfl (by decide) rfl (fun ls hl => ?_)
                refine lv_goto (tgt := 24) hx hb dX9_answerOf_118 (by decide) ?_
                cases hF
                exact ih _ _ _ _ _ _ hgo (Or.inr (⟨rfl, _, _, _, _, rfl, lv_sub hl [5, 3, 2, 1, 0] rfl⟩)) hP hD hS
          · rw [if_neg c15] at hF
            refine lv_iload hx hb dX9_answerOf_89 (lv_at hl 1 rfl) ?_
            refine lv_goto (tgt := 95) hx hb dX9_answerOf_91 (by decide) ?_
            refine lv_istore_n (lv' := [(2, .int v6), (1, .int (x1 + v6)), (5, .int v6), (0, .ref (a 0)), (3, .int x3), (4, .int x4)]) hx hb dX9_answerOf_95 rfl hl (by decide) rfl (fun ls hl => ?_)
            refine lv_iload_n hx hb dX9_answerOf_96 rfl (lv_at hl 4 rfl) ?_
            refine lv_ldc (v := (-1000000 : Int32)) hx hb hown (hts _ mw_248) dX9_answerOf_97 ?_
            refine lv_icmp_eq (tgt := 108) hx hb dX9_answerOf_99 (by decide) (fun c18 => ?_) (fun c18 => ?_)
            · rw [if_pos c18] at hF
              refine lv_iload hx hb dX9_answerOf_108 (lv_at hl 2 rfl) ?_
              refine lv_goto (tgt := 114) hx hb dX9_answerOf_110 (by decide) ?_
              refine lv_istore_n (lv' := [(3, .int v6), (2, .int v6), (1, .int (x1 + v6)), (5, .int v6), (0, .ref (a 0)), (4, .int x4)]) hx hb dX9_answerOf_114 rfl hl (by decide) rfl (fun ls hl => ?_)
              refine lv_iinc (v := (x4 + (1 : Int32))) (lv' := [(4, .int (x4 + (1 : Int32))), (3, .int v6), (2, .int v6), (1, .int (x1 + v6)), (5, .int v6), (0, .ref (a 0))]) hx hb dX9_answerOf_115 hl (k := 5) rfl rfl (by decide) rfl (fun ls hl => ?_)
              refine lv_goto (tgt := 24) hx hb dX9_answerOf_118 (by decide) ?_
              cases hF
              exact ih _ _ _ _ _ _ hgo (Or.inr (⟨rfl, _, _, _, _, rfl, lv_sub hl [5, 3, 2, 1, 0] rfl⟩)) hP hD hS
            · rw [if_neg c18] at hF
              refine lv_iload hx hb dX9_answerOf_102 (lv_at hl 2 rfl) ?_
              refine lv_iload_n hx hb dX9_answerOf_104 rfl (lv_at hl 4 rfl) ?_
              refine lv_icmp_ge (tgt := 113) hx hb dX9_answerOf_105 (by decide) (fun c19 => ?_) (fun c19 => ?_)
              · rw [if_pos c19] at hF
                refine lv_iload_n hx hb dX9_answerOf_113 rfl (lv_at hl 4 rfl) ?_
                refine lv_istore_n (lv' := [(3, .int x3), (2, .int v6), (1, .int (x1 + v6)), (5, .int v6), (0, .ref (a 0)), (4, .int x4)]) hx hb dX9_answerOf_114 rfl hl (by decide) rfl (fun ls hl => ?_)
                refine lv_iinc (v := (x4 + (1 : Int32))) (lv' := [(4, .int (x4 + (1 : Int32))), (3, .int x3), (2, .int v6), (1, .int (x1 + v6)), (5, .int v6), (0, .ref (a 0))]) hx hb dX9_answerOf_115 hl (k := 5) rfl rfl (by decide) rfl (fun ls hl => ?_)
                refine lv_goto (tgt := 24) hx hb dX9_answerOf_118 (by decide) ?_
                cases hF
                exact ih _ _ _ _ _ _ hgo (Or.inr (⟨rfl, _, _, _, _, rfl, lv_sub hl [5, 3, 2, 1, 0] rfl⟩)) hP hD hS
              · rw [if_neg c19] at hF
                refine lv_iload hx hb dX9_answerOf_108 (lv_at hl 2 rfl) ?_
                refine lv_goto (tgt := 114) hx hb dX9_answerOf_110 (by decide) ?_
                refine lv_istore_n (lv' := [(3, .int v6), (2, .int v6), (1, .int (x1 + v6)), (5, .int v6), (0, .ref (a 0)), (4, .int x4)]) hx hb dX9_answerOf_114 rfl hl (by decide) rfl (fun ls hl => ?_)
                refine lv_iinc (v := (x4 + (1 : Int32))) (lv' := [(4, .int (x4 + (1 : Int32))), (3, .int v6), (2, .int v6), (1, .int (x1 + v6)), (5, .int v6), (0, .ref (a 0))]) hx hb dX9_answerOf_115 hl (k := 5) rfl rfl (by decide) rfl (fun ls hl => ?_)
                refine lv_goto (tgt := 24) hx hb dX9_answerOf_118 (by decide) ?_
                cases hF
                exact ih _ _ _ _ _ _ hgo (Or.inr (⟨rfl, _, _, _, _, rfl, lv_sub hl [5, 3, 2, 1, 0] rfl⟩)) hP hD hS
theorem wk_X9_answerOf (σ : Mem) (hC : CX p c cX9_answerOf meth (some .int) s m args yX9_answerOf.cls 6 D cyI cyZ) (hq : extR q = some r) : ∀ (n : Nat), ∀ (pc : Nat) (x : Unit) (vs : List Int32) (ls : Array Slot) (H : Heap) (locs : List Loc), goL (B_X9_answerOf σ) n pc x vs = some q → SH_X9_answerOf a ls pc vs → va_P D vwCl (wM cyI cyZ a σ) H → va_D A (wM cyI cyZ a σ) → va_S A s.heap H locs → W p l e (headSpec ts_X9_answerOf ({ frames := 4, cells := 0, slots := 0, locals := 95 } : Room)).room s m args below meth c H locs 0 0 (MQ below (QcI D cyI cyZ A (wM cyI cyZ a σ) r) args s 0 0 A) (F0 m pc ls []) := by
  intro n
  induction n with
  | zero => intro pc x vs ls H locs h; exact absurd h (by simp [goL])
  | succ n ih =>
    intro pc x vs ls H locs hgo hsh hP hD hS
    rcases hsh with ⟨rfl, rfl, hl⟩ | ⟨rfl, x1, x2, x3, x4, rfl, hl⟩
    · exact wl_X9_answerOf_0 σ hC hq n ih  ls H locs hgo hl hP hD hS
    · exact wl_X9_answerOf_24 σ hC hq n ih x1 x2 x3 x4 ls H locs hgo hl hP hD hS
end
theorem c_X9_answerOf (l : Launch) (D : va_G) (cyI cyZ : ClassId) (a : Nat → Nat) (A : Nat → Prop) (σ : Mem) (r : Int32) (hF : F_X9_answerOf σ  = some r) : CtI l yX9_answerOf ts_X9_answerOf ({ frames := 4, cells := 0, slots := 0, locals := 95 } : Room) [.ref (a 0)] D cyI cyZ A (wM cyI cyZ a σ) (wM cyI cyZ a σ) r := by
  refine CtI.of (cc := cX9_answerOf) (maxL := 6) (ret := (some .int)) (by decide) rfl (Nat.le_of_ble_eq_true rfl) ?_
  intro p e s m below meth c ls hC hP hD hl
  obtain ⟨q, hq, hr1⟩ := Option.bind_eq_some_iff.mp hF
  obtain ⟨n, hn⟩ := finL_some hq
  exact wk_X9_answerOf σ hC hr1 n 0 _ _ ls _ _ hn (Or.inl ⟨rfl, rfl, hl⟩) hP hD va_S.rf
