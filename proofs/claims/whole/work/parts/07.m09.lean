-- X8_isMeaning X8_mean X8_cost X8_forget X8_word X8_number X8_clear X8_readings X8_reading X8_test X8_answer
abbrev ts_X8_isMeaning : List Cond := .code yX8_isMeaning cX8_isMeaning 5 (some .boolean) :: wsL_law
set_option maxHeartbeats 4000000 in
set_option maxRecDepth 100000 in
theorem c_X8_isMeaning (l : Launch) (D : va_G) (cyI cyZ : ClassId) (a : Nat → Nat) (A : Nat → Prop) (σ : Mem) (x1 : Int32) (x2 : Int32) (x3 : Int32) (x4 : Int32) (r : Int32) (hF : F_X8_isMeaning σ x1 x2 x3 x4 = some r) : CtI l yX8_isMeaning ts_X8_isMeaning ({ frames := 2, cells := 0, slots := 0, locals := 43 } : Room) [.ref (a 0), .int x1, .int x2, .int x3, .int x4] D cyI cyZ A (wC cyI cyZ a σ) (wC cyI cyZ a σ) r := by
  refine CtI.of (cc := cX8_isMeaning) (maxL := 5) (ret := (some .boolean)) (by decide) rfl (Nat.le_of_ble_eq_true rfl) ?_
  intro p e s m below meth c ls hC hP hD hl
  obtain ⟨hx, hb, hr, hml, hown, hts, hK, hN, hlocks⟩ := hC
  have hown : s.vm.findClass RX8 = some m.cls := hown
  have hS : va_S A s.heap s.heap [] := va_S.rf
  have hl : lv_has ls 5 [(0, .ref (a 0)), (1, .int x1), (2, .int x2), (3, .int x3), (4, .int x4)] := hl
  unfold F_X8_isMeaning at hF
  refine lv_iload_n hx hb dX8_isMeaning_0 rfl (lv_at hl 1 rfl) ?_
  by_cases c1 : x1 = (0 : Int32)
  · rw [if_pos c1] at hF
    refine lv_tableIn (off := 39) (tgt := 40) hx hb dX8_isMeaning_1 (by rw [c1]; decide) (by rw [c1]; decide) (by rw [c1]; rfl) (by decide) ?_
    refine lv_aload_n hx hb dX8_isMeaning_40 rfl (lv_at hl 0 rfl) ?_
    refine va_get (D := D) (ci := 8) (v := .ref (a 1)) (C := RX8) (T := TX8) (N := 6) hx hb hts inlX8 hown hK hP 0 gC_0 rfl 0 (by decide) (hts _ mw_15) (fun _ h9 => h9) rfl dX8_isMeaning_41 ?_
    refine lv_iload_n hx hb dX8_isMeaning_44 rfl (lv_at hl 2 rfl) ?_
    refine z_callVI (w' := (wC cyI cyZ a σ)) (As := [.int x2]) (rest := []) ⟨hx, hb, hml, hown, hts⟩ (c_X6_hasTable l D cyI cyZ a A σ x2 _ rfl) (cwV 1 hts (gd_V mw_168 mw_169 mw_170 mw_14 mw_171) rfl rfl rfl (by decide +kernel) ⟨Nat.le_of_ble_eq_true rfl, Nat.le_of_ble_eq_true rfl⟩) hK hN hP hD hS 6 1 rfl rfl gC_1 rfl hl.1 rfl (Nat.le_of_ble_eq_true rfl) dX8_isMeaning_45 ⟨Nat.zero_le _, Nat.zero_le _⟩ (fun H locs hP hD hS => ?_)
    refine lv_if_eq (tgt := 64) hx hb dX8_isMeaning_48 (by decide) (fun c2 => ?_) (fun c2 => ?_)
    · rw [if_pos c2] at hF
      refine lv_iconst (v := (0 : Int32)) hx hb dX8_isMeaning_64 (by decide) ?_
      cases hF
      exact z_zret hx hb hr hlocks hK hP hD hS rfl dX8_isMeaning_65
    · rw [if_neg c2] at hF
      refine lv_iload_n hx hb dX8_isMeaning_51 rfl (lv_at hl 3 rfl) ?_
      refine lv_if_ne (tgt := 64) hx hb dX8_isMeaning_52 (by decide) (fun c3 => ?_) (fun c3 => ?_)
      · rw [if_neg c3] at hF
        refine lv_iconst (v := (0 : Int32)) hx hb dX8_isMeaning_64 (by decide) ?_
        cases hF
        exact z_zret hx hb hr hlocks hK hP hD hS rfl dX8_isMeaning_65
      · rw [if_pos c3] at hF
        refine lv_iload hx hb dX8_isMeaning_55 (lv_at hl 4 rfl) ?_
        refine lv_if_ne (tgt := 64) hx hb dX8_isMeaning_57 (by decide) (fun c4 => ?_) (fun c4 => ?_)
        · rw [if_neg c4] at hF
          refine lv_iconst (v := (0 : Int32)) hx hb dX8_isMeaning_64 (by decide) ?_
          cases hF
          exact z_zret hx hb hr hlocks hK hP hD hS rfl dX8_isMeaning_65
        · rw [if_pos c4] at hF
          refine lv_iconst (v := (1 : Int32)) hx hb dX8_isMeaning_60 (by decide) ?_
          refine lv_goto (tgt := 65) hx hb dX8_isMeaning_61 (by decide) ?_
          cases hF
          exact z_zret hx hb hr hlocks hK hP hD hS rfl dX8_isMeaning_65
  · rw [if_neg c1] at hF
    by_cases c5 : x1 = (1 : Int32)
    · rw [if_pos c5] at hF
      refine lv_tableIn (off := 65) (tgt := 66) hx hb dX8_isMeaning_1 (by rw [c5]; decide) (by rw [c5]; decide) (by rw [c5]; rfl) (by decide) ?_
      refine lv_aload_n hx hb dX8_isMeaning_66 rfl (lv_at hl 0 rfl) ?_
      refine va_get (D := D) (ci := 8) (v := .ref (a 1)) (C := RX8) (T := TX8) (N := 6) hx hb hts inlX8 hown hK hP 0 gC_0 rfl 0 (by decide) (hts _ mw_15) (fun _ h9 => h9) rfl dX8_isMeaning_67 ?_
      refine lv_iload_n hx hb dX8_isMeaning_70 rfl (lv_at hl 2 rfl) ?_
      refine lv_iload_n hx hb dX8_isMeaning_71 rfl (lv_at hl 3 rfl) ?_
      obtain ⟨v6, e7, hF⟩ := Option.bind_eq_some_iff.mp hF
      refine z_callVI (w' := (wC cyI cyZ a σ)) (As := [.int x2, .int x3]) (rest := []) ⟨hx, hb, hml, hown, hts⟩ (c_X6_hasColumn l D cyI cyZ a A σ x2 x3 _ e7) (cwV 2 hts (gd_V mw_257 mw_211 mw_212 mw_14 mw_213) rfl rfl rfl (by decide +kernel) ⟨Nat.le_of_ble_eq_true rfl, Nat.le_of_ble_eq_true rfl⟩) hK hN hP hD hS 6 1 rfl rfl gC_1 rfl hl.1 rfl (Nat.le_of_ble_eq_true rfl) dX8_isMeaning_72 ⟨Nat.zero_le _, Nat.zero_le _⟩ (fun H locs hP hD hS => ?_)
      refine lv_if_eq (tgt := 87) hx hb dX8_isMeaning_75 (by decide) (fun c8 => ?_) (fun c8 => ?_)
      · rw [if_pos c8] at hF
        refine lv_iconst (v := (0 : Int32)) hx hb dX8_isMeaning_87 (by decide) ?_
        cases hF
        exact z_zret hx hb hr hlocks hK hP hD hS rfl dX8_isMeaning_88
      · rw [if_neg c8] at hF
        refine lv_iload hx hb dX8_isMeaning_78 (lv_at hl 4 rfl) ?_
        refine lv_if_ne (tgt := 87) hx hb dX8_isMeaning_80 (by decide) (fun c9 => ?_) (fun c9 => ?_)
        · rw [if_neg c9] at hF
          refine lv_iconst (v := (0 : Int32)) hx hb dX8_isMeaning_87 (by decide) ?_
          cases hF
          exact z_zret hx hb hr hlocks hK hP hD hS rfl dX8_isMeaning_88
        · rw [if_pos c9] at hF
          refine lv_iconst (v := (1 : Int32)) hx hb dX8_isMeaning_83 (by decide) ?_
          refine lv_goto (tgt := 88) hx hb dX8_isMeaning_84 (by decide) ?_
          cases hF
          exact z_zret hx hb hr hlocks hK hP hD hS rfl dX8_isMeaning_88
    · rw [if_neg c5] at hF
      by_cases c10 : x1 = (2 : Int32)
      · rw [if_pos c10] at hF
        refine lv_tableIn (off := 88) (tgt := 89) hx hb dX8_isMeaning_1 (by rw [c10]; decide) (by rw [c10]; decide) (by rw [c10]; rfl) (by decide) ?_
        refine lv_iload_n hx hb dX8_isMeaning_89 rfl (lv_at hl 2 rfl) ?_
        refine lv_iconst (v := (3 : Int32)) hx hb dX8_isMeaning_90 (by decide) ?_
        refine lv_icmp_gt (tgt := 107) hx hb dX8_isMeaning_91 (by decide) (fun c11 => ?_) (fun c11 => ?_)
        · rw [if_pos c11] at hF
          refine lv_iconst (v := (0 : Int32)) hx hb dX8_isMeaning_107 (by decide) ?_
          cases hF
          exact z_zret hx hb hr hlocks hK hP hD hS rfl dX8_isMeaning_108
        · rw [if_neg c11] at hF
          refine lv_iload_n hx hb dX8_isMeaning_94 rfl (lv_at hl 3 rfl) ?_
          refine lv_if_ne (tgt := 107) hx hb dX8_isMeaning_95 (by decide) (fun c12 => ?_) (fun c12 => ?_)
          · rw [if_neg c12] at hF
            refine lv_iconst (v := (0 : Int32)) hx hb dX8_isMeaning_107 (by decide) ?_
            cases hF
            exact z_zret hx hb hr hlocks hK hP hD hS rfl dX8_isMeaning_108
          · rw [if_pos c12] at hF
            refine lv_iload hx hb dX8_isMeaning_98 (lv_at hl 4 rfl) ?_
            refine lv_if_ne (tgt := 107) hx hb dX8_isMeaning_100 (by decide) (fun c13 => ?_) (fun c13 => ?_)
            · rw [if_neg c13] at hF
              refine lv_iconst (v := (0 : Int32)) hx hb dX8_isMeaning_107 (by decide) ?_
              cases hF
              exact z_zret hx hb hr hlocks hK hP hD hS rfl dX8_isMeaning_108
            · rw [if_pos c13] at hF
              refine lv_iconst (v := (1 : Int32)) hx hb dX8_isMeaning_103 (by decide) ?_
              refine lv_goto (tgt := 108) hx hb dX8_isMeaning_104 (by decide) ?_
              cases hF
              exact z_zret hx hb hr hlocks hK hP hD hS rfl dX8_isMeaning_108
      · rw [if_neg c10] at hF
        by_cases c14 : x1 = (3 : Int32)
        · rw [if_pos c14] at hF
          refine lv_tableIn (off := 108) (tgt := 109) hx hb dX8_isMeaning_1 (by rw [c14]; decide) (by rw [c14]; decide) (by rw [c14]; rfl) (by decide) ?_
          refine lv_aload_n hx hb dX8_isMeaning_109 rfl (lv_at hl 0 rfl) ?_
          refine va_get (D := D) (ci := 8) (v := .ref (a 1)) (C := RX8) (T := TX8) (N := 6) hx hb hts inlX8 hown hK hP 0 gC_0 rfl 0 (by decide) (hts _ mw_15) (fun _ h9 => h9) rfl dX8_isMeaning_110 ?_
          refine lv_iload_n hx hb dX8_isMeaning_113 rfl (lv_at hl 2 rfl) ?_
          refine lv_iload_n hx hb dX8_isMeaning_114 rfl (lv_at hl 3 rfl) ?_
          obtain ⟨v15, e16, hF⟩ := Option.bind_eq_some_iff.mp hF
          refine z_callVI (w' := (wC cyI cyZ a σ)) (As := [.int x2, .int x3]) (rest := []) ⟨hx, hb, hml, hown, hts⟩ (c_X6_hasColumn l D cyI cyZ a A σ x2 x3 _ e16) (cwV 2 hts (gd_V mw_257 mw_211 mw_212 mw_14 mw_213) rfl rfl rfl (by decide +kernel) ⟨Nat.le_of_ble_eq_true rfl, Nat.le_of_ble_eq_true rfl⟩) hK hN hP hD hS 6 1 rfl rfl gC_1 rfl hl.1 rfl (Nat.le_of_ble_eq_true rfl) dX8_isMeaning_115 ⟨Nat.zero_le _, Nat.zero_le _⟩ (fun H locs hP hD hS => ?_)
          refine lv_if_eq (tgt := 133) hx hb dX8_isMeaning_118 (by decide) (fun c17 => ?_) (fun c17 => ?_)
          · rw [if_pos c17] at hF
            refine lv_iconst (v := (0 : Int32)) hx hb dX8_isMeaning_133 (by decide) ?_
            cases hF
            exact z_zret hx hb hr hlocks hK hP hD hS rfl dX8_isMeaning_134
          · rw [if_neg c17] at hF
            refine lv_iload hx hb dX8_isMeaning_121 (lv_at hl 4 rfl) ?_
            refine z_callSI (w' := (wC cyI cyZ a σ)) (As := [.int x4]) (rest := []) ⟨hx, hb, hml, hown, hts⟩ (c_X8_isValue l D cyI cyZ A (wC cyI cyZ a σ) x4 _ rfl) (va_cwS 1 hts (gd_S mw_215 mw_216 mw_2 mw_217) rfl rfl rfl (by decide +kernel) ⟨Nat.le_of_ble_eq_true rfl, Nat.le_of_ble_eq_true rfl⟩) hK hN hP hD hS rfl hl.1 rfl (Nat.le_of_ble_eq_true rfl) dX8_isMeaning_123 ⟨Nat.zero_le _, Nat.zero_le _⟩ (fun H locs hP hD hS => ?_)
            refine lv_if_eq (tgt := 133) hx hb dX8_isMeaning_126 (by decide) (fun c18 => ?_) (fun c18 => ?_)
            · rw [if_pos c18] at hF
              refine lv_iconst (v := (0 : Int32)) hx hb dX8_isMeaning_133 (by decide) ?_
              cases hF
              exact z_zret hx hb hr hlocks hK hP hD hS rfl dX8_isMeaning_134
            · rw [if_neg c18] at hF
              refine lv_iconst (v := (1 : Int32)) hx hb dX8_isMeaning_129 (by decide) ?_
              refine lv_goto (tgt := 134) hx hb dX8_isMeaning_130 (by decide) ?_
              cases hF
              exact z_zret hx hb hr hlocks hK hP hD hS rfl dX8_isMeaning_134
        · rw [if_neg c14] at hF
          by_cases c19 : x1 = (4 : Int32)
          · rw [if_pos c19] at hF
            refine lv_tableIn (off := 134) (tgt := 135) hx hb dX8_isMeaning_1 (by rw [c19]; decide) (by rw [c19]; decide) (by rw [c19]; rfl) (by decide) ?_
            refine lv_iload_n hx hb dX8_isMeaning_135 rfl (lv_at hl 2 rfl) ?_
            refine lv_iconst (v := (2 : Int32)) hx hb dX8_isMeaning_136 (by decide) ?_
            refine lv_icmp_gt (tgt := 153) hx hb dX8_isMeaning_137 (by decide) (fun c20 => ?_) (fun c20 => ?_)
            · rw [if_pos c20] at hF
              refine lv_iconst (v := (0 : Int32)) hx hb dX8_isMeaning_153 (by decide) ?_
              cases hF
              exact z_zret hx hb hr hlocks hK hP hD hS rfl dX8_isMeaning_154
            · rw [if_neg c20] at hF
              refine lv_iload_n hx hb dX8_isMeaning_140 rfl (lv_at hl 3 rfl) ?_
              refine lv_if_ne (tgt := 153) hx hb dX8_isMeaning_141 (by decide) (fun c21 => ?_) (fun c21 => ?_)
              · rw [if_neg c21] at hF
                refine lv_iconst (v := (0 : Int32)) hx hb dX8_isMeaning_153 (by decide) ?_
                cases hF
                exact z_zret hx hb hr hlocks hK hP hD hS rfl dX8_isMeaning_154
              · rw [if_pos c21] at hF
                refine lv_iload hx hb dX8_isMeaning_144 (lv_at hl 4 rfl) ?_
                refine lv_if_ne (tgt := 153) hx hb dX8_isMeaning_146 (by decide) (fun c22 => ?_) (fun c22 => ?_)
                · rw [if_neg c22] at hF
                  refine lv_iconst (v := (0 : Int32)) hx hb dX8_isMeaning_153 (by decide) ?_
                  cases hF
                  exact z_zret hx hb hr hlocks hK hP hD hS rfl dX8_isMeaning_154
                · rw [if_pos c22] at hF
                  refine lv_iconst (v := (1 : Int32)) hx hb dX8_isMeaning_149 (by decide) ?_
                  refine lv_goto (tgt := 154) hx hb dX8_isMeaning_150 (by decide) ?_
                  cases hF
                  exact z_zret hx hb hr hlocks hK hP hD hS rfl dX8_isMeaning_154
          · rw [if_neg c19] at hF
            by_cases c23 : x1 = (5 : Int32)
            · rw [if_pos c23] at hF
              refine lv_tableIn (off := 154) (tgt := 155) hx hb dX8_isMeaning_1 (by rw [c23]; decide) (by rw [c23]; decide) (by rw [c23]; rfl) (by decide) ?_
              refine lv_iload_n hx hb dX8_isMeaning_155 rfl (lv_at hl 2 rfl) ?_
              refine lv_if_ne (tgt := 172) hx hb dX8_isMeaning_156 (by decide) (fun c24 => ?_) (fun c24 => ?_)
              · rw [if_neg c24] at hF
                refine lv_iconst (v := (0 : Int32)) hx hb dX8_isMeaning_172 (by decide) ?_
                cases hF
                exact z_zret hx hb hr hlocks hK hP hD hS rfl dX8_isMeaning_173
              · rw [if_pos c24] at hF
                refine lv_iload_n hx hb dX8_isMeaning_159 rfl (lv_at hl 3 rfl) ?_
                refine lv_if_ne (tgt := 172) hx hb dX8_isMeaning_160 (by decide) (fun c25 => ?_) (fun c25 => ?_)
                · rw [if_neg c25] at hF
                  refine lv_iconst (v := (0 : Int32)) hx hb dX8_isMeaning_172 (by decide) ?_
                  cases hF
                  exact z_zret hx hb hr hlocks hK hP hD hS rfl dX8_isMeaning_173
                · rw [if_pos c25] at hF
                  refine lv_iload hx hb dX8_isMeaning_163 (lv_at hl 4 rfl) ?_
                  refine lv_if_ne (tgt := 172) hx hb dX8_isMeaning_165 (by decide) (fun c26 => ?_) (fun c26 => ?_)
                  · rw [if_neg c26] at hF
                    refine lv_iconst (v := (0 : Int32)) hx hb dX8_isMeaning_172 (by decide) ?_
                    cases hF
                    exact z_zret hx hb hr hlocks hK hP hD hS rfl dX8_isMeaning_173
                  · rw [if_pos c26] at hF
                    refine lv_iconst (v := (1 : Int32)) hx hb dX8_isMeaning_168 (by decide) ?_
                    refine lv_goto (tgt := 173) hx hb dX8_isMeaning_169 (by decide) ?_
                    cases hF
                    exact z_zret hx hb hr hlocks hK hP hD hS rfl dX8_isMeaning_173
            · rw [if_neg c23] at hF
              refine lv_tableOut (tgt := 174) hx hb dX8_isMeaning_1 (z_notin6 c1 c5 c10 c14 c19 c23) (by decide) ?_
              refine lv_iconst (v := (0 : Int32)) hx hb dX8_isMeaning_174 (by decide) ?_
              cases hF
              exact z_zret hx hb hr hlocks hK hP hD hS rfl dX8_isMeaning_175
abbrev ts_X8_mean : List Cond := .code yX8_mean cX8_mean 6 (some .int) :: wsL_law
set_option maxHeartbeats 4000000 in
set_option maxRecDepth 100000 in
theorem c_X8_mean (l : Launch) (D : va_G) (cyI cyZ : ClassId) (a : Nat → Nat) (A : Nat → Prop) (σ : Mem) (x1 : Int32) (x2 : Int32) (x3 : Int32) (x4 : Int32) (x5 : Int32) (r : Int32) (σ' : Mem) (hF : F_X8_mean σ x1 x2 x3 x4 x5 = some (r, σ')) : CtI l yX8_mean ts_X8_mean ({ frames := 4, cells := 0, slots := 0, locals := 83 } : Room) [.ref (a 0), .int x1, .int x2, .int x3, .int x4, .int x5] D cyI cyZ A (wC cyI cyZ a σ) (wC cyI cyZ a σ') r := by
  refine CtI.of (cc := cX8_mean) (maxL := 6) (ret := (some .int)) (by decide) rfl (Nat.le_of_ble_eq_true rfl) ?_
  intro p e s m below meth c ls hC hP hD hl
  obtain ⟨hx, hb, hr, hml, hown, hts, hK, hN, hlocks⟩ := hC
  have hown : s.vm.findClass RX8 = some m.cls := hown
  have hS : va_S A s.heap s.heap [] := va_S.rf
  have hl : lv_has ls 6 [(0, .ref (a 0)), (1, .int x1), (2, .int x2), (3, .int x3), (4, .int x4), (5, .int x5)] := hl
  unfold F_X8_mean at hF
  refine lv_iload_n hx hb dX8_mean_0 rfl (lv_at hl 1 rfl) ?_
  refine z_callSI (w' := (wC cyI cyZ a σ)) (As := [.int x1]) (rest := []) ⟨hx, hb, hml, hown, hts⟩ (c_X8_isWord l D cyI cyZ A (wC cyI cyZ a σ) x1 _ rfl) (va_cwS 1 hts (gd_S mw_279 mw_280 mw_2 mw_281) rfl rfl rfl (by decide +kernel) ⟨Nat.le_of_ble_eq_true rfl, Nat.le_of_ble_eq_true rfl⟩) hK hN hP hD hS rfl hl.1 rfl (Nat.le_of_ble_eq_true rfl) dX8_mean_1 ⟨Nat.zero_le _, Nat.zero_le _⟩ (fun H locs hP hD hS => ?_)
  refine lv_if_eq (tgt := 23) hx hb dX8_mean_4 (by decide) (fun c1 => ?_) (fun c1 => ?_)
  · rw [if_pos c1] at hF
    refine lv_iconst (v := (-1 : Int32)) hx hb dX8_mean_23 (by decide) ?_
    cases hF
    exact z_iret hx hb hr hlocks hK hP hD hS dX8_mean_24
  · rw [if_neg c1] at hF
    refine lv_iload_n hx hb dX8_mean_7 rfl (lv_at hl 3 rfl) ?_
    refine lv_if_lt (tgt := 23) hx hb dX8_mean_8 (by decide) (fun c2 => ?_) (fun c2 => ?_)
    · rw [if_pos c2] at hF
      refine lv_iconst (v := (-1 : Int32)) hx hb dX8_mean_23 (by decide) ?_
      cases hF
      exact z_iret hx hb hr hlocks hK hP hD hS dX8_mean_24
    · rw [if_neg c2] at hF
      refine lv_iload hx hb dX8_mean_11 (lv_at hl 5 rfl) ?_
      refine lv_if_lt (tgt := 23) hx hb dX8_mean_13 (by decide) (fun c3 => ?_) (fun c3 => ?_)
      · rw [if_pos c3] at hF
        refine lv_iconst (v := (-1 : Int32)) hx hb dX8_mean_23 (by decide) ?_
        cases hF
        exact z_iret hx hb hr hlocks hK hP hD hS dX8_mean_24
      · rw [if_neg c3] at hF
        refine lv_iload hx hb dX8_mean_16 (lv_at hl 5 rfl) ?_
        refine lv_bipush (v := (99 : Int32)) hx hb dX8_mean_18 (by decide) ?_
        refine lv_icmp_le (tgt := 25) hx hb dX8_mean_20 (by decide) (fun c4 => ?_) (fun c4 => ?_)
        · rw [if_pos c4] at hF
          refine lv_aload_n hx hb dX8_mean_25 rfl (lv_at hl 0 rfl) ?_
          refine lv_iload_n hx hb dX8_mean_26 rfl (lv_at hl 2 rfl) ?_
          refine lv_iload_n hx hb dX8_mean_27 rfl (lv_at hl 3 rfl) ?_
          refine lv_bipush (v := (100 : Int32)) hx hb dX8_mean_28 (by decide) ?_
          refine lv_idiv hx hb dX8_mean_30 (by decide) ?_
          refine lv_iload_n hx hb dX8_mean_31 rfl (lv_at hl 3 rfl) ?_
          refine lv_bipush (v := (100 : Int32)) hx hb dX8_mean_32 (by decide) ?_
          refine lv_irem hx hb dX8_mean_34 (by decide) ?_
          refine lv_iload hx hb dX8_mean_35 (lv_at hl 4 rfl) ?_
          obtain ⟨v5, e6, hF⟩ := Option.bind_eq_some_iff.mp hF
          refine z_callVI (w' := (wC cyI cyZ a σ)) (As := [.int x2, .int (x3 / (100 : Int32)), .int (x3 - x3 / (100 : Int32) * (100 : Int32)), .int x4]) (rest := []) ⟨hx, hb, hml, hown, hts⟩ (c_X8_isMeaning l D cyI cyZ a A σ x2 (x3 / (100 : Int32)) (x3 - x3 / (100 : Int32) * (100 : Int32)) x4 _ e6) (cwV 4 hts (gd_V mw_282 mw_283 mw_284 mw_2 mw_285) rfl rfl rfl (by decide +kernel) ⟨Nat.le_of_ble_eq_true rfl, Nat.le_of_ble_eq_true rfl⟩) hK hN hP hD hS 8 0 rfl rfl gC_0 rfl hl.1 rfl (Nat.le_of_ble_eq_true rfl) dX8_mean_37 ⟨Nat.zero_le _, Nat.zero_le _⟩ (fun H locs hP hD hS => ?_)
          refine lv_if_ne (tgt := 45) hx hb dX8_mean_40 (by decide) (fun c7 => ?_) (fun c7 => ?_)
          · rw [if_neg c7] at hF
            refine lv_aload_n hx hb dX8_mean_45 rfl (lv_at hl 0 rfl) ?_
            refine va_get (D := D) (ci := 8) (v := .ref (a 6)) (C := RX8) (T := TX8) (N := 6) hx hb hts inlX8 hown hK hP 0 gC_0 rfl 1 (by decide) (hts _ mw_19) (fun _ h9 => h9) rfl dX8_mean_46 ?_
            refine lv_iload_n hx hb dX8_mean_49 rfl (lv_at hl 1 rfl) ?_
            obtain ⟨v8, e9, hF⟩ := Option.bind_eq_some_iff.mp hF
            refine z_callVI (w' := (wC cyI cyZ a σ)) (As := [.int x1]) (rest := []) ⟨hx, hb, hml, hown, hts⟩ (c_X7_meaningsOf l D cyI cyZ a A σ x1 _ e9) (cwV 1 hts (gd_V mw_286 mw_287 mw_288 mw_18 mw_289) rfl rfl rfl (by decide +kernel) ⟨Nat.le_of_ble_eq_true rfl, Nat.le_of_ble_eq_true rfl⟩) hK hN hP hD hS 7 6 rfl rfl gC_6 rfl hl.1 rfl (Nat.le_of_ble_eq_true rfl) dX8_mean_50 ⟨Nat.zero_le _, Nat.zero_le _⟩ (fun H locs hP hD hS => ?_)
            refine lv_iconst (v := (3 : Int32)) hx hb dX8_mean_53 (by decide) ?_
            refine lv_icmp_lt (tgt := 60) hx hb dX8_mean_54 (by decide) (fun c10 => ?_) (fun c10 => ?_)
            · rw [if_pos c10] at hF
              refine lv_aload_n hx hb dX8_mean_60 rfl (lv_at hl 0 rfl) ?_
              obtain ⟨σ11, e12, hF⟩ := Option.bind_eq_some_iff.mp hF
              refine z_callVV (w' := (wC cyI cyZ a σ11)) (As := []) (rest := []) ⟨hx, hb, hml, hown, hts⟩ (c_X8_questionChanged l D cyI cyZ a A σ  σ11 e12) (cwV 0 hts (gd_V mw_258 mw_259 mw_260 mw_2 mw_261) rfl rfl rfl (by decide +kernel) ⟨Nat.le_of_ble_eq_true rfl, Nat.le_of_ble_eq_true rfl⟩) hK hN hP hD hS 8 0 rfl rfl gC_0 rfl hl.1 rfl (Nat.le_of_ble_eq_true rfl) dX8_mean_61 ⟨Nat.zero_le _, Nat.zero_le _⟩ (fun H locs hP hD hS => ?_)
              refine lv_aload_n hx hb dX8_mean_64 rfl (lv_at hl 0 rfl) ?_
              refine va_get (D := D) (ci := 8) (v := .ref (a 6)) (C := RX8) (T := TX8) (N := 6) hx hb hts inlX8 hown hK hP 0 gC_0 rfl 1 (by decide) (hts _ mw_19) (fun _ h9 => h9) rfl dX8_mean_65 ?_
              refine lv_iload_n hx hb dX8_mean_68 rfl (lv_at hl 1 rfl) ?_
              refine lv_iload_n hx hb dX8_mean_69 rfl (lv_at hl 2 rfl) ?_
              refine lv_iload_n hx hb dX8_mean_70 rfl (lv_at hl 3 rfl) ?_
              refine lv_bipush (v := (100 : Int32)) hx hb dX8_mean_71 (by decide) ?_
              refine lv_idiv hx hb dX8_mean_73 (by decide) ?_
              refine lv_iload_n hx hb dX8_mean_74 rfl (lv_at hl 3 rfl) ?_
              refine lv_bipush (v := (100 : Int32)) hx hb dX8_mean_75 (by decide) ?_
              refine lv_irem hx hb dX8_mean_77 (by decide) ?_
              refine lv_iload hx hb dX8_mean_78 (lv_at hl 4 rfl) ?_
              refine lv_iload hx hb dX8_mean_80 (lv_at hl 5 rfl) ?_
              obtain ⟨p13, e14, hF⟩ := Option.bind_eq_some_iff.mp hF
              refine z_callVI (w' := (wC cyI cyZ a p13.2)) (As := [.int x1, .int x2, .int (x3 / (100 : Int32)), .int (x3 - x3 / (100 : Int32) * (100 : Int32)), .int x4, .int x5]) (rest := []) ⟨hx, hb, hml, hown, hts⟩ (c_X7_addMeaning l D cyI cyZ a A σ11 x1 x2 (x3 / (100 : Int32)) (x3 - x3 / (100 : Int32) * (100 : Int32)) x4 x5 p13.1 p13.2 e14) (cwV 6 hts (gd_V mw_290 mw_291 mw_292 mw_18 mw_293) rfl rfl rfl (by decide +kernel) ⟨Nat.le_of_ble_eq_true rfl, Nat.le_of_ble_eq_true rfl⟩) hK hN hP hD hS 7 6 rfl rfl gC_6 rfl hl.1 rfl (Nat.le_of_ble_eq_true rfl) dX8_mean_82 ⟨Nat.zero_le _, Nat.zero_le _⟩ (fun H locs hP hD hS => ?_)
              cases hF
              exact z_iret hx hb hr hlocks hK hP hD hS dX8_mean_85
            · rw [if_neg c10] at hF
              refine lv_bipush (v := (-2 : Int32)) hx hb dX8_mean_57 (by decide) ?_
              cases hF
              exact z_iret hx hb hr hlocks hK hP hD hS dX8_mean_59
          · rw [if_pos c7] at hF
            refine lv_iconst (v := (-1 : Int32)) hx hb dX8_mean_43 (by decide) ?_
            cases hF
            exact z_iret hx hb hr hlocks hK hP hD hS dX8_mean_44
        · rw [if_neg c4] at hF
          refine lv_iconst (v := (-1 : Int32)) hx hb dX8_mean_23 (by decide) ?_
          cases hF
          exact z_iret hx hb hr hlocks hK hP hD hS dX8_mean_24
abbrev ts_X8_cost : List Cond := .code yX8_cost cX8_cost 3 (some .int) :: wsL_law
set_option maxHeartbeats 4000000 in
set_option maxRecDepth 100000 in
theorem c_X8_cost (l : Launch) (D : va_G) (cyI cyZ : ClassId) (a : Nat → Nat) (A : Nat → Prop) (σ : Mem) (x1 : Int32) (x2 : Int32) (r : Int32) (hF : F_X8_cost σ x1 x2 = some r) : CtI l yX8_cost ts_X8_cost ({ frames := 1, cells := 0, slots := 0, locals := 22 } : Room) [.ref (a 0), .int x1, .int x2] D cyI cyZ A (wC cyI cyZ a σ) (wC cyI cyZ a σ) r := by
  refine CtI.of (cc := cX8_cost) (maxL := 3) (ret := (some .int)) (by decide) rfl (Nat.le_of_ble_eq_true rfl) ?_
  intro p e s m below meth c ls hC hP hD hl
  obtain ⟨hx, hb, hr, hml, hown, hts, hK, hN, hlocks⟩ := hC
  have hown : s.vm.findClass RX8 = some m.cls := hown
  have hS : va_S A s.heap s.heap [] := va_S.rf
  have hl : lv_has ls 3 [(0, .ref (a 0)), (1, .int x1), (2, .int x2)] := hl
  unfold F_X8_cost at hF
  refine lv_iload_n hx hb dX8_cost_0 rfl (lv_at hl 1 rfl) ?_
  refine z_callSI (w' := (wC cyI cyZ a σ)) (As := [.int x1]) (rest := []) ⟨hx, hb, hml, hown, hts⟩ (c_X8_isWord l D cyI cyZ A (wC cyI cyZ a σ) x1 _ rfl) (va_cwS 1 hts (gd_S mw_279 mw_280 mw_2 mw_281) rfl rfl rfl (by decide +kernel) ⟨Nat.le_of_ble_eq_true rfl, Nat.le_of_ble_eq_true rfl⟩) hK hN hP hD hS rfl hl.1 rfl (Nat.le_of_ble_eq_true rfl) dX8_cost_1 ⟨Nat.zero_le _, Nat.zero_le _⟩ (fun H locs hP hD hS => ?_)
  refine lv_if_eq (tgt := 23) hx hb dX8_cost_4 (by decide) (fun c1 => ?_) (fun c1 => ?_)
  · rw [if_pos c1] at hF
    refine lv_iconst (v := (-1 : Int32)) hx hb dX8_cost_23 (by decide) ?_
    cases hF
    exact z_iret hx hb hr hlocks hK hP hD hS dX8_cost_24
  · rw [if_neg c1] at hF
    refine lv_iload_n hx hb dX8_cost_7 rfl (lv_at hl 2 rfl) ?_
    refine lv_if_lt (tgt := 23) hx hb dX8_cost_8 (by decide) (fun c2 => ?_) (fun c2 => ?_)
    · rw [if_pos c2] at hF
      refine lv_iconst (v := (-1 : Int32)) hx hb dX8_cost_23 (by decide) ?_
      cases hF
      exact z_iret hx hb hr hlocks hK hP hD hS dX8_cost_24
    · rw [if_neg c2] at hF
      refine lv_iload_n hx hb dX8_cost_11 rfl (lv_at hl 2 rfl) ?_
      refine lv_aload_n hx hb dX8_cost_12 rfl (lv_at hl 0 rfl) ?_
      refine va_get (D := D) (ci := 8) (v := .ref (a 6)) (C := RX8) (T := TX8) (N := 6) hx hb hts inlX8 hown hK hP 0 gC_0 rfl 1 (by decide) (hts _ mw_19) (fun _ h9 => h9) rfl dX8_cost_13 ?_
      refine lv_iload_n hx hb dX8_cost_16 rfl (lv_at hl 1 rfl) ?_
      obtain ⟨v3, e4, hF⟩ := Option.bind_eq_some_iff.mp hF
      refine z_callVI (w' := (wC cyI cyZ a σ)) (As := [.int x1]) (rest := [.int x2]) ⟨hx, hb, hml, hown, hts⟩ (c_X7_meaningsOf l D cyI cyZ a A σ x1 _ e4) (cwV 1 hts (gd_V mw_286 mw_287 mw_288 mw_18 mw_289) rfl rfl rfl (by decide +kernel) ⟨Nat.le_of_ble_eq_true rfl, Nat.le_of_ble_eq_true rfl⟩) hK hN hP hD hS 7 6 rfl rfl gC_6 rfl hl.1 rfl (Nat.le_of_ble_eq_true rfl) dX8_cost_17 ⟨Nat.zero_le _, Nat.zero_le _⟩ (fun H locs hP hD hS => ?_)
      refine lv_icmp_lt (tgt := 25) hx hb dX8_cost_20 (by decide) (fun c5 => ?_) (fun c5 => ?_)
      · rw [if_pos c5] at hF
        refine lv_aload_n hx hb dX8_cost_25 rfl (lv_at hl 0 rfl) ?_
        refine va_get (D := D) (ci := 8) (v := .ref (a 6)) (C := RX8) (T := TX8) (N := 6) hx hb hts inlX8 hown hK hP 0 gC_0 rfl 1 (by decide) (hts _ mw_19) (fun _ h9 => h9) rfl dX8_cost_26 ?_
        refine lv_aload_n hx hb dX8_cost_29 rfl (lv_at hl 0 rfl) ?_
        refine va_get (D := D) (ci := 8) (v := .ref (a 6)) (C := RX8) (T := TX8) (N := 6) hx hb hts inlX8 hown hK hP 0 gC_0 rfl 1 (by decide) (hts _ mw_19) (fun _ h9 => h9) rfl dX8_cost_30 ?_
        refine lv_iload_n hx hb dX8_cost_33 rfl (lv_at hl 1 rfl) ?_
        refine lv_iload_n hx hb dX8_cost_34 rfl (lv_at hl 2 rfl) ?_
        refine z_callVI (w' := (wC cyI cyZ a σ)) (As := [.int x1, .int x2]) (rest := [.ref (a 6)]) ⟨hx, hb, hml, hown, hts⟩ (c_X7_spotOf l D cyI cyZ a A σ x1 x2 _ rfl) (cwV 2 hts (gd_V mw_314 mw_296 mw_297 mw_18 mw_298) rfl rfl rfl (by decide +kernel) ⟨Nat.le_of_ble_eq_true rfl, Nat.le_of_ble_eq_true rfl⟩) hK hN hP hD hS 7 6 rfl rfl gC_6 rfl hl.1 rfl (Nat.le_of_ble_eq_true rfl) dX8_cost_35 ⟨Nat.zero_le _, Nat.zero_le _⟩ (fun H locs hP hD hS => ?_)
        obtain ⟨v6, e7, hF⟩ := Option.bind_eq_some_iff.mp hF
        refine z_callVI (w' := (wC cyI cyZ a σ)) (As := [.int (F_X7_spotOf σ x1 x2)]) (rest := []) ⟨hx, hb, hml, hown, hts⟩ (c_X7_costAt l D cyI cyZ a A σ (F_X7_spotOf σ x1 x2) _ e7) (cwV 1 hts (gd_V mw_315 mw_316 mw_317 mw_18 mw_318) rfl rfl rfl (by decide +kernel) ⟨Nat.le_of_ble_eq_true rfl, Nat.le_of_ble_eq_true rfl⟩) hK hN hP hD hS 7 6 rfl rfl gC_6 rfl hl.1 rfl (Nat.le_of_ble_eq_true rfl) dX8_cost_38 ⟨Nat.zero_le _, Nat.zero_le _⟩ (fun H locs hP hD hS => ?_)
        cases hF
        exact z_iret hx hb hr hlocks hK hP hD hS dX8_cost_41
      · rw [if_neg c5] at hF
        refine lv_iconst (v := (-1 : Int32)) hx hb dX8_cost_23 (by decide) ?_
        cases hF
        exact z_iret hx hb hr hlocks hK hP hD hS dX8_cost_24
abbrev ts_X8_forget : List Cond := .code yX8_forget cX8_forget 2 (some .int) :: wsL_law
set_option maxHeartbeats 4000000 in
set_option maxRecDepth 100000 in
theorem c_X8_forget (l : Launch) (D : va_G) (cyI cyZ : ClassId) (a : Nat → Nat) (A : Nat → Prop) (σ : Mem) (x1 : Int32) (r : Int32) (σ' : Mem) (hF : F_X8_forget σ x1 = some (r, σ')) : CtI l yX8_forget ts_X8_forget ({ frames := 4, cells := 0, slots := 0, locals := 83 } : Room) [.ref (a 0), .int x1] D cyI cyZ A (wC cyI cyZ a σ) (wC cyI cyZ a σ') r := by
  refine CtI.of (cc := cX8_forget) (maxL := 2) (ret := (some .int)) (by decide) rfl (Nat.le_of_ble_eq_true rfl) ?_
  intro p e s m below meth c ls hC hP hD hl
  obtain ⟨hx, hb, hr, hml, hown, hts, hK, hN, hlocks⟩ := hC
  have hown : s.vm.findClass RX8 = some m.cls := hown
  have hS : va_S A s.heap s.heap [] := va_S.rf
  have hl : lv_has ls 2 [(0, .ref (a 0)), (1, .int x1)] := hl
  unfold F_X8_forget at hF
  refine lv_iload_n hx hb dX8_forget_0 rfl (lv_at hl 1 rfl) ?_
  refine z_callSI (w' := (wC cyI cyZ a σ)) (As := [.int x1]) (rest := []) ⟨hx, hb, hml, hown, hts⟩ (c_X8_isWord l D cyI cyZ A (wC cyI cyZ a σ) x1 _ rfl) (va_cwS 1 hts (gd_S mw_279 mw_280 mw_2 mw_281) rfl rfl rfl (by decide +kernel) ⟨Nat.le_of_ble_eq_true rfl, Nat.le_of_ble_eq_true rfl⟩) hK hN hP hD hS rfl hl.1 rfl (Nat.le_of_ble_eq_true rfl) dX8_forget_1 ⟨Nat.zero_le _, Nat.zero_le _⟩ (fun H locs hP hD hS => ?_)
  refine lv_if_ne (tgt := 9) hx hb dX8_forget_4 (by decide) (fun c1 => ?_) (fun c1 => ?_)
  · rw [if_neg c1] at hF
    refine lv_aload_n hx hb dX8_forget_9 rfl (lv_at hl 0 rfl) ?_
    obtain ⟨σ2, e3, hF⟩ := Option.bind_eq_some_iff.mp hF
    refine z_callVV (w' := (wC cyI cyZ a σ2)) (As := []) (rest := []) ⟨hx, hb, hml, hown, hts⟩ (c_X8_questionChanged l D cyI cyZ a A σ  σ2 e3) (cwV 0 hts (gd_V mw_258 mw_259 mw_260 mw_2 mw_261) rfl rfl rfl (by decide +kernel) ⟨Nat.le_of_ble_eq_true rfl, Nat.le_of_ble_eq_true rfl⟩) hK hN hP hD hS 8 0 rfl rfl gC_0 rfl hl.1 rfl (Nat.le_of_ble_eq_true rfl) dX8_forget_10 ⟨Nat.zero_le _, Nat.zero_le _⟩ (fun H locs hP hD hS => ?_)
    refine lv_aload_n hx hb dX8_forget_13 rfl (lv_at hl 0 rfl) ?_
    refine va_get (D := D) (ci := 8) (v := .ref (a 6)) (C := RX8) (T := TX8) (N := 6) hx hb hts inlX8 hown hK hP 0 gC_0 rfl 1 (by decide) (hts _ mw_19) (fun _ h9 => h9) rfl dX8_forget_14 ?_
    refine lv_iload_n hx hb dX8_forget_17 rfl (lv_at hl 1 rfl) ?_
    obtain ⟨p4, e5, hF⟩ := Option.bind_eq_some_iff.mp hF
    refine z_callVI (w' := (wC cyI cyZ a p4.2)) (As := [.int x1]) (rest := []) ⟨hx, hb, hml, hown, hts⟩ (c_X7_dropMeanings l D cyI cyZ a A σ2 x1 p4.1 p4.2 e5) (cwV 1 hts (gd_V mw_327 mw_328 mw_329 mw_18 mw_330) rfl rfl rfl (by decide +kernel) ⟨Nat.le_of_ble_eq_true rfl, Nat.le_of_ble_eq_true rfl⟩) hK hN hP hD hS 7 6 rfl rfl gC_6 rfl hl.1 rfl (Nat.le_of_ble_eq_true rfl) dX8_forget_18 ⟨Nat.zero_le _, Nat.zero_le _⟩ (fun H locs hP hD hS => ?_)
    cases hF
    exact z_iret hx hb hr hlocks hK hP hD hS dX8_forget_21
  · rw [if_pos c1] at hF
    refine lv_iconst (v := (-1 : Int32)) hx hb dX8_forget_7 (by decide) ?_
    cases hF
    exact z_iret hx hb hr hlocks hK hP hD hS dX8_forget_8
abbrev ts_X8_word : List Cond := .code yX8_word cX8_word 2 (some .int) :: wsL_law
set_option maxHeartbeats 4000000 in
set_option maxRecDepth 100000 in
theorem c_X8_word (l : Launch) (D : va_G) (cyI cyZ : ClassId) (a : Nat → Nat) (A : Nat → Prop) (σ : Mem) (x1 : Int32) (r : Int32) (σ' : Mem) (hF : F_X8_word σ x1 = some (r, σ')) : CtI l yX8_word ts_X8_word ({ frames := 4, cells := 0, slots := 0, locals := 83 } : Room) [.ref (a 0), .int x1] D cyI cyZ A (wC cyI cyZ a σ) (wC cyI cyZ a σ') r := by
  refine CtI.of (cc := cX8_word) (maxL := 2) (ret := (some .int)) (by decide) rfl (Nat.le_of_ble_eq_true rfl) ?_
  intro p e s m below meth c ls hC hP hD hl
  obtain ⟨hx, hb, hr, hml, hown, hts, hK, hN, hlocks⟩ := hC
  have hown : s.vm.findClass RX8 = some m.cls := hown
  have hS : va_S A s.heap s.heap [] := va_S.rf
  have hl : lv_has ls 2 [(0, .ref (a 0)), (1, .int x1)] := hl
  unfold F_X8_word at hF
  refine lv_iload_n hx hb dX8_word_0 rfl (lv_at hl 1 rfl) ?_
  refine z_callSI (w' := (wC cyI cyZ a σ)) (As := [.int x1]) (rest := []) ⟨hx, hb, hml, hown, hts⟩ (c_X8_isWord l D cyI cyZ A (wC cyI cyZ a σ) x1 _ rfl) (va_cwS 1 hts (gd_S mw_279 mw_280 mw_2 mw_281) rfl rfl rfl (by decide +kernel) ⟨Nat.le_of_ble_eq_true rfl, Nat.le_of_ble_eq_true rfl⟩) hK hN hP hD hS rfl hl.1 rfl (Nat.le_of_ble_eq_true rfl) dX8_word_1 ⟨Nat.zero_le _, Nat.zero_le _⟩ (fun H locs hP hD hS => ?_)
  refine lv_if_ne (tgt := 9) hx hb dX8_word_4 (by decide) (fun c1 => ?_) (fun c1 => ?_)
  · rw [if_neg c1] at hF
    refine lv_aload_n hx hb dX8_word_9 rfl (lv_at hl 0 rfl) ?_
    refine va_get (D := D) (ci := 8) (v := .ref (a 13)) (C := RX8) (T := TX8) (N := 6) hx hb hts inlX8 hown hK hP 0 gC_0 rfl 2 (by decide) (hts _ mw_23) (fun _ h9 => h9) rfl dX8_word_10 ?_
    refine z_callVI (w' := (wC cyI cyZ a σ)) (As := []) (rest := []) ⟨hx, hb, hml, hown, hts⟩ (c_X3_size l D cyI cyZ a A σ  _ rfl) (cwV 0 hts (gd_V mw_339 mw_340 mw_341 mw_22 mw_342) rfl rfl rfl (by decide +kernel) ⟨Nat.le_of_ble_eq_true rfl, Nat.le_of_ble_eq_true rfl⟩) hK hN hP hD hS 3 13 rfl rfl gC_13 rfl hl.1 rfl (Nat.le_of_ble_eq_true rfl) dX8_word_13 ⟨Nat.zero_le _, Nat.zero_le _⟩ (fun H locs hP hD hS => ?_)
    refine lv_bipush (v := (8 : Int32)) hx hb dX8_word_16 (by decide) ?_
    refine lv_icmp_lt (tgt := 24) hx hb dX8_word_18 (by decide) (fun c2 => ?_) (fun c2 => ?_)
    · rw [if_pos c2] at hF
      refine lv_aload_n hx hb dX8_word_24 rfl (lv_at hl 0 rfl) ?_
      obtain ⟨σ3, e4, hF⟩ := Option.bind_eq_some_iff.mp hF
      refine z_callVV (w' := (wC cyI cyZ a σ3)) (As := []) (rest := []) ⟨hx, hb, hml, hown, hts⟩ (c_X8_questionChanged l D cyI cyZ a A σ  σ3 e4) (cwV 0 hts (gd_V mw_258 mw_259 mw_260 mw_2 mw_261) rfl rfl rfl (by decide +kernel) ⟨Nat.le_of_ble_eq_true rfl, Nat.le_of_ble_eq_true rfl⟩) hK hN hP hD hS 8 0 rfl rfl gC_0 rfl hl.1 rfl (Nat.le_of_ble_eq_true rfl) dX8_word_25 ⟨Nat.zero_le _, Nat.zero_le _⟩ (fun H locs hP hD hS => ?_)
      refine lv_aload_n hx hb dX8_word_28 rfl (lv_at hl 0 rfl) ?_
      refine va_get (D := D) (ci := 8) (v := .ref (a 13)) (C := RX8) (T := TX8) (N := 6) hx hb hts inlX8 hown hK hP 0 gC_0 rfl 2 (by decide) (hts _ mw_23) (fun _ h9 => h9) rfl dX8_word_29 ?_
      refine lv_iload_n hx hb dX8_word_32 rfl (lv_at hl 1 rfl) ?_
      obtain ⟨p5, e6, hF⟩ := Option.bind_eq_some_iff.mp hF
      refine z_callVI (w' := (wC cyI cyZ a p5.2)) (As := [.int x1]) (rest := []) ⟨hx, hb, hml, hown, hts⟩ (c_X3_addWord l D cyI cyZ a A σ3 x1 p5.1 p5.2 e6) (cwV 1 hts (gd_V mw_344 mw_345 mw_346 mw_22 mw_347) rfl rfl rfl (by decide +kernel) ⟨Nat.le_of_ble_eq_true rfl, Nat.le_of_ble_eq_true rfl⟩) hK hN hP hD hS 3 13 rfl rfl gC_13 rfl hl.1 rfl (Nat.le_of_ble_eq_true rfl) dX8_word_33 ⟨Nat.zero_le _, Nat.zero_le _⟩ (fun H locs hP hD hS => ?_)
      cases hF
      exact z_iret hx hb hr hlocks hK hP hD hS dX8_word_36
    · rw [if_neg c2] at hF
      refine lv_bipush (v := (-2 : Int32)) hx hb dX8_word_21 (by decide) ?_
      cases hF
      exact z_iret hx hb hr hlocks hK hP hD hS dX8_word_23
  · rw [if_pos c1] at hF
    refine lv_iconst (v := (-1 : Int32)) hx hb dX8_word_7 (by decide) ?_
    cases hF
    exact z_iret hx hb hr hlocks hK hP hD hS dX8_word_8
abbrev ts_X8_number : List Cond := .code yX8_number cX8_number 2 (some .int) :: wsL_law
set_option maxHeartbeats 4000000 in
set_option maxRecDepth 100000 in
theorem c_X8_number (l : Launch) (D : va_G) (cyI cyZ : ClassId) (a : Nat → Nat) (A : Nat → Prop) (σ : Mem) (x1 : Int32) (r : Int32) (σ' : Mem) (hF : F_X8_number σ x1 = some (r, σ')) : CtI l yX8_number ts_X8_number ({ frames := 4, cells := 0, slots := 0, locals := 83 } : Room) [.ref (a 0), .int x1] D cyI cyZ A (wC cyI cyZ a σ) (wC cyI cyZ a σ') r := by
  refine CtI.of (cc := cX8_number) (maxL := 2) (ret := (some .int)) (by decide) rfl (Nat.le_of_ble_eq_true rfl) ?_
  intro p e s m below meth c ls hC hP hD hl
  obtain ⟨hx, hb, hr, hml, hown, hts, hK, hN, hlocks⟩ := hC
  have hown : s.vm.findClass RX8 = some m.cls := hown
  have hS : va_S A s.heap s.heap [] := va_S.rf
  have hl : lv_has ls 2 [(0, .ref (a 0)), (1, .int x1)] := hl
  unfold F_X8_number at hF
  refine lv_iload_n hx hb dX8_number_0 rfl (lv_at hl 1 rfl) ?_
  refine z_callSI (w' := (wC cyI cyZ a σ)) (As := [.int x1]) (rest := []) ⟨hx, hb, hml, hown, hts⟩ (c_X8_isValue l D cyI cyZ A (wC cyI cyZ a σ) x1 _ rfl) (va_cwS 1 hts (gd_S mw_215 mw_216 mw_2 mw_217) rfl rfl rfl (by decide +kernel) ⟨Nat.le_of_ble_eq_true rfl, Nat.le_of_ble_eq_true rfl⟩) hK hN hP hD hS rfl hl.1 rfl (Nat.le_of_ble_eq_true rfl) dX8_number_1 ⟨Nat.zero_le _, Nat.zero_le _⟩ (fun H locs hP hD hS => ?_)
  refine lv_if_ne (tgt := 9) hx hb dX8_number_4 (by decide) (fun c1 => ?_) (fun c1 => ?_)
  · rw [if_neg c1] at hF
    refine lv_aload_n hx hb dX8_number_9 rfl (lv_at hl 0 rfl) ?_
    refine va_get (D := D) (ci := 8) (v := .ref (a 13)) (C := RX8) (T := TX8) (N := 6) hx hb hts inlX8 hown hK hP 0 gC_0 rfl 2 (by decide) (hts _ mw_23) (fun _ h9 => h9) rfl dX8_number_10 ?_
    refine z_callVI (w' := (wC cyI cyZ a σ)) (As := []) (rest := []) ⟨hx, hb, hml, hown, hts⟩ (c_X3_size l D cyI cyZ a A σ  _ rfl) (cwV 0 hts (gd_V mw_339 mw_340 mw_341 mw_22 mw_342) rfl rfl rfl (by decide +kernel) ⟨Nat.le_of_ble_eq_true rfl, Nat.le_of_ble_eq_true rfl⟩) hK hN hP hD hS 3 13 rfl rfl gC_13 rfl hl.1 rfl (Nat.le_of_ble_eq_true rfl) dX8_number_13 ⟨Nat.zero_le _, Nat.zero_le _⟩ (fun H locs hP hD hS => ?_)
    refine lv_bipush (v := (8 : Int32)) hx hb dX8_number_16 (by decide) ?_
    refine lv_icmp_lt (tgt := 24) hx hb dX8_number_18 (by decide) (fun c2 => ?_) (fun c2 => ?_)
    · rw [if_pos c2] at hF
      refine lv_aload_n hx hb dX8_number_24 rfl (lv_at hl 0 rfl) ?_
      obtain ⟨σ3, e4, hF⟩ := Option.bind_eq_some_iff.mp hF
      refine z_callVV (w' := (wC cyI cyZ a σ3)) (As := []) (rest := []) ⟨hx, hb, hml, hown, hts⟩ (c_X8_questionChanged l D cyI cyZ a A σ  σ3 e4) (cwV 0 hts (gd_V mw_258 mw_259 mw_260 mw_2 mw_261) rfl rfl rfl (by decide +kernel) ⟨Nat.le_of_ble_eq_true rfl, Nat.le_of_ble_eq_true rfl⟩) hK hN hP hD hS 8 0 rfl rfl gC_0 rfl hl.1 rfl (Nat.le_of_ble_eq_true rfl) dX8_number_25 ⟨Nat.zero_le _, Nat.zero_le _⟩ (fun H locs hP hD hS => ?_)
      refine lv_aload_n hx hb dX8_number_28 rfl (lv_at hl 0 rfl) ?_
      refine va_get (D := D) (ci := 8) (v := .ref (a 13)) (C := RX8) (T := TX8) (N := 6) hx hb hts inlX8 hown hK hP 0 gC_0 rfl 2 (by decide) (hts _ mw_23) (fun _ h9 => h9) rfl dX8_number_29 ?_
      refine lv_iload_n hx hb dX8_number_32 rfl (lv_at hl 1 rfl) ?_
      obtain ⟨p5, e6, hF⟩ := Option.bind_eq_some_iff.mp hF
      refine z_callVI (w' := (wC cyI cyZ a p5.2)) (As := [.int x1]) (rest := []) ⟨hx, hb, hml, hown, hts⟩ (c_X3_addNumber l D cyI cyZ a A σ3 x1 p5.1 p5.2 e6) (cwV 1 hts (gd_V mw_365 mw_366 mw_367 mw_22 mw_368) rfl rfl rfl (by decide +kernel) ⟨Nat.le_of_ble_eq_true rfl, Nat.le_of_ble_eq_true rfl⟩) hK hN hP hD hS 3 13 rfl rfl gC_13 rfl hl.1 rfl (Nat.le_of_ble_eq_true rfl) dX8_number_33 ⟨Nat.zero_le _, Nat.zero_le _⟩ (fun H locs hP hD hS => ?_)
      cases hF
      exact z_iret hx hb hr hlocks hK hP hD hS dX8_number_36
    · rw [if_neg c2] at hF
      refine lv_bipush (v := (-2 : Int32)) hx hb dX8_number_21 (by decide) ?_
      cases hF
      exact z_iret hx hb hr hlocks hK hP hD hS dX8_number_23
  · rw [if_pos c1] at hF
    refine lv_iconst (v := (-1 : Int32)) hx hb dX8_number_7 (by decide) ?_
    cases hF
    exact z_iret hx hb hr hlocks hK hP hD hS dX8_number_8
abbrev ts_X8_clear : List Cond := .code yX8_clear cX8_clear 1 (some .int) :: wsL_law
set_option maxHeartbeats 4000000 in
set_option maxRecDepth 100000 in
theorem c_X8_clear (l : Launch) (D : va_G) (cyI cyZ : ClassId) (a : Nat → Nat) (A : Nat → Prop) (σ : Mem) (r : Int32) (σ' : Mem) (hF : F_X8_clear σ  = some (r, σ')) : CtI l yX8_clear ts_X8_clear ({ frames := 4, cells := 0, slots := 0, locals := 83 } : Room) [.ref (a 0)] D cyI cyZ A (wC cyI cyZ a σ) (wC cyI cyZ a σ') r := by
  refine CtI.of (cc := cX8_clear) (maxL := 1) (ret := (some .int)) (by decide) rfl (Nat.le_of_ble_eq_true rfl) ?_
  intro p e s m below meth c ls hC hP hD hl
  obtain ⟨hx, hb, hr, hml, hown, hts, hK, hN, hlocks⟩ := hC
  have hown : s.vm.findClass RX8 = some m.cls := hown
  have hS : va_S A s.heap s.heap [] := va_S.rf
  have hl : lv_has ls 1 [(0, .ref (a 0))] := hl
  unfold F_X8_clear at hF
  refine lv_aload_n hx hb dX8_clear_0 rfl (lv_at hl 0 rfl) ?_
  obtain ⟨σ1, e2, hF⟩ := Option.bind_eq_some_iff.mp hF
  refine z_callVV (w' := (wC cyI cyZ a σ1)) (As := []) (rest := []) ⟨hx, hb, hml, hown, hts⟩ (c_X8_questionChanged l D cyI cyZ a A σ  σ1 e2) (cwV 0 hts (gd_V mw_258 mw_259 mw_260 mw_2 mw_261) rfl rfl rfl (by decide +kernel) ⟨Nat.le_of_ble_eq_true rfl, Nat.le_of_ble_eq_true rfl⟩) hK hN hP hD hS 8 0 rfl rfl gC_0 rfl hl.1 rfl (Nat.le_of_ble_eq_true rfl) dX8_clear_1 ⟨Nat.zero_le _, Nat.zero_le _⟩ (fun H locs hP hD hS => ?_)
  refine lv_aload_n hx hb dX8_clear_4 rfl (lv_at hl 0 rfl) ?_
  refine va_get (D := D) (ci := 8) (v := .ref (a 13)) (C := RX8) (T := TX8) (N := 6) hx hb hts inlX8 hown hK hP 0 gC_0 rfl 2 (by decide) (hts _ mw_23) (fun _ h9 => h9) rfl dX8_clear_5 ?_
  obtain ⟨p3, e4, hF⟩ := Option.bind_eq_some_iff.mp hF
  refine z_callVI (w' := (wC cyI cyZ a p3.2)) (As := []) (rest := []) ⟨hx, hb, hml, hown, hts⟩ (c_X3_empty l D cyI cyZ a A σ1  p3.1 p3.2 e4) (cwV 0 hts (gd_V mw_377 mw_378 mw_379 mw_22 mw_380) rfl rfl rfl (by decide +kernel) ⟨Nat.le_of_ble_eq_true rfl, Nat.le_of_ble_eq_true rfl⟩) hK hN hP hD hS 3 13 rfl rfl gC_13 rfl hl.1 rfl (Nat.le_of_ble_eq_true rfl) dX8_clear_8 ⟨Nat.zero_le _, Nat.zero_le _⟩ (fun H locs hP hD hS => ?_)
  cases hF
  exact z_iret hx hb hr hlocks hK hP hD hS dX8_clear_11
abbrev ts_X8_readings : List Cond := .code yX8_readings cX8_readings 1 (some .int) :: wsL_law
set_option maxHeartbeats 4000000 in
set_option maxRecDepth 100000 in
theorem c_X8_readings (l : Launch) (D : va_G) (cyI cyZ : ClassId) (a : Nat → Nat) (A : Nat → Prop) (σ : Mem) (r : Int32) (σ' : Mem) (hF : F_X8_readings σ  = some (r, σ')) : CtI l yX8_readings ts_X8_readings ({ frames := 6, cells := 0, slots := 0, locals := 136 } : Room) [.ref (a 0)] D cyI cyZ A (wC cyI cyZ a σ) (wC cyI cyZ a σ') r := by
  refine CtI.of (cc := cX8_readings) (maxL := 1) (ret := (some .int)) (by decide) rfl (Nat.le_of_ble_eq_true rfl) ?_
  intro p e s m below meth c ls hC hP hD hl
  obtain ⟨hx, hb, hr, hml, hown, hts, hK, hN, hlocks⟩ := hC
  have hown : s.vm.findClass RX8 = some m.cls := hown
  have hS : va_S A s.heap s.heap [] := va_S.rf
  have hl : lv_has ls 1 [(0, .ref (a 0))] := hl
  unfold F_X8_readings at hF
  refine lv_aload_n hx hb dX8_readings_0 rfl (lv_at hl 0 rfl) ?_
  refine va_get (D := D) (ci := 8) (v := .ref (a 16)) (C := RX8) (T := TX8) (N := 6) hx hb hts inlX8 hown hK hP 0 gC_0 rfl 3 (by decide) (hts _ mw_27) (fun _ h9 => h9) rfl dX8_readings_1 ?_
  obtain ⟨p1, e2, hF⟩ := Option.bind_eq_some_iff.mp hF
  refine z_callVI (w' := (wC cyI cyZ a p1.2)) (As := []) (rest := []) ⟨hx, hb, hml, hown, hts⟩ (c_X5_size l D cyI cyZ a A σ  p1.1 p1.2 e2) (cwV 0 hts (gd_V mw_389 mw_390 mw_391 mw_26 mw_392) rfl rfl rfl (by decide +kernel) ⟨Nat.le_of_ble_eq_true rfl, Nat.le_of_ble_eq_true rfl⟩) hK hN hP hD hS 5 16 rfl rfl gC_16 rfl hl.1 rfl (Nat.le_of_ble_eq_true rfl) dX8_readings_4 ⟨Nat.zero_le _, Nat.zero_le _⟩ (fun H locs hP hD hS => ?_)
  cases hF
  exact z_iret hx hb hr hlocks hK hP hD hS dX8_readings_7
abbrev ts_X8_reading : List Cond := .code yX8_reading cX8_reading 4 (some .int) :: wsL_law
set_option maxHeartbeats 4000000 in
set_option maxRecDepth 100000 in
theorem c_X8_reading (l : Launch) (D : va_G) (cyI cyZ : ClassId) (a : Nat → Nat) (A : Nat → Prop) (σ : Mem) (x1 : Int32) (x2 : Int32) (r : Int32) (σ' : Mem) (hF : F_X8_reading σ x1 x2 = some (r, σ')) : CtI l yX8_reading ts_X8_reading ({ frames := 6, cells := 0, slots := 0, locals := 137 } : Room) [.ref (a 0), .int x1, .int x2] D cyI cyZ A (wC cyI cyZ a σ) (wC cyI cyZ a σ') r := by
  refine CtI.of (cc := cX8_reading) (maxL := 4) (ret := (some .int)) (by decide) rfl (Nat.le_of_ble_eq_true rfl) ?_
  intro p e s m below meth c ls hC hP hD hl
  obtain ⟨hx, hb, hr, hml, hown, hts, hK, hN, hlocks⟩ := hC
  have hown : s.vm.findClass RX8 = some m.cls := hown
  have hS : va_S A s.heap s.heap [] := va_S.rf
  have hl : lv_has ls 4 [(0, .ref (a 0)), (1, .int x1), (2, .int x2)] := hl
  unfold F_X8_reading at hF
  refine lv_aload_n hx hb dX8_reading_0 rfl (lv_at hl 0 rfl) ?_
  refine va_get (D := D) (ci := 8) (v := .ref (a 16)) (C := RX8) (T := TX8) (N := 6) hx hb hts inlX8 hown hK hP 0 gC_0 rfl 3 (by decide) (hts _ mw_27) (fun _ h9 => h9) rfl dX8_reading_1 ?_
  refine lv_iload_n hx hb dX8_reading_4 rfl (lv_at hl 1 rfl) ?_
  obtain ⟨p1, e2, hF⟩ := Option.bind_eq_some_iff.mp hF
  refine z_callVI (w' := (wC cyI cyZ a p1.2)) (As := [.int x1]) (rest := []) ⟨hx, hb, hml, hown, hts⟩ (c_X5_has l D cyI cyZ a A σ x1 p1.1 p1.2 e2) (cwV 1 hts (gd_V mw_566 mw_567 mw_568 mw_26 mw_569) rfl rfl rfl (by decide +kernel) ⟨Nat.le_of_ble_eq_true rfl, Nat.le_of_ble_eq_true rfl⟩) hK hN hP hD hS 5 16 rfl rfl gC_16 rfl hl.1 rfl (Nat.le_of_ble_eq_true rfl) dX8_reading_5 ⟨Nat.zero_le _, Nat.zero_le _⟩ (fun H locs hP hD hS => ?_)
  refine lv_if_ne (tgt := 14) hx hb dX8_reading_8 (by decide) (fun c3 => ?_) (fun c3 => ?_)
  · rw [if_neg c3] at hF
    refine lv_iload_n hx hb dX8_reading_14 rfl (lv_at hl 2 rfl) ?_
    refine lv_bipush (v := (10 : Int32)) hx hb dX8_reading_15 (by decide) ?_
    refine lv_icmp_lt (tgt := 52) hx hb dX8_reading_17 (by decide) (fun c4 => ?_) (fun c4 => ?_)
    · rw [if_pos c4] at hF
      refine lv_aload_n hx hb dX8_reading_52 rfl (lv_at hl 0 rfl) ?_
      refine va_get (D := D) (ci := 8) (v := .ref (a 16)) (C := RX8) (T := TX8) (N := 6) hx hb hts inlX8 hown hK hP 0 gC_0 rfl 3 (by decide) (hts _ mw_27) (fun _ h9 => h9) rfl dX8_reading_53 ?_
      refine lv_iload_n hx hb dX8_reading_56 rfl (lv_at hl 1 rfl) ?_
      obtain ⟨σ5, e6, hF⟩ := Option.bind_eq_some_iff.mp hF
      refine z_callVR (w' := (wC cyI cyZ a σ5)) (As := [.int x1]) (rest := []) ⟨hx, hb, hml, hown, hts⟩ (c_X5_formOf l D cyI cyZ a A p1.2 x1 σ5 e6) (cwV 1 hts (gd_V mw_578 mw_579 mw_580 mw_26 mw_581) rfl rfl rfl (by decide +kernel) ⟨Nat.le_of_ble_eq_true rfl, Nat.le_of_ble_eq_true rfl⟩) hK hN hP hD hS 5 16 rfl rfl gC_16 rfl hl.1 rfl (Nat.le_of_ble_eq_true rfl) dX8_reading_57 ⟨Nat.zero_le _, Nat.zero_le _⟩ (fun H locs hP hD hS => ?_)
      refine lv_astore_n (lv' := [(3, .ref (a 17)), (0, .ref (a 0)), (1, .int x1), (2, .int x2)]) hx hb dX8_reading_60 rfl hl (by decide) rfl (fun ls hl => ?_)
      refine lv_iload_n hx hb dX8_reading_61 rfl (lv_at hl 3 rfl) ?_
      by_cases c7 : x2 = (0 : Int32)
      · rw [if_pos c7] at hF
        refine lv_tableIn (off := 38) (tgt := 100) hx hb dX8_reading_62 (by rw [c7]; decide) (by rw [c7]; decide) (by rw [c7]; rfl) (by decide) ?_
        refine lv_aload_n hx hb dX8_reading_100 rfl (lv_at hl 1 rfl) ?_
        refine va_get (D := D) (ci := 8) (v := .ref (a 16)) (C := RX8) (T := TX8) (N := 6) hx hb hts inlX8 hown hK hP 0 gC_0 rfl 3 (by decide) (hts _ mw_27) (fun _ h9 => h9) rfl dX8_reading_101 ?_
        refine lv_iload_n hx hb dX8_reading_104 rfl (lv_at hl 2 rfl) ?_
        obtain ⟨v8, e9, hF⟩ := Option.bind_eq_some_iff.mp hF
        refine z_callVI (w' := (wC cyI cyZ a σ5)) (As := [.int x1]) (rest := []) ⟨hx, hb, hml, hown, hts⟩ (c_X5_costAt l D cyI cyZ a A σ5 x1 _ e9) (cwV 1 hts (gd_V mw_582 mw_521 mw_522 mw_26 mw_523) rfl rfl rfl (by decide +kernel) ⟨Nat.le_of_ble_eq_true rfl, Nat.le_of_ble_eq_true rfl⟩) hK hN hP hD hS 5 16 rfl rfl gC_16 rfl hl.1 rfl (Nat.le_of_ble_eq_true rfl) dX8_reading_105 ⟨Nat.zero_le _, Nat.zero_le _⟩ (fun H locs hP hD hS => ?_)
        cases hF
        exact z_iret hx hb hr hlocks hK hP hD hS dX8_reading_108
      · rw [if_neg c7] at hF
        by_cases c10 : x2 = (1 : Int32)
        · rw [if_pos c10] at hF
          refine lv_tableIn (off := 47) (tgt := 109) hx hb dX8_reading_62 (by rw [c10]; decide) (by rw [c10]; decide) (by rw [c10]; rfl) (by decide) ?_
          refine lv_aload_n hx hb dX8_reading_109 rfl (lv_at hl 0 rfl) ?_
          refine z_callVI (w' := (wC cyI cyZ a σ5)) (As := []) (rest := []) ⟨hx, hb, hml, hown, hts⟩ (c_X2_doing l D cyI cyZ a A σ5  _ rfl) (cwV 0 hts (gd_V mw_583 mw_584 mw_585 mw_71 mw_586) rfl rfl rfl (by decide +kernel) ⟨Nat.le_of_ble_eq_true rfl, Nat.le_of_ble_eq_true rfl⟩) hK hN hP hD hS 2 17 rfl rfl gC_17 rfl hl.1 rfl (Nat.le_of_ble_eq_true rfl) dX8_reading_110 ⟨Nat.zero_le _, Nat.zero_le _⟩ (fun H locs hP hD hS => ?_)
          cases hF
          exact z_iret hx hb hr hlocks hK hP hD hS dX8_reading_113
        · rw [if_neg c10] at hF
          by_cases c11 : x2 = (2 : Int32)
          · rw [if_pos c11] at hF
            refine lv_tableIn (off := 52) (tgt := 114) hx hb dX8_reading_62 (by rw [c11]; decide) (by rw [c11]; decide) (by rw [c11]; rfl) (by decide) ?_
            refine lv_aload_n hx hb dX8_reading_114 rfl (lv_at hl 0 rfl) ?_
            refine z_callVI (w' := (wC cyI cyZ a σ5)) (As := []) (rest := []) ⟨hx, hb, hml, hown, hts⟩ (c_X2_from l D cyI cyZ a A σ5  _ rfl) (cwV 0 hts (gd_V mw_587 mw_588 mw_589 mw_71 mw_590) rfl rfl rfl (by decide +kernel) ⟨Nat.le_of_ble_eq_true rfl, Nat.le_of_ble_eq_true rfl⟩) hK hN hP hD hS 2 17 rfl rfl gC_17 rfl hl.1 rfl (Nat.le_of_ble_eq_true rfl) dX8_reading_115 ⟨Nat.zero_le _, Nat.zero_le _⟩ (fun H locs hP hD hS => ?_)
            cases hF
            exact z_iret hx hb hr hlocks hK hP hD hS dX8_reading_118
          · rw [if_neg c11] at hF
            by_cases c12 : x2 = (3 : Int32)
            · rw [if_pos c12] at hF
              refine lv_tableIn (off := 57) (tgt := 119) hx hb dX8_reading_62 (by rw [c12]; decide) (by rw [c12]; decide) (by rw [c12]; rfl) (by decide) ?_
              refine lv_aload_n hx hb dX8_reading_119 rfl (lv_at hl 0 rfl) ?_
              refine z_callVI (w' := (wC cyI cyZ a σ5)) (As := []) (rest := []) ⟨hx, hb, hml, hown, hts⟩ (c_X2_wanted l D cyI cyZ a A σ5  _ rfl) (cwV 0 hts (gd_V mw_591 mw_592 mw_593 mw_71 mw_594) rfl rfl rfl (by decide +kernel) ⟨Nat.le_of_ble_eq_true rfl, Nat.le_of_ble_eq_true rfl⟩) hK hN hP hD hS 2 17 rfl rfl gC_17 rfl hl.1 rfl (Nat.le_of_ble_eq_true rfl) dX8_reading_120 ⟨Nat.zero_le _, Nat.zero_le _⟩ (fun H locs hP hD hS => ?_)
              cases hF
              exact z_iret hx hb hr hlocks hK hP hD hS dX8_reading_123
            · rw [if_neg c12] at hF
              by_cases c13 : x2 = (4 : Int32)
              · rw [if_pos c13] at hF
                refine lv_tableIn (off := 62) (tgt := 124) hx hb dX8_reading_62 (by rw [c13]; decide) (by rw [c13]; decide) (by rw [c13]; rfl) (by decide) ?_
                refine lv_aload_n hx hb dX8_reading_124 rfl (lv_at hl 0 rfl) ?_
                refine z_callVI (w' := (wC cyI cyZ a σ5)) (As := []) (rest := []) ⟨hx, hb, hml, hown, hts⟩ (c_X2_tests l D cyI cyZ a A σ5  _ rfl) (cwV 0 hts (gd_V mw_595 mw_596 mw_597 mw_71 mw_598) rfl rfl rfl (by decide +kernel) ⟨Nat.le_of_ble_eq_true rfl, Nat.le_of_ble_eq_true rfl⟩) hK hN hP hD hS 2 17 rfl rfl gC_17 rfl hl.1 rfl (Nat.le_of_ble_eq_true rfl) dX8_reading_125 ⟨Nat.zero_le _, Nat.zero_le _⟩ (fun H locs hP hD hS => ?_)
                cases hF
                exact z_iret hx hb hr hlocks hK hP hD hS dX8_reading_128
              · rw [if_neg c13] at hF
                by_cases c14 : x2 = (5 : Int32)
                · rw [if_pos c14] at hF
                  refine lv_tableIn (off := 67) (tgt := 129) hx hb dX8_reading_62 (by rw [c14]; decide) (by rw [c14]; decide) (by rw [c14]; rfl) (by decide) ?_
                  refine lv_aload_n hx hb dX8_reading_129 rfl (lv_at hl 1 rfl) ?_
                  refine va_get (D := D) (ci := 8) (v := .ref (a 27)) (C := RX8) (T := TX8) (N := 6) hx hb hts inlX8 hown hK hP 0 gC_0 rfl 4 (by decide) (hts _ mw_31) (fun _ h9 => h9) rfl dX8_reading_130 ?_
                  refine lv_aload_n hx hb dX8_reading_133 rfl (lv_at hl 0 rfl) ?_
                  obtain ⟨p15, e16, hF⟩ := Option.bind_eq_some_iff.mp hF
                  refine z_callVI (w' := (wC cyI cyZ a p15.2)) (As := [.ref (a 17)]) (rest := []) ⟨hx, hb, hml, hown, hts⟩ (c_X1_rowsFound l D cyI cyZ a A σ5  p15.1 p15.2 e16) (cwV 1 hts (gd_V mw_599 mw_600 mw_601 mw_30 mw_602) rfl rfl rfl (by decide +kernel) ⟨Nat.le_of_ble_eq_true rfl, Nat.le_of_ble_eq_true rfl⟩) hK hN hP hD hS 1 27 rfl rfl gC_27 rfl hl.1 rfl (Nat.le_of_ble_eq_true rfl) dX8_reading_134 ⟨Nat.zero_le _, Nat.zero_le _⟩ (fun H locs hP hD hS => ?_)
                  refine z_callSI (w' := (wC cyI cyZ a p15.2)) (As := [.int p15.1]) (rest := []) ⟨hx, hb, hml, hown, hts⟩ (c_J6_bitCount_0f7a4 l D cyI cyZ A (wC cyI cyZ a p15.2) p15.1 _ rfl) (va_cwS 1 hts (gd_S mw_644 mw_645 mw_646 mw_647) rfl rfl rfl (by decide +kernel) ⟨Nat.le_of_ble_eq_true rfl, Nat.le_of_ble_eq_true rfl⟩) hK hN hP hD hS rfl hl.1 rfl (Nat.le_of_ble_eq_true rfl) dX8_reading_137 ⟨Nat.zero_le _, Nat.zero_le _⟩ (fun H locs hP hD hS => ?_)
                  cases hF
                  exact z_iret hx hb hr hlocks hK hP hD hS dX8_reading_140
                · rw [if_neg c14] at hF
                  refine lv_tableOut (tgt := 141) hx hb dX8_reading_62 (z_notin6 c7 c10 c11 c12 c13 c14) (by decide) ?_
                  refine lv_bipush (v := (-9 : Int32)) hx hb dX8_reading_141 (by decide) ?_
                  cases hF
                  exact z_iret hx hb hr hlocks hK hP hD hS dX8_reading_143
    · rw [if_neg c4] at hF
      refine lv_aload_n hx hb dX8_reading_20 rfl (lv_at hl 0 rfl) ?_
      refine va_get (D := D) (ci := 8) (v := .ref (a 13)) (C := RX8) (T := TX8) (N := 6) hx hb hts inlX8 hown hK hP 0 gC_0 rfl 2 (by decide) (hts _ mw_23) (fun _ h9 => h9) rfl dX8_reading_21 ?_
      refine lv_iload_n hx hb dX8_reading_24 rfl (lv_at hl 2 rfl) ?_
      refine lv_bipush (v := (10 : Int32)) hx hb dX8_reading_25 (by decide) ?_
      refine lv_isub hx hb dX8_reading_27 ?_
      refine z_callVI (w' := (wC cyI cyZ a p1.2)) (As := [.int (x2 - (10 : Int32))]) (rest := []) ⟨hx, hb, hml, hown, hts⟩ (c_X3_has l D cyI cyZ a A p1.2 (x2 - (10 : Int32)) _ rfl) (cwV 1 hts (gd_V mw_570 mw_571 mw_572 mw_22 mw_573) rfl rfl rfl (by decide +kernel) ⟨Nat.le_of_ble_eq_true rfl, Nat.le_of_ble_eq_true rfl⟩) hK hN hP hD hS 3 13 rfl rfl gC_13 rfl hl.1 rfl (Nat.le_of_ble_eq_true rfl) dX8_reading_28 ⟨Nat.zero_le _, Nat.zero_le _⟩ (fun H locs hP hD hS => ?_)
      refine lv_if_eq (tgt := 49) hx hb dX8_reading_31 (by decide) (fun c17 => ?_) (fun c17 => ?_)
      · rw [if_pos c17] at hF
        refine lv_bipush (v := (-9 : Int32)) hx hb dX8_reading_49 (by decide) ?_
        cases hF
        exact z_iret hx hb hr hlocks hK hP hD hS dX8_reading_51
      · rw [if_neg c17] at hF
        refine lv_aload_n hx hb dX8_reading_34 rfl (lv_at hl 0 rfl) ?_
        refine va_get (D := D) (ci := 8) (v := .ref (a 16)) (C := RX8) (T := TX8) (N := 6) hx hb hts inlX8 hown hK hP 0 gC_0 rfl 3 (by decide) (hts _ mw_27) (fun _ h9 => h9) rfl dX8_reading_35 ?_
        refine lv_iload_n hx hb dX8_reading_38 rfl (lv_at hl 1 rfl) ?_
        refine lv_iload_n hx hb dX8_reading_39 rfl (lv_at hl 2 rfl) ?_
        refine lv_bipush (v := (10 : Int32)) hx hb dX8_reading_40 (by decide) ?_
        refine lv_isub hx hb dX8_reading_42 ?_
        obtain ⟨v18, e19, hF⟩ := Option.bind_eq_some_iff.mp hF
        refine z_callVI (w' := (wC cyI cyZ a p1.2)) (As := [.int x1, .int (x2 - (10 : Int32))]) (rest := []) ⟨hx, hb, hml, hown, hts⟩ (c_X5_meaningAt l D cyI cyZ a A p1.2 x1 (x2 - (10 : Int32)) _ e19) (cwV 2 hts (gd_V mw_574 mw_575 mw_576 mw_26 mw_577) rfl rfl rfl (by decide +kernel) ⟨Nat.le_of_ble_eq_true rfl, Nat.le_of_ble_eq_true rfl⟩) hK hN hP hD hS 5 16 rfl rfl gC_16 rfl hl.1 rfl (Nat.le_of_ble_eq_true rfl) dX8_reading_43 ⟨Nat.zero_le _, Nat.zero_le _⟩ (fun H locs hP hD hS => ?_)
        refine lv_goto (tgt := 51) hx hb dX8_reading_46 (by decide) ?_
        cases hF
        exact z_iret hx hb hr hlocks hK hP hD hS dX8_reading_51
  · rw [if_pos c3] at hF
    refine lv_bipush (v := (-9 : Int32)) hx hb dX8_reading_11 (by decide) ?_
    cases hF
    exact z_iret hx hb hr hlocks hK hP hD hS dX8_reading_13
abbrev ts_X8_test : List Cond := .code yX8_test cX8_test 5 (some .int) :: wsL_law
set_option maxHeartbeats 4000000 in
set_option maxRecDepth 100000 in
theorem c_X8_test (l : Launch) (D : va_G) (cyI cyZ : ClassId) (a : Nat → Nat) (A : Nat → Prop) (σ : Mem) (x1 : Int32) (x2 : Int32) (x3 : Int32) (r : Int32) (σ' : Mem) (hF : F_X8_test σ x1 x2 x3 = some (r, σ')) : CtI l yX8_test ts_X8_test ({ frames := 6, cells := 0, slots := 0, locals := 137 } : Room) [.ref (a 0), .int x1, .int x2, .int x3] D cyI cyZ A (wC cyI cyZ a σ) (wC cyI cyZ a σ') r := by
  refine CtI.of (cc := cX8_test) (maxL := 5) (ret := (some .int)) (by decide) rfl (Nat.le_of_ble_eq_true rfl) ?_
  intro p e s m below meth c ls hC hP hD hl
  obtain ⟨hx, hb, hr, hml, hown, hts, hK, hN, hlocks⟩ := hC
  have hown : s.vm.findClass RX8 = some m.cls := hown
  have hS : va_S A s.heap s.heap [] := va_S.rf
  have hl : lv_has ls 5 [(0, .ref (a 0)), (1, .int x1), (2, .int x2), (3, .int x3)] := hl
  unfold F_X8_test at hF
  refine lv_aload_n hx hb dX8_test_0 rfl (lv_at hl 0 rfl) ?_
  refine va_get (D := D) (ci := 8) (v := .ref (a 16)) (C := RX8) (T := TX8) (N := 6) hx hb hts inlX8 hown hK hP 0 gC_0 rfl 3 (by decide) (hts _ mw_27) (fun _ h9 => h9) rfl dX8_test_1 ?_
  refine lv_iload_n hx hb dX8_test_4 rfl (lv_at hl 1 rfl) ?_
  obtain ⟨p1, e2, hF⟩ := Option.bind_eq_some_iff.mp hF
  refine z_callVI (w' := (wC cyI cyZ a p1.2)) (As := [.int x1]) (rest := []) ⟨hx, hb, hml, hown, hts⟩ (c_X5_has l D cyI cyZ a A σ x1 p1.1 p1.2 e2) (cwV 1 hts (gd_V mw_566 mw_567 mw_568 mw_26 mw_569) rfl rfl rfl (by decide +kernel) ⟨Nat.le_of_ble_eq_true rfl, Nat.le_of_ble_eq_true rfl⟩) hK hN hP hD hS 5 16 rfl rfl gC_16 rfl hl.1 rfl (Nat.le_of_ble_eq_true rfl) dX8_test_5 ⟨Nat.zero_le _, Nat.zero_le _⟩ (fun H locs hP hD hS => ?_)
  refine lv_if_ne (tgt := 14) hx hb dX8_test_8 (by decide) (fun c3 => ?_) (fun c3 => ?_)
  · rw [if_neg c3] at hF
    refine lv_aload_n hx hb dX8_test_14 rfl (lv_at hl 0 rfl) ?_
    refine va_get (D := D) (ci := 8) (v := .ref (a 16)) (C := RX8) (T := TX8) (N := 6) hx hb hts inlX8 hown hK hP 0 gC_0 rfl 3 (by decide) (hts _ mw_27) (fun _ h9 => h9) rfl dX8_test_15 ?_
    refine lv_iload_n hx hb dX8_test_18 rfl (lv_at hl 1 rfl) ?_
    obtain ⟨σ4, e5, hF⟩ := Option.bind_eq_some_iff.mp hF
    refine z_callVR (w' := (wC cyI cyZ a σ4)) (As := [.int x1]) (rest := []) ⟨hx, hb, hml, hown, hts⟩ (c_X5_formOf l D cyI cyZ a A p1.2 x1 σ4 e5) (cwV 1 hts (gd_V mw_578 mw_579 mw_580 mw_26 mw_581) rfl rfl rfl (by decide +kernel) ⟨Nat.le_of_ble_eq_true rfl, Nat.le_of_ble_eq_true rfl⟩) hK hN hP hD hS 5 16 rfl rfl gC_16 rfl hl.1 rfl (Nat.le_of_ble_eq_true rfl) dX8_test_19 ⟨Nat.zero_le _, Nat.zero_le _⟩ (fun H locs hP hD hS => ?_)
    refine lv_astore (lv' := [(4, .ref (a 17)), (0, .ref (a 0)), (1, .int x1), (2, .int x2), (3, .int x3)]) hx hb dX8_test_22 hl (by decide) rfl (fun ls hl => ?_)
    refine lv_iload_n hx hb dX8_test_24 rfl (lv_at hl 3 rfl) ?_
    refine lv_if_lt (tgt := 37) hx hb dX8_test_25 (by decide) (fun c6 => ?_) (fun c6 => ?_)
    · rw [if_pos c6] at hF
      refine lv_ldc (v := (-2000000 : Int32)) hx hb hown (hts _ mw_238) dX8_test_37 ?_
      cases hF
      exact z_iret hx hb hr hlocks hK hP hD hS dX8_test_39
    · rw [if_neg c6] at hF
      refine lv_iload_n hx hb dX8_test_28 rfl (lv_at hl 3 rfl) ?_
      refine lv_aload hx hb dX8_test_29 (lv_at hl 0 rfl) ?_
      refine z_callVI (w' := (wC cyI cyZ a σ4)) (As := []) (rest := [.int x2]) ⟨hx, hb, hml, hown, hts⟩ (c_X2_tests l D cyI cyZ a A σ4  _ rfl) (cwV 0 hts (gd_V mw_595 mw_596 mw_597 mw_71 mw_598) rfl rfl rfl (by decide +kernel) ⟨Nat.le_of_ble_eq_true rfl, Nat.le_of_ble_eq_true rfl⟩) hK hN hP hD hS 2 17 rfl rfl gC_17 rfl hl.1 rfl (Nat.le_of_ble_eq_true rfl) dX8_test_31 ⟨Nat.zero_le _, Nat.zero_le _⟩ (fun H locs hP hD hS => ?_)
      refine lv_icmp_lt (tgt := 40) hx hb dX8_test_34 (by decide) (fun c7 => ?_) (fun c7 => ?_)
      · rw [if_pos c7] at hF
        refine lv_iload_n hx hb dX8_test_40 rfl (lv_at hl 4 rfl) ?_
        by_cases c8 : x3 = (0 : Int32)
        · rw [if_pos c8] at hF
          refine lv_tableIn (off := 31) (tgt := 72) hx hb dX8_test_41 (by rw [c8]; decide) (by rw [c8]; decide) (by rw [c8]; rfl) (by decide) ?_
          refine lv_aload hx hb dX8_test_72 (lv_at hl 0 rfl) ?_
          refine lv_iload_n hx hb dX8_test_74 rfl (lv_at hl 3 rfl) ?_
          obtain ⟨v9, e10, hF⟩ := Option.bind_eq_some_iff.mp hF
          refine z_callVI (w' := (wC cyI cyZ a σ4)) (As := [.int x2]) (rest := []) ⟨hx, hb, hml, hown, hts⟩ (c_X2_tableOf l D cyI cyZ a A σ4 x2 _ e10) (cwV 1 hts (gd_V mw_675 mw_620 mw_621 mw_71 mw_622) rfl rfl rfl (by decide +kernel) ⟨Nat.le_of_ble_eq_true rfl, Nat.le_of_ble_eq_true rfl⟩) hK hN hP hD hS 2 17 rfl rfl gC_17 rfl hl.1 rfl (Nat.le_of_ble_eq_true rfl) dX8_test_75 ⟨Nat.zero_le _, Nat.zero_le _⟩ (fun H locs hP hD hS => ?_)
          cases hF
          exact z_iret hx hb hr hlocks hK hP hD hS dX8_test_78
        · rw [if_neg c8] at hF
          by_cases c11 : x3 = (1 : Int32)
          · rw [if_pos c11] at hF
            refine lv_tableIn (off := 38) (tgt := 79) hx hb dX8_test_41 (by rw [c11]; decide) (by rw [c11]; decide) (by rw [c11]; rfl) (by decide) ?_
            refine lv_aload hx hb dX8_test_79 (lv_at hl 0 rfl) ?_
            refine lv_iload_n hx hb dX8_test_81 rfl (lv_at hl 3 rfl) ?_
            obtain ⟨v12, e13, hF⟩ := Option.bind_eq_some_iff.mp hF
            refine z_callVI (w' := (wC cyI cyZ a σ4)) (As := [.int x2]) (rest := []) ⟨hx, hb, hml, hown, hts⟩ (c_X2_columnOf l D cyI cyZ a A σ4 x2 _ e13) (cwV 1 hts (gd_V mw_676 mw_624 mw_625 mw_71 mw_626) rfl rfl rfl (by decide +kernel) ⟨Nat.le_of_ble_eq_true rfl, Nat.le_of_ble_eq_true rfl⟩) hK hN hP hD hS 2 17 rfl rfl gC_17 rfl hl.1 rfl (Nat.le_of_ble_eq_true rfl) dX8_test_82 ⟨Nat.zero_le _, Nat.zero_le _⟩ (fun H locs hP hD hS => ?_)
            cases hF
            exact z_iret hx hb hr hlocks hK hP hD hS dX8_test_85
          · rw [if_neg c11] at hF
            by_cases c14 : x3 = (2 : Int32)
            · rw [if_pos c14] at hF
              refine lv_tableIn (off := 45) (tgt := 86) hx hb dX8_test_41 (by rw [c14]; decide) (by rw [c14]; decide) (by rw [c14]; rfl) (by decide) ?_
              refine lv_aload hx hb dX8_test_86 (lv_at hl 0 rfl) ?_
              refine lv_iload_n hx hb dX8_test_88 rfl (lv_at hl 3 rfl) ?_
              obtain ⟨v15, e16, hF⟩ := Option.bind_eq_some_iff.mp hF
              refine z_callVI (w' := (wC cyI cyZ a σ4)) (As := [.int x2]) (rest := []) ⟨hx, hb, hml, hown, hts⟩ (c_X2_thanOf l D cyI cyZ a A σ4 x2 _ e16) (cwV 1 hts (gd_V mw_677 mw_634 mw_635 mw_71 mw_636) rfl rfl rfl (by decide +kernel) ⟨Nat.le_of_ble_eq_true rfl, Nat.le_of_ble_eq_true rfl⟩) hK hN hP hD hS 2 17 rfl rfl gC_17 rfl hl.1 rfl (Nat.le_of_ble_eq_true rfl) dX8_test_89 ⟨Nat.zero_le _, Nat.zero_le _⟩ (fun H locs hP hD hS => ?_)
              cases hF
              exact z_iret hx hb hr hlocks hK hP hD hS dX8_test_92
            · rw [if_neg c14] at hF
              by_cases c17 : x3 = (3 : Int32)
              · rw [if_pos c17] at hF
                refine lv_tableIn (off := 52) (tgt := 93) hx hb dX8_test_41 (by rw [c17]; decide) (by rw [c17]; decide) (by rw [c17]; rfl) (by decide) ?_
                refine lv_aload hx hb dX8_test_93 (lv_at hl 0 rfl) ?_
                refine lv_iload_n hx hb dX8_test_95 rfl (lv_at hl 3 rfl) ?_
                obtain ⟨v18, e19, hF⟩ := Option.bind_eq_some_iff.mp hF
                refine z_callVI (w' := (wC cyI cyZ a σ4)) (As := [.int x2]) (rest := []) ⟨hx, hb, hml, hown, hts⟩ (c_X2_numberOf l D cyI cyZ a A σ4 x2 _ e19) (cwV 1 hts (gd_V mw_678 mw_638 mw_639 mw_71 mw_640) rfl rfl rfl (by decide +kernel) ⟨Nat.le_of_ble_eq_true rfl, Nat.le_of_ble_eq_true rfl⟩) hK hN hP hD hS 2 17 rfl rfl gC_17 rfl hl.1 rfl (Nat.le_of_ble_eq_true rfl) dX8_test_96 ⟨Nat.zero_le _, Nat.zero_le _⟩ (fun H locs hP hD hS => ?_)
                cases hF
                exact z_iret hx hb hr hlocks hK hP hD hS dX8_test_99
              · rw [if_neg c17] at hF
                refine lv_tableOut (tgt := 100) hx hb dX8_test_41 (z_notin4 c8 c11 c14 c17) (by decide) ?_
                refine lv_ldc (v := (-2000000 : Int32)) hx hb hown (hts _ mw_238) dX8_test_100 ?_
                cases hF
                exact z_iret hx hb hr hlocks hK hP hD hS dX8_test_102
      · rw [if_neg c7] at hF
        refine lv_ldc (v := (-2000000 : Int32)) hx hb hown (hts _ mw_238) dX8_test_37 ?_
        cases hF
        exact z_iret hx hb hr hlocks hK hP hD hS dX8_test_39
  · rw [if_pos c3] at hF
    refine lv_ldc (v := (-2000000 : Int32)) hx hb hown (hts _ mw_238) dX8_test_11 ?_
    cases hF
    exact z_iret hx hb hr hlocks hK hP hD hS dX8_test_13
abbrev ts_X8_answer : List Cond := .code yX8_answer cX8_answer 2 (some .int) :: wsL_law
set_option maxHeartbeats 4000000 in
set_option maxRecDepth 100000 in
theorem c_X8_answer (l : Launch) (D : va_G) (cyI cyZ : ClassId) (a : Nat → Nat) (A : Nat → Prop) (σ : Mem) (x1 : Int32) (r : Int32) (σ' : Mem) (hF : F_X8_answer σ x1 = some (r, σ')) : CtI l yX8_answer ts_X8_answer ({ frames := 6, cells := 0, slots := 0, locals := 137 } : Room) [.ref (a 0), .int x1] D cyI cyZ A (wC cyI cyZ a σ) (wC cyI cyZ a σ') r := by
  refine CtI.of (cc := cX8_answer) (maxL := 2) (ret := (some .int)) (by decide) rfl (Nat.le_of_ble_eq_true rfl) ?_
  intro p e s m below meth c ls hC hP hD hl
  obtain ⟨hx, hb, hr, hml, hown, hts, hK, hN, hlocks⟩ := hC
  have hown : s.vm.findClass RX8 = some m.cls := hown
  have hS : va_S A s.heap s.heap [] := va_S.rf
  have hl : lv_has ls 2 [(0, .ref (a 0)), (1, .int x1)] := hl
  unfold F_X8_answer at hF
  refine lv_aload_n hx hb dX8_answer_0 rfl (lv_at hl 0 rfl) ?_
  refine va_get (D := D) (ci := 8) (v := .ref (a 16)) (C := RX8) (T := TX8) (N := 6) hx hb hts inlX8 hown hK hP 0 gC_0 rfl 3 (by decide) (hts _ mw_27) (fun _ h9 => h9) rfl dX8_answer_1 ?_
  refine lv_iload_n hx hb dX8_answer_4 rfl (lv_at hl 1 rfl) ?_
  obtain ⟨p1, e2, hF⟩ := Option.bind_eq_some_iff.mp hF
  refine z_callVI (w' := (wC cyI cyZ a p1.2)) (As := [.int x1]) (rest := []) ⟨hx, hb, hml, hown, hts⟩ (c_X5_has l D cyI cyZ a A σ x1 p1.1 p1.2 e2) (cwV 1 hts (gd_V mw_566 mw_567 mw_568 mw_26 mw_569) rfl rfl rfl (by decide +kernel) ⟨Nat.le_of_ble_eq_true rfl, Nat.le_of_ble_eq_true rfl⟩) hK hN hP hD hS 5 16 rfl rfl gC_16 rfl hl.1 rfl (Nat.le_of_ble_eq_true rfl) dX8_answer_5 ⟨Nat.zero_le _, Nat.zero_le _⟩ (fun H locs hP hD hS => ?_)
  refine lv_if_eq (tgt := 29) hx hb dX8_answer_8 (by decide) (fun c3 => ?_) (fun c3 => ?_)
  · rw [if_pos c3] at hF
    refine lv_ldc (v := (-2000000 : Int32)) hx hb hown (hts _ mw_238) dX8_answer_29 ?_
    cases hF
    exact z_iret hx hb hr hlocks hK hP hD hS dX8_answer_31
  · rw [if_neg c3] at hF
    refine lv_aload_n hx hb dX8_answer_11 rfl (lv_at hl 0 rfl) ?_
    refine va_get (D := D) (ci := 8) (v := .ref (a 27)) (C := RX8) (T := TX8) (N := 6) hx hb hts inlX8 hown hK hP 0 gC_0 rfl 4 (by decide) (hts _ mw_31) (fun _ h9 => h9) rfl dX8_answer_12 ?_
    refine lv_aload_n hx hb dX8_answer_15 rfl (lv_at hl 0 rfl) ?_
    refine va_get (D := D) (ci := 8) (v := .ref (a 16)) (C := RX8) (T := TX8) (N := 6) hx hb hts inlX8 hown hK hP 0 gC_0 rfl 3 (by decide) (hts _ mw_27) (fun _ h9 => h9) rfl dX8_answer_16 ?_
    refine lv_iload_n hx hb dX8_answer_19 rfl (lv_at hl 1 rfl) ?_
    obtain ⟨σ4, e5, hF⟩ := Option.bind_eq_some_iff.mp hF
    refine z_callVR (w' := (wC cyI cyZ a σ4)) (As := [.int x1]) (rest := [.ref (a 27)]) ⟨hx, hb, hml, hown, hts⟩ (c_X5_formOf l D cyI cyZ a A p1.2 x1 σ4 e5) (cwV 1 hts (gd_V mw_578 mw_579 mw_580 mw_26 mw_581) rfl rfl rfl (by decide +kernel) ⟨Nat.le_of_ble_eq_true rfl, Nat.le_of_ble_eq_true rfl⟩) hK hN hP hD hS 5 16 rfl rfl gC_16 rfl hl.1 rfl (Nat.le_of_ble_eq_true rfl) dX8_answer_20 ⟨Nat.zero_le _, Nat.zero_le _⟩ (fun H locs hP hD hS => ?_)
    obtain ⟨p6, e7, hF⟩ := Option.bind_eq_some_iff.mp hF
    refine z_callVI (w' := (wC cyI cyZ a p6.2)) (As := [.ref (a 17)]) (rest := []) ⟨hx, hb, hml, hown, hts⟩ (c_X1_answerOf l D cyI cyZ a A σ4  p6.1 p6.2 e7) (cwV 1 hts (gd_V mw_687 mw_688 mw_689 mw_30 mw_690) rfl rfl rfl (by decide +kernel) ⟨Nat.le_of_ble_eq_true rfl, Nat.le_of_ble_eq_true rfl⟩) hK hN hP hD hS 1 27 rfl rfl gC_27 rfl hl.1 rfl (Nat.le_of_ble_eq_true rfl) dX8_answer_23 ⟨Nat.zero_le _, Nat.zero_le _⟩ (fun H locs hP hD hS => ?_)
    refine lv_goto (tgt := 31) hx hb dX8_answer_26 (by decide) ?_
    cases hF
    exact z_iret hx hb hr hlocks hK hP hD hS dX8_answer_31
