def f_X6_region (n_row : Nat) (g_width : Int32) (g_size : Int32) (g_all : Int64) (g_notFirstColumn : Int64) (g_notLastColumn : Int64) (row_latest : Int32) (bl : Nat → Int64) (wh : Nat → Int64) (a0 : Int32) (a1 : Int32) (a2 : Int32) : Option (Int32) :=
  (f_X6_isColour a0).bind fun q1 =>
  if q1 = 0 then (
    some ((-2 : Int32))
  )
  else (
    (f_X2_has g_size a1).bind fun q3 =>
    if q3 = 0 then (
      some ((-2 : Int32))
    )
    else (
      if a2 < 0 then (
        some ((-2 : Int32))
      )
      else (
        if a2 ≤ (4 : Int32) then (
          (f_X4_colourAt n_row row_latest bl wh a1).bind fun q7 =>
          if q7 = a0 then (
            some ((-3 : Int32))
          )
          else (
            (f_X4_stonesOf n_row row_latest bl wh a0).bind fun q9 =>
            (f_X2_spread g_width g_all g_notFirstColumn g_notLastColumn (jshl (1 : Int64) a1) (g_all &&& (q9 ^^^ (-1 : Int64)))).bind fun q10 =>
            if a2 = 0 then (
              (f_J13_bitCount_95d88 q10).bind fun q12 =>
              some (q12)
            )
            else (
            if a2 = 1 then (
              (f_X4_free n_row row_latest g_all bl wh).bind fun q14 =>
              (f_J13_bitCount_95d88 (q10 &&& q14)).bind fun q15 =>
              some (q15)
            )
            else (
            if a2 = 2 then (
              (f_X3_groupsTouched g_width g_size g_all g_notFirstColumn g_notLastColumn q10 q9).bind fun q17 =>
              some (q17)
            )
            else (
            if a2 = 3 then (
              (f_X4_free n_row row_latest g_all bl wh).bind fun q19 =>
              (f_X3_groupsItIsVitalTo g_width g_size g_all g_notFirstColumn g_notLastColumn q10 q9 q19).bind fun q20 =>
              some (q20)
            )
            else (
            (f_X2_nth g_size q10 (0 : Int32)).bind fun q22 =>
            some (q22)))))
          )
        )
        else (
          some ((-2 : Int32))
        )
      )
    )
  )

abbrev rm_X6_region : Room := { frames := 4, cells := 0, slots := 0, locals := 110 }
set_option maxHeartbeats 4000000 in
set_option maxRecDepth 100000 in
theorem c_X6_region (l : Launch) (dC : Nat → ClassId) (dI : Nat → Nat → Nat) (h_eb h_g h_row h_bl h_wh h_ac h_life h_t h_ch h_hrow h_hbl h_hwh h_hac h_fi : Nat) (c_bl c_wh c_ac c_hbl c_hwh c_hac : ClassId) (n_row n_hrow : Nat) (eb_winningAct g_width g_height g_size : Int32) (g_all g_notFirstColumn g_notLastColumn : Int64) (row_law row_latest row_opener : Int32) (row_blackThen row_whiteThen : Int64) (bl wh : Nat → Int64) (ac : Nat → Int32) (t_made ch_target ch_chased hrow_law hrow_latest hrow_opener : Int32) (hrow_blackThen hrow_whiteThen : Int64) (hbl hwh : Nat → Int64) (hac : Nat → Int32) (fi_target fi_attacked fi_decidingAct : Int32) (a0 : Int32) (a1 : Int32) (a2 : Int32) (q : Int32) (hr : f_X6_region n_row g_width g_size g_all g_notFirstColumn g_notLastColumn row_latest bl wh a0 a1 a2 = some q) : Met l yX6_region wsX6_region rm_X6_region (PrP (dC, dI) (wd_X6 h_eb h_g h_row h_bl h_wh h_ac h_life h_t h_ch h_hrow h_hbl h_hwh h_hac h_fi c_bl c_wh c_ac c_hbl c_hwh c_hac n_row n_hrow eb_winningAct g_width g_height g_size g_all g_notFirstColumn g_notLastColumn row_law row_latest row_opener row_blackThen row_whiteThen bl wh ac t_made ch_target ch_chased hrow_law hrow_latest hrow_opener hrow_blackThen hrow_whiteThen hbl hwh hac fi_target fi_attacked fi_decidingAct) (td_X6 c_bl c_wh c_ac c_hbl c_hwh c_hac) [.ref h_eb, .int a0, .int a1, .int a2]) (vp_Si (fun x => x = q)) 0 0 (fun _ => False) := by
  refine mkP_i (cc := cX6_region) (nL := 8) (by decide) rfl (Nat.le_of_ble_eq_true rfl) ?_
  intro p e R s m args below meth c H Q ls hRf hRl S hN hP hK hl kret
  have hl : lv_has ls 8 [(0, .ref h_eb), (1, .int a0), (2, .int a1), (3, .int a2)] := hl
  obtain ⟨hx, hb, hml, hown, hts⟩ := S
  have hown : s.vm.findClass RX6 = some m.cls := hown
  have S : CallFix p m c cX6_region 8 s args wsX6_region RX6 := ⟨hx, hb, hml, hown, hts⟩
  have huX6 : ∀ w ∈ u_ws RX6 TX6 7, w ∈ wsX6_region := by decide +kernel
  have hf12 := hts (.fieldLink RX6 12 "EyeBoard" "grid" "LEyeBoard$Grid;") (by decide +kernel)
  have hf25 := hts (.fieldLink RX6 25 "EyeBoard" "row" "LEyeBoard$Row;") (by decide +kernel)
  have huX2 : ∀ w ∈ u_ws RX2 TX2 6, w ∈ wsX6_region := by decide +kernel
  have hf88 := hts (.fieldLink RX6 88 "EyeBoard$Grid" "all" "J") (by decide +kernel)
  have hk86 := hts (.constantLong RX6 86 (-1 : Int64)) (by decide +kernel)
  have hf38 := hts (.fieldLink RX6 38 "EyeBoard" "life" "LEyeBoard$Life;") (by decide +kernel)
  unfold f_X6_region at hr
  refine lv_iload_n hx hb dX6_region_0 rfl (lv_at hl 1 rfl) ?_
  obtain ⟨q1, hq1, hr⟩ := bd_use hr
  refine pcS_i (As := [.int a0]) (rest := []) S (c_X6_isColour l dC dI a0 q1 hq1) (va_cwS 1 hts gX6_region_X6_isColour rfl rfl rfl (by decide +kernel) ⟨Nat.le_trans (m := rm_X6_region.frames) (by decide) hRf, Nat.le_trans (m := rm_X6_region.locals) (by decide) hRl⟩) hN hP hK ⟨Nat.zero_le _, Nat.zero_le _⟩ rfl hl.1 rfl (Nat.le_of_ble_eq_true rfl) dX6_region_1 ?_
  refine lv_if_eq (tgt := 27) hx hb dX6_region_4 (by decide) (fun c2 => ?_) (fun c2 => ?_)
  · have hr := ite_p hr c2
    refine lv_bipush (v := (-2 : Int32)) hx hb dX6_region_27 (by decide) ?_
    obtain rfl := Option.some.inj hr
    exact kret _ _ dX6_region_29
  · have hr := ite_n hr c2
    refine lv_aload_n hx hb dX6_region_7 rfl (lv_at hl 0 rfl) ?_
    refine va_get (D := (dC, dI)) (ci := 6) (v := .ref h_g) (C := RX6) (T := TX6) (N := 7) hx hb hts huX6 hown hK hP 0 rfl rfl 0 (by decide) hf12 (fun _ h9 => h9) rfl dX6_region_8 ?_
    refine lv_iload_n hx hb dX6_region_11 rfl (lv_at hl 2 rfl) ?_
    obtain ⟨q3, hq3, hr⟩ := bd_use hr
    refine pcV_i (As := [.int a1]) (rest := []) S (c_X2_has l dC dI h_g g_width g_height g_size g_all g_notFirstColumn g_notLastColumn a1 q3 hq3) (cwV 1 hts gX6_region_X2_has rfl rfl rfl (by decide +kernel) ⟨Nat.le_trans (m := rm_X6_region.frames) (by decide) hRf, Nat.le_trans (m := rm_X6_region.locals) (by decide) hRl⟩) hN hP hK ⟨Nat.zero_le _, Nat.zero_le _⟩ [1] rfl [] rfl 1 2 rfl rfl rfl hl.1 rfl (Nat.le_of_ble_eq_true rfl) dX6_region_12 ?_
    refine lv_if_eq (tgt := 27) hx hb dX6_region_15 (by decide) (fun c4 => ?_) (fun c4 => ?_)
    · have hr := ite_p hr c4
      refine lv_bipush (v := (-2 : Int32)) hx hb dX6_region_27 (by decide) ?_
      obtain rfl := Option.some.inj hr
      exact kret _ _ dX6_region_29
    · have hr := ite_n hr c4
      refine lv_iload_n hx hb dX6_region_18 rfl (lv_at hl 3 rfl) ?_
      refine lv_if_lt (tgt := 27) hx hb dX6_region_19 (by decide) (fun c5 => ?_) (fun c5 => ?_)
      · have hr := ite_p hr c5
        refine lv_bipush (v := (-2 : Int32)) hx hb dX6_region_27 (by decide) ?_
        obtain rfl := Option.some.inj hr
        exact kret _ _ dX6_region_29
      · have hr := ite_n hr c5
        refine lv_iload_n hx hb dX6_region_22 rfl (lv_at hl 3 rfl) ?_
        refine lv_iconst (v := (4 : Int32)) hx hb dX6_region_23 (by decide) ?_
        refine lv_icmp_le (tgt := 30) hx hb dX6_region_24 (by decide) (fun c6 => ?_) (fun c6 => ?_)
        · have hr := ite_p hr c6
          refine lv_aload_n hx hb dX6_region_30 rfl (lv_at hl 0 rfl) ?_
          refine va_get (D := (dC, dI)) (ci := 6) (v := .ref h_row) (C := RX6) (T := TX6) (N := 7) hx hb hts huX6 hown hK hP 0 rfl rfl 1 (by decide) hf25 (fun _ h9 => h9) rfl dX6_region_31 ?_
          refine lv_iload_n hx hb dX6_region_34 rfl (lv_at hl 2 rfl) ?_
          obtain ⟨q7, hq7, hr⟩ := bd_use hr
          refine pcV_i (As := [.int a1]) (rest := []) S (c_X4_colourAt l dC dI h_row h_g h_bl h_wh h_ac c_bl c_wh c_ac n_row row_law row_latest row_opener row_blackThen row_whiteThen g_width g_height g_size g_all g_notFirstColumn g_notLastColumn bl wh ac a1 q7 hq7) (cwV 1 hts gX6_region_X4_colourAt rfl rfl rfl (by decide +kernel) ⟨Nat.le_trans (m := rm_X6_region.frames) (by decide) hRf, Nat.le_trans (m := rm_X6_region.locals) (by decide) hRl⟩) hN hP hK ⟨Nat.zero_le _, Nat.zero_le _⟩ [2, 1, 3, 4, 5] rfl [0, 1, 2] rfl 2 4 rfl rfl rfl hl.1 rfl (Nat.le_of_ble_eq_true rfl) dX6_region_35 ?_
          refine lv_iload_n hx hb dX6_region_38 rfl (lv_at hl 1 rfl) ?_
          refine lv_icmp_ne (tgt := 45) hx hb dX6_region_39 (by decide) (fun c8 => ?_) (fun c8 => ?_)
          · have hr := ite_n hr c8
            refine lv_aload_n hx hb dX6_region_45 rfl (lv_at hl 0 rfl) ?_
            refine va_get (D := (dC, dI)) (ci := 6) (v := .ref h_row) (C := RX6) (T := TX6) (N := 7) hx hb hts huX6 hown hK hP 0 rfl rfl 1 (by decide) hf25 (fun _ h9 => h9) rfl dX6_region_46 ?_
            refine lv_iload_n hx hb dX6_region_49 rfl (lv_at hl 1 rfl) ?_
            obtain ⟨q9, hq9, hr⟩ := bd_use hr
            refine pcV_l (As := [.int a0]) (rest := []) S (c_X4_stonesOf l dC dI h_row h_g h_bl h_wh h_ac c_bl c_wh c_ac n_row row_law row_latest row_opener row_blackThen row_whiteThen g_width g_height g_size g_all g_notFirstColumn g_notLastColumn bl wh ac a0 q9 hq9) (cwV 1 hts gX6_region_X4_stonesOf rfl rfl rfl (by decide +kernel) ⟨Nat.le_trans (m := rm_X6_region.frames) (by decide) hRf, Nat.le_trans (m := rm_X6_region.locals) (by decide) hRl⟩) hN hP hK ⟨Nat.zero_le _, Nat.zero_le _⟩ [2, 1, 3, 4, 5] rfl [0, 1, 2] rfl 2 4 rfl rfl rfl hl.1 rfl (Nat.le_of_ble_eq_true rfl) dX6_region_50 ?_
            refine lv_lstore (lv' := [(4, .long q9), (0, .ref h_eb), (1, .int a0), (2, .int a1), (3, .int a2)]) hx hb dX6_region_53 hl (by decide) rfl (fun ls hl => ?_)
            refine lv_aload_n hx hb dX6_region_55 rfl (lv_at hl 1 rfl) ?_
            refine va_get (D := (dC, dI)) (ci := 6) (v := .ref h_g) (C := RX6) (T := TX6) (N := 7) hx hb hts huX6 hown hK hP 0 rfl rfl 0 (by decide) hf12 (fun _ h9 => h9) rfl dX6_region_56 ?_
            refine lv_lconst (v := (1 : Int64)) hx hb dX6_region_59 (by decide) ?_
            refine lv_iload_n hx hb dX6_region_60 rfl (lv_at hl 3 rfl) ?_
            refine lv_lshl (v := jshl (1 : Int64) a1) hx hb dX6_region_61 rfl ?_
            refine lv_aload_n hx hb dX6_region_62 rfl (lv_at hl 1 rfl) ?_
            refine va_get (D := (dC, dI)) (ci := 6) (v := .ref h_g) (C := RX6) (T := TX6) (N := 7) hx hb hts huX6 hown hK hP 0 rfl rfl 0 (by decide) hf12 (fun _ h9 => h9) rfl dX6_region_63 ?_
            refine va_get (D := (dC, dI)) (ci := 2) (v := .long g_all) (C := RX2) (T := TX2) (N := 6) hx hb hts huX2 hown hK hP 1 rfl rfl 3 (by decide) hf88 (fun _ h9 => h9) rfl dX6_region_66 ?_
            refine lv_lload hx hb dX6_region_69 (lv_at hl 0 rfl) ?_
            refine W.ldc2 (v := (-1 : Int64)) hx hb hown hk86 rfl dX6_region_71 ?_
            refine W.eq (g2 := F0 m 74 ls [.long (-1 : Int64), .long q9, .long g_all, .long (jshl (1 : Int64) a1), .ref h_g]) rfl ?_
            refine lv_lxor hx hb dX6_region_74 ?_
            refine lv_land hx hb dX6_region_75 ?_
            obtain ⟨q10, hq10, hr⟩ := bd_use hr
            refine pcV_l (As := [.long (jshl (1 : Int64) a1), .long (g_all &&& (q9 ^^^ (-1 : Int64)))]) (rest := []) S (c_X2_spread l dC dI h_g g_width g_height g_size g_all g_notFirstColumn g_notLastColumn (jshl (1 : Int64) a1) (g_all &&& (q9 ^^^ (-1 : Int64))) q10 hq10) (cwV 2 hts gX6_region_X2_spread rfl rfl rfl (by decide +kernel) ⟨Nat.le_trans (m := rm_X6_region.frames) (by decide) hRf, Nat.le_trans (m := rm_X6_region.locals) (by decide) hRl⟩) hN hP hK ⟨Nat.zero_le _, Nat.zero_le _⟩ [1] rfl [] rfl 1 2 rfl rfl rfl hl.1 rfl (Nat.le_of_ble_eq_true rfl) dX6_region_76 ?_
            refine lv_lstore (lv' := [(6, .long q10), (4, .long q9), (0, .ref h_eb), (1, .int a0), (2, .int a1), (3, .int a2)]) hx hb dX6_region_79 hl (by decide) rfl (fun ls hl => ?_)
            refine lv_iload_n hx hb dX6_region_81 rfl (lv_at hl 5 rfl) ?_
            by_cases c11 : a2 = 0
            · have hr := ite_p hr c11
              refine lv_tableIn (off := 30) (tgt := 112) hx hb dX6_region_82 (by rw [c11]; decide) (by rw [c11]; decide) (by rw [c11]; rfl) (by decide) ?_
              refine lv_lload hx hb dX6_region_112 (lv_at hl 0 rfl) ?_
              obtain ⟨q12, hq12, hr⟩ := bd_use hr
              refine pcS_i (As := [.long q10]) (rest := []) S (c_J13_bitCount_95d88 l dC dI q10 q12 hq12) (va_cwS 1 hts gX6_region_J13_bitCount_95d88 rfl rfl rfl (by decide +kernel) ⟨Nat.le_trans (m := rm_X6_region.frames) (by decide) hRf, Nat.le_trans (m := rm_X6_region.locals) (by decide) hRl⟩) hN hP hK ⟨Nat.zero_le _, Nat.zero_le _⟩ rfl hl.1 rfl (Nat.le_of_ble_eq_true rfl) dX6_region_114 ?_
              obtain rfl := Option.some.inj hr
              exact kret _ _ dX6_region_117
            have hr := ite_n hr c11
            by_cases c13 : a2 = 1
            · have hr := ite_p hr c13
              refine lv_tableIn (off := 36) (tgt := 118) hx hb dX6_region_82 (by rw [c13]; decide) (by rw [c13]; decide) (by rw [c13]; rfl) (by decide) ?_
              refine lv_lload hx hb dX6_region_118 (lv_at hl 0 rfl) ?_
              refine lv_aload_n hx hb dX6_region_120 rfl (lv_at hl 2 rfl) ?_
              refine va_get (D := (dC, dI)) (ci := 6) (v := .ref h_row) (C := RX6) (T := TX6) (N := 7) hx hb hts huX6 hown hK hP 0 rfl rfl 1 (by decide) hf25 (fun _ h9 => h9) rfl dX6_region_121 ?_
              obtain ⟨q14, hq14, hr⟩ := bd_use hr
              refine pcV_l (As := []) (rest := [.long q10]) S (c_X4_free l dC dI h_row h_g h_bl h_wh h_ac c_bl c_wh c_ac n_row row_law row_latest row_opener row_blackThen row_whiteThen g_width g_height g_size g_all g_notFirstColumn g_notLastColumn bl wh ac q14 hq14) (cwV 0 hts gX6_region_X4_free rfl rfl rfl (by decide +kernel) ⟨Nat.le_trans (m := rm_X6_region.frames) (by decide) hRf, Nat.le_trans (m := rm_X6_region.locals) (by decide) hRl⟩) hN hP hK ⟨Nat.zero_le _, Nat.zero_le _⟩ [2, 1, 3, 4, 5] rfl [0, 1, 2] rfl 2 4 rfl rfl rfl hl.1 rfl (Nat.le_of_ble_eq_true rfl) dX6_region_124 ?_
              refine lv_land hx hb dX6_region_127 ?_
              obtain ⟨q15, hq15, hr⟩ := bd_use hr
              refine pcS_i (As := [.long (q10 &&& q14)]) (rest := []) S (c_J13_bitCount_95d88 l dC dI (q10 &&& q14) q15 hq15) (va_cwS 1 hts gX6_region_J13_bitCount_95d88 rfl rfl rfl (by decide +kernel) ⟨Nat.le_trans (m := rm_X6_region.frames) (by decide) hRf, Nat.le_trans (m := rm_X6_region.locals) (by decide) hRl⟩) hN hP hK ⟨Nat.zero_le _, Nat.zero_le _⟩ rfl hl.1 rfl (Nat.le_of_ble_eq_true rfl) dX6_region_128 ?_
              obtain rfl := Option.some.inj hr
              exact kret _ _ dX6_region_131
            have hr := ite_n hr c13
            by_cases c16 : a2 = 2
            · have hr := ite_p hr c16
              refine lv_tableIn (off := 50) (tgt := 132) hx hb dX6_region_82 (by rw [c16]; decide) (by rw [c16]; decide) (by rw [c16]; rfl) (by decide) ?_
              refine lv_aload_n hx hb dX6_region_132 rfl (lv_at hl 2 rfl) ?_
              refine va_get (D := (dC, dI)) (ci := 6) (v := .ref h_life) (C := RX6) (T := TX6) (N := 7) hx hb hts huX6 hown hK hP 0 rfl rfl 2 (by decide) hf38 (fun _ h9 => h9) rfl dX6_region_133 ?_
              refine lv_lload hx hb dX6_region_136 (lv_at hl 0 rfl) ?_
              refine lv_lload hx hb dX6_region_138 (lv_at hl 1 rfl) ?_
              obtain ⟨q17, hq17, hr⟩ := bd_use hr
              refine pcV_i (As := [.long q10, .long q9]) (rest := []) S (c_X3_groupsTouched l dC dI h_life h_g g_width g_height g_size g_all g_notFirstColumn g_notLastColumn q10 q9 q17 hq17) (cwV 2 hts gX6_region_X3_groupsTouched rfl rfl rfl (by decide +kernel) ⟨Nat.le_trans (m := rm_X6_region.frames) (by decide) hRf, Nat.le_trans (m := rm_X6_region.locals) (by decide) hRl⟩) hN hP hK ⟨Nat.zero_le _, Nat.zero_le _⟩ [6, 1] rfl [] rfl 6 3 rfl rfl rfl hl.1 rfl (Nat.le_of_ble_eq_true rfl) dX6_region_140 ?_
              obtain rfl := Option.some.inj hr
              exact kret _ _ dX6_region_143
            have hr := ite_n hr c16
            by_cases c18 : a2 = 3
            · have hr := ite_p hr c18
              refine lv_tableIn (off := 62) (tgt := 144) hx hb dX6_region_82 (by rw [c18]; decide) (by rw [c18]; decide) (by rw [c18]; rfl) (by decide) ?_
              refine lv_aload_n hx hb dX6_region_144 rfl (lv_at hl 2 rfl) ?_
              refine va_get (D := (dC, dI)) (ci := 6) (v := .ref h_life) (C := RX6) (T := TX6) (N := 7) hx hb hts huX6 hown hK hP 0 rfl rfl 2 (by decide) hf38 (fun _ h9 => h9) rfl dX6_region_145 ?_
              refine lv_lload hx hb dX6_region_148 (lv_at hl 0 rfl) ?_
              refine lv_lload hx hb dX6_region_150 (lv_at hl 1 rfl) ?_
              refine lv_aload_n hx hb dX6_region_152 rfl (lv_at hl 2 rfl) ?_
              refine va_get (D := (dC, dI)) (ci := 6) (v := .ref h_row) (C := RX6) (T := TX6) (N := 7) hx hb hts huX6 hown hK hP 0 rfl rfl 1 (by decide) hf25 (fun _ h9 => h9) rfl dX6_region_153 ?_
              obtain ⟨q19, hq19, hr⟩ := bd_use hr
              refine pcV_l (As := []) (rest := [.long q9, .long q10, .ref h_life]) S (c_X4_free l dC dI h_row h_g h_bl h_wh h_ac c_bl c_wh c_ac n_row row_law row_latest row_opener row_blackThen row_whiteThen g_width g_height g_size g_all g_notFirstColumn g_notLastColumn bl wh ac q19 hq19) (cwV 0 hts gX6_region_X4_free rfl rfl rfl (by decide +kernel) ⟨Nat.le_trans (m := rm_X6_region.frames) (by decide) hRf, Nat.le_trans (m := rm_X6_region.locals) (by decide) hRl⟩) hN hP hK ⟨Nat.zero_le _, Nat.zero_le _⟩ [2, 1, 3, 4, 5] rfl [0, 1, 2] rfl 2 4 rfl rfl rfl hl.1 rfl (Nat.le_of_ble_eq_true rfl) dX6_region_156 ?_
              obtain ⟨q20, hq20, hr⟩ := bd_use hr
              refine pcV_i (As := [.long q10, .long q9, .long q19]) (rest := []) S (c_X3_groupsItIsVitalTo l dC dI h_life h_g g_width g_height g_size g_all g_notFirstColumn g_notLastColumn q10 q9 q19 q20 hq20) (cwV 3 hts gX6_region_X3_groupsItIsVitalTo rfl rfl rfl (by decide +kernel) ⟨Nat.le_trans (m := rm_X6_region.frames) (by decide) hRf, Nat.le_trans (m := rm_X6_region.locals) (by decide) hRl⟩) hN hP hK ⟨Nat.zero_le _, Nat.zero_le _⟩ [6, 1] rfl [] rfl 6 3 rfl rfl rfl hl.1 rfl (Nat.le_of_ble_eq_true rfl) dX6_region_159 ?_
              obtain rfl := Option.some.inj hr
              exact kret _ _ dX6_region_162
            have hr := ite_n hr c18
            have ht21 : a2.toInt < 0 ∨ 3 < a2.toInt := by
              have e0 : ¬ a2.toInt = 0 := tb_ne c11
              have e1 : ¬ a2.toInt = 1 := tb_ne c13
              have e2 : ¬ a2.toInt = 2 := tb_ne c16
              have e3 : ¬ a2.toInt = 3 := tb_ne c18
              omega
            refine lv_tableOut (tgt := 163) hx hb dX6_region_82 ht21 (by decide) ?_
            refine lv_aload_n hx hb dX6_region_163 rfl (lv_at hl 2 rfl) ?_
            refine va_get (D := (dC, dI)) (ci := 6) (v := .ref h_g) (C := RX6) (T := TX6) (N := 7) hx hb hts huX6 hown hK hP 0 rfl rfl 0 (by decide) hf12 (fun _ h9 => h9) rfl dX6_region_164 ?_
            refine lv_lload hx hb dX6_region_167 (lv_at hl 0 rfl) ?_
            refine lv_iconst (v := (0 : Int32)) hx hb dX6_region_169 (by decide) ?_
            obtain ⟨q22, hq22, hr⟩ := bd_use hr
            refine pcV_i (As := [.long q10, .int (0 : Int32)]) (rest := []) S (c_X2_nth l dC dI h_g g_width g_height g_size g_all g_notFirstColumn g_notLastColumn q10 (0 : Int32) q22 hq22) (cwV 2 hts gX6_region_X2_nth rfl rfl rfl (by decide +kernel) ⟨Nat.le_trans (m := rm_X6_region.frames) (by decide) hRf, Nat.le_trans (m := rm_X6_region.locals) (by decide) hRl⟩) hN hP hK ⟨Nat.zero_le _, Nat.zero_le _⟩ [1] rfl [] rfl 1 2 rfl rfl rfl hl.1 rfl (Nat.le_of_ble_eq_true rfl) dX6_region_170 ?_
            obtain rfl := Option.some.inj hr
            exact kret _ _ dX6_region_173
          · have hr := ite_p hr c8
            refine lv_bipush (v := (-3 : Int32)) hx hb dX6_region_42 (by decide) ?_
            obtain rfl := Option.some.inj hr
            exact kret _ _ dX6_region_44
        · have hr := ite_n hr c6
          refine lv_bipush (v := (-2 : Int32)) hx hb dX6_region_27 (by decide) ?_
          obtain rfl := Option.some.inj hr
          exact kret _ _ dX6_region_29

def f_X6_standing (n_row : Nat) (g_width : Int32) (g_size : Int32) (g_all : Int64) (g_notFirstColumn : Int64) (g_notLastColumn : Int64) (row_latest : Int32) (bl : Nat → Int64) (wh : Nat → Int64) (a0 : Int32) : Option (Int32) :=
  (f_X6_isColour a0).bind fun q1 =>
  if q1 = 0 then (
    some ((-2 : Int32))
  )
  else (
    (f_X4_stonesOf n_row row_latest bl wh a0).bind fun q3 =>
    (f_X4_free n_row row_latest g_all bl wh).bind fun q4 =>
    (f_X3_standingStones g_width g_size g_all g_notFirstColumn g_notLastColumn q3 q4).bind fun q5 =>
    (f_J13_bitCount_95d88 q5).bind fun q6 =>
    some (q6)
  )

abbrev rm_X6_standing : Room := { frames := 6, cells := 0, slots := 0, locals := 172 }
set_option maxHeartbeats 4000000 in
set_option maxRecDepth 100000 in
theorem c_X6_standing (l : Launch) (dC : Nat → ClassId) (dI : Nat → Nat → Nat) (h_eb h_g h_row h_bl h_wh h_ac h_life h_t h_ch h_hrow h_hbl h_hwh h_hac h_fi : Nat) (c_bl c_wh c_ac c_hbl c_hwh c_hac : ClassId) (n_row n_hrow : Nat) (eb_winningAct g_width g_height g_size : Int32) (g_all g_notFirstColumn g_notLastColumn : Int64) (row_law row_latest row_opener : Int32) (row_blackThen row_whiteThen : Int64) (bl wh : Nat → Int64) (ac : Nat → Int32) (t_made ch_target ch_chased hrow_law hrow_latest hrow_opener : Int32) (hrow_blackThen hrow_whiteThen : Int64) (hbl hwh : Nat → Int64) (hac : Nat → Int32) (fi_target fi_attacked fi_decidingAct : Int32) (a0 : Int32) (q : Int32) (hr : f_X6_standing n_row g_width g_size g_all g_notFirstColumn g_notLastColumn row_latest bl wh a0 = some q) : Met l yX6_standing wsX6_standing rm_X6_standing (PrP (dC, dI) (wd_X6 h_eb h_g h_row h_bl h_wh h_ac h_life h_t h_ch h_hrow h_hbl h_hwh h_hac h_fi c_bl c_wh c_ac c_hbl c_hwh c_hac n_row n_hrow eb_winningAct g_width g_height g_size g_all g_notFirstColumn g_notLastColumn row_law row_latest row_opener row_blackThen row_whiteThen bl wh ac t_made ch_target ch_chased hrow_law hrow_latest hrow_opener hrow_blackThen hrow_whiteThen hbl hwh hac fi_target fi_attacked fi_decidingAct) (td_X6 c_bl c_wh c_ac c_hbl c_hwh c_hac) [.ref h_eb, .int a0]) (vp_Si (fun x => x = q)) 0 0 (fun _ => False) := by
  refine mkP_i (cc := cX6_standing) (nL := 2) (by decide) rfl (Nat.le_of_ble_eq_true rfl) ?_
  intro p e R s m args below meth c H Q ls hRf hRl S hN hP hK hl kret
  have hl : lv_has ls 2 [(0, .ref h_eb), (1, .int a0)] := hl
  obtain ⟨hx, hb, hml, hown, hts⟩ := S
  have hown : s.vm.findClass RX6 = some m.cls := hown
  have S : CallFix p m c cX6_standing 2 s args wsX6_standing RX6 := ⟨hx, hb, hml, hown, hts⟩
  have huX6 : ∀ w ∈ u_ws RX6 TX6 7, w ∈ wsX6_standing := by decide +kernel
  have hf38 := hts (.fieldLink RX6 38 "EyeBoard" "life" "LEyeBoard$Life;") (by decide +kernel)
  have hf25 := hts (.fieldLink RX6 25 "EyeBoard" "row" "LEyeBoard$Row;") (by decide +kernel)
  unfold f_X6_standing at hr
  refine lv_iload_n hx hb dX6_standing_0 rfl (lv_at hl 1 rfl) ?_
  obtain ⟨q1, hq1, hr⟩ := bd_use hr
  refine pcS_i (As := [.int a0]) (rest := []) S (c_X6_isColour l dC dI a0 q1 hq1) (va_cwS 1 hts gX6_standing_X6_isColour rfl rfl rfl (by decide +kernel) ⟨Nat.le_trans (m := rm_X6_standing.frames) (by decide) hRf, Nat.le_trans (m := rm_X6_standing.locals) (by decide) hRl⟩) hN hP hK ⟨Nat.zero_le _, Nat.zero_le _⟩ rfl hl.1 rfl (Nat.le_of_ble_eq_true rfl) dX6_standing_1 ?_
  refine lv_if_eq (tgt := 35) hx hb dX6_standing_4 (by decide) (fun c2 => ?_) (fun c2 => ?_)
  · have hr := ite_p hr c2
    refine lv_bipush (v := (-2 : Int32)) hx hb dX6_standing_35 (by decide) ?_
    obtain rfl := Option.some.inj hr
    exact kret _ _ dX6_standing_37
  · have hr := ite_n hr c2
    refine lv_aload_n hx hb dX6_standing_7 rfl (lv_at hl 0 rfl) ?_
    refine va_get (D := (dC, dI)) (ci := 6) (v := .ref h_life) (C := RX6) (T := TX6) (N := 7) hx hb hts huX6 hown hK hP 0 rfl rfl 2 (by decide) hf38 (fun _ h9 => h9) rfl dX6_standing_8 ?_
    refine lv_aload_n hx hb dX6_standing_11 rfl (lv_at hl 0 rfl) ?_
    refine va_get (D := (dC, dI)) (ci := 6) (v := .ref h_row) (C := RX6) (T := TX6) (N := 7) hx hb hts huX6 hown hK hP 0 rfl rfl 1 (by decide) hf25 (fun _ h9 => h9) rfl dX6_standing_12 ?_
    refine lv_iload_n hx hb dX6_standing_15 rfl (lv_at hl 1 rfl) ?_
    obtain ⟨q3, hq3, hr⟩ := bd_use hr
    refine pcV_l (As := [.int a0]) (rest := [.ref h_life]) S (c_X4_stonesOf l dC dI h_row h_g h_bl h_wh h_ac c_bl c_wh c_ac n_row row_law row_latest row_opener row_blackThen row_whiteThen g_width g_height g_size g_all g_notFirstColumn g_notLastColumn bl wh ac a0 q3 hq3) (cwV 1 hts gX6_standing_X4_stonesOf rfl rfl rfl (by decide +kernel) ⟨Nat.le_trans (m := rm_X6_standing.frames) (by decide) hRf, Nat.le_trans (m := rm_X6_standing.locals) (by decide) hRl⟩) hN hP hK ⟨Nat.zero_le _, Nat.zero_le _⟩ [2, 1, 3, 4, 5] rfl [0, 1, 2] rfl 2 4 rfl rfl rfl hl.1 rfl (Nat.le_of_ble_eq_true rfl) dX6_standing_16 ?_
    refine lv_aload_n hx hb dX6_standing_19 rfl (lv_at hl 0 rfl) ?_
    refine va_get (D := (dC, dI)) (ci := 6) (v := .ref h_row) (C := RX6) (T := TX6) (N := 7) hx hb hts huX6 hown hK hP 0 rfl rfl 1 (by decide) hf25 (fun _ h9 => h9) rfl dX6_standing_20 ?_
    obtain ⟨q4, hq4, hr⟩ := bd_use hr
    refine pcV_l (As := []) (rest := [.long q3, .ref h_life]) S (c_X4_free l dC dI h_row h_g h_bl h_wh h_ac c_bl c_wh c_ac n_row row_law row_latest row_opener row_blackThen row_whiteThen g_width g_height g_size g_all g_notFirstColumn g_notLastColumn bl wh ac q4 hq4) (cwV 0 hts gX6_standing_X4_free rfl rfl rfl (by decide +kernel) ⟨Nat.le_trans (m := rm_X6_standing.frames) (by decide) hRf, Nat.le_trans (m := rm_X6_standing.locals) (by decide) hRl⟩) hN hP hK ⟨Nat.zero_le _, Nat.zero_le _⟩ [2, 1, 3, 4, 5] rfl [0, 1, 2] rfl 2 4 rfl rfl rfl hl.1 rfl (Nat.le_of_ble_eq_true rfl) dX6_standing_23 ?_
    obtain ⟨q5, hq5, hr⟩ := bd_use hr
    refine pcV_l (As := [.long q3, .long q4]) (rest := []) S (c_X3_standingStones l dC dI h_life h_g g_width g_height g_size g_all g_notFirstColumn g_notLastColumn q3 q4 q5 hq5) (cwV 2 hts gX6_standing_X3_standingStones rfl rfl rfl (by decide +kernel) ⟨Nat.le_trans (m := rm_X6_standing.frames) (by decide) hRf, Nat.le_trans (m := rm_X6_standing.locals) (by decide) hRl⟩) hN hP hK ⟨Nat.zero_le _, Nat.zero_le _⟩ [6, 1] rfl [] rfl 6 3 rfl rfl rfl hl.1 rfl (Nat.le_of_ble_eq_true rfl) dX6_standing_26 ?_
    obtain ⟨q6, hq6, hr⟩ := bd_use hr
    refine pcS_i (As := [.long q5]) (rest := []) S (c_J13_bitCount_95d88 l dC dI q5 q6 hq6) (va_cwS 1 hts gX6_standing_J13_bitCount_95d88 rfl rfl rfl (by decide +kernel) ⟨Nat.le_trans (m := rm_X6_standing.frames) (by decide) hRf, Nat.le_trans (m := rm_X6_standing.locals) (by decide) hRl⟩) hN hP hK ⟨Nat.zero_le _, Nat.zero_le _⟩ rfl hl.1 rfl (Nat.le_of_ble_eq_true rfl) dX6_standing_29 ?_
    refine lv_goto (tgt := 37) hx hb dX6_standing_32 (by decide) ?_
    obtain rfl := Option.some.inj hr
    exact kret _ _ dX6_standing_37

def f_X6_chase (n_row : Nat) (n_hrow : Nat) (g_width : Int32) (g_size : Int32) (g_all : Int64) (g_notFirstColumn : Int64) (g_notLastColumn : Int64) (row_latest : Int32) (bl : Nat → Int64) (wh : Nat → Int64) (t_made : Int32) (ch_target : Int32) (ch_chased : Int32) (hrow_law : Int32) (hrow_latest : Int32) (hrow_opener : Int32) (hrow_blackThen : Int64) (hrow_whiteThen : Int64) (hbl : Nat → Int64) (hwh : Nat → Int64) (hac : Nat → Int32) (a0 : Int32) (a1 : Int32) : Option (Int32 × Int32 × Int32 × Int32 × Int32 × Int32 × Int32 × Int64 × Int64 × (Nat → Int64) × (Nat → Int64) × (Nat → Int32)) :=
  (f_X2_has g_size a0).bind fun q1 =>
  if q1 = 0 then (
    some ((-2 : Int32), t_made, ch_target, ch_chased, hrow_law, hrow_latest, hrow_opener, hrow_blackThen, hrow_whiteThen, hbl, hwh, hac)
  )
  else (
    if a1 < (1 : Int32) then (
      some ((-2 : Int32), t_made, ch_target, ch_chased, hrow_law, hrow_latest, hrow_opener, hrow_blackThen, hrow_whiteThen, hbl, hwh, hac)
    )
    else (
      if a1 ≤ (20 : Int32) then (
        (f_X4_colourAt n_row row_latest bl wh a0).bind fun q5 =>
        if q5 = 0 then (
          some ((-3 : Int32), t_made, ch_target, ch_chased, hrow_law, hrow_latest, hrow_opener, hrow_blackThen, hrow_whiteThen, hbl, hwh, hac)
        )
        else (
          (f_X0_read n_hrow n_row ch_target ch_chased g_width g_size g_all g_notFirstColumn g_notLastColumn hrow_law hrow_latest hrow_opener hrow_blackThen hrow_whiteThen hbl hwh hac t_made row_latest bl wh a0 a1).bind fun q7 =>
          some (q7.1, q7.2.2.2.2.2.2.2.2.2.2.2, q7.2.1, q7.2.2.1, q7.2.2.2.1, q7.2.2.2.2.1, q7.2.2.2.2.2.1, q7.2.2.2.2.2.2.1, q7.2.2.2.2.2.2.2.1, q7.2.2.2.2.2.2.2.2.1, q7.2.2.2.2.2.2.2.2.2.1, q7.2.2.2.2.2.2.2.2.2.2.1)
        )
      )
      else (
        some ((-2 : Int32), t_made, ch_target, ch_chased, hrow_law, hrow_latest, hrow_opener, hrow_blackThen, hrow_whiteThen, hbl, hwh, hac)
      )
    )
  )

abbrev rm_X6_chase : Room := { frames := 54, cells := 0, slots := 0, locals := 1528 }
set_option maxHeartbeats 4000000 in
set_option maxRecDepth 100000 in
theorem c_X6_chase (l : Launch) (dC : Nat → ClassId) (dI : Nat → Nat → Nat) (h_eb h_g h_row h_bl h_wh h_ac h_life h_t h_ch h_hrow h_hbl h_hwh h_hac h_fi : Nat) (c_bl c_wh c_ac c_hbl c_hwh c_hac : ClassId) (n_row n_hrow : Nat) (eb_winningAct g_width g_height g_size : Int32) (g_all g_notFirstColumn g_notLastColumn : Int64) (row_law row_latest row_opener : Int32) (row_blackThen row_whiteThen : Int64) (bl wh : Nat → Int64) (ac : Nat → Int32) (t_made ch_target ch_chased hrow_law hrow_latest hrow_opener : Int32) (hrow_blackThen hrow_whiteThen : Int64) (hbl hwh : Nat → Int64) (hac : Nat → Int32) (fi_target fi_attacked fi_decidingAct : Int32) (sz : Nat) (a0 : Int32) (a1 : Int32) (q : Int32 × Int32 × Int32 × Int32 × Int32 × Int32 × Int32 × Int64 × Int64 × (Nat → Int64) × (Nat → Int64) × (Nat → Int32)) (hr : f_X6_chase n_row n_hrow g_width g_size g_all g_notFirstColumn g_notLastColumn row_latest bl wh t_made ch_target ch_chased hrow_law hrow_latest hrow_opener hrow_blackThen hrow_whiteThen hbl hwh hac a0 a1 = some q) : Met l yX6_chase wsX6_chase rm_X6_chase (PrI (dC, dI) (wd_X6 h_eb h_g h_row h_bl h_wh h_ac h_life h_t h_ch h_hrow h_hbl h_hwh h_hac h_fi c_bl c_wh c_ac c_hbl c_hwh c_hac n_row n_hrow eb_winningAct g_width g_height g_size g_all g_notFirstColumn g_notLastColumn row_law row_latest row_opener row_blackThen row_whiteThen bl wh ac t_made ch_target ch_chased hrow_law hrow_latest hrow_opener hrow_blackThen hrow_whiteThen hbl hwh hac fi_target fi_attacked fi_decidingAct) (td_X6 c_bl c_wh c_ac c_hbl c_hwh c_hac) sz [.ref h_eb, .int a0, .int a1]) (QIi (dC, dI) (wd_X6 h_eb h_g h_row h_bl h_wh h_ac h_life h_t h_ch h_hrow h_hbl h_hwh h_hac h_fi c_bl c_wh c_ac c_hbl c_hwh c_hac n_row n_hrow eb_winningAct g_width g_height g_size g_all g_notFirstColumn g_notLastColumn row_law row_latest row_opener row_blackThen row_whiteThen bl wh ac t_made ch_target ch_chased hrow_law hrow_latest hrow_opener hrow_blackThen hrow_whiteThen hbl hwh hac fi_target fi_attacked fi_decidingAct) (td_X6 c_bl c_wh c_ac c_hbl c_hwh c_hac) sz q.1 (wd_X6 h_eb h_g h_row h_bl h_wh h_ac h_life h_t h_ch h_hrow h_hbl h_hwh h_hac h_fi c_bl c_wh c_ac c_hbl c_hwh c_hac n_row n_hrow eb_winningAct g_width g_height g_size g_all g_notFirstColumn g_notLastColumn row_law row_latest row_opener row_blackThen row_whiteThen bl wh ac q.2.1 q.2.2.1 q.2.2.2.1 q.2.2.2.2.1 q.2.2.2.2.2.1 q.2.2.2.2.2.2.1 q.2.2.2.2.2.2.2.1 q.2.2.2.2.2.2.2.2.1 q.2.2.2.2.2.2.2.2.2.1 q.2.2.2.2.2.2.2.2.2.2.1 q.2.2.2.2.2.2.2.2.2.2.2 fi_target fi_attacked fi_decidingAct)) 0 0 (va_A (wd_X6 h_eb h_g h_row h_bl h_wh h_ac h_life h_t h_ch h_hrow h_hbl h_hwh h_hac h_fi c_bl c_wh c_ac c_hbl c_hwh c_hac n_row n_hrow eb_winningAct g_width g_height g_size g_all g_notFirstColumn g_notLastColumn row_law row_latest row_opener row_blackThen row_whiteThen bl wh ac t_made ch_target ch_chased hrow_law hrow_latest hrow_opener hrow_blackThen hrow_whiteThen hbl hwh hac fi_target fi_attacked fi_decidingAct) sz) := by
  refine mkI_i (cc := cX6_chase) (nL := 3) (by decide) rfl (Nat.le_of_ble_eq_true rfl) ?_
  intro p e R s m args below meth c H0 H locs A Q ls hRf hRl S hN hP hK hD hA hS hl kret
  have hl : lv_has ls 3 [(0, .ref h_eb), (1, .int a0), (2, .int a1)] := hl
  obtain ⟨hx, hb, hml, hown, hts⟩ := S
  have hown : s.vm.findClass RX6 = some m.cls := hown
  have S : CallFix p m c cX6_chase 3 s args wsX6_chase RX6 := ⟨hx, hb, hml, hown, hts⟩
  have huX6 : ∀ w ∈ u_ws RX6 TX6 7, w ∈ wsX6_chase := by decide +kernel
  have hf12 := hts (.fieldLink RX6 12 "EyeBoard" "grid" "LEyeBoard$Grid;") (by decide +kernel)
  have hf25 := hts (.fieldLink RX6 25 "EyeBoard" "row" "LEyeBoard$Row;") (by decide +kernel)
  have hf54 := hts (.fieldLink RX6 54 "EyeBoard" "hunt" "LEyeBoard$Chase;") (by decide +kernel)
  unfold f_X6_chase at hr
  refine lv_aload_n hx hb dX6_chase_0 rfl (lv_at hl 0 rfl) ?_
  refine va_get (D := (dC, dI)) (ci := 6) (v := .ref h_g) (C := RX6) (T := TX6) (N := 7) hx hb hts huX6 hown hK hP 0 rfl rfl 0 (by decide) hf12 (fun _ h9 => h9) rfl dX6_chase_1 ?_
  refine lv_iload_n hx hb dX6_chase_4 rfl (lv_at hl 1 rfl) ?_
  obtain ⟨q1, hq1, hr⟩ := bd_use hr
  refine pcV_i (As := [.int a0]) (rest := []) S (c_X2_has l dC dI h_g g_width g_height g_size g_all g_notFirstColumn g_notLastColumn a0 q1 hq1) (cwV 1 hts gX6_chase_X2_has rfl rfl rfl (by decide +kernel) ⟨Nat.le_trans (m := rm_X6_chase.frames) (by decide) hRf, Nat.le_trans (m := rm_X6_chase.locals) (by decide) hRl⟩) hN hP hK ⟨Nat.zero_le _, Nat.zero_le _⟩ [1] rfl [] rfl 1 2 rfl rfl rfl hl.1 rfl (Nat.le_of_ble_eq_true rfl) dX6_chase_5 ?_
  refine lv_if_eq (tgt := 22) hx hb dX6_chase_8 (by decide) (fun c2 => ?_) (fun c2 => ?_)
  · have hr := ite_p hr c2
    refine lv_bipush (v := (-2 : Int32)) hx hb dX6_chase_22 (by decide) ?_
    obtain rfl := Option.some.inj hr
    exact kret _ _ _ _ dX6_chase_24 hP hD hS
  · have hr := ite_n hr c2
    refine lv_iload_n hx hb dX6_chase_11 rfl (lv_at hl 2 rfl) ?_
    refine lv_iconst (v := (1 : Int32)) hx hb dX6_chase_12 (by decide) ?_
    refine lv_icmp_lt (tgt := 22) hx hb dX6_chase_13 (by decide) (fun c3 => ?_) (fun c3 => ?_)
    · have hr := ite_p hr c3
      refine lv_bipush (v := (-2 : Int32)) hx hb dX6_chase_22 (by decide) ?_
      obtain rfl := Option.some.inj hr
      exact kret _ _ _ _ dX6_chase_24 hP hD hS
    · have hr := ite_n hr c3
      refine lv_iload_n hx hb dX6_chase_16 rfl (lv_at hl 2 rfl) ?_
      refine lv_bipush (v := (20 : Int32)) hx hb dX6_chase_17 (by decide) ?_
      refine lv_icmp_le (tgt := 25) hx hb dX6_chase_19 (by decide) (fun c4 => ?_) (fun c4 => ?_)
      · have hr := ite_p hr c4
        refine lv_aload_n hx hb dX6_chase_25 rfl (lv_at hl 0 rfl) ?_
        refine va_get (D := (dC, dI)) (ci := 6) (v := .ref h_row) (C := RX6) (T := TX6) (N := 7) hx hb hts huX6 hown hK hP 0 rfl rfl 1 (by decide) hf25 (fun _ h9 => h9) rfl dX6_chase_26 ?_
        refine lv_iload_n hx hb dX6_chase_29 rfl (lv_at hl 1 rfl) ?_
        obtain ⟨q5, hq5, hr⟩ := bd_use hr
        refine pcV_i (As := [.int a0]) (rest := []) S (c_X4_colourAt l dC dI h_row h_g h_bl h_wh h_ac c_bl c_wh c_ac n_row row_law row_latest row_opener row_blackThen row_whiteThen g_width g_height g_size g_all g_notFirstColumn g_notLastColumn bl wh ac a0 q5 hq5) (cwV 1 hts gX6_chase_X4_colourAt rfl rfl rfl (by decide +kernel) ⟨Nat.le_trans (m := rm_X6_chase.frames) (by decide) hRf, Nat.le_trans (m := rm_X6_chase.locals) (by decide) hRl⟩) hN hP hK ⟨Nat.zero_le _, Nat.zero_le _⟩ [2, 1, 3, 4, 5] rfl [0, 1, 2] rfl 2 4 rfl rfl rfl hl.1 rfl (Nat.le_of_ble_eq_true rfl) dX6_chase_30 ?_
        refine lv_if_ne (tgt := 41) hx hb dX6_chase_33 (by decide) (fun c6 => ?_) (fun c6 => ?_)
        · have hr := ite_n hr c6
          refine lv_aload_n hx hb dX6_chase_41 rfl (lv_at hl 0 rfl) ?_
          refine va_get (D := (dC, dI)) (ci := 6) (v := .ref h_ch) (C := RX6) (T := TX6) (N := 7) hx hb hts huX6 hown hK hP 0 rfl rfl 4 (by decide) hf54 (fun _ h9 => h9) rfl dX6_chase_42 ?_
          refine lv_aload_n hx hb dX6_chase_45 rfl (lv_at hl 0 rfl) ?_
          refine va_get (D := (dC, dI)) (ci := 6) (v := .ref h_row) (C := RX6) (T := TX6) (N := 7) hx hb hts huX6 hown hK hP 0 rfl rfl 1 (by decide) hf25 (fun _ h9 => h9) rfl dX6_chase_46 ?_
          refine lv_iload_n hx hb dX6_chase_49 rfl (lv_at hl 1 rfl) ?_
          refine lv_iload_n hx hb dX6_chase_50 rfl (lv_at hl 2 rfl) ?_
          obtain ⟨q7, hq7, hr⟩ := bd_use hr
          refine icV_i (As := [.ref h_row, .int a0, .int a1]) (rest := []) (ws2 := (wd_X6 h_eb h_g h_row h_bl h_wh h_ac h_life h_t h_ch h_hrow h_hbl h_hwh h_hac h_fi c_bl c_wh c_ac c_hbl c_hwh c_hac n_row n_hrow eb_winningAct g_width g_height g_size g_all g_notFirstColumn g_notLastColumn row_law row_latest row_opener row_blackThen row_whiteThen bl wh ac q7.2.2.2.2.2.2.2.2.2.2.2 q7.2.1 q7.2.2.1 q7.2.2.2.1 q7.2.2.2.2.1 q7.2.2.2.2.2.1 q7.2.2.2.2.2.2.1 q7.2.2.2.2.2.2.2.1 q7.2.2.2.2.2.2.2.2.1 q7.2.2.2.2.2.2.2.2.2.1 q7.2.2.2.2.2.2.2.2.2.2.1 fi_target fi_attacked fi_decidingAct)) S (c_X0_read l dC dI h_ch h_g h_hrow h_hbl h_hwh h_hac h_t h_row h_bl h_wh h_ac c_hbl c_hwh c_hac c_bl c_wh c_ac n_hrow n_row ch_target ch_chased g_width g_height g_size g_all g_notFirstColumn g_notLastColumn hrow_law hrow_latest hrow_opener hrow_blackThen hrow_whiteThen hbl hwh hac t_made row_law row_latest row_opener row_blackThen row_whiteThen bl wh ac H.size a0 a1 q7 hq7) (cwV 3 hts gX6_chase_X0_read rfl rfl rfl (by decide +kernel) ⟨Nat.le_trans (m := rm_X6_chase.frames) (by decide) hRf, Nat.le_trans (m := rm_X6_chase.locals) (by decide) hRl⟩) hN hP hK hD hS hA ⟨Nat.zero_le _, Nat.zero_le _⟩ [8, 1, 9, 10, 11, 12, 7, 2, 3, 4, 5] [0, 6, 13] [0, 4, 10, 11, 12, 13, 1, 9, 3, 5, 6, 7, 8, 2] rfl rfl rfl rfl rfl (by decide) rfl rfl rfl [3, 4, 5, 0, 1, 2] rfl 8 0 rfl rfl rfl hl.1 rfl (Nat.le_of_ble_eq_true rfl) dX6_chase_51 (fun H locs hP hD hS => ?_)
          obtain rfl := Option.some.inj hr
          exact kret _ _ _ _ dX6_chase_54 hP hD hS
        · have hr := ite_p hr c6
          refine lv_bipush (v := (-3 : Int32)) hx hb dX6_chase_36 (by decide) ?_
          refine lv_goto (tgt := 54) hx hb dX6_chase_38 (by decide) ?_
          obtain rfl := Option.some.inj hr
          exact kret _ _ _ _ dX6_chase_54 hP hD hS
      · have hr := ite_n hr c4
        refine lv_bipush (v := (-2 : Int32)) hx hb dX6_chase_22 (by decide) ?_
        obtain rfl := Option.some.inj hr
        exact kret _ _ _ _ dX6_chase_24 hP hD hS

def f_X6_fight (n_row : Nat) (eb_winningAct : Int32) (g_width : Int32) (g_size : Int32) (g_all : Int64) (g_notFirstColumn : Int64) (g_notLastColumn : Int64) (row_law : Int32) (row_latest : Int32) (row_opener : Int32) (row_blackThen : Int64) (row_whiteThen : Int64) (bl : Nat → Int64) (wh : Nat → Int64) (ac : Nat → Int32) (t_made : Int32) (fi_target : Int32) (fi_attacked : Int32) (fi_decidingAct : Int32) (a0 : Int32) (a1 : Int32) : Option (Int32 × Int32 × Int32 × Int64 × Int64 × (Nat → Int64) × (Nat → Int64) × (Nat → Int32) × Int32 × Int32 × Int32 × Int32) :=
  (f_X2_has g_size a0).bind fun q1 =>
  if q1 = 0 then (
    some ((-2 : Int32), eb_winningAct, row_latest, row_blackThen, row_whiteThen, bl, wh, ac, t_made, fi_target, fi_attacked, fi_decidingAct)
  )
  else (
    if a1 < (1 : Int32) then (
      some ((-2 : Int32), eb_winningAct, row_latest, row_blackThen, row_whiteThen, bl, wh, ac, t_made, fi_target, fi_attacked, fi_decidingAct)
    )
    else (
      if a1 ≤ (6 : Int32) then (
        (f_X4_colourAt n_row row_latest bl wh a0).bind fun q5 =>
        if q5 = 0 then (
          some ((-3 : Int32), eb_winningAct, row_latest, row_blackThen, row_whiteThen, bl, wh, ac, t_made, fi_target, fi_attacked, fi_decidingAct)
        )
        else (
          (f_X1_read n_row fi_target fi_attacked fi_decidingAct g_width g_size g_all g_notFirstColumn g_notLastColumn row_law row_latest row_opener row_blackThen row_whiteThen bl wh ac t_made a0 a1).bind fun q7 =>
          nm (q7.1) fun x8 =>
          if x8 = (1 : Int32) then (
            (f_X4_mover q7.2.2.2.2.1 row_opener).bind fun q10 =>
            if q5 = q10 then (
              some (x8, eb_winningAct, q7.2.2.2.2.1, q7.2.2.2.2.2.1, q7.2.2.2.2.2.2.1, q7.2.2.2.2.2.2.2.1, q7.2.2.2.2.2.2.2.2.1, q7.2.2.2.2.2.2.2.2.2.1, q7.2.2.2.2.2.2.2.2.2.2, q7.2.1, q7.2.2.1, q7.2.2.2.1)
            )
            else (
              nm (q7.2.2.2.1) fun x12 =>
              some (x8, x12, q7.2.2.2.2.1, q7.2.2.2.2.2.1, q7.2.2.2.2.2.2.1, q7.2.2.2.2.2.2.2.1, q7.2.2.2.2.2.2.2.2.1, q7.2.2.2.2.2.2.2.2.2.1, q7.2.2.2.2.2.2.2.2.2.2, q7.2.1, q7.2.2.1, q7.2.2.2.1)
            )
          )
          else (
            some (x8, eb_winningAct, q7.2.2.2.2.1, q7.2.2.2.2.2.1, q7.2.2.2.2.2.2.1, q7.2.2.2.2.2.2.2.1, q7.2.2.2.2.2.2.2.2.1, q7.2.2.2.2.2.2.2.2.2.1, q7.2.2.2.2.2.2.2.2.2.2, q7.2.1, q7.2.2.1, q7.2.2.2.1)
          )
        )
      )
      else (
        some ((-2 : Int32), eb_winningAct, row_latest, row_blackThen, row_whiteThen, bl, wh, ac, t_made, fi_target, fi_attacked, fi_decidingAct)
      )
    )
  )

abbrev rm_X6_fight : Room := { frames := 22, cells := 0, slots := 0, locals := 510 }
set_option maxHeartbeats 4000000 in
set_option maxRecDepth 100000 in
theorem c_X6_fight (l : Launch) (dC : Nat → ClassId) (dI : Nat → Nat → Nat) (h_eb h_g h_row h_bl h_wh h_ac h_life h_t h_ch h_hrow h_hbl h_hwh h_hac h_fi : Nat) (c_bl c_wh c_ac c_hbl c_hwh c_hac : ClassId) (n_row n_hrow : Nat) (eb_winningAct g_width g_height g_size : Int32) (g_all g_notFirstColumn g_notLastColumn : Int64) (row_law row_latest row_opener : Int32) (row_blackThen row_whiteThen : Int64) (bl wh : Nat → Int64) (ac : Nat → Int32) (t_made ch_target ch_chased hrow_law hrow_latest hrow_opener : Int32) (hrow_blackThen hrow_whiteThen : Int64) (hbl hwh : Nat → Int64) (hac : Nat → Int32) (fi_target fi_attacked fi_decidingAct : Int32) (sz : Nat) (a0 : Int32) (a1 : Int32) (q : Int32 × Int32 × Int32 × Int64 × Int64 × (Nat → Int64) × (Nat → Int64) × (Nat → Int32) × Int32 × Int32 × Int32 × Int32) (hr : f_X6_fight n_row eb_winningAct g_width g_size g_all g_notFirstColumn g_notLastColumn row_law row_latest row_opener row_blackThen row_whiteThen bl wh ac t_made fi_target fi_attacked fi_decidingAct a0 a1 = some q) : Met l yX6_fight wsX6_fight rm_X6_fight (PrI (dC, dI) (wd_X6 h_eb h_g h_row h_bl h_wh h_ac h_life h_t h_ch h_hrow h_hbl h_hwh h_hac h_fi c_bl c_wh c_ac c_hbl c_hwh c_hac n_row n_hrow eb_winningAct g_width g_height g_size g_all g_notFirstColumn g_notLastColumn row_law row_latest row_opener row_blackThen row_whiteThen bl wh ac t_made ch_target ch_chased hrow_law hrow_latest hrow_opener hrow_blackThen hrow_whiteThen hbl hwh hac fi_target fi_attacked fi_decidingAct) (td_X6 c_bl c_wh c_ac c_hbl c_hwh c_hac) sz [.ref h_eb, .int a0, .int a1]) (QIi (dC, dI) (wd_X6 h_eb h_g h_row h_bl h_wh h_ac h_life h_t h_ch h_hrow h_hbl h_hwh h_hac h_fi c_bl c_wh c_ac c_hbl c_hwh c_hac n_row n_hrow eb_winningAct g_width g_height g_size g_all g_notFirstColumn g_notLastColumn row_law row_latest row_opener row_blackThen row_whiteThen bl wh ac t_made ch_target ch_chased hrow_law hrow_latest hrow_opener hrow_blackThen hrow_whiteThen hbl hwh hac fi_target fi_attacked fi_decidingAct) (td_X6 c_bl c_wh c_ac c_hbl c_hwh c_hac) sz q.1 (wd_X6 h_eb h_g h_row h_bl h_wh h_ac h_life h_t h_ch h_hrow h_hbl h_hwh h_hac h_fi c_bl c_wh c_ac c_hbl c_hwh c_hac n_row n_hrow q.2.1 g_width g_height g_size g_all g_notFirstColumn g_notLastColumn row_law q.2.2.1 row_opener q.2.2.2.1 q.2.2.2.2.1 q.2.2.2.2.2.1 q.2.2.2.2.2.2.1 q.2.2.2.2.2.2.2.1 q.2.2.2.2.2.2.2.2.1 ch_target ch_chased hrow_law hrow_latest hrow_opener hrow_blackThen hrow_whiteThen hbl hwh hac q.2.2.2.2.2.2.2.2.2.1 q.2.2.2.2.2.2.2.2.2.2.1 q.2.2.2.2.2.2.2.2.2.2.2)) 0 0 (va_A (wd_X6 h_eb h_g h_row h_bl h_wh h_ac h_life h_t h_ch h_hrow h_hbl h_hwh h_hac h_fi c_bl c_wh c_ac c_hbl c_hwh c_hac n_row n_hrow eb_winningAct g_width g_height g_size g_all g_notFirstColumn g_notLastColumn row_law row_latest row_opener row_blackThen row_whiteThen bl wh ac t_made ch_target ch_chased hrow_law hrow_latest hrow_opener hrow_blackThen hrow_whiteThen hbl hwh hac fi_target fi_attacked fi_decidingAct) sz) := by
  refine mkI_i (cc := cX6_fight) (nL := 5) (by decide) rfl (Nat.le_of_ble_eq_true rfl) ?_
  intro p e R s m args below meth c H0 H locs A Q ls hRf hRl S hN hP hK hD hA hS hl kret
  have hl : lv_has ls 5 [(0, .ref h_eb), (1, .int a0), (2, .int a1)] := hl
  obtain ⟨hx, hb, hml, hown, hts⟩ := S
  have hown : s.vm.findClass RX6 = some m.cls := hown
  have S : CallFix p m c cX6_fight 5 s args wsX6_fight RX6 := ⟨hx, hb, hml, hown, hts⟩
  have huX6 : ∀ w ∈ u_ws RX6 TX6 7, w ∈ wsX6_fight := by decide +kernel
  have hf12 := hts (.fieldLink RX6 12 "EyeBoard" "grid" "LEyeBoard$Grid;") (by decide +kernel)
  have hf25 := hts (.fieldLink RX6 25 "EyeBoard" "row" "LEyeBoard$Row;") (by decide +kernel)
  have hf61 := hts (.fieldLink RX6 61 "EyeBoard" "struggle" "LEyeBoard$Fight;") (by decide +kernel)
  have huX1 : ∀ w ∈ u_ws RX1 TX1 6, w ∈ wsX6_fight := by decide +kernel
  have hf168 := hts (.fieldLink RX6 168 "EyeBoard$Fight" "decidingAct" "I") (by decide +kernel)
  have hf65 := hts (.fieldLink RX6 65 "EyeBoard" "winningAct" "I") (by decide +kernel)
  unfold f_X6_fight at hr
  refine lv_aload_n hx hb dX6_fight_0 rfl (lv_at hl 0 rfl) ?_
  refine va_get (D := (dC, dI)) (ci := 6) (v := .ref h_g) (C := RX6) (T := TX6) (N := 7) hx hb hts huX6 hown hK hP 0 rfl rfl 0 (by decide) hf12 (fun _ h9 => h9) rfl dX6_fight_1 ?_
  refine lv_iload_n hx hb dX6_fight_4 rfl (lv_at hl 1 rfl) ?_
  obtain ⟨q1, hq1, hr⟩ := bd_use hr
  refine pcV_i (As := [.int a0]) (rest := []) S (c_X2_has l dC dI h_g g_width g_height g_size g_all g_notFirstColumn g_notLastColumn a0 q1 hq1) (cwV 1 hts gX6_fight_X2_has rfl rfl rfl (by decide +kernel) ⟨Nat.le_trans (m := rm_X6_fight.frames) (by decide) hRf, Nat.le_trans (m := rm_X6_fight.locals) (by decide) hRl⟩) hN hP hK ⟨Nat.zero_le _, Nat.zero_le _⟩ [1] rfl [] rfl 1 2 rfl rfl rfl hl.1 rfl (Nat.le_of_ble_eq_true rfl) dX6_fight_5 ?_
  refine lv_if_eq (tgt := 22) hx hb dX6_fight_8 (by decide) (fun c2 => ?_) (fun c2 => ?_)
  · have hr := ite_p hr c2
    refine lv_bipush (v := (-2 : Int32)) hx hb dX6_fight_22 (by decide) ?_
    obtain rfl := Option.some.inj hr
    exact kret _ _ _ _ dX6_fight_24 hP hD hS
  · have hr := ite_n hr c2
    refine lv_iload_n hx hb dX6_fight_11 rfl (lv_at hl 2 rfl) ?_
    refine lv_iconst (v := (1 : Int32)) hx hb dX6_fight_12 (by decide) ?_
    refine lv_icmp_lt (tgt := 22) hx hb dX6_fight_13 (by decide) (fun c3 => ?_) (fun c3 => ?_)
    · have hr := ite_p hr c3
      refine lv_bipush (v := (-2 : Int32)) hx hb dX6_fight_22 (by decide) ?_
      obtain rfl := Option.some.inj hr
      exact kret _ _ _ _ dX6_fight_24 hP hD hS
    · have hr := ite_n hr c3
      refine lv_iload_n hx hb dX6_fight_16 rfl (lv_at hl 2 rfl) ?_
      refine lv_bipush (v := (6 : Int32)) hx hb dX6_fight_17 (by decide) ?_
      refine lv_icmp_le (tgt := 25) hx hb dX6_fight_19 (by decide) (fun c4 => ?_) (fun c4 => ?_)
      · have hr := ite_p hr c4
        refine lv_aload_n hx hb dX6_fight_25 rfl (lv_at hl 0 rfl) ?_
        refine va_get (D := (dC, dI)) (ci := 6) (v := .ref h_row) (C := RX6) (T := TX6) (N := 7) hx hb hts huX6 hown hK hP 0 rfl rfl 1 (by decide) hf25 (fun _ h9 => h9) rfl dX6_fight_26 ?_
        refine lv_iload_n hx hb dX6_fight_29 rfl (lv_at hl 1 rfl) ?_
        obtain ⟨q5, hq5, hr⟩ := bd_use hr
        refine pcV_i (As := [.int a0]) (rest := []) S (c_X4_colourAt l dC dI h_row h_g h_bl h_wh h_ac c_bl c_wh c_ac n_row row_law row_latest row_opener row_blackThen row_whiteThen g_width g_height g_size g_all g_notFirstColumn g_notLastColumn bl wh ac a0 q5 hq5) (cwV 1 hts gX6_fight_X4_colourAt rfl rfl rfl (by decide +kernel) ⟨Nat.le_trans (m := rm_X6_fight.frames) (by decide) hRf, Nat.le_trans (m := rm_X6_fight.locals) (by decide) hRl⟩) hN hP hK ⟨Nat.zero_le _, Nat.zero_le _⟩ [2, 1, 3, 4, 5] rfl [0, 1, 2] rfl 2 4 rfl rfl rfl hl.1 rfl (Nat.le_of_ble_eq_true rfl) dX6_fight_30 ?_
        refine lv_istore_n (lv' := [(3, .int q5), (0, .ref h_eb), (1, .int a0), (2, .int a1)]) hx hb dX6_fight_33 rfl hl (by decide) rfl (fun ls hl => ?_)
        refine lv_iload_n hx hb dX6_fight_34 rfl (lv_at hl 0 rfl) ?_
        refine lv_if_ne (tgt := 41) hx hb dX6_fight_35 (by decide) (fun c6 => ?_) (fun c6 => ?_)
        · have hr := ite_n hr c6
          refine lv_aload_n hx hb dX6_fight_41 rfl (lv_at hl 1 rfl) ?_
          refine va_get (D := (dC, dI)) (ci := 6) (v := .ref h_fi) (C := RX6) (T := TX6) (N := 7) hx hb hts huX6 hown hK hP 0 rfl rfl 5 (by decide) hf61 (fun _ h9 => h9) rfl dX6_fight_42 ?_
          refine lv_iload_n hx hb dX6_fight_45 rfl (lv_at hl 2 rfl) ?_
          refine lv_iload_n hx hb dX6_fight_46 rfl (lv_at hl 3 rfl) ?_
          obtain ⟨q7, hq7, hr⟩ := bd_use hr
          refine icV_i (As := [.int a0, .int a1]) (rest := []) (ws2 := (wd_X6 h_eb h_g h_row h_bl h_wh h_ac h_life h_t h_ch h_hrow h_hbl h_hwh h_hac h_fi c_bl c_wh c_ac c_hbl c_hwh c_hac n_row n_hrow eb_winningAct g_width g_height g_size g_all g_notFirstColumn g_notLastColumn row_law q7.2.2.2.2.1 row_opener q7.2.2.2.2.2.1 q7.2.2.2.2.2.2.1 q7.2.2.2.2.2.2.2.1 q7.2.2.2.2.2.2.2.2.1 q7.2.2.2.2.2.2.2.2.2.1 q7.2.2.2.2.2.2.2.2.2.2 ch_target ch_chased hrow_law hrow_latest hrow_opener hrow_blackThen hrow_whiteThen hbl hwh hac q7.2.1 q7.2.2.1 q7.2.2.2.1)) S (c_X1_read l dC dI h_fi h_g h_row h_bl h_wh h_ac h_t c_bl c_wh c_ac n_row fi_target fi_attacked fi_decidingAct g_width g_height g_size g_all g_notFirstColumn g_notLastColumn row_law row_latest row_opener row_blackThen row_whiteThen bl wh ac t_made H.size a0 a1 q7 hq7) (cwV 2 hts gX6_fight_X1_read rfl rfl rfl (by decide +kernel) ⟨Nat.le_trans (m := rm_X6_fight.frames) (by decide) hRf, Nat.le_trans (m := rm_X6_fight.locals) (by decide) hRl⟩) hN hP hK hD hS hA ⟨Nat.zero_le _, Nat.zero_le _⟩ [13, 1, 2, 3, 4, 5, 7] [0, 6, 8, 9, 10, 11, 12] [0, 8, 9, 10, 11, 12, 1, 13, 2, 3, 4, 5, 6, 7] rfl rfl rfl rfl rfl (by decide) rfl rfl rfl [0, 1, 2] rfl 13 1 rfl rfl rfl hl.1 rfl (Nat.le_of_ble_eq_true rfl) dX6_fight_47 (fun H locs hP hD hS => ?_)
          refine lv_topi (fun x8 ex8 => ?_)
          have hr := nm_use hr ex8
          refine lv_istore (lv' := [(4, .int x8), (3, .int q5), (0, .ref h_eb), (1, .int a0), (2, .int a1)]) hx hb dX6_fight_50 hl (by decide) rfl (fun ls hl => ?_)
          refine lv_iload hx hb dX6_fight_52 (lv_at hl 0 rfl) ?_
          refine lv_iconst (v := (1 : Int32)) hx hb dX6_fight_54 (by decide) ?_
          refine lv_icmp_ne (tgt := 80) hx hb dX6_fight_55 (by decide) (fun c9 => ?_) (fun c9 => ?_)
          · have hr := ite_n hr c9
            refine lv_iload hx hb dX6_fight_80 (lv_at hl 0 rfl) ?_
            obtain rfl := Option.some.inj hr
            exact kret _ _ _ _ dX6_fight_82 hP hD hS
          · have hr := ite_p hr c9
            refine lv_iload_n hx hb dX6_fight_58 rfl (lv_at hl 1 rfl) ?_
            refine lv_aload_n hx hb dX6_fight_59 rfl (lv_at hl 2 rfl) ?_
            refine va_get (D := (dC, dI)) (ci := 6) (v := .ref h_row) (C := RX6) (T := TX6) (N := 7) hx hb hts huX6 hown hK hP 0 rfl rfl 1 (by decide) hf25 (fun _ h9 => h9) rfl dX6_fight_60 ?_
            obtain ⟨q10, hq10, hr⟩ := bd_use hr
            refine pcV_i (As := []) (rest := [.int q5]) S (c_X4_mover l dC dI h_row h_g h_bl h_wh h_ac c_bl c_wh c_ac n_row row_law q7.2.2.2.2.1 row_opener q7.2.2.2.2.2.1 q7.2.2.2.2.2.2.1 g_width g_height g_size g_all g_notFirstColumn g_notLastColumn q7.2.2.2.2.2.2.2.1 q7.2.2.2.2.2.2.2.2.1 q7.2.2.2.2.2.2.2.2.2.1 q10 hq10) (cwV 0 hts gX6_fight_X4_mover rfl rfl rfl (by decide +kernel) ⟨Nat.le_trans (m := rm_X6_fight.frames) (by decide) hRf, Nat.le_trans (m := rm_X6_fight.locals) (by decide) hRl⟩) hN hP hK ⟨Nat.zero_le _, Nat.zero_le _⟩ [2, 1, 3, 4, 5] rfl [0, 1, 2] rfl 2 4 rfl rfl rfl hl.1 rfl (Nat.le_of_ble_eq_true rfl) dX6_fight_63 ?_
            refine lv_icmp_eq (tgt := 80) hx hb dX6_fight_66 (by decide) (fun c11 => ?_) (fun c11 => ?_)
            · have hr := ite_p hr c11
              refine lv_iload hx hb dX6_fight_80 (lv_at hl 0 rfl) ?_
              obtain rfl := Option.some.inj hr
              exact kret _ _ _ _ dX6_fight_82 hP hD hS
            · have hr := ite_n hr c11
              refine lv_aload_n hx hb dX6_fight_69 rfl (lv_at hl 2 rfl) ?_
              refine lv_aload_n hx hb dX6_fight_70 rfl (lv_at hl 2 rfl) ?_
              refine va_get (D := (dC, dI)) (ci := 6) (v := .ref h_fi) (C := RX6) (T := TX6) (N := 7) hx hb hts huX6 hown hK hP 0 rfl rfl 5 (by decide) hf61 (fun _ h9 => h9) rfl dX6_fight_71 ?_
              refine va_get (D := (dC, dI)) (ci := 1) (v := .int q7.2.2.2.1) (C := RX1) (T := TX1) (N := 6) hx hb hts huX1 hown hK hP 13 rfl rfl 5 (by decide) hf168 (fun _ h9 => h9) rfl dX6_fight_74 ?_
              refine lv_topi (fun x12 ex12 => ?_)
              have hr := nm_use hr ex12
              refine va_put (D := (dC, dI)) (ci := 6) (v := .int x12) (ty := .int) (C := RX6) (T := TX6) (N := 7) hx hb hts huX6 tyX6 tyX6_ok nmX6 hown hK hP hD hS 0 rfl rfl 6 (by decide) hf65 (fun _ h9 => h9) rfl (by decide +kernel) rfl rfl (Nat.le_of_ble_eq_true rfl) dX6_fight_77 (fun H locs hP hD hS => ?_)
              have hP : va_P (dC, dI) vwCl (wd_X6 h_eb h_g h_row h_bl h_wh h_ac h_life h_t h_ch h_hrow h_hbl h_hwh h_hac h_fi c_bl c_wh c_ac c_hbl c_hwh c_hac n_row n_hrow x12 g_width g_height g_size g_all g_notFirstColumn g_notLastColumn row_law q7.2.2.2.2.1 row_opener q7.2.2.2.2.2.1 q7.2.2.2.2.2.2.1 q7.2.2.2.2.2.2.2.1 q7.2.2.2.2.2.2.2.2.1 q7.2.2.2.2.2.2.2.2.2.1 q7.2.2.2.2.2.2.2.2.2.2 ch_target ch_chased hrow_law hrow_latest hrow_opener hrow_blackThen hrow_whiteThen hbl hwh hac q7.2.1 q7.2.2.1 q7.2.2.2.1) H := hP
              have hD : va_D A (wd_X6 h_eb h_g h_row h_bl h_wh h_ac h_life h_t h_ch h_hrow h_hbl h_hwh h_hac h_fi c_bl c_wh c_ac c_hbl c_hwh c_hac n_row n_hrow x12 g_width g_height g_size g_all g_notFirstColumn g_notLastColumn row_law q7.2.2.2.2.1 row_opener q7.2.2.2.2.2.1 q7.2.2.2.2.2.2.1 q7.2.2.2.2.2.2.2.1 q7.2.2.2.2.2.2.2.2.1 q7.2.2.2.2.2.2.2.2.2.1 q7.2.2.2.2.2.2.2.2.2.2 ch_target ch_chased hrow_law hrow_latest hrow_opener hrow_blackThen hrow_whiteThen hbl hwh hac q7.2.1 q7.2.2.1 q7.2.2.2.1) := hD
              refine lv_iload hx hb dX6_fight_80 (lv_at hl 0 rfl) ?_
              obtain rfl := Option.some.inj hr
              exact kret _ _ _ _ dX6_fight_82 hP hD hS
        · have hr := ite_p hr c6
          refine lv_bipush (v := (-3 : Int32)) hx hb dX6_fight_38 (by decide) ?_
          obtain rfl := Option.some.inj hr
          exact kret _ _ _ _ dX6_fight_40 hP hD hS
      · have hr := ite_n hr c4
        refine lv_bipush (v := (-2 : Int32)) hx hb dX6_fight_22 (by decide) ?_
        obtain rfl := Option.some.inj hr
        exact kret _ _ _ _ dX6_fight_24 hP hD hS

def f_X6_tries (t_made : Int32)  : Option (Int32) :=
  some (t_made)

abbrev rm_X6_tries : Room := { frames := 0, cells := 0, slots := 0, locals := 0 }
set_option maxHeartbeats 4000000 in
set_option maxRecDepth 100000 in
theorem c_X6_tries (l : Launch) (dC : Nat → ClassId) (dI : Nat → Nat → Nat) (h_eb h_g h_row h_bl h_wh h_ac h_life h_t h_ch h_hrow h_hbl h_hwh h_hac h_fi : Nat) (c_bl c_wh c_ac c_hbl c_hwh c_hac : ClassId) (n_row n_hrow : Nat) (eb_winningAct g_width g_height g_size : Int32) (g_all g_notFirstColumn g_notLastColumn : Int64) (row_law row_latest row_opener : Int32) (row_blackThen row_whiteThen : Int64) (bl wh : Nat → Int64) (ac : Nat → Int32) (t_made ch_target ch_chased hrow_law hrow_latest hrow_opener : Int32) (hrow_blackThen hrow_whiteThen : Int64) (hbl hwh : Nat → Int64) (hac : Nat → Int32) (fi_target fi_attacked fi_decidingAct : Int32)  (q : Int32) (hr : f_X6_tries t_made  = some q) : Met l yX6_tries wsX6_tries rm_X6_tries (PrP (dC, dI) (wd_X6 h_eb h_g h_row h_bl h_wh h_ac h_life h_t h_ch h_hrow h_hbl h_hwh h_hac h_fi c_bl c_wh c_ac c_hbl c_hwh c_hac n_row n_hrow eb_winningAct g_width g_height g_size g_all g_notFirstColumn g_notLastColumn row_law row_latest row_opener row_blackThen row_whiteThen bl wh ac t_made ch_target ch_chased hrow_law hrow_latest hrow_opener hrow_blackThen hrow_whiteThen hbl hwh hac fi_target fi_attacked fi_decidingAct) (td_X6 c_bl c_wh c_ac c_hbl c_hwh c_hac) [.ref h_eb]) (vp_Si (fun x => x = q)) 0 0 (fun _ => False) := by
  refine mkP_i (cc := cX6_tries) (nL := 1) (by decide) rfl (Nat.le_of_ble_eq_true rfl) ?_
  intro p e R s m args below meth c H Q ls hRf hRl S hN hP hK hl kret
  have hl : lv_has ls 1 [(0, .ref h_eb)] := hl
  obtain ⟨hx, hb, hml, hown, hts⟩ := S
  have hown : s.vm.findClass RX6 = some m.cls := hown
  have S : CallFix p m c cX6_tries 1 s args wsX6_tries RX6 := ⟨hx, hb, hml, hown, hts⟩
  have huX6 : ∀ w ∈ u_ws RX6 TX6 7, w ∈ wsX6_tries := by decide +kernel
  have hf45 := hts (.fieldLink RX6 45 "EyeBoard" "tried" "LEyeBoard$Tries;") (by decide +kernel)
  have huX5 : ∀ w ∈ u_ws RX5 TX5 1, w ∈ wsX6_tries := by decide +kernel
  have hf171 := hts (.fieldLink RX6 171 "EyeBoard$Tries" "made" "I") (by decide +kernel)
  unfold f_X6_tries at hr
  refine lv_aload_n hx hb dX6_tries_0 rfl (lv_at hl 0 rfl) ?_
  refine va_get (D := (dC, dI)) (ci := 6) (v := .ref h_t) (C := RX6) (T := TX6) (N := 7) hx hb hts huX6 hown hK hP 0 rfl rfl 3 (by decide) hf45 (fun _ h9 => h9) rfl dX6_tries_1 ?_
  refine va_get (D := (dC, dI)) (ci := 5) (v := .int t_made) (C := RX5) (T := TX5) (N := 1) hx hb hts huX5 hown hK hP 7 rfl rfl 0 (by decide) hf171 (fun _ h9 => h9) rfl dX6_tries_4 ?_
  obtain rfl := Option.some.inj hr
  exact kret _ _ dX6_tries_7

def f_X6_first (eb_winningAct : Int32)  : Option (Int32) :=
  some (eb_winningAct)

abbrev rm_X6_first : Room := { frames := 0, cells := 0, slots := 0, locals := 0 }
set_option maxHeartbeats 4000000 in
set_option maxRecDepth 100000 in
theorem c_X6_first (l : Launch) (dC : Nat → ClassId) (dI : Nat → Nat → Nat) (h_eb h_g h_row h_bl h_wh h_ac h_life h_t h_ch h_hrow h_hbl h_hwh h_hac h_fi : Nat) (c_bl c_wh c_ac c_hbl c_hwh c_hac : ClassId) (n_row n_hrow : Nat) (eb_winningAct g_width g_height g_size : Int32) (g_all g_notFirstColumn g_notLastColumn : Int64) (row_law row_latest row_opener : Int32) (row_blackThen row_whiteThen : Int64) (bl wh : Nat → Int64) (ac : Nat → Int32) (t_made ch_target ch_chased hrow_law hrow_latest hrow_opener : Int32) (hrow_blackThen hrow_whiteThen : Int64) (hbl hwh : Nat → Int64) (hac : Nat → Int32) (fi_target fi_attacked fi_decidingAct : Int32)  (q : Int32) (hr : f_X6_first eb_winningAct  = some q) : Met l yX6_first wsX6_first rm_X6_first (PrP (dC, dI) (wd_X6 h_eb h_g h_row h_bl h_wh h_ac h_life h_t h_ch h_hrow h_hbl h_hwh h_hac h_fi c_bl c_wh c_ac c_hbl c_hwh c_hac n_row n_hrow eb_winningAct g_width g_height g_size g_all g_notFirstColumn g_notLastColumn row_law row_latest row_opener row_blackThen row_whiteThen bl wh ac t_made ch_target ch_chased hrow_law hrow_latest hrow_opener hrow_blackThen hrow_whiteThen hbl hwh hac fi_target fi_attacked fi_decidingAct) (td_X6 c_bl c_wh c_ac c_hbl c_hwh c_hac) [.ref h_eb]) (vp_Si (fun x => x = q)) 0 0 (fun _ => False) := by
  refine mkP_i (cc := cX6_first) (nL := 1) (by decide) rfl (Nat.le_of_ble_eq_true rfl) ?_
  intro p e R s m args below meth c H Q ls hRf hRl S hN hP hK hl kret
  have hl : lv_has ls 1 [(0, .ref h_eb)] := hl
  obtain ⟨hx, hb, hml, hown, hts⟩ := S
  have hown : s.vm.findClass RX6 = some m.cls := hown
  have S : CallFix p m c cX6_first 1 s args wsX6_first RX6 := ⟨hx, hb, hml, hown, hts⟩
  have huX6 : ∀ w ∈ u_ws RX6 TX6 7, w ∈ wsX6_first := by decide +kernel
  have hf65 := hts (.fieldLink RX6 65 "EyeBoard" "winningAct" "I") (by decide +kernel)
  unfold f_X6_first at hr
  refine lv_aload_n hx hb dX6_first_0 rfl (lv_at hl 0 rfl) ?_
  refine va_get (D := (dC, dI)) (ci := 6) (v := .int eb_winningAct) (C := RX6) (T := TX6) (N := 7) hx hb hts huX6 hown hK hP 0 rfl rfl 6 (by decide) hf65 (fun _ h9 => h9) rfl dX6_first_1 ?_
  obtain rfl := Option.some.inj hr
  exact kret _ _ dX6_first_4

def f_X6_points (n_row : Nat) (g_width : Int32) (g_size : Int32) (g_all : Int64) (g_notFirstColumn : Int64) (g_notLastColumn : Int64) (row_latest : Int32) (bl : Nat → Int64) (wh : Nat → Int64) (a0 : Int32) (a1 : Int32) : Option (Int32) :=
  (f_X6_isColour a0).bind fun q1 =>
  if q1 = 0 then (
    some ((-2 : Int32))
  )
  else (
    if a1 < 0 then (
      some ((-2 : Int32))
    )
    else (
      if a1 ≤ (1 : Int32) then (
        (f_X4_stonesOf n_row row_latest bl wh a0).bind fun q5 =>
        (f_X6_other a0).bind fun q6 =>
        (f_X4_stonesOf n_row row_latest bl wh q6).bind fun q7 =>
        (f_X2_freeOf g_width g_size g_all g_notFirstColumn g_notLastColumn q5 q7).bind fun q8 =>
        (f_J13_bitCount_95d88 q8).bind fun q9 =>
        if a1 = 0 then (
          (f_X6_other a0).bind fun q12 =>
          (f_X4_taken n_row row_latest bl wh q12).bind fun q13 =>
          some (q9 + q13)
        )
        else (
          (f_J13_bitCount_95d88 q5).bind fun q11 =>
          some (q9 + q11)
        )
      )
      else (
        some ((-2 : Int32))
      )
    )
  )

abbrev rm_X6_points : Room := { frames := 4, cells := 0, slots := 0, locals := 115 }
set_option maxHeartbeats 4000000 in
set_option maxRecDepth 100000 in
theorem c_X6_points (l : Launch) (dC : Nat → ClassId) (dI : Nat → Nat → Nat) (h_eb h_g h_row h_bl h_wh h_ac h_life h_t h_ch h_hrow h_hbl h_hwh h_hac h_fi : Nat) (c_bl c_wh c_ac c_hbl c_hwh c_hac : ClassId) (n_row n_hrow : Nat) (eb_winningAct g_width g_height g_size : Int32) (g_all g_notFirstColumn g_notLastColumn : Int64) (row_law row_latest row_opener : Int32) (row_blackThen row_whiteThen : Int64) (bl wh : Nat → Int64) (ac : Nat → Int32) (t_made ch_target ch_chased hrow_law hrow_latest hrow_opener : Int32) (hrow_blackThen hrow_whiteThen : Int64) (hbl hwh : Nat → Int64) (hac : Nat → Int32) (fi_target fi_attacked fi_decidingAct : Int32) (a0 : Int32) (a1 : Int32) (q : Int32) (hr : f_X6_points n_row g_width g_size g_all g_notFirstColumn g_notLastColumn row_latest bl wh a0 a1 = some q) : Met l yX6_points wsX6_points rm_X6_points (PrP (dC, dI) (wd_X6 h_eb h_g h_row h_bl h_wh h_ac h_life h_t h_ch h_hrow h_hbl h_hwh h_hac h_fi c_bl c_wh c_ac c_hbl c_hwh c_hac n_row n_hrow eb_winningAct g_width g_height g_size g_all g_notFirstColumn g_notLastColumn row_law row_latest row_opener row_blackThen row_whiteThen bl wh ac t_made ch_target ch_chased hrow_law hrow_latest hrow_opener hrow_blackThen hrow_whiteThen hbl hwh hac fi_target fi_attacked fi_decidingAct) (td_X6 c_bl c_wh c_ac c_hbl c_hwh c_hac) [.ref h_eb, .int a0, .int a1]) (vp_Si (fun x => x = q)) 0 0 (fun _ => False) := by
  refine mkP_i (cc := cX6_points) (nL := 8) (by decide) rfl (Nat.le_of_ble_eq_true rfl) ?_
  intro p e R s m args below meth c H Q ls hRf hRl S hN hP hK hl kret
  have hl : lv_has ls 8 [(0, .ref h_eb), (1, .int a0), (2, .int a1)] := hl
  obtain ⟨hx, hb, hml, hown, hts⟩ := S
  have hown : s.vm.findClass RX6 = some m.cls := hown
  have S : CallFix p m c cX6_points 8 s args wsX6_points RX6 := ⟨hx, hb, hml, hown, hts⟩
  have huX6 : ∀ w ∈ u_ws RX6 TX6 7, w ∈ wsX6_points := by decide +kernel
  have hf25 := hts (.fieldLink RX6 25 "EyeBoard" "row" "LEyeBoard$Row;") (by decide +kernel)
  have hf12 := hts (.fieldLink RX6 12 "EyeBoard" "grid" "LEyeBoard$Grid;") (by decide +kernel)
  unfold f_X6_points at hr
  refine lv_iload_n hx hb dX6_points_0 rfl (lv_at hl 1 rfl) ?_
  obtain ⟨q1, hq1, hr⟩ := bd_use hr
  refine pcS_i (As := [.int a0]) (rest := []) S (c_X6_isColour l dC dI a0 q1 hq1) (va_cwS 1 hts gX6_points_X6_isColour rfl rfl rfl (by decide +kernel) ⟨Nat.le_trans (m := rm_X6_points.frames) (by decide) hRf, Nat.le_trans (m := rm_X6_points.locals) (by decide) hRl⟩) hN hP hK ⟨Nat.zero_le _, Nat.zero_le _⟩ rfl hl.1 rfl (Nat.le_of_ble_eq_true rfl) dX6_points_1 ?_
  refine lv_if_eq (tgt := 16) hx hb dX6_points_4 (by decide) (fun c2 => ?_) (fun c2 => ?_)
  · have hr := ite_p hr c2
    refine lv_bipush (v := (-2 : Int32)) hx hb dX6_points_16 (by decide) ?_
    obtain rfl := Option.some.inj hr
    exact kret _ _ dX6_points_18
  · have hr := ite_n hr c2
    refine lv_iload_n hx hb dX6_points_7 rfl (lv_at hl 2 rfl) ?_
    refine lv_if_lt (tgt := 16) hx hb dX6_points_8 (by decide) (fun c3 => ?_) (fun c3 => ?_)
    · have hr := ite_p hr c3
      refine lv_bipush (v := (-2 : Int32)) hx hb dX6_points_16 (by decide) ?_
      obtain rfl := Option.some.inj hr
      exact kret _ _ dX6_points_18
    · have hr := ite_n hr c3
      refine lv_iload_n hx hb dX6_points_11 rfl (lv_at hl 2 rfl) ?_
      refine lv_iconst (v := (1 : Int32)) hx hb dX6_points_12 (by decide) ?_
      refine lv_icmp_le (tgt := 19) hx hb dX6_points_13 (by decide) (fun c4 => ?_) (fun c4 => ?_)
      · have hr := ite_p hr c4
        refine lv_aload_n hx hb dX6_points_19 rfl (lv_at hl 0 rfl) ?_
        refine va_get (D := (dC, dI)) (ci := 6) (v := .ref h_row) (C := RX6) (T := TX6) (N := 7) hx hb hts huX6 hown hK hP 0 rfl rfl 1 (by decide) hf25 (fun _ h9 => h9) rfl dX6_points_20 ?_
        refine lv_iload_n hx hb dX6_points_23 rfl (lv_at hl 1 rfl) ?_
        obtain ⟨q5, hq5, hr⟩ := bd_use hr
        refine pcV_l (As := [.int a0]) (rest := []) S (c_X4_stonesOf l dC dI h_row h_g h_bl h_wh h_ac c_bl c_wh c_ac n_row row_law row_latest row_opener row_blackThen row_whiteThen g_width g_height g_size g_all g_notFirstColumn g_notLastColumn bl wh ac a0 q5 hq5) (cwV 1 hts gX6_points_X4_stonesOf rfl rfl rfl (by decide +kernel) ⟨Nat.le_trans (m := rm_X6_points.frames) (by decide) hRf, Nat.le_trans (m := rm_X6_points.locals) (by decide) hRl⟩) hN hP hK ⟨Nat.zero_le _, Nat.zero_le _⟩ [2, 1, 3, 4, 5] rfl [0, 1, 2] rfl 2 4 rfl rfl rfl hl.1 rfl (Nat.le_of_ble_eq_true rfl) dX6_points_24 ?_
        refine lv_lstore_n (lv' := [(3, .long q5), (0, .ref h_eb), (1, .int a0), (2, .int a1)]) hx hb dX6_points_27 rfl hl (by decide) rfl (fun ls hl => ?_)
        refine lv_aload_n hx hb dX6_points_28 rfl (lv_at hl 1 rfl) ?_
        refine va_get (D := (dC, dI)) (ci := 6) (v := .ref h_row) (C := RX6) (T := TX6) (N := 7) hx hb hts huX6 hown hK hP 0 rfl rfl 1 (by decide) hf25 (fun _ h9 => h9) rfl dX6_points_29 ?_
        refine lv_iload_n hx hb dX6_points_32 rfl (lv_at hl 2 rfl) ?_
        obtain ⟨q6, hq6, hr⟩ := bd_use hr
        refine pcS_i (As := [.int a0]) (rest := [.ref h_row]) S (c_X6_other l dC dI a0 q6 hq6) (va_cwS 1 hts gX6_points_X6_other rfl rfl rfl (by decide +kernel) ⟨Nat.le_trans (m := rm_X6_points.frames) (by decide) hRf, Nat.le_trans (m := rm_X6_points.locals) (by decide) hRl⟩) hN hP hK ⟨Nat.zero_le _, Nat.zero_le _⟩ rfl hl.1 rfl (Nat.le_of_ble_eq_true rfl) dX6_points_33 ?_
        obtain ⟨q7, hq7, hr⟩ := bd_use hr
        refine pcV_l (As := [.int q6]) (rest := []) S (c_X4_stonesOf l dC dI h_row h_g h_bl h_wh h_ac c_bl c_wh c_ac n_row row_law row_latest row_opener row_blackThen row_whiteThen g_width g_height g_size g_all g_notFirstColumn g_notLastColumn bl wh ac q6 q7 hq7) (cwV 1 hts gX6_points_X4_stonesOf rfl rfl rfl (by decide +kernel) ⟨Nat.le_trans (m := rm_X6_points.frames) (by decide) hRf, Nat.le_trans (m := rm_X6_points.locals) (by decide) hRl⟩) hN hP hK ⟨Nat.zero_le _, Nat.zero_le _⟩ [2, 1, 3, 4, 5] rfl [0, 1, 2] rfl 2 4 rfl rfl rfl hl.1 rfl (Nat.le_of_ble_eq_true rfl) dX6_points_36 ?_
        refine lv_lstore (lv' := [(5, .long q7), (3, .long q5), (0, .ref h_eb), (1, .int a0), (2, .int a1)]) hx hb dX6_points_39 hl (by decide) rfl (fun ls hl => ?_)
        refine lv_aload_n hx hb dX6_points_41 rfl (lv_at hl 2 rfl) ?_
        refine va_get (D := (dC, dI)) (ci := 6) (v := .ref h_g) (C := RX6) (T := TX6) (N := 7) hx hb hts huX6 hown hK hP 0 rfl rfl 0 (by decide) hf12 (fun _ h9 => h9) rfl dX6_points_42 ?_
        refine lv_lload_n hx hb dX6_points_45 rfl (lv_at hl 1 rfl) ?_
        refine lv_lload hx hb dX6_points_46 (lv_at hl 0 rfl) ?_
        obtain ⟨q8, hq8, hr⟩ := bd_use hr
        refine pcV_l (As := [.long q5, .long q7]) (rest := []) S (c_X2_freeOf l dC dI h_g g_width g_height g_size g_all g_notFirstColumn g_notLastColumn q5 q7 q8 hq8) (cwV 2 hts gX6_points_X2_freeOf rfl rfl rfl (by decide +kernel) ⟨Nat.le_trans (m := rm_X6_points.frames) (by decide) hRf, Nat.le_trans (m := rm_X6_points.locals) (by decide) hRl⟩) hN hP hK ⟨Nat.zero_le _, Nat.zero_le _⟩ [1] rfl [] rfl 1 2 rfl rfl rfl hl.1 rfl (Nat.le_of_ble_eq_true rfl) dX6_points_48 ?_
        obtain ⟨q9, hq9, hr⟩ := bd_use hr
        refine pcS_i (As := [.long q8]) (rest := []) S (c_J13_bitCount_95d88 l dC dI q8 q9 hq9) (va_cwS 1 hts gX6_points_J13_bitCount_95d88 rfl rfl rfl (by decide +kernel) ⟨Nat.le_trans (m := rm_X6_points.frames) (by decide) hRf, Nat.le_trans (m := rm_X6_points.locals) (by decide) hRl⟩) hN hP hK ⟨Nat.zero_le _, Nat.zero_le _⟩ rfl hl.1 rfl (Nat.le_of_ble_eq_true rfl) dX6_points_51 ?_
        refine lv_istore (lv' := [(7, .int q9), (5, .long q7), (3, .long q5), (0, .ref h_eb), (1, .int a0), (2, .int a1)]) hx hb dX6_points_54 hl (by decide) rfl (fun ls hl => ?_)
        refine lv_iload hx hb dX6_points_56 (lv_at hl 0 rfl) ?_
        refine lv_iload_n hx hb dX6_points_58 rfl (lv_at hl 5 rfl) ?_
        refine lv_if_ne (tgt := 76) hx hb dX6_points_59 (by decide) (fun c10 => ?_) (fun c10 => ?_)
        · have hr := ite_n hr c10
          refine lv_lload_n hx hb dX6_points_76 rfl (lv_at hl 2 rfl) ?_
          obtain ⟨q11, hq11, hr⟩ := bd_use hr
          refine pcS_i (As := [.long q5]) (rest := [.int q9]) S (c_J13_bitCount_95d88 l dC dI q5 q11 hq11) (va_cwS 1 hts gX6_points_J13_bitCount_95d88 rfl rfl rfl (by decide +kernel) ⟨Nat.le_trans (m := rm_X6_points.frames) (by decide) hRf, Nat.le_trans (m := rm_X6_points.locals) (by decide) hRl⟩) hN hP hK ⟨Nat.zero_le _, Nat.zero_le _⟩ rfl hl.1 rfl (Nat.le_of_ble_eq_true rfl) dX6_points_77 ?_
          refine lv_iadd hx hb dX6_points_80 ?_
          obtain rfl := Option.some.inj hr
          exact kret _ _ dX6_points_81
        · have hr := ite_p hr c10
          refine lv_aload_n hx hb dX6_points_62 rfl (lv_at hl 3 rfl) ?_
          refine va_get (D := (dC, dI)) (ci := 6) (v := .ref h_row) (C := RX6) (T := TX6) (N := 7) hx hb hts huX6 hown hK hP 0 rfl rfl 1 (by decide) hf25 (fun _ h9 => h9) rfl dX6_points_63 ?_
          refine lv_iload_n hx hb dX6_points_66 rfl (lv_at hl 4 rfl) ?_
          obtain ⟨q12, hq12, hr⟩ := bd_use hr
          refine pcS_i (As := [.int a0]) (rest := [.ref h_row, .int q9]) S (c_X6_other l dC dI a0 q12 hq12) (va_cwS 1 hts gX6_points_X6_other rfl rfl rfl (by decide +kernel) ⟨Nat.le_trans (m := rm_X6_points.frames) (by decide) hRf, Nat.le_trans (m := rm_X6_points.locals) (by decide) hRl⟩) hN hP hK ⟨Nat.zero_le _, Nat.zero_le _⟩ rfl hl.1 rfl (Nat.le_of_ble_eq_true rfl) dX6_points_67 ?_
          obtain ⟨q13, hq13, hr⟩ := bd_use hr
          refine pcV_i (As := [.int q12]) (rest := [.int q9]) S (c_X4_taken l dC dI h_row h_g h_bl h_wh h_ac c_bl c_wh c_ac n_row row_law row_latest row_opener row_blackThen row_whiteThen g_width g_height g_size g_all g_notFirstColumn g_notLastColumn bl wh ac q12 q13 hq13) (cwV 1 hts gX6_points_X4_taken rfl rfl rfl (by decide +kernel) ⟨Nat.le_trans (m := rm_X6_points.frames) (by decide) hRf, Nat.le_trans (m := rm_X6_points.locals) (by decide) hRl⟩) hN hP hK ⟨Nat.zero_le _, Nat.zero_le _⟩ [2, 1, 3, 4, 5] rfl [0, 1, 2] rfl 2 4 rfl rfl rfl hl.1 rfl (Nat.le_of_ble_eq_true rfl) dX6_points_70 ?_
          refine lv_goto (tgt := 80) hx hb dX6_points_73 (by decide) ?_
          refine lv_iadd hx hb dX6_points_80 ?_
          obtain rfl := Option.some.inj hr
          exact kret _ _ dX6_points_81
      · have hr := ite_n hr c4
        refine lv_bipush (v := (-2 : Int32)) hx hb dX6_points_16 (by decide) ?_
        obtain rfl := Option.some.inj hr
        exact kret _ _ dX6_points_18

def f_X6_count (n_row : Nat) (g_width : Int32) (g_height : Int32) (g_size : Int32) (row_law : Int32) (row_latest : Int32) (row_opener : Int32) (bl : Nat → Int64) (wh : Nat → Int64) (ac : Nat → Int32) (a0 : Int32) : Option (Int32) :=
  if a0 < 0 then (
    some ((-2 : Int32))
  )
  else (
    if a0 ≤ (9 : Int32) then (
      if a0 = 0 then (
        some (row_latest)
      )
      else (
      if a0 = 1 then (
        (f_X4_mover row_latest row_opener).bind fun q5 =>
        some (q5)
      )
      else (
      if a0 = 2 then (
        (f_X4_stonesOf n_row row_latest bl wh (1 : Int32)).bind fun q7 =>
        (f_J13_bitCount_95d88 q7).bind fun q8 =>
        some (q8)
      )
      else (
      if a0 = 3 then (
        (f_X4_stonesOf n_row row_latest bl wh (2 : Int32)).bind fun q10 =>
        (f_J13_bitCount_95d88 q10).bind fun q11 =>
        some (q11)
      )
      else (
      if a0 = 4 then (
        (f_X4_taken n_row row_latest bl wh (1 : Int32)).bind fun q13 =>
        some (q13)
      )
      else (
      if a0 = 5 then (
        (f_X4_taken n_row row_latest bl wh (2 : Int32)).bind fun q15 =>
        some (q15)
      )
      else (
      if a0 = 6 then (
        (f_X4_passesNow n_row row_latest g_size ac).bind fun q17 =>
        some (q17)
      )
      else (
      if a0 = 7 then (
        some (g_width)
      )
      else (
      if a0 = 8 then (
        some (g_height)
      )
      else (
      some (row_law))))))))))
    )
    else (
      some ((-2 : Int32))
    )
  )

abbrev rm_X6_count : Room := { frames := 3, cells := 0, slots := 0, locals := 68 }
set_option maxHeartbeats 4000000 in
set_option maxRecDepth 100000 in
theorem c_X6_count (l : Launch) (dC : Nat → ClassId) (dI : Nat → Nat → Nat) (h_eb h_g h_row h_bl h_wh h_ac h_life h_t h_ch h_hrow h_hbl h_hwh h_hac h_fi : Nat) (c_bl c_wh c_ac c_hbl c_hwh c_hac : ClassId) (n_row n_hrow : Nat) (eb_winningAct g_width g_height g_size : Int32) (g_all g_notFirstColumn g_notLastColumn : Int64) (row_law row_latest row_opener : Int32) (row_blackThen row_whiteThen : Int64) (bl wh : Nat → Int64) (ac : Nat → Int32) (t_made ch_target ch_chased hrow_law hrow_latest hrow_opener : Int32) (hrow_blackThen hrow_whiteThen : Int64) (hbl hwh : Nat → Int64) (hac : Nat → Int32) (fi_target fi_attacked fi_decidingAct : Int32) (a0 : Int32) (q : Int32) (hr : f_X6_count n_row g_width g_height g_size row_law row_latest row_opener bl wh ac a0 = some q) : Met l yX6_count wsX6_count rm_X6_count (PrP (dC, dI) (wd_X6 h_eb h_g h_row h_bl h_wh h_ac h_life h_t h_ch h_hrow h_hbl h_hwh h_hac h_fi c_bl c_wh c_ac c_hbl c_hwh c_hac n_row n_hrow eb_winningAct g_width g_height g_size g_all g_notFirstColumn g_notLastColumn row_law row_latest row_opener row_blackThen row_whiteThen bl wh ac t_made ch_target ch_chased hrow_law hrow_latest hrow_opener hrow_blackThen hrow_whiteThen hbl hwh hac fi_target fi_attacked fi_decidingAct) (td_X6 c_bl c_wh c_ac c_hbl c_hwh c_hac) [.ref h_eb, .int a0]) (vp_Si (fun x => x = q)) 0 0 (fun _ => False) := by
  refine mkP_i (cc := cX6_count) (nL := 2) (by decide) rfl (Nat.le_of_ble_eq_true rfl) ?_
  intro p e R s m args below meth c H Q ls hRf hRl S hN hP hK hl kret
  have hl : lv_has ls 2 [(0, .ref h_eb), (1, .int a0)] := hl
  obtain ⟨hx, hb, hml, hown, hts⟩ := S
  have hown : s.vm.findClass RX6 = some m.cls := hown
  have S : CallFix p m c cX6_count 2 s args wsX6_count RX6 := ⟨hx, hb, hml, hown, hts⟩
  have huX6 : ∀ w ∈ u_ws RX6 TX6 7, w ∈ wsX6_count := by decide +kernel
  have hf25 := hts (.fieldLink RX6 25 "EyeBoard" "row" "LEyeBoard$Row;") (by decide +kernel)
  have huX4 : ∀ w ∈ u_ws RX4 TX4 9, w ∈ wsX6_count := by decide +kernel
  have hf73 := hts (.fieldLink RX6 73 "EyeBoard$Row" "latest" "I") (by decide +kernel)
  have hf12 := hts (.fieldLink RX6 12 "EyeBoard" "grid" "LEyeBoard$Grid;") (by decide +kernel)
  have huX2 : ∀ w ∈ u_ws RX2 TX2 6, w ∈ wsX6_count := by decide +kernel
  have hf183 := hts (.fieldLink RX6 183 "EyeBoard$Grid" "width" "I") (by decide +kernel)
  have hf186 := hts (.fieldLink RX6 186 "EyeBoard$Grid" "height" "I") (by decide +kernel)
  have hf96 := hts (.fieldLink RX6 96 "EyeBoard$Row" "law" "I") (by decide +kernel)
  unfold f_X6_count at hr
  refine lv_iload_n hx hb dX6_count_0 rfl (lv_at hl 1 rfl) ?_
  refine lv_if_lt (tgt := 10) hx hb dX6_count_1 (by decide) (fun c1 => ?_) (fun c1 => ?_)
  · have hr := ite_p hr c1
    refine lv_bipush (v := (-2 : Int32)) hx hb dX6_count_10 (by decide) ?_
    obtain rfl := Option.some.inj hr
    exact kret _ _ dX6_count_12
  · have hr := ite_n hr c1
    refine lv_iload_n hx hb dX6_count_4 rfl (lv_at hl 1 rfl) ?_
    refine lv_bipush (v := (9 : Int32)) hx hb dX6_count_5 (by decide) ?_
    refine lv_icmp_le (tgt := 13) hx hb dX6_count_7 (by decide) (fun c2 => ?_) (fun c2 => ?_)
    · have hr := ite_p hr c2
      refine lv_iload_n hx hb dX6_count_13 rfl (lv_at hl 1 rfl) ?_
      by_cases c3 : a0 = 0
      · have hr := ite_p hr c3
        refine lv_tableIn (off := 50) (tgt := 64) hx hb dX6_count_14 (by rw [c3]; decide) (by rw [c3]; decide) (by rw [c3]; rfl) (by decide) ?_
        refine lv_aload_n hx hb dX6_count_64 rfl (lv_at hl 0 rfl) ?_
        refine va_get (D := (dC, dI)) (ci := 6) (v := .ref h_row) (C := RX6) (T := TX6) (N := 7) hx hb hts huX6 hown hK hP 0 rfl rfl 1 (by decide) hf25 (fun _ h9 => h9) rfl dX6_count_65 ?_
        refine va_get (D := (dC, dI)) (ci := 4) (v := .int row_latest) (C := RX4) (T := TX4) (N := 9) hx hb hts huX4 hown hK hP 2 rfl rfl 5 (by decide) hf73 (fun _ h9 => h9) rfl dX6_count_68 ?_
        obtain rfl := Option.some.inj hr
        exact kret _ _ dX6_count_71
      have hr := ite_n hr c3
      by_cases c4 : a0 = 1
      · have hr := ite_p hr c4
        refine lv_tableIn (off := 58) (tgt := 72) hx hb dX6_count_14 (by rw [c4]; decide) (by rw [c4]; decide) (by rw [c4]; rfl) (by decide) ?_
        refine lv_aload_n hx hb dX6_count_72 rfl (lv_at hl 0 rfl) ?_
        refine va_get (D := (dC, dI)) (ci := 6) (v := .ref h_row) (C := RX6) (T := TX6) (N := 7) hx hb hts huX6 hown hK hP 0 rfl rfl 1 (by decide) hf25 (fun _ h9 => h9) rfl dX6_count_73 ?_
        obtain ⟨q5, hq5, hr⟩ := bd_use hr
        refine pcV_i (As := []) (rest := []) S (c_X4_mover l dC dI h_row h_g h_bl h_wh h_ac c_bl c_wh c_ac n_row row_law row_latest row_opener row_blackThen row_whiteThen g_width g_height g_size g_all g_notFirstColumn g_notLastColumn bl wh ac q5 hq5) (cwV 0 hts gX6_count_X4_mover rfl rfl rfl (by decide +kernel) ⟨Nat.le_trans (m := rm_X6_count.frames) (by decide) hRf, Nat.le_trans (m := rm_X6_count.locals) (by decide) hRl⟩) hN hP hK ⟨Nat.zero_le _, Nat.zero_le _⟩ [2, 1, 3, 4, 5] rfl [0, 1, 2] rfl 2 4 rfl rfl rfl hl.1 rfl (Nat.le_of_ble_eq_true rfl) dX6_count_76 ?_
        obtain rfl := Option.some.inj hr
        exact kret _ _ dX6_count_79
      have hr := ite_n hr c4
      by_cases c6 : a0 = 2
      · have hr := ite_p hr c6
        refine lv_tableIn (off := 66) (tgt := 80) hx hb dX6_count_14 (by rw [c6]; decide) (by rw [c6]; decide) (by rw [c6]; rfl) (by decide) ?_
        refine lv_aload_n hx hb dX6_count_80 rfl (lv_at hl 0 rfl) ?_
        refine va_get (D := (dC, dI)) (ci := 6) (v := .ref h_row) (C := RX6) (T := TX6) (N := 7) hx hb hts huX6 hown hK hP 0 rfl rfl 1 (by decide) hf25 (fun _ h9 => h9) rfl dX6_count_81 ?_
        refine lv_iconst (v := (1 : Int32)) hx hb dX6_count_84 (by decide) ?_
        obtain ⟨q7, hq7, hr⟩ := bd_use hr
        refine pcV_l (As := [.int (1 : Int32)]) (rest := []) S (c_X4_stonesOf l dC dI h_row h_g h_bl h_wh h_ac c_bl c_wh c_ac n_row row_law row_latest row_opener row_blackThen row_whiteThen g_width g_height g_size g_all g_notFirstColumn g_notLastColumn bl wh ac (1 : Int32) q7 hq7) (cwV 1 hts gX6_count_X4_stonesOf rfl rfl rfl (by decide +kernel) ⟨Nat.le_trans (m := rm_X6_count.frames) (by decide) hRf, Nat.le_trans (m := rm_X6_count.locals) (by decide) hRl⟩) hN hP hK ⟨Nat.zero_le _, Nat.zero_le _⟩ [2, 1, 3, 4, 5] rfl [0, 1, 2] rfl 2 4 rfl rfl rfl hl.1 rfl (Nat.le_of_ble_eq_true rfl) dX6_count_85 ?_
        obtain ⟨q8, hq8, hr⟩ := bd_use hr
        refine pcS_i (As := [.long q7]) (rest := []) S (c_J13_bitCount_95d88 l dC dI q7 q8 hq8) (va_cwS 1 hts gX6_count_J13_bitCount_95d88 rfl rfl rfl (by decide +kernel) ⟨Nat.le_trans (m := rm_X6_count.frames) (by decide) hRf, Nat.le_trans (m := rm_X6_count.locals) (by decide) hRl⟩) hN hP hK ⟨Nat.zero_le _, Nat.zero_le _⟩ rfl hl.1 rfl (Nat.le_of_ble_eq_true rfl) dX6_count_88 ?_
        obtain rfl := Option.some.inj hr
        exact kret _ _ dX6_count_91
      have hr := ite_n hr c6
      by_cases c9 : a0 = 3
      · have hr := ite_p hr c9
        refine lv_tableIn (off := 78) (tgt := 92) hx hb dX6_count_14 (by rw [c9]; decide) (by rw [c9]; decide) (by rw [c9]; rfl) (by decide) ?_
        refine lv_aload_n hx hb dX6_count_92 rfl (lv_at hl 0 rfl) ?_
        refine va_get (D := (dC, dI)) (ci := 6) (v := .ref h_row) (C := RX6) (T := TX6) (N := 7) hx hb hts huX6 hown hK hP 0 rfl rfl 1 (by decide) hf25 (fun _ h9 => h9) rfl dX6_count_93 ?_
        refine lv_iconst (v := (2 : Int32)) hx hb dX6_count_96 (by decide) ?_
        obtain ⟨q10, hq10, hr⟩ := bd_use hr
        refine pcV_l (As := [.int (2 : Int32)]) (rest := []) S (c_X4_stonesOf l dC dI h_row h_g h_bl h_wh h_ac c_bl c_wh c_ac n_row row_law row_latest row_opener row_blackThen row_whiteThen g_width g_height g_size g_all g_notFirstColumn g_notLastColumn bl wh ac (2 : Int32) q10 hq10) (cwV 1 hts gX6_count_X4_stonesOf rfl rfl rfl (by decide +kernel) ⟨Nat.le_trans (m := rm_X6_count.frames) (by decide) hRf, Nat.le_trans (m := rm_X6_count.locals) (by decide) hRl⟩) hN hP hK ⟨Nat.zero_le _, Nat.zero_le _⟩ [2, 1, 3, 4, 5] rfl [0, 1, 2] rfl 2 4 rfl rfl rfl hl.1 rfl (Nat.le_of_ble_eq_true rfl) dX6_count_97 ?_
        obtain ⟨q11, hq11, hr⟩ := bd_use hr
        refine pcS_i (As := [.long q10]) (rest := []) S (c_J13_bitCount_95d88 l dC dI q10 q11 hq11) (va_cwS 1 hts gX6_count_J13_bitCount_95d88 rfl rfl rfl (by decide +kernel) ⟨Nat.le_trans (m := rm_X6_count.frames) (by decide) hRf, Nat.le_trans (m := rm_X6_count.locals) (by decide) hRl⟩) hN hP hK ⟨Nat.zero_le _, Nat.zero_le _⟩ rfl hl.1 rfl (Nat.le_of_ble_eq_true rfl) dX6_count_100 ?_
        obtain rfl := Option.some.inj hr
        exact kret _ _ dX6_count_103
      have hr := ite_n hr c9
      by_cases c12 : a0 = 4
      · have hr := ite_p hr c12
        refine lv_tableIn (off := 90) (tgt := 104) hx hb dX6_count_14 (by rw [c12]; decide) (by rw [c12]; decide) (by rw [c12]; rfl) (by decide) ?_
        refine lv_aload_n hx hb dX6_count_104 rfl (lv_at hl 0 rfl) ?_
        refine va_get (D := (dC, dI)) (ci := 6) (v := .ref h_row) (C := RX6) (T := TX6) (N := 7) hx hb hts huX6 hown hK hP 0 rfl rfl 1 (by decide) hf25 (fun _ h9 => h9) rfl dX6_count_105 ?_
        refine lv_iconst (v := (1 : Int32)) hx hb dX6_count_108 (by decide) ?_
        obtain ⟨q13, hq13, hr⟩ := bd_use hr
        refine pcV_i (As := [.int (1 : Int32)]) (rest := []) S (c_X4_taken l dC dI h_row h_g h_bl h_wh h_ac c_bl c_wh c_ac n_row row_law row_latest row_opener row_blackThen row_whiteThen g_width g_height g_size g_all g_notFirstColumn g_notLastColumn bl wh ac (1 : Int32) q13 hq13) (cwV 1 hts gX6_count_X4_taken rfl rfl rfl (by decide +kernel) ⟨Nat.le_trans (m := rm_X6_count.frames) (by decide) hRf, Nat.le_trans (m := rm_X6_count.locals) (by decide) hRl⟩) hN hP hK ⟨Nat.zero_le _, Nat.zero_le _⟩ [2, 1, 3, 4, 5] rfl [0, 1, 2] rfl 2 4 rfl rfl rfl hl.1 rfl (Nat.le_of_ble_eq_true rfl) dX6_count_109 ?_
        obtain rfl := Option.some.inj hr
        exact kret _ _ dX6_count_112
      have hr := ite_n hr c12
      by_cases c14 : a0 = 5
      · have hr := ite_p hr c14
        refine lv_tableIn (off := 99) (tgt := 113) hx hb dX6_count_14 (by rw [c14]; decide) (by rw [c14]; decide) (by rw [c14]; rfl) (by decide) ?_
        refine lv_aload_n hx hb dX6_count_113 rfl (lv_at hl 0 rfl) ?_
        refine va_get (D := (dC, dI)) (ci := 6) (v := .ref h_row) (C := RX6) (T := TX6) (N := 7) hx hb hts huX6 hown hK hP 0 rfl rfl 1 (by decide) hf25 (fun _ h9 => h9) rfl dX6_count_114 ?_
        refine lv_iconst (v := (2 : Int32)) hx hb dX6_count_117 (by decide) ?_
        obtain ⟨q15, hq15, hr⟩ := bd_use hr
        refine pcV_i (As := [.int (2 : Int32)]) (rest := []) S (c_X4_taken l dC dI h_row h_g h_bl h_wh h_ac c_bl c_wh c_ac n_row row_law row_latest row_opener row_blackThen row_whiteThen g_width g_height g_size g_all g_notFirstColumn g_notLastColumn bl wh ac (2 : Int32) q15 hq15) (cwV 1 hts gX6_count_X4_taken rfl rfl rfl (by decide +kernel) ⟨Nat.le_trans (m := rm_X6_count.frames) (by decide) hRf, Nat.le_trans (m := rm_X6_count.locals) (by decide) hRl⟩) hN hP hK ⟨Nat.zero_le _, Nat.zero_le _⟩ [2, 1, 3, 4, 5] rfl [0, 1, 2] rfl 2 4 rfl rfl rfl hl.1 rfl (Nat.le_of_ble_eq_true rfl) dX6_count_118 ?_
        obtain rfl := Option.some.inj hr
        exact kret _ _ dX6_count_121
      have hr := ite_n hr c14
      by_cases c16 : a0 = 6
      · have hr := ite_p hr c16
        refine lv_tableIn (off := 108) (tgt := 122) hx hb dX6_count_14 (by rw [c16]; decide) (by rw [c16]; decide) (by rw [c16]; rfl) (by decide) ?_
        refine lv_aload_n hx hb dX6_count_122 rfl (lv_at hl 0 rfl) ?_
        refine va_get (D := (dC, dI)) (ci := 6) (v := .ref h_row) (C := RX6) (T := TX6) (N := 7) hx hb hts huX6 hown hK hP 0 rfl rfl 1 (by decide) hf25 (fun _ h9 => h9) rfl dX6_count_123 ?_
        obtain ⟨q17, hq17, hr⟩ := bd_use hr
        refine pcV_i (As := []) (rest := []) S (c_X4_passesNow l dC dI h_row h_g h_bl h_wh h_ac c_bl c_wh c_ac n_row row_law row_latest row_opener row_blackThen row_whiteThen g_width g_height g_size g_all g_notFirstColumn g_notLastColumn bl wh ac q17 hq17) (cwV 0 hts gX6_count_X4_passesNow rfl rfl rfl (by decide +kernel) ⟨Nat.le_trans (m := rm_X6_count.frames) (by decide) hRf, Nat.le_trans (m := rm_X6_count.locals) (by decide) hRl⟩) hN hP hK ⟨Nat.zero_le _, Nat.zero_le _⟩ [2, 1, 3, 4, 5] rfl [0, 1, 2] rfl 2 4 rfl rfl rfl hl.1 rfl (Nat.le_of_ble_eq_true rfl) dX6_count_126 ?_
        obtain rfl := Option.some.inj hr
        exact kret _ _ dX6_count_129
      have hr := ite_n hr c16
      by_cases c18 : a0 = 7
      · have hr := ite_p hr c18
        refine lv_tableIn (off := 116) (tgt := 130) hx hb dX6_count_14 (by rw [c18]; decide) (by rw [c18]; decide) (by rw [c18]; rfl) (by decide) ?_
        refine lv_aload_n hx hb dX6_count_130 rfl (lv_at hl 0 rfl) ?_
        refine va_get (D := (dC, dI)) (ci := 6) (v := .ref h_g) (C := RX6) (T := TX6) (N := 7) hx hb hts huX6 hown hK hP 0 rfl rfl 0 (by decide) hf12 (fun _ h9 => h9) rfl dX6_count_131 ?_
        refine va_get (D := (dC, dI)) (ci := 2) (v := .int g_width) (C := RX2) (T := TX2) (N := 6) hx hb hts huX2 hown hK hP 1 rfl rfl 0 (by decide) hf183 (fun _ h9 => h9) rfl dX6_count_134 ?_
        obtain rfl := Option.some.inj hr
        exact kret _ _ dX6_count_137
      have hr := ite_n hr c18
      by_cases c19 : a0 = 8
      · have hr := ite_p hr c19
        refine lv_tableIn (off := 124) (tgt := 138) hx hb dX6_count_14 (by rw [c19]; decide) (by rw [c19]; decide) (by rw [c19]; rfl) (by decide) ?_
        refine lv_aload_n hx hb dX6_count_138 rfl (lv_at hl 0 rfl) ?_
        refine va_get (D := (dC, dI)) (ci := 6) (v := .ref h_g) (C := RX6) (T := TX6) (N := 7) hx hb hts huX6 hown hK hP 0 rfl rfl 0 (by decide) hf12 (fun _ h9 => h9) rfl dX6_count_139 ?_
        refine va_get (D := (dC, dI)) (ci := 2) (v := .int g_height) (C := RX2) (T := TX2) (N := 6) hx hb hts huX2 hown hK hP 1 rfl rfl 1 (by decide) hf186 (fun _ h9 => h9) rfl dX6_count_142 ?_
        obtain rfl := Option.some.inj hr
        exact kret _ _ dX6_count_145
      have hr := ite_n hr c19
      have ht20 : a0.toInt < 0 ∨ 8 < a0.toInt := by
        have e0 : ¬ a0.toInt = 0 := tb_ne c3
        have e1 : ¬ a0.toInt = 1 := tb_ne c4
        have e2 : ¬ a0.toInt = 2 := tb_ne c6
        have e3 : ¬ a0.toInt = 3 := tb_ne c9
        have e4 : ¬ a0.toInt = 4 := tb_ne c12
        have e5 : ¬ a0.toInt = 5 := tb_ne c14
        have e6 : ¬ a0.toInt = 6 := tb_ne c16
        have e7 : ¬ a0.toInt = 7 := tb_ne c18
        have e8 : ¬ a0.toInt = 8 := tb_ne c19
        omega
      refine lv_tableOut (tgt := 146) hx hb dX6_count_14 ht20 (by decide) ?_
      refine lv_aload_n hx hb dX6_count_146 rfl (lv_at hl 0 rfl) ?_
      refine va_get (D := (dC, dI)) (ci := 6) (v := .ref h_row) (C := RX6) (T := TX6) (N := 7) hx hb hts huX6 hown hK hP 0 rfl rfl 1 (by decide) hf25 (fun _ h9 => h9) rfl dX6_count_147 ?_
      refine va_get (D := (dC, dI)) (ci := 4) (v := .int row_law) (C := RX4) (T := TX4) (N := 9) hx hb hts huX4 hown hK hP 2 rfl rfl 4 (by decide) hf96 (fun _ h9 => h9) rfl dX6_count_150 ?_
      obtain rfl := Option.some.inj hr
      exact kret _ _ dX6_count_153
    · have hr := ite_n hr c2
      refine lv_bipush (v := (-2 : Int32)) hx hb dX6_count_10 (by decide) ?_
      obtain rfl := Option.some.inj hr
      exact kret _ _ dX6_count_12

def f_X6_act (n_row : Nat) (row_latest : Int32) (ac : Nat → Int32) (a0 : Int32) : Option (Int32) :=
  (f_X4_actAt n_row row_latest ac a0).bind fun q1 =>
  some (q1)

abbrev rm_X6_act : Room := { frames := 1, cells := 0, slots := 0, locals := 21 }
set_option maxHeartbeats 4000000 in
set_option maxRecDepth 100000 in
theorem c_X6_act (l : Launch) (dC : Nat → ClassId) (dI : Nat → Nat → Nat) (h_eb h_g h_row h_bl h_wh h_ac h_life h_t h_ch h_hrow h_hbl h_hwh h_hac h_fi : Nat) (c_bl c_wh c_ac c_hbl c_hwh c_hac : ClassId) (n_row n_hrow : Nat) (eb_winningAct g_width g_height g_size : Int32) (g_all g_notFirstColumn g_notLastColumn : Int64) (row_law row_latest row_opener : Int32) (row_blackThen row_whiteThen : Int64) (bl wh : Nat → Int64) (ac : Nat → Int32) (t_made ch_target ch_chased hrow_law hrow_latest hrow_opener : Int32) (hrow_blackThen hrow_whiteThen : Int64) (hbl hwh : Nat → Int64) (hac : Nat → Int32) (fi_target fi_attacked fi_decidingAct : Int32) (a0 : Int32) (q : Int32) (hr : f_X6_act n_row row_latest ac a0 = some q) : Met l yX6_act wsX6_act rm_X6_act (PrP (dC, dI) (wd_X6 h_eb h_g h_row h_bl h_wh h_ac h_life h_t h_ch h_hrow h_hbl h_hwh h_hac h_fi c_bl c_wh c_ac c_hbl c_hwh c_hac n_row n_hrow eb_winningAct g_width g_height g_size g_all g_notFirstColumn g_notLastColumn row_law row_latest row_opener row_blackThen row_whiteThen bl wh ac t_made ch_target ch_chased hrow_law hrow_latest hrow_opener hrow_blackThen hrow_whiteThen hbl hwh hac fi_target fi_attacked fi_decidingAct) (td_X6 c_bl c_wh c_ac c_hbl c_hwh c_hac) [.ref h_eb, .int a0]) (vp_Si (fun x => x = q)) 0 0 (fun _ => False) := by
  refine mkP_i (cc := cX6_act) (nL := 2) (by decide) rfl (Nat.le_of_ble_eq_true rfl) ?_
  intro p e R s m args below meth c H Q ls hRf hRl S hN hP hK hl kret
  have hl : lv_has ls 2 [(0, .ref h_eb), (1, .int a0)] := hl
  obtain ⟨hx, hb, hml, hown, hts⟩ := S
  have hown : s.vm.findClass RX6 = some m.cls := hown
  have S : CallFix p m c cX6_act 2 s args wsX6_act RX6 := ⟨hx, hb, hml, hown, hts⟩
  have huX6 : ∀ w ∈ u_ws RX6 TX6 7, w ∈ wsX6_act := by decide +kernel
  have hf25 := hts (.fieldLink RX6 25 "EyeBoard" "row" "LEyeBoard$Row;") (by decide +kernel)
  unfold f_X6_act at hr
  refine lv_aload_n hx hb dX6_act_0 rfl (lv_at hl 0 rfl) ?_
  refine va_get (D := (dC, dI)) (ci := 6) (v := .ref h_row) (C := RX6) (T := TX6) (N := 7) hx hb hts huX6 hown hK hP 0 rfl rfl 1 (by decide) hf25 (fun _ h9 => h9) rfl dX6_act_1 ?_
  refine lv_iload_n hx hb dX6_act_4 rfl (lv_at hl 1 rfl) ?_
  obtain ⟨q1, hq1, hr⟩ := bd_use hr
  refine pcV_i (As := [.int a0]) (rest := []) S (c_X4_actAt l dC dI h_row h_g h_bl h_wh h_ac c_bl c_wh c_ac n_row row_law row_latest row_opener row_blackThen row_whiteThen g_width g_height g_size g_all g_notFirstColumn g_notLastColumn bl wh ac a0 q1 hq1) (cwV 1 hts gX6_act_X4_actAt rfl rfl rfl (by decide +kernel) ⟨Nat.le_trans (m := rm_X6_act.frames) (by decide) hRf, Nat.le_trans (m := rm_X6_act.locals) (by decide) hRl⟩) hN hP hK ⟨Nat.zero_le _, Nat.zero_le _⟩ [2, 1, 3, 4, 5] rfl [0, 1, 2] rfl 2 4 rfl rfl rfl hl.1 rfl (Nat.le_of_ble_eq_true rfl) dX6_act_5 ?_
  obtain rfl := Option.some.inj hr
  exact kret _ _ dX6_act_8

def lp_X6_digest_68 (n_row : Nat) (row_latest : Int32) (ac : Nat → Int32) : Nat → Int64 → Int32 → Option (Int64)
  | 0, _, _ => none
  | nF + 1, v5, v6 =>
    if row_latest ≤ v6 then (
      some (v5)
    )
    else (
      (f_X4_actAt n_row row_latest ac v6).bind fun q8 =>
      nm (((31 : Int64) * v5) + q8.toInt64) fun x9 =>
      nm (v6 + 1) fun x10 =>
      lp_X6_digest_68 n_row row_latest ac nF x9 x10
    )

def lp_X6_digest_33 (n_row : Nat) (g_size : Int32) (row_latest : Int32) (bl : Nat → Int64) (wh : Nat → Int64) (K4 : Int64 → Option (Int64)) : Nat → Int64 → Int32 → Option (Int64)
  | 0, _, _ => none
  | nF + 1, v11, v12 =>
    if g_size ≤ v12 then (
      K4 v11
    )
    else (
      (f_X4_colourAt n_row row_latest bl wh v12).bind fun q14 =>
      nm (((31 : Int64) * v11) + q14.toInt64) fun x15 =>
      nm (v12 + 1) fun x16 =>
      lp_X6_digest_33 n_row g_size row_latest bl wh K4 nF x15 x16
    )

def lp_X6_digest_6 (n_row : Nat) (g_width : Int32) (g_height : Int32) (g_size : Int32) (row_law : Int32) (row_latest : Int32) (row_opener : Int32) (bl : Nat → Int64) (wh : Nat → Int64) (ac : Nat → Int32) (K2 : Int64 → Option (Int64)) : Nat → Int64 → Int32 → Option (Int64)
  | 0, _, _ => none
  | nF + 1, v17, v18 =>
    if (9 : Int32) < v18 then (
      K2 v17
    )
    else (
      (f_X6_count n_row g_width g_height g_size row_law row_latest row_opener bl wh ac v18).bind fun q20 =>
      nm (((31 : Int64) * v17) + q20.toInt64) fun x21 =>
      nm (v18 + 1) fun x22 =>
      lp_X6_digest_6 n_row g_width g_height g_size row_law row_latest row_opener bl wh ac K2 nF x21 x22
    )

def f_X6_digest (n_row : Nat) (g_width : Int32) (g_height : Int32) (g_size : Int32) (row_law : Int32) (row_latest : Int32) (row_opener : Int32) (bl : Nat → Int64) (wh : Nat → Int64) (ac : Nat → Int32)  : Option (Int64) :=
  nm (fun (v1 : Int64) =>
  nm (fun (v3 : Int64) =>
  lp_X6_digest_68 n_row row_latest ac FU v3 (0 : Int32)
  ) fun K4 =>
  lp_X6_digest_33 n_row g_size row_latest bl wh K4 FU v1 (0 : Int32)
  ) fun K2 =>
  lp_X6_digest_6 n_row g_width g_height g_size row_law row_latest row_opener bl wh ac K2 FU (47 : Int64) (0 : Int32)

abbrev rm_X6_digest : Room := { frames := 4, cells := 0, slots := 0, locals := 89 }
set_option maxHeartbeats 4000000 in
set_option maxRecDepth 100000 in
theorem c_X6_digest (l : Launch) (dC : Nat → ClassId) (dI : Nat → Nat → Nat) (h_eb h_g h_row h_bl h_wh h_ac h_life h_t h_ch h_hrow h_hbl h_hwh h_hac h_fi : Nat) (c_bl c_wh c_ac c_hbl c_hwh c_hac : ClassId) (n_row n_hrow : Nat) (eb_winningAct g_width g_height g_size : Int32) (g_all g_notFirstColumn g_notLastColumn : Int64) (row_law row_latest row_opener : Int32) (row_blackThen row_whiteThen : Int64) (bl wh : Nat → Int64) (ac : Nat → Int32) (t_made ch_target ch_chased hrow_law hrow_latest hrow_opener : Int32) (hrow_blackThen hrow_whiteThen : Int64) (hbl hwh : Nat → Int64) (hac : Nat → Int32) (fi_target fi_attacked fi_decidingAct : Int32)  (q : Int64) (hr : f_X6_digest n_row g_width g_height g_size row_law row_latest row_opener bl wh ac  = some q) : Met l yX6_digest wsX6_digest rm_X6_digest (PrP (dC, dI) (wd_X6 h_eb h_g h_row h_bl h_wh h_ac h_life h_t h_ch h_hrow h_hbl h_hwh h_hac h_fi c_bl c_wh c_ac c_hbl c_hwh c_hac n_row n_hrow eb_winningAct g_width g_height g_size g_all g_notFirstColumn g_notLastColumn row_law row_latest row_opener row_blackThen row_whiteThen bl wh ac t_made ch_target ch_chased hrow_law hrow_latest hrow_opener hrow_blackThen hrow_whiteThen hbl hwh hac fi_target fi_attacked fi_decidingAct) (td_X6 c_bl c_wh c_ac c_hbl c_hwh c_hac) [.ref h_eb]) (vp_Sl (fun x => x = q)) 0 0 (fun _ => False) := by
  refine mkP_l (cc := cX6_digest) (nL := 4) (by decide) rfl (Nat.le_of_ble_eq_true rfl) ?_
  intro p e R s m args below meth c H Q ls hRf hRl S hN hP hK hl kret
  have hl : lv_has ls 4 [(0, .ref h_eb)] := hl
  obtain ⟨hx, hb, hml, hown, hts⟩ := S
  have hown : s.vm.findClass RX6 = some m.cls := hown
  have S : CallFix p m c cX6_digest 4 s args wsX6_digest RX6 := ⟨hx, hb, hml, hown, hts⟩
  have hk192 := hts (.constantLong RX6 192 (47 : Int64)) (by decide +kernel)
  have huX6 : ∀ w ∈ u_ws RX6 TX6 7, w ∈ wsX6_digest := by decide +kernel
  have hf25 := hts (.fieldLink RX6 25 "EyeBoard" "row" "LEyeBoard$Row;") (by decide +kernel)
  have huX4 : ∀ w ∈ u_ws RX4 TX4 9, w ∈ wsX6_digest := by decide +kernel
  have hf73 := hts (.fieldLink RX6 73 "EyeBoard$Row" "latest" "I") (by decide +kernel)
  have hk194 := hts (.constantLong RX6 194 (31 : Int64)) (by decide +kernel)
  have hf12 := hts (.fieldLink RX6 12 "EyeBoard" "grid" "LEyeBoard$Grid;") (by decide +kernel)
  have huX2 : ∀ w ∈ u_ws RX2 TX2 6, w ∈ wsX6_digest := by decide +kernel
  have hf114 := hts (.fieldLink RX6 114 "EyeBoard$Grid" "size" "I") (by decide +kernel)
  unfold f_X6_digest at hr
  refine W.ldc2 (v := (47 : Int64)) hx hb hown hk192 rfl dX6_digest_0 ?_
  refine W.eq (g2 := F0 m 3 ls [.long (47 : Int64)]) rfl ?_
  refine lv_lstore_n (lv' := [(1, .long (47 : Int64)), (0, .ref h_eb)]) hx hb dX6_digest_3 rfl hl (by decide) rfl (fun ls hl => ?_)
  refine lv_iconst (v := (0 : Int32)) hx hb dX6_digest_4 (by decide) ?_
  refine lv_istore_n (lv' := [(3, .int (0 : Int32)), (1, .long (47 : Int64)), (0, .ref h_eb)]) hx hb dX6_digest_5 rfl hl (by decide) rfl (fun ls hl => ?_)
  obtain ⟨K2, eK2, hr⟩ := nm_ex hr
  have kK2 : ∀ (v1 : Int64) , K2 v1 = some q → ∀ (ls : Array Slot), lv_has ls 4 [(0, .ref h_eb), (1, .long v1)] → W p l e R s m args below meth c H [] 0 0 Q (F0 m 31 ls []) := by
    intro v1 hr ls hl
    rw [eK2] at hr
    refine lv_iconst (v := (0 : Int32)) hx hb dX6_digest_31 (by decide) ?_
    refine lv_istore_n (lv' := [(3, .int (0 : Int32)), (0, .ref h_eb), (1, .long v1)]) hx hb dX6_digest_32 rfl hl (by decide) rfl (fun ls hl => ?_)
    obtain ⟨K4, eK4, hr⟩ := nm_ex hr
    have kK4 : ∀ (v3 : Int64) , K4 v3 = some q → ∀ (ls : Array Slot), lv_has ls 4 [(0, .ref h_eb), (1, .long v3)] → W p l e R s m args below meth c H [] 0 0 Q (F0 m 66 ls []) := by
      intro v3 hr ls hl
      rw [eK4] at hr
      refine lv_iconst (v := (0 : Int32)) hx hb dX6_digest_66 (by decide) ?_
      refine lv_istore_n (lv' := [(3, .int (0 : Int32)), (0, .ref h_eb), (1, .long v3)]) hx hb dX6_digest_67 rfl hl (by decide) rfl (fun ls hl => ?_)
      have llp_X6_digest_68 : ∀ (nF : Nat) (v5 : Int64) (v6 : Int32) , lp_X6_digest_68 n_row row_latest ac nF v5 v6 = some q → ∀ (ls : Array Slot), lv_has ls 4 [(0, .ref h_eb), (1, .long v5), (3, .int v6)] → W p l e R s m args below meth c H [] 0 0 Q (F0 m 68 ls []) := by
        intro nF
        induction nF with
        | zero => intro v5 v6 hr; exact absurd hr (by simp [lp_X6_digest_68])
        | succ nF ih =>
          intro v5 v6 hr ls hl
          rw [lp_X6_digest_68] at hr
          refine lv_iload_n hx hb dX6_digest_68 rfl (lv_at hl 2 rfl) ?_
          refine lv_aload_n hx hb dX6_digest_69 rfl (lv_at hl 0 rfl) ?_
          refine va_get (D := (dC, dI)) (ci := 6) (v := .ref h_row) (C := RX6) (T := TX6) (N := 7) hx hb hts huX6 hown hK hP 0 rfl rfl 1 (by decide) hf25 (fun _ h9 => h9) rfl dX6_digest_70 ?_
          refine va_get (D := (dC, dI)) (ci := 4) (v := .int row_latest) (C := RX4) (T := TX4) (N := 9) hx hb hts huX4 hown hK hP 2 rfl rfl 5 (by decide) hf73 (fun _ h9 => h9) rfl dX6_digest_73 ?_
          refine lv_icmp_ge (tgt := 101) hx hb dX6_digest_76 (by decide) (fun c7 => ?_) (fun c7 => ?_)
          · have hr := ite_p hr c7
            refine lv_lload_n hx hb dX6_digest_101 rfl (lv_at hl 1 rfl) ?_
            obtain rfl := Option.some.inj hr
            exact kret _ _ dX6_digest_102
          · have hr := ite_n hr c7
            refine W.ldc2 (v := (31 : Int64)) hx hb hown hk194 rfl dX6_digest_79 ?_
            refine W.eq (g2 := F0 m 82 ls [.long (31 : Int64)]) rfl ?_
            refine lv_lload_n hx hb dX6_digest_82 rfl (lv_at hl 1 rfl) ?_
            refine lv_lmul hx hb dX6_digest_83 ?_
            refine lv_aload_n hx hb dX6_digest_84 rfl (lv_at hl 0 rfl) ?_
            refine va_get (D := (dC, dI)) (ci := 6) (v := .ref h_row) (C := RX6) (T := TX6) (N := 7) hx hb hts huX6 hown hK hP 0 rfl rfl 1 (by decide) hf25 (fun _ h9 => h9) rfl dX6_digest_85 ?_
            refine lv_iload_n hx hb dX6_digest_88 rfl (lv_at hl 2 rfl) ?_
            obtain ⟨q8, hq8, hr⟩ := bd_use hr
            refine pcV_i (As := [.int v6]) (rest := [.long ((31 : Int64) * v5)]) S (c_X4_actAt l dC dI h_row h_g h_bl h_wh h_ac c_bl c_wh c_ac n_row row_law row_latest row_opener row_blackThen row_whiteThen g_width g_height g_size g_all g_notFirstColumn g_notLastColumn bl wh ac v6 q8 hq8) (cwV 1 hts gX6_digest_X4_actAt rfl rfl rfl (by decide +kernel) ⟨Nat.le_trans (m := rm_X6_digest.frames) (by decide) hRf, Nat.le_trans (m := rm_X6_digest.locals) (by decide) hRl⟩) hN hP hK ⟨Nat.zero_le _, Nat.zero_le _⟩ [2, 1, 3, 4, 5] rfl [0, 1, 2] rfl 2 4 rfl rfl rfl hl.1 rfl (Nat.le_of_ble_eq_true rfl) dX6_digest_89 ?_
            refine lv_i2l hx hb dX6_digest_92 rfl ?_
            refine lv_ladd hx hb dX6_digest_93 ?_
            refine lv_topl (fun x9 ex9 => ?_)
            have hr := nm_use hr ex9
            refine lv_lstore_n (lv' := [(1, .long x9), (0, .ref h_eb), (3, .int v6)]) hx hb dX6_digest_94 rfl hl (by decide) rfl (fun ls hl => ?_)
            obtain ⟨x10, ex10, hr⟩ := nm_ex hr
            refine lv_iinc (v := x10) (lv' := [(3, .int x10), (1, .long x9), (0, .ref h_eb)]) hx hb dX6_digest_95 hl (k := 2) rfl (by rw [ex10]; rfl) (by decide) rfl (fun ls hl => ?_)
            refine lv_goto (tgt := 68) hx hb dX6_digest_98 (by decide) ?_
            exact ih x9 x10 hr ls (lv_sub hl [2, 1, 0] rfl)
      exact llp_X6_digest_68 FU v3 (0 : Int32) hr ls (lv_sub hl [1, 2, 0] rfl)
    have llp_X6_digest_33 : ∀ (nF : Nat) (v11 : Int64) (v12 : Int32) , lp_X6_digest_33 n_row g_size row_latest bl wh K4 nF v11 v12 = some q → ∀ (ls : Array Slot), lv_has ls 4 [(0, .ref h_eb), (1, .long v11), (3, .int v12)] → W p l e R s m args below meth c H [] 0 0 Q (F0 m 33 ls []) := by
      intro nF
      induction nF with
      | zero => intro v11 v12 hr; exact absurd hr (by simp [lp_X6_digest_33])
      | succ nF ih =>
        intro v11 v12 hr ls hl
        rw [lp_X6_digest_33] at hr
        refine lv_iload_n hx hb dX6_digest_33 rfl (lv_at hl 2 rfl) ?_
        refine lv_aload_n hx hb dX6_digest_34 rfl (lv_at hl 0 rfl) ?_
        refine va_get (D := (dC, dI)) (ci := 6) (v := .ref h_g) (C := RX6) (T := TX6) (N := 7) hx hb hts huX6 hown hK hP 0 rfl rfl 0 (by decide) hf12 (fun _ h9 => h9) rfl dX6_digest_35 ?_
        refine va_get (D := (dC, dI)) (ci := 2) (v := .int g_size) (C := RX2) (T := TX2) (N := 6) hx hb hts huX2 hown hK hP 1 rfl rfl 2 (by decide) hf114 (fun _ h9 => h9) rfl dX6_digest_38 ?_
        refine lv_icmp_ge (tgt := 66) hx hb dX6_digest_41 (by decide) (fun c13 => ?_) (fun c13 => ?_)
        · have hr := ite_p hr c13
          exact kK4 v11 hr ls (lv_sub hl [0, 1] rfl)
        · have hr := ite_n hr c13
          refine W.ldc2 (v := (31 : Int64)) hx hb hown hk194 rfl dX6_digest_44 ?_
          refine W.eq (g2 := F0 m 47 ls [.long (31 : Int64)]) rfl ?_
          refine lv_lload_n hx hb dX6_digest_47 rfl (lv_at hl 1 rfl) ?_
          refine lv_lmul hx hb dX6_digest_48 ?_
          refine lv_aload_n hx hb dX6_digest_49 rfl (lv_at hl 0 rfl) ?_
          refine va_get (D := (dC, dI)) (ci := 6) (v := .ref h_row) (C := RX6) (T := TX6) (N := 7) hx hb hts huX6 hown hK hP 0 rfl rfl 1 (by decide) hf25 (fun _ h9 => h9) rfl dX6_digest_50 ?_
          refine lv_iload_n hx hb dX6_digest_53 rfl (lv_at hl 2 rfl) ?_
          obtain ⟨q14, hq14, hr⟩ := bd_use hr
          refine pcV_i (As := [.int v12]) (rest := [.long ((31 : Int64) * v11)]) S (c_X4_colourAt l dC dI h_row h_g h_bl h_wh h_ac c_bl c_wh c_ac n_row row_law row_latest row_opener row_blackThen row_whiteThen g_width g_height g_size g_all g_notFirstColumn g_notLastColumn bl wh ac v12 q14 hq14) (cwV 1 hts gX6_digest_X4_colourAt rfl rfl rfl (by decide +kernel) ⟨Nat.le_trans (m := rm_X6_digest.frames) (by decide) hRf, Nat.le_trans (m := rm_X6_digest.locals) (by decide) hRl⟩) hN hP hK ⟨Nat.zero_le _, Nat.zero_le _⟩ [2, 1, 3, 4, 5] rfl [0, 1, 2] rfl 2 4 rfl rfl rfl hl.1 rfl (Nat.le_of_ble_eq_true rfl) dX6_digest_54 ?_
          refine lv_i2l hx hb dX6_digest_57 rfl ?_
          refine lv_ladd hx hb dX6_digest_58 ?_
          refine lv_topl (fun x15 ex15 => ?_)
          have hr := nm_use hr ex15
          refine lv_lstore_n (lv' := [(1, .long x15), (0, .ref h_eb), (3, .int v12)]) hx hb dX6_digest_59 rfl hl (by decide) rfl (fun ls hl => ?_)
          obtain ⟨x16, ex16, hr⟩ := nm_ex hr
          refine lv_iinc (v := x16) (lv' := [(3, .int x16), (1, .long x15), (0, .ref h_eb)]) hx hb dX6_digest_60 hl (k := 2) rfl (by rw [ex16]; rfl) (by decide) rfl (fun ls hl => ?_)
          refine lv_goto (tgt := 33) hx hb dX6_digest_63 (by decide) ?_
          exact ih x15 x16 hr ls (lv_sub hl [2, 1, 0] rfl)
    exact llp_X6_digest_33 FU v1 (0 : Int32) hr ls (lv_sub hl [1, 2, 0] rfl)
  have llp_X6_digest_6 : ∀ (nF : Nat) (v17 : Int64) (v18 : Int32) , lp_X6_digest_6 n_row g_width g_height g_size row_law row_latest row_opener bl wh ac K2 nF v17 v18 = some q → ∀ (ls : Array Slot), lv_has ls 4 [(0, .ref h_eb), (1, .long v17), (3, .int v18)] → W p l e R s m args below meth c H [] 0 0 Q (F0 m 6 ls []) := by
    intro nF
    induction nF with
    | zero => intro v17 v18 hr; exact absurd hr (by simp [lp_X6_digest_6])
    | succ nF ih =>
      intro v17 v18 hr ls hl
      rw [lp_X6_digest_6] at hr
      refine lv_iload_n hx hb dX6_digest_6 rfl (lv_at hl 2 rfl) ?_
      refine lv_bipush (v := (9 : Int32)) hx hb dX6_digest_7 (by decide) ?_
      refine lv_icmp_gt (tgt := 31) hx hb dX6_digest_9 (by decide) (fun c19 => ?_) (fun c19 => ?_)
      · have hr := ite_p hr c19
        exact kK2 v17 hr ls (lv_sub hl [0, 1] rfl)
      · have hr := ite_n hr c19
        refine W.ldc2 (v := (31 : Int64)) hx hb hown hk194 rfl dX6_digest_12 ?_
        refine W.eq (g2 := F0 m 15 ls [.long (31 : Int64)]) rfl ?_
        refine lv_lload_n hx hb dX6_digest_15 rfl (lv_at hl 1 rfl) ?_
        refine lv_lmul hx hb dX6_digest_16 ?_
        refine lv_aload_n hx hb dX6_digest_17 rfl (lv_at hl 0 rfl) ?_
        refine lv_iload_n hx hb dX6_digest_18 rfl (lv_at hl 2 rfl) ?_
        obtain ⟨q20, hq20, hr⟩ := bd_use hr
        refine pcV_i (As := [.int v18]) (rest := [.long ((31 : Int64) * v17)]) S (c_X6_count l dC dI h_eb h_g h_row h_bl h_wh h_ac h_life h_t h_ch h_hrow h_hbl h_hwh h_hac h_fi c_bl c_wh c_ac c_hbl c_hwh c_hac n_row n_hrow eb_winningAct g_width g_height g_size g_all g_notFirstColumn g_notLastColumn row_law row_latest row_opener row_blackThen row_whiteThen bl wh ac t_made ch_target ch_chased hrow_law hrow_latest hrow_opener hrow_blackThen hrow_whiteThen hbl hwh hac fi_target fi_attacked fi_decidingAct v18 q20 hq20) (cwV 1 hts gX6_digest_X6_count rfl rfl rfl (by decide +kernel) ⟨Nat.le_trans (m := rm_X6_digest.frames) (by decide) hRf, Nat.le_trans (m := rm_X6_digest.locals) (by decide) hRl⟩) hN hP hK ⟨Nat.zero_le _, Nat.zero_le _⟩ [0, 1, 2, 3, 4, 5, 6, 7, 8, 9, 10, 11, 12, 13] rfl [0, 1, 2, 3, 4, 5] rfl 0 6 rfl rfl rfl hl.1 rfl (Nat.le_of_ble_eq_true rfl) dX6_digest_19 ?_
        refine lv_i2l hx hb dX6_digest_22 rfl ?_
        refine lv_ladd hx hb dX6_digest_23 ?_
        refine lv_topl (fun x21 ex21 => ?_)
        have hr := nm_use hr ex21
        refine lv_lstore_n (lv' := [(1, .long x21), (0, .ref h_eb), (3, .int v18)]) hx hb dX6_digest_24 rfl hl (by decide) rfl (fun ls hl => ?_)
        obtain ⟨x22, ex22, hr⟩ := nm_ex hr
        refine lv_iinc (v := x22) (lv' := [(3, .int x22), (1, .long x21), (0, .ref h_eb)]) hx hb dX6_digest_25 hl (k := 2) rfl (by rw [ex22]; rfl) (by decide) rfl (fun ls hl => ?_)
        refine lv_goto (tgt := 6) hx hb dX6_digest_28 (by decide) ?_
        exact ih x21 x22 hr ls (lv_sub hl [2, 1, 0] rfl)
  exact llp_X6_digest_6 FU (47 : Int64) (0 : Int32) hr ls (lv_sub hl [2, 1, 0] rfl)

