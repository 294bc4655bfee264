abbrev wd_L (h_eb h_g h_row h_bl h_wh h_ac h_life h_t h_ch h_hrow h_hbl h_hwh h_hac h_fi : Nat) (c_bl c_wh c_ac c_hbl c_hwh c_hac : ClassId) (ad : Nat → Nat) (cA : Nat → ClassId) (eb_winningAct g_width g_height g_size : Int32) (g_all g_notFirstColumn g_notLastColumn : Int64) (row_law row_latest row_opener : Int32) (row_blackThen row_whiteThen : Int64) (bl wh : Nat → Int64) (ac : Nat → Int32) (t_made ch_target ch_chased hrow_law hrow_latest hrow_opener : Int32) (hrow_blackThen hrow_whiteThen : Int64) (hbl hwh : Nat → Int64) (hac : Nat → Int32) (fi_target fi_attacked fi_decidingAct mo_wide mo_high mo_law mo_acts : Int32) (mo_newBlack mo_newWhite : Int64) (mo_taken mo_triesMany mo_isSpent mo_found : Int32) (a_neighbours : Nat → Int64) (a_act : Nat → Int32) (a_blackAt a_whiteAt : Nat → Int64) (a_moveAt a_takenBlack a_takenWhite : Nat → Int32) (a_chaseBlack a_chaseWhite a_aheadBlack a_aheadWhite : Nat → Int64) (a_hasAhead : Nat → Int32) (a_breathsLeft a_laidBlack a_laidWhite a_answersLeft : Nat → Int64) (a_firstAnswer a_answering a_next : Nat → Int32) : va_W := [(h_eb, .inr (6, [.ref h_g, .ref h_row, .ref h_life, .ref h_t, .ref h_ch, .ref h_fi, .int eb_winningAct])), (h_g, .inr (2, [.int g_width, .int g_height, .int g_size, .long g_all, .long g_notFirstColumn, .long g_notLastColumn])), (h_row, .inr (4, [.ref h_g, .ref h_bl, .ref h_wh, .ref h_ac, .int row_law, .int row_latest, .int row_opener, .long row_blackThen, .long row_whiteThen])), (h_bl, .inl (c_bl, 127, .inr (.inl bl))), (h_wh, .inl (c_wh, 127, .inr (.inl wh))), (h_ac, .inl (c_ac, 127, .inl ac)), (h_life, .inr (3, [.ref h_g])), (h_t, .inr (5, [.int t_made])), (h_ch, .inr (0, [.ref h_g, .ref h_hrow, .ref h_t, .int ch_target, .int ch_chased])), (h_hrow, .inr (4, [.ref h_g, .ref h_hbl, .ref h_hwh, .ref h_hac, .int hrow_law, .int hrow_latest, .int hrow_opener, .long hrow_blackThen, .long hrow_whiteThen])), (h_hbl, .inl (c_hbl, 41, .inr (.inl hbl))), (h_hwh, .inl (c_hwh, 41, .inr (.inl hwh))), (h_hac, .inl (c_hac, 41, .inl hac)), (h_fi, .inr (1, [.ref h_g, .ref h_row, .ref h_t, .int fi_target, .int fi_attacked, .int fi_decidingAct])), ((ad 0), .inr (7, [.int mo_wide, .int mo_high, .int mo_law, .ref (ad 1), .int mo_acts, .ref (ad 2), .ref (ad 3), .ref (ad 4), .ref (ad 5), .ref (ad 6), .ref (ad 7), .long mo_newBlack, .long mo_newWhite, .int mo_taken, .int mo_triesMany, .int mo_isSpent, .ref (ad 8), .ref (ad 9), .ref (ad 10), .ref (ad 11), .ref (ad 12), .ref (ad 13), .ref (ad 14), .ref (ad 15), .ref (ad 16), .ref (ad 17), .ref (ad 18), .int mo_found, .ref (ad 19)])), ((ad 1), .inl ((cA 0), 49, .inr (.inl a_neighbours))), ((ad 2), .inl ((cA 1), 120, .inl a_act)), ((ad 3), .inl ((cA 2), 130, .inr (.inl a_blackAt))), ((ad 4), .inl ((cA 3), 130, .inr (.inl a_whiteAt))), ((ad 5), .inl ((cA 4), 130, .inl a_moveAt)), ((ad 6), .inl ((cA 5), 121, .inl a_takenBlack)), ((ad 7), .inl ((cA 6), 121, .inl a_takenWhite)), ((ad 8), .inl ((cA 7), 21, .inr (.inl a_chaseBlack))), ((ad 9), .inl ((cA 8), 21, .inr (.inl a_chaseWhite))), ((ad 10), .inl ((cA 9), 21, .inr (.inl a_aheadBlack))), ((ad 11), .inl ((cA 10), 21, .inr (.inl a_aheadWhite))), ((ad 12), .inl ((cA 11), 21, .inl a_hasAhead)), ((ad 13), .inl ((cA 12), 21, .inr (.inl a_breathsLeft))), ((ad 14), .inl ((cA 13), 21, .inr (.inl a_laidBlack))), ((ad 15), .inl ((cA 14), 21, .inr (.inl a_laidWhite))), ((ad 16), .inl ((cA 15), 21, .inr (.inl a_answersLeft))), ((ad 17), .inl ((cA 16), 21, .inl a_firstAnswer)), ((ad 18), .inl ((cA 17), 21, .inl a_answering)), ((ad 19), .inl ((cA 18), 7, .inl a_next))]
abbrev td_L (c_bl c_wh c_ac c_hbl c_hwh c_hac : ClassId) (cA : Nat → ClassId) : List (ClassId × FieldType) := [(c_bl, .long), (c_wh, .long), (c_ac, .int), (c_hbl, .long), (c_hwh, .long), (c_hac, .int), ((cA 0), .long), ((cA 1), .int), ((cA 2), .long), ((cA 3), .long), ((cA 4), .int), ((cA 5), .int), ((cA 6), .int), ((cA 7), .long), ((cA 8), .long), ((cA 9), .long), ((cA 10), .long), ((cA 11), .boolean), ((cA 12), .long), ((cA 13), .long), ((cA 14), .long), ((cA 15), .long), ((cA 16), .int), ((cA 17), .boolean), ((cA 18), .int)]
def lp_L_law_18 (xs : Nat → Int32) (L0 : Nat) : Nat → Int32 → Int32 → Int32 → Int32 → Int32 → Int64 → Int64 → Int64 → Int32 → Int32 → Int32 → Int64 → Int64 → (Nat → Int64) → (Nat → Int64) → (Nat → Int32) → Int32 → Int32 → Int32 → Int32 → Int32 → Int32 → Int64 → Int64 → (Nat → Int64) → (Nat → Int64) → (Nat → Int32) → Int32 → Int32 → Int32 → Int32 → Int32 → Int32 → Int32 → Int64 → Int64 → Int32 → Int32 → Int32 → Int32 → (Nat → Int64) → (Nat → Int32) → (Nat → Int64) → (Nat → Int64) → (Nat → Int32) → (Nat → Int32) → (Nat → Int32) → (Nat → Int64) → (Nat → Int64) → (Nat → Int64) → (Nat → Int64) → (Nat → Int32) → (Nat → Int64) → (Nat → Int64) → (Nat → Int64) → (Nat → Int64) → (Nat → Int32) → (Nat → Int32) → (Nat → Int32) → Option (Int32)
  | 0, _, _, _, _, _, _, _, _, _, _, _, _, _, _, _, _, _, _, _, _, _, _, _, _, _, _, _, _, _, _, _, _, _, _, _, _, _, _, _, _, _, _, _, _, _, _, _, _, _, _, _, _, _, _, _, _, _, _, _ => none
  | nF + 1, v1, w2, w3, w4, w5, w6, w7, w8, w9, w10, w11, w12, w13, w14, w15, w16, w17, w18, w19, w20, w21, w22, w23, w24, w25, w26, w27, w28, w29, w30, w31, w32, w33, w34, w35, w36, w37, w38, w39, w40, w41, w42, w43, w44, w45, w46, w47, w48, w49, w50, w51, w52, w53, w54, w55, w56, w57, w58, w59 =>
    if (nI L0) - (4 : Int32) < v1 then (
      some ((1 : Int32))
    )
    else (
      if (v1 < 0 ∨ L0 ≤ v1.toNatClampNeg) then none else
      nm ((xs v1.toNatClampNeg) &&& (31 : Int32)) fun x62 =>
      if x62 = 0 then (
        if (v1 + (1 : Int32) < 0 ∨ L0 ≤ (v1 + (1 : Int32)).toNatClampNeg) then none else
        if (v1 + (2 : Int32) < 0 ∨ L0 ≤ (v1 + (2 : Int32)).toNatClampNeg) then none else
        if (v1 + (3 : Int32) < 0 ∨ L0 ≤ (v1 + (3 : Int32)).toNatClampNeg) then none else
        (f_X6_board 127 w3 w4 w5 w6 w7 w8 w9 w10 w11 w14 w15 (xs (v1 + (1 : Int32)).toNatClampNeg) (xs (v1 + (2 : Int32)).toNatClampNeg) (xs (v1 + (3 : Int32)).toNatClampNeg)).bind fun q67 =>
        if (v1 + (1 : Int32) < 0 ∨ L0 ≤ (v1 + (1 : Int32)).toNatClampNeg) then none else
        if (v1 + (2 : Int32) < 0 ∨ L0 ≤ (v1 + (2 : Int32)).toNatClampNeg) then none else
        if (v1 + (3 : Int32) < 0 ∨ L0 ≤ (v1 + (3 : Int32)).toNatClampNeg) then none else
        (f_X7_board w31 w32 w33 w34 w41 w43 w44 w45 w46 w47 (xs (v1 + (1 : Int32)).toNatClampNeg) (xs (v1 + (2 : Int32)).toNatClampNeg) (xs (v1 + (3 : Int32)).toNatClampNeg)).bind fun q71 =>
        if q67.1 = q71.1 then (
          nm (v1 + 4) fun x73 =>
          lp_L_law_18 xs L0 nF x73 w2 q67.2.1 q67.2.2.1 q67.2.2.2.1 q67.2.2.2.2.1 q67.2.2.2.2.2.1 q67.2.2.2.2.2.2.1 q67.2.2.2.2.2.2.2.1 q67.2.2.2.2.2.2.2.2.1 q67.2.2.2.2.2.2.2.2.2.1 w12 w13 q67.2.2.2.2.2.2.2.2.2.2.1 q67.2.2.2.2.2.2.2.2.2.2.2 w16 w17 w18 w19 w20 w21 w22 w23 w24 w25 w26 w27 w28 w29 w30 q71.2.1 q71.2.2.1 q71.2.2.2.1 q71.2.2.2.2.1 w35 w36 w37 w38 w39 w40 q71.2.2.2.2.2.1 w42 q71.2.2.2.2.2.2.1 q71.2.2.2.2.2.2.2.1 q71.2.2.2.2.2.2.2.2.1 q71.2.2.2.2.2.2.2.2.2.1 q71.2.2.2.2.2.2.2.2.2.2 w48 w49 w50 w51 w52 w53 w54 w55 w56 w57 w58 w59
        )
        else (
          some ((0 : Int32))
        )
      )
      else (
      if x62 = 1 then (
        if (v1 + (1 : Int32) < 0 ∨ L0 ≤ (v1 + (1 : Int32)).toNatClampNeg) then none else
        if (v1 + (2 : Int32) < 0 ∨ L0 ≤ (v1 + (2 : Int32)).toNatClampNeg) then none else
        if (v1 + (3 : Int32) < 0 ∨ L0 ≤ (v1 + (3 : Int32)).toNatClampNeg) then none else
        (f_X6_set 127 w3 w5 w6 w7 w8 w9 w10 w11 w14 w15 (xs (v1 + (1 : Int32)).toNatClampNeg) (xs (v1 + (2 : Int32)).toNatClampNeg) (xs (v1 + (3 : Int32)).toNatClampNeg)).bind fun q78 =>
        if (v1 + (1 : Int32) < 0 ∨ L0 ≤ (v1 + (1 : Int32)).toNatClampNeg) then none else
        if (v1 + (2 : Int32) < 0 ∨ L0 ≤ (v1 + (2 : Int32)).toNatClampNeg) then none else
        if (v1 + (3 : Int32) < 0 ∨ L0 ≤ (v1 + (3 : Int32)).toNatClampNeg) then none else
        (f_X7_set w31 w32 w34 w41 w43 w44 w45 (xs (v1 + (1 : Int32)).toNatClampNeg) (xs (v1 + (2 : Int32)).toNatClampNeg) (xs (v1 + (3 : Int32)).toNatClampNeg)).bind fun q82 =>
        if q78.1 = q82.1 then (
          nm (v1 + 4) fun x84 =>
          lp_L_law_18 xs L0 nF x84 w2 w3 w4 w5 w6 w7 w8 q78.2.1 q78.2.2.1 q78.2.2.2.1 w12 w13 q78.2.2.2.2.1 q78.2.2.2.2.2 w16 w17 w18 w19 w20 w21 w22 w23 w24 w25 w26 w27 w28 w29 w30 w31 w32 w33 w34 w35 w36 w37 w38 w39 w40 w41 w42 q82.2.1 q82.2.2.1 q82.2.2.2 w46 w47 w48 w49 w50 w51 w52 w53 w54 w55 w56 w57 w58 w59
        )
        else (
          some ((0 : Int32))
        )
      )
      else (
      if x62 = 2 then (
        if (v1 + (1 : Int32) < 0 ∨ L0 ≤ (v1 + (1 : Int32)).toNatClampNeg) then none else
        (f_X6_lay 127 w3 w5 w6 w7 w8 w9 w10 w11 w12 w13 w14 w15 w16 (xs (v1 + (1 : Int32)).toNatClampNeg)).bind fun q87 =>
        if (v1 + (1 : Int32) < 0 ∨ L0 ≤ (v1 + (1 : Int32)).toNatClampNeg) then none else
        (f_X7_lay w31 w32 w33 w34 w35 w36 w37 w41 w42 w43 w44 w45 w46 w47 (xs (v1 + (1 : Int32)).toNatClampNeg)).bind fun q89 =>
        if q87.1 = q89.1 then (
          nm (v1 + 4) fun x91 =>
          lp_L_law_18 xs L0 nF x91 w2 w3 w4 w5 w6 w7 w8 w9 q87.2.1 w11 q87.2.2.1 q87.2.2.2.1 q87.2.2.2.2.1 q87.2.2.2.2.2.1 q87.2.2.2.2.2.2 w17 w18 w19 w20 w21 w22 w23 w24 w25 w26 w27 w28 w29 w30 w31 w32 w33 q89.2.1 q89.2.2.1 q89.2.2.2.1 q89.2.2.2.2.1 w38 w39 w40 w41 q89.2.2.2.2.2.1 q89.2.2.2.2.2.2.1 q89.2.2.2.2.2.2.2.1 q89.2.2.2.2.2.2.2.2.1 q89.2.2.2.2.2.2.2.2.2.1 q89.2.2.2.2.2.2.2.2.2.2 w48 w49 w50 w51 w52 w53 w54 w55 w56 w57 w58 w59
        )
        else (
          some ((0 : Int32))
        )
      )
      else (
      if x62 = 3 then (
        (f_X6_pass 127 w3 w5 w6 w7 w8 w9 w10 w11 w12 w13 w14 w15 w16).bind fun q93 =>
        (f_X7_pass w31 w32 w34 w37 w42 w43 w44 w45 w46 w47).bind fun q94 =>
        if q93.1 = q94.1 then (
          nm (v1 + 4) fun x96 =>
          lp_L_law_18 xs L0 nF x96 w2 w3 w4 w5 w6 w7 w8 w9 q93.2.1 w11 q93.2.2.1 q93.2.2.2.1 q93.2.2.2.2.1 q93.2.2.2.2.2.1 q93.2.2.2.2.2.2 w17 w18 w19 w20 w21 w22 w23 w24 w25 w26 w27 w28 w29 w30 w31 w32 w33 q94.2.1 w35 w36 w37 w38 w39 w40 w41 q94.2.2.1 q94.2.2.2.1 q94.2.2.2.2.1 q94.2.2.2.2.2.1 q94.2.2.2.2.2.2.1 q94.2.2.2.2.2.2.2 w48 w49 w50 w51 w52 w53 w54 w55 w56 w57 w58 w59
        )
        else (
          some ((0 : Int32))
        )
      )
      else (
      if x62 = 4 then (
        if (v1 + (1 : Int32) < 0 ∨ L0 ≤ (v1 + (1 : Int32)).toNatClampNeg) then none else
        (f_X6_why 127 w3 w5 w6 w7 w8 w9 w10 w11 w12 w13 w14 w15 (xs (v1 + (1 : Int32)).toNatClampNeg)).bind fun q99 =>
        if (v1 + (1 : Int32) < 0 ∨ L0 ≤ (v1 + (1 : Int32)).toNatClampNeg) then none else
        (f_X7_why w31 w32 w33 w34 w35 w36 w37 w41 w43 w44 w45 (xs (v1 + (1 : Int32)).toNatClampNeg)).bind fun q101 =>
        if q99.1 = q101.1 then (
          nm (v1 + 4) fun x103 =>
          lp_L_law_18 xs L0 nF x103 w2 w3 w4 w5 w6 w7 w8 w9 w10 w11 q99.2.1 q99.2.2 w14 w15 w16 w17 w18 w19 w20 w21 w22 w23 w24 w25 w26 w27 w28 w29 w30 w31 w32 w33 w34 q101.2.1 q101.2.2.1 q101.2.2.2 w38 w39 w40 w41 w42 w43 w44 w45 w46 w47 w48 w49 w50 w51 w52 w53 w54 w55 w56 w57 w58 w59
        )
        else (
          some ((0 : Int32))
        )
      )
      else (
      if x62 = 5 then (
        (f_X6_undo w10).bind fun q105 =>
        (f_X7_undo w34).bind fun q106 =>
        if q105.1 = q106.1 then (
          nm (v1 + 4) fun x108 =>
          lp_L_law_18 xs L0 nF x108 w2 w3 w4 w5 w6 w7 w8 w9 q105.2 w11 w12 w13 w14 w15 w16 w17 w18 w19 w20 w21 w22 w23 w24 w25 w26 w27 w28 w29 w30 w31 w32 w33 q106.2 w35 w36 w37 w38 w39 w40 w41 w42 w43 w44 w45 w46 w47 w48 w49 w50 w51 w52 w53 w54 w55 w56 w57 w58 w59
        )
        else (
          some ((0 : Int32))
        )
      )
      else (
      if x62 = 6 then (
        if (v1 + (1 : Int32) < 0 ∨ L0 ≤ (v1 + (1 : Int32)).toNatClampNeg) then none else
        (f_X6_at 127 w5 w10 w14 w15 (xs (v1 + (1 : Int32)).toNatClampNeg)).bind fun q111 =>
        if (v1 + (1 : Int32) < 0 ∨ L0 ≤ (v1 + (1 : Int32)).toNatClampNeg) then none else
        (f_X7_at w31 w32 w34 w43 w44 (xs (v1 + (1 : Int32)).toNatClampNeg)).bind fun q113 =>
        if q111 = q113 then (
          nm (v1 + 4) fun x115 =>
          lp_L_law_18 xs L0 nF x115 w2 w3 w4 w5 w6 w7 w8 w9 w10 w11 w12 w13 w14 w15 w16 w17 w18 w19 w20 w21 w22 w23 w24 w25 w26 w27 w28 w29 w30 w31 w32 w33 w34 w35 w36 w37 w38 w39 w40 w41 w42 w43 w44 w45 w46 w47 w48 w49 w50 w51 w52 w53 w54 w55 w56 w57 w58 w59
        )
        else (
          some ((0 : Int32))
        )
      )
      else (
      if x62 = 7 then (
        if (v1 + (1 : Int32) < 0 ∨ L0 ≤ (v1 + (1 : Int32)).toNatClampNeg) then none else
        if (v1 + (2 : Int32) < 0 ∨ L0 ≤ (v1 + (2 : Int32)).toNatClampNeg) then none else
        (f_X6_group 127 w3 w5 w6 w7 w8 w10 w14 w15 (xs (v1 + (1 : Int32)).toNatClampNeg) (xs (v1 + (2 : Int32)).toNatClampNeg)).bind fun q119 =>
        if (v1 + (1 : Int32) < 0 ∨ L0 ≤ (v1 + (1 : Int32)).toNatClampNeg) then none else
        if (v1 + (2 : Int32) < 0 ∨ L0 ≤ (v1 + (2 : Int32)).toNatClampNeg) then none else
        (f_X7_group w31 w32 w34 w41 w43 w44 (xs (v1 + (1 : Int32)).toNatClampNeg) (xs (v1 + (2 : Int32)).toNatClampNeg)).bind fun q122 =>
        if q119 = q122 then (
          nm (v1 + 4) fun x124 =>
          lp_L_law_18 xs L0 nF x124 w2 w3 w4 w5 w6 w7 w8 w9 w10 w11 w12 w13 w14 w15 w16 w17 w18 w19 w20 w21 w22 w23 w24 w25 w26 w27 w28 w29 w30 w31 w32 w33 w34 w35 w36 w37 w38 w39 w40 w41 w42 w43 w44 w45 w46 w47 w48 w49 w50 w51 w52 w53 w54 w55 w56 w57 w58 w59
        )
        else (
          some ((0 : Int32))
        )
      )
      else (
      if x62 = 8 then (
        if (v1 + (1 : Int32) < 0 ∨ L0 ≤ (v1 + (1 : Int32)).toNatClampNeg) then none else
        if (v1 + (2 : Int32) < 0 ∨ L0 ≤ (v1 + (2 : Int32)).toNatClampNeg) then none else
        (f_X6_breath 127 w3 w5 w6 w7 w8 w10 w14 w15 (xs (v1 + (1 : Int32)).toNatClampNeg) (xs (v1 + (2 : Int32)).toNatClampNeg)).bind fun q128 =>
        if (v1 + (1 : Int32) < 0 ∨ L0 ≤ (v1 + (1 : Int32)).toNatClampNeg) then none else
        if (v1 + (2 : Int32) < 0 ∨ L0 ≤ (v1 + (2 : Int32)).toNatClampNeg) then none else
        (f_X7_breath w31 w32 w34 w41 w43 w44 (xs (v1 + (1 : Int32)).toNatClampNeg) (xs (v1 + (2 : Int32)).toNatClampNeg)).bind fun q131 =>
        if q128 = q131 then (
          nm (v1 + 4) fun x133 =>
          lp_L_law_18 xs L0 nF x133 w2 w3 w4 w5 w6 w7 w8 w9 w10 w11 w12 w13 w14 w15 w16 w17 w18 w19 w20 w21 w22 w23 w24 w25 w26 w27 w28 w29 w30 w31 w32 w33 w34 w35 w36 w37 w38 w39 w40 w41 w42 w43 w44 w45 w46 w47 w48 w49 w50 w51 w52 w53 w54 w55 w56 w57 w58 w59
        )
        else (
          some ((0 : Int32))
        )
      )
      else (
      if x62 = 9 then (
        if (v1 + (1 : Int32) < 0 ∨ L0 ≤ (v1 + (1 : Int32)).toNatClampNeg) then none else
        if (v1 + (2 : Int32) < 0 ∨ L0 ≤ (v1 + (2 : Int32)).toNatClampNeg) then none else
        if (v1 + (3 : Int32) < 0 ∨ L0 ≤ (v1 + (3 : Int32)).toNatClampNeg) then none else
        (f_X6_region 127 w3 w5 w6 w7 w8 w10 w14 w15 (xs (v1 + (1 : Int32)).toNatClampNeg) (xs (v1 + (2 : Int32)).toNatClampNeg) (xs (v1 + (3 : Int32)).toNatClampNeg)).bind fun q138 =>
        if (v1 + (1 : Int32) < 0 ∨ L0 ≤ (v1 + (1 : Int32)).toNatClampNeg) then none else
        if (v1 + (2 : Int32) < 0 ∨ L0 ≤ (v1 + (2 : Int32)).toNatClampNeg) then none else
        if (v1 + (3 : Int32) < 0 ∨ L0 ≤ (v1 + (3 : Int32)).toNatClampNeg) then none else
        (f_X7_region w31 w32 w34 w41 w43 w44 (xs (v1 + (1 : Int32)).toNatClampNeg) (xs (v1 + (2 : Int32)).toNatClampNeg) (xs (v1 + (3 : Int32)).toNatClampNeg)).bind fun q142 =>
        if q138 = q142 then (
          nm (v1 + 4) fun x144 =>
          lp_L_law_18 xs L0 nF x144 w2 w3 w4 w5 w6 w7 w8 w9 w10 w11 w12 w13 w14 w15 w16 w17 w18 w19 w20 w21 w22 w23 w24 w25 w26 w27 w28 w29 w30 w31 w32 w33 w34 w35 w36 w37 w38 w39 w40 w41 w42 w43 w44 w45 w46 w47 w48 w49 w50 w51 w52 w53 w54 w55 w56 w57 w58 w59
        )
        else (
          some ((0 : Int32))
        )
      )
      else (
      if x62 = 10 then (
        if (v1 + (1 : Int32) < 0 ∨ L0 ≤ (v1 + (1 : Int32)).toNatClampNeg) then none else
        (f_X6_standing 127 w3 w5 w6 w7 w8 w10 w14 w15 (xs (v1 + (1 : Int32)).toNatClampNeg)).bind fun q147 =>
        if (v1 + (1 : Int32) < 0 ∨ L0 ≤ (v1 + (1 : Int32)).toNatClampNeg) then none else
        (f_X7_standing w31 w32 w34 w41 w43 w44 (xs (v1 + (1 : Int32)).toNatClampNeg)).bind fun q149 =>
        if q147 = q149 then (
          nm (v1 + 4) fun x151 =>
          lp_L_law_18 xs L0 nF x151 w2 w3 w4 w5 w6 w7 w8 w9 w10 w11 w12 w13 w14 w15 w16 w17 w18 w19 w20 w21 w22 w23 w24 w25 w26 w27 w28 w29 w30 w31 w32 w33 w34 w35 w36 w37 w38 w39 w40 w41 w42 w43 w44 w45 w46 w47 w48 w49 w50 w51 w52 w53 w54 w55 w56 w57 w58 w59
        )
        else (
          some ((0 : Int32))
        )
      )
      else (
      if x62 = 11 then (
        if (v1 + (1 : Int32) < 0 ∨ L0 ≤ (v1 + (1 : Int32)).toNatClampNeg) then none else
        if (v1 + (2 : Int32) < 0 ∨ L0 ≤ (v1 + (2 : Int32)).toNatClampNeg) then none else
        (f_X6_chase 127 41 w3 w5 w6 w7 w8 w10 w14 w15 w17 w18 w19 w20 w21 w22 w23 w24 w25 w26 w27 (xs (v1 + (1 : Int32)).toNatClampNeg) (xs (v1 + (2 : Int32)).toNatClampNeg)).bind fun q155 =>
        if (v1 + (1 : Int32) < 0 ∨ L0 ≤ (v1 + (1 : Int32)).toNatClampNeg) then none else
        if (v1 + (2 : Int32) < 0 ∨ L0 ≤ (v1 + (2 : Int32)).toNatClampNeg) then none else
        (f_X7_chase w31 w32 w34 w35 w36 w37 w38 w39 w41 w43 w44 w48 w49 w50 w51 w52 w53 w54 w55 w56 w57 w58 (xs (v1 + (1 : Int32)).toNatClampNeg) (xs (v1 + (2 : Int32)).toNatClampNeg)).bind fun q158 =>
        if q155.1 = q158.1 then (
          nm (v1 + 4) fun x160 =>
          lp_L_law_18 xs L0 nF x160 w2 w3 w4 w5 w6 w7 w8 w9 w10 w11 w12 w13 w14 w15 w16 q155.2.1 q155.2.2.1 q155.2.2.2.1 q155.2.2.2.2.1 q155.2.2.2.2.2.1 q155.2.2.2.2.2.2.1 q155.2.2.2.2.2.2.2.1 q155.2.2.2.2.2.2.2.2.1 q155.2.2.2.2.2.2.2.2.2.1 q155.2.2.2.2.2.2.2.2.2.2.1 q155.2.2.2.2.2.2.2.2.2.2.2 w28 w29 w30 w31 w32 w33 w34 q158.2.1 q158.2.2.1 q158.2.2.2.1 q158.2.2.2.2.1 q158.2.2.2.2.2.1 w40 w41 w42 w43 w44 w45 w46 w47 q158.2.2.2.2.2.2.1 q158.2.2.2.2.2.2.2.1 q158.2.2.2.2.2.2.2.2.1 q158.2.2.2.2.2.2.2.2.2.1 q158.2.2.2.2.2.2.2.2.2.2.1 q158.2.2.2.2.2.2.2.2.2.2.2.1 q158.2.2.2.2.2.2.2.2.2.2.2.2.1 q158.2.2.2.2.2.2.2.2.2.2.2.2.2.1 q158.2.2.2.2.2.2.2.2.2.2.2.2.2.2.1 q158.2.2.2.2.2.2.2.2.2.2.2.2.2.2.2.1 q158.2.2.2.2.2.2.2.2.2.2.2.2.2.2.2.2 w59
        )
        else (
          some ((0 : Int32))
        )
      )
      else (
      if x62 = 12 then (
        if (v1 + (1 : Int32) < 0 ∨ L0 ≤ (v1 + (1 : Int32)).toNatClampNeg) then none else
        if (v1 + (2 : Int32) < 0 ∨ L0 ≤ (v1 + (2 : Int32)).toNatClampNeg) then none else
        (f_X6_fight 127 w2 w3 w5 w6 w7 w8 w9 w10 w11 w12 w13 w14 w15 w16 w17 w28 w29 w30 (xs (v1 + (1 : Int32)).toNatClampNeg) (xs (v1 + (2 : Int32)).toNatClampNeg)).bind fun q164 =>
        if (v1 + (1 : Int32) < 0 ∨ L0 ≤ (v1 + (1 : Int32)).toNatClampNeg) then none else
        if (v1 + (2 : Int32) < 0 ∨ L0 ≤ (v1 + (2 : Int32)).toNatClampNeg) then none else
        (f_X7_fight w31 w32 w33 w34 w35 w36 w37 w38 w39 w40 w41 w43 w44 w45 w59 (xs (v1 + (1 : Int32)).toNatClampNeg) (xs (v1 + (2 : Int32)).toNatClampNeg)).bind fun q167 =>
        if q164.1 = q167.1 then (
          nm (v1 + 4) fun x169 =>
          lp_L_law_18 xs L0 nF x169 q164.2.1 w3 w4 w5 w6 w7 w8 w9 q164.2.2.1 w11 q164.2.2.2.1 q164.2.2.2.2.1 q164.2.2.2.2.2.1 q164.2.2.2.2.2.2.1 q164.2.2.2.2.2.2.2.1 q164.2.2.2.2.2.2.2.2.1 w18 w19 w20 w21 w22 w23 w24 w25 w26 w27 q164.2.2.2.2.2.2.2.2.2.1 q164.2.2.2.2.2.2.2.2.2.2.1 q164.2.2.2.2.2.2.2.2.2.2.2 w31 w32 w33 w34 q167.2.1 q167.2.2.1 q167.2.2.2.1 q167.2.2.2.2.1 q167.2.2.2.2.2.1 q167.2.2.2.2.2.2.1 w41 w42 q167.2.2.2.2.2.2.2.1 q167.2.2.2.2.2.2.2.2.1 q167.2.2.2.2.2.2.2.2.2.1 w46 w47 w48 w49 w50 w51 w52 w53 w54 w55 w56 w57 w58 q167.2.2.2.2.2.2.2.2.2.2
        )
        else (
          some ((0 : Int32))
        )
      )
      else (
      if x62 = 13 then (
        (f_X6_tries w17).bind fun q171 =>
        (f_X7_tries w38).bind fun q172 =>
        if q171 = q172 then (
          nm (v1 + 4) fun x174 =>
          lp_L_law_18 xs L0 nF x174 w2 w3 w4 w5 w6 w7 w8 w9 w10 w11 w12 w13 w14 w15 w16 w17 w18 w19 w20 w21 w22 w23 w24 w25 w26 w27 w28 w29 w30 w31 w32 w33 w34 w35 w36 w37 w38 w39 w40 w41 w42 w43 w44 w45 w46 w47 w48 w49 w50 w51 w52 w53 w54 w55 w56 w57 w58 w59
        )
        else (
          some ((0 : Int32))
        )
      )
      else (
      if x62 = 14 then (
        (f_X6_first w2).bind fun q176 =>
        (f_X7_first w40).bind fun q177 =>
        if q176 = q177 then (
          nm (v1 + 4) fun x179 =>
          lp_L_law_18 xs L0 nF x179 w2 w3 w4 w5 w6 w7 w8 w9 w10 w11 w12 w13 w14 w15 w16 w17 w18 w19 w20 w21 w22 w23 w24 w25 w26 w27 w28 w29 w30 w31 w32 w33 w34 w35 w36 w37 w38 w39 w40 w41 w42 w43 w44 w45 w46 w47 w48 w49 w50 w51 w52 w53 w54 w55 w56 w57 w58 w59
        )
        else (
          some ((0 : Int32))
        )
      )
      else (
      if x62 = 15 then (
        if (v1 + (1 : Int32) < 0 ∨ L0 ≤ (v1 + (1 : Int32)).toNatClampNeg) then none else
        if (v1 + (2 : Int32) < 0 ∨ L0 ≤ (v1 + (2 : Int32)).toNatClampNeg) then none else
        (f_X6_points 127 w3 w5 w6 w7 w8 w10 w14 w15 (xs (v1 + (1 : Int32)).toNatClampNeg) (xs (v1 + (2 : Int32)).toNatClampNeg)).bind fun q183 =>
        if (v1 + (1 : Int32) < 0 ∨ L0 ≤ (v1 + (1 : Int32)).toNatClampNeg) then none else
        if (v1 + (2 : Int32) < 0 ∨ L0 ≤ (v1 + (2 : Int32)).toNatClampNeg) then none else
        (f_X7_points w31 w32 w34 w41 w43 w44 w46 w47 (xs (v1 + (1 : Int32)).toNatClampNeg) (xs (v1 + (2 : Int32)).toNatClampNeg)).bind fun q186 =>
        if q183 = q186 then (
          nm (v1 + 4) fun x188 =>
          lp_L_law_18 xs L0 nF x188 w2 w3 w4 w5 w6 w7 w8 w9 w10 w11 w12 w13 w14 w15 w16 w17 w18 w19 w20 w21 w22 w23 w24 w25 w26 w27 w28 w29 w30 w31 w32 w33 w34 w35 w36 w37 w38 w39 w40 w41 w42 w43 w44 w45 w46 w47 w48 w49 w50 w51 w52 w53 w54 w55 w56 w57 w58 w59
        )
        else (
          some ((0 : Int32))
        )
      )
      else (
      if x62 = 16 then (
        if (v1 + (1 : Int32) < 0 ∨ L0 ≤ (v1 + (1 : Int32)).toNatClampNeg) then none else
        (f_X6_count 127 w3 w4 w5 w9 w10 w11 w14 w15 w16 (xs (v1 + (1 : Int32)).toNatClampNeg)).bind fun q191 =>
        if (v1 + (1 : Int32) < 0 ∨ L0 ≤ (v1 + (1 : Int32)).toNatClampNeg) then none else
        (f_X7_count w31 w32 w33 w34 w42 w43 w44 w45 w46 w47 (xs (v1 + (1 : Int32)).toNatClampNeg)).bind fun q193 =>
        if q191 = q193 then (
          nm (v1 + 4) fun x195 =>
          lp_L_law_18 xs L0 nF x195 w2 w3 w4 w5 w6 w7 w8 w9 w10 w11 w12 w13 w14 w15 w16 w17 w18 w19 w20 w21 w22 w23 w24 w25 w26 w27 w28 w29 w30 w31 w32 w33 w34 w35 w36 w37 w38 w39 w40 w41 w42 w43 w44 w45 w46 w47 w48 w49 w50 w51 w52 w53 w54 w55 w56 w57 w58 w59
        )
        else (
          some ((0 : Int32))
        )
      )
      else (
      if x62 = 17 then (
        if (v1 + (1 : Int32) < 0 ∨ L0 ≤ (v1 + (1 : Int32)).toNatClampNeg) then none else
        (f_X6_act 127 w10 w16 (xs (v1 + (1 : Int32)).toNatClampNeg)).bind fun q198 =>
        if (v1 + (1 : Int32) < 0 ∨ L0 ≤ (v1 + (1 : Int32)).toNatClampNeg) then none else
        (f_X7_act w34 w42 (xs (v1 + (1 : Int32)).toNatClampNeg)).bind fun q200 =>
        if q198 = q200 then (
          nm (v1 + 4) fun x202 =>
          lp_L_law_18 xs L0 nF x202 w2 w3 w4 w5 w6 w7 w8 w9 w10 w11 w12 w13 w14 w15 w16 w17 w18 w19 w20 w21 w22 w23 w24 w25 w26 w27 w28 w29 w30 w31 w32 w33 w34 w35 w36 w37 w38 w39 w40 w41 w42 w43 w44 w45 w46 w47 w48 w49 w50 w51 w52 w53 w54 w55 w56 w57 w58 w59
        )
        else (
          some ((0 : Int32))
        )
      )
      else (
      if x62 = 18 then (
        (f_X6_digest 127 w3 w4 w5 w9 w10 w11 w14 w15 w16).bind fun q204 =>
        (f_X7_digest w31 w32 w33 w34 w42 w43 w44 w45 w46 w47).bind fun q205 =>
        if q204 = q205 then (
          nm (v1 + 4) fun x207 =>
          lp_L_law_18 xs L0 nF x207 w2 w3 w4 w5 w6 w7 w8 w9 w10 w11 w12 w13 w14 w15 w16 w17 w18 w19 w20 w21 w22 w23 w24 w25 w26 w27 w28 w29 w30 w31 w32 w33 w34 w35 w36 w37 w38 w39 w40 w41 w42 w43 w44 w45 w46 w47 w48 w49 w50 w51 w52 w53 w54 w55 w56 w57 w58 w59
        )
        else (
          some ((0 : Int32))
        )
      )
      else (
      nm (v1 + 4) fun x209 =>
      lp_L_law_18 xs L0 nF x209 w2 w3 w4 w5 w6 w7 w8 w9 w10 w11 w12 w13 w14 w15 w16 w17 w18 w19 w20 w21 w22 w23 w24 w25 w26 w27 w28 w29 w30 w31 w32 w33 w34 w35 w36 w37 w38 w39 w40 w41 w42 w43 w44 w45 w46 w47 w48 w49 w50 w51 w52 w53 w54 w55 w56 w57 w58 w59)))))))))))))))))))
    )

