abbrev rm_L_law : Room := { frames := 55, cells := 0, slots := 0, locals := 1550 }
set_option maxHeartbeats 8000000 in
set_option maxRecDepth 200000 in
theorem law_loop {p : Program} {l : Launch} {e : Env} {R : Room} {s : State} {m : MethodId} {args : Array Value} {below : List Frame} {meth : Method} {c : Code} {H0 H : Heap} {locs : List Loc} {A : Nat → Prop} {cells slots : Nat} {Q : State → Prop} {ls : Array Slot} (dC : Nat → ClassId) (dI : Nat → Nat → Nat) (h_eb h_g h_row h_bl h_wh h_ac h_life h_t h_ch h_hrow h_hbl h_hwh h_hac h_fi : Nat) (c_bl c_wh c_ac c_hbl c_hwh c_hac : ClassId) (ad : Nat → Nat) (cA : Nat → ClassId) (eb_winningAct g_width g_height g_size : Int32) (g_all g_notFirstColumn g_notLastColumn : Int64) (row_law row_latest row_opener : Int32) (row_blackThen row_whiteThen : Int64) (bl wh : Nat → Int64) (ac : Nat → Int32) (t_made ch_target ch_chased hrow_law hrow_latest hrow_opener : Int32) (hrow_blackThen hrow_whiteThen : Int64) (hbl hwh : Nat → Int64) (hac : Nat → Int32) (fi_target fi_attacked fi_decidingAct mo_wide mo_high mo_law mo_acts : Int32) (mo_newBlack mo_newWhite : Int64) (mo_taken mo_triesMany mo_isSpent mo_found : Int32) (a_neighbours : Nat → Int64) (a_act : Nat → Int32) (a_blackAt a_whiteAt : Nat → Int64) (a_moveAt a_takenBlack a_takenWhite : Nat → Int32) (a_chaseBlack a_chaseWhite a_aheadBlack a_aheadWhite : Nat → Int64) (a_hasAhead : Nat → Int32) (a_breathsLeft a_laidBlack a_laidWhite a_answersLeft : Nat → Int64) (a_firstAnswer a_answering a_next : Nat → Int32) (b L0 : Nat) (xs : Nat → Int32) (i0 q : Int32) (hq : q = 1) (hRf : rm_L_law.frames ≤ R.frames) (hRl : rm_L_law.locals ≤ R.locals) (hcs : cells ≤ R.cells ∧ slots ≤ R.slots) (S : CallFix p m c cL_law 4 s args wsL_law RL) (hN : NN s) (hP : va_P (dC, dI) vwCl (wd_L h_eb h_g h_row h_bl h_wh h_ac h_life h_t h_ch h_hrow h_hbl h_hwh h_hac h_fi c_bl c_wh c_ac c_hbl c_hwh c_hac ad cA eb_winningAct g_width g_height g_size g_all g_notFirstColumn g_notLastColumn row_law row_latest row_opener row_blackThen row_whiteThen bl wh ac t_made ch_target ch_chased hrow_law hrow_latest hrow_opener hrow_blackThen hrow_whiteThen hbl hwh hac fi_target fi_attacked fi_decidingAct mo_wide mo_high mo_law mo_acts mo_newBlack mo_newWhite mo_taken mo_triesMany mo_isSpent mo_found a_neighbours a_act a_blackAt a_whiteAt a_moveAt a_takenBlack a_takenWhite a_chaseBlack a_chaseWhite a_aheadBlack a_aheadWhite a_hasAhead a_breathsLeft a_laidBlack a_laidWhite a_answersLeft a_firstAnswer a_answering a_next) H) (hK : va_K (dC, dI) vwCl (td_L c_bl c_wh c_ac c_hbl c_hwh c_hac cA) s) (hD : va_D A (wd_L h_eb h_g h_row h_bl h_wh h_ac h_life h_t h_ch h_hrow h_hbl h_hwh h_hac h_fi c_bl c_wh c_ac c_hbl c_hwh c_hac ad cA eb_winningAct g_width g_height g_size g_all g_notFirstColumn g_notLastColumn row_law row_latest row_opener row_blackThen row_whiteThen bl wh ac t_made ch_target ch_chased hrow_law hrow_latest hrow_opener hrow_blackThen hrow_whiteThen hbl hwh hac fi_target fi_attacked fi_decidingAct mo_wide mo_high mo_law mo_acts mo_newBlack mo_newWhite mo_taken mo_triesMany mo_isSpent mo_found a_neighbours a_act a_blackAt a_whiteAt a_moveAt a_takenBlack a_takenWhite a_chaseBlack a_chaseWhite a_aheadBlack a_aheadWhite a_hasAhead a_breathsLeft a_laidBlack a_laidWhite a_answersLeft a_firstAnswer a_answering a_next)) (hA : ∀ q, H0.size ≤ q → A q) (hS : va_S A H0 H locs) (hX : va_X b L0 xs s H0) (hbsz : b < H0.size) (hbA : ¬ A b) (hl : lv_has ls 4 [(0, .ref b), (1, .ref h_eb), (2, .ref (ad 0)), (3, .int i0)]) (kret : ∀ (H : Heap) (locs : List Loc) (pc : Nat) (ls : Array Slot), decode cL_law pc = .ok (.ireturn, 1) → (∃ ws, va_P (dC, dI) vwCl ws H) → True → va_S A H0 H locs → W p l e R s m args below meth c H locs cells slots Q (F0 m pc ls [.int 1])) (hr : lp_L_law_18 xs L0 FU i0 eb_winningAct g_width g_height g_size g_all g_notFirstColumn g_notLastColumn row_law row_latest row_opener row_blackThen row_whiteThen bl wh ac t_made ch_target ch_chased hrow_law hrow_latest hrow_opener hrow_blackThen hrow_whiteThen hbl hwh hac fi_target fi_attacked fi_decidingAct mo_wide mo_high mo_law mo_acts mo_newBlack mo_newWhite mo_taken mo_triesMany mo_isSpent mo_found a_neighbours a_act a_blackAt a_whiteAt a_moveAt a_takenBlack a_takenWhite a_chaseBlack a_chaseWhite a_aheadBlack a_aheadWhite a_hasAhead a_breathsLeft a_laidBlack a_laidWhite a_answersLeft a_firstAnswer a_answering a_next = some q) : W p l e R s m args below meth c H locs cells slots Q (F0 m 18 ls []) := by
  obtain ⟨hx, hb, hml, hown, hts⟩ := S
  have hown : s.vm.findClass RL = some m.cls := hown
  have S : CallFix p m c cL_law 4 s args wsL_law RL := ⟨hx, hb, hml, hown, hts⟩
  have llp_L_law_18 : ∀ (nF : Nat) (v1 : Int32) (w2 : Int32) (w3 : Int32) (w4 : Int32) (w5 : Int32) (w6 : Int64) (w7 : Int64) (w8 : Int64) (w9 : Int32) (w10 : Int32) (w11 : Int32) (w12 : Int64) (w13 : Int64) (w14 : Nat → Int64) (w15 : Nat → Int64) (w16 : Nat → Int32) (w17 : Int32) (w18 : Int32) (w19 : Int32) (w20 : Int32) (w21 : Int32) (w22 : Int32) (w23 : Int64) (w24 : Int64) (w25 : Nat → Int64) (w26 : Nat → Int64) (w27 : Nat → Int32) (w28 : Int32) (w29 : Int32) (w30 : Int32) (w31 : Int32) (w32 : Int32) (w33 : Int32) (w34 : Int32) (w35 : Int64) (w36 : Int64) (w37 : Int32) (w38 : Int32) (w39 : Int32) (w40 : Int32) (w41 : Nat → Int64) (w42 : Nat → Int32) (w43 : Nat → Int64) (w44 : Nat → Int64) (w45 : Nat → Int32) (w46 : Nat → Int32) (w47 : Nat → Int32) (w48 : Nat → Int64) (w49 : Nat → Int64) (w50 : Nat → Int64) (w51 : Nat → Int64) (w52 : Nat → Int32) (w53 : Nat → Int64) (w54 : Nat → Int64) (w55 : Nat → Int64) (w56 : Nat → Int64) (w57 : Nat → Int32) (w58 : Nat → Int32) (w59 : Nat → Int32) (H : Heap) (locs : List Loc), lp_L_law_18 xs L0 nF v1 w2 w3 w4 w5 w6 w7 w8 w9 w10 w11 w12 w13 w14 w15 w16 w17 w18 w19 w20 w21 w22 w23 w24 w25 w26 w27 w28 w29 w30 w31 w32 w33 w34 w35 w36 w37 w38 w39 w40 w41 w42 w43 w44 w45 w46 w47 w48 w49 w50 w51 w52 w53 w54 w55 w56 w57 w58 w59 = some q → va_P (dC, dI) vwCl (wd_L h_eb h_g h_row h_bl h_wh h_ac h_life h_t h_ch h_hrow h_hbl h_hwh h_hac h_fi c_bl c_wh c_ac c_hbl c_hwh c_hac ad cA w2 w3 w4 w5 w6 w7 w8 w9 w10 w11 w12 w13 w14 w15 w16 w17 w18 w19 w20 w21 w22 w23 w24 w25 w26 w27 w28 w29 w30 w31 w32 w33 w34 w35 w36 w37 w38 w39 w40 w41 w42 w43 w44 w45 w46 w47 w48 w49 w50 w51 w52 w53 w54 w55 w56 w57 w58 w59) H → va_D A (wd_L h_eb h_g h_row h_bl h_wh h_ac h_life h_t h_ch h_hrow h_hbl h_hwh h_hac h_fi c_bl c_wh c_ac c_hbl c_hwh c_hac ad cA w2 w3 w4 w5 w6 w7 w8 w9 w10 w11 w12 w13 w14 w15 w16 w17 w18 w19 w20 w21 w22 w23 w24 w25 w26 w27 w28 w29 w30 w31 w32 w33 w34 w35 w36 w37 w38 w39 w40 w41 w42 w43 w44 w45 w46 w47 w48 w49 w50 w51 w52 w53 w54 w55 w56 w57 w58 w59) → va_S A H0 H locs → ∀ (ls : Array Slot), lv_has ls 4 [(0, .ref b), (1, .ref h_eb), (2, .ref (ad 0)), (3, .int v1)] → W p l e R s m args below meth c H locs cells slots Q (F0 m 18 ls []) := by
    intro nF
    induction nF with
    | zero => intro v1 w2 w3 w4 w5 w6 w7 w8 w9 w10 w11 w12 w13 w14 w15 w16 w17 w18 w19 w20 w21 w22 w23 w24 w25 w26 w27 w28 w29 w30 w31 w32 w33 w34 w35 w36 w37 w38 w39 w40 w41 w42 w43 w44 w45 w46 w47 w48 w49 w50 w51 w52 w53 w54 w55 w56 w57 w58 w59 H locs hr; exact absurd hr (by simp [lp_L_law_18])
    | succ nF ih =>
      intro v1 w2 w3 w4 w5 w6 w7 w8 w9 w10 w11 w12 w13 w14 w15 w16 w17 w18 w19 w20 w21 w22 w23 w24 w25 w26 w27 w28 w29 w30 w31 w32 w33 w34 w35 w36 w37 w38 w39 w40 w41 w42 w43 w44 w45 w46 w47 w48 w49 w50 w51 w52 w53 w54 w55 w56 w57 w58 w59 H locs hr hP hD hS ls hl
      rw [lp_L_law_18] at hr
      refine lv_iload_n hx hb dL_law_18 rfl (lv_at hl 3 rfl) ?_
      refine lv_aload_n hx hb dL_law_19 rfl (lv_at hl 0 rfl) ?_
      refine va_slen hx hb hX hbsz hbA hS dL_law_20 ?_
      refine W.eq (g2 := F0 m 21 ls [.int (nI L0), .int v1]) rfl ?_
      refine lv_iconst (v := (4 : Int32)) hx hb dL_law_21 (by decide) ?_
      refine lv_isub hx hb dL_law_22 ?_
      refine lv_icmp_gt (tgt := 628) hx hb dL_law_23 (by decide) (fun c60 => ?_) (fun c60 => ?_)
      · have hr := ite_p hr c60
        refine lv_iconst (v := (1 : Int32)) hx hb dL_law_628 (by decide) ?_
        obtain rfl := Option.some.inj hr
        exact kret _ _ _ _ dL_law_629 ⟨_, hP⟩ trivial hS
      · have hr := ite_n hr c60
        refine lv_aload_n hx hb dL_law_26 rfl (lv_at hl 0 rfl) ?_
        refine lv_iload_n hx hb dL_law_27 rfl (lv_at hl 3 rfl) ?_
        obtain ⟨hi61, hr⟩ := ite_g hr
        refine va_sld hx hb hX hbsz hbA hS hi61 dL_law_28 ?_
        refine lv_bipush (v := (31 : Int32)) hx hb dL_law_29 (by decide) ?_
        refine lv_iand hx hb dL_law_31 ?_
        refine lv_topi (fun x62 ex62 => ?_)
        have hr := nm_use hr ex62
        by_cases c63 : x62 = 0
        · have hr := ite_p hr c63
          refine lv_tableIn (off := 92) (tgt := 124) hx hb dL_law_32 (by rw [c63]; decide) (by rw [c63]; decide) (by rw [c63]; rfl) (by decide) ?_
          refine lv_aload_n hx hb dL_law_124 rfl (lv_at hl 1 rfl) ?_
          refine lv_aload_n hx hb dL_law_125 rfl (lv_at hl 0 rfl) ?_
          refine lv_iload_n hx hb dL_law_126 rfl (lv_at hl 3 rfl) ?_
          refine lv_iconst (v := (1 : Int32)) hx hb dL_law_127 (by decide) ?_
          refine lv_iadd hx hb dL_law_128 ?_
          obtain ⟨hi64, hr⟩ := ite_g hr
          refine va_sld hx hb hX hbsz hbA hS hi64 dL_law_129 ?_
          refine lv_aload_n hx hb dL_law_130 rfl (lv_at hl 0 rfl) ?_
          refine lv_iload_n hx hb dL_law_131 rfl (lv_at hl 3 rfl) ?_
          refine lv_iconst (v := (2 : Int32)) hx hb dL_law_132 (by decide) ?_
          refine lv_iadd hx hb dL_law_133 ?_
          obtain ⟨hi65, hr⟩ := ite_g hr
          refine va_sld hx hb hX hbsz hbA hS hi65 dL_law_134 ?_
          refine lv_aload_n hx hb dL_law_135 rfl (lv_at hl 0 rfl) ?_
          refine lv_iload_n hx hb dL_law_136 rfl (lv_at hl 3 rfl) ?_
          refine lv_iconst (v := (3 : Int32)) hx hb dL_law_137 (by decide) ?_
          refine lv_iadd hx hb dL_law_138 ?_
          obtain ⟨hi66, hr⟩ := ite_g hr
          refine va_sld hx hb hX hbsz hbA hS hi66 dL_law_139 ?_
          obtain ⟨q67, hq67, hr⟩ := bd_use hr
          refine icV_i (As := [.int (xs (v1 + (1 : Int32)).toNatClampNeg), .int (xs (v1 + (2 : Int32)).toNatClampNeg), .int (xs (v1 + (3 : Int32)).toNatClampNeg)]) (rest := []) (ws2 := (wd_L h_eb h_g h_row h_bl h_wh h_ac h_life h_t h_ch h_hrow h_hbl h_hwh h_hac h_fi c_bl c_wh c_ac c_hbl c_hwh c_hac ad cA w2 q67.2.1 q67.2.2.1 q67.2.2.2.1 q67.2.2.2.2.1 q67.2.2.2.2.2.1 q67.2.2.2.2.2.2.1 q67.2.2.2.2.2.2.2.1 q67.2.2.2.2.2.2.2.2.1 q67.2.2.2.2.2.2.2.2.2.1 w12 w13 q67.2.2.2.2.2.2.2.2.2.2.1 q67.2.2.2.2.2.2.2.2.2.2.2 w16 w17 w18 w19 w20 w21 w22 w23 w24 w25 w26 w27 w28 w29 w30 w31 w32 w33 w34 w35 w36 w37 w38 w39 w40 w41 w42 w43 w44 w45 w46 w47 w48 w49 w50 w51 w52 w53 w54 w55 w56 w57 w58 w59)) S (c_X6_board l dC dI h_eb h_g h_row h_bl h_wh h_ac h_life h_t h_ch h_hrow h_hbl h_hwh h_hac h_fi c_bl c_wh c_ac c_hbl c_hwh c_hac 127 41 w2 w3 w4 w5 w6 w7 w8 w9 w10 w11 w12 w13 w14 w15 w16 w17 w18 w19 w20 w21 w22 w23 w24 w25 w26 w27 w28 w29 w30 H.size (xs (v1 + (1 : Int32)).toNatClampNeg) (xs (v1 + (2 : Int32)).toNatClampNeg) (xs (v1 + (3 : Int32)).toNatClampNeg) q67 hq67) (cwV 3 hts gL_law_X6_board rfl rfl rfl (by decide +kernel) ⟨Nat.le_trans (m := rm_L_law.frames) (by decide) hRf, Nat.le_trans (m := rm_L_law.locals) (by decide) hRl⟩) hN hP hK hD hS hA hcs [0, 1, 2, 3, 4, 5, 6, 7, 8, 9, 10, 11, 12, 13] [14, 15, 16, 17, 18, 19, 20, 21, 22, 23, 24, 25, 26, 27, 28, 29, 30, 31, 32, 33] [20, 21, 22, 23, 24, 25, 26, 27, 28, 29, 30, 31, 32, 33, 0, 1, 2, 3, 4, 5, 6, 7, 8, 9, 10, 11, 12, 13, 14, 15, 16, 17, 18, 19] rfl rfl rfl rfl rfl (by decide) rfl rfl rfl [0, 1, 2, 3, 4, 5] rfl 0 6 rfl rfl rfl hl.1 rfl (Nat.le_of_ble_eq_true rfl) dL_law_140 (fun H locs hP hD hS => ?_)
          refine lv_aload_n hx hb dL_law_143 rfl (lv_at hl 2 rfl) ?_
          refine lv_aload_n hx hb dL_law_144 rfl (lv_at hl 0 rfl) ?_
          refine lv_iload_n hx hb dL_law_145 rfl (lv_at hl 3 rfl) ?_
          refine lv_iconst (v := (1 : Int32)) hx hb dL_law_146 (by decide) ?_
          refine lv_iadd hx hb dL_law_147 ?_
          obtain ⟨hi68, hr⟩ := ite_g hr
          refine va_sld hx hb hX hbsz hbA hS hi68 dL_law_148 ?_
          refine lv_aload_n hx hb dL_law_149 rfl (lv_at hl 0 rfl) ?_
          refine lv_iload_n hx hb dL_law_150 rfl (lv_at hl 3 rfl) ?_
          refine lv_iconst (v := (2 : Int32)) hx hb dL_law_151 (by decide) ?_
          refine lv_iadd hx hb dL_law_152 ?_
          obtain ⟨hi69, hr⟩ := ite_g hr
          refine va_sld hx hb hX hbsz hbA hS hi69 dL_law_153 ?_
          refine lv_aload_n hx hb dL_law_154 rfl (lv_at hl 0 rfl) ?_
          refine lv_iload_n hx hb dL_law_155 rfl (lv_at hl 3 rfl) ?_
          refine lv_iconst (v := (3 : Int32)) hx hb dL_law_156 (by decide) ?_
          refine lv_iadd hx hb dL_law_157 ?_
          obtain ⟨hi70, hr⟩ := ite_g hr
          refine va_sld hx hb hX hbsz hbA hS hi70 dL_law_158 ?_
          obtain ⟨q71, hq71, hr⟩ := bd_use hr
          refine icV_i (As := [.int (xs (v1 + (1 : Int32)).toNatClampNeg), .int (xs (v1 + (2 : Int32)).toNatClampNeg), .int (xs (v1 + (3 : Int32)).toNatClampNeg)]) (rest := [.int q67.1]) (ws2 := (wd_L h_eb h_g h_row h_bl h_wh h_ac h_life h_t h_ch h_hrow h_hbl h_hwh h_hac h_fi c_bl c_wh c_ac c_hbl c_hwh c_hac ad cA w2 q67.2.1 q67.2.2.1 q67.2.2.2.1 q67.2.2.2.2.1 q67.2.2.2.2.2.1 q67.2.2.2.2.2.2.1 q67.2.2.2.2.2.2.2.1 q67.2.2.2.2.2.2.2.2.1 q67.2.2.2.2.2.2.2.2.2.1 w12 w13 q67.2.2.2.2.2.2.2.2.2.2.1 q67.2.2.2.2.2.2.2.2.2.2.2 w16 w17 w18 w19 w20 w21 w22 w23 w24 w25 w26 w27 w28 w29 w30 q71.2.1 q71.2.2.1 q71.2.2.2.1 q71.2.2.2.2.1 w35 w36 w37 w38 w39 w40 q71.2.2.2.2.2.1 w42 q71.2.2.2.2.2.2.1 q71.2.2.2.2.2.2.2.1 q71.2.2.2.2.2.2.2.2.1 q71.2.2.2.2.2.2.2.2.2.1 q71.2.2.2.2.2.2.2.2.2.2 w48 w49 w50 w51 w52 w53 w54 w55 w56 w57 w58 w59)) S (c_X7_board l dC dI ad cA w31 w32 w33 w34 w35 w36 w37 w38 w39 w40 w41 w42 w43 w44 w45 w46 w47 w48 w49 w50 w51 w52 w53 w54 w55 w56 w57 w58 w59 H.size (xs (v1 + (1 : Int32)).toNatClampNeg) (xs (v1 + (2 : Int32)).toNatClampNeg) (xs (v1 + (3 : Int32)).toNatClampNeg) q71 hq71) (cwV 3 hts gL_law_X7_board rfl rfl rfl (by decide +kernel) ⟨Nat.le_trans (m := rm_L_law.frames) (by decide) hRf, Nat.le_trans (m := rm_L_law.locals) (by decide) hRl⟩) hN hP hK hD hS hA hcs [14, 15, 16, 17, 18, 19, 20, 21, 22, 23, 24, 25, 26, 27, 28, 29, 30, 31, 32, 33] [0, 1, 2, 3, 4, 5, 6, 7, 8, 9, 10, 11, 12, 13] [0, 1, 2, 3, 4, 5, 6, 7, 8, 9, 10, 11, 12, 13, 14, 15, 16, 17, 18, 19, 20, 21, 22, 23, 24, 25, 26, 27, 28, 29, 30, 31, 32, 33] rfl rfl rfl rfl rfl (by decide) rfl rfl rfl [6, 7, 8, 9, 10, 11, 12, 13, 14, 15, 16, 17, 18, 19, 20, 21, 22, 23, 24] rfl 14 7 rfl rfl rfl hl.1 rfl (Nat.le_of_ble_eq_true rfl) dL_law_159 (fun H locs hP hD hS => ?_)
          refine lv_icmp_eq (tgt := 622) hx hb dL_law_162 (by decide) (fun c72 => ?_) (fun c72 => ?_)
          · have hr := ite_p hr c72
            obtain ⟨x73, ex73, hr⟩ := nm_ex hr
            refine lv_iinc (v := x73) (lv' := [(3, .int x73), (0, .ref b), (1, .ref h_eb), (2, .ref (ad 0))]) hx hb dL_law_622 hl (k := 3) rfl (by rw [ex73]; rfl) (by decide) rfl (fun ls hl => ?_)
            refine lv_goto (tgt := 18) hx hb dL_law_625 (by decide) ?_
            exact ih x73 w2 q67.2.1 q67.2.2.1 q67.2.2.2.1 q67.2.2.2.2.1 q67.2.2.2.2.2.1 q67.2.2.2.2.2.2.1 q67.2.2.2.2.2.2.2.1 q67.2.2.2.2.2.2.2.2.1 q67.2.2.2.2.2.2.2.2.2.1 w12 w13 q67.2.2.2.2.2.2.2.2.2.2.1 q67.2.2.2.2.2.2.2.2.2.2.2 w16 w17 w18 w19 w20 w21 w22 w23 w24 w25 w26 w27 w28 w29 w30 q71.2.1 q71.2.2.1 q71.2.2.2.1 q71.2.2.2.2.1 w35 w36 w37 w38 w39 w40 q71.2.2.2.2.2.1 w42 q71.2.2.2.2.2.2.1 q71.2.2.2.2.2.2.2.1 q71.2.2.2.2.2.2.2.2.1 q71.2.2.2.2.2.2.2.2.2.1 q71.2.2.2.2.2.2.2.2.2.2 w48 w49 w50 w51 w52 w53 w54 w55 w56 w57 w58 w59 _ _ hr hP hD hS ls (lv_sub hl [1, 2, 3, 0] rfl)
          · have hr := ite_n hr c72
            refine lv_iconst (v := (0 : Int32)) hx hb dL_law_165 (by decide) ?_
            obtain rfl := Option.some.inj hr
            exact absurd hq (by decide)
        have hr := ite_n hr c63
        by_cases c74 : x62 = 1
        · have hr := ite_p hr c74
          refine lv_tableIn (off := 135) (tgt := 167) hx hb dL_law_32 (by rw [c74]; decide) (by rw [c74]; decide) (by rw [c74]; rfl) (by decide) ?_
          refine lv_aload_n hx hb dL_law_167 rfl (lv_at hl 1 rfl) ?_
          refine lv_aload_n hx hb dL_law_168 rfl (lv_at hl 0 rfl) ?_
          refine lv_iload_n hx hb dL_law_169 rfl (lv_at hl 3 rfl) ?_
          refine lv_iconst (v := (1 : Int32)) hx hb dL_law_170 (by decide) ?_
          refine lv_iadd hx hb dL_law_171 ?_
          obtain ⟨hi75, hr⟩ := ite_g hr
          refine va_sld hx hb hX hbsz hbA hS hi75 dL_law_172 ?_
          refine lv_aload_n hx hb dL_law_173 rfl (lv_at hl 0 rfl) ?_
          refine lv_iload_n hx hb dL_law_174 rfl (lv_at hl 3 rfl) ?_
          refine lv_iconst (v := (2 : Int32)) hx hb dL_law_175 (by decide) ?_
          refine lv_iadd hx hb dL_law_176 ?_
          obtain ⟨hi76, hr⟩ := ite_g hr
          refine va_sld hx hb hX hbsz hbA hS hi76 dL_law_177 ?_
          refine lv_aload_n hx hb dL_law_178 rfl (lv_at hl 0 rfl) ?_
          refine lv_iload_n hx hb dL_law_179 rfl (lv_at hl 3 rfl) ?_
          refine lv_iconst (v := (3 : Int32)) hx hb dL_law_180 (by decide) ?_
          refine lv_iadd hx hb dL_law_181 ?_
          obtain ⟨hi77, hr⟩ := ite_g hr
          refine va_sld hx hb hX hbsz hbA hS hi77 dL_law_182 ?_
          obtain ⟨q78, hq78, hr⟩ := bd_use hr
          refine icV_i (As := [.int (xs (v1 + (1 : Int32)).toNatClampNeg), .int (xs (v1 + (2 : Int32)).toNatClampNeg), .int (xs (v1 + (3 : Int32)).toNatClampNeg)]) (rest := []) (ws2 := (wd_L h_eb h_g h_row h_bl h_wh h_ac h_life h_t h_ch h_hrow h_hbl h_hwh h_hac h_fi c_bl c_wh c_ac c_hbl c_hwh c_hac ad cA w2 w3 w4 w5 w6 w7 w8 q78.2.1 q78.2.2.1 q78.2.2.2.1 w12 w13 q78.2.2.2.2.1 q78.2.2.2.2.2 w16 w17 w18 w19 w20 w21 w22 w23 w24 w25 w26 w27 w28 w29 w30 w31 w32 w33 w34 w35 w36 w37 w38 w39 w40 w41 w42 w43 w44 w45 w46 w47 w48 w49 w50 w51 w52 w53 w54 w55 w56 w57 w58 w59)) S (c_X6_set l dC dI h_eb h_g h_row h_bl h_wh h_ac h_life h_t h_ch h_hrow h_hbl h_hwh h_hac h_fi c_bl c_wh c_ac c_hbl c_hwh c_hac 127 41 w2 w3 w4 w5 w6 w7 w8 w9 w10 w11 w12 w13 w14 w15 w16 w17 w18 w19 w20 w21 w22 w23 w24 w25 w26 w27 w28 w29 w30 H.size (xs (v1 + (1 : Int32)).toNatClampNeg) (xs (v1 + (2 : Int32)).toNatClampNeg) (xs (v1 + (3 : Int32)).toNatClampNeg) q78 hq78) (cwV 3 hts gL_law_X6_set rfl rfl rfl (by decide +kernel) ⟨Nat.le_trans (m := rm_L_law.frames) (by decide) hRf, Nat.le_trans (m := rm_L_law.locals) (by decide) hRl⟩) hN hP hK hD hS hA hcs [0, 1, 2, 3, 4, 5, 6, 7, 8, 9, 10, 11, 12, 13] [14, 15, 16, 17, 18, 19, 20, 21, 22, 23, 24, 25, 26, 27, 28, 29, 30, 31, 32, 33] [20, 21, 22, 23, 24, 25, 26, 27, 28, 29, 30, 31, 32, 33, 0, 1, 2, 3, 4, 5, 6, 7, 8, 9, 10, 11, 12, 13, 14, 15, 16, 17, 18, 19] rfl rfl rfl rfl rfl (by decide) rfl rfl rfl [0, 1, 2, 3, 4, 5] rfl 0 6 rfl rfl rfl hl.1 rfl (Nat.le_of_ble_eq_true rfl) dL_law_183 (fun H locs hP hD hS => ?_)
          refine lv_aload_n hx hb dL_law_186 rfl (lv_at hl 2 rfl) ?_
          refine lv_aload_n hx hb dL_law_187 rfl (lv_at hl 0 rfl) ?_
          refine lv_iload_n hx hb dL_law_188 rfl (lv_at hl 3 rfl) ?_
          refine lv_iconst (v := (1 : Int32)) hx hb dL_law_189 (by decide) ?_
          refine lv_iadd hx hb dL_law_190 ?_
          obtain ⟨hi79, hr⟩ := ite_g hr
          refine va_sld hx hb hX hbsz hbA hS hi79 dL_law_191 ?_
          refine lv_aload_n hx hb dL_law_192 rfl (lv_at hl 0 rfl) ?_
          refine lv_iload_n hx hb dL_law_193 rfl (lv_at hl 3 rfl) ?_
          refine lv_iconst (v := (2 : Int32)) hx hb dL_law_194 (by decide) ?_
          refine lv_iadd hx hb dL_law_195 ?_
          obtain ⟨hi80, hr⟩ := ite_g hr
          refine va_sld hx hb hX hbsz hbA hS hi80 dL_law_196 ?_
          refine lv_aload_n hx hb dL_law_197 rfl (lv_at hl 0 rfl) ?_
          refine lv_iload_n hx hb dL_law_198 rfl (lv_at hl 3 rfl) ?_
          refine lv_iconst (v := (3 : Int32)) hx hb dL_law_199 (by decide) ?_
          refine lv_iadd hx hb dL_law_200 ?_
          obtain ⟨hi81, hr⟩ := ite_g hr
          refine va_sld hx hb hX hbsz hbA hS hi81 dL_law_201 ?_
          obtain ⟨q82, hq82, hr⟩ := bd_use hr
          refine icV_i (As := [.int (xs (v1 + (1 : Int32)).toNatClampNeg), .int (xs (v1 + (2 : Int32)).toNatClampNeg), .int (xs (v1 + (3 : Int32)).toNatClampNeg)]) (rest := [.int q78.1]) (ws2 := (wd_L h_eb h_g h_row h_bl h_wh h_ac h_life h_t h_ch h_hrow h_hbl h_hwh h_hac h_fi c_bl c_wh c_ac c_hbl c_hwh c_hac ad cA w2 w3 w4 w5 w6 w7 w8 q78.2.1 q78.2.2.1 q78.2.2.2.1 w12 w13 q78.2.2.2.2.1 q78.2.2.2.2.2 w16 w17 w18 w19 w20 w21 w22 w23 w24 w25 w26 w27 w28 w29 w30 w31 w32 w33 w34 w35 w36 w37 w38 w39 w40 w41 w42 q82.2.1 q82.2.2.1 q82.2.2.2 w46 w47 w48 w49 w50 w51 w52 w53 w54 w55 w56 w57 w58 w59)) S (c_X7_set l dC dI ad cA w31 w32 w33 w34 w35 w36 w37 w38 w39 w40 w41 w42 w43 w44 w45 w46 w47 w48 w49 w50 w51 w52 w53 w54 w55 w56 w57 w58 w59 H.size (xs (v1 + (1 : Int32)).toNatClampNeg) (xs (v1 + (2 : Int32)).toNatClampNeg) (xs (v1 + (3 : Int32)).toNatClampNeg) q82 hq82) (cwV 3 hts gL_law_X7_set rfl rfl rfl (by decide +kernel) ⟨Nat.le_trans (m := rm_L_law.frames) (by decide) hRf, Nat.le_trans (m := rm_L_law.locals) (by decide) hRl⟩) hN hP hK hD hS hA hcs [14, 15, 16, 17, 18, 19, 20, 21, 22, 23, 24, 25, 26, 27, 28, 29, 30, 31, 32, 33] [0, 1, 2, 3, 4, 5, 6, 7, 8, 9, 10, 11, 12, 13] [0, 1, 2, 3, 4, 5, 6, 7, 8, 9, 10, 11, 12, 13, 14, 15, 16, 17, 18, 19, 20, 21, 22, 23, 24, 25, 26, 27, 28, 29, 30, 31, 32, 33] rfl rfl rfl rfl rfl (by decide) rfl rfl rfl [6, 7, 8, 9, 10, 11, 12, 13, 14, 15, 16, 17, 18, 19, 20, 21, 22, 23, 24] rfl 14 7 rfl rfl rfl hl.1 rfl (Nat.le_of_ble_eq_true rfl) dL_law_202 (fun H locs hP hD hS => ?_)
          refine lv_icmp_eq (tgt := 622) hx hb dL_law_205 (by decide) (fun c83 => ?_) (fun c83 => ?_)
          · have hr := ite_p hr c83
            obtain ⟨x84, ex84, hr⟩ := nm_ex hr
            refine lv_iinc (v := x84) (lv' := [(3, .int x84), (0, .ref b), (1, .ref h_eb), (2, .ref (ad 0))]) hx hb dL_law_622 hl (k := 3) rfl (by rw [ex84]; rfl) (by decide) rfl (fun ls hl => ?_)
            refine lv_goto (tgt := 18) hx hb dL_law_625 (by decide) ?_
            exact ih x84 w2 w3 w4 w5 w6 w7 w8 q78.2.1 q78.2.2.1 q78.2.2.2.1 w12 w13 q78.2.2.2.2.1 q78.2.2.2.2.2 w16 w17 w18 w19 w20 w21 w22 w23 w24 w25 w26 w27 w28 w29 w30 w31 w32 w33 w34 w35 w36 w37 w38 w39 w40 w41 w42 q82.2.1 q82.2.2.1 q82.2.2.2 w46 w47 w48 w49 w50 w51 w52 w53 w54 w55 w56 w57 w58 w59 _ _ hr hP hD hS ls (lv_sub hl [1, 2, 3, 0] rfl)
          · have hr := ite_n hr c83
            refine lv_iconst (v := (0 : Int32)) hx hb dL_law_208 (by decide) ?_
            obtain rfl := Option.some.inj hr
            exact absurd hq (by decide)
        have hr := ite_n hr c74
        by_cases c85 : x62 = 2
        · have hr := ite_p hr c85
          refine lv_tableIn (off := 178) (tgt := 210) hx hb dL_law_32 (by rw [c85]; decide) (by rw [c85]; decide) (by rw [c85]; rfl) (by decide) ?_
          refine lv_aload_n hx hb dL_law_210 rfl (lv_at hl 1 rfl) ?_
          refine lv_aload_n hx hb dL_law_211 rfl (lv_at hl 0 rfl) ?_
          refine lv_iload_n hx hb dL_law_212 rfl (lv_at hl 3 rfl) ?_
          refine lv_iconst (v := (1 : Int32)) hx hb dL_law_213 (by decide) ?_
          refine lv_iadd hx hb dL_law_214 ?_
          obtain ⟨hi86, hr⟩ := ite_g hr
          refine va_sld hx hb hX hbsz hbA hS hi86 dL_law_215 ?_
          obtain ⟨q87, hq87, hr⟩ := bd_use hr
          refine icV_i (As := [.int (xs (v1 + (1 : Int32)).toNatClampNeg)]) (rest := []) (ws2 := (wd_L h_eb h_g h_row h_bl h_wh h_ac h_life h_t h_ch h_hrow h_hbl h_hwh h_hac h_fi c_bl c_wh c_ac c_hbl c_hwh c_hac ad cA w2 w3 w4 w5 w6 w7 w8 w9 q87.2.1 w11 q87.2.2.1 q87.2.2.2.1 q87.2.2.2.2.1 q87.2.2.2.2.2.1 q87.2.2.2.2.2.2 w17 w18 w19 w20 w21 w22 w23 w24 w25 w26 w27 w28 w29 w30 w31 w32 w33 w34 w35 w36 w37 w38 w39 w40 w41 w42 w43 w44 w45 w46 w47 w48 w49 w50 w51 w52 w53 w54 w55 w56 w57 w58 w59)) S (c_X6_lay l dC dI h_eb h_g h_row h_bl h_wh h_ac h_life h_t h_ch h_hrow h_hbl h_hwh h_hac h_fi c_bl c_wh c_ac c_hbl c_hwh c_hac 127 41 w2 w3 w4 w5 w6 w7 w8 w9 w10 w11 w12 w13 w14 w15 w16 w17 w18 w19 w20 w21 w22 w23 w24 w25 w26 w27 w28 w29 w30 H.size (xs (v1 + (1 : Int32)).toNatClampNeg) q87 hq87) (cwV 1 hts gL_law_X6_lay rfl rfl rfl (by decide +kernel) ⟨Nat.le_trans (m := rm_L_law.frames) (by decide) hRf, Nat.le_trans (m := rm_L_law.locals) (by decide) hRl⟩) hN hP hK hD hS hA hcs [0, 1, 2, 3, 4, 5, 6, 7, 8, 9, 10, 11, 12, 13] [14, 15, 16, 17, 18, 19, 20, 21, 22, 23, 24, 25, 26, 27, 28, 29, 30, 31, 32, 33] [20, 21, 22, 23, 24, 25, 26, 27, 28, 29, 30, 31, 32, 33, 0, 1, 2, 3, 4, 5, 6, 7, 8, 9, 10, 11, 12, 13, 14, 15, 16, 17, 18, 19] rfl rfl rfl rfl rfl (by decide) rfl rfl rfl [0, 1, 2, 3, 4, 5] rfl 0 6 rfl rfl rfl hl.1 rfl (Nat.le_of_ble_eq_true rfl) dL_law_216 (fun H locs hP hD hS => ?_)
          refine lv_aload_n hx hb dL_law_219 rfl (lv_at hl 2 rfl) ?_
          refine lv_aload_n hx hb dL_law_220 rfl (lv_at hl 0 rfl) ?_
          refine lv_iload_n hx hb dL_law_221 rfl (lv_at hl 3 rfl) ?_
          refine lv_iconst (v := (1 : Int32)) hx hb dL_law_222 (by decide) ?_
          refine lv_iadd hx hb dL_law_223 ?_
          obtain ⟨hi88, hr⟩ := ite_g hr
          refine va_sld hx hb hX hbsz hbA hS hi88 dL_law_224 ?_
          obtain ⟨q89, hq89, hr⟩ := bd_use hr
          refine icV_i (As := [.int (xs (v1 + (1 : Int32)).toNatClampNeg)]) (rest := [.int q87.1]) (ws2 := (wd_L h_eb h_g h_row h_bl h_wh h_ac h_life h_t h_ch h_hrow h_hbl h_hwh h_hac h_fi c_bl c_wh c_ac c_hbl c_hwh c_hac ad cA w2 w3 w4 w5 w6 w7 w8 w9 q87.2.1 w11 q87.2.2.1 q87.2.2.2.1 q87.2.2.2.2.1 q87.2.2.2.2.2.1 q87.2.2.2.2.2.2 w17 w18 w19 w20 w21 w22 w23 w24 w25 w26 w27 w28 w29 w30 w31 w32 w33 q89.2.1 q89.2.2.1 q89.2.2.2.1 q89.2.2.2.2.1 w38 w39 w40 w41 q89.2.2.2.2.2.1 q89.2.2.2.2.2.2.1 q89.2.2.2.2.2.2.2.1 q89.2.2.2.2.2.2.2.2.1 q89.2.2.2.2.2.2.2.2.2.1 q89.2.2.2.2.2.2.2.2.2.2 w48 w49 w50 w51 w52 w53 w54 w55 w56 w57 w58 w59)) S (c_X7_lay l dC dI ad cA w31 w32 w33 w34 w35 w36 w37 w38 w39 w40 w41 w42 w43 w44 w45 w46 w47 w48 w49 w50 w51 w52 w53 w54 w55 w56 w57 w58 w59 H.size (xs (v1 + (1 : Int32)).toNatClampNeg) q89 hq89) (cwV 1 hts gL_law_X7_lay rfl rfl rfl (by decide +kernel) ⟨Nat.le_trans (m := rm_L_law.frames) (by decide) hRf, Nat.le_trans (m := rm_L_law.locals) (by decide) hRl⟩) hN hP hK hD hS hA hcs [14, 15, 16, 17, 18, 19, 20, 21, 22, 23, 24, 25, 26, 27, 28, 29, 30, 31, 32, 33] [0, 1, 2, 3, 4, 5, 6, 7, 8, 9, 10, 11, 12, 13] [0, 1, 2, 3, 4, 5, 6, 7, 8, 9, 10, 11, 12, 13, 14, 15, 16, 17, 18, 19, 20, 21, 22, 23, 24, 25, 26, 27, 28, 29, 30, 31, 32, 33] rfl rfl rfl rfl rfl (by decide) rfl rfl rfl [6, 7, 8, 9, 10, 11, 12, 13, 14, 15, 16, 17, 18, 19, 20, 21, 22, 23, 24] rfl 14 7 rfl rfl rfl hl.1 rfl (Nat.le_of_ble_eq_true rfl) dL_law_225 (fun H locs hP hD hS => ?_)
          refine lv_icmp_eq (tgt := 622) hx hb dL_law_228 (by decide) (fun c90 => ?_) (fun c90 => ?_)
          · have hr := ite_p hr c90
            obtain ⟨x91, ex91, hr⟩ := nm_ex hr
            refine lv_iinc (v := x91) (lv' := [(3, .int x91), (0, .ref b), (1, .ref h_eb), (2, .ref (ad 0))]) hx hb dL_law_622 hl (k := 3) rfl (by rw [ex91]; rfl) (by decide) rfl (fun ls hl => ?_)
            refine lv_goto (tgt := 18) hx hb dL_law_625 (by decide) ?_
            exact ih x91 w2 w3 w4 w5 w6 w7 w8 w9 q87.2.1 w11 q87.2.2.1 q87.2.2.2.1 q87.2.2.2.2.1 q87.2.2.2.2.2.1 q87.2.2.2.2.2.2 w17 w18 w19 w20 w21 w22 w23 w24 w25 w26 w27 w28 w29 w30 w31 w32 w33 q89.2.1 q89.2.2.1 q89.2.2.2.1 q89.2.2.2.2.1 w38 w39 w40 w41 q89.2.2.2.2.2.1 q89.2.2.2.2.2.2.1 q89.2.2.2.2.2.2.2.1 q89.2.2.2.2.2.2.2.2.1 q89.2.2.2.2.2.2.2.2.2.1 q89.2.2.2.2.2.2.2.2.2.2 w48 w49 w50 w51 w52 w53 w54 w55 w56 w57 w58 w59 _ _ hr hP hD hS ls (lv_sub hl [1, 2, 3, 0] rfl)
          · have hr := ite_n hr c90
            refine lv_iconst (v := (0 : Int32)) hx hb dL_law_231 (by decide) ?_
            obtain rfl := Option.some.inj hr
            exact absurd hq (by decide)
        have hr := ite_n hr c85
        by_cases c92 : x62 = 3
        · have hr := ite_p hr c92
          refine lv_tableIn (off := 201) (tgt := 233) hx hb dL_law_32 (by rw [c92]; decide) (by rw [c92]; decide) (by rw [c92]; rfl) (by decide) ?_
          refine lv_aload_n hx hb dL_law_233 rfl (lv_at hl 1 rfl) ?_
          obtain ⟨q93, hq93, hr⟩ := bd_use hr
          refine icV_i (As := []) (rest := []) (ws2 := (wd_L h_eb h_g h_row h_bl h_wh h_ac h_life h_t h_ch h_hrow h_hbl h_hwh h_hac h_fi c_bl c_wh c_ac c_hbl c_hwh c_hac ad cA w2 w3 w4 w5 w6 w7 w8 w9 q93.2.1 w11 q93.2.2.1 q93.2.2.2.1 q93.2.2.2.2.1 q93.2.2.2.2.2.1 q93.2.2.2.2.2.2 w17 w18 w19 w20 w21 w22 w23 w24 w25 w26 w27 w28 w29 w30 w31 w32 w33 w34 w35 w36 w37 w38 w39 w40 w41 w42 w43 w44 w45 w46 w47 w48 w49 w50 w51 w52 w53 w54 w55 w56 w57 w58 w59)) S (c_X6_pass l dC dI h_eb h_g h_row h_bl h_wh h_ac h_life h_t h_ch h_hrow h_hbl h_hwh h_hac h_fi c_bl c_wh c_ac c_hbl c_hwh c_hac 127 41 w2 w3 w4 w5 w6 w7 w8 w9 w10 w11 w12 w13 w14 w15 w16 w17 w18 w19 w20 w21 w22 w23 w24 w25 w26 w27 w28 w29 w30 H.size q93 hq93) (cwV 0 hts gL_law_X6_pass rfl rfl rfl (by decide +kernel) ⟨Nat.le_trans (m := rm_L_law.frames) (by decide) hRf, Nat.le_trans (m := rm_L_law.locals) (by decide) hRl⟩) hN hP hK hD hS hA hcs [0, 1, 2, 3, 4, 5, 6, 7, 8, 9, 10, 11, 12, 13] [14, 15, 16, 17, 18, 19, 20, 21, 22, 23, 24, 25, 26, 27, 28, 29, 30, 31, 32, 33] [20, 21, 22, 23, 24, 25, 26, 27, 28, 29, 30, 31, 32, 33, 0, 1, 2, 3, 4, 5, 6, 7, 8, 9, 10, 11, 12, 13, 14, 15, 16, 17, 18, 19] rfl rfl rfl rfl rfl (by decide) rfl rfl rfl [0, 1, 2, 3, 4, 5] rfl 0 6 rfl rfl rfl hl.1 rfl (Nat.le_of_ble_eq_true rfl) dL_law_234 (fun H locs hP hD hS => ?_)
          refine lv_aload_n hx hb dL_law_237 rfl (lv_at hl 2 rfl) ?_
          obtain ⟨q94, hq94, hr⟩ := bd_use hr
          refine icV_i (As := []) (rest := [.int q93.1]) (ws2 := (wd_L h_eb h_g h_row h_bl h_wh h_ac h_life h_t h_ch h_hrow h_hbl h_hwh h_hac h_fi c_bl c_wh c_ac c_hbl c_hwh c_hac ad cA w2 w3 w4 w5 w6 w7 w8 w9 q93.2.1 w11 q93.2.2.1 q93.2.2.2.1 q93.2.2.2.2.1 q93.2.2.2.2.2.1 q93.2.2.2.2.2.2 w17 w18 w19 w20 w21 w22 w23 w24 w25 w26 w27 w28 w29 w30 w31 w32 w33 q94.2.1 w35 w36 w37 w38 w39 w40 w41 q94.2.2.1 q94.2.2.2.1 q94.2.2.2.2.1 q94.2.2.2.2.2.1 q94.2.2.2.2.2.2.1 q94.2.2.2.2.2.2.2 w48 w49 w50 w51 w52 w53 w54 w55 w56 w57 w58 w59)) S (c_X7_pass l dC dI ad cA w31 w32 w33 w34 w35 w36 w37 w38 w39 w40 w41 w42 w43 w44 w45 w46 w47 w48 w49 w50 w51 w52 w53 w54 w55 w56 w57 w58 w59 H.size q94 hq94) (cwV 0 hts gL_law_X7_pass rfl rfl rfl (by decide +kernel) ⟨Nat.le_trans (m := rm_L_law.frames) (by decide) hRf, Nat.le_trans (m := rm_L_law.locals) (by decide) hRl⟩) hN hP hK hD hS hA hcs [14, 15, 16, 17, 18, 19, 20, 21, 22, 23, 24, 25, 26, 27, 28, 29, 30, 31, 32, 33] [0, 1, 2, 3, 4, 5, 6, 7, 8, 9, 10, 11, 12, 13] [0, 1, 2, 3, 4, 5, 6, 7, 8, 9, 10, 11, 12, 13, 14, 15, 16, 17, 18, 19, 20, 21, 22, 23, 24, 25, 26, 27, 28, 29, 30, 31, 32, 33] rfl rfl rfl rfl rfl (by decide) rfl rfl rfl [6, 7, 8, 9, 10, 11, 12, 13, 14, 15, 16, 17, 18, 19, 20, 21, 22, 23, 24] rfl 14 7 rfl rfl rfl hl.1 rfl (Nat.le_of_ble_eq_true rfl) dL_law_238 (fun H locs hP hD hS => ?_)
          refine lv_icmp_eq (tgt := 622) hx hb dL_law_241 (by decide) (fun c95 => ?_) (fun c95 => ?_)
          · have hr := ite_p hr c95
            obtain ⟨x96, ex96, hr⟩ := nm_ex hr
            refine lv_iinc (v := x96) (lv' := [(3, .int x96), (0, .ref b), (1, .ref h_eb), (2, .ref (ad 0))]) hx hb dL_law_622 hl (k := 3) rfl (by rw [ex96]; rfl) (by decide) rfl (fun ls hl => ?_)
            refine lv_goto (tgt := 18) hx hb dL_law_625 (by decide) ?_
            exact ih x96 w2 w3 w4 w5 w6 w7 w8 w9 q93.2.1 w11 q93.2.2.1 q93.2.2.2.1 q93.2.2.2.2.1 q93.2.2.2.2.2.1 q93.2.2.2.2.2.2 w17 w18 w19 w20 w21 w22 w23 w24 w25 w26 w27 w28 w29 w30 w31 w32 w33 q94.2.1 w35 w36 w37 w38 w39 w40 w41 q94.2.2.1 q94.2.2.2.1 q94.2.2.2.2.1 q94.2.2.2.2.2.1 q94.2.2.2.2.2.2.1 q94.2.2.2.2.2.2.2 w48 w49 w50 w51 w52 w53 w54 w55 w56 w57 w58 w59 _ _ hr hP hD hS ls (lv_sub hl [1, 2, 3, 0] rfl)
          · have hr := ite_n hr c95
            refine lv_iconst (v := (0 : Int32)) hx hb dL_law_244 (by decide) ?_
            obtain rfl := Option.some.inj hr
            exact absurd hq (by decide)
        have hr := ite_n hr c92
        by_cases c97 : x62 = 4
        · have hr := ite_p hr c97
          refine lv_tableIn (off := 214) (tgt := 246) hx hb dL_law_32 (by rw [c97]; decide) (by rw [c97]; decide) (by rw [c97]; rfl) (by decide) ?_
          refine lv_aload_n hx hb dL_law_246 rfl (lv_at hl 1 rfl) ?_
          refine lv_aload_n hx hb dL_law_247 rfl (lv_at hl 0 rfl) ?_
          refine lv_iload_n hx hb dL_law_248 rfl (lv_at hl 3 rfl) ?_
          refine lv_iconst (v := (1 : Int32)) hx hb dL_law_249 (by decide) ?_
          refine lv_iadd hx hb dL_law_250 ?_
          obtain ⟨hi98, hr⟩ := ite_g hr
          refine va_sld hx hb hX hbsz hbA hS hi98 dL_law_251 ?_
          obtain ⟨q99, hq99, hr⟩ := bd_use hr
          refine icV_i (As := [.int (xs (v1 + (1 : Int32)).toNatClampNeg)]) (rest := []) (ws2 := (wd_L h_eb h_g h_row h_bl h_wh h_ac h_life h_t h_ch h_hrow h_hbl h_hwh h_hac h_fi c_bl c_wh c_ac c_hbl c_hwh c_hac ad cA w2 w3 w4 w5 w6 w7 w8 w9 w10 w11 q99.2.1 q99.2.2 w14 w15 w16 w17 w18 w19 w20 w21 w22 w23 w24 w25 w26 w27 w28 w29 w30 w31 w32 w33 w34 w35 w36 w37 w38 w39 w40 w41 w42 w43 w44 w45 w46 w47 w48 w49 w50 w51 w52 w53 w54 w55 w56 w57 w58 w59)) S (c_X6_why l dC dI h_eb h_g h_row h_bl h_wh h_ac h_life h_t h_ch h_hrow h_hbl h_hwh h_hac h_fi c_bl c_wh c_ac c_hbl c_hwh c_hac 127 41 w2 w3 w4 w5 w6 w7 w8 w9 w10 w11 w12 w13 w14 w15 w16 w17 w18 w19 w20 w21 w22 w23 w24 w25 w26 w27 w28 w29 w30 H.size (xs (v1 + (1 : Int32)).toNatClampNeg) q99 hq99) (cwV 1 hts gL_law_X6_why rfl rfl rfl (by decide +kernel) ⟨Nat.le_trans (m := rm_L_law.frames) (by decide) hRf, Nat.le_trans (m := rm_L_law.locals) (by decide) hRl⟩) hN hP hK hD hS hA hcs [0, 1, 2, 3, 4, 5, 6, 7, 8, 9, 10, 11, 12, 13] [14, 15, 16, 17, 18, 19, 20, 21, 22, 23, 24, 25, 26, 27, 28, 29, 30, 31, 32, 33] [20, 21, 22, 23, 24, 25, 26, 27, 28, 29, 30, 31, 32, 33, 0, 1, 2, 3, 4, 5, 6, 7, 8, 9, 10, 11, 12, 13, 14, 15, 16, 17, 18, 19] rfl rfl rfl rfl rfl (by decide) rfl rfl rfl [0, 1, 2, 3, 4, 5] rfl 0 6 rfl rfl rfl hl.1 rfl (Nat.le_of_ble_eq_true rfl) dL_law_252 (fun H locs hP hD hS => ?_)
          refine lv_aload_n hx hb dL_law_255 rfl (lv_at hl 2 rfl) ?_
          refine lv_aload_n hx hb dL_law_256 rfl (lv_at hl 0 rfl) ?_
          refine lv_iload_n hx hb dL_law_257 rfl (lv_at hl 3 rfl) ?_
          refine lv_iconst (v := (1 : Int32)) hx hb dL_law_258 (by decide) ?_
          refine lv_iadd hx hb dL_law_259 ?_
          obtain ⟨hi100, hr⟩ := ite_g hr
          refine va_sld hx hb hX hbsz hbA hS hi100 dL_law_260 ?_
          obtain ⟨q101, hq101, hr⟩ := bd_use hr
          refine icV_i (As := [.int (xs (v1 + (1 : Int32)).toNatClampNeg)]) (rest := [.int q99.1]) (ws2 := (wd_L h_eb h_g h_row h_bl h_wh h_ac h_life h_t h_ch h_hrow h_hbl h_hwh h_hac h_fi c_bl c_wh c_ac c_hbl c_hwh c_hac ad cA w2 w3 w4 w5 w6 w7 w8 w9 w10 w11 q99.2.1 q99.2.2 w14 w15 w16 w17 w18 w19 w20 w21 w22 w23 w24 w25 w26 w27 w28 w29 w30 w31 w32 w33 w34 q101.2.1 q101.2.2.1 q101.2.2.2 w38 w39 w40 w41 w42 w43 w44 w45 w46 w47 w48 w49 w50 w51 w52 w53 w54 w55 w56 w57 w58 w59)) S (c_X7_why l dC dI ad cA w31 w32 w33 w34 w35 w36 w37 w38 w39 w40 w41 w42 w43 w44 w45 w46 w47 w48 w49 w50 w51 w52 w53 w54 w55 w56 w57 w58 w59 H.size (xs (v1 + (1 : Int32)).toNatClampNeg) q101 hq101) (cwV 1 hts gL_law_X7_why rfl rfl rfl (by decide +kernel) ⟨Nat.le_trans (m := rm_L_law.frames) (by decide) hRf, Nat.le_trans (m := rm_L_law.locals) (by decide) hRl⟩) hN hP hK hD hS hA hcs [14, 15, 16, 17, 18, 19, 20, 21, 22, 23, 24, 25, 26, 27, 28, 29, 30, 31, 32, 33] [0, 1, 2, 3, 4, 5, 6, 7, 8, 9, 10, 11, 12, 13] [0, 1, 2, 3, 4, 5, 6, 7, 8, 9, 10, 11, 12, 13, 14, 15, 16, 17, 18, 19, 20, 21, 22, 23, 24, 25, 26, 27, 28, 29, 30, 31, 32, 33] rfl rfl rfl rfl rfl (by decide) rfl rfl rfl [6, 7, 8, 9, 10, 11, 12, 13, 14, 15, 16, 17, 18, 19, 20, 21, 22, 23, 24] rfl 14 7 rfl rfl rfl hl.1 rfl (Nat.le_of_ble_eq_true rfl) dL_law_261 (fun H locs hP hD hS => ?_)
          refine lv_icmp_eq (tgt := 622) hx hb dL_law_264 (by decide) (fun c102 => ?_) (fun c102 => ?_)
          · have hr := ite_p hr c102
            obtain ⟨x103, ex103, hr⟩ := nm_ex hr
            refine lv_iinc (v := x103) (lv' := [(3, .int x103), (0, .ref b), (1, .ref h_eb), (2, .ref (ad 0))]) hx hb dL_law_622 hl (k := 3) rfl (by rw [ex103]; rfl) (by decide) rfl (fun ls hl => ?_)
            refine lv_goto (tgt := 18) hx hb dL_law_625 (by decide) ?_
            exact ih x103 w2 w3 w4 w5 w6 w7 w8 w9 w10 w11 q99.2.1 q99.2.2 w14 w15 w16 w17 w18 w19 w20 w21 w22 w23 w24 w25 w26 w27 w28 w29 w30 w31 w32 w33 w34 q101.2.1 q101.2.2.1 q101.2.2.2 w38 w39 w40 w41 w42 w43 w44 w45 w46 w47 w48 w49 w50 w51 w52 w53 w54 w55 w56 w57 w58 w59 _ _ hr hP hD hS ls (lv_sub hl [1, 2, 3, 0] rfl)
          · have hr := ite_n hr c102
            refine lv_iconst (v := (0 : Int32)) hx hb dL_law_267 (by decide) ?_
            obtain rfl := Option.some.inj hr
            exact absurd hq (by decide)
        have hr := ite_n hr c97
        by_cases c104 : x62 = 5
        · have hr := ite_p hr c104
          refine lv_tableIn (off := 237) (tgt := 269) hx hb dL_law_32 (by rw [c104]; decide) (by rw [c104]; decide) (by rw [c104]; rfl) (by decide) ?_
          refine lv_aload_n hx hb dL_law_269 rfl (lv_at hl 1 rfl) ?_
          obtain ⟨q105, hq105, hr⟩ := bd_use hr
          refine icV_i (As := []) (rest := []) (ws2 := (wd_L h_eb h_g h_row h_bl h_wh h_ac h_life h_t h_ch h_hrow h_hbl h_hwh h_hac h_fi c_bl c_wh c_ac c_hbl c_hwh c_hac ad cA w2 w3 w4 w5 w6 w7 w8 w9 q105.2 w11 w12 w13 w14 w15 w16 w17 w18 w19 w20 w21 w22 w23 w24 w25 w26 w27 w28 w29 w30 w31 w32 w33 w34 w35 w36 w37 w38 w39 w40 w41 w42 w43 w44 w45 w46 w47 w48 w49 w50 w51 w52 w53 w54 w55 w56 w57 w58 w59)) S (c_X6_undo l dC dI h_eb h_g h_row h_bl h_wh h_ac h_life h_t h_ch h_hrow h_hbl h_hwh h_hac h_fi c_bl c_wh c_ac c_hbl c_hwh c_hac 127 41 w2 w3 w4 w5 w6 w7 w8 w9 w10 w11 w12 w13 w14 w15 w16 w17 w18 w19 w20 w21 w22 w23 w24 w25 w26 w27 w28 w29 w30 H.size q105 hq105) (cwV 0 hts gL_law_X6_undo rfl rfl rfl (by decide +kernel) ⟨Nat.le_trans (m := rm_L_law.frames) (by decide) hRf, Nat.le_trans (m := rm_L_law.locals) (by decide) hRl⟩) hN hP hK hD hS hA hcs [0, 1, 2, 3, 4, 5, 6, 7, 8, 9, 10, 11, 12, 13] [14, 15, 16, 17, 18, 19, 20, 21, 22, 23, 24, 25, 26, 27, 28, 29, 30, 31, 32, 33] [20, 21, 22, 23, 24, 25, 26, 27, 28, 29, 30, 31, 32, 33, 0, 1, 2, 3, 4, 5, 6, 7, 8, 9, 10, 11, 12, 13, 14, 15, 16, 17, 18, 19] rfl rfl rfl rfl rfl (by decide) rfl rfl rfl [0, 1, 2, 3, 4, 5] rfl 0 6 rfl rfl rfl hl.1 rfl (Nat.le_of_ble_eq_true rfl) dL_law_270 (fun H locs hP hD hS => ?_)
          refine lv_aload_n hx hb dL_law_273 rfl (lv_at hl 2 rfl) ?_
          obtain ⟨q106, hq106, hr⟩ := bd_use hr
          refine icV_i (As := []) (rest := [.int q105.1]) (ws2 := (wd_L h_eb h_g h_row h_bl h_wh h_ac h_life h_t h_ch h_hrow h_hbl h_hwh h_hac h_fi c_bl c_wh c_ac c_hbl c_hwh c_hac ad cA w2 w3 w4 w5 w6 w7 w8 w9 q105.2 w11 w12 w13 w14 w15 w16 w17 w18 w19 w20 w21 w22 w23 w24 w25 w26 w27 w28 w29 w30 w31 w32 w33 q106.2 w35 w36 w37 w38 w39 w40 w41 w42 w43 w44 w45 w46 w47 w48 w49 w50 w51 w52 w53 w54 w55 w56 w57 w58 w59)) S (c_X7_undo l dC dI ad cA w31 w32 w33 w34 w35 w36 w37 w38 w39 w40 w41 w42 w43 w44 w45 w46 w47 w48 w49 w50 w51 w52 w53 w54 w55 w56 w57 w58 w59 H.size q106 hq106) (cwV 0 hts gL_law_X7_undo rfl rfl rfl (by decide +kernel) ⟨Nat.le_trans (m := rm_L_law.frames) (by decide) hRf, Nat.le_trans (m := rm_L_law.locals) (by decide) hRl⟩) hN hP hK hD hS hA hcs [14, 15, 16, 17, 18, 19, 20, 21, 22, 23, 24, 25, 26, 27, 28, 29, 30, 31, 32, 33] [0, 1, 2, 3, 4, 5, 6, 7, 8, 9, 10, 11, 12, 13] [0, 1, 2, 3, 4, 5, 6, 7, 8, 9, 10, 11, 12, 13, 14, 15, 16, 17, 18, 19, 20, 21, 22, 23, 24, 25, 26, 27, 28, 29, 30, 31, 32, 33] rfl rfl rfl rfl rfl (by decide) rfl rfl rfl [6, 7, 8, 9, 10, 11, 12, 13, 14, 15, 16, 17, 18, 19, 20, 21, 22, 23, 24] rfl 14 7 rfl rfl rfl hl.1 rfl (Nat.le_of_ble_eq_true rfl) dL_law_274 (fun H locs hP hD hS => ?_)
          refine lv_icmp_eq (tgt := 622) hx hb dL_law_277 (by decide) (fun c107 => ?_) (fun c107 => ?_)
          · have hr := ite_p hr c107
            obtain ⟨x108, ex108, hr⟩ := nm_ex hr
            refine lv_iinc (v := x108) (lv' := [(3, .int x108), (0, .ref b), (1, .ref h_eb), (2, .ref (ad 0))]) hx hb dL_law_622 hl (k := 3) rfl (by rw [ex108]; rfl) (by decide) rfl (fun ls hl => ?_)
            refine lv_goto (tgt := 18) hx hb dL_law_625 (by decide) ?_
            exact ih x108 w2 w3 w4 w5 w6 w7 w8 w9 q105.2 w11 w12 w13 w14 w15 w16 w17 w18 w19 w20 w21 w22 w23 w24 w25 w26 w27 w28 w29 w30 w31 w32 w33 q106.2 w35 w36 w37 w38 w39 w40 w41 w42 w43 w44 w45 w46 w47 w48 w49 w50 w51 w52 w53 w54 w55 w56 w57 w58 w59 _ _ hr hP hD hS ls (lv_sub hl [1, 2, 3, 0] rfl)
          · have hr := ite_n hr c107
            refine lv_iconst (v := (0 : Int32)) hx hb dL_law_280 (by decide) ?_
            obtain rfl := Option.some.inj hr
            exact absurd hq (by decide)
        have hr := ite_n hr c104
        by_cases c109 : x62 = 6
        · have hr := ite_p hr c109
          refine lv_tableIn (off := 250) (tgt := 282) hx hb dL_law_32 (by rw [c109]; decide) (by rw [c109]; decide) (by rw [c109]; rfl) (by decide) ?_
          refine lv_aload_n hx hb dL_law_282 rfl (lv_at hl 1 rfl) ?_
          refine lv_aload_n hx hb dL_law_283 rfl (lv_at hl 0 rfl) ?_
          refine lv_iload_n hx hb dL_law_284 rfl (lv_at hl 3 rfl) ?_
          refine lv_iconst (v := (1 : Int32)) hx hb dL_law_285 (by decide) ?_
          refine lv_iadd hx hb dL_law_286 ?_
          obtain ⟨hi110, hr⟩ := ite_g hr
          refine va_sld hx hb hX hbsz hbA hS hi110 dL_law_287 ?_
          obtain ⟨q111, hq111, hr⟩ := bd_use hr
          refine pcV_i (As := [.int (xs (v1 + (1 : Int32)).toNatClampNeg)]) (rest := []) S (c_X6_at l dC dI h_eb h_g h_row h_bl h_wh h_ac h_life h_t h_ch h_hrow h_hbl h_hwh h_hac h_fi c_bl c_wh c_ac c_hbl c_hwh c_hac 127 41 w2 w3 w4 w5 w6 w7 w8 w9 w10 w11 w12 w13 w14 w15 w16 w17 w18 w19 w20 w21 w22 w23 w24 w25 w26 w27 w28 w29 w30 (xs (v1 + (1 : Int32)).toNatClampNeg) q111 hq111) (cwV 1 hts gL_law_X6_at rfl rfl rfl (by decide +kernel) ⟨Nat.le_trans (m := rm_L_law.frames) (by decide) hRf, Nat.le_trans (m := rm_L_law.locals) (by decide) hRl⟩) hN hP hK hcs [0, 1, 2, 3, 4, 5, 6, 7, 8, 9, 10, 11, 12, 13] rfl [0, 1, 2, 3, 4, 5] rfl 0 6 rfl rfl rfl hl.1 rfl (Nat.le_of_ble_eq_true rfl) dL_law_288 ?_
          refine lv_aload_n hx hb dL_law_291 rfl (lv_at hl 2 rfl) ?_
          refine lv_aload_n hx hb dL_law_292 rfl (lv_at hl 0 rfl) ?_
          refine lv_iload_n hx hb dL_law_293 rfl (lv_at hl 3 rfl) ?_
          refine lv_iconst (v := (1 : Int32)) hx hb dL_law_294 (by decide) ?_
          refine lv_iadd hx hb dL_law_295 ?_
          obtain ⟨hi112, hr⟩ := ite_g hr
          refine va_sld hx hb hX hbsz hbA hS hi112 dL_law_296 ?_
          obtain ⟨q113, hq113, hr⟩ := bd_use hr
          refine pcV_i (As := [.int (xs (v1 + (1 : Int32)).toNatClampNeg)]) (rest := [.int q111]) S (c_X7_at l dC dI ad cA w31 w32 w33 w34 w35 w36 w37 w38 w39 w40 w41 w42 w43 w44 w45 w46 w47 w48 w49 w50 w51 w52 w53 w54 w55 w56 w57 w58 w59 (xs (v1 + (1 : Int32)).toNatClampNeg) q113 hq113) (cwV 1 hts gL_law_X7_at rfl rfl rfl (by decide +kernel) ⟨Nat.le_trans (m := rm_L_law.frames) (by decide) hRf, Nat.le_trans (m := rm_L_law.locals) (by decide) hRl⟩) hN hP hK hcs [14, 15, 16, 17, 18, 19, 20, 21, 22, 23, 24, 25, 26, 27, 28, 29, 30, 31, 32, 33] rfl [6, 7, 8, 9, 10, 11, 12, 13, 14, 15, 16, 17, 18, 19, 20, 21, 22, 23, 24] rfl 14 7 rfl rfl rfl hl.1 rfl (Nat.le_of_ble_eq_true rfl) dL_law_297 ?_
          refine lv_icmp_eq (tgt := 622) hx hb dL_law_300 (by decide) (fun c114 => ?_) (fun c114 => ?_)
          · have hr := ite_p hr c114
            obtain ⟨x115, ex115, hr⟩ := nm_ex hr
            refine lv_iinc (v := x115) (lv' := [(3, .int x115), (0, .ref b), (1, .ref h_eb), (2, .ref (ad 0))]) hx hb dL_law_622 hl (k := 3) rfl (by rw [ex115]; rfl) (by decide) rfl (fun ls hl => ?_)
            refine lv_goto (tgt := 18) hx hb dL_law_625 (by decide) ?_
            exact ih x115 w2 w3 w4 w5 w6 w7 w8 w9 w10 w11 w12 w13 w14 w15 w16 w17 w18 w19 w20 w21 w22 w23 w24 w25 w26 w27 w28 w29 w30 w31 w32 w33 w34 w35 w36 w37 w38 w39 w40 w41 w42 w43 w44 w45 w46 w47 w48 w49 w50 w51 w52 w53 w54 w55 w56 w57 w58 w59 _ _ hr hP hD hS ls (lv_sub hl [1, 2, 3, 0] rfl)
          · have hr := ite_n hr c114
            refine lv_iconst (v := (0 : Int32)) hx hb dL_law_303 (by decide) ?_
            obtain rfl := Option.some.inj hr
            exact absurd hq (by decide)
        have hr := ite_n hr c109
        by_cases c116 : x62 = 7
        · have hr := ite_p hr c116
          refine lv_tableIn (off := 273) (tgt := 305) hx hb dL_law_32 (by rw [c116]; decide) (by rw [c116]; decide) (by rw [c116]; rfl) (by decide) ?_
          refine lv_aload_n hx hb dL_law_305 rfl (lv_at hl 1 rfl) ?_
          refine lv_aload_n hx hb dL_law_306 rfl (lv_at hl 0 rfl) ?_
          refine lv_iload_n hx hb dL_law_307 rfl (lv_at hl 3 rfl) ?_
          refine lv_iconst (v := (1 : Int32)) hx hb dL_law_308 (by decide) ?_
          refine lv_iadd hx hb dL_law_309 ?_
          obtain ⟨hi117, hr⟩ := ite_g hr
          refine va_sld hx hb hX hbsz hbA hS hi117 dL_law_310 ?_
          refine lv_aload_n hx hb dL_law_311 rfl (lv_at hl 0 rfl) ?_
          refine lv_iload_n hx hb dL_law_312 rfl (lv_at hl 3 rfl) ?_
          refine lv_iconst (v := (2 : Int32)) hx hb dL_law_313 (by decide) ?_
          refine lv_iadd hx hb dL_law_314 ?_
          obtain ⟨hi118, hr⟩ := ite_g hr
          refine va_sld hx hb hX hbsz hbA hS hi118 dL_law_315 ?_
          obtain ⟨q119, hq119, hr⟩ := bd_use hr
          refine pcV_i (As := [.int (xs (v1 + (1 : Int32)).toNatClampNeg), .int (xs (v1 + (2 : Int32)).toNatClampNeg)]) (rest := []) S (c_X6_group l dC dI h_eb h_g h_row h_bl h_wh h_ac h_life h_t h_ch h_hrow h_hbl h_hwh h_hac h_fi c_bl c_wh c_ac c_hbl c_hwh c_hac 127 41 w2 w3 w4 w5 w6 w7 w8 w9 w10 w11 w12 w13 w14 w15 w16 w17 w18 w19 w20 w21 w22 w23 w24 w25 w26 w27 w28 w29 w30 (xs (v1 + (1 : Int32)).toNatClampNeg) (xs (v1 + (2 : Int32)).toNatClampNeg) q119 hq119) (cwV 2 hts gL_law_X6_group rfl rfl rfl (by decide +kernel) ⟨Nat.le_trans (m := rm_L_law.frames) (by decide) hRf, Nat.le_trans (m := rm_L_law.locals) (by decide) hRl⟩) hN hP hK hcs [0, 1, 2, 3, 4, 5, 6, 7, 8, 9, 10, 11, 12, 13] rfl [0, 1, 2, 3, 4, 5] rfl 0 6 rfl rfl rfl hl.1 rfl (Nat.le_of_ble_eq_true rfl) dL_law_316 ?_
          refine lv_aload_n hx hb dL_law_319 rfl (lv_at hl 2 rfl) ?_
          refine lv_aload_n hx hb dL_law_320 rfl (lv_at hl 0 rfl) ?_
          refine lv_iload_n hx hb dL_law_321 rfl (lv_at hl 3 rfl) ?_
          refine lv_iconst (v := (1 : Int32)) hx hb dL_law_322 (by decide) ?_
          refine lv_iadd hx hb dL_law_323 ?_
          obtain ⟨hi120, hr⟩ := ite_g hr
          refine va_sld hx hb hX hbsz hbA hS hi120 dL_law_324 ?_
          refine lv_aload_n hx hb dL_law_325 rfl (lv_at hl 0 rfl) ?_
          refine lv_iload_n hx hb dL_law_326 rfl (lv_at hl 3 rfl) ?_
          refine lv_iconst (v := (2 : Int32)) hx hb dL_law_327 (by decide) ?_
          refine lv_iadd hx hb dL_law_328 ?_
          obtain ⟨hi121, hr⟩ := ite_g hr
          refine va_sld hx hb hX hbsz hbA hS hi121 dL_law_329 ?_
          obtain ⟨q122, hq122, hr⟩ := bd_use hr
          refine pcV_i (As := [.int (xs (v1 + (1 : Int32)).toNatClampNeg), .int (xs (v1 + (2 : Int32)).toNatClampNeg)]) (rest := [.int q119]) S (c_X7_group l dC dI ad cA w31 w32 w33 w34 w35 w36 w37 w38 w39 w40 w41 w42 w43 w44 w45 w46 w47 w48 w49 w50 w51 w52 w53 w54 w55 w56 w57 w58 w59 (xs (v1 + (1 : Int32)).toNatClampNeg) (xs (v1 + (2 : Int32)).toNatClampNeg) q122 hq122) (cwV 2 hts gL_law_X7_group rfl rfl rfl (by decide +kernel) ⟨Nat.le_trans (m := rm_L_law.frames) (by decide) hRf, Nat.le_trans (m := rm_L_law.locals) (by decide) hRl⟩) hN hP hK hcs [14, 15, 16, 17, 18, 19, 20, 21, 22, 23, 24, 25, 26, 27, 28, 29, 30, 31, 32, 33] rfl [6, 7, 8, 9, 10, 11, 12, 13, 14, 15, 16, 17, 18, 19, 20, 21, 22, 23, 24] rfl 14 7 rfl rfl rfl hl.1 rfl (Nat.le_of_ble_eq_true rfl) dL_law_330 ?_
          refine lv_icmp_eq (tgt := 622) hx hb dL_law_333 (by decide) (fun c123 => ?_) (fun c123 => ?_)
          · have hr := ite_p hr c123
            obtain ⟨x124, ex124, hr⟩ := nm_ex hr
            refine lv_iinc (v := x124) (lv' := [(3, .int x124), (0, .ref b), (1, .ref h_eb), (2, .ref (ad 0))]) hx hb dL_law_622 hl (k := 3) rfl (by rw [ex124]; rfl) (by decide) rfl (fun ls hl => ?_)
            refine lv_goto (tgt := 18) hx hb dL_law_625 (by decide) ?_
            exact ih x124 w2 w3 w4 w5 w6 w7 w8 w9 w10 w11 w12 w13 w14 w15 w16 w17 w18 w19 w20 w21 w22 w23 w24 w25 w26 w27 w28 w29 w30 w31 w32 w33 w34 w35 w36 w37 w38 w39 w40 w41 w42 w43 w44 w45 w46 w47 w48 w49 w50 w51 w52 w53 w54 w55 w56 w57 w58 w59 _ _ hr hP hD hS ls (lv_sub hl [1, 2, 3, 0] rfl)
          · have hr := ite_n hr c123
            refine lv_iconst (v := (0 : Int32)) hx hb dL_law_336 (by decide) ?_
            obtain rfl := Option.some.inj hr
            exact absurd hq (by decide)
        have hr := ite_n hr c116
        by_cases c125 : x62 = 8
        · have hr := ite_p hr c125
          refine lv_tableIn (off := 306) (tgt := 338) hx hb dL_law_32 (by rw [c125]; decide) (by rw [c125]; decide) (by rw [c125]; rfl) (by decide) ?_
          refine lv_aload_n hx hb dL_law_338 rfl (lv_at hl 1 rfl) ?_
          refine lv_aload_n hx hb dL_law_339 rfl (lv_at hl 0 rfl) ?_
          refine lv_iload_n hx hb dL_law_340 rfl (lv_at hl 3 rfl) ?_
          refine lv_iconst (v := (1 : Int32)) hx hb dL_law_341 (by decide) ?_
          refine lv_iadd hx hb dL_law_342 ?_
          obtain ⟨hi126, hr⟩ := ite_g hr
          refine va_sld hx hb hX hbsz hbA hS hi126 dL_law_343 ?_
          refine lv_aload_n hx hb dL_law_344 rfl (lv_at hl 0 rfl) ?_
          refine lv_iload_n hx hb dL_law_345 rfl (lv_at hl 3 rfl) ?_
          refine lv_iconst (v := (2 : Int32)) hx hb dL_law_346 (by decide) ?_
          refine lv_iadd hx hb dL_law_347 ?_
          obtain ⟨hi127, hr⟩ := ite_g hr
          refine va_sld hx hb hX hbsz hbA hS hi127 dL_law_348 ?_
          obtain ⟨q128, hq128, hr⟩ := bd_use hr
          refine pcV_i (As := [.int (xs (v1 + (1 : Int32)).toNatClampNeg), .int (xs (v1 + (2 : Int32)).toNatClampNeg)]) (rest := []) S (c_X6_breath l dC dI h_eb h_g h_row h_bl h_wh h_ac h_life h_t h_ch h_hrow h_hbl h_hwh h_hac h_fi c_bl c_wh c_ac c_hbl c_hwh c_hac 127 41 w2 w3 w4 w5 w6 w7 w8 w9 w10 w11 w12 w13 w14 w15 w16 w17 w18 w19 w20 w21 w22 w23 w24 w25 w26 w27 w28 w29 w30 (xs (v1 + (1 : Int32)).toNatClampNeg) (xs (v1 + (2 : Int32)).toNatClampNeg) q128 hq128) (cwV 2 hts gL_law_X6_breath rfl rfl rfl (by decide +kernel) ⟨Nat.le_trans (m := rm_L_law.frames) (by decide) hRf, Nat.le_trans (m := rm_L_law.locals) (by decide) hRl⟩) hN hP hK hcs [0, 1, 2, 3, 4, 5, 6, 7, 8, 9, 10, 11, 12, 13] rfl [0, 1, 2, 3, 4, 5] rfl 0 6 rfl rfl rfl hl.1 rfl (Nat.le_of_ble_eq_true rfl) dL_law_349 ?_
          refine lv_aload_n hx hb dL_law_352 rfl (lv_at hl 2 rfl) ?_
          refine lv_aload_n hx hb dL_law_353 rfl (lv_at hl 0 rfl) ?_
          refine lv_iload_n hx hb dL_law_354 rfl (lv_at hl 3 rfl) ?_
          refine lv_iconst (v := (1 : Int32)) hx hb dL_law_355 (by decide) ?_
          refine lv_iadd hx hb dL_law_356 ?_
          obtain ⟨hi129, hr⟩ := ite_g hr
          refine va_sld hx hb hX hbsz hbA hS hi129 dL_law_357 ?_
          refine lv_aload_n hx hb dL_law_358 rfl (lv_at hl 0 rfl) ?_
          refine lv_iload_n hx hb dL_law_359 rfl (lv_at hl 3 rfl) ?_
          refine lv_iconst (v := (2 : Int32)) hx hb dL_law_360 (by decide) ?_
          refine lv_iadd hx hb dL_law_361 ?_
          obtain ⟨hi130, hr⟩ := ite_g hr
          refine va_sld hx hb hX hbsz hbA hS hi130 dL_law_362 ?_
          obtain ⟨q131, hq131, hr⟩ := bd_use hr
          refine pcV_i (As := [.int (xs (v1 + (1 : Int32)).toNatClampNeg), .int (xs (v1 + (2 : Int32)).toNatClampNeg)]) (rest := [.int q128]) S (c_X7_breath l dC dI ad cA w31 w32 w33 w34 w35 w36 w37 w38 w39 w40 w41 w42 w43 w44 w45 w46 w47 w48 w49 w50 w51 w52 w53 w54 w55 w56 w57 w58 w59 (xs (v1 + (1 : Int32)).toNatClampNeg) (xs (v1 + (2 : Int32)).toNatClampNeg) q131 hq131) (cwV 2 hts gL_law_X7_breath rfl rfl rfl (by decide +kernel) ⟨Nat.le_trans (m := rm_L_law.frames) (by decide) hRf, Nat.le_trans (m := rm_L_law.locals) (by decide) hRl⟩) hN hP hK hcs [14, 15, 16, 17, 18, 19, 20, 21, 22, 23, 24, 25, 26, 27, 28, 29, 30, 31, 32, 33] rfl [6, 7, 8, 9, 10, 11, 12, 13, 14, 15, 16, 17, 18, 19, 20, 21, 22, 23, 24] rfl 14 7 rfl rfl rfl hl.1 rfl (Nat.le_of_ble_eq_true rfl) dL_law_363 ?_
          refine lv_icmp_eq (tgt := 622) hx hb dL_law_366 (by decide) (fun c132 => ?_) (fun c132 => ?_)
          · have hr := ite_p hr c132
            obtain ⟨x133, ex133, hr⟩ := nm_ex hr
            refine lv_iinc (v := x133) (lv' := [(3, .int x133), (0, .ref b), (1, .ref h_eb), (2, .ref (ad 0))]) hx hb dL_law_622 hl (k := 3) rfl (by rw [ex133]; rfl) (by decide) rfl (fun ls hl => ?_)
            refine lv_goto (tgt := 18) hx hb dL_law_625 (by decide) ?_
            exact ih x133 w2 w3 w4 w5 w6 w7 w8 w9 w10 w11 w12 w13 w14 w15 w16 w17 w18 w19 w20 w21 w22 w23 w24 w25 w26 w27 w28 w29 w30 w31 w32 w33 w34 w35 w36 w37 w38 w39 w40 w41 w42 w43 w44 w45 w46 w47 w48 w49 w50 w51 w52 w53 w54 w55 w56 w57 w58 w59 _ _ hr hP hD hS ls (lv_sub hl [1, 2, 3, 0] rfl)
          · have hr := ite_n hr c132
            refine lv_iconst (v := (0 : Int32)) hx hb dL_law_369 (by decide) ?_
            obtain rfl := Option.some.inj hr
            exact absurd hq (by decide)
        have hr := ite_n hr c125
        by_cases c134 : x62 = 9
        · have hr := ite_p hr c134
          refine lv_tableIn (off := 339) (tgt := 371) hx hb dL_law_32 (by rw [c134]; decide) (by rw [c134]; decide) (by rw [c134]; rfl) (by decide) ?_
          refine lv_aload_n hx hb dL_law_371 rfl (lv_at hl 1 rfl) ?_
          refine lv_aload_n hx hb dL_law_372 rfl (lv_at hl 0 rfl) ?_
          refine lv_iload_n hx hb dL_law_373 rfl (lv_at hl 3 rfl) ?_
          refine lv_iconst (v := (1 : Int32)) hx hb dL_law_374 (by decide) ?_
          refine lv_iadd hx hb dL_law_375 ?_
          obtain ⟨hi135, hr⟩ := ite_g hr
          refine va_sld hx hb hX hbsz hbA hS hi135 dL_law_376 ?_
          refine lv_aload_n hx hb dL_law_377 rfl (lv_at hl 0 rfl) ?_
          refine lv_iload_n hx hb dL_law_378 rfl (lv_at hl 3 rfl) ?_
          refine lv_iconst (v := (2 : Int32)) hx hb dL_law_379 (by decide) ?_
          refine lv_iadd hx hb dL_law_380 ?_
          obtain ⟨hi136, hr⟩ := ite_g hr
          refine va_sld hx hb hX hbsz hbA hS hi136 dL_law_381 ?_
          refine lv_aload_n hx hb dL_law_382 rfl (lv_at hl 0 rfl) ?_
          refine lv_iload_n hx hb dL_law_383 rfl (lv_at hl 3 rfl) ?_
          refine lv_iconst (v := (3 : Int32)) hx hb dL_law_384 (by decide) ?_
          refine lv_iadd hx hb dL_law_385 ?_
          obtain ⟨hi137, hr⟩ := ite_g hr
          refine va_sld hx hb hX hbsz hbA hS hi137 dL_law_386 ?_
          obtain ⟨q138, hq138, hr⟩ := bd_use hr
          refine pcV_i (As := [.int (xs (v1 + (1 : Int32)).toNatClampNeg), .int (xs (v1 + (2 : Int32)).toNatClampNeg), .int (xs (v1 + (3 : Int32)).toNatClampNeg)]) (rest := []) S (c_X6_region l dC dI h_eb h_g h_row h_bl h_wh h_ac h_life h_t h_ch h_hrow h_hbl h_hwh h_hac h_fi c_bl c_wh c_ac c_hbl c_hwh c_hac 127 41 w2 w3 w4 w5 w6 w7 w8 w9 w10 w11 w12 w13 w14 w15 w16 w17 w18 w19 w20 w21 w22 w23 w24 w25 w26 w27 w28 w29 w30 (xs (v1 + (1 : Int32)).toNatClampNeg) (xs (v1 + (2 : Int32)).toNatClampNeg) (xs (v1 + (3 : Int32)).toNatClampNeg) q138 hq138) (cwV 3 hts gL_law_X6_region rfl rfl rfl (by decide +kernel) ⟨Nat.le_trans (m := rm_L_law.frames) (by decide) hRf, Nat.le_trans (m := rm_L_law.locals) (by decide) hRl⟩) hN hP hK hcs [0, 1, 2, 3, 4, 5, 6, 7, 8, 9, 10, 11, 12, 13] rfl [0, 1, 2, 3, 4, 5] rfl 0 6 rfl rfl rfl hl.1 rfl (Nat.le_of_ble_eq_true rfl) dL_law_387 ?_
          refine lv_aload_n hx hb dL_law_390 rfl (lv_at hl 2 rfl) ?_
          refine lv_aload_n hx hb dL_law_391 rfl (lv_at hl 0 rfl) ?_
          refine lv_iload_n hx hb dL_law_392 rfl (lv_at hl 3 rfl) ?_
          refine lv_iconst (v := (1 : Int32)) hx hb dL_law_393 (by decide) ?_
          refine lv_iadd hx hb dL_law_394 ?_
          obtain ⟨hi139, hr⟩ := ite_g hr
          refine va_sld hx hb hX hbsz hbA hS hi139 dL_law_395 ?_
          refine lv_aload_n hx hb dL_law_396 rfl (lv_at hl 0 rfl) ?_
          refine lv_iload_n hx hb dL_law_397 rfl (lv_at hl 3 rfl) ?_
          refine lv_iconst (v := (2 : Int32)) hx hb dL_law_398 (by decide) ?_
          refine lv_iadd hx hb dL_law_399 ?_
          obtain ⟨hi140, hr⟩ := ite_g hr
          refine va_sld hx hb hX hbsz hbA hS hi140 dL_law_400 ?_
          refine lv_aload_n hx hb dL_law_401 rfl (lv_at hl 0 rfl) ?_
          refine lv_iload_n hx hb dL_law_402 rfl (lv_at hl 3 rfl) ?_
          refine lv_iconst (v := (3 : Int32)) hx hb dL_law_403 (by decide) ?_
          refine lv_iadd hx hb dL_law_404 ?_
          obtain ⟨hi141, hr⟩ := ite_g hr
          refine va_sld hx hb hX hbsz hbA hS hi141 dL_law_405 ?_
          obtain ⟨q142, hq142, hr⟩ := bd_use hr
          refine pcV_i (As := [.int (xs (v1 + (1 : Int32)).toNatClampNeg), .int (xs (v1 + (2 : Int32)).toNatClampNeg), .int (xs (v1 + (3 : Int32)).toNatClampNeg)]) (rest := [.int q138]) S (c_X7_region l dC dI ad cA w31 w32 w33 w34 w35 w36 w37 w38 w39 w40 w41 w42 w43 w44 w45 w46 w47 w48 w49 w50 w51 w52 w53 w54 w55 w56 w57 w58 w59 (xs (v1 + (1 : Int32)).toNatClampNeg) (xs (v1 + (2 : Int32)).toNatClampNeg) (xs (v1 + (3 : Int32)).toNatClampNeg) q142 hq142) (cwV 3 hts gL_law_X7_region rfl rfl rfl (by decide +kernel) ⟨Nat.le_trans (m := rm_L_law.frames) (by decide) hRf, Nat.le_trans (m := rm_L_law.locals) (by decide) hRl⟩) hN hP hK hcs [14, 15, 16, 17, 18, 19, 20, 21, 22, 23, 24, 25, 26, 27, 28, 29, 30, 31, 32, 33] rfl [6, 7, 8, 9, 10, 11, 12, 13, 14, 15, 16, 17, 18, 19, 20, 21, 22, 23, 24] rfl 14 7 rfl rfl rfl hl.1 rfl (Nat.le_of_ble_eq_true rfl) dL_law_406 ?_
          refine lv_icmp_eq (tgt := 622) hx hb dL_law_409 (by decide) (fun c143 => ?_) (fun c143 => ?_)
          · have hr := ite_p hr c143
            obtain ⟨x144, ex144, hr⟩ := nm_ex hr
            refine lv_iinc (v := x144) (lv' := [(3, .int x144), (0, .ref b), (1, .ref h_eb), (2, .ref (ad 0))]) hx hb dL_law_622 hl (k := 3) rfl (by rw [ex144]; rfl) (by decide) rfl (fun ls hl => ?_)
            refine lv_goto (tgt := 18) hx hb dL_law_625 (by decide) ?_
            exact ih x144 w2 w3 w4 w5 w6 w7 w8 w9 w10 w11 w12 w13 w14 w15 w16 w17 w18 w19 w20 w21 w22 w23 w24 w25 w26 w27 w28 w29 w30 w31 w32 w33 w34 w35 w36 w37 w38 w39 w40 w41 w42 w43 w44 w45 w46 w47 w48 w49 w50 w51 w52 w53 w54 w55 w56 w57 w58 w59 _ _ hr hP hD hS ls (lv_sub hl [1, 2, 3, 0] rfl)
          · have hr := ite_n hr c143
            refine lv_iconst (v := (0 : Int32)) hx hb dL_law_412 (by decide) ?_
            obtain rfl := Option.some.inj hr
            exact absurd hq (by decide)
        have hr := ite_n hr c134
        by_cases c145 : x62 = 10
        · have hr := ite_p hr c145
          refine lv_tableIn (off := 382) (tgt := 414) hx hb dL_law_32 (by rw [c145]; decide) (by rw [c145]; decide) (by rw [c145]; rfl) (by decide) ?_
          refine lv_aload_n hx hb dL_law_414 rfl (lv_at hl 1 rfl) ?_
          refine lv_aload_n hx hb dL_law_415 rfl (lv_at hl 0 rfl) ?_
          refine lv_iload_n hx hb dL_law_416 rfl (lv_at hl 3 rfl) ?_
          refine lv_iconst (v := (1 : Int32)) hx hb dL_law_417 (by decide) ?_
          refine lv_iadd hx hb dL_law_418 ?_
          obtain ⟨hi146, hr⟩ := ite_g hr
          refine va_sld hx hb hX hbsz hbA hS hi146 dL_law_419 ?_
          obtain ⟨q147, hq147, hr⟩ := bd_use hr
          refine pcV_i (As := [.int (xs (v1 + (1 : Int32)).toNatClampNeg)]) (rest := []) S (c_X6_standing l dC dI h_eb h_g h_row h_bl h_wh h_ac h_life h_t h_ch h_hrow h_hbl h_hwh h_hac h_fi c_bl c_wh c_ac c_hbl c_hwh c_hac 127 41 w2 w3 w4 w5 w6 w7 w8 w9 w10 w11 w12 w13 w14 w15 w16 w17 w18 w19 w20 w21 w22 w23 w24 w25 w26 w27 w28 w29 w30 (xs (v1 + (1 : Int32)).toNatClampNeg) q147 hq147) (cwV 1 hts gL_law_X6_standing rfl rfl rfl (by decide +kernel) ⟨Nat.le_trans (m := rm_L_law.frames) (by decide) hRf, Nat.le_trans (m := rm_L_law.locals) (by decide) hRl⟩) hN hP hK hcs [0, 1, 2, 3, 4, 5, 6, 7, 8, 9, 10, 11, 12, 13] rfl [0, 1, 2, 3, 4, 5] rfl 0 6 rfl rfl rfl hl.1 rfl (Nat.le_of_ble_eq_true rfl) dL_law_420 ?_
          refine lv_aload_n hx hb dL_law_423 rfl (lv_at hl 2 rfl) ?_
          refine lv_aload_n hx hb dL_law_424 rfl (lv_at hl 0 rfl) ?_
          refine lv_iload_n hx hb dL_law_425 rfl (lv_at hl 3 rfl) ?_
          refine lv_iconst (v := (1 : Int32)) hx hb dL_law_426 (by decide) ?_
          refine lv_iadd hx hb dL_law_427 ?_
          obtain ⟨hi148, hr⟩ := ite_g hr
          refine va_sld hx hb hX hbsz hbA hS hi148 dL_law_428 ?_
          obtain ⟨q149, hq149, hr⟩ := bd_use hr
          refine pcV_i (As := [.int (xs (v1 + (1 : Int32)).toNatClampNeg)]) (rest := [.int q147]) S (c_X7_standing l dC dI ad cA w31 w32 w33 w34 w35 w36 w37 w38 w39 w40 w41 w42 w43 w44 w45 w46 w47 w48 w49 w50 w51 w52 w53 w54 w55 w56 w57 w58 w59 (xs (v1 + (1 : Int32)).toNatClampNeg) q149 hq149) (cwV 1 hts gL_law_X7_standing rfl rfl rfl (by decide +kernel) ⟨Nat.le_trans (m := rm_L_law.frames) (by decide) hRf, Nat.le_trans (m := rm_L_law.locals) (by decide) hRl⟩) hN hP hK hcs [14, 15, 16, 17, 18, 19, 20, 21, 22, 23, 24, 25, 26, 27, 28, 29, 30, 31, 32, 33] rfl [6, 7, 8, 9, 10, 11, 12, 13, 14, 15, 16, 17, 18, 19, 20, 21, 22, 23, 24] rfl 14 7 rfl rfl rfl hl.1 rfl (Nat.le_of_ble_eq_true rfl) dL_law_429 ?_
          refine lv_icmp_eq (tgt := 622) hx hb dL_law_432 (by decide) (fun c150 => ?_) (fun c150 => ?_)
          · have hr := ite_p hr c150
            obtain ⟨x151, ex151, hr⟩ := nm_ex hr
            refine lv_iinc (v := x151) (lv' := [(3, .int x151), (0, .ref b), (1, .ref h_eb), (2, .ref (ad 0))]) hx hb dL_law_622 hl (k := 3) rfl (by rw [ex151]; rfl) (by decide) rfl (fun ls hl => ?_)
            refine lv_goto (tgt := 18) hx hb dL_law_625 (by decide) ?_
            exact ih x151 w2 w3 w4 w5 w6 w7 w8 w9 w10 w11 w12 w13 w14 w15 w16 w17 w18 w19 w20 w21 w22 w23 w24 w25 w26 w27 w28 w29 w30 w31 w32 w33 w34 w35 w36 w37 w38 w39 w40 w41 w42 w43 w44 w45 w46 w47 w48 w49 w50 w51 w52 w53 w54 w55 w56 w57 w58 w59 _ _ hr hP hD hS ls (lv_sub hl [1, 2, 3, 0] rfl)
          · have hr := ite_n hr c150
            refine lv_iconst (v := (0 : Int32)) hx hb dL_law_435 (by decide) ?_
            obtain rfl := Option.some.inj hr
            exact absurd hq (by decide)
        have hr := ite_n hr c145
        by_cases c152 : x62 = 11
        · have hr := ite_p hr c152
          refine lv_tableIn (off := 405) (tgt := 437) hx hb dL_law_32 (by rw [c152]; decide) (by rw [c152]; decide) (by rw [c152]; rfl) (by decide) ?_
          refine lv_aload_n hx hb dL_law_437 rfl (lv_at hl 1 rfl) ?_
          refine lv_aload_n hx hb dL_law_438 rfl (lv_at hl 0 rfl) ?_
          refine lv_iload_n hx hb dL_law_439 rfl (lv_at hl 3 rfl) ?_
          refine lv_iconst (v := (1 : Int32)) hx hb dL_law_440 (by decide) ?_
          refine lv_iadd hx hb dL_law_441 ?_
          obtain ⟨hi153, hr⟩ := ite_g hr
          refine va_sld hx hb hX hbsz hbA hS hi153 dL_law_442 ?_
          refine lv_aload_n hx hb dL_law_443 rfl (lv_at hl 0 rfl) ?_
          refine lv_iload_n hx hb dL_law_444 rfl (lv_at hl 3 rfl) ?_
          refine lv_iconst (v := (2 : Int32)) hx hb dL_law_445 (by decide) ?_
          refine lv_iadd hx hb dL_law_446 ?_
          obtain ⟨hi154, hr⟩ := ite_g hr
          refine va_sld hx hb hX hbsz hbA hS hi154 dL_law_447 ?_
          obtain ⟨q155, hq155, hr⟩ := bd_use hr
          refine icV_i (As := [.int (xs (v1 + (1 : Int32)).toNatClampNeg), .int (xs (v1 + (2 : Int32)).toNatClampNeg)]) (rest := []) (ws2 := (wd_L h_eb h_g h_row h_bl h_wh h_ac h_life h_t h_ch h_hrow h_hbl h_hwh h_hac h_fi c_bl c_wh c_ac c_hbl c_hwh c_hac ad cA w2 w3 w4 w5 w6 w7 w8 w9 w10 w11 w12 w13 w14 w15 w16 q155.2.1 q155.2.2.1 q155.2.2.2.1 q155.2.2.2.2.1 q155.2.2.2.2.2.1 q155.2.2.2.2.2.2.1 q155.2.2.2.2.2.2.2.1 q155.2.2.2.2.2.2.2.2.1 q155.2.2.2.2.2.2.2.2.2.1 q155.2.2.2.2.2.2.2.2.2.2.1 q155.2.2.2.2.2.2.2.2.2.2.2 w28 w29 w30 w31 w32 w33 w34 w35 w36 w37 w38 w39 w40 w41 w42 w43 w44 w45 w46 w47 w48 w49 w50 w51 w52 w53 w54 w55 w56 w57 w58 w59)) S (c_X6_chase l dC dI h_eb h_g h_row h_bl h_wh h_ac h_life h_t h_ch h_hrow h_hbl h_hwh h_hac h_fi c_bl c_wh c_ac c_hbl c_hwh c_hac 127 41 w2 w3 w4 w5 w6 w7 w8 w9 w10 w11 w12 w13 w14 w15 w16 w17 w18 w19 w20 w21 w22 w23 w24 w25 w26 w27 w28 w29 w30 H.size (xs (v1 + (1 : Int32)).toNatClampNeg) (xs (v1 + (2 : Int32)).toNatClampNeg) q155 hq155) (cwV 2 hts gL_law_X6_chase rfl rfl rfl (by decide +kernel) ⟨Nat.le_trans (m := rm_L_law.frames) (by decide) hRf, Nat.le_trans (m := rm_L_law.locals) (by decide) hRl⟩) hN hP hK hD hS hA hcs [0, 1, 2, 3, 4, 5, 6, 7, 8, 9, 10, 11, 12, 13] [14, 15, 16, 17, 18, 19, 20, 21, 22, 23, 24, 25, 26, 27, 28, 29, 30, 31, 32, 33] [20, 21, 22, 23, 24, 25, 26, 27, 28, 29, 30, 31, 32, 33, 0, 1, 2, 3, 4, 5, 6, 7, 8, 9, 10, 11, 12, 13, 14, 15, 16, 17, 18, 19] rfl rfl rfl rfl rfl (by decide) rfl rfl rfl [0, 1, 2, 3, 4, 5] rfl 0 6 rfl rfl rfl hl.1 rfl (Nat.le_of_ble_eq_true rfl) dL_law_448 (fun H locs hP hD hS => ?_)
          refine lv_aload_n hx hb dL_law_451 rfl (lv_at hl 2 rfl) ?_
          refine lv_aload_n hx hb dL_law_452 rfl (lv_at hl 0 rfl) ?_
          refine lv_iload_n hx hb dL_law_453 rfl (lv_at hl 3 rfl) ?_
          refine lv_iconst (v := (1 : Int32)) hx hb dL_law_454 (by decide) ?_
          refine lv_iadd hx hb dL_law_455 ?_
          obtain ⟨hi156, hr⟩ := ite_g hr
          refine va_sld hx hb hX hbsz hbA hS hi156 dL_law_456 ?_
          refine lv_aload_n hx hb dL_law_457 rfl (lv_at hl 0 rfl) ?_
          refine lv_iload_n hx hb dL_law_458 rfl (lv_at hl 3 rfl) ?_
          refine lv_iconst (v := (2 : Int32)) hx hb dL_law_459 (by decide) ?_
          refine lv_iadd hx hb dL_law_460 ?_
          obtain ⟨hi157, hr⟩ := ite_g hr
          refine va_sld hx hb hX hbsz hbA hS hi157 dL_law_461 ?_
          obtain ⟨q158, hq158, hr⟩ := bd_use hr
          refine icV_i (As := [.int (xs (v1 + (1 : Int32)).toNatClampNeg), .int (xs (v1 + (2 : Int32)).toNatClampNeg)]) (rest := [.int q155.1]) (ws2 := (wd_L h_eb h_g h_row h_bl h_wh h_ac h_life h_t h_ch h_hrow h_hbl h_hwh h_hac h_fi c_bl c_wh c_ac c_hbl c_hwh c_hac ad cA w2 w3 w4 w5 w6 w7 w8 w9 w10 w11 w12 w13 w14 w15 w16 q155.2.1 q155.2.2.1 q155.2.2.2.1 q155.2.2.2.2.1 q155.2.2.2.2.2.1 q155.2.2.2.2.2.2.1 q155.2.2.2.2.2.2.2.1 q155.2.2.2.2.2.2.2.2.1 q155.2.2.2.2.2.2.2.2.2.1 q155.2.2.2.2.2.2.2.2.2.2.1 q155.2.2.2.2.2.2.2.2.2.2.2 w28 w29 w30 w31 w32 w33 w34 q158.2.1 q158.2.2.1 q158.2.2.2.1 q158.2.2.2.2.1 q158.2.2.2.2.2.1 w40 w41 w42 w43 w44 w45 w46 w47 q158.2.2.2.2.2.2.1 q158.2.2.2.2.2.2.2.1 q158.2.2.2.2.2.2.2.2.1 q158.2.2.2.2.2.2.2.2.2.1 q158.2.2.2.2.2.2.2.2.2.2.1 q158.2.2.2.2.2.2.2.2.2.2.2.1 q158.2.2.2.2.2.2.2.2.2.2.2.2.1 q158.2.2.2.2.2.2.2.2.2.2.2.2.2.1 q158.2.2.2.2.2.2.2.2.2.2.2.2.2.2.1 q158.2.2.2.2.2.2.2.2.2.2.2.2.2.2.2.1 q158.2.2.2.2.2.2.2.2.2.2.2.2.2.2.2.2 w59)) S (c_X7_chase l dC dI ad cA w31 w32 w33 w34 w35 w36 w37 w38 w39 w40 w41 w42 w43 w44 w45 w46 w47 w48 w49 w50 w51 w52 w53 w54 w55 w56 w57 w58 w59 H.size (xs (v1 + (1 : Int32)).toNatClampNeg) (xs (v1 + (2 : Int32)).toNatClampNeg) q158 hq158) (cwV 2 hts gL_law_X7_chase rfl rfl rfl (by decide +kernel) ⟨Nat.le_trans (m := rm_L_law.frames) (by decide) hRf, Nat.le_trans (m := rm_L_law.locals) (by decide) hRl⟩) hN hP hK hD hS hA hcs [14, 15, 16, 17, 18, 19, 20, 21, 22, 23, 24, 25, 26, 27, 28, 29, 30, 31, 32, 33] [0, 1, 2, 3, 4, 5, 6, 7, 8, 9, 10, 11, 12, 13] [0, 1, 2, 3, 4, 5, 6, 7, 8, 9, 10, 11, 12, 13, 14, 15, 16, 17, 18, 19, 20, 21, 22, 23, 24, 25, 26, 27, 28, 29, 30, 31, 32, 33] rfl rfl rfl rfl rfl (by decide) rfl rfl rfl [6, 7, 8, 9, 10, 11, 12, 13, 14, 15, 16, 17, 18, 19, 20, 21, 22, 23, 24] rfl 14 7 rfl rfl rfl hl.1 rfl (Nat.le_of_ble_eq_true rfl) dL_law_462 (fun H locs hP hD hS => ?_)
          refine lv_icmp_eq (tgt := 622) hx hb dL_law_465 (by decide) (fun c159 => ?_) (fun c159 => ?_)
          · have hr := ite_p hr c159
            obtain ⟨x160, ex160, hr⟩ := nm_ex hr
            refine lv_iinc (v := x160) (lv' := [(3, .int x160), (0, .ref b), (1, .ref h_eb), (2, .ref (ad 0))]) hx hb dL_law_622 hl (k := 3) rfl (by rw [ex160]; rfl) (by decide) rfl (fun ls hl => ?_)
            refine lv_goto (tgt := 18) hx hb dL_law_625 (by decide) ?_
            exact ih x160 w2 w3 w4 w5 w6 w7 w8 w9 w10 w11 w12 w13 w14 w15 w16 q155.2.1 q155.2.2.1 q155.2.2.2.1 q155.2.2.2.2.1 q155.2.2.2.2.2.1 q155.2.2.2.2.2.2.1 q155.2.2.2.2.2.2.2.1 q155.2.2.2.2.2.2.2.2.1 q155.2.2.2.2.2.2.2.2.2.1 q155.2.2.2.2.2.2.2.2.2.2.1 q155.2.2.2.2.2.2.2.2.2.2.2 w28 w29 w30 w31 w32 w33 w34 q158.2.1 q158.2.2.1 q158.2.2.2.1 q158.2.2.2.2.1 q158.2.2.2.2.2.1 w40 w41 w42 w43 w44 w45 w46 w47 q158.2.2.2.2.2.2.1 q158.2.2.2.2.2.2.2.1 q158.2.2.2.2.2.2.2.2.1 q158.2.2.2.2.2.2.2.2.2.1 q158.2.2.2.2.2.2.2.2.2.2.1 q158.2.2.2.2.2.2.2.2.2.2.2.1 q158.2.2.2.2.2.2.2.2.2.2.2.2.1 q158.2.2.2.2.2.2.2.2.2.2.2.2.2.1 q158.2.2.2.2.2.2.2.2.2.2.2.2.2.2.1 q158.2.2.2.2.2.2.2.2.2.2.2.2.2.2.2.1 q158.2.2.2.2.2.2.2.2.2.2.2.2.2.2.2.2 w59 _ _ hr hP hD hS ls (lv_sub hl [1, 2, 3, 0] rfl)
          · have hr := ite_n hr c159
            refine lv_iconst (v := (0 : Int32)) hx hb dL_law_468 (by decide) ?_
            obtain rfl := Option.some.inj hr
            exact absurd hq (by decide)
        have hr := ite_n hr c152
        by_cases c161 : x62 = 12
        · have hr := ite_p hr c161
          refine lv_tableIn (off := 438) (tgt := 470) hx hb dL_law_32 (by rw [c161]; decide) (by rw [c161]; decide) (by rw [c161]; rfl) (by decide) ?_
          refine lv_aload_n hx hb dL_law_470 rfl (lv_at hl 1 rfl) ?_
          refine lv_aload_n hx hb dL_law_471 rfl (lv_at hl 0 rfl) ?_
          refine lv_iload_n hx hb dL_law_472 rfl (lv_at hl 3 rfl) ?_
          refine lv_iconst (v := (1 : Int32)) hx hb dL_law_473 (by decide) ?_
          refine lv_iadd hx hb dL_law_474 ?_
          obtain ⟨hi162, hr⟩ := ite_g hr
          refine va_sld hx hb hX hbsz hbA hS hi162 dL_law_475 ?_
          refine lv_aload_n hx hb dL_law_476 rfl (lv_at hl 0 rfl) ?_
          refine lv_iload_n hx hb dL_law_477 rfl (lv_at hl 3 rfl) ?_
          refine lv_iconst (v := (2 : Int32)) hx hb dL_law_478 (by decide) ?_
          refine lv_iadd hx hb dL_law_479 ?_
          obtain ⟨hi163, hr⟩ := ite_g hr
          refine va_sld hx hb hX hbsz hbA hS hi163 dL_law_480 ?_
          obtain ⟨q164, hq164, hr⟩ := bd_use hr
          refine icV_i (As := [.int (xs (v1 + (1 : Int32)).toNatClampNeg), .int (xs (v1 + (2 : Int32)).toNatClampNeg)]) (rest := []) (ws2 := (wd_L h_eb h_g h_row h_bl h_wh h_ac h_life h_t h_ch h_hrow h_hbl h_hwh h_hac h_fi c_bl c_wh c_ac c_hbl c_hwh c_hac ad cA q164.2.1 w3 w4 w5 w6 w7 w8 w9 q164.2.2.1 w11 q164.2.2.2.1 q164.2.2.2.2.1 q164.2.2.2.2.2.1 q164.2.2.2.2.2.2.1 q164.2.2.2.2.2.2.2.1 q164.2.2.2.2.2.2.2.2.1 w18 w19 w20 w21 w22 w23 w24 w25 w26 w27 q164.2.2.2.2.2.2.2.2.2.1 q164.2.2.2.2.2.2.2.2.2.2.1 q164.2.2.2.2.2.2.2.2.2.2.2 w31 w32 w33 w34 w35 w36 w37 w38 w39 w40 w41 w42 w43 w44 w45 w46 w47 w48 w49 w50 w51 w52 w53 w54 w55 w56 w57 w58 w59)) S (c_X6_fight l dC dI h_eb h_g h_row h_bl h_wh h_ac h_life h_t h_ch h_hrow h_hbl h_hwh h_hac h_fi c_bl c_wh c_ac c_hbl c_hwh c_hac 127 41 w2 w3 w4 w5 w6 w7 w8 w9 w10 w11 w12 w13 w14 w15 w16 w17 w18 w19 w20 w21 w22 w23 w24 w25 w26 w27 w28 w29 w30 H.size (xs (v1 + (1 : Int32)).toNatClampNeg) (xs (v1 + (2 : Int32)).toNatClampNeg) q164 hq164) (cwV 2 hts gL_law_X6_fight rfl rfl rfl (by decide +kernel) ⟨Nat.le_trans (m := rm_L_law.frames) (by decide) hRf, Nat.le_trans (m := rm_L_law.locals) (by decide) hRl⟩) hN hP hK hD hS hA hcs [0, 1, 2, 3, 4, 5, 6, 7, 8, 9, 10, 11, 12, 13] [14, 15, 16, 17, 18, 19, 20, 21, 22, 23, 24, 25, 26, 27, 28, 29, 30, 31, 32, 33] [20, 21, 22, 23, 24, 25, 26, 27, 28, 29, 30, 31, 32, 33, 0, 1, 2, 3, 4, 5, 6, 7, 8, 9, 10, 11, 12, 13, 14, 15, 16, 17, 18, 19] rfl rfl rfl rfl rfl (by decide) rfl rfl rfl [0, 1, 2, 3, 4, 5] rfl 0 6 rfl rfl rfl hl.1 rfl (Nat.le_of_ble_eq_true rfl) dL_law_481 (fun H locs hP hD hS => ?_)
          refine lv_aload_n hx hb dL_law_484 rfl (lv_at hl 2 rfl) ?_
          refine lv_aload_n hx hb dL_law_485 rfl (lv_at hl 0 rfl) ?_
          refine lv_iload_n hx hb dL_law_486 rfl (lv_at hl 3 rfl) ?_
          refine lv_iconst (v := (1 : Int32)) hx hb dL_law_487 (by decide) ?_
          refine lv_iadd hx hb dL_law_488 ?_
          obtain ⟨hi165, hr⟩ := ite_g hr
          refine va_sld hx hb hX hbsz hbA hS hi165 dL_law_489 ?_
          refine lv_aload_n hx hb dL_law_490 rfl (lv_at hl 0 rfl) ?_
          refine lv_iload_n hx hb dL_law_491 rfl (lv_at hl 3 rfl) ?_
          refine lv_iconst (v := (2 : Int32)) hx hb dL_law_492 (by decide) ?_
          refine lv_iadd hx hb dL_law_493 ?_
          obtain ⟨hi166, hr⟩ := ite_g hr
          refine va_sld hx hb hX hbsz hbA hS hi166 dL_law_494 ?_
          obtain ⟨q167, hq167, hr⟩ := bd_use hr
          refine icV_i (As := [.int (xs (v1 + (1 : Int32)).toNatClampNeg), .int (xs (v1 + (2 : Int32)).toNatClampNeg)]) (rest := [.int q164.1]) (ws2 := (wd_L h_eb h_g h_row h_bl h_wh h_ac h_life h_t h_ch h_hrow h_hbl h_hwh h_hac h_fi c_bl c_wh c_ac c_hbl c_hwh c_hac ad cA q164.2.1 w3 w4 w5 w6 w7 w8 w9 q164.2.2.1 w11 q164.2.2.2.1 q164.2.2.2.2.1 q164.2.2.2.2.2.1 q164.2.2.2.2.2.2.1 q164.2.2.2.2.2.2.2.1 q164.2.2.2.2.2.2.2.2.1 w18 w19 w20 w21 w22 w23 w24 w25 w26 w27 q164.2.2.2.2.2.2.2.2.2.1 q164.2.2.2.2.2.2.2.2.2.2.1 q164.2.2.2.2.2.2.2.2.2.2.2 w31 w32 w33 w34 q167.2.1 q167.2.2.1 q167.2.2.2.1 q167.2.2.2.2.1 q167.2.2.2.2.2.1 q167.2.2.2.2.2.2.1 w41 w42 q167.2.2.2.2.2.2.2.1 q167.2.2.2.2.2.2.2.2.1 q167.2.2.2.2.2.2.2.2.2.1 w46 w47 w48 w49 w50 w51 w52 w53 w54 w55 w56 w57 w58 q167.2.2.2.2.2.2.2.2.2.2)) S (c_X7_fight l dC dI ad cA w31 w32 w33 w34 w35 w36 w37 w38 w39 w40 w41 w42 w43 w44 w45 w46 w47 w48 w49 w50 w51 w52 w53 w54 w55 w56 w57 w58 w59 H.size (xs (v1 + (1 : Int32)).toNatClampNeg) (xs (v1 + (2 : Int32)).toNatClampNeg) q167 hq167) (cwV 2 hts gL_law_X7_fight rfl rfl rfl (by decide +kernel) ⟨Nat.le_trans (m := rm_L_law.frames) (by decide) hRf, Nat.le_trans (m := rm_L_law.locals) (by decide) hRl⟩) hN hP hK hD hS hA hcs [14, 15, 16, 17, 18, 19, 20, 21, 22, 23, 24, 25, 26, 27, 28, 29, 30, 31, 32, 33] [0, 1, 2, 3, 4, 5, 6, 7, 8, 9, 10, 11, 12, 13] [0, 1, 2, 3, 4, 5, 6, 7, 8, 9, 10, 11, 12, 13, 14, 15, 16, 17, 18, 19, 20, 21, 22, 23, 24, 25, 26, 27, 28, 29, 30, 31, 32, 33] rfl rfl rfl rfl rfl (by decide) rfl rfl rfl [6, 7, 8, 9, 10, 11, 12, 13, 14, 15, 16, 17, 18, 19, 20, 21, 22, 23, 24] rfl 14 7 rfl rfl rfl hl.1 rfl (Nat.le_of_ble_eq_true rfl) dL_law_495 (fun H locs hP hD hS => ?_)
          refine lv_icmp_eq (tgt := 622) hx hb dL_law_498 (by decide) (fun c168 => ?_) (fun c168 => ?_)
          · have hr := ite_p hr c168
            obtain ⟨x169, ex169, hr⟩ := nm_ex hr
            refine lv_iinc (v := x169) (lv' := [(3, .int x169), (0, .ref b), (1, .ref h_eb), (2, .ref (ad 0))]) hx hb dL_law_622 hl (k := 3) rfl (by rw [ex169]; rfl) (by decide) rfl (fun ls hl => ?_)
            refine lv_goto (tgt := 18) hx hb dL_law_625 (by decide) ?_
            exact ih x169 q164.2.1 w3 w4 w5 w6 w7 w8 w9 q164.2.2.1 w11 q164.2.2.2.1 q164.2.2.2.2.1 q164.2.2.2.2.2.1 q164.2.2.2.2.2.2.1 q164.2.2.2.2.2.2.2.1 q164.2.2.2.2.2.2.2.2.1 w18 w19 w20 w21 w22 w23 w24 w25 w26 w27 q164.2.2.2.2.2.2.2.2.2.1 q164.2.2.2.2.2.2.2.2.2.2.1 q164.2.2.2.2.2.2.2.2.2.2.2 w31 w32 w33 w34 q167.2.1 q167.2.2.1 q167.2.2.2.1 q167.2.2.2.2.1 q167.2.2.2.2.2.1 q167.2.2.2.2.2.2.1 w41 w42 q167.2.2.2.2.2.2.2.1 q167.2.2.2.2.2.2.2.2.1 q167.2.2.2.2.2.2.2.2.2.1 w46 w47 w48 w49 w50 w51 w52 w53 w54 w55 w56 w57 w58 q167.2.2.2.2.2.2.2.2.2.2 _ _ hr hP hD hS ls (lv_sub hl [1, 2, 3, 0] rfl)
          · have hr := ite_n hr c168
            refine lv_iconst (v := (0 : Int32)) hx hb dL_law_501 (by decide) ?_
            obtain rfl := Option.some.inj hr
            exact absurd hq (by decide)
        have hr := ite_n hr c161
        by_cases c170 : x62 = 13
        · have hr := ite_p hr c170
          refine lv_tableIn (off := 471) (tgt := 503) hx hb dL_law_32 (by rw [c170]; decide) (by rw [c170]; decide) (by rw [c170]; rfl) (by decide) ?_
          refine lv_aload_n hx hb dL_law_503 rfl (lv_at hl 1 rfl) ?_
          obtain ⟨q171, hq171, hr⟩ := bd_use hr
          refine pcV_i (As := []) (rest := []) S (c_X6_tries l dC dI h_eb h_g h_row h_bl h_wh h_ac h_life h_t h_ch h_hrow h_hbl h_hwh h_hac h_fi c_bl c_wh c_ac c_hbl c_hwh c_hac 127 41 w2 w3 w4 w5 w6 w7 w8 w9 w10 w11 w12 w13 w14 w15 w16 w17 w18 w19 w20 w21 w22 w23 w24 w25 w26 w27 w28 w29 w30 q171 hq171) (cwV 0 hts gL_law_X6_tries rfl rfl rfl (by decide +kernel) ⟨Nat.le_trans (m := rm_L_law.frames) (by decide) hRf, Nat.le_trans (m := rm_L_law.locals) (by decide) hRl⟩) hN hP hK hcs [0, 1, 2, 3, 4, 5, 6, 7, 8, 9, 10, 11, 12, 13] rfl [0, 1, 2, 3, 4, 5] rfl 0 6 rfl rfl rfl hl.1 rfl (Nat.le_of_ble_eq_true rfl) dL_law_504 ?_
          refine lv_aload_n hx hb dL_law_507 rfl (lv_at hl 2 rfl) ?_
          obtain ⟨q172, hq172, hr⟩ := bd_use hr
          refine pcV_i (As := []) (rest := [.int q171]) S (c_X7_tries l dC dI ad cA w31 w32 w33 w34 w35 w36 w37 w38 w39 w40 w41 w42 w43 w44 w45 w46 w47 w48 w49 w50 w51 w52 w53 w54 w55 w56 w57 w58 w59 q172 hq172) (cwV 0 hts gL_law_X7_tries rfl rfl rfl (by decide +kernel) ⟨Nat.le_trans (m := rm_L_law.frames) (by decide) hRf, Nat.le_trans (m := rm_L_law.locals) (by decide) hRl⟩) hN hP hK hcs [14, 15, 16, 17, 18, 19, 20, 21, 22, 23, 24, 25, 26, 27, 28, 29, 30, 31, 32, 33] rfl [6, 7, 8, 9, 10, 11, 12, 13, 14, 15, 16, 17, 18, 19, 20, 21, 22, 23, 24] rfl 14 7 rfl rfl rfl hl.1 rfl (Nat.le_of_ble_eq_true rfl) dL_law_508 ?_
          refine lv_icmp_eq (tgt := 622) hx hb dL_law_511 (by decide) (fun c173 => ?_) (fun c173 => ?_)
          · have hr := ite_p hr c173
            obtain ⟨x174, ex174, hr⟩ := nm_ex hr
            refine lv_iinc (v := x174) (lv' := [(3, .int x174), (0, .ref b), (1, .ref h_eb), (2, .ref (ad 0))]) hx hb dL_law_622 hl (k := 3) rfl (by rw [ex174]; rfl) (by decide) rfl (fun ls hl => ?_)
            refine lv_goto (tgt := 18) hx hb dL_law_625 (by decide) ?_
            exact ih x174 w2 w3 w4 w5 w6 w7 w8 w9 w10 w11 w12 w13 w14 w15 w16 w17 w18 w19 w20 w21 w22 w23 w24 w25 w26 w27 w28 w29 w30 w31 w32 w33 w34 w35 w36 w37 w38 w39 w40 w41 w42 w43 w44 w45 w46 w47 w48 w49 w50 w51 w52 w53 w54 w55 w56 w57 w58 w59 _ _ hr hP hD hS ls (lv_sub hl [1, 2, 3, 0] rfl)
          · have hr := ite_n hr c173
            refine lv_iconst (v := (0 : Int32)) hx hb dL_law_514 (by decide) ?_
            obtain rfl := Option.some.inj hr
            exact absurd hq (by decide)
        have hr := ite_n hr c170
        by_cases c175 : x62 = 14
        · have hr := ite_p hr c175
          refine lv_tableIn (off := 484) (tgt := 516) hx hb dL_law_32 (by rw [c175]; decide) (by rw [c175]; decide) (by rw [c175]; rfl) (by decide) ?_
          refine lv_aload_n hx hb dL_law_516 rfl (lv_at hl 1 rfl) ?_
          obtain ⟨q176, hq176, hr⟩ := bd_use hr
          refine pcV_i (As := []) (rest := []) S (c_X6_first l dC dI h_eb h_g h_row h_bl h_wh h_ac h_life h_t h_ch h_hrow h_hbl h_hwh h_hac h_fi c_bl c_wh c_ac c_hbl c_hwh c_hac 127 41 w2 w3 w4 w5 w6 w7 w8 w9 w10 w11 w12 w13 w14 w15 w16 w17 w18 w19 w20 w21 w22 w23 w24 w25 w26 w27 w28 w29 w30 q176 hq176) (cwV 0 hts gL_law_X6_first rfl rfl rfl (by decide +kernel) ⟨Nat.le_trans (m := rm_L_law.frames) (by decide) hRf, Nat.le_trans (m := rm_L_law.locals) (by decide) hRl⟩) hN hP hK hcs [0, 1, 2, 3, 4, 5, 6, 7, 8, 9, 10, 11, 12, 13] rfl [0, 1, 2, 3, 4, 5] rfl 0 6 rfl rfl rfl hl.1 rfl (Nat.le_of_ble_eq_true rfl) dL_law_517 ?_
          refine lv_aload_n hx hb dL_law_520 rfl (lv_at hl 2 rfl) ?_
          obtain ⟨q177, hq177, hr⟩ := bd_use hr
          refine pcV_i (As := []) (rest := [.int q176]) S (c_X7_first l dC dI ad cA w31 w32 w33 w34 w35 w36 w37 w38 w39 w40 w41 w42 w43 w44 w45 w46 w47 w48 w49 w50 w51 w52 w53 w54 w55 w56 w57 w58 w59 q177 hq177) (cwV 0 hts gL_law_X7_first rfl rfl rfl (by decide +kernel) ⟨Nat.le_trans (m := rm_L_law.frames) (by decide) hRf, Nat.le_trans (m := rm_L_law.locals) (by decide) hRl⟩) hN hP hK hcs [14, 15, 16, 17, 18, 19, 20, 21, 22, 23, 24, 25, 26, 27, 28, 29, 30, 31, 32, 33] rfl [6, 7, 8, 9, 10, 11, 12, 13, 14, 15, 16, 17, 18, 19, 20, 21, 22, 23, 24] rfl 14 7 rfl rfl rfl hl.1 rfl (Nat.le_of_ble_eq_true rfl) dL_law_521 ?_
          refine lv_icmp_eq (tgt := 622) hx hb dL_law_524 (by decide) (fun c178 => ?_) (fun c178 => ?_)
          · have hr := ite_p hr c178
            obtain ⟨x179, ex179, hr⟩ := nm_ex hr
            refine lv_iinc (v := x179) (lv' := [(3, .int x179), (0, .ref b), (1, .ref h_eb), (2, .ref (ad 0))]) hx hb dL_law_622 hl (k := 3) rfl (by rw [ex179]; rfl) (by decide) rfl (fun ls hl => ?_)
            refine lv_goto (tgt := 18) hx hb dL_law_625 (by decide) ?_
            exact ih x179 w2 w3 w4 w5 w6 w7 w8 w9 w10 w11 w12 w13 w14 w15 w16 w17 w18 w19 w20 w21 w22 w23 w24 w25 w26 w27 w28 w29 w30 w31 w32 w33 w34 w35 w36 w37 w38 w39 w40 w41 w42 w43 w44 w45 w46 w47 w48 w49 w50 w51 w52 w53 w54 w55 w56 w57 w58 w59 _ _ hr hP hD hS ls (lv_sub hl [1, 2, 3, 0] rfl)
          · have hr := ite_n hr c178
            refine lv_iconst (v := (0 : Int32)) hx hb dL_law_527 (by decide) ?_
            obtain rfl := Option.some.inj hr
            exact absurd hq (by decide)
        have hr := ite_n hr c175
        by_cases c180 : x62 = 15
        · have hr := ite_p hr c180
          refine lv_tableIn (off := 497) (tgt := 529) hx hb dL_law_32 (by rw [c180]; decide) (by rw [c180]; decide) (by rw [c180]; rfl) (by decide) ?_
          refine lv_aload_n hx hb dL_law_529 rfl (lv_at hl 1 rfl) ?_
          refine lv_aload_n hx hb dL_law_530 rfl (lv_at hl 0 rfl) ?_
          refine lv_iload_n hx hb dL_law_531 rfl (lv_at hl 3 rfl) ?_
          refine lv_iconst (v := (1 : Int32)) hx hb dL_law_532 (by decide) ?_
          refine lv_iadd hx hb dL_law_533 ?_
          obtain ⟨hi181, hr⟩ := ite_g hr
          refine va_sld hx hb hX hbsz hbA hS hi181 dL_law_534 ?_
          refine lv_aload_n hx hb dL_law_535 rfl (lv_at hl 0 rfl) ?_
          refine lv_iload_n hx hb dL_law_536 rfl (lv_at hl 3 rfl) ?_
          refine lv_iconst (v := (2 : Int32)) hx hb dL_law_537 (by decide) ?_
          refine lv_iadd hx hb dL_law_538 ?_
          obtain ⟨hi182, hr⟩ := ite_g hr
          refine va_sld hx hb hX hbsz hbA hS hi182 dL_law_539 ?_
          obtain ⟨q183, hq183, hr⟩ := bd_use hr
          refine pcV_i (As := [.int (xs (v1 + (1 : Int32)).toNatClampNeg), .int (xs (v1 + (2 : Int32)).toNatClampNeg)]) (rest := []) S (c_X6_points l dC dI h_eb h_g h_row h_bl h_wh h_ac h_life h_t h_ch h_hrow h_hbl h_hwh h_hac h_fi c_bl c_wh c_ac c_hbl c_hwh c_hac 127 41 w2 w3 w4 w5 w6 w7 w8 w9 w10 w11 w12 w13 w14 w15 w16 w17 w18 w19 w20 w21 w22 w23 w24 w25 w26 w27 w28 w29 w30 (xs (v1 + (1 : Int32)).toNatClampNeg) (xs (v1 + (2 : Int32)).toNatClampNeg) q183 hq183) (cwV 2 hts gL_law_X6_points rfl rfl rfl (by decide +kernel) ⟨Nat.le_trans (m := rm_L_law.frames) (by decide) hRf, Nat.le_trans (m := rm_L_law.locals) (by decide) hRl⟩) hN hP hK hcs [0, 1, 2, 3, 4, 5, 6, 7, 8, 9, 10, 11, 12, 13] rfl [0, 1, 2, 3, 4, 5] rfl 0 6 rfl rfl rfl hl.1 rfl (Nat.le_of_ble_eq_true rfl) dL_law_540 ?_
          refine lv_aload_n hx hb dL_law_543 rfl (lv_at hl 2 rfl) ?_
          refine lv_aload_n hx hb dL_law_544 rfl (lv_at hl 0 rfl) ?_
          refine lv_iload_n hx hb dL_law_545 rfl (lv_at hl 3 rfl) ?_
          refine lv_iconst (v := (1 : Int32)) hx hb dL_law_546 (by decide) ?_
          refine lv_iadd hx hb dL_law_547 ?_
          obtain ⟨hi184, hr⟩ := ite_g hr
          refine va_sld hx hb hX hbsz hbA hS hi184 dL_law_548 ?_
          refine lv_aload_n hx hb dL_law_549 rfl (lv_at hl 0 rfl) ?_
          refine lv_iload_n hx hb dL_law_550 rfl (lv_at hl 3 rfl) ?_
          refine lv_iconst (v := (2 : Int32)) hx hb dL_law_551 (by decide) ?_
          refine lv_iadd hx hb dL_law_552 ?_
          obtain ⟨hi185, hr⟩ := ite_g hr
          refine va_sld hx hb hX hbsz hbA hS hi185 dL_law_553 ?_
          obtain ⟨q186, hq186, hr⟩ := bd_use hr
          refine pcV_i (As := [.int (xs (v1 + (1 : Int32)).toNatClampNeg), .int (xs (v1 + (2 : Int32)).toNatClampNeg)]) (rest := [.int q183]) S (c_X7_points l dC dI ad cA w31 w32 w33 w34 w35 w36 w37 w38 w39 w40 w41 w42 w43 w44 w45 w46 w47 w48 w49 w50 w51 w52 w53 w54 w55 w56 w57 w58 w59 (xs (v1 + (1 : Int32)).toNatClampNeg) (xs (v1 + (2 : Int32)).toNatClampNeg) q186 hq186) (cwV 2 hts gL_law_X7_points rfl rfl rfl (by decide +kernel) ⟨Nat.le_trans (m := rm_L_law.frames) (by decide) hRf, Nat.le_trans (m := rm_L_law.locals) (by decide) hRl⟩) hN hP hK hcs [14, 15, 16, 17, 18, 19, 20, 21, 22, 23, 24, 25, 26, 27, 28, 29, 30, 31, 32, 33] rfl [6, 7, 8, 9, 10, 11, 12, 13, 14, 15, 16, 17, 18, 19, 20, 21, 22, 23, 24] rfl 14 7 rfl rfl rfl hl.1 rfl (Nat.le_of_ble_eq_true rfl) dL_law_554 ?_
          refine lv_icmp_eq (tgt := 622) hx hb dL_law_557 (by decide) (fun c187 => ?_) (fun c187 => ?_)
          · have hr := ite_p hr c187
            obtain ⟨x188, ex188, hr⟩ := nm_ex hr
            refine lv_iinc (v := x188) (lv' := [(3, .int x188), (0, .ref b), (1, .ref h_eb), (2, .ref (ad 0))]) hx hb dL_law_622 hl (k := 3) rfl (by rw [ex188]; rfl) (by decide) rfl (fun ls hl => ?_)
            refine lv_goto (tgt := 18) hx hb dL_law_625 (by decide) ?_
            exact ih x188 w2 w3 w4 w5 w6 w7 w8 w9 w10 w11 w12 w13 w14 w15 w16 w17 w18 w19 w20 w21 w22 w23 w24 w25 w26 w27 w28 w29 w30 w31 w32 w33 w34 w35 w36 w37 w38 w39 w40 w41 w42 w43 w44 w45 w46 w47 w48 w49 w50 w51 w52 w53 w54 w55 w56 w57 w58 w59 _ _ hr hP hD hS ls (lv_sub hl [1, 2, 3, 0] rfl)
          · have hr := ite_n hr c187
            refine lv_iconst (v := (0 : Int32)) hx hb dL_law_560 (by decide) ?_
            obtain rfl := Option.some.inj hr
            exact absurd hq (by decide)
        have hr := ite_n hr c180
        by_cases c189 : x62 = 16
        · have hr := ite_p hr c189
          refine lv_tableIn (off := 530) (tgt := 562) hx hb dL_law_32 (by rw [c189]; decide) (by rw [c189]; decide) (by rw [c189]; rfl) (by decide) ?_
          refine lv_aload_n hx hb dL_law_562 rfl (lv_at hl 1 rfl) ?_
          refine lv_aload_n hx hb dL_law_563 rfl (lv_at hl 0 rfl) ?_
          refine lv_iload_n hx hb dL_law_564 rfl (lv_at hl 3 rfl) ?_
          refine lv_iconst (v := (1 : Int32)) hx hb dL_law_565 (by decide) ?_
          refine lv_iadd hx hb dL_law_566 ?_
          obtain ⟨hi190, hr⟩ := ite_g hr
          refine va_sld hx hb hX hbsz hbA hS hi190 dL_law_567 ?_
          obtain ⟨q191, hq191, hr⟩ := bd_use hr
          refine pcV_i (As := [.int (xs (v1 + (1 : Int32)).toNatClampNeg)]) (rest := []) S (c_X6_count l dC dI h_eb h_g h_row h_bl h_wh h_ac h_life h_t h_ch h_hrow h_hbl h_hwh h_hac h_fi c_bl c_wh c_ac c_hbl c_hwh c_hac 127 41 w2 w3 w4 w5 w6 w7 w8 w9 w10 w11 w12 w13 w14 w15 w16 w17 w18 w19 w20 w21 w22 w23 w24 w25 w26 w27 w28 w29 w30 (xs (v1 + (1 : Int32)).toNatClampNeg) q191 hq191) (cwV 1 hts gL_law_X6_count rfl rfl rfl (by decide +kernel) ⟨Nat.le_trans (m := rm_L_law.frames) (by decide) hRf, Nat.le_trans (m := rm_L_law.locals) (by decide) hRl⟩) hN hP hK hcs [0, 1, 2, 3, 4, 5, 6, 7, 8, 9, 10, 11, 12, 13] rfl [0, 1, 2, 3, 4, 5] rfl 0 6 rfl rfl rfl hl.1 rfl (Nat.le_of_ble_eq_true rfl) dL_law_568 ?_
          refine lv_aload_n hx hb dL_law_571 rfl (lv_at hl 2 rfl) ?_
          refine lv_aload_n hx hb dL_law_572 rfl (lv_at hl 0 rfl) ?_
          refine lv_iload_n hx hb dL_law_573 rfl (lv_at hl 3 rfl) ?_
          refine lv_iconst (v := (1 : Int32)) hx hb dL_law_574 (by decide) ?_
          refine lv_iadd hx hb dL_law_575 ?_
          obtain ⟨hi192, hr⟩ := ite_g hr
          refine va_sld hx hb hX hbsz hbA hS hi192 dL_law_576 ?_
          obtain ⟨q193, hq193, hr⟩ := bd_use hr
          refine pcV_i (As := [.int (xs (v1 + (1 : Int32)).toNatClampNeg)]) (rest := [.int q191]) S (c_X7_count l dC dI ad cA w31 w32 w33 w34 w35 w36 w37 w38 w39 w40 w41 w42 w43 w44 w45 w46 w47 w48 w49 w50 w51 w52 w53 w54 w55 w56 w57 w58 w59 (xs (v1 + (1 : Int32)).toNatClampNeg) q193 hq193) (cwV 1 hts gL_law_X7_count rfl rfl rfl (by decide +kernel) ⟨Nat.le_trans (m := rm_L_law.frames) (by decide) hRf, Nat.le_trans (m := rm_L_law.locals) (by decide) hRl⟩) hN hP hK hcs [14, 15, 16, 17, 18, 19, 20, 21, 22, 23, 24, 25, 26, 27, 28, 29, 30, 31, 32, 33] rfl [6, 7, 8, 9, 10, 11, 12, 13, 14, 15, 16, 17, 18, 19, 20, 21, 22, 23, 24] rfl 14 7 rfl rfl rfl hl.1 rfl (Nat.le_of_ble_eq_true rfl) dL_law_577 ?_
          refine lv_icmp_eq (tgt := 622) hx hb dL_law_580 (by decide) (fun c194 => ?_) (fun c194 => ?_)
          · have hr := ite_p hr c194
            obtain ⟨x195, ex195, hr⟩ := nm_ex hr
            refine lv_iinc (v := x195) (lv' := [(3, .int x195), (0, .ref b), (1, .ref h_eb), (2, .ref (ad 0))]) hx hb dL_law_622 hl (k := 3) rfl (by rw [ex195]; rfl) (by decide) rfl (fun ls hl => ?_)
            refine lv_goto (tgt := 18) hx hb dL_law_625 (by decide) ?_
            exact ih x195 w2 w3 w4 w5 w6 w7 w8 w9 w10 w11 w12 w13 w14 w15 w16 w17 w18 w19 w20 w21 w22 w23 w24 w25 w26 w27 w28 w29 w30 w31 w32 w33 w34 w35 w36 w37 w38 w39 w40 w41 w42 w43 w44 w45 w46 w47 w48 w49 w50 w51 w52 w53 w54 w55 w56 w57 w58 w59 _ _ hr hP hD hS ls (lv_sub hl [1, 2, 3, 0] rfl)
          · have hr := ite_n hr c194
            refine lv_iconst (v := (0 : Int32)) hx hb dL_law_583 (by decide) ?_
            obtain rfl := Option.some.inj hr
            exact absurd hq (by decide)
        have hr := ite_n hr c189
        by_cases c196 : x62 = 17
        · have hr := ite_p hr c196
          refine lv_tableIn (off := 553) (tgt := 585) hx hb dL_law_32 (by rw [c196]; decide) (by rw [c196]; decide) (by rw [c196]; rfl) (by decide) ?_
          refine lv_aload_n hx hb dL_law_585 rfl (lv_at hl 1 rfl) ?_
          refine lv_aload_n hx hb dL_law_586 rfl (lv_at hl 0 rfl) ?_
          refine lv_iload_n hx hb dL_law_587 rfl (lv_at hl 3 rfl) ?_
          refine lv_iconst (v := (1 : Int32)) hx hb dL_law_588 (by decide) ?_
          refine lv_iadd hx hb dL_law_589 ?_
          obtain ⟨hi197, hr⟩ := ite_g hr
          refine va_sld hx hb hX hbsz hbA hS hi197 dL_law_590 ?_
          obtain ⟨q198, hq198, hr⟩ := bd_use hr
          refine pcV_i (As := [.int (xs (v1 + (1 : Int32)).toNatClampNeg)]) (rest := []) S (c_X6_act l dC dI h_eb h_g h_row h_bl h_wh h_ac h_life h_t h_ch h_hrow h_hbl h_hwh h_hac h_fi c_bl c_wh c_ac c_hbl c_hwh c_hac 127 41 w2 w3 w4 w5 w6 w7 w8 w9 w10 w11 w12 w13 w14 w15 w16 w17 w18 w19 w20 w21 w22 w23 w24 w25 w26 w27 w28 w29 w30 (xs (v1 + (1 : Int32)).toNatClampNeg) q198 hq198) (cwV 1 hts gL_law_X6_act rfl rfl rfl (by decide +kernel) ⟨Nat.le_trans (m := rm_L_law.frames) (by decide) hRf, Nat.le_trans (m := rm_L_law.locals) (by decide) hRl⟩) hN hP hK hcs [0, 1, 2, 3, 4, 5, 6, 7, 8, 9, 10, 11, 12, 13] rfl [0, 1, 2, 3, 4, 5] rfl 0 6 rfl rfl rfl hl.1 rfl (Nat.le_of_ble_eq_true rfl) dL_law_591 ?_
          refine lv_aload_n hx hb dL_law_594 rfl (lv_at hl 2 rfl) ?_
          refine lv_aload_n hx hb dL_law_595 rfl (lv_at hl 0 rfl) ?_
          refine lv_iload_n hx hb dL_law_596 rfl (lv_at hl 3 rfl) ?_
          refine lv_iconst (v := (1 : Int32)) hx hb dL_law_597 (by decide) ?_
          refine lv_iadd hx hb dL_law_598 ?_
          obtain ⟨hi199, hr⟩ := ite_g hr
          refine va_sld hx hb hX hbsz hbA hS hi199 dL_law_599 ?_
          obtain ⟨q200, hq200, hr⟩ := bd_use hr
          refine pcV_i (As := [.int (xs (v1 + (1 : Int32)).toNatClampNeg)]) (rest := [.int q198]) S (c_X7_act l dC dI ad cA w31 w32 w33 w34 w35 w36 w37 w38 w39 w40 w41 w42 w43 w44 w45 w46 w47 w48 w49 w50 w51 w52 w53 w54 w55 w56 w57 w58 w59 (xs (v1 + (1 : Int32)).toNatClampNeg) q200 hq200) (cwV 1 hts gL_law_X7_act rfl rfl rfl (by decide +kernel) ⟨Nat.le_trans (m := rm_L_law.frames) (by decide) hRf, Nat.le_trans (m := rm_L_law.locals) (by decide) hRl⟩) hN hP hK hcs [14, 15, 16, 17, 18, 19, 20, 21, 22, 23, 24, 25, 26, 27, 28, 29, 30, 31, 32, 33] rfl [6, 7, 8, 9, 10, 11, 12, 13, 14, 15, 16, 17, 18, 19, 20, 21, 22, 23, 24] rfl 14 7 rfl rfl rfl hl.1 rfl (Nat.le_of_ble_eq_true rfl) dL_law_600 ?_
          refine lv_icmp_eq (tgt := 622) hx hb dL_law_603 (by decide) (fun c201 => ?_) (fun c201 => ?_)
          · have hr := ite_p hr c201
            obtain ⟨x202, ex202, hr⟩ := nm_ex hr
            refine lv_iinc (v := x202) (lv' := [(3, .int x202), (0, .ref b), (1, .ref h_eb), (2, .ref (ad 0))]) hx hb dL_law_622 hl (k := 3) rfl (by rw [ex202]; rfl) (by decide) rfl (fun ls hl => ?_)
            refine lv_goto (tgt := 18) hx hb dL_law_625 (by decide) ?_
            exact ih x202 w2 w3 w4 w5 w6 w7 w8 w9 w10 w11 w12 w13 w14 w15 w16 w17 w18 w19 w20 w21 w22 w23 w24 w25 w26 w27 w28 w29 w30 w31 w32 w33 w34 w35 w36 w37 w38 w39 w40 w41 w42 w43 w44 w45 w46 w47 w48 w49 w50 w51 w52 w53 w54 w55 w56 w57 w58 w59 _ _ hr hP hD hS ls (lv_sub hl [1, 2, 3, 0] rfl)
          · have hr := ite_n hr c201
            refine lv_iconst (v := (0 : Int32)) hx hb dL_law_606 (by decide) ?_
            obtain rfl := Option.some.inj hr
            exact absurd hq (by decide)
        have hr := ite_n hr c196
        by_cases c203 : x62 = 18
        · have hr := ite_p hr c203
          refine lv_tableIn (off := 576) (tgt := 608) hx hb dL_law_32 (by rw [c203]; decide) (by rw [c203]; decide) (by rw [c203]; rfl) (by decide) ?_
          refine lv_aload_n hx hb dL_law_608 rfl (lv_at hl 1 rfl) ?_
          obtain ⟨q204, hq204, hr⟩ := bd_use hr
          refine pcV_l (As := []) (rest := []) S (c_X6_digest l dC dI h_eb h_g h_row h_bl h_wh h_ac h_life h_t h_ch h_hrow h_hbl h_hwh h_hac h_fi c_bl c_wh c_ac c_hbl c_hwh c_hac 127 41 w2 w3 w4 w5 w6 w7 w8 w9 w10 w11 w12 w13 w14 w15 w16 w17 w18 w19 w20 w21 w22 w23 w24 w25 w26 w27 w28 w29 w30 q204 hq204) (cwV 0 hts gL_law_X6_digest rfl rfl rfl (by decide +kernel) ⟨Nat.le_trans (m := rm_L_law.frames) (by decide) hRf, Nat.le_trans (m := rm_L_law.locals) (by decide) hRl⟩) hN hP hK hcs [0, 1, 2, 3, 4, 5, 6, 7, 8, 9, 10, 11, 12, 13] rfl [0, 1, 2, 3, 4, 5] rfl 0 6 rfl rfl rfl hl.1 rfl (Nat.le_of_ble_eq_true rfl) dL_law_609 ?_
          refine lv_aload_n hx hb dL_law_612 rfl (lv_at hl 2 rfl) ?_
          obtain ⟨q205, hq205, hr⟩ := bd_use hr
          refine pcV_l (As := []) (rest := [.long q204]) S (c_X7_digest l dC dI ad cA w31 w32 w33 w34 w35 w36 w37 w38 w39 w40 w41 w42 w43 w44 w45 w46 w47 w48 w49 w50 w51 w52 w53 w54 w55 w56 w57 w58 w59 q205 hq205) (cwV 0 hts gL_law_X7_digest rfl rfl rfl (by decide +kernel) ⟨Nat.le_trans (m := rm_L_law.frames) (by decide) hRf, Nat.le_trans (m := rm_L_law.locals) (by decide) hRl⟩) hN hP hK hcs [14, 15, 16, 17, 18, 19, 20, 21, 22, 23, 24, 25, 26, 27, 28, 29, 30, 31, 32, 33] rfl [6, 7, 8, 9, 10, 11, 12, 13, 14, 15, 16, 17, 18, 19, 20, 21, 22, 23, 24] rfl 14 7 rfl rfl rfl hl.1 rfl (Nat.le_of_ble_eq_true rfl) dL_law_613 ?_
          refine W.lcmp hx hb dL_law_616 ?_
          refine lv_if_eq (tgt := 622) hx hb dL_law_617 (by decide) (fun c206 => ?_) (fun c206 => ?_)
          · have c206 := cmp_t c206
            have hr := ite_p hr c206
            obtain ⟨x207, ex207, hr⟩ := nm_ex hr
            refine lv_iinc (v := x207) (lv' := [(3, .int x207), (0, .ref b), (1, .ref h_eb), (2, .ref (ad 0))]) hx hb dL_law_622 hl (k := 3) rfl (by rw [ex207]; rfl) (by decide) rfl (fun ls hl => ?_)
            refine lv_goto (tgt := 18) hx hb dL_law_625 (by decide) ?_
            exact ih x207 w2 w3 w4 w5 w6 w7 w8 w9 w10 w11 w12 w13 w14 w15 w16 w17 w18 w19 w20 w21 w22 w23 w24 w25 w26 w27 w28 w29 w30 w31 w32 w33 w34 w35 w36 w37 w38 w39 w40 w41 w42 w43 w44 w45 w46 w47 w48 w49 w50 w51 w52 w53 w54 w55 w56 w57 w58 w59 _ _ hr hP hD hS ls (lv_sub hl [1, 2, 3, 0] rfl)
          · have c206 := cmp_f c206
            have hr := ite_n hr c206
            refine lv_iconst (v := (0 : Int32)) hx hb dL_law_620 (by decide) ?_
            obtain rfl := Option.some.inj hr
            exact absurd hq (by decide)
        have hr := ite_n hr c203
        have ht208 : x62.toInt < 0 ∨ 18 < x62.toInt := by
          have e0 : ¬ x62.toInt = 0 := tb_ne c63
          have e1 : ¬ x62.toInt = 1 := tb_ne c74
          have e2 : ¬ x62.toInt = 2 := tb_ne c85
          have e3 : ¬ x62.toInt = 3 := tb_ne c92
          have e4 : ¬ x62.toInt = 4 := tb_ne c97
          have e5 : ¬ x62.toInt = 5 := tb_ne c104
          have e6 : ¬ x62.toInt = 6 := tb_ne c109
          have e7 : ¬ x62.toInt = 7 := tb_ne c116
          have e8 : ¬ x62.toInt = 8 := tb_ne c125
          have e9 : ¬ x62.toInt = 9 := tb_ne c134
          have e10 : ¬ x62.toInt = 10 := tb_ne c145
          have e11 : ¬ x62.toInt = 11 := tb_ne c152
          have e12 : ¬ x62.toInt = 12 := tb_ne c161
          have e13 : ¬ x62.toInt = 13 := tb_ne c170
          have e14 : ¬ x62.toInt = 14 := tb_ne c175
          have e15 : ¬ x62.toInt = 15 := tb_ne c180
          have e16 : ¬ x62.toInt = 16 := tb_ne c189
          have e17 : ¬ x62.toInt = 17 := tb_ne c196
          have e18 : ¬ x62.toInt = 18 := tb_ne c203
          omega
        refine lv_tableOut (tgt := 622) hx hb dL_law_32 ht208 (by decide) ?_
        obtain ⟨x209, ex209, hr⟩ := nm_ex hr
        refine lv_iinc (v := x209) (lv' := [(3, .int x209), (0, .ref b), (1, .ref h_eb), (2, .ref (ad 0))]) hx hb dL_law_622 hl (k := 3) rfl (by rw [ex209]; rfl) (by decide) rfl (fun ls hl => ?_)
        refine lv_goto (tgt := 18) hx hb dL_law_625 (by decide) ?_
        exact ih x209 w2 w3 w4 w5 w6 w7 w8 w9 w10 w11 w12 w13 w14 w15 w16 w17 w18 w19 w20 w21 w22 w23 w24 w25 w26 w27 w28 w29 w30 w31 w32 w33 w34 w35 w36 w37 w38 w39 w40 w41 w42 w43 w44 w45 w46 w47 w48 w49 w50 w51 w52 w53 w54 w55 w56 w57 w58 w59 _ _ hr hP hD hS ls (lv_sub hl [1, 2, 3, 0] rfl)
  exact llp_L_law_18 FU i0 eb_winningAct g_width g_height g_size g_all g_notFirstColumn g_notLastColumn row_law row_latest row_opener row_blackThen row_whiteThen bl wh ac t_made ch_target ch_chased hrow_law hrow_latest hrow_opener hrow_blackThen hrow_whiteThen hbl hwh hac fi_target fi_attacked fi_decidingAct mo_wide mo_high mo_law mo_acts mo_newBlack mo_newWhite mo_taken mo_triesMany mo_isSpent mo_found a_neighbours a_act a_blackAt a_whiteAt a_moveAt a_takenBlack a_takenWhite a_chaseBlack a_chaseWhite a_aheadBlack a_aheadWhite a_hasAhead a_breathsLeft a_laidBlack a_laidWhite a_answersLeft a_firstAnswer a_answering a_next _ _ hr hP hD hS ls (lv_sub hl [0, 1, 2, 3] rfl)
