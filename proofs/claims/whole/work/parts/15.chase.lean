def f_X0_targetGroup (n_row : Nat) (ch_target : Int32) (ch_chased : Int32) (g_width : Int32) (g_all : Int64) (g_notFirstColumn : Int64) (g_notLastColumn : Int64) (row_latest : Int32) (bl : Nat → Int64) (wh : Nat → Int64)  : Option (Int64) :=
  (f_X4_stonesOf n_row row_latest bl wh ch_chased).bind fun q1 =>
  (f_X2_spread g_width g_all g_notFirstColumn g_notLastColumn (jshl (1 : Int64) ch_target) q1).bind fun q2 =>
  some (q2)

abbrev rm_X0_targetGroup : Room := { frames := 2, cells := 0, slots := 0, locals := 53 }
set_option maxHeartbeats 4000000 in
set_option maxRecDepth 100000 in
theorem c_X0_targetGroup (l : Launch) (dC : Nat → ClassId) (dI : Nat → Nat → Nat) (h_ch h_g h_row h_bl h_wh h_ac h_t : Nat) (c_bl c_wh c_ac : ClassId) (n_row : Nat) (ch_target ch_chased g_width g_height g_size : Int32) (g_all g_notFirstColumn g_notLastColumn : Int64) (row_law row_latest row_opener : Int32) (row_blackThen row_whiteThen : Int64) (bl wh : Nat → Int64) (ac : Nat → Int32) (t_made : Int32)  (q : Int64) (hr : f_X0_targetGroup n_row ch_target ch_chased g_width g_all g_notFirstColumn g_notLastColumn row_latest bl wh  = some q) : Met l yX0_targetGroup wsX0_targetGroup rm_X0_targetGroup (PrP (dC, dI) (wd_X0 h_ch h_g h_row h_bl h_wh h_ac h_t c_bl c_wh c_ac n_row ch_target ch_chased g_width g_height g_size g_all g_notFirstColumn g_notLastColumn row_law row_latest row_opener row_blackThen row_whiteThen bl wh ac t_made) (td_X0 c_bl c_wh c_ac) [.ref h_ch]) (vp_Sl (fun x => x = q)) 0 0 (fun _ => False) := by
  refine mkP_l (cc := cX0_targetGroup) (nL := 1) (by decide) rfl (Nat.le_of_ble_eq_true rfl) ?_
  intro p e R s m args below meth c H Q ls hRf hRl S hN hP hK hl kret
  have hl : lv_has ls 1 [(0, .ref h_ch)] := hl
  obtain ⟨hx, hb, hml, hown, hts⟩ := S
  have hown : s.vm.findClass RX0 = some m.cls := hown
  have S : CallFix p m c cX0_targetGroup 1 s args wsX0_targetGroup RX0 := ⟨hx, hb, hml, hown, hts⟩
  have huX0 : ∀ w ∈ u_ws RX0 TX0 5, w ∈ wsX0_targetGroup := by decide +kernel
  have hf9 := hts (.fieldLink RX0 9 "EyeBoard$Chase" "grid" "LEyeBoard$Grid;") (by decide +kernel)
  have hf23 := hts (.fieldLink RX0 23 "EyeBoard$Chase" "target" "I") (by decide +kernel)
  have hf15 := hts (.fieldLink RX0 15 "EyeBoard$Chase" "row" "LEyeBoard$Row;") (by decide +kernel)
  have hf33 := hts (.fieldLink RX0 33 "EyeBoard$Chase" "chased" "I") (by decide +kernel)
  unfold f_X0_targetGroup at hr
  refine lv_aload_n hx hb dX0_targetGroup_0 rfl (lv_at hl 0 rfl) ?_
  refine va_get (D := (dC, dI)) (ci := 0) (v := .ref h_g) (C := RX0) (T := TX0) (N := 5) hx hb hts huX0 hown hK hP 0 rfl rfl 0 (by decide) hf9 (fun _ h9 => h9) rfl dX0_targetGroup_1 ?_
  refine lv_lconst (v := (1 : Int64)) hx hb dX0_targetGroup_4 (by decide) ?_
  refine lv_aload_n hx hb dX0_targetGroup_5 rfl (lv_at hl 0 rfl) ?_
  refine va_get (D := (dC, dI)) (ci := 0) (v := .int ch_target) (C := RX0) (T := TX0) (N := 5) hx hb hts huX0 hown hK hP 0 rfl rfl 3 (by decide) hf23 (fun _ h9 => h9) rfl dX0_targetGroup_6 ?_
  refine lv_lshl (v := jshl (1 : Int64) ch_target) hx hb dX0_targetGroup_9 rfl ?_
  refine lv_aload_n hx hb dX0_targetGroup_10 rfl (lv_at hl 0 rfl) ?_
  refine va_get (D := (dC, dI)) (ci := 0) (v := .ref h_row) (C := RX0) (T := TX0) (N := 5) hx hb hts huX0 hown hK hP 0 rfl rfl 1 (by decide) hf15 (fun _ h9 => h9) rfl dX0_targetGroup_11 ?_
  refine lv_aload_n hx hb dX0_targetGroup_14 rfl (lv_at hl 0 rfl) ?_
  refine va_get (D := (dC, dI)) (ci := 0) (v := .int ch_chased) (C := RX0) (T := TX0) (N := 5) hx hb hts huX0 hown hK hP 0 rfl rfl 4 (by decide) hf33 (fun _ h9 => h9) rfl dX0_targetGroup_15 ?_
  obtain ⟨q1, hq1, hr⟩ := bd_use hr
  refine pcV_l (As := [.int ch_chased]) (rest := [.long (jshl (1 : Int64) ch_target), .ref h_g]) S (c_X4_stonesOf l dC dI h_row h_g h_bl h_wh h_ac c_bl c_wh c_ac n_row row_law row_latest row_opener row_blackThen row_whiteThen g_width g_height g_size g_all g_notFirstColumn g_notLastColumn bl wh ac ch_chased q1 hq1) (cwV 1 hts gX0_targetGroup_X4_stonesOf rfl rfl rfl (by decide +kernel) ⟨Nat.le_trans (m := rm_X0_targetGroup.frames) (by decide) hRf, Nat.le_trans (m := rm_X0_targetGroup.locals) (by decide) hRl⟩) hN hP hK ⟨Nat.zero_le _, Nat.zero_le _⟩ [2, 1, 3, 4, 5] rfl [0, 1, 2] rfl 2 4 rfl rfl rfl hl.1 rfl (Nat.le_of_ble_eq_true rfl) dX0_targetGroup_18 ?_
  obtain ⟨q2, hq2, hr⟩ := bd_use hr
  refine pcV_l (As := [.long (jshl (1 : Int64) ch_target), .long q1]) (rest := []) S (c_X2_spread l dC dI h_g g_width g_height g_size g_all g_notFirstColumn g_notLastColumn (jshl (1 : Int64) ch_target) q1 q2 hq2) (cwV 2 hts gX0_targetGroup_X2_spread rfl rfl rfl (by decide +kernel) ⟨Nat.le_trans (m := rm_X0_targetGroup.frames) (by decide) hRf, Nat.le_trans (m := rm_X0_targetGroup.locals) (by decide) hRl⟩) hN hP hK ⟨Nat.zero_le _, Nat.zero_le _⟩ [1] rfl [] rfl 1 2 rfl rfl rfl hl.1 rfl (Nat.le_of_ble_eq_true rfl) dX0_targetGroup_21 ?_
  obtain rfl := Option.some.inj hr
  exact kret _ _ dX0_targetGroup_24

def lp_X0_takingCrossings_36 (n_row : Nat) (g_width : Int32) (g_size : Int32) (g_all : Int64) (g_notFirstColumn : Int64) (g_notLastColumn : Int64) (row_latest : Int32) (bl : Nat → Int64) (wh : Nat → Int64) (q4 : Int64) : Nat → Int64 → Int32 → Option (Int64)
  | 0, _, _ => none
  | nF + 1, v5, v6 =>
    if g_size ≤ v6 then (
      some (v5)
    )
    else (
      (f_X2_partFrom g_width g_all g_notFirstColumn g_notLastColumn q4 v6).bind fun q8 =>
      (f_X2_beside g_width g_all g_notFirstColumn g_notLastColumn q8).bind fun q9 =>
      (f_X4_free n_row row_latest g_all bl wh).bind fun q10 =>
      nm (q9 &&& q10) fun x11 =>
      (f_J13_bitCount_95d88 x11).bind fun q12 =>
      if q12 = (1 : Int32) then (
        nm (v5 ||| x11) fun x15 =>
        nm (v6 + 1) fun x16 =>
        lp_X0_takingCrossings_36 n_row g_width g_size g_all g_notFirstColumn g_notLastColumn row_latest bl wh q4 nF x15 x16
      )
      else (
        nm (v6 + 1) fun x14 =>
        lp_X0_takingCrossings_36 n_row g_width g_size g_all g_notFirstColumn g_notLastColumn row_latest bl wh q4 nF v5 x14
      )
    )

def f_X0_takingCrossings (n_row : Nat) (ch_chased : Int32) (g_width : Int32) (g_size : Int32) (g_all : Int64) (g_notFirstColumn : Int64) (g_notLastColumn : Int64) (row_latest : Int32) (bl : Nat → Int64) (wh : Nat → Int64) (a0 : Int64) : Option (Int64) :=
  (f_X2_beside g_width g_all g_notFirstColumn g_notLastColumn a0).bind fun q1 =>
  (f_X6_other ch_chased).bind fun q2 =>
  (f_X4_stonesOf n_row row_latest bl wh q2).bind fun q3 =>
  (f_X2_spread g_width g_all g_notFirstColumn g_notLastColumn q1 q3).bind fun q4 =>
  lp_X0_takingCrossings_36 n_row g_width g_size g_all g_notFirstColumn g_notLastColumn row_latest bl wh q4 FU (0 : Int64) (0 : Int32)

abbrev rm_X0_takingCrossings : Room := { frames := 3, cells := 0, slots := 0, locals := 82 }
set_option maxHeartbeats 4000000 in
set_option maxRecDepth 100000 in
theorem c_X0_takingCrossings (l : Launch) (dC : Nat → ClassId) (dI : Nat → Nat → Nat) (h_ch h_g h_row h_bl h_wh h_ac h_t : Nat) (c_bl c_wh c_ac : ClassId) (n_row : Nat) (ch_target ch_chased g_width g_height g_size : Int32) (g_all g_notFirstColumn g_notLastColumn : Int64) (row_law row_latest row_opener : Int32) (row_blackThen row_whiteThen : Int64) (bl wh : Nat → Int64) (ac : Nat → Int32) (t_made : Int32) (a0 : Int64) (q : Int64) (hr : f_X0_takingCrossings n_row ch_chased g_width g_size g_all g_notFirstColumn g_notLastColumn row_latest bl wh a0 = some q) : Met l yX0_takingCrossings wsX0_takingCrossings rm_X0_takingCrossings (PrP (dC, dI) (wd_X0 h_ch h_g h_row h_bl h_wh h_ac h_t c_bl c_wh c_ac n_row ch_target ch_chased g_width g_height g_size g_all g_notFirstColumn g_notLastColumn row_law row_latest row_opener row_blackThen row_whiteThen bl wh ac t_made) (td_X0 c_bl c_wh c_ac) [.ref h_ch, .long a0]) (vp_Sl (fun x => x = q)) 0 0 (fun _ => False) := by
  refine mkP_l (cc := cX0_takingCrossings) (nL := 10) (by decide) rfl (Nat.le_of_ble_eq_true rfl) ?_
  intro p e R s m args below meth c H Q ls hRf hRl S hN hP hK hl kret
  have hl : lv_has ls 10 [(0, .ref h_ch), (1, .long a0)] := hl
  obtain ⟨hx, hb, hml, hown, hts⟩ := S
  have hown : s.vm.findClass RX0 = some m.cls := hown
  have S : CallFix p m c cX0_takingCrossings 10 s args wsX0_takingCrossings RX0 := ⟨hx, hb, hml, hown, hts⟩
  have huX0 : ∀ w ∈ u_ws RX0 TX0 5, w ∈ wsX0_takingCrossings := by decide +kernel
  have hf9 := hts (.fieldLink RX0 9 "EyeBoard$Chase" "grid" "LEyeBoard$Grid;") (by decide +kernel)
  have hf15 := hts (.fieldLink RX0 15 "EyeBoard$Chase" "row" "LEyeBoard$Row;") (by decide +kernel)
  have hf33 := hts (.fieldLink RX0 33 "EyeBoard$Chase" "chased" "I") (by decide +kernel)
  have hstX6_other := hts (.static yX6_other) (by decide +kernel)
  have hiniX6_other := hts (.initialized RX6) (by decide +kernel)
  have huX2 : ∀ w ∈ u_ws RX2 TX2 6, w ∈ wsX0_takingCrossings := by decide +kernel
  have hf78 := hts (.fieldLink RX0 78 "EyeBoard$Grid" "size" "I") (by decide +kernel)
  unfold f_X0_takingCrossings at hr
  refine lv_aload_n hx hb dX0_takingCrossings_0 rfl (lv_at hl 0 rfl) ?_
  refine va_get (D := (dC, dI)) (ci := 0) (v := .ref h_g) (C := RX0) (T := TX0) (N := 5) hx hb hts huX0 hown hK hP 0 rfl rfl 0 (by decide) hf9 (fun _ h9 => h9) rfl dX0_takingCrossings_1 ?_
  refine lv_aload_n hx hb dX0_takingCrossings_4 rfl (lv_at hl 0 rfl) ?_
  refine va_get (D := (dC, dI)) (ci := 0) (v := .ref h_g) (C := RX0) (T := TX0) (N := 5) hx hb hts huX0 hown hK hP 0 rfl rfl 0 (by decide) hf9 (fun _ h9 => h9) rfl dX0_takingCrossings_5 ?_
  refine lv_lload_n hx hb dX0_takingCrossings_8 rfl (lv_at hl 1 rfl) ?_
  obtain ⟨q1, hq1, hr⟩ := bd_use hr
  refine pcV_l (As := [.long a0]) (rest := [.ref h_g]) S (c_X2_beside l dC dI h_g g_width g_height g_size g_all g_notFirstColumn g_notLastColumn a0 q1 hq1) (cwV 1 hts gX0_takingCrossings_X2_beside rfl rfl rfl (by decide +kernel) ⟨Nat.le_trans (m := rm_X0_takingCrossings.frames) (by decide) hRf, Nat.le_trans (m := rm_X0_takingCrossings.locals) (by decide) hRl⟩) hN hP hK ⟨Nat.zero_le _, Nat.zero_le _⟩ [1] rfl [] rfl 1 2 rfl rfl rfl hl.1 rfl (Nat.le_of_ble_eq_true rfl) dX0_takingCrossings_9 ?_
  refine lv_aload_n hx hb dX0_takingCrossings_12 rfl (lv_at hl 0 rfl) ?_
  refine va_get (D := (dC, dI)) (ci := 0) (v := .ref h_row) (C := RX0) (T := TX0) (N := 5) hx hb hts huX0 hown hK hP 0 rfl rfl 1 (by decide) hf15 (fun _ h9 => h9) rfl dX0_takingCrossings_13 ?_
  refine lv_aload_n hx hb dX0_takingCrossings_16 rfl (lv_at hl 0 rfl) ?_
  refine va_get (D := (dC, dI)) (ci := 0) (v := .int ch_chased) (C := RX0) (T := TX0) (N := 5) hx hb hts huX0 hown hK hP 0 rfl rfl 4 (by decide) hf33 (fun _ h9 => h9) rfl dX0_takingCrossings_17 ?_
  obtain ⟨q2, hq2, hr⟩ := bd_use hr
  refine pcN_i (As := [.int ch_chased]) (rest := [.ref h_row, .long q1, .ref h_g]) S (c_X6_other l dC dI ch_chased q2 hq2) ⟨va_cnB 1 hts gX0_takingCrossings_X6_other_n45 rfl rfl rfl hN.2.1 hiniX6_other (by decide +kernel) ⟨Nat.le_trans (m := rm_X0_takingCrossings.frames) (by decide) hRf, Nat.le_trans (m := rm_X0_takingCrossings.locals) (by decide) hRl⟩, hstX6_other, trivial⟩ hN hP hK ⟨Nat.zero_le _, Nat.zero_le _⟩ rfl hl.1 rfl (Nat.le_of_ble_eq_true rfl) dX0_takingCrossings_20 ?_
  obtain ⟨q3, hq3, hr⟩ := bd_use hr
  refine pcV_l (As := [.int q2]) (rest := [.long q1, .ref h_g]) S (c_X4_stonesOf l dC dI h_row h_g h_bl h_wh h_ac c_bl c_wh c_ac n_row row_law row_latest row_opener row_blackThen row_whiteThen g_width g_height g_size g_all g_notFirstColumn g_notLastColumn bl wh ac q2 q3 hq3) (cwV 1 hts gX0_takingCrossings_X4_stonesOf rfl rfl rfl (by decide +kernel) ⟨Nat.le_trans (m := rm_X0_takingCrossings.frames) (by decide) hRf, Nat.le_trans (m := rm_X0_takingCrossings.locals) (by decide) hRl⟩) hN hP hK ⟨Nat.zero_le _, Nat.zero_le _⟩ [2, 1, 3, 4, 5] rfl [0, 1, 2] rfl 2 4 rfl rfl rfl hl.1 rfl (Nat.le_of_ble_eq_true rfl) dX0_takingCrossings_23 ?_
  obtain ⟨q4, hq4, hr⟩ := bd_use hr
  refine pcV_l (As := [.long q1, .long q3]) (rest := []) S (c_X2_spread l dC dI h_g g_width g_height g_size g_all g_notFirstColumn g_notLastColumn q1 q3 q4 hq4) (cwV 2 hts gX0_takingCrossings_X2_spread rfl rfl rfl (by decide +kernel) ⟨Nat.le_trans (m := rm_X0_takingCrossings.frames) (by decide) hRf, Nat.le_trans (m := rm_X0_takingCrossings.locals) (by decide) hRl⟩) hN hP hK ⟨Nat.zero_le _, Nat.zero_le _⟩ [1] rfl [] rfl 1 2 rfl rfl rfl hl.1 rfl (Nat.le_of_ble_eq_true rfl) dX0_takingCrossings_26 ?_
  refine lv_lstore_n (lv' := [(3, .long q4), (0, .ref h_ch), (1, .long a0)]) hx hb dX0_takingCrossings_29 rfl hl (by decide) rfl (fun ls hl => ?_)
  refine lv_lconst (v := (0 : Int64)) hx hb dX0_takingCrossings_30 (by decide) ?_
  refine lv_lstore (lv' := [(5, .long (0 : Int64)), (3, .long q4), (0, .ref h_ch), (1, .long a0)]) hx hb dX0_takingCrossings_31 hl (by decide) rfl (fun ls hl => ?_)
  refine lv_iconst (v := (0 : Int32)) hx hb dX0_takingCrossings_33 (by decide) ?_
  refine lv_istore (lv' := [(7, .int (0 : Int32)), (5, .long (0 : Int64)), (3, .long q4), (0, .ref h_ch), (1, .long a0)]) hx hb dX0_takingCrossings_34 hl (by decide) rfl (fun ls hl => ?_)
  have llp_X0_takingCrossings_36 : ∀ (nF : Nat) (v5 : Int64) (v6 : Int32) , lp_X0_takingCrossings_36 n_row g_width g_size g_all g_notFirstColumn g_notLastColumn row_latest bl wh q4 nF v5 v6 = some q → ∀ (ls : Array Slot), lv_has ls 10 [(0, .ref h_ch), (3, .long q4), (5, .long v5), (7, .int v6)] → W p l e R s m args below meth c H [] 0 0 Q (F0 m 36 ls []) := by
    intro nF
    induction nF with
    | zero => intro v5 v6 hr; exact absurd hr (by simp [lp_X0_takingCrossings_36])
    | succ nF ih =>
      intro v5 v6 hr ls hl
      rw [lp_X0_takingCrossings_36] at hr
      refine lv_iload hx hb dX0_takingCrossings_36 (lv_at hl 3 rfl) ?_
      refine lv_aload_n hx hb dX0_takingCrossings_38 rfl (lv_at hl 0 rfl) ?_
      refine va_get (D := (dC, dI)) (ci := 0) (v := .ref h_g) (C := RX0) (T := TX0) (N := 5) hx hb hts huX0 hown hK hP 0 rfl rfl 0 (by decide) hf9 (fun _ h9 => h9) rfl dX0_takingCrossings_39 ?_
      refine va_get (D := (dC, dI)) (ci := 2) (v := .int g_size) (C := RX2) (T := TX2) (N := 6) hx hb hts huX2 hown hK hP 1 rfl rfl 2 (by decide) hf78 (fun _ h9 => h9) rfl dX0_takingCrossings_42 ?_
      refine lv_icmp_ge (tgt := 97) hx hb dX0_takingCrossings_45 (by decide) (fun c7 => ?_) (fun c7 => ?_)
      · have hr := ite_p hr c7
        refine lv_lload hx hb dX0_takingCrossings_97 (lv_at hl 2 rfl) ?_
        obtain rfl := Option.some.inj hr
        exact kret _ _ dX0_takingCrossings_99
      · have hr := ite_n hr c7
        refine lv_aload_n hx hb dX0_takingCrossings_48 rfl (lv_at hl 0 rfl) ?_
        refine va_get (D := (dC, dI)) (ci := 0) (v := .ref h_g) (C := RX0) (T := TX0) (N := 5) hx hb hts huX0 hown hK hP 0 rfl rfl 0 (by decide) hf9 (fun _ h9 => h9) rfl dX0_takingCrossings_49 ?_
        refine lv_aload_n hx hb dX0_takingCrossings_52 rfl (lv_at hl 0 rfl) ?_
        refine va_get (D := (dC, dI)) (ci := 0) (v := .ref h_g) (C := RX0) (T := TX0) (N := 5) hx hb hts huX0 hown hK hP 0 rfl rfl 0 (by decide) hf9 (fun _ h9 => h9) rfl dX0_takingCrossings_53 ?_
        refine lv_lload_n hx hb dX0_takingCrossings_56 rfl (lv_at hl 1 rfl) ?_
        refine lv_iload hx hb dX0_takingCrossings_57 (lv_at hl 3 rfl) ?_
        obtain ⟨q8, hq8, hr⟩ := bd_use hr
        refine pcV_l (As := [.long q4, .int v6]) (rest := [.ref h_g]) S (c_X2_partFrom l dC dI h_g g_width g_height g_size g_all g_notFirstColumn g_notLastColumn q4 v6 q8 hq8) (cwV 2 hts gX0_takingCrossings_X2_partFrom rfl rfl rfl (by decide +kernel) ⟨Nat.le_trans (m := rm_X0_takingCrossings.frames) (by decide) hRf, Nat.le_trans (m := rm_X0_takingCrossings.locals) (by decide) hRl⟩) hN hP hK ⟨Nat.zero_le _, Nat.zero_le _⟩ [1] rfl [] rfl 1 2 rfl rfl rfl hl.1 rfl (Nat.le_of_ble_eq_true rfl) dX0_takingCrossings_59 ?_
        obtain ⟨q9, hq9, hr⟩ := bd_use hr
        refine pcV_l (As := [.long q8]) (rest := []) S (c_X2_beside l dC dI h_g g_width g_height g_size g_all g_notFirstColumn g_notLastColumn q8 q9 hq9) (cwV 1 hts gX0_takingCrossings_X2_beside rfl rfl rfl (by decide +kernel) ⟨Nat.le_trans (m := rm_X0_takingCrossings.frames) (by decide) hRf, Nat.le_trans (m := rm_X0_takingCrossings.locals) (by decide) hRl⟩) hN hP hK ⟨Nat.zero_le _, Nat.zero_le _⟩ [1] rfl [] rfl 1 2 rfl rfl rfl hl.1 rfl (Nat.le_of_ble_eq_true rfl) dX0_takingCrossings_62 ?_
        refine lv_aload_n hx hb dX0_takingCrossings_65 rfl (lv_at hl 0 rfl) ?_
        refine va_get (D := (dC, dI)) (ci := 0) (v := .ref h_row) (C := RX0) (T := TX0) (N := 5) hx hb hts huX0 hown hK hP 0 rfl rfl 1 (by decide) hf15 (fun _ h9 => h9) rfl dX0_takingCrossings_66 ?_
        obtain ⟨q10, hq10, hr⟩ := bd_use hr
        refine pcV_l (As := []) (rest := [.long q9]) S (c_X4_free l dC dI h_row h_g h_bl h_wh h_ac c_bl c_wh c_ac n_row row_law row_latest row_opener row_blackThen row_whiteThen g_width g_height g_size g_all g_notFirstColumn g_notLastColumn bl wh ac q10 hq10) (cwV 0 hts gX0_takingCrossings_X4_free rfl rfl rfl (by decide +kernel) ⟨Nat.le_trans (m := rm_X0_takingCrossings.frames) (by decide) hRf, Nat.le_trans (m := rm_X0_takingCrossings.locals) (by decide) hRl⟩) hN hP hK ⟨Nat.zero_le _, Nat.zero_le _⟩ [2, 1, 3, 4, 5] rfl [0, 1, 2] rfl 2 4 rfl rfl rfl hl.1 rfl (Nat.le_of_ble_eq_true rfl) dX0_takingCrossings_69 ?_
        refine lv_land hx hb dX0_takingCrossings_72 ?_
        refine lv_topl (fun x11 ex11 => ?_)
        have hr := nm_use hr ex11
        refine lv_lstore (lv' := [(8, .long x11), (0, .ref h_ch), (3, .long q4), (5, .long v5), (7, .int v6)]) hx hb dX0_takingCrossings_73 hl (by decide) rfl (fun ls hl => ?_)
        refine lv_lload hx hb dX0_takingCrossings_75 (lv_at hl 0 rfl) ?_
        obtain ⟨q12, hq12, hr⟩ := bd_use hr
        refine pcS_i (As := [.long x11]) (rest := []) S (c_J13_bitCount_95d88 l dC dI x11 q12 hq12) (va_cwS 1 hts gX0_takingCrossings_J13_bitCount_95d88 rfl rfl rfl (by decide +kernel) ⟨Nat.le_trans (m := rm_X0_takingCrossings.frames) (by decide) hRf, Nat.le_trans (m := rm_X0_takingCrossings.locals) (by decide) hRl⟩) hN hP hK ⟨Nat.zero_le _, Nat.zero_le _⟩ rfl hl.1 rfl (Nat.le_of_ble_eq_true rfl) dX0_takingCrossings_77 ?_
        refine lv_iconst (v := (1 : Int32)) hx hb dX0_takingCrossings_80 (by decide) ?_
        refine lv_icmp_ne (tgt := 91) hx hb dX0_takingCrossings_81 (by decide) (fun c13 => ?_) (fun c13 => ?_)
        · have hr := ite_n hr c13
          obtain ⟨x14, ex14, hr⟩ := nm_ex hr
          refine lv_iinc (v := x14) (lv' := [(7, .int x14), (8, .long x11), (0, .ref h_ch), (3, .long q4), (5, .long v5)]) hx hb dX0_takingCrossings_91 hl (k := 4) rfl (by rw [ex14]; rfl) (by decide) rfl (fun ls hl => ?_)
          refine lv_goto (tgt := 36) hx hb dX0_takingCrossings_94 (by decide) ?_
          exact ih v5 x14 hr ls (lv_sub hl [2, 3, 4, 0] rfl)
        · have hr := ite_p hr c13
          refine lv_lload hx hb dX0_takingCrossings_84 (lv_at hl 3 rfl) ?_
          refine lv_lload hx hb dX0_takingCrossings_86 (lv_at hl 0 rfl) ?_
          refine lv_lor hx hb dX0_takingCrossings_88 ?_
          refine lv_topl (fun x15 ex15 => ?_)
          have hr := nm_use hr ex15
          refine lv_lstore (lv' := [(5, .long x15), (8, .long x11), (0, .ref h_ch), (3, .long q4), (7, .int v6)]) hx hb dX0_takingCrossings_89 hl (by decide) rfl (fun ls hl => ?_)
          obtain ⟨x16, ex16, hr⟩ := nm_ex hr
          refine lv_iinc (v := x16) (lv' := [(7, .int x16), (5, .long x15), (8, .long x11), (0, .ref h_ch), (3, .long q4)]) hx hb dX0_takingCrossings_91 hl (k := 4) rfl (by rw [ex16]; rfl) (by decide) rfl (fun ls hl => ?_)
          refine lv_goto (tgt := 36) hx hb dX0_takingCrossings_94 (by decide) ?_
          exact ih x15 x16 hr ls (lv_sub hl [3, 4, 1, 0] rfl)
  exact llp_X0_takingCrossings_36 FU (0 : Int64) (0 : Int32) hr ls (lv_sub hl [3, 2, 1, 0] rfl)

def lp_X0_caughtIn_52 (n_row : Nat) (ch_target : Int32) (ch_chased : Int32) (g_width : Int32) (g_size : Int32) (g_all : Int64) (g_notFirstColumn : Int64) (g_notLastColumn : Int64) (row_law : Int32) (row_opener : Int32) (a0 : Int32) (rc : Nat → Int32 → Int32 → Int32 → Int32 → Int64 → Int64 → Int64 → Int32 → Int32 → Int32 → Int64 → Int64 → (Nat → Int64) → (Nat → Int64) → (Nat → Int32) → Int32 → Int32 → Option (Int32 × Int32 × Int64 × Int64 × (Nat → Int64) × (Nat → Int64) × (Nat → Int32) × Int32)) (x4 : Int64) (q5 : Int32) : Nat → Int32 → Int32 → Int32 → Int64 → Int64 → (Nat → Int64) → (Nat → Int64) → (Nat → Int32) → Int32 → Option (Int32 × Int32 × Int64 × Int64 × (Nat → Int64) × (Nat → Int64) × (Nat → Int32) × Int32)
  | 0, _, _, _, _, _, _, _, _, _ => none
  | nF + 1, v9, v10, w11, w12, w13, w14, w15, w16, w17 =>
    if g_size ≤ v10 then (
      some (v9, w11, w12, w13, w14, w15, w16, w17)
    )
    else (
      if v9 = 0 then (
        (f_X2_holds x4 v10).bind fun q20 =>
        if q20 = 0 then (
          nm (v10 + 1) fun x22 =>
          lp_X0_caughtIn_52 n_row ch_target ch_chased g_width g_size g_all g_notFirstColumn g_notLastColumn row_law row_opener a0 rc x4 q5 nF v9 x22 w11 w12 w13 w14 w15 w16 w17
        )
        else (
          (f_X4_add n_row row_law w11 row_opener w12 w13 g_width g_size g_all g_notFirstColumn g_notLastColumn w14 w15 w16 v10).bind fun q23 =>
          if q23.1 = 0 then (
            nm (v10 + 1) fun x41 =>
            lp_X0_caughtIn_52 n_row ch_target ch_chased g_width g_size g_all g_notFirstColumn g_notLastColumn row_law row_opener a0 rc x4 q5 nF v9 x41 q23.2.1 q23.2.2.1 q23.2.2.2.1 q23.2.2.2.2.1 q23.2.2.2.2.2.1 q23.2.2.2.2.2.2 w17
          )
          else (
            (f_X5_oneMore w17).bind fun q25 =>
            nm (fun (v26 : Int32) (w27 : Int32) (w28 : Int64) (w29 : Int64) (w30 : Nat → Int64) (w31 : Nat → Int64) (w32 : Nat → Int32) (w33 : Int32) =>
            (f_X4_takeBack w27).bind fun q35 =>
            nm (v10 + 1) fun x36 =>
            lp_X0_caughtIn_52 n_row ch_target ch_chased g_width g_size g_all g_notFirstColumn g_notLastColumn row_law row_opener a0 rc x4 q5 nF v26 x36 q35 w28 w29 w30 w31 w32 w33
            ) fun K34 =>
            if q25.1 = 0 then (
              K34 (-5 : Int32) q23.2.1 q23.2.2.1 q23.2.2.2.1 q23.2.2.2.2.1 q23.2.2.2.2.2.1 q23.2.2.2.2.2.2 q25.2
            )
            else (
              if q5 = (1 : Int32) then (
                K34 (1 : Int32) q23.2.1 q23.2.2.1 q23.2.2.2.1 q23.2.2.2.2.1 q23.2.2.2.2.2.1 q23.2.2.2.2.2.2 q25.2
              )
              else (
                (rc n_row ch_target ch_chased g_width g_size g_all g_notFirstColumn g_notLastColumn row_law q23.2.1 row_opener q23.2.2.1 q23.2.2.2.1 q23.2.2.2.2.1 q23.2.2.2.2.2.1 q23.2.2.2.2.2.2 q25.2 a0).bind fun q39 =>
                nm (q39.1) fun x40 =>
                K34 x40 q39.2.1 q39.2.2.1 q39.2.2.2.1 q39.2.2.2.2.1 q39.2.2.2.2.2.1 q39.2.2.2.2.2.2.1 q39.2.2.2.2.2.2.2
              )
            )
          )
        )
      )
      else (
        some (v9, w11, w12, w13, w14, w15, w16, w17)
      )
    )

def f_X0_caughtIn (rc : Nat → Int32 → Int32 → Int32 → Int32 → Int64 → Int64 → Int64 → Int32 → Int32 → Int32 → Int64 → Int64 → (Nat → Int64) → (Nat → Int64) → (Nat → Int32) → Int32 → Int32 → Option (Int32 × Int32 × Int64 × Int64 × (Nat → Int64) × (Nat → Int64) × (Nat → Int32) × Int32)) (n_row : Nat) (ch_target : Int32) (ch_chased : Int32) (g_width : Int32) (g_size : Int32) (g_all : Int64) (g_notFirstColumn : Int64) (g_notLastColumn : Int64) (row_law : Int32) (row_latest : Int32) (row_opener : Int32) (row_blackThen : Int64) (row_whiteThen : Int64) (bl : Nat → Int64) (wh : Nat → Int64) (ac : Nat → Int32) (t_made : Int32) (a0 : Int32) : Option (Int32 × Int32 × Int64 × Int64 × (Nat → Int64) × (Nat → Int64) × (Nat → Int32) × Int32) :=
  (f_X0_targetGroup n_row ch_target ch_chased g_width g_all g_notFirstColumn g_notLastColumn row_latest bl wh).bind fun q1 =>
  (f_X2_beside g_width g_all g_notFirstColumn g_notLastColumn q1).bind fun q2 =>
  (f_X4_free n_row row_latest g_all bl wh).bind fun q3 =>
  nm (q2 &&& q3) fun x4 =>
  (f_J13_bitCount_95d88 x4).bind fun q5 =>
  if q5 < (1 : Int32) then (
    some ((0 : Int32), row_latest, row_blackThen, row_whiteThen, bl, wh, ac, t_made)
  )
  else (
    if (2 : Int32) < q5 then (
      some ((0 : Int32), row_latest, row_blackThen, row_whiteThen, bl, wh, ac, t_made)
    )
    else (
      if q5 ≤ a0 then (
        lp_X0_caughtIn_52 n_row ch_target ch_chased g_width g_size g_all g_notFirstColumn g_notLastColumn row_law row_opener a0 rc x4 q5 FU (0 : Int32) (0 : Int32) row_latest row_blackThen row_whiteThen bl wh ac t_made
      )
      else (
        some ((0 : Int32), row_latest, row_blackThen, row_whiteThen, bl, wh, ac, t_made)
      )
    )
  )

abbrev rm_X0_caughtIn : Room := { frames := 4, cells := 0, slots := 0, locals := 104 }
set_option maxHeartbeats 4000000 in
set_option maxRecDepth 100000 in
theorem c_X0_caughtIn (l : Launch) (dC : Nat → ClassId) (dI : Nat → Nat → Nat) (rc : Nat → Int32 → Int32 → Int32 → Int32 → Int64 → Int64 → Int64 → Int32 → Int32 → Int32 → Int64 → Int64 → (Nat → Int64) → (Nat → Int64) → (Nat → Int32) → Int32 → Int32 → Option (Int32 × Int32 × Int64 × Int64 × (Nat → Int64) × (Nat → Int64) × (Nat → Int32) × Int32)) (rm rmr : Room) (hfr : rm_X0_caughtIn.frames ≤ rm.frames) (hlo : rm_X0_caughtIn.locals ≤ rm.locals) (hrf : rmr.frames + 1 ≤ rm.frames) (hrl : 8 + (12 + 11) + rmr.locals ≤ rm.locals) (hrc : rmr.cells = 0) (hrs : rmr.slots = 0) (hrec : ∀ (h_ch h_g h_row h_bl h_wh h_ac h_t : Nat) (c_bl c_wh c_ac : ClassId) (n_row : Nat) (ch_target ch_chased g_width g_height g_size : Int32) (g_all g_notFirstColumn g_notLastColumn : Int64) (row_law row_latest row_opener : Int32) (row_blackThen row_whiteThen : Int64) (bl wh : Nat → Int64) (ac : Nat → Int32) (t_made : Int32) (sz : Nat) (a0 : Int32) (q : Int32 × Int32 × Int64 × Int64 × (Nat → Int64) × (Nat → Int64) × (Nat → Int32) × Int32), rc n_row ch_target ch_chased g_width g_size g_all g_notFirstColumn g_notLastColumn row_law row_latest row_opener row_blackThen row_whiteThen bl wh ac t_made a0 = some q → Met l yX0_answersFail wsX0_answersFail rmr (PrI (dC, dI) (wd_X0 h_ch h_g h_row h_bl h_wh h_ac h_t c_bl c_wh c_ac n_row ch_target ch_chased g_width g_height g_size g_all g_notFirstColumn g_notLastColumn row_law row_latest row_opener row_blackThen row_whiteThen bl wh ac t_made) (td_X0 c_bl c_wh c_ac) sz [.ref h_ch, .int a0]) (QIi (dC, dI) (wd_X0 h_ch h_g h_row h_bl h_wh h_ac h_t c_bl c_wh c_ac n_row ch_target ch_chased g_width g_height g_size g_all g_notFirstColumn g_notLastColumn row_law row_latest row_opener row_blackThen row_whiteThen bl wh ac t_made) (td_X0 c_bl c_wh c_ac) sz q.1 (wd_X0 h_ch h_g h_row h_bl h_wh h_ac h_t c_bl c_wh c_ac n_row ch_target ch_chased g_width g_height g_size g_all g_notFirstColumn g_notLastColumn row_law q.2.1 row_opener q.2.2.1 q.2.2.2.1 q.2.2.2.2.1 q.2.2.2.2.2.1 q.2.2.2.2.2.2.1 q.2.2.2.2.2.2.2)) 0 0 (va_A (wd_X0 h_ch h_g h_row h_bl h_wh h_ac h_t c_bl c_wh c_ac n_row ch_target ch_chased g_width g_height g_size g_all g_notFirstColumn g_notLastColumn row_law row_latest row_opener row_blackThen row_whiteThen bl wh ac t_made) sz)) (h_ch h_g h_row h_bl h_wh h_ac h_t : Nat) (c_bl c_wh c_ac : ClassId) (n_row : Nat) (ch_target ch_chased g_width g_height g_size : Int32) (g_all g_notFirstColumn g_notLastColumn : Int64) (row_law row_latest row_opener : Int32) (row_blackThen row_whiteThen : Int64) (bl wh : Nat → Int64) (ac : Nat → Int32) (t_made : Int32) (sz : Nat) (a0 : Int32) (q : Int32 × Int32 × Int64 × Int64 × (Nat → Int64) × (Nat → Int64) × (Nat → Int32) × Int32) (hr : f_X0_caughtIn rc n_row ch_target ch_chased g_width g_size g_all g_notFirstColumn g_notLastColumn row_law row_latest row_opener row_blackThen row_whiteThen bl wh ac t_made a0 = some q) : Met l yX0_caughtIn wsX0_caughtIn rm (PrI (dC, dI) (wd_X0 h_ch h_g h_row h_bl h_wh h_ac h_t c_bl c_wh c_ac n_row ch_target ch_chased g_width g_height g_size g_all g_notFirstColumn g_notLastColumn row_law row_latest row_opener row_blackThen row_whiteThen bl wh ac t_made) (td_X0 c_bl c_wh c_ac) sz [.ref h_ch, .int a0]) (QIi (dC, dI) (wd_X0 h_ch h_g h_row h_bl h_wh h_ac h_t c_bl c_wh c_ac n_row ch_target ch_chased g_width g_height g_size g_all g_notFirstColumn g_notLastColumn row_law row_latest row_opener row_blackThen row_whiteThen bl wh ac t_made) (td_X0 c_bl c_wh c_ac) sz q.1 (wd_X0 h_ch h_g h_row h_bl h_wh h_ac h_t c_bl c_wh c_ac n_row ch_target ch_chased g_width g_height g_size g_all g_notFirstColumn g_notLastColumn row_law q.2.1 row_opener q.2.2.1 q.2.2.2.1 q.2.2.2.2.1 q.2.2.2.2.2.1 q.2.2.2.2.2.2.1 q.2.2.2.2.2.2.2)) 0 0 (va_A (wd_X0 h_ch h_g h_row h_bl h_wh h_ac h_t c_bl c_wh c_ac n_row ch_target ch_chased g_width g_height g_size g_all g_notFirstColumn g_notLastColumn row_law row_latest row_opener row_blackThen row_whiteThen bl wh ac t_made) sz) := by
  refine mkI_i (cc := cX0_caughtIn) (nL := 7) (by decide) rfl (Nat.le_of_ble_eq_true rfl) ?_
  intro p e R s m args below meth c H0 H locs A Q ls hRf hRl S hN hP hK hD hA hS hl kret
  have hl : lv_has ls 7 [(0, .ref h_ch), (1, .int a0)] := hl
  obtain ⟨hx, hb, hml, hown, hts⟩ := S
  have hown : s.vm.findClass RX0 = some m.cls := hown
  have S : CallFix p m c cX0_caughtIn 7 s args wsX0_caughtIn RX0 := ⟨hx, hb, hml, hown, hts⟩
  have hRf0 := hRf
  have hRl0 := hRl
  have hRf : rm_X0_caughtIn.frames ≤ R.frames := Nat.le_trans hfr hRf
  have hRl : rm_X0_caughtIn.locals ≤ R.locals := Nat.le_trans hlo hRl
  have huX0 : ∀ w ∈ u_ws RX0 TX0 5, w ∈ wsX0_caughtIn := by decide +kernel
  have hf9 := hts (.fieldLink RX0 9 "EyeBoard$Chase" "grid" "LEyeBoard$Grid;") (by decide +kernel)
  have hf15 := hts (.fieldLink RX0 15 "EyeBoard$Chase" "row" "LEyeBoard$Row;") (by decide +kernel)
  have huX2 : ∀ w ∈ u_ws RX2 TX2 6, w ∈ wsX0_caughtIn := by decide +kernel
  have hf78 := hts (.fieldLink RX0 78 "EyeBoard$Grid" "size" "I") (by decide +kernel)
  have hf19 := hts (.fieldLink RX0 19 "EyeBoard$Chase" "tried" "LEyeBoard$Tries;") (by decide +kernel)
  unfold f_X0_caughtIn at hr
  refine lv_aload_n hx hb dX0_caughtIn_0 rfl (lv_at hl 0 rfl) ?_
  refine va_get (D := (dC, dI)) (ci := 0) (v := .ref h_g) (C := RX0) (T := TX0) (N := 5) hx hb hts huX0 hown hK hP 0 rfl rfl 0 (by decide) hf9 (fun _ h9 => h9) rfl dX0_caughtIn_1 ?_
  refine lv_aload_n hx hb dX0_caughtIn_4 rfl (lv_at hl 0 rfl) ?_
  obtain ⟨q1, hq1, hr⟩ := bd_use hr
  refine pcV_l (As := []) (rest := [.ref h_g]) S (c_X0_targetGroup l dC dI h_ch h_g h_row h_bl h_wh h_ac h_t c_bl c_wh c_ac n_row ch_target ch_chased g_width g_height g_size g_all g_notFirstColumn g_notLastColumn row_law row_latest row_opener row_blackThen row_whiteThen bl wh ac t_made q1 hq1) (cwV 0 hts gX0_caughtIn_X0_targetGroup rfl rfl rfl (by decide +kernel) ⟨Nat.le_trans (m := rm_X0_caughtIn.frames) (by decide) hRf, Nat.le_trans (m := rm_X0_caughtIn.locals) (by decide) hRl⟩) hN hP hK ⟨Nat.zero_le _, Nat.zero_le _⟩ [0, 1, 2, 3, 4, 5, 6] rfl [0, 1, 2] rfl 0 0 rfl rfl rfl hl.1 rfl (Nat.le_of_ble_eq_true rfl) dX0_caughtIn_5 ?_
  obtain ⟨q2, hq2, hr⟩ := bd_use hr
  refine pcV_l (As := [.long q1]) (rest := []) S (c_X2_beside l dC dI h_g g_width g_height g_size g_all g_notFirstColumn g_notLastColumn q1 q2 hq2) (cwV 1 hts gX0_caughtIn_X2_beside rfl rfl rfl (by decide +kernel) ⟨Nat.le_trans (m := rm_X0_caughtIn.frames) (by decide) hRf, Nat.le_trans (m := rm_X0_caughtIn.locals) (by decide) hRl⟩) hN hP hK ⟨Nat.zero_le _, Nat.zero_le _⟩ [1] rfl [] rfl 1 2 rfl rfl rfl hl.1 rfl (Nat.le_of_ble_eq_true rfl) dX0_caughtIn_8 ?_
  refine lv_aload_n hx hb dX0_caughtIn_11 rfl (lv_at hl 0 rfl) ?_
  refine va_get (D := (dC, dI)) (ci := 0) (v := .ref h_row) (C := RX0) (T := TX0) (N := 5) hx hb hts huX0 hown hK hP 0 rfl rfl 1 (by decide) hf15 (fun _ h9 => h9) rfl dX0_caughtIn_12 ?_
  obtain ⟨q3, hq3, hr⟩ := bd_use hr
  refine pcV_l (As := []) (rest := [.long q2]) S (c_X4_free l dC dI h_row h_g h_bl h_wh h_ac c_bl c_wh c_ac n_row row_law row_latest row_opener row_blackThen row_whiteThen g_width g_height g_size g_all g_notFirstColumn g_notLastColumn bl wh ac q3 hq3) (cwV 0 hts gX0_caughtIn_X4_free rfl rfl rfl (by decide +kernel) ⟨Nat.le_trans (m := rm_X0_caughtIn.frames) (by decide) hRf, Nat.le_trans (m := rm_X0_caughtIn.locals) (by decide) hRl⟩) hN hP hK ⟨Nat.zero_le _, Nat.zero_le _⟩ [2, 1, 3, 4, 5] rfl [0, 1, 2] rfl 2 4 rfl rfl rfl hl.1 rfl (Nat.le_of_ble_eq_true rfl) dX0_caughtIn_15 ?_
  refine lv_land hx hb dX0_caughtIn_18 ?_
  refine lv_topl (fun x4 ex4 => ?_)
  have hr := nm_use hr ex4
  refine lv_lstore_n (lv' := [(2, .long x4), (0, .ref h_ch), (1, .int a0)]) hx hb dX0_caughtIn_19 rfl hl (by decide) rfl (fun ls hl => ?_)
  refine lv_lload_n hx hb dX0_caughtIn_20 rfl (lv_at hl 0 rfl) ?_
  obtain ⟨q5, hq5, hr⟩ := bd_use hr
  refine pcS_i (As := [.long x4]) (rest := []) S (c_J13_bitCount_95d88 l dC dI x4 q5 hq5) (va_cwS 1 hts gX0_caughtIn_J13_bitCount_95d88 rfl rfl rfl (by decide +kernel) ⟨Nat.le_trans (m := rm_X0_caughtIn.frames) (by decide) hRf, Nat.le_trans (m := rm_X0_caughtIn.locals) (by decide) hRl⟩) hN hP hK ⟨Nat.zero_le _, Nat.zero_le _⟩ rfl hl.1 rfl (Nat.le_of_ble_eq_true rfl) dX0_caughtIn_21 ?_
  refine lv_istore (lv' := [(4, .int q5), (2, .long x4), (0, .ref h_ch), (1, .int a0)]) hx hb dX0_caughtIn_24 hl (by decide) rfl (fun ls hl => ?_)
  refine lv_iload hx hb dX0_caughtIn_26 (lv_at hl 0 rfl) ?_
  refine lv_iconst (v := (1 : Int32)) hx hb dX0_caughtIn_28 (by decide) ?_
  refine lv_icmp_lt (tgt := 44) hx hb dX0_caughtIn_29 (by decide) (fun c6 => ?_) (fun c6 => ?_)
  · have hr := ite_p hr c6
    refine lv_iconst (v := (0 : Int32)) hx hb dX0_caughtIn_44 (by decide) ?_
    obtain rfl := Option.some.inj hr
    exact kret _ _ _ _ dX0_caughtIn_45 hP hD hS
  · have hr := ite_n hr c6
    refine lv_iload hx hb dX0_caughtIn_32 (lv_at hl 0 rfl) ?_
    refine lv_iconst (v := (2 : Int32)) hx hb dX0_caughtIn_34 (by decide) ?_
    refine lv_icmp_gt (tgt := 44) hx hb dX0_caughtIn_35 (by decide) (fun c7 => ?_) (fun c7 => ?_)
    · have hr := ite_p hr c7
      refine lv_iconst (v := (0 : Int32)) hx hb dX0_caughtIn_44 (by decide) ?_
      obtain rfl := Option.some.inj hr
      exact kret _ _ _ _ dX0_caughtIn_45 hP hD hS
    · have hr := ite_n hr c7
      refine lv_iload_n hx hb dX0_caughtIn_38 rfl (lv_at hl 3 rfl) ?_
      refine lv_iload hx hb dX0_caughtIn_39 (lv_at hl 0 rfl) ?_
      refine lv_icmp_ge (tgt := 46) hx hb dX0_caughtIn_41 (by decide) (fun c8 => ?_) (fun c8 => ?_)
      · have hr := ite_p hr c8
        refine lv_iconst (v := (0 : Int32)) hx hb dX0_caughtIn_46 (by decide) ?_
        refine lv_istore (lv' := [(5, .int (0 : Int32)), (4, .int q5), (2, .long x4), (0, .ref h_ch), (1, .int a0)]) hx hb dX0_caughtIn_47 hl (by decide) rfl (fun ls hl => ?_)
        refine lv_iconst (v := (0 : Int32)) hx hb dX0_caughtIn_49 (by decide) ?_
        refine lv_istore (lv' := [(6, .int (0 : Int32)), (5, .int (0 : Int32)), (4, .int q5), (2, .long x4), (0, .ref h_ch), (1, .int a0)]) hx hb dX0_caughtIn_50 hl (by decide) rfl (fun ls hl => ?_)
        have llp_X0_caughtIn_52 : ∀ (nF : Nat) (v9 : Int32) (v10 : Int32) (w11 : Int32) (w12 : Int64) (w13 : Int64) (w14 : Nat → Int64) (w15 : Nat → Int64) (w16 : Nat → Int32) (w17 : Int32) (H : Heap) (locs : List Loc), lp_X0_caughtIn_52 n_row ch_target ch_chased g_width g_size g_all g_notFirstColumn g_notLastColumn row_law row_opener a0 rc x4 q5 nF v9 v10 w11 w12 w13 w14 w15 w16 w17 = some q → va_P (dC, dI) vwCl (wd_X0 h_ch h_g h_row h_bl h_wh h_ac h_t c_bl c_wh c_ac n_row ch_target ch_chased g_width g_height g_size g_all g_notFirstColumn g_notLastColumn row_law w11 row_opener w12 w13 w14 w15 w16 w17) H → va_D A (wd_X0 h_ch h_g h_row h_bl h_wh h_ac h_t c_bl c_wh c_ac n_row ch_target ch_chased g_width g_height g_size g_all g_notFirstColumn g_notLastColumn row_law w11 row_opener w12 w13 w14 w15 w16 w17) → va_S A H0 H locs → ∀ (ls : Array Slot), lv_has ls 7 [(0, .ref h_ch), (1, .int a0), (2, .long x4), (4, .int q5), (5, .int v9), (6, .int v10)] → W p l e R s m args below meth c H locs 0 0 Q (F0 m 52 ls []) := by
          intro nF
          induction nF with
          | zero => intro v9 v10 w11 w12 w13 w14 w15 w16 w17 H locs hr; exact absurd hr (by simp [lp_X0_caughtIn_52])
          | succ nF ih =>
            intro v9 v10 w11 w12 w13 w14 w15 w16 w17 H locs hr hP hD hS ls hl
            rw [lp_X0_caughtIn_52] at hr
            refine lv_iload hx hb dX0_caughtIn_52 (lv_at hl 5 rfl) ?_
            refine lv_aload_n hx hb dX0_caughtIn_54 rfl (lv_at hl 0 rfl) ?_
            refine va_get (D := (dC, dI)) (ci := 0) (v := .ref h_g) (C := RX0) (T := TX0) (N := 5) hx hb hts huX0 hown hK hP 0 rfl rfl 0 (by decide) hf9 (fun _ h9 => h9) rfl dX0_caughtIn_55 ?_
            refine va_get (D := (dC, dI)) (ci := 2) (v := .int g_size) (C := RX2) (T := TX2) (N := 6) hx hb hts huX2 hown hK hP 1 rfl rfl 2 (by decide) hf78 (fun _ h9 => h9) rfl dX0_caughtIn_58 ?_
            refine lv_icmp_ge (tgt := 140) hx hb dX0_caughtIn_61 (by decide) (fun c18 => ?_) (fun c18 => ?_)
            · have hr := ite_p hr c18
              refine lv_iload hx hb dX0_caughtIn_140 (lv_at hl 4 rfl) ?_
              obtain rfl := Option.some.inj hr
              exact kret _ _ _ _ dX0_caughtIn_142 hP hD hS
            · have hr := ite_n hr c18
              refine lv_iload hx hb dX0_caughtIn_64 (lv_at hl 4 rfl) ?_
              refine lv_if_ne (tgt := 140) hx hb dX0_caughtIn_66 (by decide) (fun c19 => ?_) (fun c19 => ?_)
              · have hr := ite_n hr c19
                refine lv_iload hx hb dX0_caughtIn_140 (lv_at hl 4 rfl) ?_
                obtain rfl := Option.some.inj hr
                exact kret _ _ _ _ dX0_caughtIn_142 hP hD hS
              · have hr := ite_p hr c19
                refine lv_lload_n hx hb dX0_caughtIn_69 rfl (lv_at hl 2 rfl) ?_
                refine lv_iload hx hb dX0_caughtIn_70 (lv_at hl 5 rfl) ?_
                obtain ⟨q20, hq20, hr⟩ := bd_use hr
                refine pcS_i (As := [.long x4, .int v10]) (rest := []) S (c_X2_holds l dC dI x4 v10 q20 hq20) (va_cwS 2 hts gX0_caughtIn_X2_holds rfl rfl rfl (by decide +kernel) ⟨Nat.le_trans (m := rm_X0_caughtIn.frames) (by decide) hRf, Nat.le_trans (m := rm_X0_caughtIn.locals) (by decide) hRl⟩) hN hP hK ⟨Nat.zero_le _, Nat.zero_le _⟩ rfl hl.1 rfl (Nat.le_of_ble_eq_true rfl) dX0_caughtIn_72 ?_
                refine lv_if_eq (tgt := 134) hx hb dX0_caughtIn_75 (by decide) (fun c21 => ?_) (fun c21 => ?_)
                · have hr := ite_p hr c21
                  obtain ⟨x22, ex22, hr⟩ := nm_ex hr
                  refine lv_iinc (v := x22) (lv' := [(6, .int x22), (0, .ref h_ch), (1, .int a0), (2, .long x4), (4, .int q5), (5, .int v9)]) hx hb dX0_caughtIn_134 hl (k := 5) rfl (by rw [ex22]; rfl) (by decide) rfl (fun ls hl => ?_)
                  refine lv_goto (tgt := 52) hx hb dX0_caughtIn_137 (by decide) ?_
                  exact ih v9 x22 w11 w12 w13 w14 w15 w16 w17 _ _ hr hP hD hS ls (lv_sub hl [1, 2, 3, 4, 5, 0] rfl)
                · have hr := ite_n hr c21
                  refine lv_aload_n hx hb dX0_caughtIn_78 rfl (lv_at hl 0 rfl) ?_
                  refine va_get (D := (dC, dI)) (ci := 0) (v := .ref h_row) (C := RX0) (T := TX0) (N := 5) hx hb hts huX0 hown hK hP 0 rfl rfl 1 (by decide) hf15 (fun _ h9 => h9) rfl dX0_caughtIn_79 ?_
                  refine lv_iload hx hb dX0_caughtIn_82 (lv_at hl 5 rfl) ?_
                  obtain ⟨q23, hq23, hr⟩ := bd_use hr
                  refine icV_i (As := [.int v10]) (rest := []) (ws2 := (wd_X0 h_ch h_g h_row h_bl h_wh h_ac h_t c_bl c_wh c_ac n_row ch_target ch_chased g_width g_height g_size g_all g_notFirstColumn g_notLastColumn row_law q23.2.1 row_opener q23.2.2.1 q23.2.2.2.1 q23.2.2.2.2.1 q23.2.2.2.2.2.1 q23.2.2.2.2.2.2 w17)) S (c_X4_add l dC dI h_row h_g h_bl h_wh h_ac c_bl c_wh c_ac n_row row_law w11 row_opener w12 w13 g_width g_height g_size g_all g_notFirstColumn g_notLastColumn w14 w15 w16 H.size v10 q23 hq23) (cwV 1 hts gX0_caughtIn_X4_add rfl rfl rfl (by decide +kernel) ⟨Nat.le_trans (m := rm_X0_caughtIn.frames) (by decide) hRf, Nat.le_trans (m := rm_X0_caughtIn.locals) (by decide) hRl⟩) hN hP hK hD hS hA ⟨Nat.zero_le _, Nat.zero_le _⟩ [2, 1, 3, 4, 5] [0, 6] [0, 3, 2, 4, 5, 6, 1] rfl rfl rfl rfl rfl (by decide) rfl rfl rfl [0, 1, 2] rfl 2 4 rfl rfl rfl hl.1 rfl (Nat.le_of_ble_eq_true rfl) dX0_caughtIn_84 (fun H locs hP hD hS => ?_)
                  refine lv_if_ne (tgt := 93) hx hb dX0_caughtIn_87 (by decide) (fun c24 => ?_) (fun c24 => ?_)
                  · have hr := ite_n hr c24
                    refine lv_aload_n hx hb dX0_caughtIn_93 rfl (lv_at hl 0 rfl) ?_
                    refine va_get (D := (dC, dI)) (ci := 0) (v := .ref h_t) (C := RX0) (T := TX0) (N := 5) hx hb hts huX0 hown hK hP 0 rfl rfl 2 (by decide) hf19 (fun _ h9 => h9) rfl dX0_caughtIn_94 ?_
                    obtain ⟨q25, hq25, hr⟩ := bd_use hr
                    refine icV_i (As := []) (rest := []) (ws2 := (wd_X0 h_ch h_g h_row h_bl h_wh h_ac h_t c_bl c_wh c_ac n_row ch_target ch_chased g_width g_height g_size g_all g_notFirstColumn g_notLastColumn row_law q23.2.1 row_opener q23.2.2.1 q23.2.2.2.1 q23.2.2.2.2.1 q23.2.2.2.2.2.1 q23.2.2.2.2.2.2 q25.2)) S (c_X5_oneMore l dC dI h_t w17 H.size q25 hq25) (cwV 0 hts gX0_caughtIn_X5_oneMore rfl rfl rfl (by decide +kernel) ⟨Nat.le_trans (m := rm_X0_caughtIn.frames) (by decide) hRf, Nat.le_trans (m := rm_X0_caughtIn.locals) (by decide) hRl⟩) hN hP hK hD hS hA ⟨Nat.zero_le _, Nat.zero_le _⟩ [6] [0, 1, 2, 3, 4, 5] [0, 1, 2, 3, 4, 5, 6] rfl rfl rfl rfl rfl (by decide) rfl rfl rfl [] rfl 6 5 rfl rfl rfl hl.1 rfl (Nat.le_of_ble_eq_true rfl) dX0_caughtIn_97 (fun H locs hP hD hS => ?_)
                    obtain ⟨K34, eK34, hr⟩ := nm_ex hr
                    have kK34 : ∀ (v26 : Int32) (w27 : Int32) (w28 : Int64) (w29 : Int64) (w30 : Nat → Int64) (w31 : Nat → Int64) (w32 : Nat → Int32) (w33 : Int32) (H : Heap) (locs : List Loc) , K34 v26 w27 w28 w29 w30 w31 w32 w33 = some q → va_P (dC, dI) vwCl (wd_X0 h_ch h_g h_row h_bl h_wh h_ac h_t c_bl c_wh c_ac n_row ch_target ch_chased g_width g_height g_size g_all g_notFirstColumn g_notLastColumn row_law w27 row_opener w28 w29 w30 w31 w32 w33) H → va_D A (wd_X0 h_ch h_g h_row h_bl h_wh h_ac h_t c_bl c_wh c_ac n_row ch_target ch_chased g_width g_height g_size g_all g_notFirstColumn g_notLastColumn row_law w27 row_opener w28 w29 w30 w31 w32 w33) → va_S A H0 H locs → ∀ (ls : Array Slot), lv_has ls 7 [(0, .ref h_ch), (1, .int a0), (2, .long x4), (4, .int q5), (5, .int v26), (6, .int v10)] → W p l e R s m args below meth c H locs 0 0 Q (F0 m 127 ls []) := by
                      intro v26 w27 w28 w29 w30 w31 w32 w33 H locs hr hP hD hS ls hl
                      rw [eK34] at hr
                      refine lv_aload_n hx hb dX0_caughtIn_127 rfl (lv_at hl 0 rfl) ?_
                      refine va_get (D := (dC, dI)) (ci := 0) (v := .ref h_row) (C := RX0) (T := TX0) (N := 5) hx hb hts huX0 hown hK hP 0 rfl rfl 1 (by decide) hf15 (fun _ h9 => h9) rfl dX0_caughtIn_128 ?_
                      obtain ⟨q35, hq35, hr⟩ := bd_use hr
                      refine icV_v (As := []) (rest := []) (ws2 := (wd_X0 h_ch h_g h_row h_bl h_wh h_ac h_t c_bl c_wh c_ac n_row ch_target ch_chased g_width g_height g_size g_all g_notFirstColumn g_notLastColumn row_law q35 row_opener w28 w29 w30 w31 w32 w33)) S (c_X4_takeBack l dC dI h_row h_g h_bl h_wh h_ac c_bl c_wh c_ac n_row row_law w27 row_opener w28 w29 g_width g_height g_size g_all g_notFirstColumn g_notLastColumn w30 w31 w32 H.size q35 hq35) (cwV 0 hts gX0_caughtIn_X4_takeBack rfl rfl rfl (by decide +kernel) ⟨Nat.le_trans (m := rm_X0_caughtIn.frames) (by decide) hRf, Nat.le_trans (m := rm_X0_caughtIn.locals) (by decide) hRl⟩) hN hP hK hD hS hA ⟨Nat.zero_le _, Nat.zero_le _⟩ [2, 1, 3, 4, 5] [0, 6] [0, 3, 2, 4, 5, 6, 1] rfl rfl rfl rfl rfl (by decide) rfl rfl rfl [0, 1, 2] rfl 2 4 rfl rfl rfl hl.1 rfl (Nat.le_of_ble_eq_true rfl) dX0_caughtIn_131 (fun H locs hP hD hS => ?_)
                      obtain ⟨x36, ex36, hr⟩ := nm_ex hr
                      refine lv_iinc (v := x36) (lv' := [(6, .int x36), (0, .ref h_ch), (1, .int a0), (2, .long x4), (4, .int q5), (5, .int v26)]) hx hb dX0_caughtIn_134 hl (k := 5) rfl (by rw [ex36]; rfl) (by decide) rfl (fun ls hl => ?_)
                      refine lv_goto (tgt := 52) hx hb dX0_caughtIn_137 (by decide) ?_
                      exact ih v26 x36 q35 w28 w29 w30 w31 w32 w33 _ _ hr hP hD hS ls (lv_sub hl [1, 2, 3, 4, 5, 0] rfl)
                    refine lv_if_ne (tgt := 110) hx hb dX0_caughtIn_100 (by decide) (fun c37 => ?_) (fun c37 => ?_)
                    · have hr := ite_n hr c37
                      refine lv_iload hx hb dX0_caughtIn_110 (lv_at hl 3 rfl) ?_
                      refine lv_iconst (v := (1 : Int32)) hx hb dX0_caughtIn_112 (by decide) ?_
                      refine lv_icmp_ne (tgt := 120) hx hb dX0_caughtIn_113 (by decide) (fun c38 => ?_) (fun c38 => ?_)
                      · have hr := ite_n hr c38
                        refine lv_aload_n hx hb dX0_caughtIn_120 rfl (lv_at hl 0 rfl) ?_
                        refine lv_iload_n hx hb dX0_caughtIn_121 rfl (lv_at hl 1 rfl) ?_
                        obtain ⟨q39, hq39, hr⟩ := bd_use hr
                        refine icV_i (As := [.int a0]) (rest := []) (ws2 := (wd_X0 h_ch h_g h_row h_bl h_wh h_ac h_t c_bl c_wh c_ac n_row ch_target ch_chased g_width g_height g_size g_all g_notFirstColumn g_notLastColumn row_law q39.2.1 row_opener q39.2.2.1 q39.2.2.2.1 q39.2.2.2.2.1 q39.2.2.2.2.2.1 q39.2.2.2.2.2.2.1 q39.2.2.2.2.2.2.2)) S (hrec h_ch h_g h_row h_bl h_wh h_ac h_t c_bl c_wh c_ac n_row ch_target ch_chased g_width g_height g_size g_all g_notFirstColumn g_notLastColumn row_law q23.2.1 row_opener q23.2.2.1 q23.2.2.2.1 q23.2.2.2.2.1 q23.2.2.2.2.2.1 q23.2.2.2.2.2.2 q25.2 H.size a0 q39 hq39) (cwV 1 hts gX0_caughtIn_X0_answersFail rfl hrc hrs (by decide +kernel) ⟨Nat.le_trans hrf hRf0, Nat.le_trans hrl hRl0⟩) hN hP hK hD hS hA ⟨Nat.zero_le _, Nat.zero_le _⟩ [0, 1, 2, 3, 4, 5, 6] [] [0, 1, 2, 3, 4, 5, 6] rfl rfl rfl rfl rfl (by decide) rfl rfl rfl [0, 1, 2] rfl 0 0 rfl rfl rfl hl.1 rfl (Nat.le_of_ble_eq_true rfl) dX0_caughtIn_122 (fun H locs hP hD hS => ?_)
                        refine lv_topi (fun x40 ex40 => ?_)
                        have hr := nm_use hr ex40
                        refine lv_istore (lv' := [(5, .int x40), (0, .ref h_ch), (1, .int a0), (2, .long x4), (4, .int q5), (6, .int v10)]) hx hb dX0_caughtIn_125 hl (by decide) rfl (fun ls hl => ?_)
                        exact kK34 x40 q39.2.1 q39.2.2.1 q39.2.2.2.1 q39.2.2.2.2.1 q39.2.2.2.2.2.1 q39.2.2.2.2.2.2.1 q39.2.2.2.2.2.2.2 _ _ hr hP hD hS ls (lv_sub hl [1, 2, 3, 4, 0, 5] rfl)
                      · have hr := ite_p hr c38
                        refine lv_iconst (v := (1 : Int32)) hx hb dX0_caughtIn_116 (by decide) ?_
                        refine lv_goto (tgt := 125) hx hb dX0_caughtIn_117 (by decide) ?_
                        refine lv_istore (lv' := [(5, .int (1 : Int32)), (0, .ref h_ch), (1, .int a0), (2, .long x4), (4, .int q5), (6, .int v10)]) hx hb dX0_caughtIn_125 hl (by decide) rfl (fun ls hl => ?_)
                        exact kK34 (1 : Int32) q23.2.1 q23.2.2.1 q23.2.2.2.1 q23.2.2.2.2.1 q23.2.2.2.2.2.1 q23.2.2.2.2.2.2 q25.2 _ _ hr hP hD hS ls (lv_sub hl [1, 2, 3, 4, 0, 5] rfl)
                    · have hr := ite_p hr c37
                      refine lv_bipush (v := (-5 : Int32)) hx hb dX0_caughtIn_103 (by decide) ?_
                      refine lv_istore (lv' := [(5, .int (-5 : Int32)), (0, .ref h_ch), (1, .int a0), (2, .long x4), (4, .int q5), (6, .int v10)]) hx hb dX0_caughtIn_105 hl (by decide) rfl (fun ls hl => ?_)
                      refine lv_goto (tgt := 127) hx hb dX0_caughtIn_107 (by decide) ?_
                      exact kK34 (-5 : Int32) q23.2.1 q23.2.2.1 q23.2.2.2.1 q23.2.2.2.2.1 q23.2.2.2.2.2.1 q23.2.2.2.2.2.2 q25.2 _ _ hr hP hD hS ls (lv_sub hl [1, 2, 3, 4, 0, 5] rfl)
                  · have hr := ite_p hr c24
                    refine lv_goto (tgt := 134) hx hb dX0_caughtIn_90 (by decide) ?_
                    obtain ⟨x41, ex41, hr⟩ := nm_ex hr
                    refine lv_iinc (v := x41) (lv' := [(6, .int x41), (0, .ref h_ch), (1, .int a0), (2, .long x4), (4, .int q5), (5, .int v9)]) hx hb dX0_caughtIn_134 hl (k := 5) rfl (by rw [ex41]; rfl) (by decide) rfl (fun ls hl => ?_)
                    refine lv_goto (tgt := 52) hx hb dX0_caughtIn_137 (by decide) ?_
                    exact ih v9 x41 q23.2.1 q23.2.2.1 q23.2.2.2.1 q23.2.2.2.2.1 q23.2.2.2.2.2.1 q23.2.2.2.2.2.2 w17 _ _ hr hP hD hS ls (lv_sub hl [1, 2, 3, 4, 5, 0] rfl)
        exact llp_X0_caughtIn_52 FU (0 : Int32) (0 : Int32) row_latest row_blackThen row_whiteThen bl wh ac t_made _ _ hr hP hD hS ls (lv_sub hl [4, 5, 3, 2, 1, 0] rfl)
      · have hr := ite_n hr c8
        refine lv_iconst (v := (0 : Int32)) hx hb dX0_caughtIn_44 (by decide) ?_
        obtain rfl := Option.some.inj hr
        exact kret _ _ _ _ dX0_caughtIn_45 hP hD hS

def lp_X0_answersFail_56 (n_row : Nat) (ch_target : Int32) (ch_chased : Int32) (g_width : Int32) (g_size : Int32) (g_all : Int64) (g_notFirstColumn : Int64) (g_notLastColumn : Int64) (row_law : Int32) (row_opener : Int32) (a0 : Int32) (rc : Nat → Int32 → Int32 → Int32 → Int32 → Int64 → Int64 → Int64 → Int32 → Int32 → Int32 → Int64 → Int64 → (Nat → Int64) → (Nat → Int64) → (Nat → Int32) → Int32 → Int32 → Option (Int32 × Int32 × Int64 × Int64 × (Nat → Int64) × (Nat → Int64) × (Nat → Int32) × Int32)) (x4 : Int64) (x6 : Int64) : Nat → Int32 → Int32 → Int32 → Int64 → Int64 → (Nat → Int64) → (Nat → Int64) → (Nat → Int32) → Int32 → Option (Int32 × Int32 × Int64 × Int64 × (Nat → Int64) × (Nat → Int64) × (Nat → Int32) × Int32)
  | 0, _, _, _, _, _, _, _, _, _ => none
  | nF + 1, v10, v11, w12, w13, w14, w15, w16, w17, w18 =>
    if g_size ≤ v11 then (
      some (v10, w12, w13, w14, w15, w16, w17, w18)
    )
    else (
      if v10 = (1 : Int32) then (
        nm (fun (u21 : Int32) =>
        nm (fun (u23 : Int32) =>
        if u23 = 0 then (
          nm (v11 + 1) fun x26 =>
          lp_X0_answersFail_56 n_row ch_target ch_chased g_width g_size g_all g_notFirstColumn g_notLastColumn row_law row_opener a0 rc x4 x6 nF v10 x26 w12 w13 w14 w15 w16 w17 w18
        )
        else (
          (f_X4_add n_row row_law w12 row_opener w13 w14 g_width g_size g_all g_notFirstColumn g_notLastColumn w15 w16 w17 u21).bind fun q27 =>
          if q27.1 = 0 then (
            nm (v11 + 1) fun x29 =>
            lp_X0_answersFail_56 n_row ch_target ch_chased g_width g_size g_all g_notFirstColumn g_notLastColumn row_law row_opener a0 rc x4 x6 nF v10 x29 q27.2.1 q27.2.2.1 q27.2.2.2.1 q27.2.2.2.2.1 q27.2.2.2.2.2.1 q27.2.2.2.2.2.2 w18
          )
          else (
            (f_X5_oneMore w18).bind fun q30 =>
            nm (fun (w31 : Int32) (w32 : Int64) (w33 : Int64) (w34 : Nat → Int64) (w35 : Nat → Int64) (w36 : Nat → Int32) (w37 : Int32) (u38 : Int32) =>
            (f_X4_takeBack w31).bind fun q40 =>
            nm (v11 + 1) fun x41 =>
            lp_X0_answersFail_56 n_row ch_target ch_chased g_width g_size g_all g_notFirstColumn g_notLastColumn row_law row_opener a0 rc x4 x6 nF u38 x41 q40 w32 w33 w34 w35 w36 w37
            ) fun K39 =>
            if q30.1 = 0 then (
              K39 q27.2.1 q27.2.2.1 q27.2.2.2.1 q27.2.2.2.2.1 q27.2.2.2.2.2.1 q27.2.2.2.2.2.2 q30.2 (-5 : Int32)
            )
            else (
              (rc n_row ch_target ch_chased g_width g_size g_all g_notFirstColumn g_notLastColumn row_law q27.2.1 row_opener q27.2.2.1 q27.2.2.2.1 q27.2.2.2.2.1 q27.2.2.2.2.2.1 q27.2.2.2.2.2.2 q30.2 (a0 - (1 : Int32))).bind fun q43 =>
              K39 q43.2.1 q43.2.2.1 q43.2.2.2.1 q43.2.2.2.2.1 q43.2.2.2.2.2.1 q43.2.2.2.2.2.2.1 q43.2.2.2.2.2.2.2 q43.1
            )
          )
        )
        ) fun K24 =>
        if v11 < 0 then (
          K24 (1 : Int32)
        )
        else (
          (f_X2_holds x6 u21).bind fun q45 =>
          if q45 = 0 then (
            K24 (0 : Int32)
          )
          else (
            K24 (1 : Int32)
          )
        )
        ) fun K22 =>
        if 0 ≤ v11 then (
          K22 v11
        )
        else (
          (f_X2_nth g_size x4 (0 : Int32)).bind fun q48 =>
          K22 q48
        )
      )
      else (
        some (v10, w12, w13, w14, w15, w16, w17, w18)
      )
    )

def f_X0_answersFail (rc : Nat → Int32 → Int32 → Int32 → Int32 → Int64 → Int64 → Int64 → Int32 → Int32 → Int32 → Int64 → Int64 → (Nat → Int64) → (Nat → Int64) → (Nat → Int32) → Int32 → Int32 → Option (Int32 × Int32 × Int64 × Int64 × (Nat → Int64) × (Nat → Int64) × (Nat → Int32) × Int32)) (n_row : Nat) (ch_target : Int32) (ch_chased : Int32) (g_width : Int32) (g_size : Int32) (g_all : Int64) (g_notFirstColumn : Int64) (g_notLastColumn : Int64) (row_law : Int32) (row_latest : Int32) (row_opener : Int32) (row_blackThen : Int64) (row_whiteThen : Int64) (bl : Nat → Int64) (wh : Nat → Int64) (ac : Nat → Int32) (t_made : Int32) (a0 : Int32) : Option (Int32 × Int32 × Int64 × Int64 × (Nat → Int64) × (Nat → Int64) × (Nat → Int32) × Int32) :=
  (f_X0_targetGroup n_row ch_target ch_chased g_width g_all g_notFirstColumn g_notLastColumn row_latest bl wh).bind fun q1 =>
  (f_X2_beside g_width g_all g_notFirstColumn g_notLastColumn q1).bind fun q2 =>
  (f_X4_free n_row row_latest g_all bl wh).bind fun q3 =>
  nm (q2 &&& q3) fun x4 =>
  (f_X0_takingCrossings n_row ch_chased g_width g_size g_all g_notFirstColumn g_notLastColumn row_latest bl wh q1).bind fun q5 =>
  nm (q5 &&& (x4 ^^^ (-1 : Int64))) fun x6 =>
  (f_J13_bitCount_95d88 x4).bind fun q7 =>
  nm (fun (u8 : Int32) =>
  lp_X0_answersFail_56 n_row ch_target ch_chased g_width g_size g_all g_notFirstColumn g_notLastColumn row_law row_opener a0 rc x4 x6 FU u8 (-1 : Int32) row_latest row_blackThen row_whiteThen bl wh ac t_made
  ) fun K9 =>
  if q7 = (1 : Int32) then (
    K9 (1 : Int32)
  )
  else (
    K9 (0 : Int32)
  )

abbrev rm_X0_answersFail : Room := { frames := 4, cells := 0, slots := 0, locals := 111 }
set_option maxHeartbeats 4000000 in
set_option maxRecDepth 100000 in
theorem c_X0_answersFail (l : Launch) (dC : Nat → ClassId) (dI : Nat → Nat → Nat) (rc : Nat → Int32 → Int32 → Int32 → Int32 → Int64 → Int64 → Int64 → Int32 → Int32 → Int32 → Int64 → Int64 → (Nat → Int64) → (Nat → Int64) → (Nat → Int32) → Int32 → Int32 → Option (Int32 × Int32 × Int64 × Int64 × (Nat → Int64) × (Nat → Int64) × (Nat → Int32) × Int32)) (rm rmr : Room) (hfr : rm_X0_answersFail.frames ≤ rm.frames) (hlo : rm_X0_answersFail.locals ≤ rm.locals) (hrf : rmr.frames + 1 ≤ rm.frames) (hrl : 8 + (7 + 11) + rmr.locals ≤ rm.locals) (hrc : rmr.cells = 0) (hrs : rmr.slots = 0) (hrec : ∀ (h_ch h_g h_row h_bl h_wh h_ac h_t : Nat) (c_bl c_wh c_ac : ClassId) (n_row : Nat) (ch_target ch_chased g_width g_height g_size : Int32) (g_all g_notFirstColumn g_notLastColumn : Int64) (row_law row_latest row_opener : Int32) (row_blackThen row_whiteThen : Int64) (bl wh : Nat → Int64) (ac : Nat → Int32) (t_made : Int32) (sz : Nat) (a0 : Int32) (q : Int32 × Int32 × Int64 × Int64 × (Nat → Int64) × (Nat → Int64) × (Nat → Int32) × Int32), rc n_row ch_target ch_chased g_width g_size g_all g_notFirstColumn g_notLastColumn row_law row_latest row_opener row_blackThen row_whiteThen bl wh ac t_made a0 = some q → Met l yX0_caughtIn wsX0_caughtIn rmr (PrI (dC, dI) (wd_X0 h_ch h_g h_row h_bl h_wh h_ac h_t c_bl c_wh c_ac n_row ch_target ch_chased g_width g_height g_size g_all g_notFirstColumn g_notLastColumn row_law row_latest row_opener row_blackThen row_whiteThen bl wh ac t_made) (td_X0 c_bl c_wh c_ac) sz [.ref h_ch, .int a0]) (QIi (dC, dI) (wd_X0 h_ch h_g h_row h_bl h_wh h_ac h_t c_bl c_wh c_ac n_row ch_target ch_chased g_width g_height g_size g_all g_notFirstColumn g_notLastColumn row_law row_latest row_opener row_blackThen row_whiteThen bl wh ac t_made) (td_X0 c_bl c_wh c_ac) sz q.1 (wd_X0 h_ch h_g h_row h_bl h_wh h_ac h_t c_bl c_wh c_ac n_row ch_target ch_chased g_width g_height g_size g_all g_notFirstColumn g_notLastColumn row_law q.2.1 row_opener q.2.2.1 q.2.2.2.1 q.2.2.2.2.1 q.2.2.2.2.2.1 q.2.2.2.2.2.2.1 q.2.2.2.2.2.2.2)) 0 0 (va_A (wd_X0 h_ch h_g h_row h_bl h_wh h_ac h_t c_bl c_wh c_ac n_row ch_target ch_chased g_width g_height g_size g_all g_notFirstColumn g_notLastColumn row_law row_latest row_opener row_blackThen row_whiteThen bl wh ac t_made) sz)) (h_ch h_g h_row h_bl h_wh h_ac h_t : Nat) (c_bl c_wh c_ac : ClassId) (n_row : Nat) (ch_target ch_chased g_width g_height g_size : Int32) (g_all g_notFirstColumn g_notLastColumn : Int64) (row_law row_latest row_opener : Int32) (row_blackThen row_whiteThen : Int64) (bl wh : Nat → Int64) (ac : Nat → Int32) (t_made : Int32) (sz : Nat) (a0 : Int32) (q : Int32 × Int32 × Int64 × Int64 × (Nat → Int64) × (Nat → Int64) × (Nat → Int32) × Int32) (hr : f_X0_answersFail rc n_row ch_target ch_chased g_width g_size g_all g_notFirstColumn g_notLastColumn row_law row_latest row_opener row_blackThen row_whiteThen bl wh ac t_made a0 = some q) : Met l yX0_answersFail wsX0_answersFail rm (PrI (dC, dI) (wd_X0 h_ch h_g h_row h_bl h_wh h_ac h_t c_bl c_wh c_ac n_row ch_target ch_chased g_width g_height g_size g_all g_notFirstColumn g_notLastColumn row_law row_latest row_opener row_blackThen row_whiteThen bl wh ac t_made) (td_X0 c_bl c_wh c_ac) sz [.ref h_ch, .int a0]) (QIi (dC, dI) (wd_X0 h_ch h_g h_row h_bl h_wh h_ac h_t c_bl c_wh c_ac n_row ch_target ch_chased g_width g_height g_size g_all g_notFirstColumn g_notLastColumn row_law row_latest row_opener row_blackThen row_whiteThen bl wh ac t_made) (td_X0 c_bl c_wh c_ac) sz q.1 (wd_X0 h_ch h_g h_row h_bl h_wh h_ac h_t c_bl c_wh c_ac n_row ch_target ch_chased g_width g_height g_size g_all g_notFirstColumn g_notLastColumn row_law q.2.1 row_opener q.2.2.1 q.2.2.2.1 q.2.2.2.2.1 q.2.2.2.2.2.1 q.2.2.2.2.2.2.1 q.2.2.2.2.2.2.2)) 0 0 (va_A (wd_X0 h_ch h_g h_row h_bl h_wh h_ac h_t c_bl c_wh c_ac n_row ch_target ch_chased g_width g_height g_size g_all g_notFirstColumn g_notLastColumn row_law row_latest row_opener row_blackThen row_whiteThen bl wh ac t_made) sz) := by
  refine mkI_i (cc := cX0_answersFail) (nL := 12) (by decide) rfl (Nat.le_of_ble_eq_true rfl) ?_
  intro p e R s m args below meth c H0 H locs A Q ls hRf hRl S hN hP hK hD hA hS hl kret
  have hl : lv_has ls 12 [(0, .ref h_ch), (1, .int a0)] := hl
  obtain ⟨hx, hb, hml, hown, hts⟩ := S
  have hown : s.vm.findClass RX0 = some m.cls := hown
  have S : CallFix p m c cX0_answersFail 12 s args wsX0_answersFail RX0 := ⟨hx, hb, hml, hown, hts⟩
  have hRf0 := hRf
  have hRl0 := hRl
  have hRf : rm_X0_answersFail.frames ≤ R.frames := Nat.le_trans hfr hRf
  have hRl : rm_X0_answersFail.locals ≤ R.locals := Nat.le_trans hlo hRl
  have huX0 : ∀ w ∈ u_ws RX0 TX0 5, w ∈ wsX0_answersFail := by decide +kernel
  have hf9 := hts (.fieldLink RX0 9 "EyeBoard$Chase" "grid" "LEyeBoard$Grid;") (by decide +kernel)
  have hf15 := hts (.fieldLink RX0 15 "EyeBoard$Chase" "row" "LEyeBoard$Row;") (by decide +kernel)
  have hk102 := hts (.constantLong RX0 102 (-1 : Int64)) (by decide +kernel)
  have huX2 : ∀ w ∈ u_ws RX2 TX2 6, w ∈ wsX0_answersFail := by decide +kernel
  have hf78 := hts (.fieldLink RX0 78 "EyeBoard$Grid" "size" "I") (by decide +kernel)
  have hf19 := hts (.fieldLink RX0 19 "EyeBoard$Chase" "tried" "LEyeBoard$Tries;") (by decide +kernel)
  unfold f_X0_answersFail at hr
  refine lv_aload_n hx hb dX0_answersFail_0 rfl (lv_at hl 0 rfl) ?_
  obtain ⟨q1, hq1, hr⟩ := bd_use hr
  refine pcV_l (As := []) (rest := []) S (c_X0_targetGroup l dC dI h_ch h_g h_row h_bl h_wh h_ac h_t c_bl c_wh c_ac n_row ch_target ch_chased g_width g_height g_size g_all g_notFirstColumn g_notLastColumn row_law row_latest row_opener row_blackThen row_whiteThen bl wh ac t_made q1 hq1) (cwV 0 hts gX0_answersFail_X0_targetGroup rfl rfl rfl (by decide +kernel) ⟨Nat.le_trans (m := rm_X0_answersFail.frames) (by decide) hRf, Nat.le_trans (m := rm_X0_answersFail.locals) (by decide) hRl⟩) hN hP hK ⟨Nat.zero_le _, Nat.zero_le _⟩ [0, 1, 2, 3, 4, 5, 6] rfl [0, 1, 2] rfl 0 0 rfl rfl rfl hl.1 rfl (Nat.le_of_ble_eq_true rfl) dX0_answersFail_1 ?_
  refine lv_lstore_n (lv' := [(2, .long q1), (0, .ref h_ch), (1, .int a0)]) hx hb dX0_answersFail_4 rfl hl (by decide) rfl (fun ls hl => ?_)
  refine lv_aload_n hx hb dX0_answersFail_5 rfl (lv_at hl 1 rfl) ?_
  refine va_get (D := (dC, dI)) (ci := 0) (v := .ref h_g) (C := RX0) (T := TX0) (N := 5) hx hb hts huX0 hown hK hP 0 rfl rfl 0 (by decide) hf9 (fun _ h9 => h9) rfl dX0_answersFail_6 ?_
  refine lv_lload_n hx hb dX0_answersFail_9 rfl (lv_at hl 0 rfl) ?_
  obtain ⟨q2, hq2, hr⟩ := bd_use hr
  refine pcV_l (As := [.long q1]) (rest := []) S (c_X2_beside l dC dI h_g g_width g_height g_size g_all g_notFirstColumn g_notLastColumn q1 q2 hq2) (cwV 1 hts gX0_answersFail_X2_beside rfl rfl rfl (by decide +kernel) ⟨Nat.le_trans (m := rm_X0_answersFail.frames) (by decide) hRf, Nat.le_trans (m := rm_X0_answersFail.locals) (by decide) hRl⟩) hN hP hK ⟨Nat.zero_le _, Nat.zero_le _⟩ [1] rfl [] rfl 1 2 rfl rfl rfl hl.1 rfl (Nat.le_of_ble_eq_true rfl) dX0_answersFail_10 ?_
  refine lv_aload_n hx hb dX0_answersFail_13 rfl (lv_at hl 1 rfl) ?_
  refine va_get (D := (dC, dI)) (ci := 0) (v := .ref h_row) (C := RX0) (T := TX0) (N := 5) hx hb hts huX0 hown hK hP 0 rfl rfl 1 (by decide) hf15 (fun _ h9 => h9) rfl dX0_answersFail_14 ?_
  obtain ⟨q3, hq3, hr⟩ := bd_use hr
  refine pcV_l (As := []) (rest := [.long q2]) S (c_X4_free l dC dI h_row h_g h_bl h_wh h_ac c_bl c_wh c_ac n_row row_law row_latest row_opener row_blackThen row_whiteThen g_width g_height g_size g_all g_notFirstColumn g_notLastColumn bl wh ac q3 hq3) (cwV 0 hts gX0_answersFail_X4_free rfl rfl rfl (by decide +kernel) ⟨Nat.le_trans (m := rm_X0_answersFail.frames) (by decide) hRf, Nat.le_trans (m := rm_X0_answersFail.locals) (by decide) hRl⟩) hN hP hK ⟨Nat.zero_le _, Nat.zero_le _⟩ [2, 1, 3, 4, 5] rfl [0, 1, 2] rfl 2 4 rfl rfl rfl hl.1 rfl (Nat.le_of_ble_eq_true rfl) dX0_answersFail_17 ?_
  refine lv_land hx hb dX0_answersFail_20 ?_
  refine lv_topl (fun x4 ex4 => ?_)
  have hr := nm_use hr ex4
  refine lv_lstore (lv' := [(4, .long x4), (2, .long q1), (0, .ref h_ch), (1, .int a0)]) hx hb dX0_answersFail_21 hl (by decide) rfl (fun ls hl => ?_)
  refine lv_aload_n hx hb dX0_answersFail_23 rfl (lv_at hl 2 rfl) ?_
  refine lv_lload_n hx hb dX0_answersFail_24 rfl (lv_at hl 1 rfl) ?_
  obtain ⟨q5, hq5, hr⟩ := bd_use hr
  refine pcV_l (As := [.long q1]) (rest := []) S (c_X0_takingCrossings l dC dI h_ch h_g h_row h_bl h_wh h_ac h_t c_bl c_wh c_ac n_row ch_target ch_chased g_width g_height g_size g_all g_notFirstColumn g_notLastColumn row_law row_latest row_opener row_blackThen row_whiteThen bl wh ac t_made q1 q5 hq5) (cwV 1 hts gX0_answersFail_X0_takingCrossings rfl rfl rfl (by decide +kernel) ⟨Nat.le_trans (m := rm_X0_answersFail.frames) (by decide) hRf, Nat.le_trans (m := rm_X0_answersFail.locals) (by decide) hRl⟩) hN hP hK ⟨Nat.zero_le _, Nat.zero_le _⟩ [0, 1, 2, 3, 4, 5, 6] rfl [0, 1, 2] rfl 0 0 rfl rfl rfl hl.1 rfl (Nat.le_of_ble_eq_true rfl) dX0_answersFail_25 ?_
  refine lv_lload hx hb dX0_answersFail_28 (lv_at hl 0 rfl) ?_
  refine W.ldc2 (v := (-1 : Int64)) hx hb hown hk102 rfl dX0_answersFail_30 ?_
  refine W.eq (g2 := F0 m 33 ls [.long (-1 : Int64), .long x4, .long q5]) rfl ?_
  refine lv_lxor hx hb dX0_answersFail_33 ?_
  refine lv_land hx hb dX0_answersFail_34 ?_
  refine lv_topl (fun x6 ex6 => ?_)
  have hr := nm_use hr ex6
  refine lv_lstore (lv' := [(6, .long x6), (4, .long x4), (2, .long q1), (0, .ref h_ch), (1, .int a0)]) hx hb dX0_answersFail_35 hl (by decide) rfl (fun ls hl => ?_)
  refine lv_lload hx hb dX0_answersFail_37 (lv_at hl 1 rfl) ?_
  obtain ⟨q7, hq7, hr⟩ := bd_use hr
  refine pcS_i (As := [.long x4]) (rest := []) S (c_J13_bitCount_95d88 l dC dI x4 q7 hq7) (va_cwS 1 hts gX0_answersFail_J13_bitCount_95d88 rfl rfl rfl (by decide +kernel) ⟨Nat.le_trans (m := rm_X0_answersFail.frames) (by decide) hRf, Nat.le_trans (m := rm_X0_answersFail.locals) (by decide) hRl⟩) hN hP hK ⟨Nat.zero_le _, Nat.zero_le _⟩ rfl hl.1 rfl (Nat.le_of_ble_eq_true rfl) dX0_answersFail_39 ?_
  refine lv_iconst (v := (1 : Int32)) hx hb dX0_answersFail_42 (by decide) ?_
  obtain ⟨K9, eK9, hr⟩ := nm_ex hr
  have kK9 : ∀ (u8 : Int32) (H : Heap) (locs : List Loc) , K9 u8 = some q → va_P (dC, dI) vwCl (wd_X0 h_ch h_g h_row h_bl h_wh h_ac h_t c_bl c_wh c_ac n_row ch_target ch_chased g_width g_height g_size g_all g_notFirstColumn g_notLastColumn row_law row_latest row_opener row_blackThen row_whiteThen bl wh ac t_made) H → va_D A (wd_X0 h_ch h_g h_row h_bl h_wh h_ac h_t c_bl c_wh c_ac n_row ch_target ch_chased g_width g_height g_size g_all g_notFirstColumn g_notLastColumn row_law row_latest row_opener row_blackThen row_whiteThen bl wh ac t_made) → va_S A H0 H locs → ∀ (ls : Array Slot), lv_has ls 12 [(0, .ref h_ch), (1, .int a0), (4, .long x4), (6, .long x6)] → W p l e R s m args below meth c H locs 0 0 Q (F0 m 51 ls [.int u8]) := by
    intro u8 H locs hr hP hD hS ls hl
    rw [eK9] at hr
    refine lv_istore (lv' := [(8, .int u8), (0, .ref h_ch), (1, .int a0), (4, .long x4), (6, .long x6)]) hx hb dX0_answersFail_51 hl (by decide) rfl (fun ls hl => ?_)
    refine lv_iconst (v := (-1 : Int32)) hx hb dX0_answersFail_53 (by decide) ?_
    refine lv_istore (lv' := [(9, .int (-1 : Int32)), (8, .int u8), (0, .ref h_ch), (1, .int a0), (4, .long x4), (6, .long x6)]) hx hb dX0_answersFail_54 hl (by decide) rfl (fun ls hl => ?_)
    have llp_X0_answersFail_56 : ∀ (nF : Nat) (v10 : Int32) (v11 : Int32) (w12 : Int32) (w13 : Int64) (w14 : Int64) (w15 : Nat → Int64) (w16 : Nat → Int64) (w17 : Nat → Int32) (w18 : Int32) (H : Heap) (locs : List Loc), lp_X0_answersFail_56 n_row ch_target ch_chased g_width g_size g_all g_notFirstColumn g_notLastColumn row_law row_opener a0 rc x4 x6 nF v10 v11 w12 w13 w14 w15 w16 w17 w18 = some q → va_P (dC, dI) vwCl (wd_X0 h_ch h_g h_row h_bl h_wh h_ac h_t c_bl c_wh c_ac n_row ch_target ch_chased g_width g_height g_size g_all g_notFirstColumn g_notLastColumn row_law w12 row_opener w13 w14 w15 w16 w17 w18) H → va_D A (wd_X0 h_ch h_g h_row h_bl h_wh h_ac h_t c_bl c_wh c_ac n_row ch_target ch_chased g_width g_height g_size g_all g_notFirstColumn g_notLastColumn row_law w12 row_opener w13 w14 w15 w16 w17 w18) → va_S A H0 H locs → ∀ (ls : Array Slot), lv_has ls 12 [(0, .ref h_ch), (1, .int a0), (4, .long x4), (6, .long x6), (8, .int v10), (9, .int v11)] → W p l e R s m args below meth c H locs 0 0 Q (F0 m 56 ls []) := by
      intro nF
      induction nF with
      | zero => intro v10 v11 w12 w13 w14 w15 w16 w17 w18 H locs hr; exact absurd hr (by simp [lp_X0_answersFail_56])
      | succ nF ih =>
        intro v10 v11 w12 w13 w14 w15 w16 w17 w18 H locs hr hP hD hS ls hl
        rw [lp_X0_answersFail_56] at hr
        refine lv_iload hx hb dX0_answersFail_56 (lv_at hl 5 rfl) ?_
        refine lv_aload_n hx hb dX0_answersFail_58 rfl (lv_at hl 0 rfl) ?_
        refine va_get (D := (dC, dI)) (ci := 0) (v := .ref h_g) (C := RX0) (T := TX0) (N := 5) hx hb hts huX0 hown hK hP 0 rfl rfl 0 (by decide) hf9 (fun _ h9 => h9) rfl dX0_answersFail_59 ?_
        refine va_get (D := (dC, dI)) (ci := 2) (v := .int g_size) (C := RX2) (T := TX2) (N := 6) hx hb hts huX2 hown hK hP 1 rfl rfl 2 (by decide) hf78 (fun _ h9 => h9) rfl dX0_answersFail_62 ?_
        refine lv_icmp_ge (tgt := 172) hx hb dX0_answersFail_65 (by decide) (fun c19 => ?_) (fun c19 => ?_)
        · have hr := ite_p hr c19
          refine lv_iload hx hb dX0_answersFail_172 (lv_at hl 4 rfl) ?_
          obtain rfl := Option.some.inj hr
          exact kret _ _ _ _ dX0_answersFail_174 hP hD hS
        · have hr := ite_n hr c19
          refine lv_iload hx hb dX0_answersFail_68 (lv_at hl 4 rfl) ?_
          refine lv_iconst (v := (1 : Int32)) hx hb dX0_answersFail_70 (by decide) ?_
          refine lv_icmp_ne (tgt := 172) hx hb dX0_answersFail_71 (by decide) (fun c20 => ?_) (fun c20 => ?_)
          · have hr := ite_n hr c20
            refine lv_iload hx hb dX0_answersFail_172 (lv_at hl 4 rfl) ?_
            obtain rfl := Option.some.inj hr
            exact kret _ _ _ _ dX0_answersFail_174 hP hD hS
          · have hr := ite_p hr c20
            refine lv_iload hx hb dX0_answersFail_74 (lv_at hl 5 rfl) ?_
            obtain ⟨K22, eK22, hr⟩ := nm_ex hr
            have kK22 : ∀ (u21 : Int32) (H : Heap) (locs : List Loc) , K22 u21 = some q → va_P (dC, dI) vwCl (wd_X0 h_ch h_g h_row h_bl h_wh h_ac h_t c_bl c_wh c_ac n_row ch_target ch_chased g_width g_height g_size g_all g_notFirstColumn g_notLastColumn row_law w12 row_opener w13 w14 w15 w16 w17 w18) H → va_D A (wd_X0 h_ch h_g h_row h_bl h_wh h_ac h_t c_bl c_wh c_ac n_row ch_target ch_chased g_width g_height g_size g_all g_notFirstColumn g_notLastColumn row_law w12 row_opener w13 w14 w15 w16 w17 w18) → va_S A H0 H locs → ∀ (ls : Array Slot), lv_has ls 12 [(0, .ref h_ch), (1, .int a0), (4, .long x4), (6, .long x6), (8, .int v10), (9, .int v11)] → W p l e R s m args below meth c H locs 0 0 Q (F0 m 94 ls [.int u21]) := by
              intro u21 H locs hr hP hD hS ls hl
              rw [eK22] at hr
              refine lv_istore (lv' := [(10, .int u21), (0, .ref h_ch), (1, .int a0), (4, .long x4), (6, .long x6), (8, .int v10), (9, .int v11)]) hx hb dX0_answersFail_94 hl (by decide) rfl (fun ls hl => ?_)
              refine lv_iload hx hb dX0_answersFail_96 (lv_at hl 6 rfl) ?_
              obtain ⟨K24, eK24, hr⟩ := nm_ex hr
              have kK24 : ∀ (u23 : Int32) (H : Heap) (locs : List Loc) , K24 u23 = some q → va_P (dC, dI) vwCl (wd_X0 h_ch h_g h_row h_bl h_wh h_ac h_t c_bl c_wh c_ac n_row ch_target ch_chased g_width g_height g_size g_all g_notFirstColumn g_notLastColumn row_law w12 row_opener w13 w14 w15 w16 w17 w18) H → va_D A (wd_X0 h_ch h_g h_row h_bl h_wh h_ac h_t c_bl c_wh c_ac n_row ch_target ch_chased g_width g_height g_size g_all g_notFirstColumn g_notLastColumn row_law w12 row_opener w13 w14 w15 w16 w17 w18) → va_S A H0 H locs → ∀ (ls : Array Slot), lv_has ls 12 [(0, .ref h_ch), (1, .int a0), (4, .long x4), (6, .long x6), (8, .int v10), (9, .int v11), (10, .int u21)] → W p l e R s m args below meth c H locs 0 0 Q (F0 m 116 ls [.int u23]) := by
                intro u23 H locs hr hP hD hS ls hl
                rw [eK24] at hr
                refine lv_istore (lv' := [(11, .int u23), (0, .ref h_ch), (1, .int a0), (4, .long x4), (6, .long x6), (8, .int v10), (9, .int v11), (10, .int u21)]) hx hb dX0_answersFail_116 hl (by decide) rfl (fun ls hl => ?_)
                refine lv_iload hx hb dX0_answersFail_118 (lv_at hl 0 rfl) ?_
                refine lv_if_eq (tgt := 166) hx hb dX0_answersFail_120 (by decide) (fun c25 => ?_) (fun c25 => ?_)
                · have hr := ite_p hr c25
                  obtain ⟨x26, ex26, hr⟩ := nm_ex hr
                  refine lv_iinc (v := x26) (lv' := [(9, .int x26), (11, .int u23), (0, .ref h_ch), (1, .int a0), (4, .long x4), (6, .long x6), (8, .int v10), (10, .int u21)]) hx hb dX0_answersFail_166 hl (k := 6) rfl (by rw [ex26]; rfl) (by decide) rfl (fun ls hl => ?_)
                  refine lv_goto (tgt := 56) hx hb dX0_answersFail_169 (by decide) ?_
                  exact ih v10 x26 w12 w13 w14 w15 w16 w17 w18 _ _ hr hP hD hS ls (lv_sub hl [2, 3, 4, 5, 6, 0] rfl)
                · have hr := ite_n hr c25
                  refine lv_aload_n hx hb dX0_answersFail_123 rfl (lv_at hl 1 rfl) ?_
                  refine va_get (D := (dC, dI)) (ci := 0) (v := .ref h_row) (C := RX0) (T := TX0) (N := 5) hx hb hts huX0 hown hK hP 0 rfl rfl 1 (by decide) hf15 (fun _ h9 => h9) rfl dX0_answersFail_124 ?_
                  refine lv_iload hx hb dX0_answersFail_127 (lv_at hl 7 rfl) ?_
                  obtain ⟨q27, hq27, hr⟩ := bd_use hr
                  refine icV_i (As := [.int u21]) (rest := []) (ws2 := (wd_X0 h_ch h_g h_row h_bl h_wh h_ac h_t c_bl c_wh c_ac n_row ch_target ch_chased g_width g_height g_size g_all g_notFirstColumn g_notLastColumn row_law q27.2.1 row_opener q27.2.2.1 q27.2.2.2.1 q27.2.2.2.2.1 q27.2.2.2.2.2.1 q27.2.2.2.2.2.2 w18)) S (c_X4_add l dC dI h_row h_g h_bl h_wh h_ac c_bl c_wh c_ac n_row row_law w12 row_opener w13 w14 g_width g_height g_size g_all g_notFirstColumn g_notLastColumn w15 w16 w17 H.size u21 q27 hq27) (cwV 1 hts gX0_answersFail_X4_add rfl rfl rfl (by decide +kernel) ⟨Nat.le_trans (m := rm_X0_answersFail.frames) (by decide) hRf, Nat.le_trans (m := rm_X0_answersFail.locals) (by decide) hRl⟩) hN hP hK hD hS hA ⟨Nat.zero_le _, Nat.zero_le _⟩ [2, 1, 3, 4, 5] [0, 6] [0, 3, 2, 4, 5, 6, 1] rfl rfl rfl rfl rfl (by decide) rfl rfl rfl [0, 1, 2] rfl 2 4 rfl rfl rfl hl.1 rfl (Nat.le_of_ble_eq_true rfl) dX0_answersFail_129 (fun H locs hP hD hS => ?_)
                  refine lv_if_eq (tgt := 166) hx hb dX0_answersFail_132 (by decide) (fun c28 => ?_) (fun c28 => ?_)
                  · have hr := ite_p hr c28
                    obtain ⟨x29, ex29, hr⟩ := nm_ex hr
                    refine lv_iinc (v := x29) (lv' := [(9, .int x29), (11, .int u23), (0, .ref h_ch), (1, .int a0), (4, .long x4), (6, .long x6), (8, .int v10), (10, .int u21)]) hx hb dX0_answersFail_166 hl (k := 6) rfl (by rw [ex29]; rfl) (by decide) rfl (fun ls hl => ?_)
                    refine lv_goto (tgt := 56) hx hb dX0_answersFail_169 (by decide) ?_
                    exact ih v10 x29 q27.2.1 q27.2.2.1 q27.2.2.2.1 q27.2.2.2.2.1 q27.2.2.2.2.2.1 q27.2.2.2.2.2.2 w18 _ _ hr hP hD hS ls (lv_sub hl [2, 3, 4, 5, 6, 0] rfl)
                  · have hr := ite_n hr c28
                    refine lv_aload_n hx hb dX0_answersFail_135 rfl (lv_at hl 1 rfl) ?_
                    refine va_get (D := (dC, dI)) (ci := 0) (v := .ref h_t) (C := RX0) (T := TX0) (N := 5) hx hb hts huX0 hown hK hP 0 rfl rfl 2 (by decide) hf19 (fun _ h9 => h9) rfl dX0_answersFail_136 ?_
                    obtain ⟨q30, hq30, hr⟩ := bd_use hr
                    refine icV_i (As := []) (rest := []) (ws2 := (wd_X0 h_ch h_g h_row h_bl h_wh h_ac h_t c_bl c_wh c_ac n_row ch_target ch_chased g_width g_height g_size g_all g_notFirstColumn g_notLastColumn row_law q27.2.1 row_opener q27.2.2.1 q27.2.2.2.1 q27.2.2.2.2.1 q27.2.2.2.2.2.1 q27.2.2.2.2.2.2 q30.2)) S (c_X5_oneMore l dC dI h_t w18 H.size q30 hq30) (cwV 0 hts gX0_answersFail_X5_oneMore rfl rfl rfl (by decide +kernel) ⟨Nat.le_trans (m := rm_X0_answersFail.frames) (by decide) hRf, Nat.le_trans (m := rm_X0_answersFail.locals) (by decide) hRl⟩) hN hP hK hD hS hA ⟨Nat.zero_le _, Nat.zero_le _⟩ [6] [0, 1, 2, 3, 4, 5] [0, 1, 2, 3, 4, 5, 6] rfl rfl rfl rfl rfl (by decide) rfl rfl rfl [] rfl 6 5 rfl rfl rfl hl.1 rfl (Nat.le_of_ble_eq_true rfl) dX0_answersFail_139 (fun H locs hP hD hS => ?_)
                    obtain ⟨K39, eK39, hr⟩ := nm_ex hr
                    have kK39 : ∀ (w31 : Int32) (w32 : Int64) (w33 : Int64) (w34 : Nat → Int64) (w35 : Nat → Int64) (w36 : Nat → Int32) (w37 : Int32) (u38 : Int32) (H : Heap) (locs : List Loc) , K39 w31 w32 w33 w34 w35 w36 w37 u38 = some q → va_P (dC, dI) vwCl (wd_X0 h_ch h_g h_row h_bl h_wh h_ac h_t c_bl c_wh c_ac n_row ch_target ch_chased g_width g_height g_size g_all g_notFirstColumn g_notLastColumn row_law w31 row_opener w32 w33 w34 w35 w36 w37) H → va_D A (wd_X0 h_ch h_g h_row h_bl h_wh h_ac h_t c_bl c_wh c_ac n_row ch_target ch_chased g_width g_height g_size g_all g_notFirstColumn g_notLastColumn row_law w31 row_opener w32 w33 w34 w35 w36 w37) → va_S A H0 H locs → ∀ (ls : Array Slot), lv_has ls 12 [(0, .ref h_ch), (1, .int a0), (4, .long x4), (6, .long x6), (9, .int v11)] → W p l e R s m args below meth c H locs 0 0 Q (F0 m 157 ls [.int u38]) := by
                      intro w31 w32 w33 w34 w35 w36 w37 u38 H locs hr hP hD hS ls hl
                      rw [eK39] at hr
                      refine lv_istore (lv' := [(8, .int u38), (0, .ref h_ch), (1, .int a0), (4, .long x4), (6, .long x6), (9, .int v11)]) hx hb dX0_answersFail_157 hl (by decide) rfl (fun ls hl => ?_)
                      refine lv_aload_n hx hb dX0_answersFail_159 rfl (lv_at hl 1 rfl) ?_
                      refine va_get (D := (dC, dI)) (ci := 0) (v := .ref h_row) (C := RX0) (T := TX0) (N := 5) hx hb hts huX0 hown hK hP 0 rfl rfl 1 (by decide) hf15 (fun _ h9 => h9) rfl dX0_answersFail_160 ?_
                      obtain ⟨q40, hq40, hr⟩ := bd_use hr
                      refine icV_v (As := []) (rest := []) (ws2 := (wd_X0 h_ch h_g h_row h_bl h_wh h_ac h_t c_bl c_wh c_ac n_row ch_target ch_chased g_width g_height g_size g_all g_notFirstColumn g_notLastColumn row_law q40 row_opener w32 w33 w34 w35 w36 w37)) S (c_X4_takeBack l dC dI h_row h_g h_bl h_wh h_ac c_bl c_wh c_ac n_row row_law w31 row_opener w32 w33 g_width g_height g_size g_all g_notFirstColumn g_notLastColumn w34 w35 w36 H.size q40 hq40) (cwV 0 hts gX0_answersFail_X4_takeBack rfl rfl rfl (by decide +kernel) ⟨Nat.le_trans (m := rm_X0_answersFail.frames) (by decide) hRf, Nat.le_trans (m := rm_X0_answersFail.locals) (by decide) hRl⟩) hN hP hK hD hS hA ⟨Nat.zero_le _, Nat.zero_le _⟩ [2, 1, 3, 4, 5] [0, 6] [0, 3, 2, 4, 5, 6, 1] rfl rfl rfl rfl rfl (by decide) rfl rfl rfl [0, 1, 2] rfl 2 4 rfl rfl rfl hl.1 rfl (Nat.le_of_ble_eq_true rfl) dX0_answersFail_163 (fun H locs hP hD hS => ?_)
                      obtain ⟨x41, ex41, hr⟩ := nm_ex hr
                      refine lv_iinc (v := x41) (lv' := [(9, .int x41), (8, .int u38), (0, .ref h_ch), (1, .int a0), (4, .long x4), (6, .long x6)]) hx hb dX0_answersFail_166 hl (k := 5) rfl (by rw [ex41]; rfl) (by decide) rfl (fun ls hl => ?_)
                      refine lv_goto (tgt := 56) hx hb dX0_answersFail_169 (by decide) ?_
                      exact ih u38 x41 q40 w32 w33 w34 w35 w36 w37 _ _ hr hP hD hS ls (lv_sub hl [2, 3, 4, 5, 1, 0] rfl)
                    refine lv_if_eq (tgt := 155) hx hb dX0_answersFail_142 (by decide) (fun c42 => ?_) (fun c42 => ?_)
                    · have hr := ite_p hr c42
                      refine lv_bipush (v := (-5 : Int32)) hx hb dX0_answersFail_155 (by decide) ?_
                      exact kK39 q27.2.1 q27.2.2.1 q27.2.2.2.1 q27.2.2.2.2.1 q27.2.2.2.2.2.1 q27.2.2.2.2.2.2 q30.2 (-5 : Int32) _ _ hr hP hD hS ls (lv_sub hl [1, 2, 3, 4, 6] rfl)
                    · have hr := ite_n hr c42
                      refine lv_aload_n hx hb dX0_answersFail_145 rfl (lv_at hl 1 rfl) ?_
                      refine lv_iload_n hx hb dX0_answersFail_146 rfl (lv_at hl 2 rfl) ?_
                      refine lv_iconst (v := (1 : Int32)) hx hb dX0_answersFail_147 (by decide) ?_
                      refine lv_isub hx hb dX0_answersFail_148 ?_
                      obtain ⟨q43, hq43, hr⟩ := bd_use hr
                      refine icV_i (As := [.int (a0 - (1 : Int32))]) (rest := []) (ws2 := (wd_X0 h_ch h_g h_row h_bl h_wh h_ac h_t c_bl c_wh c_ac n_row ch_target ch_chased g_width g_height g_size g_all g_notFirstColumn g_notLastColumn row_law q43.2.1 row_opener q43.2.2.1 q43.2.2.2.1 q43.2.2.2.2.1 q43.2.2.2.2.2.1 q43.2.2.2.2.2.2.1 q43.2.2.2.2.2.2.2)) S (hrec h_ch h_g h_row h_bl h_wh h_ac h_t c_bl c_wh c_ac n_row ch_target ch_chased g_width g_height g_size g_all g_notFirstColumn g_notLastColumn row_law q27.2.1 row_opener q27.2.2.1 q27.2.2.2.1 q27.2.2.2.2.1 q27.2.2.2.2.2.1 q27.2.2.2.2.2.2 q30.2 H.size (a0 - (1 : Int32)) q43 hq43) (cwV 1 hts gX0_answersFail_X0_caughtIn rfl hrc hrs (by decide +kernel) ⟨Nat.le_trans hrf hRf0, Nat.le_trans hrl hRl0⟩) hN hP hK hD hS hA ⟨Nat.zero_le _, Nat.zero_le _⟩ [0, 1, 2, 3, 4, 5, 6] [] [0, 1, 2, 3, 4, 5, 6] rfl rfl rfl rfl rfl (by decide) rfl rfl rfl [0, 1, 2] rfl 0 0 rfl rfl rfl hl.1 rfl (Nat.le_of_ble_eq_true rfl) dX0_answersFail_149 (fun H locs hP hD hS => ?_)
                      refine lv_goto (tgt := 157) hx hb dX0_answersFail_152 (by decide) ?_
                      exact kK39 q43.2.1 q43.2.2.1 q43.2.2.2.1 q43.2.2.2.2.1 q43.2.2.2.2.2.1 q43.2.2.2.2.2.2.1 q43.2.2.2.2.2.2.2 q43.1 _ _ hr hP hD hS ls (lv_sub hl [1, 2, 3, 4, 6] rfl)
              refine lv_if_lt (tgt := 111) hx hb dX0_answersFail_98 (by decide) (fun c44 => ?_) (fun c44 => ?_)
              · have hr := ite_p hr c44
                refine lv_iconst (v := (1 : Int32)) hx hb dX0_answersFail_111 (by decide) ?_
                refine lv_goto (tgt := 116) hx hb dX0_answersFail_112 (by decide) ?_
                exact kK24 (1 : Int32) _ _ hr hP hD hS ls (lv_sub hl [1, 2, 3, 4, 5, 6, 0] rfl)
              · have hr := ite_n hr c44
                refine lv_lload hx hb dX0_answersFail_101 (lv_at hl 4 rfl) ?_
                refine lv_iload hx hb dX0_answersFail_103 (lv_at hl 0 rfl) ?_
                obtain ⟨q45, hq45, hr⟩ := bd_use hr
                refine pcS_i (As := [.long x6, .int u21]) (rest := []) S (c_X2_holds l dC dI x6 u21 q45 hq45) (va_cwS 2 hts gX0_answersFail_X2_holds rfl rfl rfl (by decide +kernel) ⟨Nat.le_trans (m := rm_X0_answersFail.frames) (by decide) hRf, Nat.le_trans (m := rm_X0_answersFail.locals) (by decide) hRl⟩) hN hP hK ⟨Nat.zero_le _, Nat.zero_le _⟩ rfl hl.1 rfl (Nat.le_of_ble_eq_true rfl) dX0_answersFail_105 ?_
                refine lv_if_eq (tgt := 115) hx hb dX0_answersFail_108 (by decide) (fun c46 => ?_) (fun c46 => ?_)
                · have hr := ite_p hr c46
                  refine lv_iconst (v := (0 : Int32)) hx hb dX0_answersFail_115 (by decide) ?_
                  exact kK24 (0 : Int32) _ _ hr hP hD hS ls (lv_sub hl [1, 2, 3, 4, 5, 6, 0] rfl)
                · have hr := ite_n hr c46
                  refine lv_iconst (v := (1 : Int32)) hx hb dX0_answersFail_111 (by decide) ?_
                  refine lv_goto (tgt := 116) hx hb dX0_answersFail_112 (by decide) ?_
                  exact kK24 (1 : Int32) _ _ hr hP hD hS ls (lv_sub hl [1, 2, 3, 4, 5, 6, 0] rfl)
            refine lv_if_ge (tgt := 92) hx hb dX0_answersFail_76 (by decide) (fun c47 => ?_) (fun c47 => ?_)
            · have hr := ite_p hr c47
              refine lv_iload hx hb dX0_answersFail_92 (lv_at hl 5 rfl) ?_
              exact kK22 v11 _ _ hr hP hD hS ls (lv_sub hl [0, 1, 2, 3, 4, 5] rfl)
            · have hr := ite_n hr c47
              refine lv_aload_n hx hb dX0_answersFail_79 rfl (lv_at hl 0 rfl) ?_
              refine va_get (D := (dC, dI)) (ci := 0) (v := .ref h_g) (C := RX0) (T := TX0) (N := 5) hx hb hts huX0 hown hK hP 0 rfl rfl 0 (by decide) hf9 (fun _ h9 => h9) rfl dX0_answersFail_80 ?_
              refine lv_lload hx hb dX0_answersFail_83 (lv_at hl 2 rfl) ?_
              refine lv_iconst (v := (0 : Int32)) hx hb dX0_answersFail_85 (by decide) ?_
              obtain ⟨q48, hq48, hr⟩ := bd_use hr
              refine pcV_i (As := [.long x4, .int (0 : Int32)]) (rest := []) S (c_X2_nth l dC dI h_g g_width g_height g_size g_all g_notFirstColumn g_notLastColumn x4 (0 : Int32) q48 hq48) (cwV 2 hts gX0_answersFail_X2_nth rfl rfl rfl (by decide +kernel) ⟨Nat.le_trans (m := rm_X0_answersFail.frames) (by decide) hRf, Nat.le_trans (m := rm_X0_answersFail.locals) (by decide) hRl⟩) hN hP hK ⟨Nat.zero_le _, Nat.zero_le _⟩ [1] rfl [] rfl 1 2 rfl rfl rfl hl.1 rfl (Nat.le_of_ble_eq_true rfl) dX0_answersFail_86 ?_
              refine lv_goto (tgt := 94) hx hb dX0_answersFail_89 (by decide) ?_
              exact kK22 q48 _ _ hr hP hD hS ls (lv_sub hl [0, 1, 2, 3, 4, 5] rfl)
    exact llp_X0_answersFail_56 FU u8 (-1 : Int32) row_latest row_blackThen row_whiteThen bl wh ac t_made _ _ hr hP hD hS ls (lv_sub hl [2, 3, 4, 5, 1, 0] rfl)
  refine lv_icmp_ne (tgt := 50) hx hb dX0_answersFail_43 (by decide) (fun c49 => ?_) (fun c49 => ?_)
  · have hr := ite_n hr c49
    refine lv_iconst (v := (0 : Int32)) hx hb dX0_answersFail_50 (by decide) ?_
    exact kK9 (0 : Int32) _ _ hr hP hD hS ls (lv_sub hl [3, 4, 1, 0] rfl)
  · have hr := ite_p hr c49
    refine lv_iconst (v := (1 : Int32)) hx hb dX0_answersFail_46 (by decide) ?_
    refine lv_goto (tgt := 51) hx hb dX0_answersFail_47 (by decide) ?_
    exact kK9 (1 : Int32) _ _ hr hP hD hS ls (lv_sub hl [3, 4, 1, 0] rfl)

def fd_X0_caughtIn : Nat → Nat → Int32 → Int32 → Int32 → Int32 → Int64 → Int64 → Int64 → Int32 → Int32 → Int32 → Int64 → Int64 → (Nat → Int64) → (Nat → Int64) → (Nat → Int32) → Int32 → Int32 → Option (Int32 × Int32 × Int64 × Int64 × (Nat → Int64) × (Nat → Int64) × (Nat → Int32) × Int32)
  | 0 => fun _ _ _ _ _ _ _ _ _ _ _ _ _ _ _ _ _ _ => none
  | d + 1 => fun n_row ch_target ch_chased g_width g_size g_all g_notFirstColumn g_notLastColumn row_law row_latest row_opener row_blackThen row_whiteThen bl wh ac t_made a0 => f_X0_caughtIn (fun n_row ch_target ch_chased g_width g_size g_all g_notFirstColumn g_notLastColumn row_law row_latest row_opener row_blackThen row_whiteThen bl wh ac t_made a0 => f_X0_answersFail (fd_X0_caughtIn d) n_row ch_target ch_chased g_width g_size g_all g_notFirstColumn g_notLastColumn row_law row_latest row_opener row_blackThen row_whiteThen bl wh ac t_made a0) n_row ch_target ch_chased g_width g_size g_all g_notFirstColumn g_notLastColumn row_law row_latest row_opener row_blackThen row_whiteThen bl wh ac t_made a0
abbrev rd_X0_caughtIn (d : Nat) : Room := { frames := 4 + 2 * d, cells := 0, slots := 0, locals := 111 + 57 * d }
abbrev rd_X0_answersFail (d : Nat) : Room := { frames := 4 + 2 * d + 1, cells := 0, slots := 0, locals := 111 + 57 * d + 26 }
theorem cd_X0_caughtIn (l : Launch) (dC : Nat → ClassId) (dI : Nat → Nat → Nat) : ∀ d : Nat, ∀ (h_ch h_g h_row h_bl h_wh h_ac h_t : Nat) (c_bl c_wh c_ac : ClassId) (n_row : Nat) (ch_target ch_chased g_width g_height g_size : Int32) (g_all g_notFirstColumn g_notLastColumn : Int64) (row_law row_latest row_opener : Int32) (row_blackThen row_whiteThen : Int64) (bl wh : Nat → Int64) (ac : Nat → Int32) (t_made : Int32) (sz : Nat) (a0 : Int32) (q : Int32 × Int32 × Int64 × Int64 × (Nat → Int64) × (Nat → Int64) × (Nat → Int32) × Int32), fd_X0_caughtIn d n_row ch_target ch_chased g_width g_size g_all g_notFirstColumn g_notLastColumn row_law row_latest row_opener row_blackThen row_whiteThen bl wh ac t_made a0 = some q → Met l yX0_caughtIn wsX0_caughtIn (rd_X0_caughtIn d) (PrI (dC, dI) (wd_X0 h_ch h_g h_row h_bl h_wh h_ac h_t c_bl c_wh c_ac n_row ch_target ch_chased g_width g_height g_size g_all g_notFirstColumn g_notLastColumn row_law row_latest row_opener row_blackThen row_whiteThen bl wh ac t_made) (td_X0 c_bl c_wh c_ac) sz [.ref h_ch, .int a0]) (QIi (dC, dI) (wd_X0 h_ch h_g h_row h_bl h_wh h_ac h_t c_bl c_wh c_ac n_row ch_target ch_chased g_width g_height g_size g_all g_notFirstColumn g_notLastColumn row_law row_latest row_opener row_blackThen row_whiteThen bl wh ac t_made) (td_X0 c_bl c_wh c_ac) sz q.1 (wd_X0 h_ch h_g h_row h_bl h_wh h_ac h_t c_bl c_wh c_ac n_row ch_target ch_chased g_width g_height g_size g_all g_notFirstColumn g_notLastColumn row_law q.2.1 row_opener q.2.2.1 q.2.2.2.1 q.2.2.2.2.1 q.2.2.2.2.2.1 q.2.2.2.2.2.2.1 q.2.2.2.2.2.2.2)) 0 0 (va_A (wd_X0 h_ch h_g h_row h_bl h_wh h_ac h_t c_bl c_wh c_ac n_row ch_target ch_chased g_width g_height g_size g_all g_notFirstColumn g_notLastColumn row_law row_latest row_opener row_blackThen row_whiteThen bl wh ac t_made) sz) := by
  intro d
  induction d with
  | zero => intro h_ch h_g h_row h_bl h_wh h_ac h_t c_bl c_wh c_ac n_row ch_target ch_chased g_width g_height g_size g_all g_notFirstColumn g_notLastColumn row_law row_latest row_opener row_blackThen row_whiteThen bl wh ac t_made sz a0 q hr; exact absurd hr (by simp [fd_X0_caughtIn])
  | succ d ih =>
    intro h_ch h_g h_row h_bl h_wh h_ac h_t c_bl c_wh c_ac n_row ch_target ch_chased g_width g_height g_size g_all g_notFirstColumn g_notLastColumn row_law row_latest row_opener row_blackThen row_whiteThen bl wh ac t_made sz a0 q hr
    have hb : ∀ (h_ch h_g h_row h_bl h_wh h_ac h_t : Nat) (c_bl c_wh c_ac : ClassId) (n_row : Nat) (ch_target ch_chased g_width g_height g_size : Int32) (g_all g_notFirstColumn g_notLastColumn : Int64) (row_law row_latest row_opener : Int32) (row_blackThen row_whiteThen : Int64) (bl wh : Nat → Int64) (ac : Nat → Int32) (t_made : Int32) (sz : Nat) (a0 : Int32) (q : Int32 × Int32 × Int64 × Int64 × (Nat → Int64) × (Nat → Int64) × (Nat → Int32) × Int32), f_X0_answersFail (fd_X0_caughtIn d) n_row ch_target ch_chased g_width g_size g_all g_notFirstColumn g_notLastColumn row_law row_latest row_opener row_blackThen row_whiteThen bl wh ac t_made a0 = some q → Met l yX0_answersFail wsX0_answersFail (rd_X0_answersFail d) (PrI (dC, dI) (wd_X0 h_ch h_g h_row h_bl h_wh h_ac h_t c_bl c_wh c_ac n_row ch_target ch_chased g_width g_height g_size g_all g_notFirstColumn g_notLastColumn row_law row_latest row_opener row_blackThen row_whiteThen bl wh ac t_made) (td_X0 c_bl c_wh c_ac) sz [.ref h_ch, .int a0]) (QIi (dC, dI) (wd_X0 h_ch h_g h_row h_bl h_wh h_ac h_t c_bl c_wh c_ac n_row ch_target ch_chased g_width g_height g_size g_all g_notFirstColumn g_notLastColumn row_law row_latest row_opener row_blackThen row_whiteThen bl wh ac t_made) (td_X0 c_bl c_wh c_ac) sz q.1 (wd_X0 h_ch h_g h_row h_bl h_wh h_ac h_t c_bl c_wh c_ac n_row ch_target ch_chased g_width g_height g_size g_all g_notFirstColumn g_notLastColumn row_law q.2.1 row_opener q.2.2.1 q.2.2.2.1 q.2.2.2.2.1 q.2.2.2.2.2.1 q.2.2.2.2.2.2.1 q.2.2.2.2.2.2.2)) 0 0 (va_A (wd_X0 h_ch h_g h_row h_bl h_wh h_ac h_t c_bl c_wh c_ac n_row ch_target ch_chased g_width g_height g_size g_all g_notFirstColumn g_notLastColumn row_law row_latest row_opener row_blackThen row_whiteThen bl wh ac t_made) sz) := by
      intro h_ch h_g h_row h_bl h_wh h_ac h_t c_bl c_wh c_ac n_row ch_target ch_chased g_width g_height g_size g_all g_notFirstColumn g_notLastColumn row_law row_latest row_opener row_blackThen row_whiteThen bl wh ac t_made sz a0 q hr
      exact c_X0_answersFail l dC dI (fd_X0_caughtIn d) (rd_X0_answersFail d) (rd_X0_caughtIn d) (by show _ ≤ _; dsimp only; omega) (by show _ ≤ _; dsimp only; omega) (by show _ ≤ _; dsimp only; omega) (by show _ ≤ _; dsimp only; omega) rfl rfl ih h_ch h_g h_row h_bl h_wh h_ac h_t c_bl c_wh c_ac n_row ch_target ch_chased g_width g_height g_size g_all g_notFirstColumn g_notLastColumn row_law row_latest row_opener row_blackThen row_whiteThen bl wh ac t_made sz a0 q hr
    exact c_X0_caughtIn l dC dI (f_X0_answersFail (fd_X0_caughtIn d)) (rd_X0_caughtIn (d + 1)) (rd_X0_answersFail d) (by show _ ≤ _; dsimp only; omega) (by show _ ≤ _; dsimp only; omega) (by show _ ≤ _; dsimp only; omega) (by show _ ≤ _; dsimp only; omega) rfl rfl hb h_ch h_g h_row h_bl h_wh h_ac h_t c_bl c_wh c_ac n_row ch_target ch_chased g_width g_height g_size g_all g_notFirstColumn g_notLastColumn row_law row_latest row_opener row_blackThen row_whiteThen bl wh ac t_made sz a0 q hr
def fz_X0_caughtIn : Nat → Int32 → Int32 → Int32 → Int32 → Int64 → Int64 → Int64 → Int32 → Int32 → Int32 → Int64 → Int64 → (Nat → Int64) → (Nat → Int64) → (Nat → Int32) → Int32 → Int32 → Option (Int32 × Int32 × Int64 × Int64 × (Nat → Int64) × (Nat → Int64) × (Nat → Int32) × Int32) := fd_X0_caughtIn 24
abbrev rm_zX0_caughtIn : Room := { frames := 52, cells := 0, slots := 0, locals := 1479 }
theorem cz_X0_caughtIn (l : Launch) (dC : Nat → ClassId) (dI : Nat → Nat → Nat) : ∀ (h_ch h_g h_row h_bl h_wh h_ac h_t : Nat) (c_bl c_wh c_ac : ClassId) (n_row : Nat) (ch_target ch_chased g_width g_height g_size : Int32) (g_all g_notFirstColumn g_notLastColumn : Int64) (row_law row_latest row_opener : Int32) (row_blackThen row_whiteThen : Int64) (bl wh : Nat → Int64) (ac : Nat → Int32) (t_made : Int32) (sz : Nat) (a0 : Int32) (q : Int32 × Int32 × Int64 × Int64 × (Nat → Int64) × (Nat → Int64) × (Nat → Int32) × Int32), fz_X0_caughtIn n_row ch_target ch_chased g_width g_size g_all g_notFirstColumn g_notLastColumn row_law row_latest row_opener row_blackThen row_whiteThen bl wh ac t_made a0 = some q → Met l yX0_caughtIn wsX0_caughtIn rm_zX0_caughtIn (PrI (dC, dI) (wd_X0 h_ch h_g h_row h_bl h_wh h_ac h_t c_bl c_wh c_ac n_row ch_target ch_chased g_width g_height g_size g_all g_notFirstColumn g_notLastColumn row_law row_latest row_opener row_blackThen row_whiteThen bl wh ac t_made) (td_X0 c_bl c_wh c_ac) sz [.ref h_ch, .int a0]) (QIi (dC, dI) (wd_X0 h_ch h_g h_row h_bl h_wh h_ac h_t c_bl c_wh c_ac n_row ch_target ch_chased g_width g_height g_size g_all g_notFirstColumn g_notLastColumn row_law row_latest row_opener row_blackThen row_whiteThen bl wh ac t_made) (td_X0 c_bl c_wh c_ac) sz q.1 (wd_X0 h_ch h_g h_row h_bl h_wh h_ac h_t c_bl c_wh c_ac n_row ch_target ch_chased g_width g_height g_size g_all g_notFirstColumn g_notLastColumn row_law q.2.1 row_opener q.2.2.1 q.2.2.2.1 q.2.2.2.2.1 q.2.2.2.2.2.1 q.2.2.2.2.2.2.1 q.2.2.2.2.2.2.2)) 0 0 (va_A (wd_X0 h_ch h_g h_row h_bl h_wh h_ac h_t c_bl c_wh c_ac n_row ch_target ch_chased g_width g_height g_size g_all g_notFirstColumn g_notLastColumn row_law row_latest row_opener row_blackThen row_whiteThen bl wh ac t_made) sz) := cd_X0_caughtIn l dC dI 24
