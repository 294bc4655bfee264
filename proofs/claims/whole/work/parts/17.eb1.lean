def f_X0_read (n_row : Nat) (n_grow : Nat) (ch_target : Int32) (ch_chased : Int32) (g_width : Int32) (g_size : Int32) (g_all : Int64) (g_notFirstColumn : Int64) (g_notLastColumn : Int64) (row_law : Int32) (row_latest : Int32) (row_opener : Int32) (row_blackThen : Int64) (row_whiteThen : Int64) (bl : Nat → Int64) (wh : Nat → Int64) (ac : Nat → Int32) (t_made : Int32) (grow_latest : Int32) (gbl : Nat → Int64) (gwh : Nat → Int64) (a1 : Int32) (a2 : Int32) : Option (Int32 × Int32 × Int32 × Int32 × Int32 × Int32 × Int64 × Int64 × (Nat → Int64) × (Nat → Int64) × (Nat → Int32) × Int32) :=
  (f_X4_colourAt n_grow grow_latest gbl gwh a1).bind fun q1 =>
  (f_X4_stonesOf n_grow grow_latest gbl gwh (1 : Int32)).bind fun q2 =>
  (f_X4_stonesOf n_grow grow_latest gbl gwh (2 : Int32)).bind fun q3 =>
  (f_X6_other q1).bind fun q4 =>
  (f_X4_begin n_row row_law row_latest row_opener bl wh q2 q3 q4 (0 : Int32)).bind fun q5 =>
  (fz_X0_caughtIn n_row a1 q1 g_width g_size g_all g_notFirstColumn g_notLastColumn q5.1 q5.2.1 q5.2.2.1 row_blackThen row_whiteThen q5.2.2.2.1 q5.2.2.2.2 ac (0 : Int32) a2).bind fun q6 =>
  some (q6.1, a1, q1, q5.1, q6.2.1, q5.2.2.1, q6.2.2.1, q6.2.2.2.1, q6.2.2.2.2.1, q6.2.2.2.2.2.1, q6.2.2.2.2.2.2.1, q6.2.2.2.2.2.2.2)

abbrev rm_X0_read : Room := { frames := 53, cells := 0, slots := 0, locals := 1505 }
set_option maxHeartbeats 4000000 in
set_option maxRecDepth 100000 in
theorem c_X0_read (l : Launch) (dC : Nat → ClassId) (dI : Nat → Nat → Nat) (h_ch h_g h_row h_bl h_wh h_ac h_t h_grow h_gbl h_gwh h_gac : Nat) (c_bl c_wh c_ac c_gbl c_gwh c_gac : ClassId) (n_row n_grow : Nat) (ch_target ch_chased g_width g_height g_size : Int32) (g_all g_notFirstColumn g_notLastColumn : Int64) (row_law row_latest row_opener : Int32) (row_blackThen row_whiteThen : Int64) (bl wh : Nat → Int64) (ac : Nat → Int32) (t_made grow_law grow_latest grow_opener : Int32) (grow_blackThen grow_whiteThen : Int64) (gbl gwh : Nat → Int64) (gac : Nat → Int32) (sz : Nat) (a1 : Int32) (a2 : Int32) (q : Int32 × Int32 × Int32 × Int32 × Int32 × Int32 × Int64 × Int64 × (Nat → Int64) × (Nat → Int64) × (Nat → Int32) × Int32) (hr : f_X0_read n_row n_grow ch_target ch_chased g_width g_size g_all g_notFirstColumn g_notLastColumn row_law row_latest row_opener row_blackThen row_whiteThen bl wh ac t_made grow_latest gbl gwh a1 a2 = some q) : Met l yX0_read wsX0_read rm_X0_read (PrI (dC, dI) (wd_X0r h_ch h_g h_row h_bl h_wh h_ac h_t h_grow h_gbl h_gwh h_gac c_bl c_wh c_ac c_gbl c_gwh c_gac n_row n_grow ch_target ch_chased g_width g_height g_size g_all g_notFirstColumn g_notLastColumn row_law row_latest row_opener row_blackThen row_whiteThen bl wh ac t_made grow_law grow_latest grow_opener grow_blackThen grow_whiteThen gbl gwh gac) (td_X0r c_bl c_wh c_ac c_gbl c_gwh c_gac) sz [.ref h_ch, .ref h_grow, .int a1, .int a2]) (QIi (dC, dI) (wd_X0r h_ch h_g h_row h_bl h_wh h_ac h_t h_grow h_gbl h_gwh h_gac c_bl c_wh c_ac c_gbl c_gwh c_gac n_row n_grow ch_target ch_chased g_width g_height g_size g_all g_notFirstColumn g_notLastColumn row_law row_latest row_opener row_blackThen row_whiteThen bl wh ac t_made grow_law grow_latest grow_opener grow_blackThen grow_whiteThen gbl gwh gac) (td_X0r c_bl c_wh c_ac c_gbl c_gwh c_gac) sz q.1 (wd_X0r h_ch h_g h_row h_bl h_wh h_ac h_t h_grow h_gbl h_gwh h_gac c_bl c_wh c_ac c_gbl c_gwh c_gac n_row n_grow q.2.1 q.2.2.1 g_width g_height g_size g_all g_notFirstColumn g_notLastColumn q.2.2.2.1 q.2.2.2.2.1 q.2.2.2.2.2.1 q.2.2.2.2.2.2.1 q.2.2.2.2.2.2.2.1 q.2.2.2.2.2.2.2.2.1 q.2.2.2.2.2.2.2.2.2.1 q.2.2.2.2.2.2.2.2.2.2.1 q.2.2.2.2.2.2.2.2.2.2.2 grow_law grow_latest grow_opener grow_blackThen grow_whiteThen gbl gwh gac)) 0 0 (va_A (wd_X0r h_ch h_g h_row h_bl h_wh h_ac h_t h_grow h_gbl h_gwh h_gac c_bl c_wh c_ac c_gbl c_gwh c_gac n_row n_grow ch_target ch_chased g_width g_height g_size g_all g_notFirstColumn g_notLastColumn row_law row_latest row_opener row_blackThen row_whiteThen bl wh ac t_made grow_law grow_latest grow_opener grow_blackThen grow_whiteThen gbl gwh gac) sz) := by
  refine mkI_i (cc := cX0_read) (nL := 4) (by decide) rfl (Nat.le_of_ble_eq_true rfl) ?_
  intro p e R s m args below meth c H0 H locs A Q ls hRf hRl S hN hP hK hD hA hS hl kret
  have hl : lv_has ls 4 [(0, .ref h_ch), (1, .ref h_grow), (2, .int a1), (3, .int a2)] := hl
  obtain ⟨hx, hb, hml, hown, hts⟩ := S
  have hown : s.vm.findClass RX0 = some m.cls := hown
  have S : CallFix p m c cX0_read 4 s args wsX0_read RX0 := ⟨hx, hb, hml, hown, hts⟩
  have huX0 : ∀ w ∈ u_ws RX0 TX0 5, w ∈ wsX0_read := by decide +kernel
  have hf23 := hts (.fieldLink RX0 23 "EyeBoard$Chase" "target" "I") (by decide +kernel)
  have hf33 := hts (.fieldLink RX0 33 "EyeBoard$Chase" "chased" "I") (by decide +kernel)
  have hf19 := hts (.fieldLink RX0 19 "EyeBoard$Chase" "tried" "LEyeBoard$Tries;") (by decide +kernel)
  have huX5 : ∀ w ∈ u_ws RX5 TX5 1, w ∈ wsX0_read := by decide +kernel
  have hf36 := hts (.fieldLink RX0 36 "EyeBoard$Tries" "made" "I") (by decide +kernel)
  have hf15 := hts (.fieldLink RX0 15 "EyeBoard$Chase" "row" "LEyeBoard$Row;") (by decide +kernel)
  have hstX6_other := hts (.static yX6_other) (by decide +kernel)
  have hiniX6_other := hts (.initialized RX6) (by decide +kernel)
  unfold f_X0_read at hr
  refine lv_aload_n hx hb dX0_read_0 rfl (lv_at hl 0 rfl) ?_
  refine lv_iload_n hx hb dX0_read_1 rfl (lv_at hl 2 rfl) ?_
  refine va_put (D := (dC, dI)) (ci := 0) (v := .int a1) (ty := .int) (C := RX0) (T := TX0) (N := 5) hx hb hts huX0 tyX0 tyX0_ok nmX0 hown hK hP hD hS 0 rfl rfl 3 (by decide) hf23 (fun _ h9 => h9) rfl (by decide +kernel) rfl rfl (Nat.le_of_ble_eq_true rfl) dX0_read_2 (fun H locs hP hD hS => ?_)
  have hP : va_P (dC, dI) vwCl (wd_X0r h_ch h_g h_row h_bl h_wh h_ac h_t h_grow h_gbl h_gwh h_gac c_bl c_wh c_ac c_gbl c_gwh c_gac n_row n_grow a1 ch_chased g_width g_height g_size g_all g_notFirstColumn g_notLastColumn row_law row_latest row_opener row_blackThen row_whiteThen bl wh ac t_made grow_law grow_latest grow_opener grow_blackThen grow_whiteThen gbl gwh gac) H := hP
  have hD : va_D A (wd_X0r h_ch h_g h_row h_bl h_wh h_ac h_t h_grow h_gbl h_gwh h_gac c_bl c_wh c_ac c_gbl c_gwh c_gac n_row n_grow a1 ch_chased g_width g_height g_size g_all g_notFirstColumn g_notLastColumn row_law row_latest row_opener row_blackThen row_whiteThen bl wh ac t_made grow_law grow_latest grow_opener grow_blackThen grow_whiteThen gbl gwh gac) := hD
  refine lv_aload_n hx hb dX0_read_5 rfl (lv_at hl 0 rfl) ?_
  refine lv_aload_n hx hb dX0_read_6 rfl (lv_at hl 1 rfl) ?_
  refine lv_iload_n hx hb dX0_read_7 rfl (lv_at hl 2 rfl) ?_
  obtain ⟨q1, hq1, hr⟩ := bd_use hr
  refine pcV_i (As := [.int a1]) (rest := [.ref h_ch]) S (c_X4_colourAt l dC dI h_grow h_g h_gbl h_gwh h_gac c_gbl c_gwh c_gac n_grow grow_law grow_latest grow_opener grow_blackThen grow_whiteThen g_width g_height g_size g_all g_notFirstColumn g_notLastColumn gbl gwh gac a1 q1 hq1) (cwV 1 hts gX0_read_X4_colourAt rfl rfl rfl (by decide +kernel) ⟨Nat.le_trans (m := rm_X0_read.frames) (by decide) hRf, Nat.le_trans (m := rm_X0_read.locals) (by decide) hRl⟩) hN hP hK ⟨Nat.zero_le _, Nat.zero_le _⟩ [7, 1, 8, 9, 10] rfl [3, 4, 5] rfl 7 4 rfl rfl rfl hl.1 rfl (Nat.le_of_ble_eq_true rfl) dX0_read_8 ?_
  refine va_put (D := (dC, dI)) (ci := 0) (v := .int q1) (ty := .int) (C := RX0) (T := TX0) (N := 5) hx hb hts huX0 tyX0 tyX0_ok nmX0 hown hK hP hD hS 0 rfl rfl 4 (by decide) hf33 (fun _ h9 => h9) rfl (by decide +kernel) rfl rfl (Nat.le_of_ble_eq_true rfl) dX0_read_11 (fun H locs hP hD hS => ?_)
  have hP : va_P (dC, dI) vwCl (wd_X0r h_ch h_g h_row h_bl h_wh h_ac h_t h_grow h_gbl h_gwh h_gac c_bl c_wh c_ac c_gbl c_gwh c_gac n_row n_grow a1 q1 g_width g_height g_size g_all g_notFirstColumn g_notLastColumn row_law row_latest row_opener row_blackThen row_whiteThen bl wh ac t_made grow_law grow_latest grow_opener grow_blackThen grow_whiteThen gbl gwh gac) H := hP
  have hD : va_D A (wd_X0r h_ch h_g h_row h_bl h_wh h_ac h_t h_grow h_gbl h_gwh h_gac c_bl c_wh c_ac c_gbl c_gwh c_gac n_row n_grow a1 q1 g_width g_height g_size g_all g_notFirstColumn g_notLastColumn row_law row_latest row_opener row_blackThen row_whiteThen bl wh ac t_made grow_law grow_latest grow_opener grow_blackThen grow_whiteThen gbl gwh gac) := hD
  refine lv_aload_n hx hb dX0_read_14 rfl (lv_at hl 0 rfl) ?_
  refine va_get (D := (dC, dI)) (ci := 0) (v := .ref h_t) (C := RX0) (T := TX0) (N := 5) hx hb hts huX0 hown hK hP 0 rfl rfl 2 (by decide) hf19 (fun _ h9 => h9) rfl dX0_read_15 ?_
  refine lv_iconst (v := (0 : Int32)) hx hb dX0_read_18 (by decide) ?_
  refine va_put (D := (dC, dI)) (ci := 5) (v := .int (0 : Int32)) (ty := .int) (C := RX5) (T := TX5) (N := 1) hx hb hts huX5 tyX5 tyX5_ok nmX5 hown hK hP hD hS 6 rfl rfl 0 (by decide) hf36 (fun _ h9 => h9) rfl (by decide +kernel) rfl rfl (Nat.le_of_ble_eq_true rfl) dX0_read_19 (fun H locs hP hD hS => ?_)
  have hP : va_P (dC, dI) vwCl (wd_X0r h_ch h_g h_row h_bl h_wh h_ac h_t h_grow h_gbl h_gwh h_gac c_bl c_wh c_ac c_gbl c_gwh c_gac n_row n_grow a1 q1 g_width g_height g_size g_all g_notFirstColumn g_notLastColumn row_law row_latest row_opener row_blackThen row_whiteThen bl wh ac (0 : Int32) grow_law grow_latest grow_opener grow_blackThen grow_whiteThen gbl gwh gac) H := hP
  have hD : va_D A (wd_X0r h_ch h_g h_row h_bl h_wh h_ac h_t h_grow h_gbl h_gwh h_gac c_bl c_wh c_ac c_gbl c_gwh c_gac n_row n_grow a1 q1 g_width g_height g_size g_all g_notFirstColumn g_notLastColumn row_law row_latest row_opener row_blackThen row_whiteThen bl wh ac (0 : Int32) grow_law grow_latest grow_opener grow_blackThen grow_whiteThen gbl gwh gac) := hD
  refine lv_aload_n hx hb dX0_read_22 rfl (lv_at hl 0 rfl) ?_
  refine va_get (D := (dC, dI)) (ci := 0) (v := .ref h_row) (C := RX0) (T := TX0) (N := 5) hx hb hts huX0 hown hK hP 0 rfl rfl 1 (by decide) hf15 (fun _ h9 => h9) rfl dX0_read_23 ?_
  refine lv_aload_n hx hb dX0_read_26 rfl (lv_at hl 1 rfl) ?_
  refine lv_iconst (v := (1 : Int32)) hx hb dX0_read_27 (by decide) ?_
  obtain ⟨q2, hq2, hr⟩ := bd_use hr
  refine pcV_l (As := [.int (1 : Int32)]) (rest := [.ref h_row]) S (c_X4_stonesOf l dC dI h_grow h_g h_gbl h_gwh h_gac c_gbl c_gwh c_gac n_grow grow_law grow_latest grow_opener grow_blackThen grow_whiteThen g_width g_height g_size g_all g_notFirstColumn g_notLastColumn gbl gwh gac (1 : Int32) q2 hq2) (cwV 1 hts gX0_read_X4_stonesOf rfl rfl rfl (by decide +kernel) ⟨Nat.le_trans (m := rm_X0_read.frames) (by decide) hRf, Nat.le_trans (m := rm_X0_read.locals) (by decide) hRl⟩) hN hP hK ⟨Nat.zero_le _, Nat.zero_le _⟩ [7, 1, 8, 9, 10] rfl [3, 4, 5] rfl 7 4 rfl rfl rfl hl.1 rfl (Nat.le_of_ble_eq_true rfl) dX0_read_28 ?_
  refine lv_aload_n hx hb dX0_read_31 rfl (lv_at hl 1 rfl) ?_
  refine lv_iconst (v := (2 : Int32)) hx hb dX0_read_32 (by decide) ?_
  obtain ⟨q3, hq3, hr⟩ := bd_use hr
  refine pcV_l (As := [.int (2 : Int32)]) (rest := [.long q2, .ref h_row]) S (c_X4_stonesOf l dC dI h_grow h_g h_gbl h_gwh h_gac c_gbl c_gwh c_gac n_grow grow_law grow_latest grow_opener grow_blackThen grow_whiteThen g_width g_height g_size g_all g_notFirstColumn g_notLastColumn gbl gwh gac (2 : Int32) q3 hq3) (cwV 1 hts gX0_read_X4_stonesOf rfl rfl rfl (by decide +kernel) ⟨Nat.le_trans (m := rm_X0_read.frames) (by decide) hRf, Nat.le_trans (m := rm_X0_read.locals) (by decide) hRl⟩) hN hP hK ⟨Nat.zero_le _, Nat.zero_le _⟩ [7, 1, 8, 9, 10] rfl [3, 4, 5] rfl 7 4 rfl rfl rfl hl.1 rfl (Nat.le_of_ble_eq_true rfl) dX0_read_33 ?_
  refine lv_aload_n hx hb dX0_read_36 rfl (lv_at hl 0 rfl) ?_
  refine va_get (D := (dC, dI)) (ci := 0) (v := .int q1) (C := RX0) (T := TX0) (N := 5) hx hb hts huX0 hown hK hP 0 rfl rfl 4 (by decide) hf33 (fun _ h9 => h9) rfl dX0_read_37 ?_
  obtain ⟨q4, hq4, hr⟩ := bd_use hr
  refine pcN_i (As := [.int q1]) (rest := [.long q3, .long q2, .ref h_row]) S (c_X6_other l dC dI q1 q4 hq4) ⟨va_cnB 1 hts gX0_read_X6_other_n45 rfl rfl rfl hN.2.1 hiniX6_other (by decide +kernel) ⟨Nat.le_trans (m := rm_X0_read.frames) (by decide) hRf, Nat.le_trans (m := rm_X0_read.locals) (by decide) hRl⟩, hstX6_other, trivial⟩ hN hP hK ⟨Nat.zero_le _, Nat.zero_le _⟩ rfl hl.1 rfl (Nat.le_of_ble_eq_true rfl) dX0_read_40 ?_
  refine lv_iconst (v := (0 : Int32)) hx hb dX0_read_43 (by decide) ?_
  obtain ⟨q5, hq5, hr⟩ := bd_use hr
  refine icV_v (As := [.long q2, .long q3, .int q4, .int (0 : Int32)]) (rest := []) (ws2 := (wd_X0r h_ch h_g h_row h_bl h_wh h_ac h_t h_grow h_gbl h_gwh h_gac c_bl c_wh c_ac c_gbl c_gwh c_gac n_row n_grow a1 q1 g_width g_height g_size g_all g_notFirstColumn g_notLastColumn q5.1 q5.2.1 q5.2.2.1 row_blackThen row_whiteThen q5.2.2.2.1 q5.2.2.2.2 ac (0 : Int32) grow_law grow_latest grow_opener grow_blackThen grow_whiteThen gbl gwh gac)) S (c_X4_begin l dC dI h_row h_g h_bl h_wh h_ac c_bl c_wh c_ac n_row row_law row_latest row_opener row_blackThen row_whiteThen g_width g_height g_size g_all g_notFirstColumn g_notLastColumn bl wh ac H.size q2 q3 q4 (0 : Int32) q5 hq5) (cwV 4 hts gX0_read_X4_begin rfl rfl rfl (by decide +kernel) ⟨Nat.le_trans (m := rm_X0_read.frames) (by decide) hRf, Nat.le_trans (m := rm_X0_read.locals) (by decide) hRl⟩) hN hP hK hD hS hA ⟨Nat.zero_le _, Nat.zero_le _⟩ [2, 1, 3, 4, 5] [0, 6, 7, 8, 9, 10] [0, 7, 6, 8, 9, 10, 1, 2, 3, 4, 5] rfl rfl rfl rfl rfl (by decide) rfl rfl rfl [0, 1, 2] rfl 2 4 rfl rfl rfl hl.1 rfl (Nat.le_of_ble_eq_true rfl) dX0_read_44 (fun H locs hP hD hS => ?_)
  refine lv_aload_n hx hb dX0_read_47 rfl (lv_at hl 0 rfl) ?_
  refine lv_iload_n hx hb dX0_read_48 rfl (lv_at hl 3 rfl) ?_
  obtain ⟨q6, hq6, hr⟩ := bd_use hr
  refine icV_i (As := [.int a2]) (rest := []) (ws2 := (wd_X0r h_ch h_g h_row h_bl h_wh h_ac h_t h_grow h_gbl h_gwh h_gac c_bl c_wh c_ac c_gbl c_gwh c_gac n_row n_grow a1 q1 g_width g_height g_size g_all g_notFirstColumn g_notLastColumn q5.1 q6.2.1 q5.2.2.1 q6.2.2.1 q6.2.2.2.1 q6.2.2.2.2.1 q6.2.2.2.2.2.1 q6.2.2.2.2.2.2.1 q6.2.2.2.2.2.2.2 grow_law grow_latest grow_opener grow_blackThen grow_whiteThen gbl gwh gac)) S (cz_X0_caughtIn l dC dI h_ch h_g h_row h_bl h_wh h_ac h_t c_bl c_wh c_ac n_row a1 q1 g_width g_height g_size g_all g_notFirstColumn g_notLastColumn q5.1 q5.2.1 q5.2.2.1 row_blackThen row_whiteThen q5.2.2.2.1 q5.2.2.2.2 ac (0 : Int32) H.size a2 q6 hq6) (cwV 1 hts gX0_read_X0_caughtIn rfl rfl rfl (by decide +kernel) ⟨Nat.le_trans (m := rm_X0_read.frames) (by decide) hRf, Nat.le_trans (m := rm_X0_read.locals) (by decide) hRl⟩) hN hP hK hD hS hA ⟨Nat.zero_le _, Nat.zero_le _⟩ [0, 1, 2, 3, 4, 5, 6] [7, 8, 9, 10] [4, 5, 6, 7, 8, 9, 10, 0, 1, 2, 3] rfl rfl rfl rfl rfl (by decide) rfl rfl rfl [0, 1, 2] rfl 0 0 rfl rfl rfl hl.1 rfl (Nat.le_of_ble_eq_true rfl) dX0_read_49 (fun H locs hP hD hS => ?_)
  obtain rfl := Option.some.inj hr
  exact kret _ _ _ _ dX0_read_52 hP hD hS

def f_X1_read (n_row : Nat) (fi_target : Int32) (fi_attacked : Int32) (fi_decidingAct : Int32) (g_width : Int32) (g_size : Int32) (g_all : Int64) (g_notFirstColumn : Int64) (g_notLastColumn : Int64) (row_law : Int32) (row_latest : Int32) (row_opener : Int32) (row_blackThen : Int64) (row_whiteThen : Int64) (bl : Nat → Int64) (wh : Nat → Int64) (ac : Nat → Int32) (t_made : Int32) (a0 : Int32) (a1 : Int32) : Option (Int32 × Int32 × Int32 × Int32 × Int32 × Int64 × Int64 × (Nat → Int64) × (Nat → Int64) × (Nat → Int32) × Int32) :=
  (f_X4_colourAt n_row row_latest bl wh a0).bind fun q1 =>
  (fz_X1_takenIn n_row a0 q1 (-1 : Int32) g_width g_size g_all g_notFirstColumn g_notLastColumn row_law row_latest row_opener row_blackThen row_whiteThen bl wh ac (0 : Int32) a1).bind fun q2 =>
  some (q2.1, a0, q1, q2.2.1, q2.2.2.1, q2.2.2.2.1, q2.2.2.2.2.1, q2.2.2.2.2.2.1, q2.2.2.2.2.2.2.1, q2.2.2.2.2.2.2.2.1, q2.2.2.2.2.2.2.2.2)

abbrev rm_X1_read : Room := { frames := 21, cells := 0, slots := 0, locals := 488 }
set_option maxHeartbeats 4000000 in
set_option maxRecDepth 100000 in
theorem c_X1_read (l : Launch) (dC : Nat → ClassId) (dI : Nat → Nat → Nat) (h_fi h_g h_row h_bl h_wh h_ac h_t : Nat) (c_bl c_wh c_ac : ClassId) (n_row : Nat) (fi_target fi_attacked fi_decidingAct g_width g_height g_size : Int32) (g_all g_notFirstColumn g_notLastColumn : Int64) (row_law row_latest row_opener : Int32) (row_blackThen row_whiteThen : Int64) (bl wh : Nat → Int64) (ac : Nat → Int32) (t_made : Int32) (sz : Nat) (a0 : Int32) (a1 : Int32) (q : Int32 × Int32 × Int32 × Int32 × Int32 × Int64 × Int64 × (Nat → Int64) × (Nat → Int64) × (Nat → Int32) × Int32) (hr : f_X1_read n_row fi_target fi_attacked fi_decidingAct g_width g_size g_all g_notFirstColumn g_notLastColumn row_law row_latest row_opener row_blackThen row_whiteThen bl wh ac t_made a0 a1 = some q) : Met l yX1_read wsX1_read rm_X1_read (PrI (dC, dI) (wd_X1 h_fi h_g h_row h_bl h_wh h_ac h_t c_bl c_wh c_ac n_row fi_target fi_attacked fi_decidingAct g_width g_height g_size g_all g_notFirstColumn g_notLastColumn row_law row_latest row_opener row_blackThen row_whiteThen bl wh ac t_made) (td_X1 c_bl c_wh c_ac) sz [.ref h_fi, .int a0, .int a1]) (QIi (dC, dI) (wd_X1 h_fi h_g h_row h_bl h_wh h_ac h_t c_bl c_wh c_ac n_row fi_target fi_attacked fi_decidingAct g_width g_height g_size g_all g_notFirstColumn g_notLastColumn row_law row_latest row_opener row_blackThen row_whiteThen bl wh ac t_made) (td_X1 c_bl c_wh c_ac) sz q.1 (wd_X1 h_fi h_g h_row h_bl h_wh h_ac h_t c_bl c_wh c_ac n_row q.2.1 q.2.2.1 q.2.2.2.1 g_width g_height g_size g_all g_notFirstColumn g_notLastColumn row_law q.2.2.2.2.1 row_opener q.2.2.2.2.2.1 q.2.2.2.2.2.2.1 q.2.2.2.2.2.2.2.1 q.2.2.2.2.2.2.2.2.1 q.2.2.2.2.2.2.2.2.2.1 q.2.2.2.2.2.2.2.2.2.2)) 0 0 (va_A (wd_X1 h_fi h_g h_row h_bl h_wh h_ac h_t c_bl c_wh c_ac n_row fi_target fi_attacked fi_decidingAct g_width g_height g_size g_all g_notFirstColumn g_notLastColumn row_law row_latest row_opener row_blackThen row_whiteThen bl wh ac t_made) sz) := by
  refine mkI_i (cc := cX1_read) (nL := 3) (by decide) rfl (Nat.le_of_ble_eq_true rfl) ?_
  intro p e R s m args below meth c H0 H locs A Q ls hRf hRl S hN hP hK hD hA hS hl kret
  have hl : lv_has ls 3 [(0, .ref h_fi), (1, .int a0), (2, .int a1)] := hl
  obtain ⟨hx, hb, hml, hown, hts⟩ := S
  have hown : s.vm.findClass RX1 = some m.cls := hown
  have S : CallFix p m c cX1_read 3 s args wsX1_read RX1 := ⟨hx, hb, hml, hown, hts⟩
  have huX1 : ∀ w ∈ u_ws RX1 TX1 6, w ∈ wsX1_read := by decide +kernel
  have hf23 := hts (.fieldLink RX1 23 "EyeBoard$Fight" "target" "I") (by decide +kernel)
  have hf15 := hts (.fieldLink RX1 15 "EyeBoard$Fight" "row" "LEyeBoard$Row;") (by decide +kernel)
  have hf33 := hts (.fieldLink RX1 33 "EyeBoard$Fight" "attacked" "I") (by decide +kernel)
  have hf36 := hts (.fieldLink RX1 36 "EyeBoard$Fight" "decidingAct" "I") (by decide +kernel)
  have hf19 := hts (.fieldLink RX1 19 "EyeBoard$Fight" "tried" "LEyeBoard$Tries;") (by decide +kernel)
  have huX5 : ∀ w ∈ u_ws RX5 TX5 1, w ∈ wsX1_read := by decide +kernel
  have hf39 := hts (.fieldLink RX1 39 "EyeBoard$Tries" "made" "I") (by decide +kernel)
  unfold f_X1_read at hr
  refine lv_aload_n hx hb dX1_read_0 rfl (lv_at hl 0 rfl) ?_
  refine lv_iload_n hx hb dX1_read_1 rfl (lv_at hl 1 rfl) ?_
  refine va_put (D := (dC, dI)) (ci := 1) (v := .int a0) (ty := .int) (C := RX1) (T := TX1) (N := 6) hx hb hts huX1 tyX1 tyX1_ok nmX1 hown hK hP hD hS 0 rfl rfl 3 (by decide) hf23 (fun _ h9 => h9) rfl (by decide +kernel) rfl rfl (Nat.le_of_ble_eq_true rfl) dX1_read_2 (fun H locs hP hD hS => ?_)
  have hP : va_P (dC, dI) vwCl (wd_X1 h_fi h_g h_row h_bl h_wh h_ac h_t c_bl c_wh c_ac n_row a0 fi_attacked fi_decidingAct g_width g_height g_size g_all g_notFirstColumn g_notLastColumn row_law row_latest row_opener row_blackThen row_whiteThen bl wh ac t_made) H := hP
  have hD : va_D A (wd_X1 h_fi h_g h_row h_bl h_wh h_ac h_t c_bl c_wh c_ac n_row a0 fi_attacked fi_decidingAct g_width g_height g_size g_all g_notFirstColumn g_notLastColumn row_law row_latest row_opener row_blackThen row_whiteThen bl wh ac t_made) := hD
  refine lv_aload_n hx hb dX1_read_5 rfl (lv_at hl 0 rfl) ?_
  refine lv_aload_n hx hb dX1_read_6 rfl (lv_at hl 0 rfl) ?_
  refine va_get (D := (dC, dI)) (ci := 1) (v := .ref h_row) (C := RX1) (T := TX1) (N := 6) hx hb hts huX1 hown hK hP 0 rfl rfl 1 (by decide) hf15 (fun _ h9 => h9) rfl dX1_read_7 ?_
  refine lv_iload_n hx hb dX1_read_10 rfl (lv_at hl 1 rfl) ?_
  obtain ⟨q1, hq1, hr⟩ := bd_use hr
  refine pcV_i (As := [.int a0]) (rest := [.ref h_fi]) S (c_X4_colourAt l dC dI h_row h_g h_bl h_wh h_ac c_bl c_wh c_ac n_row row_law row_latest row_opener row_blackThen row_whiteThen g_width g_height g_size g_all g_notFirstColumn g_notLastColumn bl wh ac a0 q1 hq1) (cwV 1 hts gX1_read_X4_colourAt rfl rfl rfl (by decide +kernel) ⟨Nat.le_trans (m := rm_X1_read.frames) (by decide) hRf, Nat.le_trans (m := rm_X1_read.locals) (by decide) hRl⟩) hN hP hK ⟨Nat.zero_le _, Nat.zero_le _⟩ [2, 1, 3, 4, 5] rfl [0, 1, 2] rfl 2 4 rfl rfl rfl hl.1 rfl (Nat.le_of_ble_eq_true rfl) dX1_read_11 ?_
  refine va_put (D := (dC, dI)) (ci := 1) (v := .int q1) (ty := .int) (C := RX1) (T := TX1) (N := 6) hx hb hts huX1 tyX1 tyX1_ok nmX1 hown hK hP hD hS 0 rfl rfl 4 (by decide) hf33 (fun _ h9 => h9) rfl (by decide +kernel) rfl rfl (Nat.le_of_ble_eq_true rfl) dX1_read_14 (fun H locs hP hD hS => ?_)
  have hP : va_P (dC, dI) vwCl (wd_X1 h_fi h_g h_row h_bl h_wh h_ac h_t c_bl c_wh c_ac n_row a0 q1 fi_decidingAct g_width g_height g_size g_all g_notFirstColumn g_notLastColumn row_law row_latest row_opener row_blackThen row_whiteThen bl wh ac t_made) H := hP
  have hD : va_D A (wd_X1 h_fi h_g h_row h_bl h_wh h_ac h_t c_bl c_wh c_ac n_row a0 q1 fi_decidingAct g_width g_height g_size g_all g_notFirstColumn g_notLastColumn row_law row_latest row_opener row_blackThen row_whiteThen bl wh ac t_made) := hD
  refine lv_aload_n hx hb dX1_read_17 rfl (lv_at hl 0 rfl) ?_
  refine lv_iconst (v := (-1 : Int32)) hx hb dX1_read_18 (by decide) ?_
  refine va_put (D := (dC, dI)) (ci := 1) (v := .int (-1 : Int32)) (ty := .int) (C := RX1) (T := TX1) (N := 6) hx hb hts huX1 tyX1 tyX1_ok nmX1 hown hK hP hD hS 0 rfl rfl 5 (by decide) hf36 (fun _ h9 => h9) rfl (by decide +kernel) rfl rfl (Nat.le_of_ble_eq_true rfl) dX1_read_19 (fun H locs hP hD hS => ?_)
  have hP : va_P (dC, dI) vwCl (wd_X1 h_fi h_g h_row h_bl h_wh h_ac h_t c_bl c_wh c_ac n_row a0 q1 (-1 : Int32) g_width g_height g_size g_all g_notFirstColumn g_notLastColumn row_law row_latest row_opener row_blackThen row_whiteThen bl wh ac t_made) H := hP
  have hD : va_D A (wd_X1 h_fi h_g h_row h_bl h_wh h_ac h_t c_bl c_wh c_ac n_row a0 q1 (-1 : Int32) g_width g_height g_size g_all g_notFirstColumn g_notLastColumn row_law row_latest row_opener row_blackThen row_whiteThen bl wh ac t_made) := hD
  refine lv_aload_n hx hb dX1_read_22 rfl (lv_at hl 0 rfl) ?_
  refine va_get (D := (dC, dI)) (ci := 1) (v := .ref h_t) (C := RX1) (T := TX1) (N := 6) hx hb hts huX1 hown hK hP 0 rfl rfl 2 (by decide) hf19 (fun _ h9 => h9) rfl dX1_read_23 ?_
  refine lv_iconst (v := (0 : Int32)) hx hb dX1_read_26 (by decide) ?_
  refine va_put (D := (dC, dI)) (ci := 5) (v := .int (0 : Int32)) (ty := .int) (C := RX5) (T := TX5) (N := 1) hx hb hts huX5 tyX5 tyX5_ok nmX5 hown hK hP hD hS 6 rfl rfl 0 (by decide) hf39 (fun _ h9 => h9) rfl (by decide +kernel) rfl rfl (Nat.le_of_ble_eq_true rfl) dX1_read_27 (fun H locs hP hD hS => ?_)
  have hP : va_P (dC, dI) vwCl (wd_X1 h_fi h_g h_row h_bl h_wh h_ac h_t c_bl c_wh c_ac n_row a0 q1 (-1 : Int32) g_width g_height g_size g_all g_notFirstColumn g_notLastColumn row_law row_latest row_opener row_blackThen row_whiteThen bl wh ac (0 : Int32)) H := hP
  have hD : va_D A (wd_X1 h_fi h_g h_row h_bl h_wh h_ac h_t c_bl c_wh c_ac n_row a0 q1 (-1 : Int32) g_width g_height g_size g_all g_notFirstColumn g_notLastColumn row_law row_latest row_opener row_blackThen row_whiteThen bl wh ac (0 : Int32)) := hD
  refine lv_aload_n hx hb dX1_read_30 rfl (lv_at hl 0 rfl) ?_
  refine lv_iload_n hx hb dX1_read_31 rfl (lv_at hl 2 rfl) ?_
  obtain ⟨q2, hq2, hr⟩ := bd_use hr
  refine icV_i (As := [.int a1]) (rest := []) (ws2 := (wd_X1 h_fi h_g h_row h_bl h_wh h_ac h_t c_bl c_wh c_ac n_row a0 q1 q2.2.1 g_width g_height g_size g_all g_notFirstColumn g_notLastColumn row_law q2.2.2.1 row_opener q2.2.2.2.1 q2.2.2.2.2.1 q2.2.2.2.2.2.1 q2.2.2.2.2.2.2.1 q2.2.2.2.2.2.2.2.1 q2.2.2.2.2.2.2.2.2)) S (cz_X1_takenIn l dC dI h_fi h_g h_row h_bl h_wh h_ac h_t c_bl c_wh c_ac n_row a0 q1 (-1 : Int32) g_width g_height g_size g_all g_notFirstColumn g_notLastColumn row_law row_latest row_opener row_blackThen row_whiteThen bl wh ac (0 : Int32) H.size a1 q2 hq2) (cwV 1 hts gX1_read_X1_takenIn rfl rfl rfl (by decide +kernel) ⟨Nat.le_trans (m := rm_X1_read.frames) (by decide) hRf, Nat.le_trans (m := rm_X1_read.locals) (by decide) hRl⟩) hN hP hK hD hS hA ⟨Nat.zero_le _, Nat.zero_le _⟩ [0, 1, 2, 3, 4, 5, 6] [] [0, 1, 2, 3, 4, 5, 6] rfl rfl rfl rfl rfl (by decide) rfl rfl rfl [0, 1, 2] rfl 0 1 rfl rfl rfl hl.1 rfl (Nat.le_of_ble_eq_true rfl) dX1_read_32 (fun H locs hP hD hS => ?_)
  obtain rfl := Option.some.inj hr
  exact kret _ _ _ _ dX1_read_35 hP hD hS

def f_X6_board (n_row : Nat) (g_width : Int32) (g_height : Int32) (g_size : Int32) (g_all : Int64) (g_notFirstColumn : Int64) (g_notLastColumn : Int64) (row_law : Int32) (row_latest : Int32) (row_opener : Int32) (bl : Nat → Int64) (wh : Nat → Int64) (a0 : Int32) (a1 : Int32) (a2 : Int32) : Option (Int32 × Int32 × Int32 × Int32 × Int64 × Int64 × Int64 × Int32 × Int32 × Int32 × (Nat → Int64) × (Nat → Int64)) :=
  (f_X6_isSide a0).bind fun q1 =>
  if q1 = 0 then (
    some ((-2 : Int32), g_width, g_height, g_size, g_all, g_notFirstColumn, g_notLastColumn, row_law, row_latest, row_opener, bl, wh)
  )
  else (
    (f_X6_isSide a1).bind fun q3 =>
    if q3 = 0 then (
      some ((-2 : Int32), g_width, g_height, g_size, g_all, g_notFirstColumn, g_notLastColumn, row_law, row_latest, row_opener, bl, wh)
    )
    else (
      if a2 < 0 then (
        some ((-2 : Int32), g_width, g_height, g_size, g_all, g_notFirstColumn, g_notLastColumn, row_law, row_latest, row_opener, bl, wh)
      )
      else (
        if a2 ≤ (2 : Int32) then (
          (f_X2_measure g_width g_height g_size g_all g_notFirstColumn g_notLastColumn a0 a1).bind fun q7 =>
          (f_X4_begin n_row row_law row_latest row_opener bl wh (0 : Int64) (0 : Int64) (1 : Int32) a2).bind fun q8 =>
          some (row_latest, q7.1, q7.2.1, q7.2.2.1, q7.2.2.2.1, q7.2.2.2.2.1, q7.2.2.2.2.2, q8.1, q8.2.1, q8.2.2.1, q8.2.2.2.1, q8.2.2.2.2)
        )
        else (
          some ((-2 : Int32), g_width, g_height, g_size, g_all, g_notFirstColumn, g_notLastColumn, row_law, row_latest, row_opener, bl, wh)
        )
      )
    )
  )

abbrev rm_X6_board : Room := { frames := 2, cells := 0, slots := 0, locals := 51 }
set_option maxHeartbeats 4000000 in
set_option maxRecDepth 100000 in
theorem c_X6_board (l : Launch) (dC : Nat → ClassId) (dI : Nat → Nat → Nat) (h_eb h_g h_row h_bl h_wh h_ac h_life h_t h_ch h_hrow h_hbl h_hwh h_hac h_fi : Nat) (c_bl c_wh c_ac c_hbl c_hwh c_hac : ClassId) (n_row n_hrow : Nat) (eb_winningAct g_width g_height g_size : Int32) (g_all g_notFirstColumn g_notLastColumn : Int64) (row_law row_latest row_opener : Int32) (row_blackThen row_whiteThen : Int64) (bl wh : Nat → Int64) (ac : Nat → Int32) (t_made ch_target ch_chased hrow_law hrow_latest hrow_opener : Int32) (hrow_blackThen hrow_whiteThen : Int64) (hbl hwh : Nat → Int64) (hac : Nat → Int32) (fi_target fi_attacked fi_decidingAct : Int32) (sz : Nat) (a0 : Int32) (a1 : Int32) (a2 : Int32) (q : Int32 × Int32 × Int32 × Int32 × Int64 × Int64 × Int64 × Int32 × Int32 × Int32 × (Nat → Int64) × (Nat → Int64)) (hr : f_X6_board n_row g_width g_height g_size g_all g_notFirstColumn g_notLastColumn row_law row_latest row_opener bl wh a0 a1 a2 = some q) : Met l yX6_board wsX6_board rm_X6_board (PrI (dC, dI) (wd_X6 h_eb h_g h_row h_bl h_wh h_ac h_life h_t h_ch h_hrow h_hbl h_hwh h_hac h_fi c_bl c_wh c_ac c_hbl c_hwh c_hac n_row n_hrow eb_winningAct g_width g_height g_size g_all g_notFirstColumn g_notLastColumn row_law row_latest row_opener row_blackThen row_whiteThen bl wh ac t_made ch_target ch_chased hrow_law hrow_latest hrow_opener hrow_blackThen hrow_whiteThen hbl hwh hac fi_target fi_attacked fi_decidingAct) (td_X6 c_bl c_wh c_ac c_hbl c_hwh c_hac) sz [.ref h_eb, .int a0, .int a1, .int a2]) (QIi (dC, dI) (wd_X6 h_eb h_g h_row h_bl h_wh h_ac h_life h_t h_ch h_hrow h_hbl h_hwh h_hac h_fi c_bl c_wh c_ac c_hbl c_hwh c_hac n_row n_hrow eb_winningAct g_width g_height g_size g_all g_notFirstColumn g_notLastColumn row_law row_latest row_opener row_blackThen row_whiteThen bl wh ac t_made ch_target ch_chased hrow_law hrow_latest hrow_opener hrow_blackThen hrow_whiteThen hbl hwh hac fi_target fi_attacked fi_decidingAct) (td_X6 c_bl c_wh c_ac c_hbl c_hwh c_hac) sz q.1 (wd_X6 h_eb h_g h_row h_bl h_wh h_ac h_life h_t h_ch h_hrow h_hbl h_hwh h_hac h_fi c_bl c_wh c_ac c_hbl c_hwh c_hac n_row n_hrow eb_winningAct q.2.1 q.2.2.1 q.2.2.2.1 q.2.2.2.2.1 q.2.2.2.2.2.1 q.2.2.2.2.2.2.1 q.2.2.2.2.2.2.2.1 q.2.2.2.2.2.2.2.2.1 q.2.2.2.2.2.2.2.2.2.1 row_blackThen row_whiteThen q.2.2.2.2.2.2.2.2.2.2.1 q.2.2.2.2.2.2.2.2.2.2.2 ac t_made ch_target ch_chased hrow_law hrow_latest hrow_opener hrow_blackThen hrow_whiteThen hbl hwh hac fi_target fi_attacked fi_decidingAct)) 0 0 (va_A (wd_X6 h_eb h_g h_row h_bl h_wh h_ac h_life h_t h_ch h_hrow h_hbl h_hwh h_hac h_fi c_bl c_wh c_ac c_hbl c_hwh c_hac n_row n_hrow eb_winningAct g_width g_height g_size g_all g_notFirstColumn g_notLastColumn row_law row_latest row_opener row_blackThen row_whiteThen bl wh ac t_made ch_target ch_chased hrow_law hrow_latest hrow_opener hrow_blackThen hrow_whiteThen hbl hwh hac fi_target fi_attacked fi_decidingAct) sz) := by
  refine mkI_i (cc := cX6_board) (nL := 5) (by decide) rfl (Nat.le_of_ble_eq_true rfl) ?_
  intro p e R s m args below meth c H0 H locs A Q ls hRf hRl S hN hP hK hD hA hS hl kret
  have hl : lv_has ls 5 [(0, .ref h_eb), (1, .int a0), (2, .int a1), (3, .int a2)] := hl
  obtain ⟨hx, hb, hml, hown, hts⟩ := S
  have hown : s.vm.findClass RX6 = some m.cls := hown
  have S : CallFix p m c cX6_board 5 s args wsX6_board RX6 := ⟨hx, hb, hml, hown, hts⟩
  have huX6 : ∀ w ∈ u_ws RX6 TX6 7, w ∈ wsX6_board := by decide +kernel
  have hf25 := hts (.fieldLink RX6 25 "EyeBoard" "row" "LEyeBoard$Row;") (by decide +kernel)
  have huX4 : ∀ w ∈ u_ws RX4 TX4 9, w ∈ wsX6_board := by decide +kernel
  have hf73 := hts (.fieldLink RX6 73 "EyeBoard$Row" "latest" "I") (by decide +kernel)
  have hf12 := hts (.fieldLink RX6 12 "EyeBoard" "grid" "LEyeBoard$Grid;") (by decide +kernel)
  unfold f_X6_board at hr
  refine lv_iload_n hx hb dX6_board_0 rfl (lv_at hl 1 rfl) ?_
  obtain ⟨q1, hq1, hr⟩ := bd_use hr
  refine pcS_i (As := [.int a0]) (rest := []) S (c_X6_isSide l dC dI a0 q1 hq1) (va_cwS 1 hts gX6_board_X6_isSide rfl rfl rfl (by decide +kernel) ⟨Nat.le_trans (m := rm_X6_board.frames) (by decide) hRf, Nat.le_trans (m := rm_X6_board.locals) (by decide) hRl⟩) hN hP hK ⟨Nat.zero_le _, Nat.zero_le _⟩ rfl hl.1 rfl (Nat.le_of_ble_eq_true rfl) dX6_board_1 ?_
  refine lv_if_eq (tgt := 23) hx hb dX6_board_4 (by decide) (fun c2 => ?_) (fun c2 => ?_)
  · have hr := ite_p hr c2
    refine lv_bipush (v := (-2 : Int32)) hx hb dX6_board_23 (by decide) ?_
    obtain rfl := Option.some.inj hr
    exact kret _ _ _ _ dX6_board_25 hP hD hS
  · have hr := ite_n hr c2
    refine lv_iload_n hx hb dX6_board_7 rfl (lv_at hl 2 rfl) ?_
    obtain ⟨q3, hq3, hr⟩ := bd_use hr
    refine pcS_i (As := [.int a1]) (rest := []) S (c_X6_isSide l dC dI a1 q3 hq3) (va_cwS 1 hts gX6_board_X6_isSide rfl rfl rfl (by decide +kernel) ⟨Nat.le_trans (m := rm_X6_board.frames) (by decide) hRf, Nat.le_trans (m := rm_X6_board.locals) (by decide) hRl⟩) hN hP hK ⟨Nat.zero_le _, Nat.zero_le _⟩ rfl hl.1 rfl (Nat.le_of_ble_eq_true rfl) dX6_board_8 ?_
    refine lv_if_eq (tgt := 23) hx hb dX6_board_11 (by decide) (fun c4 => ?_) (fun c4 => ?_)
    · have hr := ite_p hr c4
      refine lv_bipush (v := (-2 : Int32)) hx hb dX6_board_23 (by decide) ?_
      obtain rfl := Option.some.inj hr
      exact kret _ _ _ _ dX6_board_25 hP hD hS
    · have hr := ite_n hr c4
      refine lv_iload_n hx hb dX6_board_14 rfl (lv_at hl 3 rfl) ?_
      refine lv_if_lt (tgt := 23) hx hb dX6_board_15 (by decide) (fun c5 => ?_) (fun c5 => ?_)
      · have hr := ite_p hr c5
        refine lv_bipush (v := (-2 : Int32)) hx hb dX6_board_23 (by decide) ?_
        obtain rfl := Option.some.inj hr
        exact kret _ _ _ _ dX6_board_25 hP hD hS
      · have hr := ite_n hr c5
        refine lv_iload_n hx hb dX6_board_18 rfl (lv_at hl 3 rfl) ?_
        refine lv_iconst (v := (2 : Int32)) hx hb dX6_board_19 (by decide) ?_
        refine lv_icmp_le (tgt := 26) hx hb dX6_board_20 (by decide) (fun c6 => ?_) (fun c6 => ?_)
        · have hr := ite_p hr c6
          refine lv_aload_n hx hb dX6_board_26 rfl (lv_at hl 0 rfl) ?_
          refine va_get (D := (dC, dI)) (ci := 6) (v := .ref h_row) (C := RX6) (T := TX6) (N := 7) hx hb hts huX6 hown hK hP 0 rfl rfl 1 (by decide) hf25 (fun _ h9 => h9) rfl dX6_board_27 ?_
          refine va_get (D := (dC, dI)) (ci := 4) (v := .int row_latest) (C := RX4) (T := TX4) (N := 9) hx hb hts huX4 hown hK hP 2 rfl rfl 5 (by decide) hf73 (fun _ h9 => h9) rfl dX6_board_30 ?_
          refine lv_istore (lv' := [(4, .int row_latest), (0, .ref h_eb), (1, .int a0), (2, .int a1), (3, .int a2)]) hx hb dX6_board_33 hl (by decide) rfl (fun ls hl => ?_)
          refine lv_aload_n hx hb dX6_board_35 rfl (lv_at hl 1 rfl) ?_
          refine va_get (D := (dC, dI)) (ci := 6) (v := .ref h_g) (C := RX6) (T := TX6) (N := 7) hx hb hts huX6 hown hK hP 0 rfl rfl 0 (by decide) hf12 (fun _ h9 => h9) rfl dX6_board_36 ?_
          refine lv_iload_n hx hb dX6_board_39 rfl (lv_at hl 2 rfl) ?_
          refine lv_iload_n hx hb dX6_board_40 rfl (lv_at hl 3 rfl) ?_
          obtain ⟨q7, hq7, hr⟩ := bd_use hr
          refine icV_v (As := [.int a0, .int a1]) (rest := []) (ws2 := (wd_X6 h_eb h_g h_row h_bl h_wh h_ac h_life h_t h_ch h_hrow h_hbl h_hwh h_hac h_fi c_bl c_wh c_ac c_hbl c_hwh c_hac n_row n_hrow eb_winningAct q7.1 q7.2.1 q7.2.2.1 q7.2.2.2.1 q7.2.2.2.2.1 q7.2.2.2.2.2 row_law row_latest row_opener row_blackThen row_whiteThen bl wh ac t_made ch_target ch_chased hrow_law hrow_latest hrow_opener hrow_blackThen hrow_whiteThen hbl hwh hac fi_target fi_attacked fi_decidingAct)) S (c_X2_measure l dC dI h_g g_width g_height g_size g_all g_notFirstColumn g_notLastColumn H.size a0 a1 q7 hq7) (cwV 2 hts gX6_board_X2_measure rfl rfl rfl (by decide +kernel) ⟨Nat.le_trans (m := rm_X6_board.frames) (by decide) hRf, Nat.le_trans (m := rm_X6_board.locals) (by decide) hRl⟩) hN hP hK hD hS hA ⟨Nat.zero_le _, Nat.zero_le _⟩ [1] [0, 2, 3, 4, 5, 6, 7, 8, 9, 10, 11, 12, 13] [0, 13, 1, 2, 3, 4, 5, 6, 7, 8, 9, 10, 11, 12] rfl rfl rfl rfl rfl (by decide) rfl rfl rfl [] rfl 1 2 rfl rfl rfl hl.1 rfl (Nat.le_of_ble_eq_true rfl) dX6_board_41 (fun H locs hP hD hS => ?_)
          refine lv_aload_n hx hb dX6_board_44 rfl (lv_at hl 1 rfl) ?_
          refine va_get (D := (dC, dI)) (ci := 6) (v := .ref h_row) (C := RX6) (T := TX6) (N := 7) hx hb hts huX6 hown hK hP 0 rfl rfl 1 (by decide) hf25 (fun _ h9 => h9) rfl dX6_board_45 ?_
          refine lv_lconst (v := (0 : Int64)) hx hb dX6_board_48 (by decide) ?_
          refine lv_lconst (v := (0 : Int64)) hx hb dX6_board_49 (by decide) ?_
          refine lv_iconst (v := (1 : Int32)) hx hb dX6_board_50 (by decide) ?_
          refine lv_iload_n hx hb dX6_board_51 rfl (lv_at hl 4 rfl) ?_
          obtain ⟨q8, hq8, hr⟩ := bd_use hr
          refine icV_v (As := [.long (0 : Int64), .long (0 : Int64), .int (1 : Int32), .int a2]) (rest := []) (ws2 := (wd_X6 h_eb h_g h_row h_bl h_wh h_ac h_life h_t h_ch h_hrow h_hbl h_hwh h_hac h_fi c_bl c_wh c_ac c_hbl c_hwh c_hac n_row n_hrow eb_winningAct q7.1 q7.2.1 q7.2.2.1 q7.2.2.2.1 q7.2.2.2.2.1 q7.2.2.2.2.2 q8.1 q8.2.1 q8.2.2.1 row_blackThen row_whiteThen q8.2.2.2.1 q8.2.2.2.2 ac t_made ch_target ch_chased hrow_law hrow_latest hrow_opener hrow_blackThen hrow_whiteThen hbl hwh hac fi_target fi_attacked fi_decidingAct)) S (c_X4_begin l dC dI h_row h_g h_bl h_wh h_ac c_bl c_wh c_ac n_row row_law row_latest row_opener row_blackThen row_whiteThen q7.1 q7.2.1 q7.2.2.1 q7.2.2.2.1 q7.2.2.2.2.1 q7.2.2.2.2.2 bl wh ac H.size (0 : Int64) (0 : Int64) (1 : Int32) a2 q8 hq8) (cwV 4 hts gX6_board_X4_begin rfl rfl rfl (by decide +kernel) ⟨Nat.le_trans (m := rm_X6_board.frames) (by decide) hRf, Nat.le_trans (m := rm_X6_board.locals) (by decide) hRl⟩) hN hP hK hD hS hA ⟨Nat.zero_le _, Nat.zero_le _⟩ [2, 1, 3, 4, 5] [0, 6, 7, 8, 9, 10, 11, 12, 13] [0, 10, 9, 11, 12, 13, 1, 2, 3, 4, 5, 6, 7, 8] rfl rfl rfl rfl rfl (by decide) rfl rfl rfl [0, 1, 2] rfl 2 4 rfl rfl rfl hl.1 rfl (Nat.le_of_ble_eq_true rfl) dX6_board_52 (fun H locs hP hD hS => ?_)
          refine lv_iload hx hb dX6_board_55 (lv_at hl 0 rfl) ?_
          obtain rfl := Option.some.inj hr
          exact kret _ _ _ _ dX6_board_57 hP hD hS
        · have hr := ite_n hr c6
          refine lv_bipush (v := (-2 : Int32)) hx hb dX6_board_23 (by decide) ?_
          obtain rfl := Option.some.inj hr
          exact kret _ _ _ _ dX6_board_25 hP hD hS

def f_X6_set (n_row : Nat) (g_width : Int32) (g_size : Int32) (g_all : Int64) (g_notFirstColumn : Int64) (g_notLastColumn : Int64) (row_law : Int32) (row_latest : Int32) (row_opener : Int32) (bl : Nat → Int64) (wh : Nat → Int64) (a0 : Int32) (a1 : Int32) (a2 : Int32) : Option (Int32 × Int32 × Int32 × Int32 × (Nat → Int64) × (Nat → Int64)) :=
  (f_X2_has g_size a0).bind fun q1 =>
  if q1 = 0 then (
    some ((-2 : Int32), row_law, row_latest, row_opener, bl, wh)
  )
  else (
    if a1 < 0 then (
      some ((-2 : Int32), row_law, row_latest, row_opener, bl, wh)
    )
    else (
      if (2 : Int32) < a1 then (
        some ((-2 : Int32), row_law, row_latest, row_opener, bl, wh)
      )
      else (
        (f_X6_isColour a2).bind fun q5 =>
        if q5 = 0 then (
          some ((-2 : Int32), row_law, row_latest, row_opener, bl, wh)
        )
        else (
          nm (jshl (1 : Int64) a0) fun x7 =>
          (f_X4_stonesOf n_row row_latest bl wh (1 : Int32)).bind fun q8 =>
          nm (fun (u9 : Int64) =>
          nm ((q8 &&& (x7 ^^^ (-1 : Int64))) ||| u9) fun x11 =>
          (f_X4_stonesOf n_row row_latest bl wh (2 : Int32)).bind fun q12 =>
          nm (fun (u13 : Int64) =>
          nm ((q12 &&& (x7 ^^^ (-1 : Int64))) ||| u13) fun x15 =>
          nm (g_all &&& ((x11 ||| x15) ^^^ (-1 : Int64))) fun x16 =>
          if 0 < row_latest then (
            some ((-3 : Int32), row_law, row_latest, row_opener, bl, wh)
          )
          else (
            (f_X2_allBreathe g_width g_all g_notFirstColumn g_notLastColumn x11 x16).bind fun q18 =>
            if q18 = 0 then (
              some ((-3 : Int32), row_law, row_latest, row_opener, bl, wh)
            )
            else (
              (f_X2_allBreathe g_width g_all g_notFirstColumn g_notLastColumn x15 x16).bind fun q20 =>
              if q20 = 0 then (
                some ((-3 : Int32), row_law, row_latest, row_opener, bl, wh)
              )
              else (
                (f_X4_begin n_row row_law row_latest row_opener bl wh x11 x15 a2 row_law).bind fun q22 =>
                some ((1 : Int32), q22.1, q22.2.1, q22.2.2.1, q22.2.2.2.1, q22.2.2.2.2)
              )
            )
          )
          ) fun K14 =>
          if a1 = (2 : Int32) then (
            K14 x7
          )
          else (
            K14 (0 : Int64)
          )
          ) fun K10 =>
          if a1 = (1 : Int32) then (
            K10 x7
          )
          else (
            K10 (0 : Int64)
          )
        )
      )
    )
  )

abbrev rm_X6_set : Room := { frames := 3, cells := 0, slots := 0, locals := 77 }
set_option maxHeartbeats 4000000 in
set_option maxRecDepth 100000 in
theorem c_X6_set (l : Launch) (dC : Nat → ClassId) (dI : Nat → Nat → Nat) (h_eb h_g h_row h_bl h_wh h_ac h_life h_t h_ch h_hrow h_hbl h_hwh h_hac h_fi : Nat) (c_bl c_wh c_ac c_hbl c_hwh c_hac : ClassId) (n_row n_hrow : Nat) (eb_winningAct g_width g_height g_size : Int32) (g_all g_notFirstColumn g_notLastColumn : Int64) (row_law row_latest row_opener : Int32) (row_blackThen row_whiteThen : Int64) (bl wh : Nat → Int64) (ac : Nat → Int32) (t_made ch_target ch_chased hrow_law hrow_latest hrow_opener : Int32) (hrow_blackThen hrow_whiteThen : Int64) (hbl hwh : Nat → Int64) (hac : Nat → Int32) (fi_target fi_attacked fi_decidingAct : Int32) (sz : Nat) (a0 : Int32) (a1 : Int32) (a2 : Int32) (q : Int32 × Int32 × Int32 × Int32 × (Nat → Int64) × (Nat → Int64)) (hr : f_X6_set n_row g_width g_size g_all g_notFirstColumn g_notLastColumn row_law row_latest row_opener bl wh a0 a1 a2 = some q) : Met l yX6_set wsX6_set rm_X6_set (PrI (dC, dI) (wd_X6 h_eb h_g h_row h_bl h_wh h_ac h_life h_t h_ch h_hrow h_hbl h_hwh h_hac h_fi c_bl c_wh c_ac c_hbl c_hwh c_hac n_row n_hrow eb_winningAct g_width g_height g_size g_all g_notFirstColumn g_notLastColumn row_law row_latest row_opener row_blackThen row_whiteThen bl wh ac t_made ch_target ch_chased hrow_law hrow_latest hrow_opener hrow_blackThen hrow_whiteThen hbl hwh hac fi_target fi_attacked fi_decidingAct) (td_X6 c_bl c_wh c_ac c_hbl c_hwh c_hac) sz [.ref h_eb, .int a0, .int a1, .int a2]) (QIi (dC, dI) (wd_X6 h_eb h_g h_row h_bl h_wh h_ac h_life h_t h_ch h_hrow h_hbl h_hwh h_hac h_fi c_bl c_wh c_ac c_hbl c_hwh c_hac n_row n_hrow eb_winningAct g_width g_height g_size g_all g_notFirstColumn g_notLastColumn row_law row_latest row_opener row_blackThen row_whiteThen bl wh ac t_made ch_target ch_chased hrow_law hrow_latest hrow_opener hrow_blackThen hrow_whiteThen hbl hwh hac fi_target fi_attacked fi_decidingAct) (td_X6 c_bl c_wh c_ac c_hbl c_hwh c_hac) sz q.1 (wd_X6 h_eb h_g h_row h_bl h_wh h_ac h_life h_t h_ch h_hrow h_hbl h_hwh h_hac h_fi c_bl c_wh c_ac c_hbl c_hwh c_hac n_row n_hrow eb_winningAct g_width g_height g_size g_all g_notFirstColumn g_notLastColumn q.2.1 q.2.2.1 q.2.2.2.1 row_blackThen row_whiteThen q.2.2.2.2.1 q.2.2.2.2.2 ac t_made ch_target ch_chased hrow_law hrow_latest hrow_opener hrow_blackThen hrow_whiteThen hbl hwh hac fi_target fi_attacked fi_decidingAct)) 0 0 (va_A (wd_X6 h_eb h_g h_row h_bl h_wh h_ac h_life h_t h_ch h_hrow h_hbl h_hwh h_hac h_fi c_bl c_wh c_ac c_hbl c_hwh c_hac n_row n_hrow eb_winningAct g_width g_height g_size g_all g_notFirstColumn g_notLastColumn row_law row_latest row_opener row_blackThen row_whiteThen bl wh ac t_made ch_target ch_chased hrow_law hrow_latest hrow_opener hrow_blackThen hrow_whiteThen hbl hwh hac fi_target fi_attacked fi_decidingAct) sz) := by
  refine mkI_i (cc := cX6_set) (nL := 12) (by decide) rfl (Nat.le_of_ble_eq_true rfl) ?_
  intro p e R s m args below meth c H0 H locs A Q ls hRf hRl S hN hP hK hD hA hS hl kret
  have hl : lv_has ls 12 [(0, .ref h_eb), (1, .int a0), (2, .int a1), (3, .int a2)] := hl
  obtain ⟨hx, hb, hml, hown, hts⟩ := S
  have hown : s.vm.findClass RX6 = some m.cls := hown
  have S : CallFix p m c cX6_set 12 s args wsX6_set RX6 := ⟨hx, hb, hml, hown, hts⟩
  have huX6 : ∀ w ∈ u_ws RX6 TX6 7, w ∈ wsX6_set := by decide +kernel
  have hf12 := hts (.fieldLink RX6 12 "EyeBoard" "grid" "LEyeBoard$Grid;") (by decide +kernel)
  have hf25 := hts (.fieldLink RX6 25 "EyeBoard" "row" "LEyeBoard$Row;") (by decide +kernel)
  have hk86 := hts (.constantLong RX6 86 (-1 : Int64)) (by decide +kernel)
  have huX2 : ∀ w ∈ u_ws RX2 TX2 6, w ∈ wsX6_set := by decide +kernel
  have hf88 := hts (.fieldLink RX6 88 "EyeBoard$Grid" "all" "J") (by decide +kernel)
  have huX4 : ∀ w ∈ u_ws RX4 TX4 9, w ∈ wsX6_set := by decide +kernel
  have hf73 := hts (.fieldLink RX6 73 "EyeBoard$Row" "latest" "I") (by decide +kernel)
  have hf96 := hts (.fieldLink RX6 96 "EyeBoard$Row" "law" "I") (by decide +kernel)
  unfold f_X6_set at hr
  refine lv_aload_n hx hb dX6_set_0 rfl (lv_at hl 0 rfl) ?_
  refine va_get (D := (dC, dI)) (ci := 6) (v := .ref h_g) (C := RX6) (T := TX6) (N := 7) hx hb hts huX6 hown hK hP 0 rfl rfl 0 (by decide) hf12 (fun _ h9 => h9) rfl dX6_set_1 ?_
  refine lv_iload_n hx hb dX6_set_4 rfl (lv_at hl 1 rfl) ?_
  obtain ⟨q1, hq1, hr⟩ := bd_use hr
  refine pcV_i (As := [.int a0]) (rest := []) S (c_X2_has l dC dI h_g g_width g_height g_size g_all g_notFirstColumn g_notLastColumn a0 q1 hq1) (cwV 1 hts gX6_set_X2_has rfl rfl rfl (by decide +kernel) ⟨Nat.le_trans (m := rm_X6_set.frames) (by decide) hRf, Nat.le_trans (m := rm_X6_set.locals) (by decide) hRl⟩) hN hP hK ⟨Nat.zero_le _, Nat.zero_le _⟩ [1] rfl [] rfl 1 2 rfl rfl rfl hl.1 rfl (Nat.le_of_ble_eq_true rfl) dX6_set_5 ?_
  refine lv_if_eq (tgt := 27) hx hb dX6_set_8 (by decide) (fun c2 => ?_) (fun c2 => ?_)
  · have hr := ite_p hr c2
    refine lv_bipush (v := (-2 : Int32)) hx hb dX6_set_27 (by decide) ?_
    obtain rfl := Option.some.inj hr
    exact kret _ _ _ _ dX6_set_29 hP hD hS
  · have hr := ite_n hr c2
    refine lv_iload_n hx hb dX6_set_11 rfl (lv_at hl 2 rfl) ?_
    refine lv_if_lt (tgt := 27) hx hb dX6_set_12 (by decide) (fun c3 => ?_) (fun c3 => ?_)
    · have hr := ite_p hr c3
      refine lv_bipush (v := (-2 : Int32)) hx hb dX6_set_27 (by decide) ?_
      obtain rfl := Option.some.inj hr
      exact kret _ _ _ _ dX6_set_29 hP hD hS
    · have hr := ite_n hr c3
      refine lv_iload_n hx hb dX6_set_15 rfl (lv_at hl 2 rfl) ?_
      refine lv_iconst (v := (2 : Int32)) hx hb dX6_set_16 (by decide) ?_
      refine lv_icmp_gt (tgt := 27) hx hb dX6_set_17 (by decide) (fun c4 => ?_) (fun c4 => ?_)
      · have hr := ite_p hr c4
        refine lv_bipush (v := (-2 : Int32)) hx hb dX6_set_27 (by decide) ?_
        obtain rfl := Option.some.inj hr
        exact kret _ _ _ _ dX6_set_29 hP hD hS
      · have hr := ite_n hr c4
        refine lv_iload_n hx hb dX6_set_20 rfl (lv_at hl 3 rfl) ?_
        obtain ⟨q5, hq5, hr⟩ := bd_use hr
        refine pcS_i (As := [.int a2]) (rest := []) S (c_X6_isColour l dC dI a2 q5 hq5) (va_cwS 1 hts gX6_set_X6_isColour rfl rfl rfl (by decide +kernel) ⟨Nat.le_trans (m := rm_X6_set.frames) (by decide) hRf, Nat.le_trans (m := rm_X6_set.locals) (by decide) hRl⟩) hN hP hK ⟨Nat.zero_le _, Nat.zero_le _⟩ rfl hl.1 rfl (Nat.le_of_ble_eq_true rfl) dX6_set_21 ?_
        refine lv_if_ne (tgt := 30) hx hb dX6_set_24 (by decide) (fun c6 => ?_) (fun c6 => ?_)
        · have hr := ite_n hr c6
          refine lv_lconst (v := (1 : Int64)) hx hb dX6_set_30 (by decide) ?_
          refine lv_iload_n hx hb dX6_set_31 rfl (lv_at hl 1 rfl) ?_
          refine lv_lshl (v := jshl (1 : Int64) a0) hx hb dX6_set_32 rfl ?_
          refine lv_topl (fun x7 ex7 => ?_)
          have hr := nm_use hr ex7
          refine lv_lstore (lv' := [(4, .long x7), (0, .ref h_eb), (1, .int a0), (2, .int a1), (3, .int a2)]) hx hb dX6_set_33 hl (by decide) rfl (fun ls hl => ?_)
          refine lv_aload_n hx hb dX6_set_35 rfl (lv_at hl 1 rfl) ?_
          refine va_get (D := (dC, dI)) (ci := 6) (v := .ref h_row) (C := RX6) (T := TX6) (N := 7) hx hb hts huX6 hown hK hP 0 rfl rfl 1 (by decide) hf25 (fun _ h9 => h9) rfl dX6_set_36 ?_
          refine lv_iconst (v := (1 : Int32)) hx hb dX6_set_39 (by decide) ?_
          obtain ⟨q8, hq8, hr⟩ := bd_use hr
          refine pcV_l (As := [.int (1 : Int32)]) (rest := []) S (c_X4_stonesOf l dC dI h_row h_g h_bl h_wh h_ac c_bl c_wh c_ac n_row row_law row_latest row_opener row_blackThen row_whiteThen g_width g_height g_size g_all g_notFirstColumn g_notLastColumn bl wh ac (1 : Int32) q8 hq8) (cwV 1 hts gX6_set_X4_stonesOf rfl rfl rfl (by decide +kernel) ⟨Nat.le_trans (m := rm_X6_set.frames) (by decide) hRf, Nat.le_trans (m := rm_X6_set.locals) (by decide) hRl⟩) hN hP hK ⟨Nat.zero_le _, Nat.zero_le _⟩ [2, 1, 3, 4, 5] rfl [0, 1, 2] rfl 2 4 rfl rfl rfl hl.1 rfl (Nat.le_of_ble_eq_true rfl) dX6_set_40 ?_
          refine lv_lload hx hb dX6_set_43 (lv_at hl 0 rfl) ?_
          refine W.ldc2 (v := (-1 : Int64)) hx hb hown hk86 rfl dX6_set_45 ?_
          refine W.eq (g2 := F0 m 48 ls [.long (-1 : Int64), .long x7, .long q8]) rfl ?_
          refine lv_lxor hx hb dX6_set_48 ?_
          refine lv_land hx hb dX6_set_49 ?_
          refine lv_iload_n hx hb dX6_set_50 rfl (lv_at hl 3 rfl) ?_
          refine lv_iconst (v := (1 : Int32)) hx hb dX6_set_51 (by decide) ?_
          obtain ⟨K10, eK10, hr⟩ := nm_ex hr
          have kK10 : ∀ (u9 : Int64) (H : Heap) (locs : List Loc) , K10 u9 = some q → va_P (dC, dI) vwCl (wd_X6 h_eb h_g h_row h_bl h_wh h_ac h_life h_t h_ch h_hrow h_hbl h_hwh h_hac h_fi c_bl c_wh c_ac c_hbl c_hwh c_hac n_row n_hrow eb_winningAct g_width g_height g_size g_all g_notFirstColumn g_notLastColumn row_law row_latest row_opener row_blackThen row_whiteThen bl wh ac t_made ch_target ch_chased hrow_law hrow_latest hrow_opener hrow_blackThen hrow_whiteThen hbl hwh hac fi_target fi_attacked fi_decidingAct) H → va_D A (wd_X6 h_eb h_g h_row h_bl h_wh h_ac h_life h_t h_ch h_hrow h_hbl h_hwh h_hac h_fi c_bl c_wh c_ac c_hbl c_hwh c_hac n_row n_hrow eb_winningAct g_width g_height g_size g_all g_notFirstColumn g_notLastColumn row_law row_latest row_opener row_blackThen row_whiteThen bl wh ac t_made ch_target ch_chased hrow_law hrow_latest hrow_opener hrow_blackThen hrow_whiteThen hbl hwh hac fi_target fi_attacked fi_decidingAct) → va_S A H0 H locs → ∀ (ls : Array Slot), lv_has ls 12 [(0, .ref h_eb), (2, .int a1), (3, .int a2), (4, .long x7)] → W p l e R s m args below meth c H locs 0 0 Q (F0 m 61 ls [.long u9, .long (q8 &&& (x7 ^^^ (-1 : Int64)))]) := by
            intro u9 H locs hr hP hD hS ls hl
            rw [eK10] at hr
            refine lv_lor hx hb dX6_set_61 ?_
            refine lv_topl (fun x11 ex11 => ?_)
            have hr := nm_use hr ex11
            refine lv_lstore (lv' := [(6, .long x11), (0, .ref h_eb), (2, .int a1), (3, .int a2), (4, .long x7)]) hx hb dX6_set_62 hl (by decide) rfl (fun ls hl => ?_)
            refine lv_aload_n hx hb dX6_set_64 rfl (lv_at hl 1 rfl) ?_
            refine va_get (D := (dC, dI)) (ci := 6) (v := .ref h_row) (C := RX6) (T := TX6) (N := 7) hx hb hts huX6 hown hK hP 0 rfl rfl 1 (by decide) hf25 (fun _ h9 => h9) rfl dX6_set_65 ?_
            refine lv_iconst (v := (2 : Int32)) hx hb dX6_set_68 (by decide) ?_
            obtain ⟨q12, hq12, hr⟩ := bd_use hr
            refine pcV_l (As := [.int (2 : Int32)]) (rest := []) S (c_X4_stonesOf l dC dI h_row h_g h_bl h_wh h_ac c_bl c_wh c_ac n_row row_law row_latest row_opener row_blackThen row_whiteThen g_width g_height g_size g_all g_notFirstColumn g_notLastColumn bl wh ac (2 : Int32) q12 hq12) (cwV 1 hts gX6_set_X4_stonesOf rfl rfl rfl (by decide +kernel) ⟨Nat.le_trans (m := rm_X6_set.frames) (by decide) hRf, Nat.le_trans (m := rm_X6_set.locals) (by decide) hRl⟩) hN hP hK ⟨Nat.zero_le _, Nat.zero_le _⟩ [2, 1, 3, 4, 5] rfl [0, 1, 2] rfl 2 4 rfl rfl rfl hl.1 rfl (Nat.le_of_ble_eq_true rfl) dX6_set_69 ?_
            refine lv_lload hx hb dX6_set_72 (lv_at hl 4 rfl) ?_
            refine W.ldc2 (v := (-1 : Int64)) hx hb hown hk86 rfl dX6_set_74 ?_
            refine W.eq (g2 := F0 m 77 ls [.long (-1 : Int64), .long x7, .long q12]) rfl ?_
            refine lv_lxor hx hb dX6_set_77 ?_
            refine lv_land hx hb dX6_set_78 ?_
            refine lv_iload_n hx hb dX6_set_79 rfl (lv_at hl 2 rfl) ?_
            refine lv_iconst (v := (2 : Int32)) hx hb dX6_set_80 (by decide) ?_
            obtain ⟨K14, eK14, hr⟩ := nm_ex hr
            have kK14 : ∀ (u13 : Int64) (H : Heap) (locs : List Loc) , K14 u13 = some q → va_P (dC, dI) vwCl (wd_X6 h_eb h_g h_row h_bl h_wh h_ac h_life h_t h_ch h_hrow h_hbl h_hwh h_hac h_fi c_bl c_wh c_ac c_hbl c_hwh c_hac n_row n_hrow eb_winningAct g_width g_height g_size g_all g_notFirstColumn g_notLastColumn row_law row_latest row_opener row_blackThen row_whiteThen bl wh ac t_made ch_target ch_chased hrow_law hrow_latest hrow_opener hrow_blackThen hrow_whiteThen hbl hwh hac fi_target fi_attacked fi_decidingAct) H → va_D A (wd_X6 h_eb h_g h_row h_bl h_wh h_ac h_life h_t h_ch h_hrow h_hbl h_hwh h_hac h_fi c_bl c_wh c_ac c_hbl c_hwh c_hac n_row n_hrow eb_winningAct g_width g_height g_size g_all g_notFirstColumn g_notLastColumn row_law row_latest row_opener row_blackThen row_whiteThen bl wh ac t_made ch_target ch_chased hrow_law hrow_latest hrow_opener hrow_blackThen hrow_whiteThen hbl hwh hac fi_target fi_attacked fi_decidingAct) → va_S A H0 H locs → ∀ (ls : Array Slot), lv_has ls 12 [(0, .ref h_eb), (3, .int a2), (6, .long x11)] → W p l e R s m args below meth c H locs 0 0 Q (F0 m 90 ls [.long u13, .long (q12 &&& (x7 ^^^ (-1 : Int64)))]) := by
              intro u13 H locs hr hP hD hS ls hl
              rw [eK14] at hr
              refine lv_lor hx hb dX6_set_90 ?_
              refine lv_topl (fun x15 ex15 => ?_)
              have hr := nm_use hr ex15
              refine lv_lstore (lv' := [(8, .long x15), (0, .ref h_eb), (3, .int a2), (6, .long x11)]) hx hb dX6_set_91 hl (by decide) rfl (fun ls hl => ?_)
              refine lv_aload_n hx hb dX6_set_93 rfl (lv_at hl 1 rfl) ?_
              refine va_get (D := (dC, dI)) (ci := 6) (v := .ref h_g) (C := RX6) (T := TX6) (N := 7) hx hb hts huX6 hown hK hP 0 rfl rfl 0 (by decide) hf12 (fun _ h9 => h9) rfl dX6_set_94 ?_
              refine va_get (D := (dC, dI)) (ci := 2) (v := .long g_all) (C := RX2) (T := TX2) (N := 6) hx hb hts huX2 hown hK hP 1 rfl rfl 3 (by decide) hf88 (fun _ h9 => h9) rfl dX6_set_97 ?_
              refine lv_lload hx hb dX6_set_100 (lv_at hl 3 rfl) ?_
              refine lv_lload hx hb dX6_set_102 (lv_at hl 0 rfl) ?_
              refine lv_lor hx hb dX6_set_104 ?_
              refine W.ldc2 (v := (-1 : Int64)) hx hb hown hk86 rfl dX6_set_105 ?_
              refine W.eq (g2 := F0 m 108 ls [.long (-1 : Int64), .long (x11 ||| x15), .long g_all]) rfl ?_
              refine lv_lxor hx hb dX6_set_108 ?_
              refine lv_land hx hb dX6_set_109 ?_
              refine lv_topl (fun x16 ex16 => ?_)
              have hr := nm_use hr ex16
              refine lv_lstore (lv' := [(10, .long x16), (8, .long x15), (0, .ref h_eb), (3, .int a2), (6, .long x11)]) hx hb dX6_set_110 hl (by decide) rfl (fun ls hl => ?_)
              refine lv_aload_n hx hb dX6_set_112 rfl (lv_at hl 2 rfl) ?_
              refine va_get (D := (dC, dI)) (ci := 6) (v := .ref h_row) (C := RX6) (T := TX6) (N := 7) hx hb hts huX6 hown hK hP 0 rfl rfl 1 (by decide) hf25 (fun _ h9 => h9) rfl dX6_set_113 ?_
              refine va_get (D := (dC, dI)) (ci := 4) (v := .int row_latest) (C := RX4) (T := TX4) (N := 9) hx hb hts huX4 hown hK hP 2 rfl rfl 5 (by decide) hf73 (fun _ h9 => h9) rfl dX6_set_116 ?_
              refine lv_if_gt (tgt := 150) hx hb dX6_set_119 (by decide) (fun c17 => ?_) (fun c17 => ?_)
              · have hr := ite_p hr c17
                refine lv_bipush (v := (-3 : Int32)) hx hb dX6_set_150 (by decide) ?_
                obtain rfl := Option.some.inj hr
                exact kret _ _ _ _ dX6_set_152 hP hD hS
              · have hr := ite_n hr c17
                refine lv_aload_n hx hb dX6_set_122 rfl (lv_at hl 2 rfl) ?_
                refine va_get (D := (dC, dI)) (ci := 6) (v := .ref h_g) (C := RX6) (T := TX6) (N := 7) hx hb hts huX6 hown hK hP 0 rfl rfl 0 (by decide) hf12 (fun _ h9 => h9) rfl dX6_set_123 ?_
                refine lv_lload hx hb dX6_set_126 (lv_at hl 4 rfl) ?_
                refine lv_lload hx hb dX6_set_128 (lv_at hl 0 rfl) ?_
                obtain ⟨q18, hq18, hr⟩ := bd_use hr
                refine pcV_i (As := [.long x11, .long x16]) (rest := []) S (c_X2_allBreathe l dC dI h_g g_width g_height g_size g_all g_notFirstColumn g_notLastColumn x11 x16 q18 hq18) (cwV 2 hts gX6_set_X2_allBreathe rfl rfl rfl (by decide +kernel) ⟨Nat.le_trans (m := rm_X6_set.frames) (by decide) hRf, Nat.le_trans (m := rm_X6_set.locals) (by decide) hRl⟩) hN hP hK ⟨Nat.zero_le _, Nat.zero_le _⟩ [1] rfl [] rfl 1 2 rfl rfl rfl hl.1 rfl (Nat.le_of_ble_eq_true rfl) dX6_set_130 ?_
                refine lv_if_eq (tgt := 150) hx hb dX6_set_133 (by decide) (fun c19 => ?_) (fun c19 => ?_)
                · have hr := ite_p hr c19
                  refine lv_bipush (v := (-3 : Int32)) hx hb dX6_set_150 (by decide) ?_
                  obtain rfl := Option.some.inj hr
                  exact kret _ _ _ _ dX6_set_152 hP hD hS
                · have hr := ite_n hr c19
                  refine lv_aload_n hx hb dX6_set_136 rfl (lv_at hl 2 rfl) ?_
                  refine va_get (D := (dC, dI)) (ci := 6) (v := .ref h_g) (C := RX6) (T := TX6) (N := 7) hx hb hts huX6 hown hK hP 0 rfl rfl 0 (by decide) hf12 (fun _ h9 => h9) rfl dX6_set_137 ?_
                  refine lv_lload hx hb dX6_set_140 (lv_at hl 1 rfl) ?_
                  refine lv_lload hx hb dX6_set_142 (lv_at hl 0 rfl) ?_
                  obtain ⟨q20, hq20, hr⟩ := bd_use hr
                  refine pcV_i (As := [.long x15, .long x16]) (rest := []) S (c_X2_allBreathe l dC dI h_g g_width g_height g_size g_all g_notFirstColumn g_notLastColumn x15 x16 q20 hq20) (cwV 2 hts gX6_set_X2_allBreathe rfl rfl rfl (by decide +kernel) ⟨Nat.le_trans (m := rm_X6_set.frames) (by decide) hRf, Nat.le_trans (m := rm_X6_set.locals) (by decide) hRl⟩) hN hP hK ⟨Nat.zero_le _, Nat.zero_le _⟩ [1] rfl [] rfl 1 2 rfl rfl rfl hl.1 rfl (Nat.le_of_ble_eq_true rfl) dX6_set_144 ?_
                  refine lv_if_ne (tgt := 153) hx hb dX6_set_147 (by decide) (fun c21 => ?_) (fun c21 => ?_)
                  · have hr := ite_n hr c21
                    refine lv_aload_n hx hb dX6_set_153 rfl (lv_at hl 2 rfl) ?_
                    refine va_get (D := (dC, dI)) (ci := 6) (v := .ref h_row) (C := RX6) (T := TX6) (N := 7) hx hb hts huX6 hown hK hP 0 rfl rfl 1 (by decide) hf25 (fun _ h9 => h9) rfl dX6_set_154 ?_
                    refine lv_lload hx hb dX6_set_157 (lv_at hl 4 rfl) ?_
                    refine lv_lload hx hb dX6_set_159 (lv_at hl 1 rfl) ?_
                    refine lv_iload_n hx hb dX6_set_161 rfl (lv_at hl 3 rfl) ?_
                    refine lv_aload_n hx hb dX6_set_162 rfl (lv_at hl 2 rfl) ?_
                    refine va_get (D := (dC, dI)) (ci := 6) (v := .ref h_row) (C := RX6) (T := TX6) (N := 7) hx hb hts huX6 hown hK hP 0 rfl rfl 1 (by decide) hf25 (fun _ h9 => h9) rfl dX6_set_163 ?_
                    refine va_get (D := (dC, dI)) (ci := 4) (v := .int row_law) (C := RX4) (T := TX4) (N := 9) hx hb hts huX4 hown hK hP 2 rfl rfl 4 (by decide) hf96 (fun _ h9 => h9) rfl dX6_set_166 ?_
                    obtain ⟨q22, hq22, hr⟩ := bd_use hr
                    refine icV_v (As := [.long x11, .long x15, .int a2, .int row_law]) (rest := []) (ws2 := (wd_X6 h_eb h_g h_row h_bl h_wh h_ac h_life h_t h_ch h_hrow h_hbl h_hwh h_hac h_fi c_bl c_wh c_ac c_hbl c_hwh c_hac n_row n_hrow eb_winningAct g_width g_height g_size g_all g_notFirstColumn g_notLastColumn q22.1 q22.2.1 q22.2.2.1 row_blackThen row_whiteThen q22.2.2.2.1 q22.2.2.2.2 ac t_made ch_target ch_chased hrow_law hrow_latest hrow_opener hrow_blackThen hrow_whiteThen hbl hwh hac fi_target fi_attacked fi_decidingAct)) S (c_X4_begin l dC dI h_row h_g h_bl h_wh h_ac c_bl c_wh c_ac n_row row_law row_latest row_opener row_blackThen row_whiteThen g_width g_height g_size g_all g_notFirstColumn g_notLastColumn bl wh ac H.size x11 x15 a2 row_law q22 hq22) (cwV 4 hts gX6_set_X4_begin rfl rfl rfl (by decide +kernel) ⟨Nat.le_trans (m := rm_X6_set.frames) (by decide) hRf, Nat.le_trans (m := rm_X6_set.locals) (by decide) hRl⟩) hN hP hK hD hS hA ⟨Nat.zero_le _, Nat.zero_le _⟩ [2, 1, 3, 4, 5] [0, 6, 7, 8, 9, 10, 11, 12, 13] [0, 10, 9, 11, 12, 13, 1, 2, 3, 4, 5, 6, 7, 8] rfl rfl rfl rfl rfl (by decide) rfl rfl rfl [0, 1, 2] rfl 2 4 rfl rfl rfl hl.1 rfl (Nat.le_of_ble_eq_true rfl) dX6_set_169 (fun H locs hP hD hS => ?_)
                    refine lv_iconst (v := (1 : Int32)) hx hb dX6_set_172 (by decide) ?_
                    obtain rfl := Option.some.inj hr
                    exact kret _ _ _ _ dX6_set_173 hP hD hS
                  · have hr := ite_p hr c21
                    refine lv_bipush (v := (-3 : Int32)) hx hb dX6_set_150 (by decide) ?_
                    obtain rfl := Option.some.inj hr
                    exact kret _ _ _ _ dX6_set_152 hP hD hS
            refine lv_icmp_ne (tgt := 89) hx hb dX6_set_81 (by decide) (fun c23 => ?_) (fun c23 => ?_)
            · have hr := ite_n hr c23
              refine lv_lconst (v := (0 : Int64)) hx hb dX6_set_89 (by decide) ?_
              exact kK14 (0 : Int64) _ _ hr hP hD hS ls (lv_sub hl [1, 3, 0] rfl)
            · have hr := ite_p hr c23
              refine lv_lload hx hb dX6_set_84 (lv_at hl 4 rfl) ?_
              refine lv_goto (tgt := 90) hx hb dX6_set_86 (by decide) ?_
              exact kK14 x7 _ _ hr hP hD hS ls (lv_sub hl [1, 3, 0] rfl)
          refine lv_icmp_ne (tgt := 60) hx hb dX6_set_52 (by decide) (fun c24 => ?_) (fun c24 => ?_)
          · have hr := ite_n hr c24
            refine lv_lconst (v := (0 : Int64)) hx hb dX6_set_60 (by decide) ?_
            exact kK10 (0 : Int64) _ _ hr hP hD hS ls (lv_sub hl [1, 3, 4, 0] rfl)
          · have hr := ite_p hr c24
            refine lv_lload hx hb dX6_set_55 (lv_at hl 0 rfl) ?_
            refine lv_goto (tgt := 61) hx hb dX6_set_57 (by decide) ?_
            exact kK10 x7 _ _ hr hP hD hS ls (lv_sub hl [1, 3, 4, 0] rfl)
        · have hr := ite_p hr c6
          refine lv_bipush (v := (-2 : Int32)) hx hb dX6_set_27 (by decide) ?_
          obtain rfl := Option.some.inj hr
          exact kret _ _ _ _ dX6_set_29 hP hD hS

def f_X6_lay (n_row : Nat) (g_width : Int32) (g_size : Int32) (g_all : Int64) (g_notFirstColumn : Int64) (g_notLastColumn : Int64) (row_law : Int32) (row_latest : Int32) (row_opener : Int32) (row_blackThen : Int64) (row_whiteThen : Int64) (bl : Nat → Int64) (wh : Nat → Int64) (ac : Nat → Int32) (a0 : Int32) : Option (Int32 × Int32 × Int64 × Int64 × (Nat → Int64) × (Nat → Int64) × (Nat → Int32)) :=
  (f_X2_has g_size a0).bind fun q1 =>
  if q1 = 0 then (
    some ((-2 : Int32), row_latest, row_blackThen, row_whiteThen, bl, wh, ac)
  )
  else (
    (f_X4_reasonAgainst n_row row_law row_latest row_opener row_blackThen row_whiteThen g_width g_all g_notFirstColumn g_notLastColumn bl wh a0).bind fun q3 =>
    if q3.1 = 0 then (
      if row_latest < (120 : Int32) then (
        (f_X4_add n_row row_law row_latest row_opener q3.2.1 q3.2.2 g_width g_size g_all g_notFirstColumn g_notLastColumn bl wh ac a0).bind fun q6 =>
        (f_X4_mover q6.2.1 row_opener).bind fun q7 =>
        (f_X4_takenBy n_row q6.2.2.2.2.1 q6.2.2.2.2.2.1 q6.2.1 q7).bind fun q8 =>
        some (q8, q6.2.1, q6.2.2.1, q6.2.2.2.1, q6.2.2.2.2.1, q6.2.2.2.2.2.1, q6.2.2.2.2.2.2)
      )
      else (
        some ((-4 : Int32), row_latest, q3.2.1, q3.2.2, bl, wh, ac)
      )
    )
    else (
      some ((-3 : Int32), row_latest, q3.2.1, q3.2.2, bl, wh, ac)
    )
  )

abbrev rm_X6_lay : Room := { frames := 4, cells := 0, slots := 0, locals := 104 }
set_option maxHeartbeats 4000000 in
set_option maxRecDepth 100000 in
theorem c_X6_lay (l : Launch) (dC : Nat → ClassId) (dI : Nat → Nat → Nat) (h_eb h_g h_row h_bl h_wh h_ac h_life h_t h_ch h_hrow h_hbl h_hwh h_hac h_fi : Nat) (c_bl c_wh c_ac c_hbl c_hwh c_hac : ClassId) (n_row n_hrow : Nat) (eb_winningAct g_width g_height g_size : Int32) (g_all g_notFirstColumn g_notLastColumn : Int64) (row_law row_latest row_opener : Int32) (row_blackThen row_whiteThen : Int64) (bl wh : Nat → Int64) (ac : Nat → Int32) (t_made ch_target ch_chased hrow_law hrow_latest hrow_opener : Int32) (hrow_blackThen hrow_whiteThen : Int64) (hbl hwh : Nat → Int64) (hac : Nat → Int32) (fi_target fi_attacked fi_decidingAct : Int32) (sz : Nat) (a0 : Int32) (q : Int32 × Int32 × Int64 × Int64 × (Nat → Int64) × (Nat → Int64) × (Nat → Int32)) (hr : f_X6_lay n_row g_width g_size g_all g_notFirstColumn g_notLastColumn row_law row_latest row_opener row_blackThen row_whiteThen bl wh ac a0 = some q) : Met l yX6_lay wsX6_lay rm_X6_lay (PrI (dC, dI) (wd_X6 h_eb h_g h_row h_bl h_wh h_ac h_life h_t h_ch h_hrow h_hbl h_hwh h_hac h_fi c_bl c_wh c_ac c_hbl c_hwh c_hac n_row n_hrow eb_winningAct g_width g_height g_size g_all g_notFirstColumn g_notLastColumn row_law row_latest row_opener row_blackThen row_whiteThen bl wh ac t_made ch_target ch_chased hrow_law hrow_latest hrow_opener hrow_blackThen hrow_whiteThen hbl hwh hac fi_target fi_attacked fi_decidingAct) (td_X6 c_bl c_wh c_ac c_hbl c_hwh c_hac) sz [.ref h_eb, .int a0]) (QIi (dC, dI) (wd_X6 h_eb h_g h_row h_bl h_wh h_ac h_life h_t h_ch h_hrow h_hbl h_hwh h_hac h_fi c_bl c_wh c_ac c_hbl c_hwh c_hac n_row n_hrow eb_winningAct g_width g_height g_size g_all g_notFirstColumn g_notLastColumn row_law row_latest row_opener row_blackThen row_whiteThen bl wh ac t_made ch_target ch_chased hrow_law hrow_latest hrow_opener hrow_blackThen hrow_whiteThen hbl hwh hac fi_target fi_attacked fi_decidingAct) (td_X6 c_bl c_wh c_ac c_hbl c_hwh c_hac) sz q.1 (wd_X6 h_eb h_g h_row h_bl h_wh h_ac h_life h_t h_ch h_hrow h_hbl h_hwh h_hac h_fi c_bl c_wh c_ac c_hbl c_hwh c_hac n_row n_hrow eb_winningAct g_width g_height g_size g_all g_notFirstColumn g_notLastColumn row_law q.2.1 row_opener q.2.2.1 q.2.2.2.1 q.2.2.2.2.1 q.2.2.2.2.2.1 q.2.2.2.2.2.2 t_made ch_target ch_chased hrow_law hrow_latest hrow_opener hrow_blackThen hrow_whiteThen hbl hwh hac fi_target fi_attacked fi_decidingAct)) 0 0 (va_A (wd_X6 h_eb h_g h_row h_bl h_wh h_ac h_life h_t h_ch h_hrow h_hbl h_hwh h_hac h_fi c_bl c_wh c_ac c_hbl c_hwh c_hac n_row n_hrow eb_winningAct g_width g_height g_size g_all g_notFirstColumn g_notLastColumn row_law row_latest row_opener row_blackThen row_whiteThen bl wh ac t_made ch_target ch_chased hrow_law hrow_latest hrow_opener hrow_blackThen hrow_whiteThen hbl hwh hac fi_target fi_attacked fi_decidingAct) sz) := by
  refine mkI_i (cc := cX6_lay) (nL := 2) (by decide) rfl (Nat.le_of_ble_eq_true rfl) ?_
  intro p e R s m args below meth c H0 H locs A Q ls hRf hRl S hN hP hK hD hA hS hl kret
  have hl : lv_has ls 2 [(0, .ref h_eb), (1, .int a0)] := hl
  obtain ⟨hx, hb, hml, hown, hts⟩ := S
  have hown : s.vm.findClass RX6 = some m.cls := hown
  have S : CallFix p m c cX6_lay 2 s args wsX6_lay RX6 := ⟨hx, hb, hml, hown, hts⟩
  have huX6 : ∀ w ∈ u_ws RX6 TX6 7, w ∈ wsX6_lay := by decide +kernel
  have hf12 := hts (.fieldLink RX6 12 "EyeBoard" "grid" "LEyeBoard$Grid;") (by decide +kernel)
  have hf25 := hts (.fieldLink RX6 25 "EyeBoard" "row" "LEyeBoard$Row;") (by decide +kernel)
  have huX4 : ∀ w ∈ u_ws RX4 TX4 9, w ∈ wsX6_lay := by decide +kernel
  have hf73 := hts (.fieldLink RX6 73 "EyeBoard$Row" "latest" "I") (by decide +kernel)
  unfold f_X6_lay at hr
  refine lv_aload_n hx hb dX6_lay_0 rfl (lv_at hl 0 rfl) ?_
  refine va_get (D := (dC, dI)) (ci := 6) (v := .ref h_g) (C := RX6) (T := TX6) (N := 7) hx hb hts huX6 hown hK hP 0 rfl rfl 0 (by decide) hf12 (fun _ h9 => h9) rfl dX6_lay_1 ?_
  refine lv_iload_n hx hb dX6_lay_4 rfl (lv_at hl 1 rfl) ?_
  obtain ⟨q1, hq1, hr⟩ := bd_use hr
  refine pcV_i (As := [.int a0]) (rest := []) S (c_X2_has l dC dI h_g g_width g_height g_size g_all g_notFirstColumn g_notLastColumn a0 q1 hq1) (cwV 1 hts gX6_lay_X2_has rfl rfl rfl (by decide +kernel) ⟨Nat.le_trans (m := rm_X6_lay.frames) (by decide) hRf, Nat.le_trans (m := rm_X6_lay.locals) (by decide) hRl⟩) hN hP hK ⟨Nat.zero_le _, Nat.zero_le _⟩ [1] rfl [] rfl 1 2 rfl rfl rfl hl.1 rfl (Nat.le_of_ble_eq_true rfl) dX6_lay_5 ?_
  refine lv_if_ne (tgt := 14) hx hb dX6_lay_8 (by decide) (fun c2 => ?_) (fun c2 => ?_)
  · have hr := ite_n hr c2
    refine lv_aload_n hx hb dX6_lay_14 rfl (lv_at hl 0 rfl) ?_
    refine va_get (D := (dC, dI)) (ci := 6) (v := .ref h_row) (C := RX6) (T := TX6) (N := 7) hx hb hts huX6 hown hK hP 0 rfl rfl 1 (by decide) hf25 (fun _ h9 => h9) rfl dX6_lay_15 ?_
    refine lv_iload_n hx hb dX6_lay_18 rfl (lv_at hl 1 rfl) ?_
    obtain ⟨q3, hq3, hr⟩ := bd_use hr
    refine icV_i (As := [.int a0]) (rest := []) (ws2 := (wd_X6 h_eb h_g h_row h_bl h_wh h_ac h_life h_t h_ch h_hrow h_hbl h_hwh h_hac h_fi c_bl c_wh c_ac c_hbl c_hwh c_hac n_row n_hrow eb_winningAct g_width g_height g_size g_all g_notFirstColumn g_notLastColumn row_law row_latest row_opener q3.2.1 q3.2.2 bl wh ac t_made ch_target ch_chased hrow_law hrow_latest hrow_opener hrow_blackThen hrow_whiteThen hbl hwh hac fi_target fi_attacked fi_decidingAct)) S (c_X4_reasonAgainst l dC dI h_row h_g h_bl h_wh h_ac c_bl c_wh c_ac n_row row_law row_latest row_opener row_blackThen row_whiteThen g_width g_height g_size g_all g_notFirstColumn g_notLastColumn bl wh ac H.size a0 q3 hq3) (cwV 1 hts gX6_lay_X4_reasonAgainst rfl rfl rfl (by decide +kernel) ⟨Nat.le_trans (m := rm_X6_lay.frames) (by decide) hRf, Nat.le_trans (m := rm_X6_lay.locals) (by decide) hRl⟩) hN hP hK hD hS hA ⟨Nat.zero_le _, Nat.zero_le _⟩ [2, 1, 3, 4, 5] [0, 6, 7, 8, 9, 10, 11, 12, 13] [0, 10, 9, 11, 12, 13, 1, 2, 3, 4, 5, 6, 7, 8] rfl rfl rfl rfl rfl (by decide) rfl rfl rfl [0, 1, 2] rfl 2 4 rfl rfl rfl hl.1 rfl (Nat.le_of_ble_eq_true rfl) dX6_lay_19 (fun H locs hP hD hS => ?_)
    refine lv_if_eq (tgt := 28) hx hb dX6_lay_22 (by decide) (fun c4 => ?_) (fun c4 => ?_)
    · have hr := ite_p hr c4
      refine lv_aload_n hx hb dX6_lay_28 rfl (lv_at hl 0 rfl) ?_
      refine va_get (D := (dC, dI)) (ci := 6) (v := .ref h_row) (C := RX6) (T := TX6) (N := 7) hx hb hts huX6 hown hK hP 0 rfl rfl 1 (by decide) hf25 (fun _ h9 => h9) rfl dX6_lay_29 ?_
      refine va_get (D := (dC, dI)) (ci := 4) (v := .int row_latest) (C := RX4) (T := TX4) (N := 9) hx hb hts huX4 hown hK hP 2 rfl rfl 5 (by decide) hf73 (fun _ h9 => h9) rfl dX6_lay_32 ?_
      refine lv_bipush (v := (120 : Int32)) hx hb dX6_lay_35 (by decide) ?_
      refine lv_icmp_lt (tgt := 43) hx hb dX6_lay_37 (by decide) (fun c5 => ?_) (fun c5 => ?_)
      · have hr := ite_p hr c5
        refine lv_aload_n hx hb dX6_lay_43 rfl (lv_at hl 0 rfl) ?_
        refine va_get (D := (dC, dI)) (ci := 6) (v := .ref h_row) (C := RX6) (T := TX6) (N := 7) hx hb hts huX6 hown hK hP 0 rfl rfl 1 (by decide) hf25 (fun _ h9 => h9) rfl dX6_lay_44 ?_
        refine lv_iload_n hx hb dX6_lay_47 rfl (lv_at hl 1 rfl) ?_
        obtain ⟨q6, hq6, hr⟩ := bd_use hr
        refine icV_i (As := [.int a0]) (rest := []) (ws2 := (wd_X6 h_eb h_g h_row h_bl h_wh h_ac h_life h_t h_ch h_hrow h_hbl h_hwh h_hac h_fi c_bl c_wh c_ac c_hbl c_hwh c_hac n_row n_hrow eb_winningAct g_width g_height g_size g_all g_notFirstColumn g_notLastColumn row_law q6.2.1 row_opener q6.2.2.1 q6.2.2.2.1 q6.2.2.2.2.1 q6.2.2.2.2.2.1 q6.2.2.2.2.2.2 t_made ch_target ch_chased hrow_law hrow_latest hrow_opener hrow_blackThen hrow_whiteThen hbl hwh hac fi_target fi_attacked fi_decidingAct)) S (c_X4_add l dC dI h_row h_g h_bl h_wh h_ac c_bl c_wh c_ac n_row row_law row_latest row_opener q3.2.1 q3.2.2 g_width g_height g_size g_all g_notFirstColumn g_notLastColumn bl wh ac H.size a0 q6 hq6) (cwV 1 hts gX6_lay_X4_add rfl rfl rfl (by decide +kernel) ⟨Nat.le_trans (m := rm_X6_lay.frames) (by decide) hRf, Nat.le_trans (m := rm_X6_lay.locals) (by decide) hRl⟩) hN hP hK hD hS hA ⟨Nat.zero_le _, Nat.zero_le _⟩ [2, 1, 3, 4, 5] [0, 6, 7, 8, 9, 10, 11, 12, 13] [0, 10, 9, 11, 12, 13, 1, 2, 3, 4, 5, 6, 7, 8] rfl rfl rfl rfl rfl (by decide) rfl rfl rfl [0, 1, 2] rfl 2 4 rfl rfl rfl hl.1 rfl (Nat.le_of_ble_eq_true rfl) dX6_lay_48 (fun H locs hP hD hS => ?_)
        refine lv_pop hx hb dX6_lay_51 rfl ?_
        refine lv_aload_n hx hb dX6_lay_52 rfl (lv_at hl 0 rfl) ?_
        refine va_get (D := (dC, dI)) (ci := 6) (v := .ref h_row) (C := RX6) (T := TX6) (N := 7) hx hb hts huX6 hown hK hP 0 rfl rfl 1 (by decide) hf25 (fun _ h9 => h9) rfl dX6_lay_53 ?_
        refine lv_aload_n hx hb dX6_lay_56 rfl (lv_at hl 0 rfl) ?_
        refine va_get (D := (dC, dI)) (ci := 6) (v := .ref h_row) (C := RX6) (T := TX6) (N := 7) hx hb hts huX6 hown hK hP 0 rfl rfl 1 (by decide) hf25 (fun _ h9 => h9) rfl dX6_lay_57 ?_
        refine va_get (D := (dC, dI)) (ci := 4) (v := .int q6.2.1) (C := RX4) (T := TX4) (N := 9) hx hb hts huX4 hown hK hP 2 rfl rfl 5 (by decide) hf73 (fun _ h9 => h9) rfl dX6_lay_60 ?_
        refine lv_aload_n hx hb dX6_lay_63 rfl (lv_at hl 0 rfl) ?_
        refine va_get (D := (dC, dI)) (ci := 6) (v := .ref h_row) (C := RX6) (T := TX6) (N := 7) hx hb hts huX6 hown hK hP 0 rfl rfl 1 (by decide) hf25 (fun _ h9 => h9) rfl dX6_lay_64 ?_
        obtain ⟨q7, hq7, hr⟩ := bd_use hr
        refine pcV_i (As := []) (rest := [.int q6.2.1, .ref h_row]) S (c_X4_mover l dC dI h_row h_g h_bl h_wh h_ac c_bl c_wh c_ac n_row row_law q6.2.1 row_opener q6.2.2.1 q6.2.2.2.1 g_width g_height g_size g_all g_notFirstColumn g_notLastColumn q6.2.2.2.2.1 q6.2.2.2.2.2.1 q6.2.2.2.2.2.2 q7 hq7) (cwV 0 hts gX6_lay_X4_mover rfl rfl rfl (by decide +kernel) ⟨Nat.le_trans (m := rm_X6_lay.frames) (by decide) hRf, Nat.le_trans (m := rm_X6_lay.locals) (by decide) hRl⟩) hN hP hK ⟨Nat.zero_le _, Nat.zero_le _⟩ [2, 1, 3, 4, 5] rfl [0, 1, 2] rfl 2 4 rfl rfl rfl hl.1 rfl (Nat.le_of_ble_eq_true rfl) dX6_lay_67 ?_
        obtain ⟨q8, hq8, hr⟩ := bd_use hr
        refine pcV_i (As := [.int q6.2.1, .int q7]) (rest := []) S (c_X4_takenBy l dC dI h_row h_g h_bl h_wh h_ac c_bl c_wh c_ac n_row row_law q6.2.1 row_opener q6.2.2.1 q6.2.2.2.1 g_width g_height g_size g_all g_notFirstColumn g_notLastColumn q6.2.2.2.2.1 q6.2.2.2.2.2.1 q6.2.2.2.2.2.2 q6.2.1 q7 q8 hq8) (cwV 2 hts gX6_lay_X4_takenBy rfl rfl rfl (by decide +kernel) ⟨Nat.le_trans (m := rm_X6_lay.frames) (by decide) hRf, Nat.le_trans (m := rm_X6_lay.locals) (by decide) hRl⟩) hN hP hK ⟨Nat.zero_le _, Nat.zero_le _⟩ [2, 1, 3, 4, 5] rfl [0, 1, 2] rfl 2 4 rfl rfl rfl hl.1 rfl (Nat.le_of_ble_eq_true rfl) dX6_lay_70 ?_
        obtain rfl := Option.some.inj hr
        exact kret _ _ _ _ dX6_lay_73 hP hD hS
      · have hr := ite_n hr c5
        refine lv_bipush (v := (-4 : Int32)) hx hb dX6_lay_40 (by decide) ?_
        obtain rfl := Option.some.inj hr
        exact kret _ _ _ _ dX6_lay_42 hP hD hS
    · have hr := ite_n hr c4
      refine lv_bipush (v := (-3 : Int32)) hx hb dX6_lay_25 (by decide) ?_
      obtain rfl := Option.some.inj hr
      exact kret _ _ _ _ dX6_lay_27 hP hD hS
  · have hr := ite_p hr c2
    refine lv_bipush (v := (-2 : Int32)) hx hb dX6_lay_11 (by decide) ?_
    obtain rfl := Option.some.inj hr
    exact kret _ _ _ _ dX6_lay_13 hP hD hS

def f_X6_pass (n_row : Nat) (g_width : Int32) (g_size : Int32) (g_all : Int64) (g_notFirstColumn : Int64) (g_notLastColumn : Int64) (row_law : Int32) (row_latest : Int32) (row_opener : Int32) (row_blackThen : Int64) (row_whiteThen : Int64) (bl : Nat → Int64) (wh : Nat → Int64) (ac : Nat → Int32)  : Option (Int32 × Int32 × Int64 × Int64 × (Nat → Int64) × (Nat → Int64) × (Nat → Int32)) :=
  if row_latest < (120 : Int32) then (
    (f_X4_add n_row row_law row_latest row_opener row_blackThen row_whiteThen g_width g_size g_all g_notFirstColumn g_notLastColumn bl wh ac g_size).bind fun q2 =>
    (f_X4_passesNow n_row q2.2.1 g_size q2.2.2.2.2.2.2).bind fun q3 =>
    some (q3, q2.2.1, q2.2.2.1, q2.2.2.2.1, q2.2.2.2.2.1, q2.2.2.2.2.2.1, q2.2.2.2.2.2.2)
  )
  else (
    some ((-4 : Int32), row_latest, row_blackThen, row_whiteThen, bl, wh, ac)
  )

abbrev rm_X6_pass : Room := { frames := 4, cells := 0, slots := 0, locals := 104 }
set_option maxHeartbeats 4000000 in
set_option maxRecDepth 100000 in
theorem c_X6_pass (l : Launch) (dC : Nat → ClassId) (dI : Nat → Nat → Nat) (h_eb h_g h_row h_bl h_wh h_ac h_life h_t h_ch h_hrow h_hbl h_hwh h_hac h_fi : Nat) (c_bl c_wh c_ac c_hbl c_hwh c_hac : ClassId) (n_row n_hrow : Nat) (eb_winningAct g_width g_height g_size : Int32) (g_all g_notFirstColumn g_notLastColumn : Int64) (row_law row_latest row_opener : Int32) (row_blackThen row_whiteThen : Int64) (bl wh : Nat → Int64) (ac : Nat → Int32) (t_made ch_target ch_chased hrow_law hrow_latest hrow_opener : Int32) (hrow_blackThen hrow_whiteThen : Int64) (hbl hwh : Nat → Int64) (hac : Nat → Int32) (fi_target fi_attacked fi_decidingAct : Int32) (sz : Nat)  (q : Int32 × Int32 × Int64 × Int64 × (Nat → Int64) × (Nat → Int64) × (Nat → Int32)) (hr : f_X6_pass n_row g_width g_size g_all g_notFirstColumn g_notLastColumn row_law row_latest row_opener row_blackThen row_whiteThen bl wh ac  = some q) : Met l yX6_pass wsX6_pass rm_X6_pass (PrI (dC, dI) (wd_X6 h_eb h_g h_row h_bl h_wh h_ac h_life h_t h_ch h_hrow h_hbl h_hwh h_hac h_fi c_bl c_wh c_ac c_hbl c_hwh c_hac n_row n_hrow eb_winningAct g_width g_height g_size g_all g_notFirstColumn g_notLastColumn row_law row_latest row_opener row_blackThen row_whiteThen bl wh ac t_made ch_target ch_chased hrow_law hrow_latest hrow_opener hrow_blackThen hrow_whiteThen hbl hwh hac fi_target fi_attacked fi_decidingAct) (td_X6 c_bl c_wh c_ac c_hbl c_hwh c_hac) sz [.ref h_eb]) (QIi (dC, dI) (wd_X6 h_eb h_g h_row h_bl h_wh h_ac h_life h_t h_ch h_hrow h_hbl h_hwh h_hac h_fi c_bl c_wh c_ac c_hbl c_hwh c_hac n_row n_hrow eb_winningAct g_width g_height g_size g_all g_notFirstColumn g_notLastColumn row_law row_latest row_opener row_blackThen row_whiteThen bl wh ac t_made ch_target ch_chased hrow_law hrow_latest hrow_opener hrow_blackThen hrow_whiteThen hbl hwh hac fi_target fi_attacked fi_decidingAct) (td_X6 c_bl c_wh c_ac c_hbl c_hwh c_hac) sz q.1 (wd_X6 h_eb h_g h_row h_bl h_wh h_ac h_life h_t h_ch h_hrow h_hbl h_hwh h_hac h_fi c_bl c_wh c_ac c_hbl c_hwh c_hac n_row n_hrow eb_winningAct g_width g_height g_size g_all g_notFirstColumn g_notLastColumn row_law q.2.1 row_opener q.2.2.1 q.2.2.2.1 q.2.2.2.2.1 q.2.2.2.2.2.1 q.2.2.2.2.2.2 t_made ch_target ch_chased hrow_law hrow_latest hrow_opener hrow_blackThen hrow_whiteThen hbl hwh hac fi_target fi_attacked fi_decidingAct)) 0 0 (va_A (wd_X6 h_eb h_g h_row h_bl h_wh h_ac h_life h_t h_ch h_hrow h_hbl h_hwh h_hac h_fi c_bl c_wh c_ac c_hbl c_hwh c_hac n_row n_hrow eb_winningAct g_width g_height g_size g_all g_notFirstColumn g_notLastColumn row_law row_latest row_opener row_blackThen row_whiteThen bl wh ac t_made ch_target ch_chased hrow_law hrow_latest hrow_opener hrow_blackThen hrow_whiteThen hbl hwh hac fi_target fi_attacked fi_decidingAct) sz) := by
  refine mkI_i (cc := cX6_pass) (nL := 1) (by decide) rfl (Nat.le_of_ble_eq_true rfl) ?_
  intro p e R s m args below meth c H0 H locs A Q ls hRf hRl S hN hP hK hD hA hS hl kret
  have hl : lv_has ls 1 [(0, .ref h_eb)] := hl
  obtain ⟨hx, hb, hml, hown, hts⟩ := S
  have hown : s.vm.findClass RX6 = some m.cls := hown
  have S : CallFix p m c cX6_pass 1 s args wsX6_pass RX6 := ⟨hx, hb, hml, hown, hts⟩
  have huX6 : ∀ w ∈ u_ws RX6 TX6 7, w ∈ wsX6_pass := by decide +kernel
  have hf25 := hts (.fieldLink RX6 25 "EyeBoard" "row" "LEyeBoard$Row;") (by decide +kernel)
  have huX4 : ∀ w ∈ u_ws RX4 TX4 9, w ∈ wsX6_pass := by decide +kernel
  have hf73 := hts (.fieldLink RX6 73 "EyeBoard$Row" "latest" "I") (by decide +kernel)
  have hf12 := hts (.fieldLink RX6 12 "EyeBoard" "grid" "LEyeBoard$Grid;") (by decide +kernel)
  have huX2 : ∀ w ∈ u_ws RX2 TX2 6, w ∈ wsX6_pass := by decide +kernel
  have hf114 := hts (.fieldLink RX6 114 "EyeBoard$Grid" "size" "I") (by decide +kernel)
  unfold f_X6_pass at hr
  refine lv_aload_n hx hb dX6_pass_0 rfl (lv_at hl 0 rfl) ?_
  refine va_get (D := (dC, dI)) (ci := 6) (v := .ref h_row) (C := RX6) (T := TX6) (N := 7) hx hb hts huX6 hown hK hP 0 rfl rfl 1 (by decide) hf25 (fun _ h9 => h9) rfl dX6_pass_1 ?_
  refine va_get (D := (dC, dI)) (ci := 4) (v := .int row_latest) (C := RX4) (T := TX4) (N := 9) hx hb hts huX4 hown hK hP 2 rfl rfl 5 (by decide) hf73 (fun _ h9 => h9) rfl dX6_pass_4 ?_
  refine lv_bipush (v := (120 : Int32)) hx hb dX6_pass_7 (by decide) ?_
  refine lv_icmp_lt (tgt := 15) hx hb dX6_pass_9 (by decide) (fun c1 => ?_) (fun c1 => ?_)
  · have hr := ite_p hr c1
    refine lv_aload_n hx hb dX6_pass_15 rfl (lv_at hl 0 rfl) ?_
    refine va_get (D := (dC, dI)) (ci := 6) (v := .ref h_row) (C := RX6) (T := TX6) (N := 7) hx hb hts huX6 hown hK hP 0 rfl rfl 1 (by decide) hf25 (fun _ h9 => h9) rfl dX6_pass_16 ?_
    refine lv_aload_n hx hb dX6_pass_19 rfl (lv_at hl 0 rfl) ?_
    refine va_get (D := (dC, dI)) (ci := 6) (v := .ref h_g) (C := RX6) (T := TX6) (N := 7) hx hb hts huX6 hown hK hP 0 rfl rfl 0 (by decide) hf12 (fun _ h9 => h9) rfl dX6_pass_20 ?_
    refine va_get (D := (dC, dI)) (ci := 2) (v := .int g_size) (C := RX2) (T := TX2) (N := 6) hx hb hts huX2 hown hK hP 1 rfl rfl 2 (by decide) hf114 (fun _ h9 => h9) rfl dX6_pass_23 ?_
    obtain ⟨q2, hq2, hr⟩ := bd_use hr
    refine icV_i (As := [.int g_size]) (rest := []) (ws2 := (wd_X6 h_eb h_g h_row h_bl h_wh h_ac h_life h_t h_ch h_hrow h_hbl h_hwh h_hac h_fi c_bl c_wh c_ac c_hbl c_hwh c_hac n_row n_hrow eb_winningAct g_width g_height g_size g_all g_notFirstColumn g_notLastColumn row_law q2.2.1 row_opener q2.2.2.1 q2.2.2.2.1 q2.2.2.2.2.1 q2.2.2.2.2.2.1 q2.2.2.2.2.2.2 t_made ch_target ch_chased hrow_law hrow_latest hrow_opener hrow_blackThen hrow_whiteThen hbl hwh hac fi_target fi_attacked fi_decidingAct)) S (c_X4_add l dC dI h_row h_g h_bl h_wh h_ac c_bl c_wh c_ac n_row row_law row_latest row_opener row_blackThen row_whiteThen g_width g_height g_size g_all g_notFirstColumn g_notLastColumn bl wh ac H.size g_size q2 hq2) (cwV 1 hts gX6_pass_X4_add rfl rfl rfl (by decide +kernel) ⟨Nat.le_trans (m := rm_X6_pass.frames) (by decide) hRf, Nat.le_trans (m := rm_X6_pass.locals) (by decide) hRl⟩) hN hP hK hD hS hA ⟨Nat.zero_le _, Nat.zero_le _⟩ [2, 1, 3, 4, 5] [0, 6, 7, 8, 9, 10, 11, 12, 13] [0, 10, 9, 11, 12, 13, 1, 2, 3, 4, 5, 6, 7, 8] rfl rfl rfl rfl rfl (by decide) rfl rfl rfl [0, 1, 2] rfl 2 4 rfl rfl rfl hl.1 rfl (Nat.le_of_ble_eq_true rfl) dX6_pass_26 (fun H locs hP hD hS => ?_)
    refine lv_pop hx hb dX6_pass_29 rfl ?_
    refine lv_aload_n hx hb dX6_pass_30 rfl (lv_at hl 0 rfl) ?_
    refine va_get (D := (dC, dI)) (ci := 6) (v := .ref h_row) (C := RX6) (T := TX6) (N := 7) hx hb hts huX6 hown hK hP 0 rfl rfl 1 (by decide) hf25 (fun _ h9 => h9) rfl dX6_pass_31 ?_
    obtain ⟨q3, hq3, hr⟩ := bd_use hr
    refine pcV_i (As := []) (rest := []) S (c_X4_passesNow l dC dI h_row h_g h_bl h_wh h_ac c_bl c_wh c_ac n_row row_law q2.2.1 row_opener q2.2.2.1 q2.2.2.2.1 g_width g_height g_size g_all g_notFirstColumn g_notLastColumn q2.2.2.2.2.1 q2.2.2.2.2.2.1 q2.2.2.2.2.2.2 q3 hq3) (cwV 0 hts gX6_pass_X4_passesNow rfl rfl rfl (by decide +kernel) ⟨Nat.le_trans (m := rm_X6_pass.frames) (by decide) hRf, Nat.le_trans (m := rm_X6_pass.locals) (by decide) hRl⟩) hN hP hK ⟨Nat.zero_le _, Nat.zero_le _⟩ [2, 1, 3, 4, 5] rfl [0, 1, 2] rfl 2 4 rfl rfl rfl hl.1 rfl (Nat.le_of_ble_eq_true rfl) dX6_pass_34 ?_
    obtain rfl := Option.some.inj hr
    exact kret _ _ _ _ dX6_pass_37 hP hD hS
  · have hr := ite_n hr c1
    refine lv_bipush (v := (-4 : Int32)) hx hb dX6_pass_12 (by decide) ?_
    obtain rfl := Option.some.inj hr
    exact kret _ _ _ _ dX6_pass_14 hP hD hS

def f_X6_why (n_row : Nat) (g_width : Int32) (g_size : Int32) (g_all : Int64) (g_notFirstColumn : Int64) (g_notLastColumn : Int64) (row_law : Int32) (row_latest : Int32) (row_opener : Int32) (row_blackThen : Int64) (row_whiteThen : Int64) (bl : Nat → Int64) (wh : Nat → Int64) (a0 : Int32) : Option (Int32 × Int64 × Int64) :=
  (f_X2_has g_size a0).bind fun q1 =>
  if q1 = 0 then (
    some ((-2 : Int32), row_blackThen, row_whiteThen)
  )
  else (
    (f_X4_reasonAgainst n_row row_law row_latest row_opener row_blackThen row_whiteThen g_width g_all g_notFirstColumn g_notLastColumn bl wh a0).bind fun q3 =>
    some (q3.1, q3.2.1, q3.2.2)
  )

abbrev rm_X6_why : Room := { frames := 3, cells := 0, slots := 0, locals := 83 }
set_option maxHeartbeats 4000000 in
set_option maxRecDepth 100000 in
theorem c_X6_why (l : Launch) (dC : Nat → ClassId) (dI : Nat → Nat → Nat) (h_eb h_g h_row h_bl h_wh h_ac h_life h_t h_ch h_hrow h_hbl h_hwh h_hac h_fi : Nat) (c_bl c_wh c_ac c_hbl c_hwh c_hac : ClassId) (n_row n_hrow : Nat) (eb_winningAct g_width g_height g_size : Int32) (g_all g_notFirstColumn g_notLastColumn : Int64) (row_law row_latest row_opener : Int32) (row_blackThen row_whiteThen : Int64) (bl wh : Nat → Int64) (ac : Nat → Int32) (t_made ch_target ch_chased hrow_law hrow_latest hrow_opener : Int32) (hrow_blackThen hrow_whiteThen : Int64) (hbl hwh : Nat → Int64) (hac : Nat → Int32) (fi_target fi_attacked fi_decidingAct : Int32) (sz : Nat) (a0 : Int32) (q : Int32 × Int64 × Int64) (hr : f_X6_why n_row g_width g_size g_all g_notFirstColumn g_notLastColumn row_law row_latest row_opener row_blackThen row_whiteThen bl wh a0 = some q) : Met l yX6_why wsX6_why rm_X6_why (PrI (dC, dI) (wd_X6 h_eb h_g h_row h_bl h_wh h_ac h_life h_t h_ch h_hrow h_hbl h_hwh h_hac h_fi c_bl c_wh c_ac c_hbl c_hwh c_hac n_row n_hrow eb_winningAct g_width g_height g_size g_all g_notFirstColumn g_notLastColumn row_law row_latest row_opener row_blackThen row_whiteThen bl wh ac t_made ch_target ch_chased hrow_law hrow_latest hrow_opener hrow_blackThen hrow_whiteThen hbl hwh hac fi_target fi_attacked fi_decidingAct) (td_X6 c_bl c_wh c_ac c_hbl c_hwh c_hac) sz [.ref h_eb, .int a0]) (QIi (dC, dI) (wd_X6 h_eb h_g h_row h_bl h_wh h_ac h_life h_t h_ch h_hrow h_hbl h_hwh h_hac h_fi c_bl c_wh c_ac c_hbl c_hwh c_hac n_row n_hrow eb_winningAct g_width g_height g_size g_all g_notFirstColumn g_notLastColumn row_law row_latest row_opener row_blackThen row_whiteThen bl wh ac t_made ch_target ch_chased hrow_law hrow_latest hrow_opener hrow_blackThen hrow_whiteThen hbl hwh hac fi_target fi_attacked fi_decidingAct) (td_X6 c_bl c_wh c_ac c_hbl c_hwh c_hac) sz q.1 (wd_X6 h_eb h_g h_row h_bl h_wh h_ac h_life h_t h_ch h_hrow h_hbl h_hwh h_hac h_fi c_bl c_wh c_ac c_hbl c_hwh c_hac n_row n_hrow eb_winningAct g_width g_height g_size g_all g_notFirstColumn g_notLastColumn row_law row_latest row_opener q.2.1 q.2.2 bl wh ac t_made ch_target ch_chased hrow_law hrow_latest hrow_opener hrow_blackThen hrow_whiteThen hbl hwh hac fi_target fi_attacked fi_decidingAct)) 0 0 (va_A (wd_X6 h_eb h_g h_row h_bl h_wh h_ac h_life h_t h_ch h_hrow h_hbl h_hwh h_hac h_fi c_bl c_wh c_ac c_hbl c_hwh c_hac n_row n_hrow eb_winningAct g_width g_height g_size g_all g_notFirstColumn g_notLastColumn row_law row_latest row_opener row_blackThen row_whiteThen bl wh ac t_made ch_target ch_chased hrow_law hrow_latest hrow_opener hrow_blackThen hrow_whiteThen hbl hwh hac fi_target fi_attacked fi_decidingAct) sz) := by
  refine mkI_i (cc := cX6_why) (nL := 2) (by decide) rfl (Nat.le_of_ble_eq_true rfl) ?_
  intro p e R s m args below meth c H0 H locs A Q ls hRf hRl S hN hP hK hD hA hS hl kret
  have hl : lv_has ls 2 [(0, .ref h_eb), (1, .int a0)] := hl
  obtain ⟨hx, hb, hml, hown, hts⟩ := S
  have hown : s.vm.findClass RX6 = some m.cls := hown
  have S : CallFix p m c cX6_why 2 s args wsX6_why RX6 := ⟨hx, hb, hml, hown, hts⟩
  have huX6 : ∀ w ∈ u_ws RX6 TX6 7, w ∈ wsX6_why := by decide +kernel
  have hf12 := hts (.fieldLink RX6 12 "EyeBoard" "grid" "LEyeBoard$Grid;") (by decide +kernel)
  have hf25 := hts (.fieldLink RX6 25 "EyeBoard" "row" "LEyeBoard$Row;") (by decide +kernel)
  unfold f_X6_why at hr
  refine lv_aload_n hx hb dX6_why_0 rfl (lv_at hl 0 rfl) ?_
  refine va_get (D := (dC, dI)) (ci := 6) (v := .ref h_g) (C := RX6) (T := TX6) (N := 7) hx hb hts huX6 hown hK hP 0 rfl rfl 0 (by decide) hf12 (fun _ h9 => h9) rfl dX6_why_1 ?_
  refine lv_iload_n hx hb dX6_why_4 rfl (lv_at hl 1 rfl) ?_
  obtain ⟨q1, hq1, hr⟩ := bd_use hr
  refine pcV_i (As := [.int a0]) (rest := []) S (c_X2_has l dC dI h_g g_width g_height g_size g_all g_notFirstColumn g_notLastColumn a0 q1 hq1) (cwV 1 hts gX6_why_X2_has rfl rfl rfl (by decide +kernel) ⟨Nat.le_trans (m := rm_X6_why.frames) (by decide) hRf, Nat.le_trans (m := rm_X6_why.locals) (by decide) hRl⟩) hN hP hK ⟨Nat.zero_le _, Nat.zero_le _⟩ [1] rfl [] rfl 1 2 rfl rfl rfl hl.1 rfl (Nat.le_of_ble_eq_true rfl) dX6_why_5 ?_
  refine lv_if_eq (tgt := 22) hx hb dX6_why_8 (by decide) (fun c2 => ?_) (fun c2 => ?_)
  · have hr := ite_p hr c2
    refine lv_bipush (v := (-2 : Int32)) hx hb dX6_why_22 (by decide) ?_
    obtain rfl := Option.some.inj hr
    exact kret _ _ _ _ dX6_why_24 hP hD hS
  · have hr := ite_n hr c2
    refine lv_aload_n hx hb dX6_why_11 rfl (lv_at hl 0 rfl) ?_
    refine va_get (D := (dC, dI)) (ci := 6) (v := .ref h_row) (C := RX6) (T := TX6) (N := 7) hx hb hts huX6 hown hK hP 0 rfl rfl 1 (by decide) hf25 (fun _ h9 => h9) rfl dX6_why_12 ?_
    refine lv_iload_n hx hb dX6_why_15 rfl (lv_at hl 1 rfl) ?_
    obtain ⟨q3, hq3, hr⟩ := bd_use hr
    refine icV_i (As := [.int a0]) (rest := []) (ws2 := (wd_X6 h_eb h_g h_row h_bl h_wh h_ac h_life h_t h_ch h_hrow h_hbl h_hwh h_hac h_fi c_bl c_wh c_ac c_hbl c_hwh c_hac n_row n_hrow eb_winningAct g_width g_height g_size g_all g_notFirstColumn g_notLastColumn row_law row_latest row_opener q3.2.1 q3.2.2 bl wh ac t_made ch_target ch_chased hrow_law hrow_latest hrow_opener hrow_blackThen hrow_whiteThen hbl hwh hac fi_target fi_attacked fi_decidingAct)) S (c_X4_reasonAgainst l dC dI h_row h_g h_bl h_wh h_ac c_bl c_wh c_ac n_row row_law row_latest row_opener row_blackThen row_whiteThen g_width g_height g_size g_all g_notFirstColumn g_notLastColumn bl wh ac H.size a0 q3 hq3) (cwV 1 hts gX6_why_X4_reasonAgainst rfl rfl rfl (by decide +kernel) ⟨Nat.le_trans (m := rm_X6_why.frames) (by decide) hRf, Nat.le_trans (m := rm_X6_why.locals) (by decide) hRl⟩) hN hP hK hD hS hA ⟨Nat.zero_le _, Nat.zero_le _⟩ [2, 1, 3, 4, 5] [0, 6, 7, 8, 9, 10, 11, 12, 13] [0, 10, 9, 11, 12, 13, 1, 2, 3, 4, 5, 6, 7, 8] rfl rfl rfl rfl rfl (by decide) rfl rfl rfl [0, 1, 2] rfl 2 4 rfl rfl rfl hl.1 rfl (Nat.le_of_ble_eq_true rfl) dX6_why_16 (fun H locs hP hD hS => ?_)
    refine lv_goto (tgt := 24) hx hb dX6_why_19 (by decide) ?_
    obtain rfl := Option.some.inj hr
    exact kret _ _ _ _ dX6_why_24 hP hD hS

def f_X6_undo (row_latest : Int32)  : Option (Int32 × Int32) :=
  if 0 < row_latest then (
    (f_X4_takeBack row_latest).bind fun q2 =>
    some (q2, q2)
  )
  else (
    some ((-3 : Int32), row_latest)
  )

abbrev rm_X6_undo : Room := { frames := 2, cells := 0, slots := 0, locals := 52 }
set_option maxHeartbeats 4000000 in
set_option maxRecDepth 100000 in
theorem c_X6_undo (l : Launch) (dC : Nat → ClassId) (dI : Nat → Nat → Nat) (h_eb h_g h_row h_bl h_wh h_ac h_life h_t h_ch h_hrow h_hbl h_hwh h_hac h_fi : Nat) (c_bl c_wh c_ac c_hbl c_hwh c_hac : ClassId) (n_row n_hrow : Nat) (eb_winningAct g_width g_height g_size : Int32) (g_all g_notFirstColumn g_notLastColumn : Int64) (row_law row_latest row_opener : Int32) (row_blackThen row_whiteThen : Int64) (bl wh : Nat → Int64) (ac : Nat → Int32) (t_made ch_target ch_chased hrow_law hrow_latest hrow_opener : Int32) (hrow_blackThen hrow_whiteThen : Int64) (hbl hwh : Nat → Int64) (hac : Nat → Int32) (fi_target fi_attacked fi_decidingAct : Int32) (sz : Nat)  (q : Int32 × Int32) (hr : f_X6_undo row_latest  = some q) : Met l yX6_undo wsX6_undo rm_X6_undo (PrI (dC, dI) (wd_X6 h_eb h_g h_row h_bl h_wh h_ac h_life h_t h_ch h_hrow h_hbl h_hwh h_hac h_fi c_bl c_wh c_ac c_hbl c_hwh c_hac n_row n_hrow eb_winningAct g_width g_height g_size g_all g_notFirstColumn g_notLastColumn row_law row_latest row_opener row_blackThen row_whiteThen bl wh ac t_made ch_target ch_chased hrow_law hrow_latest hrow_opener hrow_blackThen hrow_whiteThen hbl hwh hac fi_target fi_attacked fi_decidingAct) (td_X6 c_bl c_wh c_ac c_hbl c_hwh c_hac) sz [.ref h_eb]) (QIi (dC, dI) (wd_X6 h_eb h_g h_row h_bl h_wh h_ac h_life h_t h_ch h_hrow h_hbl h_hwh h_hac h_fi c_bl c_wh c_ac c_hbl c_hwh c_hac n_row n_hrow eb_winningAct g_width g_height g_size g_all g_notFirstColumn g_notLastColumn row_law row_latest row_opener row_blackThen row_whiteThen bl wh ac t_made ch_target ch_chased hrow_law hrow_latest hrow_opener hrow_blackThen hrow_whiteThen hbl hwh hac fi_target fi_attacked fi_decidingAct) (td_X6 c_bl c_wh c_ac c_hbl c_hwh c_hac) sz q.1 (wd_X6 h_eb h_g h_row h_bl h_wh h_ac h_life h_t h_ch h_hrow h_hbl h_hwh h_hac h_fi c_bl c_wh c_ac c_hbl c_hwh c_hac n_row n_hrow eb_winningAct g_width g_height g_size g_all g_notFirstColumn g_notLastColumn row_law q.2 row_opener row_blackThen row_whiteThen bl wh ac t_made ch_target ch_chased hrow_law hrow_latest hrow_opener hrow_blackThen hrow_whiteThen hbl hwh hac fi_target fi_attacked fi_decidingAct)) 0 0 (va_A (wd_X6 h_eb h_g h_row h_bl h_wh h_ac h_life h_t h_ch h_hrow h_hbl h_hwh h_hac h_fi c_bl c_wh c_ac c_hbl c_hwh c_hac n_row n_hrow eb_winningAct g_width g_height g_size g_all g_notFirstColumn g_notLastColumn row_law row_latest row_opener row_blackThen row_whiteThen bl wh ac t_made ch_target ch_chased hrow_law hrow_latest hrow_opener hrow_blackThen hrow_whiteThen hbl hwh hac fi_target fi_attacked fi_decidingAct) sz) := by
  refine mkI_i (cc := cX6_undo) (nL := 1) (by decide) rfl (Nat.le_of_ble_eq_true rfl) ?_
  intro p e R s m args below meth c H0 H locs A Q ls hRf hRl S hN hP hK hD hA hS hl kret
  have hl : lv_has ls 1 [(0, .ref h_eb)] := hl
  obtain ⟨hx, hb, hml, hown, hts⟩ := S
  have hown : s.vm.findClass RX6 = some m.cls := hown
  have S : CallFix p m c cX6_undo 1 s args wsX6_undo RX6 := ⟨hx, hb, hml, hown, hts⟩
  have huX6 : ∀ w ∈ u_ws RX6 TX6 7, w ∈ wsX6_undo := by decide +kernel
  have hf25 := hts (.fieldLink RX6 25 "EyeBoard" "row" "LEyeBoard$Row;") (by decide +kernel)
  have huX4 : ∀ w ∈ u_ws RX4 TX4 9, w ∈ wsX6_undo := by decide +kernel
  have hf73 := hts (.fieldLink RX6 73 "EyeBoard$Row" "latest" "I") (by decide +kernel)
  unfold f_X6_undo at hr
  refine lv_aload_n hx hb dX6_undo_0 rfl (lv_at hl 0 rfl) ?_
  refine va_get (D := (dC, dI)) (ci := 6) (v := .ref h_row) (C := RX6) (T := TX6) (N := 7) hx hb hts huX6 hown hK hP 0 rfl rfl 1 (by decide) hf25 (fun _ h9 => h9) rfl dX6_undo_1 ?_
  refine va_get (D := (dC, dI)) (ci := 4) (v := .int row_latest) (C := RX4) (T := TX4) (N := 9) hx hb hts huX4 hown hK hP 2 rfl rfl 5 (by decide) hf73 (fun _ h9 => h9) rfl dX6_undo_4 ?_
  refine lv_if_gt (tgt := 13) hx hb dX6_undo_7 (by decide) (fun c1 => ?_) (fun c1 => ?_)
  · have hr := ite_p hr c1
    refine lv_aload_n hx hb dX6_undo_13 rfl (lv_at hl 0 rfl) ?_
    refine va_get (D := (dC, dI)) (ci := 6) (v := .ref h_row) (C := RX6) (T := TX6) (N := 7) hx hb hts huX6 hown hK hP 0 rfl rfl 1 (by decide) hf25 (fun _ h9 => h9) rfl dX6_undo_14 ?_
    obtain ⟨q2, hq2, hr⟩ := bd_use hr
    refine icV_v (As := []) (rest := []) (ws2 := (wd_X6 h_eb h_g h_row h_bl h_wh h_ac h_life h_t h_ch h_hrow h_hbl h_hwh h_hac h_fi c_bl c_wh c_ac c_hbl c_hwh c_hac n_row n_hrow eb_winningAct g_width g_height g_size g_all g_notFirstColumn g_notLastColumn row_law q2 row_opener row_blackThen row_whiteThen bl wh ac t_made ch_target ch_chased hrow_law hrow_latest hrow_opener hrow_blackThen hrow_whiteThen hbl hwh hac fi_target fi_attacked fi_decidingAct)) S (c_X4_takeBack l dC dI h_row h_g h_bl h_wh h_ac c_bl c_wh c_ac n_row row_law row_latest row_opener row_blackThen row_whiteThen g_width g_height g_size g_all g_notFirstColumn g_notLastColumn bl wh ac H.size q2 hq2) (cwV 0 hts gX6_undo_X4_takeBack rfl rfl rfl (by decide +kernel) ⟨Nat.le_trans (m := rm_X6_undo.frames) (by decide) hRf, Nat.le_trans (m := rm_X6_undo.locals) (by decide) hRl⟩) hN hP hK hD hS hA ⟨Nat.zero_le _, Nat.zero_le _⟩ [2, 1, 3, 4, 5] [0, 6, 7, 8, 9, 10, 11, 12, 13] [0, 10, 9, 11, 12, 13, 1, 2, 3, 4, 5, 6, 7, 8] rfl rfl rfl rfl rfl (by decide) rfl rfl rfl [0, 1, 2] rfl 2 4 rfl rfl rfl hl.1 rfl (Nat.le_of_ble_eq_true rfl) dX6_undo_17 (fun H locs hP hD hS => ?_)
    refine lv_aload_n hx hb dX6_undo_20 rfl (lv_at hl 0 rfl) ?_
    refine va_get (D := (dC, dI)) (ci := 6) (v := .ref h_row) (C := RX6) (T := TX6) (N := 7) hx hb hts huX6 hown hK hP 0 rfl rfl 1 (by decide) hf25 (fun _ h9 => h9) rfl dX6_undo_21 ?_
    refine va_get (D := (dC, dI)) (ci := 4) (v := .int q2) (C := RX4) (T := TX4) (N := 9) hx hb hts huX4 hown hK hP 2 rfl rfl 5 (by decide) hf73 (fun _ h9 => h9) rfl dX6_undo_24 ?_
    obtain rfl := Option.some.inj hr
    exact kret _ _ _ _ dX6_undo_27 hP hD hS
  · have hr := ite_n hr c1
    refine lv_bipush (v := (-3 : Int32)) hx hb dX6_undo_10 (by decide) ?_
    obtain rfl := Option.some.inj hr
    exact kret _ _ _ _ dX6_undo_12 hP hD hS

def f_X6_at (n_row : Nat) (g_size : Int32) (row_latest : Int32) (bl : Nat → Int64) (wh : Nat → Int64) (a0 : Int32) : Option (Int32) :=
  (f_X2_has g_size a0).bind fun q1 =>
  if q1 = 0 then (
    some ((-2 : Int32))
  )
  else (
    (f_X4_colourAt n_row row_latest bl wh a0).bind fun q3 =>
    some (q3)
  )

abbrev rm_X6_at : Room := { frames := 3, cells := 0, slots := 0, locals := 65 }
set_option maxHeartbeats 4000000 in
set_option maxRecDepth 100000 in
theorem c_X6_at (l : Launch) (dC : Nat → ClassId) (dI : Nat → Nat → Nat) (h_eb h_g h_row h_bl h_wh h_ac h_life h_t h_ch h_hrow h_hbl h_hwh h_hac h_fi : Nat) (c_bl c_wh c_ac c_hbl c_hwh c_hac : ClassId) (n_row n_hrow : Nat) (eb_winningAct g_width g_height g_size : Int32) (g_all g_notFirstColumn g_notLastColumn : Int64) (row_law row_latest row_opener : Int32) (row_blackThen row_whiteThen : Int64) (bl wh : Nat → Int64) (ac : Nat → Int32) (t_made ch_target ch_chased hrow_law hrow_latest hrow_opener : Int32) (hrow_blackThen hrow_whiteThen : Int64) (hbl hwh : Nat → Int64) (hac : Nat → Int32) (fi_target fi_attacked fi_decidingAct : Int32) (a0 : Int32) (q : Int32) (hr : f_X6_at n_row g_size row_latest bl wh a0 = some q) : Met l yX6_at wsX6_at rm_X6_at (PrP (dC, dI) (wd_X6 h_eb h_g h_row h_bl h_wh h_ac h_life h_t h_ch h_hrow h_hbl h_hwh h_hac h_fi c_bl c_wh c_ac c_hbl c_hwh c_hac n_row n_hrow eb_winningAct g_width g_height g_size g_all g_notFirstColumn g_notLastColumn row_law row_latest row_opener row_blackThen row_whiteThen bl wh ac t_made ch_target ch_chased hrow_law hrow_latest hrow_opener hrow_blackThen hrow_whiteThen hbl hwh hac fi_target fi_attacked fi_decidingAct) (td_X6 c_bl c_wh c_ac c_hbl c_hwh c_hac) [.ref h_eb, .int a0]) (vp_Si (fun x => x = q)) 0 0 (fun _ => False) := by
  refine mkP_i (cc := cX6_at) (nL := 2) (by decide) rfl (Nat.le_of_ble_eq_true rfl) ?_
  intro p e R s m args below meth c H Q ls hRf hRl S hN hP hK hl kret
  have hl : lv_has ls 2 [(0, .ref h_eb), (1, .int a0)] := hl
  obtain ⟨hx, hb, hml, hown, hts⟩ := S
  have hown : s.vm.findClass RX6 = some m.cls := hown
  have S : CallFix p m c cX6_at 2 s args wsX6_at RX6 := ⟨hx, hb, hml, hown, hts⟩
  have huX6 : ∀ w ∈ u_ws RX6 TX6 7, w ∈ wsX6_at := by decide +kernel
  have hf12 := hts (.fieldLink RX6 12 "EyeBoard" "grid" "LEyeBoard$Grid;") (by decide +kernel)
  have hf25 := hts (.fieldLink RX6 25 "EyeBoard" "row" "LEyeBoard$Row;") (by decide +kernel)
  unfold f_X6_at at hr
  refine lv_aload_n hx hb dX6_at_0 rfl (lv_at hl 0 rfl) ?_
  refine va_get (D := (dC, dI)) (ci := 6) (v := .ref h_g) (C := RX6) (T := TX6) (N := 7) hx hb hts huX6 hown hK hP 0 rfl rfl 0 (by decide) hf12 (fun _ h9 => h9) rfl dX6_at_1 ?_
  refine lv_iload_n hx hb dX6_at_4 rfl (lv_at hl 1 rfl) ?_
  obtain ⟨q1, hq1, hr⟩ := bd_use hr
  refine pcV_i (As := [.int a0]) (rest := []) S (c_X2_has l dC dI h_g g_width g_height g_size g_all g_notFirstColumn g_notLastColumn a0 q1 hq1) (cwV 1 hts gX6_at_X2_has rfl rfl rfl (by decide +kernel) ⟨Nat.le_trans (m := rm_X6_at.frames) (by decide) hRf, Nat.le_trans (m := rm_X6_at.locals) (by decide) hRl⟩) hN hP hK ⟨Nat.zero_le _, Nat.zero_le _⟩ [1] rfl [] rfl 1 2 rfl rfl rfl hl.1 rfl (Nat.le_of_ble_eq_true rfl) dX6_at_5 ?_
  refine lv_if_eq (tgt := 22) hx hb dX6_at_8 (by decide) (fun c2 => ?_) (fun c2 => ?_)
  · have hr := ite_p hr c2
    refine lv_bipush (v := (-2 : Int32)) hx hb dX6_at_22 (by decide) ?_
    obtain rfl := Option.some.inj hr
    exact kret _ _ dX6_at_24
  · have hr := ite_n hr c2
    refine lv_aload_n hx hb dX6_at_11 rfl (lv_at hl 0 rfl) ?_
    refine va_get (D := (dC, dI)) (ci := 6) (v := .ref h_row) (C := RX6) (T := TX6) (N := 7) hx hb hts huX6 hown hK hP 0 rfl rfl 1 (by decide) hf25 (fun _ h9 => h9) rfl dX6_at_12 ?_
    refine lv_iload_n hx hb dX6_at_15 rfl (lv_at hl 1 rfl) ?_
    obtain ⟨q3, hq3, hr⟩ := bd_use hr
    refine pcV_i (As := [.int a0]) (rest := []) S (c_X4_colourAt l dC dI h_row h_g h_bl h_wh h_ac c_bl c_wh c_ac n_row row_law row_latest row_opener row_blackThen row_whiteThen g_width g_height g_size g_all g_notFirstColumn g_notLastColumn bl wh ac a0 q3 hq3) (cwV 1 hts gX6_at_X4_colourAt rfl rfl rfl (by decide +kernel) ⟨Nat.le_trans (m := rm_X6_at.frames) (by decide) hRf, Nat.le_trans (m := rm_X6_at.locals) (by decide) hRl⟩) hN hP hK ⟨Nat.zero_le _, Nat.zero_le _⟩ [2, 1, 3, 4, 5] rfl [0, 1, 2] rfl 2 4 rfl rfl rfl hl.1 rfl (Nat.le_of_ble_eq_true rfl) dX6_at_16 ?_
    refine lv_goto (tgt := 24) hx hb dX6_at_19 (by decide) ?_
    obtain rfl := Option.some.inj hr
    exact kret _ _ dX6_at_24

def f_X6_group (n_row : Nat) (g_width : Int32) (g_size : Int32) (g_all : Int64) (g_notFirstColumn : Int64) (g_notLastColumn : Int64) (row_latest : Int32) (bl : Nat → Int64) (wh : Nat → Int64) (a0 : Int32) (a1 : Int32) : Option (Int32) :=
  (f_X2_has g_size a0).bind fun q1 =>
  if q1 = 0 then (
    some ((-2 : Int32))
  )
  else (
    if a1 < 0 then (
      some ((-2 : Int32))
    )
    else (
      if a1 ≤ (4 : Int32) then (
        (f_X4_colourAt n_row row_latest bl wh a0).bind fun q5 =>
        if q5 = 0 then (
          some ((-3 : Int32))
        )
        else (
          (f_X4_stonesOf n_row row_latest bl wh q5).bind fun q7 =>
          (f_X2_spread g_width g_all g_notFirstColumn g_notLastColumn (jshl (1 : Int64) a0) q7).bind fun q8 =>
          if a1 = 0 then (
            (f_J13_bitCount_95d88 q8).bind fun q10 =>
            some (q10)
          )
          else (
          if a1 = 1 then (
            (f_X2_beside g_width g_all g_notFirstColumn g_notLastColumn q8).bind fun q12 =>
            (f_X4_free n_row row_latest g_all bl wh).bind fun q13 =>
            (f_J13_bitCount_95d88 (q12 &&& q13)).bind fun q14 =>
            some (q14)
          )
          else (
          if a1 = 2 then (
            (f_X2_nth g_size q8 (0 : Int32)).bind fun q16 =>
            some (q16)
          )
          else (
          if a1 = 3 then (
            (f_X4_free n_row row_latest g_all bl wh).bind fun q18 =>
            (f_X3_vitalRegions g_width g_size g_all g_notFirstColumn g_notLastColumn q8 (g_all &&& (q7 ^^^ (-1 : Int64))) q18).bind fun q19 =>
            some (q19)
          )
          else (
          (f_X4_free n_row row_latest g_all bl wh).bind fun q21 =>
          (f_X3_standingStones g_width g_size g_all g_notFirstColumn g_notLastColumn q7 q21).bind fun q22 =>
          if q8 &&& q22 = (0 : Int64) then (
            some ((0 : Int32))
          )
          else (
            some ((1 : Int32))
          )))))
        )
      )
      else (
        some ((-2 : Int32))
      )
    )
  )

abbrev rm_X6_group : Room := { frames := 6, cells := 0, slots := 0, locals := 172 }
set_option maxHeartbeats 4000000 in
set_option maxRecDepth 100000 in
theorem c_X6_group (l : Launch) (dC : Nat → ClassId) (dI : Nat → Nat → Nat) (h_eb h_g h_row h_bl h_wh h_ac h_life h_t h_ch h_hrow h_hbl h_hwh h_hac h_fi : Nat) (c_bl c_wh c_ac c_hbl c_hwh c_hac : ClassId) (n_row n_hrow : Nat) (eb_winningAct g_width g_height g_size : Int32) (g_all g_notFirstColumn g_notLastColumn : Int64) (row_law row_latest row_opener : Int32) (row_blackThen row_whiteThen : Int64) (bl wh : Nat → Int64) (ac : Nat → Int32) (t_made ch_target ch_chased hrow_law hrow_latest hrow_opener : Int32) (hrow_blackThen hrow_whiteThen : Int64) (hbl hwh : Nat → Int64) (hac : Nat → Int32) (fi_target fi_attacked fi_decidingAct : Int32) (a0 : Int32) (a1 : Int32) (q : Int32) (hr : f_X6_group n_row g_width g_size g_all g_notFirstColumn g_notLastColumn row_latest bl wh a0 a1 = some q) : Met l yX6_group wsX6_group rm_X6_group (PrP (dC, dI) (wd_X6 h_eb h_g h_row h_bl h_wh h_ac h_life h_t h_ch h_hrow h_hbl h_hwh h_hac h_fi c_bl c_wh c_ac c_hbl c_hwh c_hac n_row n_hrow eb_winningAct g_width g_height g_size g_all g_notFirstColumn g_notLastColumn row_law row_latest row_opener row_blackThen row_whiteThen bl wh ac t_made ch_target ch_chased hrow_law hrow_latest hrow_opener hrow_blackThen hrow_whiteThen hbl hwh hac fi_target fi_attacked fi_decidingAct) (td_X6 c_bl c_wh c_ac c_hbl c_hwh c_hac) [.ref h_eb, .int a0, .int a1]) (vp_Si (fun x => x = q)) 0 0 (fun _ => False) := by
  refine mkP_i (cc := cX6_group) (nL := 8) (by decide) rfl (Nat.le_of_ble_eq_true rfl) ?_
  intro p e R s m args below meth c H Q ls hRf hRl S hN hP hK hl kret
  have hl : lv_has ls 8 [(0, .ref h_eb), (1, .int a0), (2, .int a1)] := hl
  obtain ⟨hx, hb, hml, hown, hts⟩ := S
  have hown : s.vm.findClass RX6 = some m.cls := hown
  have S : CallFix p m c cX6_group 8 s args wsX6_group RX6 := ⟨hx, hb, hml, hown, hts⟩
  have huX6 : ∀ w ∈ u_ws RX6 TX6 7, w ∈ wsX6_group := by decide +kernel
  have hf12 := hts (.fieldLink RX6 12 "EyeBoard" "grid" "LEyeBoard$Grid;") (by decide +kernel)
  have hf25 := hts (.fieldLink RX6 25 "EyeBoard" "row" "LEyeBoard$Row;") (by decide +kernel)
  have hf38 := hts (.fieldLink RX6 38 "EyeBoard" "life" "LEyeBoard$Life;") (by decide +kernel)
  have huX2 : ∀ w ∈ u_ws RX2 TX2 6, w ∈ wsX6_group := by decide +kernel
  have hf88 := hts (.fieldLink RX6 88 "EyeBoard$Grid" "all" "J") (by decide +kernel)
  have hk86 := hts (.constantLong RX6 86 (-1 : Int64)) (by decide +kernel)
  unfold f_X6_group at hr
  refine lv_aload_n hx hb dX6_group_0 rfl (lv_at hl 0 rfl) ?_
  refine va_get (D := (dC, dI)) (ci := 6) (v := .ref h_g) (C := RX6) (T := TX6) (N := 7) hx hb hts huX6 hown hK hP 0 rfl rfl 0 (by decide) hf12 (fun _ h9 => h9) rfl dX6_group_1 ?_
  refine lv_iload_n hx hb dX6_group_4 rfl (lv_at hl 1 rfl) ?_
  obtain ⟨q1, hq1, hr⟩ := bd_use hr
  refine pcV_i (As := [.int a0]) (rest := []) S (c_X2_has l dC dI h_g g_width g_height g_size g_all g_notFirstColumn g_notLastColumn a0 q1 hq1) (cwV 1 hts gX6_group_X2_has rfl rfl rfl (by decide +kernel) ⟨Nat.le_trans (m := rm_X6_group.frames) (by decide) hRf, Nat.le_trans (m := rm_X6_group.locals) (by decide) hRl⟩) hN hP hK ⟨Nat.zero_le _, Nat.zero_le _⟩ [1] rfl [] rfl 1 2 rfl rfl rfl hl.1 rfl (Nat.le_of_ble_eq_true rfl) dX6_group_5 ?_
  refine lv_if_eq (tgt := 20) hx hb dX6_group_8 (by decide) (fun c2 => ?_) (fun c2 => ?_)
  · have hr := ite_p hr c2
    refine lv_bipush (v := (-2 : Int32)) hx hb dX6_group_20 (by decide) ?_
    obtain rfl := Option.some.inj hr
    exact kret _ _ dX6_group_22
  · have hr := ite_n hr c2
    refine lv_iload_n hx hb dX6_group_11 rfl (lv_at hl 2 rfl) ?_
    refine lv_if_lt (tgt := 20) hx hb dX6_group_12 (by decide) (fun c3 => ?_) (fun c3 => ?_)
    · have hr := ite_p hr c3
      refine lv_bipush (v := (-2 : Int32)) hx hb dX6_group_20 (by decide) ?_
      obtain rfl := Option.some.inj hr
      exact kret _ _ dX6_group_22
    · have hr := ite_n hr c3
      refine lv_iload_n hx hb dX6_group_15 rfl (lv_at hl 2 rfl) ?_
      refine lv_iconst (v := (4 : Int32)) hx hb dX6_group_16 (by decide) ?_
      refine lv_icmp_le (tgt := 23) hx hb dX6_group_17 (by decide) (fun c4 => ?_) (fun c4 => ?_)
      · have hr := ite_p hr c4
        refine lv_aload_n hx hb dX6_group_23 rfl (lv_at hl 0 rfl) ?_
        refine va_get (D := (dC, dI)) (ci := 6) (v := .ref h_row) (C := RX6) (T := TX6) (N := 7) hx hb hts huX6 hown hK hP 0 rfl rfl 1 (by decide) hf25 (fun _ h9 => h9) rfl dX6_group_24 ?_
        refine lv_iload_n hx hb dX6_group_27 rfl (lv_at hl 1 rfl) ?_
        obtain ⟨q5, hq5, hr⟩ := bd_use hr
        refine pcV_i (As := [.int a0]) (rest := []) S (c_X4_colourAt l dC dI h_row h_g h_bl h_wh h_ac c_bl c_wh c_ac n_row row_law row_latest row_opener row_blackThen row_whiteThen g_width g_height g_size g_all g_notFirstColumn g_notLastColumn bl wh ac a0 q5 hq5) (cwV 1 hts gX6_group_X4_colourAt rfl rfl rfl (by decide +kernel) ⟨Nat.le_trans (m := rm_X6_group.frames) (by decide) hRf, Nat.le_trans (m := rm_X6_group.locals) (by decide) hRl⟩) hN hP hK ⟨Nat.zero_le _, Nat.zero_le _⟩ [2, 1, 3, 4, 5] rfl [0, 1, 2] rfl 2 4 rfl rfl rfl hl.1 rfl (Nat.le_of_ble_eq_true rfl) dX6_group_28 ?_
        refine lv_istore_n (lv' := [(3, .int q5), (0, .ref h_eb), (1, .int a0), (2, .int a1)]) hx hb dX6_group_31 rfl hl (by decide) rfl (fun ls hl => ?_)
        refine lv_iload_n hx hb dX6_group_32 rfl (lv_at hl 0 rfl) ?_
        refine lv_if_ne (tgt := 39) hx hb dX6_group_33 (by decide) (fun c6 => ?_) (fun c6 => ?_)
        · have hr := ite_n hr c6
          refine lv_aload_n hx hb dX6_group_39 rfl (lv_at hl 1 rfl) ?_
          refine va_get (D := (dC, dI)) (ci := 6) (v := .ref h_row) (C := RX6) (T := TX6) (N := 7) hx hb hts huX6 hown hK hP 0 rfl rfl 1 (by decide) hf25 (fun _ h9 => h9) rfl dX6_group_40 ?_
          refine lv_iload_n hx hb dX6_group_43 rfl (lv_at hl 0 rfl) ?_
          obtain ⟨q7, hq7, hr⟩ := bd_use hr
          refine pcV_l (As := [.int q5]) (rest := []) S (c_X4_stonesOf l dC dI h_row h_g h_bl h_wh h_ac c_bl c_wh c_ac n_row row_law row_latest row_opener row_blackThen row_whiteThen g_width g_height g_size g_all g_notFirstColumn g_notLastColumn bl wh ac q5 q7 hq7) (cwV 1 hts gX6_group_X4_stonesOf rfl rfl rfl (by decide +kernel) ⟨Nat.le_trans (m := rm_X6_group.frames) (by decide) hRf, Nat.le_trans (m := rm_X6_group.locals) (by decide) hRl⟩) hN hP hK ⟨Nat.zero_le _, Nat.zero_le _⟩ [2, 1, 3, 4, 5] rfl [0, 1, 2] rfl 2 4 rfl rfl rfl hl.1 rfl (Nat.le_of_ble_eq_true rfl) dX6_group_44 ?_
          refine lv_lstore (lv' := [(4, .long q7), (3, .int q5), (0, .ref h_eb), (1, .int a0), (2, .int a1)]) hx hb dX6_group_47 hl (by decide) rfl (fun ls hl => ?_)
          refine lv_aload_n hx hb dX6_group_49 rfl (lv_at hl 2 rfl) ?_
          refine va_get (D := (dC, dI)) (ci := 6) (v := .ref h_g) (C := RX6) (T := TX6) (N := 7) hx hb hts huX6 hown hK hP 0 rfl rfl 0 (by decide) hf12 (fun _ h9 => h9) rfl dX6_group_50 ?_
          refine lv_lconst (v := (1 : Int64)) hx hb dX6_group_53 (by decide) ?_
          refine lv_iload_n hx hb dX6_group_54 rfl (lv_at hl 3 rfl) ?_
          refine lv_lshl (v := jshl (1 : Int64) a0) hx hb dX6_group_55 rfl ?_
          refine lv_lload hx hb dX6_group_56 (lv_at hl 0 rfl) ?_
          obtain ⟨q8, hq8, hr⟩ := bd_use hr
          refine pcV_l (As := [.long (jshl (1 : Int64) a0), .long q7]) (rest := []) S (c_X2_spread l dC dI h_g g_width g_height g_size g_all g_notFirstColumn g_notLastColumn (jshl (1 : Int64) a0) q7 q8 hq8) (cwV 2 hts gX6_group_X2_spread rfl rfl rfl (by decide +kernel) ⟨Nat.le_trans (m := rm_X6_group.frames) (by decide) hRf, Nat.le_trans (m := rm_X6_group.locals) (by decide) hRl⟩) hN hP hK ⟨Nat.zero_le _, Nat.zero_le _⟩ [1] rfl [] rfl 1 2 rfl rfl rfl hl.1 rfl (Nat.le_of_ble_eq_true rfl) dX6_group_58 ?_
          refine lv_lstore (lv' := [(6, .long q8), (4, .long q7), (3, .int q5), (0, .ref h_eb), (1, .int a0), (2, .int a1)]) hx hb dX6_group_61 hl (by decide) rfl (fun ls hl => ?_)
          refine lv_iload_n hx hb dX6_group_63 rfl (lv_at hl 5 rfl) ?_
          by_cases c9 : a1 = 0
          · have hr := ite_p hr c9
            refine lv_tableIn (off := 32) (tgt := 96) hx hb dX6_group_64 (by rw [c9]; decide) (by rw [c9]; decide) (by rw [c9]; rfl) (by decide) ?_
            refine lv_lload hx hb dX6_group_96 (lv_at hl 0 rfl) ?_
            obtain ⟨q10, hq10, hr⟩ := bd_use hr
            refine pcS_i (As := [.long q8]) (rest := []) S (c_J13_bitCount_95d88 l dC dI q8 q10 hq10) (va_cwS 1 hts gX6_group_J13_bitCount_95d88 rfl rfl rfl (by decide +kernel) ⟨Nat.le_trans (m := rm_X6_group.frames) (by decide) hRf, Nat.le_trans (m := rm_X6_group.locals) (by decide) hRl⟩) hN hP hK ⟨Nat.zero_le _, Nat.zero_le _⟩ rfl hl.1 rfl (Nat.le_of_ble_eq_true rfl) dX6_group_98 ?_
            obtain rfl := Option.some.inj hr
            exact kret _ _ dX6_group_101
          have hr := ite_n hr c9
          by_cases c11 : a1 = 1
          · have hr := ite_p hr c11
            refine lv_tableIn (off := 38) (tgt := 102) hx hb dX6_group_64 (by rw [c11]; decide) (by rw [c11]; decide) (by rw [c11]; rfl) (by decide) ?_
            refine lv_aload_n hx hb dX6_group_102 rfl (lv_at hl 3 rfl) ?_
            refine va_get (D := (dC, dI)) (ci := 6) (v := .ref h_g) (C := RX6) (T := TX6) (N := 7) hx hb hts huX6 hown hK hP 0 rfl rfl 0 (by decide) hf12 (fun _ h9 => h9) rfl dX6_group_103 ?_
            refine lv_lload hx hb dX6_group_106 (lv_at hl 0 rfl) ?_
            obtain ⟨q12, hq12, hr⟩ := bd_use hr
            refine pcV_l (As := [.long q8]) (rest := []) S (c_X2_beside l dC dI h_g g_width g_height g_size g_all g_notFirstColumn g_notLastColumn q8 q12 hq12) (cwV 1 hts gX6_group_X2_beside rfl rfl rfl (by decide +kernel) ⟨Nat.le_trans (m := rm_X6_group.frames) (by decide) hRf, Nat.le_trans (m := rm_X6_group.locals) (by decide) hRl⟩) hN hP hK ⟨Nat.zero_le _, Nat.zero_le _⟩ [1] rfl [] rfl 1 2 rfl rfl rfl hl.1 rfl (Nat.le_of_ble_eq_true rfl) dX6_group_108 ?_
            refine lv_aload_n hx hb dX6_group_111 rfl (lv_at hl 3 rfl) ?_
            refine va_get (D := (dC, dI)) (ci := 6) (v := .ref h_row) (C := RX6) (T := TX6) (N := 7) hx hb hts huX6 hown hK hP 0 rfl rfl 1 (by decide) hf25 (fun _ h9 => h9) rfl dX6_group_112 ?_
            obtain ⟨q13, hq13, hr⟩ := bd_use hr
            refine pcV_l (As := []) (rest := [.long q12]) S (c_X4_free l dC dI h_row h_g h_bl h_wh h_ac c_bl c_wh c_ac n_row row_law row_latest row_opener row_blackThen row_whiteThen g_width g_height g_size g_all g_notFirstColumn g_notLastColumn bl wh ac q13 hq13) (cwV 0 hts gX6_group_X4_free rfl rfl rfl (by decide +kernel) ⟨Nat.le_trans (m := rm_X6_group.frames) (by decide) hRf, Nat.le_trans (m := rm_X6_group.locals) (by decide) hRl⟩) hN hP hK ⟨Nat.zero_le _, Nat.zero_le _⟩ [2, 1, 3, 4, 5] rfl [0, 1, 2] rfl 2 4 rfl rfl rfl hl.1 rfl (Nat.le_of_ble_eq_true rfl) dX6_group_115 ?_
            refine lv_land hx hb dX6_group_118 ?_
            obtain ⟨q14, hq14, hr⟩ := bd_use hr
            refine pcS_i (As := [.long (q12 &&& q13)]) (rest := []) S (c_J13_bitCount_95d88 l dC dI (q12 &&& q13) q14 hq14) (va_cwS 1 hts gX6_group_J13_bitCount_95d88 rfl rfl rfl (by decide +kernel) ⟨Nat.le_trans (m := rm_X6_group.frames) (by decide) hRf, Nat.le_trans (m := rm_X6_group.locals) (by decide) hRl⟩) hN hP hK ⟨Nat.zero_le _, Nat.zero_le _⟩ rfl hl.1 rfl (Nat.le_of_ble_eq_true rfl) dX6_group_119 ?_
            obtain rfl := Option.some.inj hr
            exact kret _ _ dX6_group_122
          have hr := ite_n hr c11
          by_cases c15 : a1 = 2
          · have hr := ite_p hr c15
            refine lv_tableIn (off := 59) (tgt := 123) hx hb dX6_group_64 (by rw [c15]; decide) (by rw [c15]; decide) (by rw [c15]; rfl) (by decide) ?_
            refine lv_aload_n hx hb dX6_group_123 rfl (lv_at hl 3 rfl) ?_
            refine va_get (D := (dC, dI)) (ci := 6) (v := .ref h_g) (C := RX6) (T := TX6) (N := 7) hx hb hts huX6 hown hK hP 0 rfl rfl 0 (by decide) hf12 (fun _ h9 => h9) rfl dX6_group_124 ?_
            refine lv_lload hx hb dX6_group_127 (lv_at hl 0 rfl) ?_
            refine lv_iconst (v := (0 : Int32)) hx hb dX6_group_129 (by decide) ?_
            obtain ⟨q16, hq16, hr⟩ := bd_use hr
            refine pcV_i (As := [.long q8, .int (0 : Int32)]) (rest := []) S (c_X2_nth l dC dI h_g g_width g_height g_size g_all g_notFirstColumn g_notLastColumn q8 (0 : Int32) q16 hq16) (cwV 2 hts gX6_group_X2_nth rfl rfl rfl (by decide +kernel) ⟨Nat.le_trans (m := rm_X6_group.frames) (by decide) hRf, Nat.le_trans (m := rm_X6_group.locals) (by decide) hRl⟩) hN hP hK ⟨Nat.zero_le _, Nat.zero_le _⟩ [1] rfl [] rfl 1 2 rfl rfl rfl hl.1 rfl (Nat.le_of_ble_eq_true rfl) dX6_group_130 ?_
            obtain rfl := Option.some.inj hr
            exact kret _ _ dX6_group_133
          have hr := ite_n hr c15
          by_cases c17 : a1 = 3
          · have hr := ite_p hr c17
            refine lv_tableIn (off := 70) (tgt := 134) hx hb dX6_group_64 (by rw [c17]; decide) (by rw [c17]; decide) (by rw [c17]; rfl) (by decide) ?_
            refine lv_aload_n hx hb dX6_group_134 rfl (lv_at hl 3 rfl) ?_
            refine va_get (D := (dC, dI)) (ci := 6) (v := .ref h_life) (C := RX6) (T := TX6) (N := 7) hx hb hts huX6 hown hK hP 0 rfl rfl 2 (by decide) hf38 (fun _ h9 => h9) rfl dX6_group_135 ?_
            refine lv_lload hx hb dX6_group_138 (lv_at hl 0 rfl) ?_
            refine lv_aload_n hx hb dX6_group_140 rfl (lv_at hl 3 rfl) ?_
            refine va_get (D := (dC, dI)) (ci := 6) (v := .ref h_g) (C := RX6) (T := TX6) (N := 7) hx hb hts huX6 hown hK hP 0 rfl rfl 0 (by decide) hf12 (fun _ h9 => h9) rfl dX6_group_141 ?_
            refine va_get (D := (dC, dI)) (ci := 2) (v := .long g_all) (C := RX2) (T := TX2) (N := 6) hx hb hts huX2 hown hK hP 1 rfl rfl 3 (by decide) hf88 (fun _ h9 => h9) rfl dX6_group_144 ?_
            refine lv_lload hx hb dX6_group_147 (lv_at hl 1 rfl) ?_
            refine W.ldc2 (v := (-1 : Int64)) hx hb hown hk86 rfl dX6_group_149 ?_
            refine W.eq (g2 := F0 m 152 ls [.long (-1 : Int64), .long q7, .long g_all, .long q8, .ref h_life]) rfl ?_
            refine lv_lxor hx hb dX6_group_152 ?_
            refine lv_land hx hb dX6_group_153 ?_
            refine lv_aload_n hx hb dX6_group_154 rfl (lv_at hl 3 rfl) ?_
            refine va_get (D := (dC, dI)) (ci := 6) (v := .ref h_row) (C := RX6) (T := TX6) (N := 7) hx hb hts huX6 hown hK hP 0 rfl rfl 1 (by decide) hf25 (fun _ h9 => h9) rfl dX6_group_155 ?_
            obtain ⟨q18, hq18, hr⟩ := bd_use hr
            refine pcV_l (As := []) (rest := [.long (g_all &&& (q7 ^^^ (-1 : Int64))), .long q8, .ref h_life]) S (c_X4_free l dC dI h_row h_g h_bl h_wh h_ac c_bl c_wh c_ac n_row row_law row_latest row_opener row_blackThen row_whiteThen g_width g_height g_size g_all g_notFirstColumn g_notLastColumn bl wh ac q18 hq18) (cwV 0 hts gX6_group_X4_free rfl rfl rfl (by decide +kernel) ⟨Nat.le_trans (m := rm_X6_group.frames) (by decide) hRf, Nat.le_trans (m := rm_X6_group.locals) (by decide) hRl⟩) hN hP hK ⟨Nat.zero_le _, Nat.zero_le _⟩ [2, 1, 3, 4, 5] rfl [0, 1, 2] rfl 2 4 rfl rfl rfl hl.1 rfl (Nat.le_of_ble_eq_true rfl) dX6_group_158 ?_
            obtain ⟨q19, hq19, hr⟩ := bd_use hr
            refine pcV_i (As := [.long q8, .long (g_all &&& (q7 ^^^ (-1 : Int64))), .long q18]) (rest := []) S (c_X3_vitalRegions l dC dI h_life h_g g_width g_height g_size g_all g_notFirstColumn g_notLastColumn q8 (g_all &&& (q7 ^^^ (-1 : Int64))) q18 q19 hq19) (cwV 3 hts gX6_group_X3_vitalRegions rfl rfl rfl (by decide +kernel) ⟨Nat.le_trans (m := rm_X6_group.frames) (by decide) hRf, Nat.le_trans (m := rm_X6_group.locals) (by decide) hRl⟩) hN hP hK ⟨Nat.zero_le _, Nat.zero_le _⟩ [6, 1] rfl [] rfl 6 3 rfl rfl rfl hl.1 rfl (Nat.le_of_ble_eq_true rfl) dX6_group_161 ?_
            obtain rfl := Option.some.inj hr
            exact kret _ _ dX6_group_164
          have hr := ite_n hr c17
          have ht20 : a1.toInt < 0 ∨ 3 < a1.toInt := by
            have e0 : ¬ a1.toInt = 0 := tb_ne c9
            have e1 : ¬ a1.toInt = 1 := tb_ne c11
            have e2 : ¬ a1.toInt = 2 := tb_ne c15
            have e3 : ¬ a1.toInt = 3 := tb_ne c17
            omega
          refine lv_tableOut (tgt := 165) hx hb dX6_group_64 ht20 (by decide) ?_
          refine lv_lload hx hb dX6_group_165 (lv_at hl 0 rfl) ?_
          refine lv_aload_n hx hb dX6_group_167 rfl (lv_at hl 3 rfl) ?_
          refine va_get (D := (dC, dI)) (ci := 6) (v := .ref h_life) (C := RX6) (T := TX6) (N := 7) hx hb hts huX6 hown hK hP 0 rfl rfl 2 (by decide) hf38 (fun _ h9 => h9) rfl dX6_group_168 ?_
          refine lv_lload hx hb dX6_group_171 (lv_at hl 1 rfl) ?_
          refine lv_aload_n hx hb dX6_group_173 rfl (lv_at hl 3 rfl) ?_
          refine va_get (D := (dC, dI)) (ci := 6) (v := .ref h_row) (C := RX6) (T := TX6) (N := 7) hx hb hts huX6 hown hK hP 0 rfl rfl 1 (by decide) hf25 (fun _ h9 => h9) rfl dX6_group_174 ?_
          obtain ⟨q21, hq21, hr⟩ := bd_use hr
          refine pcV_l (As := []) (rest := [.long q7, .ref h_life, .long q8]) S (c_X4_free l dC dI h_row h_g h_bl h_wh h_ac c_bl c_wh c_ac n_row row_law row_latest row_opener row_blackThen row_whiteThen g_width g_height g_size g_all g_notFirstColumn g_notLastColumn bl wh ac q21 hq21) (cwV 0 hts gX6_group_X4_free rfl rfl rfl (by decide +kernel) ⟨Nat.le_trans (m := rm_X6_group.frames) (by decide) hRf, Nat.le_trans (m := rm_X6_group.locals) (by decide) hRl⟩) hN hP hK ⟨Nat.zero_le _, Nat.zero_le _⟩ [2, 1, 3, 4, 5] rfl [0, 1, 2] rfl 2 4 rfl rfl rfl hl.1 rfl (Nat.le_of_ble_eq_true rfl) dX6_group_177 ?_
          obtain ⟨q22, hq22, hr⟩ := bd_use hr
          refine pcV_l (As := [.long q7, .long q21]) (rest := [.long q8]) S (c_X3_standingStones l dC dI h_life h_g g_width g_height g_size g_all g_notFirstColumn g_notLastColumn q7 q21 q22 hq22) (cwV 2 hts gX6_group_X3_standingStones rfl rfl rfl (by decide +kernel) ⟨Nat.le_trans (m := rm_X6_group.frames) (by decide) hRf, Nat.le_trans (m := rm_X6_group.locals) (by decide) hRl⟩) hN hP hK ⟨Nat.zero_le _, Nat.zero_le _⟩ [6, 1] rfl [] rfl 6 3 rfl rfl rfl hl.1 rfl (Nat.le_of_ble_eq_true rfl) dX6_group_180 ?_
          refine lv_land hx hb dX6_group_183 ?_
          refine lv_lconst (v := (0 : Int64)) hx hb dX6_group_184 (by decide) ?_
          refine W.lcmp hx hb dX6_group_185 ?_
          refine lv_if_eq (tgt := 193) hx hb dX6_group_186 (by decide) (fun c23 => ?_) (fun c23 => ?_)
          · have c23 := cmp_t c23
            have hr := ite_p hr c23
            refine lv_iconst (v := (0 : Int32)) hx hb dX6_group_193 (by decide) ?_
            obtain rfl := Option.some.inj hr
            exact kret _ _ dX6_group_194
          · have c23 := cmp_f c23
            have hr := ite_n hr c23
            refine lv_iconst (v := (1 : Int32)) hx hb dX6_group_189 (by decide) ?_
            refine lv_goto (tgt := 194) hx hb dX6_group_190 (by decide) ?_
            obtain rfl := Option.some.inj hr
            exact kret _ _ dX6_group_194
        · have hr := ite_p hr c6
          refine lv_bipush (v := (-3 : Int32)) hx hb dX6_group_36 (by decide) ?_
          obtain rfl := Option.some.inj hr
          exact kret _ _ dX6_group_38
      · have hr := ite_n hr c4
        refine lv_bipush (v := (-2 : Int32)) hx hb dX6_group_20 (by decide) ?_
        obtain rfl := Option.some.inj hr
        exact kret _ _ dX6_group_22

def f_X6_breath (n_row : Nat) (g_width : Int32) (g_size : Int32) (g_all : Int64) (g_notFirstColumn : Int64) (g_notLastColumn : Int64) (row_latest : Int32) (bl : Nat → Int64) (wh : Nat → Int64) (a0 : Int32) (a1 : Int32) : Option (Int32) :=
  (f_X2_has g_size a0).bind fun q1 =>
  if q1 = 0 then (
    some ((-2 : Int32))
  )
  else (
    (f_X4_colourAt n_row row_latest bl wh a0).bind fun q3 =>
    if q3 = 0 then (
      some ((-3 : Int32))
    )
    else (
      (f_X4_stonesOf n_row row_latest bl wh q3).bind fun q5 =>
      (f_X2_spread g_width g_all g_notFirstColumn g_notLastColumn (jshl (1 : Int64) a0) q5).bind fun q6 =>
      (f_X2_beside g_width g_all g_notFirstColumn g_notLastColumn q6).bind fun q7 =>
      (f_X4_free n_row row_latest g_all bl wh).bind fun q8 =>
      (f_X2_nth g_size (q7 &&& q8) a1).bind fun q9 =>
      some (q9)
    )
  )

abbrev rm_X6_breath : Room := { frames := 3, cells := 0, slots := 0, locals := 65 }
set_option maxHeartbeats 4000000 in
set_option maxRecDepth 100000 in
theorem c_X6_breath (l : Launch) (dC : Nat → ClassId) (dI : Nat → Nat → Nat) (h_eb h_g h_row h_bl h_wh h_ac h_life h_t h_ch h_hrow h_hbl h_hwh h_hac h_fi : Nat) (c_bl c_wh c_ac c_hbl c_hwh c_hac : ClassId) (n_row n_hrow : Nat) (eb_winningAct g_width g_height g_size : Int32) (g_all g_notFirstColumn g_notLastColumn : Int64) (row_law row_latest row_opener : Int32) (row_blackThen row_whiteThen : Int64) (bl wh : Nat → Int64) (ac : Nat → Int32) (t_made ch_target ch_chased hrow_law hrow_latest hrow_opener : Int32) (hrow_blackThen hrow_whiteThen : Int64) (hbl hwh : Nat → Int64) (hac : Nat → Int32) (fi_target fi_attacked fi_decidingAct : Int32) (a0 : Int32) (a1 : Int32) (q : Int32) (hr : f_X6_breath n_row g_width g_size g_all g_notFirstColumn g_notLastColumn row_latest bl wh a0 a1 = some q) : Met l yX6_breath wsX6_breath rm_X6_breath (PrP (dC, dI) (wd_X6 h_eb h_g h_row h_bl h_wh h_ac h_life h_t h_ch h_hrow h_hbl h_hwh h_hac h_fi c_bl c_wh c_ac c_hbl c_hwh c_hac n_row n_hrow eb_winningAct g_width g_height g_size g_all g_notFirstColumn g_notLastColumn row_law row_latest row_opener row_blackThen row_whiteThen bl wh ac t_made ch_target ch_chased hrow_law hrow_latest hrow_opener hrow_blackThen hrow_whiteThen hbl hwh hac fi_target fi_attacked fi_decidingAct) (td_X6 c_bl c_wh c_ac c_hbl c_hwh c_hac) [.ref h_eb, .int a0, .int a1]) (vp_Si (fun x => x = q)) 0 0 (fun _ => False) := by
  refine mkP_i (cc := cX6_breath) (nL := 6) (by decide) rfl (Nat.le_of_ble_eq_true rfl) ?_
  intro p e R s m args below meth c H Q ls hRf hRl S hN hP hK hl kret
  have hl : lv_has ls 6 [(0, .ref h_eb), (1, .int a0), (2, .int a1)] := hl
  obtain ⟨hx, hb, hml, hown, hts⟩ := S
  have hown : s.vm.findClass RX6 = some m.cls := hown
  have S : CallFix p m c cX6_breath 6 s args wsX6_breath RX6 := ⟨hx, hb, hml, hown, hts⟩
  have huX6 : ∀ w ∈ u_ws RX6 TX6 7, w ∈ wsX6_breath := by decide +kernel
  have hf12 := hts (.fieldLink RX6 12 "EyeBoard" "grid" "LEyeBoard$Grid;") (by decide +kernel)
  have hf25 := hts (.fieldLink RX6 25 "EyeBoard" "row" "LEyeBoard$Row;") (by decide +kernel)
  unfold f_X6_breath at hr
  refine lv_aload_n hx hb dX6_breath_0 rfl (lv_at hl 0 rfl) ?_
  refine va_get (D := (dC, dI)) (ci := 6) (v := .ref h_g) (C := RX6) (T := TX6) (N := 7) hx hb hts huX6 hown hK hP 0 rfl rfl 0 (by decide) hf12 (fun _ h9 => h9) rfl dX6_breath_1 ?_
  refine lv_iload_n hx hb dX6_breath_4 rfl (lv_at hl 1 rfl) ?_
  obtain ⟨q1, hq1, hr⟩ := bd_use hr
  refine pcV_i (As := [.int a0]) (rest := []) S (c_X2_has l dC dI h_g g_width g_height g_size g_all g_notFirstColumn g_notLastColumn a0 q1 hq1) (cwV 1 hts gX6_breath_X2_has rfl rfl rfl (by decide +kernel) ⟨Nat.le_trans (m := rm_X6_breath.frames) (by decide) hRf, Nat.le_trans (m := rm_X6_breath.locals) (by decide) hRl⟩) hN hP hK ⟨Nat.zero_le _, Nat.zero_le _⟩ [1] rfl [] rfl 1 2 rfl rfl rfl hl.1 rfl (Nat.le_of_ble_eq_true rfl) dX6_breath_5 ?_
  refine lv_if_ne (tgt := 14) hx hb dX6_breath_8 (by decide) (fun c2 => ?_) (fun c2 => ?_)
  · have hr := ite_n hr c2
    refine lv_aload_n hx hb dX6_breath_14 rfl (lv_at hl 0 rfl) ?_
    refine va_get (D := (dC, dI)) (ci := 6) (v := .ref h_row) (C := RX6) (T := TX6) (N := 7) hx hb hts huX6 hown hK hP 0 rfl rfl 1 (by decide) hf25 (fun _ h9 => h9) rfl dX6_breath_15 ?_
    refine lv_iload_n hx hb dX6_breath_18 rfl (lv_at hl 1 rfl) ?_
    obtain ⟨q3, hq3, hr⟩ := bd_use hr
    refine pcV_i (As := [.int a0]) (rest := []) S (c_X4_colourAt l dC dI h_row h_g h_bl h_wh h_ac c_bl c_wh c_ac n_row row_law row_latest row_opener row_blackThen row_whiteThen g_width g_height g_size g_all g_notFirstColumn g_notLastColumn bl wh ac a0 q3 hq3) (cwV 1 hts gX6_breath_X4_colourAt rfl rfl rfl (by decide +kernel) ⟨Nat.le_trans (m := rm_X6_breath.frames) (by decide) hRf, Nat.le_trans (m := rm_X6_breath.locals) (by decide) hRl⟩) hN hP hK ⟨Nat.zero_le _, Nat.zero_le _⟩ [2, 1, 3, 4, 5] rfl [0, 1, 2] rfl 2 4 rfl rfl rfl hl.1 rfl (Nat.le_of_ble_eq_true rfl) dX6_breath_19 ?_
    refine lv_istore_n (lv' := [(3, .int q3), (0, .ref h_eb), (1, .int a0), (2, .int a1)]) hx hb dX6_breath_22 rfl hl (by decide) rfl (fun ls hl => ?_)
    refine lv_iload_n hx hb dX6_breath_23 rfl (lv_at hl 0 rfl) ?_
    refine lv_if_ne (tgt := 30) hx hb dX6_breath_24 (by decide) (fun c4 => ?_) (fun c4 => ?_)
    · have hr := ite_n hr c4
      refine lv_aload_n hx hb dX6_breath_30 rfl (lv_at hl 1 rfl) ?_
      refine va_get (D := (dC, dI)) (ci := 6) (v := .ref h_g) (C := RX6) (T := TX6) (N := 7) hx hb hts huX6 hown hK hP 0 rfl rfl 0 (by decide) hf12 (fun _ h9 => h9) rfl dX6_breath_31 ?_
      refine lv_lconst (v := (1 : Int64)) hx hb dX6_breath_34 (by decide) ?_
      refine lv_iload_n hx hb dX6_breath_35 rfl (lv_at hl 2 rfl) ?_
      refine lv_lshl (v := jshl (1 : Int64) a0) hx hb dX6_breath_36 rfl ?_
      refine lv_aload_n hx hb dX6_breath_37 rfl (lv_at hl 1 rfl) ?_
      refine va_get (D := (dC, dI)) (ci := 6) (v := .ref h_row) (C := RX6) (T := TX6) (N := 7) hx hb hts huX6 hown hK hP 0 rfl rfl 1 (by decide) hf25 (fun _ h9 => h9) rfl dX6_breath_38 ?_
      refine lv_iload_n hx hb dX6_breath_41 rfl (lv_at hl 0 rfl) ?_
      obtain ⟨q5, hq5, hr⟩ := bd_use hr
      refine pcV_l (As := [.int q3]) (rest := [.long (jshl (1 : Int64) a0), .ref h_g]) S (c_X4_stonesOf l dC dI h_row h_g h_bl h_wh h_ac c_bl c_wh c_ac n_row row_law row_latest row_opener row_blackThen row_whiteThen g_width g_height g_size g_all g_notFirstColumn g_notLastColumn bl wh ac q3 q5 hq5) (cwV 1 hts gX6_breath_X4_stonesOf rfl rfl rfl (by decide +kernel) ⟨Nat.le_trans (m := rm_X6_breath.frames) (by decide) hRf, Nat.le_trans (m := rm_X6_breath.locals) (by decide) hRl⟩) hN hP hK ⟨Nat.zero_le _, Nat.zero_le _⟩ [2, 1, 3, 4, 5] rfl [0, 1, 2] rfl 2 4 rfl rfl rfl hl.1 rfl (Nat.le_of_ble_eq_true rfl) dX6_breath_42 ?_
      obtain ⟨q6, hq6, hr⟩ := bd_use hr
      refine pcV_l (As := [.long (jshl (1 : Int64) a0), .long q5]) (rest := []) S (c_X2_spread l dC dI h_g g_width g_height g_size g_all g_notFirstColumn g_notLastColumn (jshl (1 : Int64) a0) q5 q6 hq6) (cwV 2 hts gX6_breath_X2_spread rfl rfl rfl (by decide +kernel) ⟨Nat.le_trans (m := rm_X6_breath.frames) (by decide) hRf, Nat.le_trans (m := rm_X6_breath.locals) (by decide) hRl⟩) hN hP hK ⟨Nat.zero_le _, Nat.zero_le _⟩ [1] rfl [] rfl 1 2 rfl rfl rfl hl.1 rfl (Nat.le_of_ble_eq_true rfl) dX6_breath_45 ?_
      refine lv_lstore (lv' := [(4, .long q6), (3, .int q3), (0, .ref h_eb), (1, .int a0), (2, .int a1)]) hx hb dX6_breath_48 hl (by decide) rfl (fun ls hl => ?_)
      refine lv_aload_n hx hb dX6_breath_50 rfl (lv_at hl 2 rfl) ?_
      refine va_get (D := (dC, dI)) (ci := 6) (v := .ref h_g) (C := RX6) (T := TX6) (N := 7) hx hb hts huX6 hown hK hP 0 rfl rfl 0 (by decide) hf12 (fun _ h9 => h9) rfl dX6_breath_51 ?_
      refine lv_aload_n hx hb dX6_breath_54 rfl (lv_at hl 2 rfl) ?_
      refine va_get (D := (dC, dI)) (ci := 6) (v := .ref h_g) (C := RX6) (T := TX6) (N := 7) hx hb hts huX6 hown hK hP 0 rfl rfl 0 (by decide) hf12 (fun _ h9 => h9) rfl dX6_breath_55 ?_
      refine lv_lload hx hb dX6_breath_58 (lv_at hl 0 rfl) ?_
      obtain ⟨q7, hq7, hr⟩ := bd_use hr
      refine pcV_l (As := [.long q6]) (rest := [.ref h_g]) S (c_X2_beside l dC dI h_g g_width g_height g_size g_all g_notFirstColumn g_notLastColumn q6 q7 hq7) (cwV 1 hts gX6_breath_X2_beside rfl rfl rfl (by decide +kernel) ⟨Nat.le_trans (m := rm_X6_breath.frames) (by decide) hRf, Nat.le_trans (m := rm_X6_breath.locals) (by decide) hRl⟩) hN hP hK ⟨Nat.zero_le _, Nat.zero_le _⟩ [1] rfl [] rfl 1 2 rfl rfl rfl hl.1 rfl (Nat.le_of_ble_eq_true rfl) dX6_breath_60 ?_
      refine lv_aload_n hx hb dX6_breath_63 rfl (lv_at hl 2 rfl) ?_
      refine va_get (D := (dC, dI)) (ci := 6) (v := .ref h_row) (C := RX6) (T := TX6) (N := 7) hx hb hts huX6 hown hK hP 0 rfl rfl 1 (by decide) hf25 (fun _ h9 => h9) rfl dX6_breath_64 ?_
      obtain ⟨q8, hq8, hr⟩ := bd_use hr
      refine pcV_l (As := []) (rest := [.long q7, .ref h_g]) S (c_X4_free l dC dI h_row h_g h_bl h_wh h_ac c_bl c_wh c_ac n_row row_law row_latest row_opener row_blackThen row_whiteThen g_width g_height g_size g_all g_notFirstColumn g_notLastColumn bl wh ac q8 hq8) (cwV 0 hts gX6_breath_X4_free rfl rfl rfl (by decide +kernel) ⟨Nat.le_trans (m := rm_X6_breath.frames) (by decide) hRf, Nat.le_trans (m := rm_X6_breath.locals) (by decide) hRl⟩) hN hP hK ⟨Nat.zero_le _, Nat.zero_le _⟩ [2, 1, 3, 4, 5] rfl [0, 1, 2] rfl 2 4 rfl rfl rfl hl.1 rfl (Nat.le_of_ble_eq_true rfl) dX6_breath_67 ?_
      refine lv_land hx hb dX6_breath_70 ?_
      refine lv_iload_n hx hb dX6_breath_71 rfl (lv_at hl 4 rfl) ?_
      obtain ⟨q9, hq9, hr⟩ := bd_use hr
      refine pcV_i (As := [.long (q7 &&& q8), .int a1]) (rest := []) S (c_X2_nth l dC dI h_g g_width g_height g_size g_all g_notFirstColumn g_notLastColumn (q7 &&& q8) a1 q9 hq9) (cwV 2 hts gX6_breath_X2_nth rfl rfl rfl (by decide +kernel) ⟨Nat.le_trans (m := rm_X6_breath.frames) (by decide) hRf, Nat.le_trans (m := rm_X6_breath.locals) (by decide) hRl⟩) hN hP hK ⟨Nat.zero_le _, Nat.zero_le _⟩ [1] rfl [] rfl 1 2 rfl rfl rfl hl.1 rfl (Nat.le_of_ble_eq_true rfl) dX6_breath_72 ?_
      obtain rfl := Option.some.inj hr
      exact kret _ _ dX6_breath_75
    · have hr := ite_p hr c4
      refine lv_bipush (v := (-3 : Int32)) hx hb dX6_breath_27 (by decide) ?_
      obtain rfl := Option.some.inj hr
      exact kret _ _ dX6_breath_29
  · have hr := ite_p hr c2
    refine lv_bipush (v := (-2 : Int32)) hx hb dX6_breath_11 (by decide) ?_
    obtain rfl := Option.some.inj hr
    exact kret _ _ dX6_breath_13

