def f_X4_keep (n_row : Nat) (bl : Nat → Int64) (wh : Nat → Int64) (a0 : Int32) (a1 : Int64) (a2 : Int64) : Option ((Nat → Int64) × (Nat → Int64)) :=
  if a0 < 0 then (
    some (bl, wh)
  )
  else (
    if nI n_row ≤ a0 then (
      some (bl, wh)
    )
    else (
      if nI n_row ≤ a0 then (
        some (bl, wh)
      )
      else (
        if (a0 < 0 ∨ n_row ≤ a0.toNatClampNeg) then none else
        if (a0 < 0 ∨ n_row ≤ a0.toNatClampNeg) then none else
        some (vp_updL bl a0.toNatClampNeg a1, vp_updL wh a0.toNatClampNeg a2)
      )
    )
  )

abbrev rm_X4_keep : Room := { frames := 0, cells := 0, slots := 0, locals := 0 }
set_option maxHeartbeats 4000000 in
set_option maxRecDepth 100000 in
theorem c_X4_keep (l : Launch) (dC : Nat → ClassId) (dI : Nat → Nat → Nat) (h_row h_g h_bl h_wh h_ac : Nat) (c_bl c_wh c_ac : ClassId) (n_row : Nat) (row_law row_latest row_opener : Int32) (row_blackThen row_whiteThen : Int64) (g_width g_height g_size : Int32) (g_all g_notFirstColumn g_notLastColumn : Int64) (bl wh : Nat → Int64) (ac : Nat → Int32) (sz : Nat) (a0 : Int32) (a1 : Int64) (a2 : Int64) (q : (Nat → Int64) × (Nat → Int64)) (hr : f_X4_keep n_row bl wh a0 a1 a2 = some q) : Met l yX4_keep wsX4_keep rm_X4_keep (PrI (dC, dI) (wd_X4 h_row h_g h_bl h_wh h_ac c_bl c_wh c_ac n_row row_law row_latest row_opener row_blackThen row_whiteThen g_width g_height g_size g_all g_notFirstColumn g_notLastColumn bl wh ac) (td_X4 c_bl c_wh c_ac) sz [.ref h_row, .int a0, .long a1, .long a2]) (QIv (dC, dI) (wd_X4 h_row h_g h_bl h_wh h_ac c_bl c_wh c_ac n_row row_law row_latest row_opener row_blackThen row_whiteThen g_width g_height g_size g_all g_notFirstColumn g_notLastColumn bl wh ac) (td_X4 c_bl c_wh c_ac) sz (wd_X4 h_row h_g h_bl h_wh h_ac c_bl c_wh c_ac n_row row_law row_latest row_opener row_blackThen row_whiteThen g_width g_height g_size g_all g_notFirstColumn g_notLastColumn q.1 q.2 ac)) 0 0 (va_A (wd_X4 h_row h_g h_bl h_wh h_ac c_bl c_wh c_ac n_row row_law row_latest row_opener row_blackThen row_whiteThen g_width g_height g_size g_all g_notFirstColumn g_notLastColumn bl wh ac) sz) := by
  refine mkI_v (cc := cX4_keep) (nL := 6) (by decide) rfl (Nat.le_of_ble_eq_true rfl) ?_
  intro p e R s m args below meth c H0 H locs A Q ls hRf hRl S hN hP hK hD hA hS hl kret
  have hl : lv_has ls 6 [(0, .ref h_row), (1, .int a0), (2, .long a1), (4, .long a2)] := hl
  obtain ⟨hx, hb, hml, hown, hts⟩ := S
  have hown : s.vm.findClass RX4 = some m.cls := hown
  have S : CallFix p m c cX4_keep 6 s args wsX4_keep RX4 := ⟨hx, hb, hml, hown, hts⟩
  have huX4 : ∀ w ∈ u_ws RX4 TX4 9, w ∈ wsX4_keep := by decide +kernel
  have hf21 := hts (.fieldLink RX4 21 "EyeBoard$Row" "black" "[J") (by decide +kernel)
  have hf25 := hts (.fieldLink RX4 25 "EyeBoard$Row" "white" "[J") (by decide +kernel)
  unfold f_X4_keep at hr
  refine lv_iload_n hx hb dX4_keep_0 rfl (lv_at hl 1 rfl) ?_
  refine lv_if_lt (tgt := 37) hx hb dX4_keep_1 (by decide) (fun c1 => ?_) (fun c1 => ?_)
  · have hr := ite_p hr c1
    obtain rfl := Option.some.inj hr
    exact kret _ _ _ _ dX4_keep_37 hP hD hS
  · have hr := ite_n hr c1
    refine lv_iload_n hx hb dX4_keep_4 rfl (lv_at hl 1 rfl) ?_
    refine lv_aload_n hx hb dX4_keep_5 rfl (lv_at hl 0 rfl) ?_
    refine va_get (D := (dC, dI)) (ci := 4) (v := .ref h_bl) (C := RX4) (T := TX4) (N := 9) hx hb hts huX4 hown hK hP 0 rfl rfl 1 (by decide) hf21 (fun _ h9 => h9) rfl dX4_keep_6 ?_
    refine va_alen (v := nI n_row) hx hb hK hP 2 0 rfl rfl rfl dX4_keep_9 ?_
    refine lv_icmp_ge (tgt := 37) hx hb dX4_keep_10 (by decide) (fun c2 => ?_) (fun c2 => ?_)
    · have hr := ite_p hr c2
      obtain rfl := Option.some.inj hr
      exact kret _ _ _ _ dX4_keep_37 hP hD hS
    · have hr := ite_n hr c2
      refine lv_iload_n hx hb dX4_keep_13 rfl (lv_at hl 1 rfl) ?_
      refine lv_aload_n hx hb dX4_keep_14 rfl (lv_at hl 0 rfl) ?_
      refine va_get (D := (dC, dI)) (ci := 4) (v := .ref h_wh) (C := RX4) (T := TX4) (N := 9) hx hb hts huX4 hown hK hP 0 rfl rfl 2 (by decide) hf25 (fun _ h9 => h9) rfl dX4_keep_15 ?_
      refine va_alen (v := nI n_row) hx hb hK hP 3 1 rfl rfl rfl dX4_keep_18 ?_
      refine lv_icmp_ge (tgt := 37) hx hb dX4_keep_19 (by decide) (fun c3 => ?_) (fun c3 => ?_)
      · have hr := ite_p hr c3
        obtain rfl := Option.some.inj hr
        exact kret _ _ _ _ dX4_keep_37 hP hD hS
      · have hr := ite_n hr c3
        refine lv_aload_n hx hb dX4_keep_22 rfl (lv_at hl 0 rfl) ?_
        refine va_get (D := (dC, dI)) (ci := 4) (v := .ref h_bl) (C := RX4) (T := TX4) (N := 9) hx hb hts huX4 hown hK hP 0 rfl rfl 1 (by decide) hf21 (fun _ h9 => h9) rfl dX4_keep_23 ?_
        refine lv_iload_n hx hb dX4_keep_26 rfl (lv_at hl 1 rfl) ?_
        refine lv_lload_n hx hb dX4_keep_27 rfl (lv_at hl 2 rfl) ?_
        obtain ⟨hi4, hr⟩ := ite_g hr
        refine va_last hx hb hK hP hD hS 2 0 rfl rfl hi4 dX4_keep_28 (fun H locs hP hD hS => ?_)
        have hP : va_P (dC, dI) vwCl (wd_X4 h_row h_g h_bl h_wh h_ac c_bl c_wh c_ac n_row row_law row_latest row_opener row_blackThen row_whiteThen g_width g_height g_size g_all g_notFirstColumn g_notLastColumn (vp_updL bl a0.toNatClampNeg a1) wh ac) H := hP
        have hD : va_D A (wd_X4 h_row h_g h_bl h_wh h_ac c_bl c_wh c_ac n_row row_law row_latest row_opener row_blackThen row_whiteThen g_width g_height g_size g_all g_notFirstColumn g_notLastColumn (vp_updL bl a0.toNatClampNeg a1) wh ac) := hD
        refine lv_aload_n hx hb dX4_keep_29 rfl (lv_at hl 0 rfl) ?_
        refine va_get (D := (dC, dI)) (ci := 4) (v := .ref h_wh) (C := RX4) (T := TX4) (N := 9) hx hb hts huX4 hown hK hP 0 rfl rfl 2 (by decide) hf25 (fun _ h9 => h9) rfl dX4_keep_30 ?_
        refine lv_iload_n hx hb dX4_keep_33 rfl (lv_at hl 1 rfl) ?_
        refine lv_lload hx hb dX4_keep_34 (lv_at hl 3 rfl) ?_
        obtain ⟨hi5, hr⟩ := ite_g hr
        refine va_last hx hb hK hP hD hS 3 1 rfl rfl hi5 dX4_keep_36 (fun H locs hP hD hS => ?_)
        have hP : va_P (dC, dI) vwCl (wd_X4 h_row h_g h_bl h_wh h_ac c_bl c_wh c_ac n_row row_law row_latest row_opener row_blackThen row_whiteThen g_width g_height g_size g_all g_notFirstColumn g_notLastColumn (vp_updL bl a0.toNatClampNeg a1) (vp_updL wh a0.toNatClampNeg a2) ac) H := hP
        have hD : va_D A (wd_X4 h_row h_g h_bl h_wh h_ac c_bl c_wh c_ac n_row row_law row_latest row_opener row_blackThen row_whiteThen g_width g_height g_size g_all g_notFirstColumn g_notLastColumn (vp_updL bl a0.toNatClampNeg a1) (vp_updL wh a0.toNatClampNeg a2) ac) := hD
        obtain rfl := Option.some.inj hr
        exact kret _ _ _ _ dX4_keep_37 hP hD hS

def f_X4_begin (n_row : Nat) (row_law : Int32) (row_latest : Int32) (row_opener : Int32) (bl : Nat → Int64) (wh : Nat → Int64) (a0 : Int64) (a1 : Int64) (a2 : Int32) (a3 : Int32) : Option (Int32 × Int32 × Int32 × (Nat → Int64) × (Nat → Int64)) :=
  (f_X4_keep n_row bl wh (0 : Int32) a0 a1).bind fun q1 =>
  some (a3, (0 : Int32), a2, q1.1, q1.2)

abbrev rm_X4_begin : Room := { frames := 1, cells := 0, slots := 0, locals := 25 }
set_option maxHeartbeats 4000000 in
set_option maxRecDepth 100000 in
theorem c_X4_begin (l : Launch) (dC : Nat → ClassId) (dI : Nat → Nat → Nat) (h_row h_g h_bl h_wh h_ac : Nat) (c_bl c_wh c_ac : ClassId) (n_row : Nat) (row_law row_latest row_opener : Int32) (row_blackThen row_whiteThen : Int64) (g_width g_height g_size : Int32) (g_all g_notFirstColumn g_notLastColumn : Int64) (bl wh : Nat → Int64) (ac : Nat → Int32) (sz : Nat) (a0 : Int64) (a1 : Int64) (a2 : Int32) (a3 : Int32) (q : Int32 × Int32 × Int32 × (Nat → Int64) × (Nat → Int64)) (hr : f_X4_begin n_row row_law row_latest row_opener bl wh a0 a1 a2 a3 = some q) : Met l yX4_begin wsX4_begin rm_X4_begin (PrI (dC, dI) (wd_X4 h_row h_g h_bl h_wh h_ac c_bl c_wh c_ac n_row row_law row_latest row_opener row_blackThen row_whiteThen g_width g_height g_size g_all g_notFirstColumn g_notLastColumn bl wh ac) (td_X4 c_bl c_wh c_ac) sz [.ref h_row, .long a0, .long a1, .int a2, .int a3]) (QIv (dC, dI) (wd_X4 h_row h_g h_bl h_wh h_ac c_bl c_wh c_ac n_row row_law row_latest row_opener row_blackThen row_whiteThen g_width g_height g_size g_all g_notFirstColumn g_notLastColumn bl wh ac) (td_X4 c_bl c_wh c_ac) sz (wd_X4 h_row h_g h_bl h_wh h_ac c_bl c_wh c_ac n_row q.1 q.2.1 q.2.2.1 row_blackThen row_whiteThen g_width g_height g_size g_all g_notFirstColumn g_notLastColumn q.2.2.2.1 q.2.2.2.2 ac)) 0 0 (va_A (wd_X4 h_row h_g h_bl h_wh h_ac c_bl c_wh c_ac n_row row_law row_latest row_opener row_blackThen row_whiteThen g_width g_height g_size g_all g_notFirstColumn g_notLastColumn bl wh ac) sz) := by
  refine mkI_v (cc := cX4_begin) (nL := 7) (by decide) rfl (Nat.le_of_ble_eq_true rfl) ?_
  intro p e R s m args below meth c H0 H locs A Q ls hRf hRl S hN hP hK hD hA hS hl kret
  have hl : lv_has ls 7 [(0, .ref h_row), (1, .long a0), (3, .long a1), (5, .int a2), (6, .int a3)] := hl
  obtain ⟨hx, hb, hml, hown, hts⟩ := S
  have hown : s.vm.findClass RX4 = some m.cls := hown
  have S : CallFix p m c cX4_begin 7 s args wsX4_begin RX4 := ⟨hx, hb, hml, hown, hts⟩
  have huX4 : ∀ w ∈ u_ws RX4 TX4 9, w ∈ wsX4_begin := by decide +kernel
  have hf32 := hts (.fieldLink RX4 32 "EyeBoard$Row" "law" "I") (by decide +kernel)
  have hf36 := hts (.fieldLink RX4 36 "EyeBoard$Row" "latest" "I") (by decide +kernel)
  have hf39 := hts (.fieldLink RX4 39 "EyeBoard$Row" "opener" "I") (by decide +kernel)
  unfold f_X4_begin at hr
  refine lv_aload_n hx hb dX4_begin_0 rfl (lv_at hl 0 rfl) ?_
  refine lv_iload hx hb dX4_begin_1 (lv_at hl 4 rfl) ?_
  refine va_put (D := (dC, dI)) (ci := 4) (v := .int a3) (ty := .int) (C := RX4) (T := TX4) (N := 9) hx hb hts huX4 tyX4 tyX4_ok nmX4 hown hK hP hD hS 0 rfl rfl 4 (by decide) hf32 (fun _ h9 => h9) rfl (by decide +kernel) rfl rfl (Nat.le_of_ble_eq_true rfl) dX4_begin_3 (fun H locs hP hD hS => ?_)
  have hP : va_P (dC, dI) vwCl (wd_X4 h_row h_g h_bl h_wh h_ac c_bl c_wh c_ac n_row a3 row_latest row_opener row_blackThen row_whiteThen g_width g_height g_size g_all g_notFirstColumn g_notLastColumn bl wh ac) H := hP
  have hD : va_D A (wd_X4 h_row h_g h_bl h_wh h_ac c_bl c_wh c_ac n_row a3 row_latest row_opener row_blackThen row_whiteThen g_width g_height g_size g_all g_notFirstColumn g_notLastColumn bl wh ac) := hD
  refine lv_aload_n hx hb dX4_begin_6 rfl (lv_at hl 0 rfl) ?_
  refine lv_iconst (v := (0 : Int32)) hx hb dX4_begin_7 (by decide) ?_
  refine va_put (D := (dC, dI)) (ci := 4) (v := .int (0 : Int32)) (ty := .int) (C := RX4) (T := TX4) (N := 9) hx hb hts huX4 tyX4 tyX4_ok nmX4 hown hK hP hD hS 0 rfl rfl 5 (by decide) hf36 (fun _ h9 => h9) rfl (by decide +kernel) rfl rfl (Nat.le_of_ble_eq_true rfl) dX4_begin_8 (fun H locs hP hD hS => ?_)
  have hP : va_P (dC, dI) vwCl (wd_X4 h_row h_g h_bl h_wh h_ac c_bl c_wh c_ac n_row a3 (0 : Int32) row_opener row_blackThen row_whiteThen g_width g_height g_size g_all g_notFirstColumn g_notLastColumn bl wh ac) H := hP
  have hD : va_D A (wd_X4 h_row h_g h_bl h_wh h_ac c_bl c_wh c_ac n_row a3 (0 : Int32) row_opener row_blackThen row_whiteThen g_width g_height g_size g_all g_notFirstColumn g_notLastColumn bl wh ac) := hD
  refine lv_aload_n hx hb dX4_begin_11 rfl (lv_at hl 0 rfl) ?_
  refine lv_iload hx hb dX4_begin_12 (lv_at hl 3 rfl) ?_
  refine va_put (D := (dC, dI)) (ci := 4) (v := .int a2) (ty := .int) (C := RX4) (T := TX4) (N := 9) hx hb hts huX4 tyX4 tyX4_ok nmX4 hown hK hP hD hS 0 rfl rfl 6 (by decide) hf39 (fun _ h9 => h9) rfl (by decide +kernel) rfl rfl (Nat.le_of_ble_eq_true rfl) dX4_begin_14 (fun H locs hP hD hS => ?_)
  have hP : va_P (dC, dI) vwCl (wd_X4 h_row h_g h_bl h_wh h_ac c_bl c_wh c_ac n_row a3 (0 : Int32) a2 row_blackThen row_whiteThen g_width g_height g_size g_all g_notFirstColumn g_notLastColumn bl wh ac) H := hP
  have hD : va_D A (wd_X4 h_row h_g h_bl h_wh h_ac c_bl c_wh c_ac n_row a3 (0 : Int32) a2 row_blackThen row_whiteThen g_width g_height g_size g_all g_notFirstColumn g_notLastColumn bl wh ac) := hD
  refine lv_aload_n hx hb dX4_begin_17 rfl (lv_at hl 0 rfl) ?_
  refine lv_iconst (v := (0 : Int32)) hx hb dX4_begin_18 (by decide) ?_
  refine lv_lload_n hx hb dX4_begin_19 rfl (lv_at hl 1 rfl) ?_
  refine lv_lload_n hx hb dX4_begin_20 rfl (lv_at hl 2 rfl) ?_
  obtain ⟨q1, hq1, hr⟩ := bd_use hr
  refine icV_v (As := [.int (0 : Int32), .long a0, .long a1]) (rest := []) (ws2 := (wd_X4 h_row h_g h_bl h_wh h_ac c_bl c_wh c_ac n_row a3 (0 : Int32) a2 row_blackThen row_whiteThen g_width g_height g_size g_all g_notFirstColumn g_notLastColumn q1.1 q1.2 ac)) S (c_X4_keep l dC dI h_row h_g h_bl h_wh h_ac c_bl c_wh c_ac n_row a3 (0 : Int32) a2 row_blackThen row_whiteThen g_width g_height g_size g_all g_notFirstColumn g_notLastColumn bl wh ac H.size (0 : Int32) a0 a1 q1 hq1) (cwV 3 hts gX4_begin_X4_keep rfl rfl rfl (by decide +kernel) ⟨Nat.le_trans (m := rm_X4_begin.frames) (by decide) hRf, Nat.le_trans (m := rm_X4_begin.locals) (by decide) hRl⟩) hN hP hK hD hS hA ⟨Nat.zero_le _, Nat.zero_le _⟩ [0, 1, 2, 3, 4] [] [0, 1, 2, 3, 4] rfl rfl rfl rfl rfl (by decide) rfl rfl rfl [0, 1, 2] rfl 0 4 rfl rfl rfl hl.1 rfl (Nat.le_of_ble_eq_true rfl) dX4_begin_21 (fun H locs hP hD hS => ?_)
  obtain rfl := Option.some.inj hr
  exact kret _ _ _ _ dX4_begin_24 hP hD hS

def f_X4_stonesThen (n_row : Nat) (bl : Nat → Int64) (wh : Nat → Int64) (a0 : Int32) (a1 : Int32) : Option (Int64) :=
  if a1 = (1 : Int32) then (
    if a0 < 0 then (
      some ((0 : Int64))
    )
    else (
      if nI n_row ≤ a0 then (
        some ((0 : Int64))
      )
      else (
        if (a0 < 0 ∨ n_row ≤ a0.toNatClampNeg) then none else
        some (bl a0.toNatClampNeg)
      )
    )
  )
  else (
    if a0 < 0 then (
      some ((0 : Int64))
    )
    else (
      if nI n_row ≤ a0 then (
        some ((0 : Int64))
      )
      else (
        if (a0 < 0 ∨ n_row ≤ a0.toNatClampNeg) then none else
        some (wh a0.toNatClampNeg)
      )
    )
  )

abbrev rm_X4_stonesThen : Room := { frames := 0, cells := 0, slots := 0, locals := 0 }
set_option maxHeartbeats 4000000 in
set_option maxRecDepth 100000 in
theorem c_X4_stonesThen (l : Launch) (dC : Nat → ClassId) (dI : Nat → Nat → Nat) (h_row h_g h_bl h_wh h_ac : Nat) (c_bl c_wh c_ac : ClassId) (n_row : Nat) (row_law row_latest row_opener : Int32) (row_blackThen row_whiteThen : Int64) (g_width g_height g_size : Int32) (g_all g_notFirstColumn g_notLastColumn : Int64) (bl wh : Nat → Int64) (ac : Nat → Int32) (a0 : Int32) (a1 : Int32) (q : Int64) (hr : f_X4_stonesThen n_row bl wh a0 a1 = some q) : Met l yX4_stonesThen wsX4_stonesThen rm_X4_stonesThen (PrP (dC, dI) (wd_X4 h_row h_g h_bl h_wh h_ac c_bl c_wh c_ac n_row row_law row_latest row_opener row_blackThen row_whiteThen g_width g_height g_size g_all g_notFirstColumn g_notLastColumn bl wh ac) (td_X4 c_bl c_wh c_ac) [.ref h_row, .int a0, .int a1]) (vp_Sl (fun x => x = q)) 0 0 (fun _ => False) := by
  refine mkP_l (cc := cX4_stonesThen) (nL := 4) (by decide) rfl (Nat.le_of_ble_eq_true rfl) ?_
  intro p e R s m args below meth c H Q ls hRf hRl S hN hP hK hl kret
  have hl : lv_has ls 4 [(0, .ref h_row), (1, .int a0), (2, .int a1)] := hl
  obtain ⟨hx, hb, hml, hown, hts⟩ := S
  have hown : s.vm.findClass RX4 = some m.cls := hown
  have S : CallFix p m c cX4_stonesThen 4 s args wsX4_stonesThen RX4 := ⟨hx, hb, hml, hown, hts⟩
  have huX4 : ∀ w ∈ u_ws RX4 TX4 9, w ∈ wsX4_stonesThen := by decide +kernel
  have hf25 := hts (.fieldLink RX4 25 "EyeBoard$Row" "white" "[J") (by decide +kernel)
  have hf21 := hts (.fieldLink RX4 21 "EyeBoard$Row" "black" "[J") (by decide +kernel)
  unfold f_X4_stonesThen at hr
  refine lv_iload_n hx hb dX4_stonesThen_0 rfl (lv_at hl 2 rfl) ?_
  refine lv_iconst (v := (1 : Int32)) hx hb dX4_stonesThen_1 (by decide) ?_
  refine lv_icmp_ne (tgt := 12) hx hb dX4_stonesThen_2 (by decide) (fun c1 => ?_) (fun c1 => ?_)
  · have hr := ite_n hr c1
    refine lv_aload_n hx hb dX4_stonesThen_12 rfl (lv_at hl 0 rfl) ?_
    refine va_get (D := (dC, dI)) (ci := 4) (v := .ref h_wh) (C := RX4) (T := TX4) (N := 9) hx hb hts huX4 hown hK hP 0 rfl rfl 2 (by decide) hf25 (fun _ h9 => h9) rfl dX4_stonesThen_13 ?_
    refine lv_astore_n (lv' := [(3, .ref h_wh), (0, .ref h_row), (1, .int a0), (2, .int a1)]) hx hb dX4_stonesThen_16 rfl hl (by decide) rfl (fun ls hl => ?_)
    refine lv_iload_n hx hb dX4_stonesThen_17 rfl (lv_at hl 2 rfl) ?_
    refine lv_if_lt (tgt := 33) hx hb dX4_stonesThen_18 (by decide) (fun c2 => ?_) (fun c2 => ?_)
    · have hr := ite_p hr c2
      refine lv_lconst (v := (0 : Int64)) hx hb dX4_stonesThen_33 (by decide) ?_
      obtain rfl := Option.some.inj hr
      exact kret _ _ dX4_stonesThen_34
    · have hr := ite_n hr c2
      refine lv_iload_n hx hb dX4_stonesThen_21 rfl (lv_at hl 2 rfl) ?_
      refine lv_aload_n hx hb dX4_stonesThen_22 rfl (lv_at hl 0 rfl) ?_
      refine va_alen (v := nI n_row) hx hb hK hP 3 1 rfl rfl rfl dX4_stonesThen_23 ?_
      refine lv_icmp_ge (tgt := 33) hx hb dX4_stonesThen_24 (by decide) (fun c3 => ?_) (fun c3 => ?_)
      · have hr := ite_p hr c3
        refine lv_lconst (v := (0 : Int64)) hx hb dX4_stonesThen_33 (by decide) ?_
        obtain rfl := Option.some.inj hr
        exact kret _ _ dX4_stonesThen_34
      · have hr := ite_n hr c3
        refine lv_aload_n hx hb dX4_stonesThen_27 rfl (lv_at hl 0 rfl) ?_
        refine lv_iload_n hx hb dX4_stonesThen_28 rfl (lv_at hl 2 rfl) ?_
        obtain ⟨hi4, hr⟩ := ite_g hr
        refine va_lald hx hb hK hP 3 1 rfl rfl hi4 dX4_stonesThen_29 ?_
        refine lv_goto (tgt := 34) hx hb dX4_stonesThen_30 (by decide) ?_
        obtain rfl := Option.some.inj hr
        exact kret _ _ dX4_stonesThen_34
  · have hr := ite_p hr c1
    refine lv_aload_n hx hb dX4_stonesThen_5 rfl (lv_at hl 0 rfl) ?_
    refine va_get (D := (dC, dI)) (ci := 4) (v := .ref h_bl) (C := RX4) (T := TX4) (N := 9) hx hb hts huX4 hown hK hP 0 rfl rfl 1 (by decide) hf21 (fun _ h9 => h9) rfl dX4_stonesThen_6 ?_
    refine lv_goto (tgt := 16) hx hb dX4_stonesThen_9 (by decide) ?_
    refine lv_astore_n (lv' := [(3, .ref h_bl), (0, .ref h_row), (1, .int a0), (2, .int a1)]) hx hb dX4_stonesThen_16 rfl hl (by decide) rfl (fun ls hl => ?_)
    refine lv_iload_n hx hb dX4_stonesThen_17 rfl (lv_at hl 2 rfl) ?_
    refine lv_if_lt (tgt := 33) hx hb dX4_stonesThen_18 (by decide) (fun c5 => ?_) (fun c5 => ?_)
    · have hr := ite_p hr c5
      refine lv_lconst (v := (0 : Int64)) hx hb dX4_stonesThen_33 (by decide) ?_
      obtain rfl := Option.some.inj hr
      exact kret _ _ dX4_stonesThen_34
    · have hr := ite_n hr c5
      refine lv_iload_n hx hb dX4_stonesThen_21 rfl (lv_at hl 2 rfl) ?_
      refine lv_aload_n hx hb dX4_stonesThen_22 rfl (lv_at hl 0 rfl) ?_
      refine va_alen (v := nI n_row) hx hb hK hP 2 0 rfl rfl rfl dX4_stonesThen_23 ?_
      refine lv_icmp_ge (tgt := 33) hx hb dX4_stonesThen_24 (by decide) (fun c6 => ?_) (fun c6 => ?_)
      · have hr := ite_p hr c6
        refine lv_lconst (v := (0 : Int64)) hx hb dX4_stonesThen_33 (by decide) ?_
        obtain rfl := Option.some.inj hr
        exact kret _ _ dX4_stonesThen_34
      · have hr := ite_n hr c6
        refine lv_aload_n hx hb dX4_stonesThen_27 rfl (lv_at hl 0 rfl) ?_
        refine lv_iload_n hx hb dX4_stonesThen_28 rfl (lv_at hl 2 rfl) ?_
        obtain ⟨hi7, hr⟩ := ite_g hr
        refine va_lald hx hb hK hP 2 0 rfl rfl hi7 dX4_stonesThen_29 ?_
        refine lv_goto (tgt := 34) hx hb dX4_stonesThen_30 (by decide) ?_
        obtain rfl := Option.some.inj hr
        exact kret _ _ dX4_stonesThen_34

def f_X4_moverThen (row_opener : Int32) (a0 : Int32) : Option (Int32) :=
  if a0 &&& (1 : Int32) = 0 then (
    some (row_opener)
  )
  else (
    some ((3 : Int32) - row_opener)
  )

abbrev rm_X4_moverThen : Room := { frames := 0, cells := 0, slots := 0, locals := 0 }
set_option maxHeartbeats 4000000 in
set_option maxRecDepth 100000 in
theorem c_X4_moverThen (l : Launch) (dC : Nat → ClassId) (dI : Nat → Nat → Nat) (h_row h_g h_bl h_wh h_ac : Nat) (c_bl c_wh c_ac : ClassId) (n_row : Nat) (row_law row_latest row_opener : Int32) (row_blackThen row_whiteThen : Int64) (g_width g_height g_size : Int32) (g_all g_notFirstColumn g_notLastColumn : Int64) (bl wh : Nat → Int64) (ac : Nat → Int32) (a0 : Int32) (q : Int32) (hr : f_X4_moverThen row_opener a0 = some q) : Met l yX4_moverThen wsX4_moverThen rm_X4_moverThen (PrP (dC, dI) (wd_X4 h_row h_g h_bl h_wh h_ac c_bl c_wh c_ac n_row row_law row_latest row_opener row_blackThen row_whiteThen g_width g_height g_size g_all g_notFirstColumn g_notLastColumn bl wh ac) (td_X4 c_bl c_wh c_ac) [.ref h_row, .int a0]) (vp_Si (fun x => x = q)) 0 0 (fun _ => False) := by
  refine mkP_i (cc := cX4_moverThen) (nL := 2) (by decide) rfl (Nat.le_of_ble_eq_true rfl) ?_
  intro p e R s m args below meth c H Q ls hRf hRl S hN hP hK hl kret
  have hl : lv_has ls 2 [(0, .ref h_row), (1, .int a0)] := hl
  obtain ⟨hx, hb, hml, hown, hts⟩ := S
  have hown : s.vm.findClass RX4 = some m.cls := hown
  have S : CallFix p m c cX4_moverThen 2 s args wsX4_moverThen RX4 := ⟨hx, hb, hml, hown, hts⟩
  have huX4 : ∀ w ∈ u_ws RX4 TX4 9, w ∈ wsX4_moverThen := by decide +kernel
  have hf39 := hts (.fieldLink RX4 39 "EyeBoard$Row" "opener" "I") (by decide +kernel)
  unfold f_X4_moverThen at hr
  refine lv_iload_n hx hb dX4_moverThen_0 rfl (lv_at hl 1 rfl) ?_
  refine lv_iconst (v := (1 : Int32)) hx hb dX4_moverThen_1 (by decide) ?_
  refine lv_iand hx hb dX4_moverThen_2 ?_
  refine lv_if_ne (tgt := 13) hx hb dX4_moverThen_3 (by decide) (fun c1 => ?_) (fun c1 => ?_)
  · have hr := ite_n hr c1
    refine lv_iconst (v := (3 : Int32)) hx hb dX4_moverThen_13 (by decide) ?_
    refine lv_aload_n hx hb dX4_moverThen_14 rfl (lv_at hl 0 rfl) ?_
    refine va_get (D := (dC, dI)) (ci := 4) (v := .int row_opener) (C := RX4) (T := TX4) (N := 9) hx hb hts huX4 hown hK hP 0 rfl rfl 6 (by decide) hf39 (fun _ h9 => h9) rfl dX4_moverThen_15 ?_
    refine lv_isub hx hb dX4_moverThen_18 ?_
    obtain rfl := Option.some.inj hr
    exact kret _ _ dX4_moverThen_19
  · have hr := ite_p hr c1
    refine lv_aload_n hx hb dX4_moverThen_6 rfl (lv_at hl 0 rfl) ?_
    refine va_get (D := (dC, dI)) (ci := 4) (v := .int row_opener) (C := RX4) (T := TX4) (N := 9) hx hb hts huX4 hown hK hP 0 rfl rfl 6 (by decide) hf39 (fun _ h9 => h9) rfl dX4_moverThen_7 ?_
    refine lv_goto (tgt := 19) hx hb dX4_moverThen_10 (by decide) ?_
    obtain rfl := Option.some.inj hr
    exact kret _ _ dX4_moverThen_19

def f_X4_stonesOf (n_row : Nat) (row_latest : Int32) (bl : Nat → Int64) (wh : Nat → Int64) (a0 : Int32) : Option (Int64) :=
  (f_X4_stonesThen n_row bl wh row_latest a0).bind fun q1 =>
  some (q1)

abbrev rm_X4_stonesOf : Room := { frames := 1, cells := 0, slots := 0, locals := 23 }
set_option maxHeartbeats 4000000 in
set_option maxRecDepth 100000 in
theorem c_X4_stonesOf (l : Launch) (dC : Nat → ClassId) (dI : Nat → Nat → Nat) (h_row h_g h_bl h_wh h_ac : Nat) (c_bl c_wh c_ac : ClassId) (n_row : Nat) (row_law row_latest row_opener : Int32) (row_blackThen row_whiteThen : Int64) (g_width g_height g_size : Int32) (g_all g_notFirstColumn g_notLastColumn : Int64) (bl wh : Nat → Int64) (ac : Nat → Int32) (a0 : Int32) (q : Int64) (hr : f_X4_stonesOf n_row row_latest bl wh a0 = some q) : Met l yX4_stonesOf wsX4_stonesOf rm_X4_stonesOf (PrP (dC, dI) (wd_X4 h_row h_g h_bl h_wh h_ac c_bl c_wh c_ac n_row row_law row_latest row_opener row_blackThen row_whiteThen g_width g_height g_size g_all g_notFirstColumn g_notLastColumn bl wh ac) (td_X4 c_bl c_wh c_ac) [.ref h_row, .int a0]) (vp_Sl (fun x => x = q)) 0 0 (fun _ => False) := by
  refine mkP_l (cc := cX4_stonesOf) (nL := 2) (by decide) rfl (Nat.le_of_ble_eq_true rfl) ?_
  intro p e R s m args below meth c H Q ls hRf hRl S hN hP hK hl kret
  have hl : lv_has ls 2 [(0, .ref h_row), (1, .int a0)] := hl
  obtain ⟨hx, hb, hml, hown, hts⟩ := S
  have hown : s.vm.findClass RX4 = some m.cls := hown
  have S : CallFix p m c cX4_stonesOf 2 s args wsX4_stonesOf RX4 := ⟨hx, hb, hml, hown, hts⟩
  have huX4 : ∀ w ∈ u_ws RX4 TX4 9, w ∈ wsX4_stonesOf := by decide +kernel
  have hf36 := hts (.fieldLink RX4 36 "EyeBoard$Row" "latest" "I") (by decide +kernel)
  unfold f_X4_stonesOf at hr
  refine lv_aload_n hx hb dX4_stonesOf_0 rfl (lv_at hl 0 rfl) ?_
  refine lv_aload_n hx hb dX4_stonesOf_1 rfl (lv_at hl 0 rfl) ?_
  refine va_get (D := (dC, dI)) (ci := 4) (v := .int row_latest) (C := RX4) (T := TX4) (N := 9) hx hb hts huX4 hown hK hP 0 rfl rfl 5 (by decide) hf36 (fun _ h9 => h9) rfl dX4_stonesOf_2 ?_
  refine lv_iload_n hx hb dX4_stonesOf_5 rfl (lv_at hl 1 rfl) ?_
  obtain ⟨q1, hq1, hr⟩ := bd_use hr
  refine pcV_l (As := [.int row_latest, .int a0]) (rest := []) S (c_X4_stonesThen l dC dI h_row h_g h_bl h_wh h_ac c_bl c_wh c_ac n_row row_law row_latest row_opener row_blackThen row_whiteThen g_width g_height g_size g_all g_notFirstColumn g_notLastColumn bl wh ac row_latest a0 q1 hq1) (cwV 2 hts gX4_stonesOf_X4_stonesThen rfl rfl rfl (by decide +kernel) ⟨Nat.le_trans (m := rm_X4_stonesOf.frames) (by decide) hRf, Nat.le_trans (m := rm_X4_stonesOf.locals) (by decide) hRl⟩) hN hP hK ⟨Nat.zero_le _, Nat.zero_le _⟩ [0, 1, 2, 3, 4] rfl [0, 1, 2] rfl 0 4 rfl rfl rfl hl.1 rfl (Nat.le_of_ble_eq_true rfl) dX4_stonesOf_6 ?_
  obtain rfl := Option.some.inj hr
  exact kret _ _ dX4_stonesOf_9

def f_X4_mover (row_latest : Int32) (row_opener : Int32)  : Option (Int32) :=
  (f_X4_moverThen row_opener row_latest).bind fun q1 =>
  some (q1)

abbrev rm_X4_mover : Room := { frames := 1, cells := 0, slots := 0, locals := 21 }
set_option maxHeartbeats 4000000 in
set_option maxRecDepth 100000 in
theorem c_X4_mover (l : Launch) (dC : Nat → ClassId) (dI : Nat → Nat → Nat) (h_row h_g h_bl h_wh h_ac : Nat) (c_bl c_wh c_ac : ClassId) (n_row : Nat) (row_law row_latest row_opener : Int32) (row_blackThen row_whiteThen : Int64) (g_width g_height g_size : Int32) (g_all g_notFirstColumn g_notLastColumn : Int64) (bl wh : Nat → Int64) (ac : Nat → Int32)  (q : Int32) (hr : f_X4_mover row_latest row_opener  = some q) : Met l yX4_mover wsX4_mover rm_X4_mover (PrP (dC, dI) (wd_X4 h_row h_g h_bl h_wh h_ac c_bl c_wh c_ac n_row row_law row_latest row_opener row_blackThen row_whiteThen g_width g_height g_size g_all g_notFirstColumn g_notLastColumn bl wh ac) (td_X4 c_bl c_wh c_ac) [.ref h_row]) (vp_Si (fun x => x = q)) 0 0 (fun _ => False) := by
  refine mkP_i (cc := cX4_mover) (nL := 1) (by decide) rfl (Nat.le_of_ble_eq_true rfl) ?_
  intro p e R s m args below meth c H Q ls hRf hRl S hN hP hK hl kret
  have hl : lv_has ls 1 [(0, .ref h_row)] := hl
  obtain ⟨hx, hb, hml, hown, hts⟩ := S
  have hown : s.vm.findClass RX4 = some m.cls := hown
  have S : CallFix p m c cX4_mover 1 s args wsX4_mover RX4 := ⟨hx, hb, hml, hown, hts⟩
  have huX4 : ∀ w ∈ u_ws RX4 TX4 9, w ∈ wsX4_mover := by decide +kernel
  have hf36 := hts (.fieldLink RX4 36 "EyeBoard$Row" "latest" "I") (by decide +kernel)
  unfold f_X4_mover at hr
  refine lv_aload_n hx hb dX4_mover_0 rfl (lv_at hl 0 rfl) ?_
  refine lv_aload_n hx hb dX4_mover_1 rfl (lv_at hl 0 rfl) ?_
  refine va_get (D := (dC, dI)) (ci := 4) (v := .int row_latest) (C := RX4) (T := TX4) (N := 9) hx hb hts huX4 hown hK hP 0 rfl rfl 5 (by decide) hf36 (fun _ h9 => h9) rfl dX4_mover_2 ?_
  obtain ⟨q1, hq1, hr⟩ := bd_use hr
  refine pcV_i (As := [.int row_latest]) (rest := []) S (c_X4_moverThen l dC dI h_row h_g h_bl h_wh h_ac c_bl c_wh c_ac n_row row_law row_latest row_opener row_blackThen row_whiteThen g_width g_height g_size g_all g_notFirstColumn g_notLastColumn bl wh ac row_latest q1 hq1) (cwV 1 hts gX4_mover_X4_moverThen rfl rfl rfl (by decide +kernel) ⟨Nat.le_trans (m := rm_X4_mover.frames) (by decide) hRf, Nat.le_trans (m := rm_X4_mover.locals) (by decide) hRl⟩) hN hP hK ⟨Nat.zero_le _, Nat.zero_le _⟩ [0, 1, 2, 3, 4] rfl [0, 1, 2] rfl 0 4 rfl rfl rfl hl.1 rfl (Nat.le_of_ble_eq_true rfl) dX4_mover_5 ?_
  obtain rfl := Option.some.inj hr
  exact kret _ _ dX4_mover_8

def f_X4_free (n_row : Nat) (row_latest : Int32) (g_all : Int64) (bl : Nat → Int64) (wh : Nat → Int64)  : Option (Int64) :=
  (f_X4_stonesThen n_row bl wh row_latest (1 : Int32)).bind fun q1 =>
  (f_X4_stonesThen n_row bl wh row_latest (2 : Int32)).bind fun q2 =>
  some (g_all &&& ((q1 ||| q2) ^^^ (-1 : Int64)))

abbrev rm_X4_free : Room := { frames := 1, cells := 0, slots := 0, locals := 23 }
set_option maxHeartbeats 4000000 in
set_option maxRecDepth 100000 in
theorem c_X4_free (l : Launch) (dC : Nat → ClassId) (dI : Nat → Nat → Nat) (h_row h_g h_bl h_wh h_ac : Nat) (c_bl c_wh c_ac : ClassId) (n_row : Nat) (row_law row_latest row_opener : Int32) (row_blackThen row_whiteThen : Int64) (g_width g_height g_size : Int32) (g_all g_notFirstColumn g_notLastColumn : Int64) (bl wh : Nat → Int64) (ac : Nat → Int32)  (q : Int64) (hr : f_X4_free n_row row_latest g_all bl wh  = some q) : Met l yX4_free wsX4_free rm_X4_free (PrP (dC, dI) (wd_X4 h_row h_g h_bl h_wh h_ac c_bl c_wh c_ac n_row row_law row_latest row_opener row_blackThen row_whiteThen g_width g_height g_size g_all g_notFirstColumn g_notLastColumn bl wh ac) (td_X4 c_bl c_wh c_ac) [.ref h_row]) (vp_Sl (fun x => x = q)) 0 0 (fun _ => False) := by
  refine mkP_l (cc := cX4_free) (nL := 1) (by decide) rfl (Nat.le_of_ble_eq_true rfl) ?_
  intro p e R s m args below meth c H Q ls hRf hRl S hN hP hK hl kret
  have hl : lv_has ls 1 [(0, .ref h_row)] := hl
  obtain ⟨hx, hb, hml, hown, hts⟩ := S
  have hown : s.vm.findClass RX4 = some m.cls := hown
  have S : CallFix p m c cX4_free 1 s args wsX4_free RX4 := ⟨hx, hb, hml, hown, hts⟩
  have huX4 : ∀ w ∈ u_ws RX4 TX4 9, w ∈ wsX4_free := by decide +kernel
  have hf9 := hts (.fieldLink RX4 9 "EyeBoard$Row" "grid" "LEyeBoard$Grid;") (by decide +kernel)
  have huX2 : ∀ w ∈ u_ws RX2 TX2 6, w ∈ wsX4_free := by decide +kernel
  have hf54 := hts (.fieldLink RX4 54 "EyeBoard$Grid" "all" "J") (by decide +kernel)
  have hf36 := hts (.fieldLink RX4 36 "EyeBoard$Row" "latest" "I") (by decide +kernel)
  have hk60 := hts (.constantLong RX4 60 (-1 : Int64)) (by decide +kernel)
  unfold f_X4_free at hr
  refine lv_aload_n hx hb dX4_free_0 rfl (lv_at hl 0 rfl) ?_
  refine va_get (D := (dC, dI)) (ci := 4) (v := .ref h_g) (C := RX4) (T := TX4) (N := 9) hx hb hts huX4 hown hK hP 0 rfl rfl 0 (by decide) hf9 (fun _ h9 => h9) rfl dX4_free_1 ?_
  refine va_get (D := (dC, dI)) (ci := 2) (v := .long g_all) (C := RX2) (T := TX2) (N := 6) hx hb hts huX2 hown hK hP 1 rfl rfl 3 (by decide) hf54 (fun _ h9 => h9) rfl dX4_free_4 ?_
  refine lv_aload_n hx hb dX4_free_7 rfl (lv_at hl 0 rfl) ?_
  refine lv_aload_n hx hb dX4_free_8 rfl (lv_at hl 0 rfl) ?_
  refine va_get (D := (dC, dI)) (ci := 4) (v := .int row_latest) (C := RX4) (T := TX4) (N := 9) hx hb hts huX4 hown hK hP 0 rfl rfl 5 (by decide) hf36 (fun _ h9 => h9) rfl dX4_free_9 ?_
  refine lv_iconst (v := (1 : Int32)) hx hb dX4_free_12 (by decide) ?_
  obtain ⟨q1, hq1, hr⟩ := bd_use hr
  refine pcV_l (As := [.int row_latest, .int (1 : Int32)]) (rest := [.long g_all]) S (c_X4_stonesThen l dC dI h_row h_g h_bl h_wh h_ac c_bl c_wh c_ac n_row row_law row_latest row_opener row_blackThen row_whiteThen g_width g_height g_size g_all g_notFirstColumn g_notLastColumn bl wh ac row_latest (1 : Int32) q1 hq1) (cwV 2 hts gX4_free_X4_stonesThen rfl rfl rfl (by decide +kernel) ⟨Nat.le_trans (m := rm_X4_free.frames) (by decide) hRf, Nat.le_trans (m := rm_X4_free.locals) (by decide) hRl⟩) hN hP hK ⟨Nat.zero_le _, Nat.zero_le _⟩ [0, 1, 2, 3, 4] rfl [0, 1, 2] rfl 0 4 rfl rfl rfl hl.1 rfl (Nat.le_of_ble_eq_true rfl) dX4_free_13 ?_
  refine lv_aload_n hx hb dX4_free_16 rfl (lv_at hl 0 rfl) ?_
  refine lv_aload_n hx hb dX4_free_17 rfl (lv_at hl 0 rfl) ?_
  refine va_get (D := (dC, dI)) (ci := 4) (v := .int row_latest) (C := RX4) (T := TX4) (N := 9) hx hb hts huX4 hown hK hP 0 rfl rfl 5 (by decide) hf36 (fun _ h9 => h9) rfl dX4_free_18 ?_
  refine lv_iconst (v := (2 : Int32)) hx hb dX4_free_21 (by decide) ?_
  obtain ⟨q2, hq2, hr⟩ := bd_use hr
  refine pcV_l (As := [.int row_latest, .int (2 : Int32)]) (rest := [.long q1, .long g_all]) S (c_X4_stonesThen l dC dI h_row h_g h_bl h_wh h_ac c_bl c_wh c_ac n_row row_law row_latest row_opener row_blackThen row_whiteThen g_width g_height g_size g_all g_notFirstColumn g_notLastColumn bl wh ac row_latest (2 : Int32) q2 hq2) (cwV 2 hts gX4_free_X4_stonesThen rfl rfl rfl (by decide +kernel) ⟨Nat.le_trans (m := rm_X4_free.frames) (by decide) hRf, Nat.le_trans (m := rm_X4_free.locals) (by decide) hRl⟩) hN hP hK ⟨Nat.zero_le _, Nat.zero_le _⟩ [0, 1, 2, 3, 4] rfl [0, 1, 2] rfl 0 4 rfl rfl rfl hl.1 rfl (Nat.le_of_ble_eq_true rfl) dX4_free_22 ?_
  refine lv_lor hx hb dX4_free_25 ?_
  refine W.ldc2 (v := (-1 : Int64)) hx hb hown hk60 rfl dX4_free_26 ?_
  refine W.eq (g2 := F0 m 29 ls [.long (-1 : Int64), .long (q1 ||| q2), .long g_all]) rfl ?_
  refine lv_lxor hx hb dX4_free_29 ?_
  refine lv_land hx hb dX4_free_30 ?_
  obtain rfl := Option.some.inj hr
  exact kret _ _ dX4_free_31

def f_X4_colourAt (n_row : Nat) (row_latest : Int32) (bl : Nat → Int64) (wh : Nat → Int64) (a0 : Int32) : Option (Int32) :=
  (f_X4_stonesOf n_row row_latest bl wh (1 : Int32)).bind fun q1 =>
  (f_X2_holds q1 a0).bind fun q2 =>
  if q2 = 0 then (
    (f_X4_stonesOf n_row row_latest bl wh (2 : Int32)).bind fun q4 =>
    (f_X2_holds q4 a0).bind fun q5 =>
    if q5 = 0 then (
      some ((0 : Int32))
    )
    else (
      some ((2 : Int32))
    )
  )
  else (
    some ((1 : Int32))
  )

abbrev rm_X4_colourAt : Room := { frames := 2, cells := 0, slots := 0, locals := 44 }
set_option maxHeartbeats 4000000 in
set_option maxRecDepth 100000 in
theorem c_X4_colourAt (l : Launch) (dC : Nat → ClassId) (dI : Nat → Nat → Nat) (h_row h_g h_bl h_wh h_ac : Nat) (c_bl c_wh c_ac : ClassId) (n_row : Nat) (row_law row_latest row_opener : Int32) (row_blackThen row_whiteThen : Int64) (g_width g_height g_size : Int32) (g_all g_notFirstColumn g_notLastColumn : Int64) (bl wh : Nat → Int64) (ac : Nat → Int32) (a0 : Int32) (q : Int32) (hr : f_X4_colourAt n_row row_latest bl wh a0 = some q) : Met l yX4_colourAt wsX4_colourAt rm_X4_colourAt (PrP (dC, dI) (wd_X4 h_row h_g h_bl h_wh h_ac c_bl c_wh c_ac n_row row_law row_latest row_opener row_blackThen row_whiteThen g_width g_height g_size g_all g_notFirstColumn g_notLastColumn bl wh ac) (td_X4 c_bl c_wh c_ac) [.ref h_row, .int a0]) (vp_Si (fun x => x = q)) 0 0 (fun _ => False) := by
  refine mkP_i (cc := cX4_colourAt) (nL := 2) (by decide) rfl (Nat.le_of_ble_eq_true rfl) ?_
  intro p e R s m args below meth c H Q ls hRf hRl S hN hP hK hl kret
  have hl : lv_has ls 2 [(0, .ref h_row), (1, .int a0)] := hl
  obtain ⟨hx, hb, hml, hown, hts⟩ := S
  have hown : s.vm.findClass RX4 = some m.cls := hown
  have S : CallFix p m c cX4_colourAt 2 s args wsX4_colourAt RX4 := ⟨hx, hb, hml, hown, hts⟩
  unfold f_X4_colourAt at hr
  refine lv_aload_n hx hb dX4_colourAt_0 rfl (lv_at hl 0 rfl) ?_
  refine lv_iconst (v := (1 : Int32)) hx hb dX4_colourAt_1 (by decide) ?_
  obtain ⟨q1, hq1, hr⟩ := bd_use hr
  refine pcV_l (As := [.int (1 : Int32)]) (rest := []) S (c_X4_stonesOf l dC dI h_row h_g h_bl h_wh h_ac c_bl c_wh c_ac n_row row_law row_latest row_opener row_blackThen row_whiteThen g_width g_height g_size g_all g_notFirstColumn g_notLastColumn bl wh ac (1 : Int32) q1 hq1) (cwV 1 hts gX4_colourAt_X4_stonesOf rfl rfl rfl (by decide +kernel) ⟨Nat.le_trans (m := rm_X4_colourAt.frames) (by decide) hRf, Nat.le_trans (m := rm_X4_colourAt.locals) (by decide) hRl⟩) hN hP hK ⟨Nat.zero_le _, Nat.zero_le _⟩ [0, 1, 2, 3, 4] rfl [0, 1, 2] rfl 0 4 rfl rfl rfl hl.1 rfl (Nat.le_of_ble_eq_true rfl) dX4_colourAt_2 ?_
  refine lv_iload_n hx hb dX4_colourAt_5 rfl (lv_at hl 1 rfl) ?_
  obtain ⟨q2, hq2, hr⟩ := bd_use hr
  refine pcS_i (As := [.long q1, .int a0]) (rest := []) S (c_X2_holds l dC dI q1 a0 q2 hq2) (va_cwS 2 hts gX4_colourAt_X2_holds rfl rfl rfl (by decide +kernel) ⟨Nat.le_trans (m := rm_X4_colourAt.frames) (by decide) hRf, Nat.le_trans (m := rm_X4_colourAt.locals) (by decide) hRl⟩) hN hP hK ⟨Nat.zero_le _, Nat.zero_le _⟩ rfl hl.1 rfl (Nat.le_of_ble_eq_true rfl) dX4_colourAt_6 ?_
  refine lv_if_eq (tgt := 14) hx hb dX4_colourAt_9 (by decide) (fun c3 => ?_) (fun c3 => ?_)
  · have hr := ite_p hr c3
    refine lv_aload_n hx hb dX4_colourAt_14 rfl (lv_at hl 0 rfl) ?_
    refine lv_iconst (v := (2 : Int32)) hx hb dX4_colourAt_15 (by decide) ?_
    obtain ⟨q4, hq4, hr⟩ := bd_use hr
    refine pcV_l (As := [.int (2 : Int32)]) (rest := []) S (c_X4_stonesOf l dC dI h_row h_g h_bl h_wh h_ac c_bl c_wh c_ac n_row row_law row_latest row_opener row_blackThen row_whiteThen g_width g_height g_size g_all g_notFirstColumn g_notLastColumn bl wh ac (2 : Int32) q4 hq4) (cwV 1 hts gX4_colourAt_X4_stonesOf rfl rfl rfl (by decide +kernel) ⟨Nat.le_trans (m := rm_X4_colourAt.frames) (by decide) hRf, Nat.le_trans (m := rm_X4_colourAt.locals) (by decide) hRl⟩) hN hP hK ⟨Nat.zero_le _, Nat.zero_le _⟩ [0, 1, 2, 3, 4] rfl [0, 1, 2] rfl 0 4 rfl rfl rfl hl.1 rfl (Nat.le_of_ble_eq_true rfl) dX4_colourAt_16 ?_
    refine lv_iload_n hx hb dX4_colourAt_19 rfl (lv_at hl 1 rfl) ?_
    obtain ⟨q5, hq5, hr⟩ := bd_use hr
    refine pcS_i (As := [.long q4, .int a0]) (rest := []) S (c_X2_holds l dC dI q4 a0 q5 hq5) (va_cwS 2 hts gX4_colourAt_X2_holds rfl rfl rfl (by decide +kernel) ⟨Nat.le_trans (m := rm_X4_colourAt.frames) (by decide) hRf, Nat.le_trans (m := rm_X4_colourAt.locals) (by decide) hRl⟩) hN hP hK ⟨Nat.zero_le _, Nat.zero_le _⟩ rfl hl.1 rfl (Nat.le_of_ble_eq_true rfl) dX4_colourAt_20 ?_
    refine lv_if_eq (tgt := 30) hx hb dX4_colourAt_23 (by decide) (fun c6 => ?_) (fun c6 => ?_)
    · have hr := ite_p hr c6
      refine lv_iconst (v := (0 : Int32)) hx hb dX4_colourAt_30 (by decide) ?_
      obtain rfl := Option.some.inj hr
      exact kret _ _ dX4_colourAt_31
    · have hr := ite_n hr c6
      refine lv_iconst (v := (2 : Int32)) hx hb dX4_colourAt_26 (by decide) ?_
      refine lv_goto (tgt := 31) hx hb dX4_colourAt_27 (by decide) ?_
      obtain rfl := Option.some.inj hr
      exact kret _ _ dX4_colourAt_31
  · have hr := ite_n hr c3
    refine lv_iconst (v := (1 : Int32)) hx hb dX4_colourAt_12 (by decide) ?_
    obtain rfl := Option.some.inj hr
    exact kret _ _ dX4_colourAt_13

def f_X4_actAt (n_row : Nat) (row_latest : Int32) (ac : Nat → Int32) (a0 : Int32) : Option (Int32) :=
  if a0 < 0 then (
    some ((-1 : Int32))
  )
  else (
    if row_latest ≤ a0 then (
      some ((-1 : Int32))
    )
    else (
      if nI n_row ≤ a0 then (
        some ((-1 : Int32))
      )
      else (
        if (a0 < 0 ∨ n_row ≤ a0.toNatClampNeg) then none else
        some (ac a0.toNatClampNeg)
      )
    )
  )

abbrev rm_X4_actAt : Room := { frames := 0, cells := 0, slots := 0, locals := 0 }
set_option maxHeartbeats 4000000 in
set_option maxRecDepth 100000 in
theorem c_X4_actAt (l : Launch) (dC : Nat → ClassId) (dI : Nat → Nat → Nat) (h_row h_g h_bl h_wh h_ac : Nat) (c_bl c_wh c_ac : ClassId) (n_row : Nat) (row_law row_latest row_opener : Int32) (row_blackThen row_whiteThen : Int64) (g_width g_height g_size : Int32) (g_all g_notFirstColumn g_notLastColumn : Int64) (bl wh : Nat → Int64) (ac : Nat → Int32) (a0 : Int32) (q : Int32) (hr : f_X4_actAt n_row row_latest ac a0 = some q) : Met l yX4_actAt wsX4_actAt rm_X4_actAt (PrP (dC, dI) (wd_X4 h_row h_g h_bl h_wh h_ac c_bl c_wh c_ac n_row row_law row_latest row_opener row_blackThen row_whiteThen g_width g_height g_size g_all g_notFirstColumn g_notLastColumn bl wh ac) (td_X4 c_bl c_wh c_ac) [.ref h_row, .int a0]) (vp_Si (fun x => x = q)) 0 0 (fun _ => False) := by
  refine mkP_i (cc := cX4_actAt) (nL := 2) (by decide) rfl (Nat.le_of_ble_eq_true rfl) ?_
  intro p e R s m args below meth c H Q ls hRf hRl S hN hP hK hl kret
  have hl : lv_has ls 2 [(0, .ref h_row), (1, .int a0)] := hl
  obtain ⟨hx, hb, hml, hown, hts⟩ := S
  have hown : s.vm.findClass RX4 = some m.cls := hown
  have S : CallFix p m c cX4_actAt 2 s args wsX4_actAt RX4 := ⟨hx, hb, hml, hown, hts⟩
  have huX4 : ∀ w ∈ u_ws RX4 TX4 9, w ∈ wsX4_actAt := by decide +kernel
  have hf36 := hts (.fieldLink RX4 36 "EyeBoard$Row" "latest" "I") (by decide +kernel)
  have hf28 := hts (.fieldLink RX4 28 "EyeBoard$Row" "acts" "[I") (by decide +kernel)
  unfold f_X4_actAt at hr
  refine lv_iload_n hx hb dX4_actAt_0 rfl (lv_at hl 1 rfl) ?_
  refine lv_if_lt (tgt := 30) hx hb dX4_actAt_1 (by decide) (fun c1 => ?_) (fun c1 => ?_)
  · have hr := ite_p hr c1
    refine lv_iconst (v := (-1 : Int32)) hx hb dX4_actAt_30 (by decide) ?_
    obtain rfl := Option.some.inj hr
    exact kret _ _ dX4_actAt_31
  · have hr := ite_n hr c1
    refine lv_iload_n hx hb dX4_actAt_4 rfl (lv_at hl 1 rfl) ?_
    refine lv_aload_n hx hb dX4_actAt_5 rfl (lv_at hl 0 rfl) ?_
    refine va_get (D := (dC, dI)) (ci := 4) (v := .int row_latest) (C := RX4) (T := TX4) (N := 9) hx hb hts huX4 hown hK hP 0 rfl rfl 5 (by decide) hf36 (fun _ h9 => h9) rfl dX4_actAt_6 ?_
    refine lv_icmp_ge (tgt := 30) hx hb dX4_actAt_9 (by decide) (fun c2 => ?_) (fun c2 => ?_)
    · have hr := ite_p hr c2
      refine lv_iconst (v := (-1 : Int32)) hx hb dX4_actAt_30 (by decide) ?_
      obtain rfl := Option.some.inj hr
      exact kret _ _ dX4_actAt_31
    · have hr := ite_n hr c2
      refine lv_iload_n hx hb dX4_actAt_12 rfl (lv_at hl 1 rfl) ?_
      refine lv_aload_n hx hb dX4_actAt_13 rfl (lv_at hl 0 rfl) ?_
      refine va_get (D := (dC, dI)) (ci := 4) (v := .ref h_ac) (C := RX4) (T := TX4) (N := 9) hx hb hts huX4 hown hK hP 0 rfl rfl 3 (by decide) hf28 (fun _ h9 => h9) rfl dX4_actAt_14 ?_
      refine va_alen (v := nI n_row) hx hb hK hP 4 2 rfl rfl rfl dX4_actAt_17 ?_
      refine lv_icmp_ge (tgt := 30) hx hb dX4_actAt_18 (by decide) (fun c3 => ?_) (fun c3 => ?_)
      · have hr := ite_p hr c3
        refine lv_iconst (v := (-1 : Int32)) hx hb dX4_actAt_30 (by decide) ?_
        obtain rfl := Option.some.inj hr
        exact kret _ _ dX4_actAt_31
      · have hr := ite_n hr c3
        refine lv_aload_n hx hb dX4_actAt_21 rfl (lv_at hl 0 rfl) ?_
        refine va_get (D := (dC, dI)) (ci := 4) (v := .ref h_ac) (C := RX4) (T := TX4) (N := 9) hx hb hts huX4 hown hK hP 0 rfl rfl 3 (by decide) hf28 (fun _ h9 => h9) rfl dX4_actAt_22 ?_
        refine lv_iload_n hx hb dX4_actAt_25 rfl (lv_at hl 1 rfl) ?_
        obtain ⟨hi4, hr⟩ := ite_g hr
        refine va_iald hx hb hK hP 4 2 rfl rfl hi4 dX4_actAt_26 ?_
        refine lv_goto (tgt := 31) hx hb dX4_actAt_27 (by decide) ?_
        obtain rfl := Option.some.inj hr
        exact kret _ _ dX4_actAt_31

def lp_X4_isRefusedByLaw_25 (n_row : Nat) (row_law : Int32) (row_latest : Int32) (row_opener : Int32) (row_blackThen : Int64) (row_whiteThen : Int64) (bl : Nat → Int64) (wh : Nat → Int64) (u1 : Int32) : Nat → Int32 → Option (Int32)
  | 0, _ => none
  | nF + 1, v4 =>
    if v4 < u1 then (
      some ((0 : Int32))
    )
    else (
      if v4 < 0 then (
        some ((0 : Int32))
      )
      else (
        nm (fun (u7 : Int32) =>
        if u7 = 0 then (
          nm (v4 + (-1)) fun x10 =>
          lp_X4_isRefusedByLaw_25 n_row row_law row_latest row_opener row_blackThen row_whiteThen bl wh u1 nF x10
        )
        else (
          (f_X4_stonesThen n_row bl wh v4 (1 : Int32)).bind fun q11 =>
          if q11 = row_blackThen then (
            (f_X4_stonesThen n_row bl wh v4 (2 : Int32)).bind fun q14 =>
            if q14 = row_whiteThen then (
              some ((1 : Int32))
            )
            else (
              nm (v4 + (-1)) fun x16 =>
              lp_X4_isRefusedByLaw_25 n_row row_law row_latest row_opener row_blackThen row_whiteThen bl wh u1 nF x16
            )
          )
          else (
            nm (v4 + (-1)) fun x13 =>
            lp_X4_isRefusedByLaw_25 n_row row_law row_latest row_opener row_blackThen row_whiteThen bl wh u1 nF x13
          )
        )
        ) fun K8 =>
        if row_law = (2 : Int32) then (
          (f_X4_moverThen row_opener v4).bind fun q18 =>
          (f_X4_moverThen row_opener (row_latest + (1 : Int32))).bind fun q19 =>
          if q18 = q19 then (
            K8 (1 : Int32)
          )
          else (
            K8 (0 : Int32)
          )
        )
        else (
          K8 (1 : Int32)
        )
      )
    )

def f_X4_isRefusedByLaw (n_row : Nat) (row_law : Int32) (row_latest : Int32) (row_opener : Int32) (row_blackThen : Int64) (row_whiteThen : Int64) (bl : Nat → Int64) (wh : Nat → Int64)  : Option (Int32) :=
  nm (fun (u1 : Int32) =>
  nm (row_latest - (1 : Int32)) fun x3 =>
  lp_X4_isRefusedByLaw_25 n_row row_law row_latest row_opener row_blackThen row_whiteThen bl wh u1 FU x3
  ) fun K2 =>
  if row_law = 0 then (
    K2 (row_latest - (1 : Int32))
  )
  else (
    K2 (0 : Int32)
  )

abbrev rm_X4_isRefusedByLaw : Room := { frames := 1, cells := 0, slots := 0, locals := 23 }
set_option maxHeartbeats 4000000 in
set_option maxRecDepth 100000 in
theorem c_X4_isRefusedByLaw (l : Launch) (dC : Nat → ClassId) (dI : Nat → Nat → Nat) (h_row h_g h_bl h_wh h_ac : Nat) (c_bl c_wh c_ac : ClassId) (n_row : Nat) (row_law row_latest row_opener : Int32) (row_blackThen row_whiteThen : Int64) (g_width g_height g_size : Int32) (g_all g_notFirstColumn g_notLastColumn : Int64) (bl wh : Nat → Int64) (ac : Nat → Int32)  (q : Int32) (hr : f_X4_isRefusedByLaw n_row row_law row_latest row_opener row_blackThen row_whiteThen bl wh  = some q) : Met l yX4_isRefusedByLaw wsX4_isRefusedByLaw rm_X4_isRefusedByLaw (PrP (dC, dI) (wd_X4 h_row h_g h_bl h_wh h_ac c_bl c_wh c_ac n_row row_law row_latest row_opener row_blackThen row_whiteThen g_width g_height g_size g_all g_notFirstColumn g_notLastColumn bl wh ac) (td_X4 c_bl c_wh c_ac) [.ref h_row]) (vp_Si (fun x => x = q)) 0 0 (fun _ => False) := by
  refine mkP_z (cc := cX4_isRefusedByLaw) (nL := 4) (by decide) rfl (Nat.le_of_ble_eq_true rfl) ?_
  intro p e R s m args below meth c H Q ls hRf hRl S hN hP hK hl kret
  have hl : lv_has ls 4 [(0, .ref h_row)] := hl
  obtain ⟨hx, hb, hml, hown, hts⟩ := S
  have hown : s.vm.findClass RX4 = some m.cls := hown
  have S : CallFix p m c cX4_isRefusedByLaw 4 s args wsX4_isRefusedByLaw RX4 := ⟨hx, hb, hml, hown, hts⟩
  have huX4 : ∀ w ∈ u_ws RX4 TX4 9, w ∈ wsX4_isRefusedByLaw := by decide +kernel
  have hf32 := hts (.fieldLink RX4 32 "EyeBoard$Row" "law" "I") (by decide +kernel)
  have hf36 := hts (.fieldLink RX4 36 "EyeBoard$Row" "latest" "I") (by decide +kernel)
  have hf89 := hts (.fieldLink RX4 89 "EyeBoard$Row" "blackThen" "J") (by decide +kernel)
  have hf92 := hts (.fieldLink RX4 92 "EyeBoard$Row" "whiteThen" "J") (by decide +kernel)
  unfold f_X4_isRefusedByLaw at hr
  refine lv_aload_n hx hb dX4_isRefusedByLaw_0 rfl (lv_at hl 0 rfl) ?_
  refine va_get (D := (dC, dI)) (ci := 4) (v := .int row_law) (C := RX4) (T := TX4) (N := 9) hx hb hts huX4 hown hK hP 0 rfl rfl 4 (by decide) hf32 (fun _ h9 => h9) rfl dX4_isRefusedByLaw_1 ?_
  obtain ⟨K2, eK2, hr⟩ := nm_ex hr
  have kK2 : ∀ (u1 : Int32) , K2 u1 = some q → ∀ (ls : Array Slot), lv_has ls 4 [(0, .ref h_row)] → W p l e R s m args below meth c H [] 0 0 Q (F0 m 17 ls [.int u1]) := by
    intro u1 hr ls hl
    rw [eK2] at hr
    refine lv_istore_n (lv' := [(1, .int u1), (0, .ref h_row)]) hx hb dX4_isRefusedByLaw_17 rfl hl (by decide) rfl (fun ls hl => ?_)
    refine lv_aload_n hx hb dX4_isRefusedByLaw_18 rfl (lv_at hl 1 rfl) ?_
    refine va_get (D := (dC, dI)) (ci := 4) (v := .int row_latest) (C := RX4) (T := TX4) (N := 9) hx hb hts huX4 hown hK hP 0 rfl rfl 5 (by decide) hf36 (fun _ h9 => h9) rfl dX4_isRefusedByLaw_19 ?_
    refine lv_iconst (v := (1 : Int32)) hx hb dX4_isRefusedByLaw_22 (by decide) ?_
    refine lv_isub hx hb dX4_isRefusedByLaw_23 ?_
    refine lv_topi (fun x3 ex3 => ?_)
    have hr := nm_use hr ex3
    refine lv_istore_n (lv' := [(2, .int x3), (1, .int u1), (0, .ref h_row)]) hx hb dX4_isRefusedByLaw_24 rfl hl (by decide) rfl (fun ls hl => ?_)
    have llp_X4_isRefusedByLaw_25 : ∀ (nF : Nat) (v4 : Int32) , lp_X4_isRefusedByLaw_25 n_row row_law row_latest row_opener row_blackThen row_whiteThen bl wh u1 nF v4 = some q → ∀ (ls : Array Slot), lv_has ls 4 [(0, .ref h_row), (1, .int u1), (2, .int v4)] → W p l e R s m args below meth c H [] 0 0 Q (F0 m 25 ls []) := by
      intro nF
      induction nF with
      | zero => intro v4 hr; exact absurd hr (by simp [lp_X4_isRefusedByLaw_25])
      | succ nF ih =>
        intro v4 hr ls hl
        rw [lp_X4_isRefusedByLaw_25] at hr
        refine lv_iload_n hx hb dX4_isRefusedByLaw_25 rfl (lv_at hl 2 rfl) ?_
        refine lv_iload_n hx hb dX4_isRefusedByLaw_26 rfl (lv_at hl 1 rfl) ?_
        refine lv_icmp_lt (tgt := 106) hx hb dX4_isRefusedByLaw_27 (by decide) (fun c5 => ?_) (fun c5 => ?_)
        · have hr := ite_p hr c5
          refine lv_iconst (v := (0 : Int32)) hx hb dX4_isRefusedByLaw_106 (by decide) ?_
          obtain rfl := Option.some.inj hr
          exact kret _ _ dX4_isRefusedByLaw_107 nar_0
        · have hr := ite_n hr c5
          refine lv_iload_n hx hb dX4_isRefusedByLaw_30 rfl (lv_at hl 2 rfl) ?_
          refine lv_if_lt (tgt := 106) hx hb dX4_isRefusedByLaw_31 (by decide) (fun c6 => ?_) (fun c6 => ?_)
          · have hr := ite_p hr c6
            refine lv_iconst (v := (0 : Int32)) hx hb dX4_isRefusedByLaw_106 (by decide) ?_
            obtain rfl := Option.some.inj hr
            exact kret _ _ dX4_isRefusedByLaw_107 nar_0
          · have hr := ite_n hr c6
            refine lv_aload_n hx hb dX4_isRefusedByLaw_34 rfl (lv_at hl 0 rfl) ?_
            refine va_get (D := (dC, dI)) (ci := 4) (v := .int row_law) (C := RX4) (T := TX4) (N := 9) hx hb hts huX4 hown hK hP 0 rfl rfl 4 (by decide) hf32 (fun _ h9 => h9) rfl dX4_isRefusedByLaw_35 ?_
            refine lv_iconst (v := (2 : Int32)) hx hb dX4_isRefusedByLaw_38 (by decide) ?_
            obtain ⟨K8, eK8, hr⟩ := nm_ex hr
            have kK8 : ∀ (u7 : Int32) , K8 u7 = some q → ∀ (ls : Array Slot), lv_has ls 4 [(0, .ref h_row), (1, .int u1), (2, .int v4)] → W p l e R s m args below meth c H [] 0 0 Q (F0 m 65 ls [.int u7]) := by
              intro u7 hr ls hl
              rw [eK8] at hr
              refine lv_istore_n (lv' := [(3, .int u7), (0, .ref h_row), (1, .int u1), (2, .int v4)]) hx hb dX4_isRefusedByLaw_65 rfl hl (by decide) rfl (fun ls hl => ?_)
              refine lv_iload_n hx hb dX4_isRefusedByLaw_66 rfl (lv_at hl 0 rfl) ?_
              refine lv_if_eq (tgt := 100) hx hb dX4_isRefusedByLaw_67 (by decide) (fun c9 => ?_) (fun c9 => ?_)
              · have hr := ite_p hr c9
                obtain ⟨x10, ex10, hr⟩ := nm_ex hr
                refine lv_iinc (v := x10) (lv' := [(2, .int x10), (3, .int u7), (0, .ref h_row), (1, .int u1)]) hx hb dX4_isRefusedByLaw_100 hl (k := 3) rfl (by rw [ex10]; rfl) (by decide) rfl (fun ls hl => ?_)
                refine lv_goto (tgt := 25) hx hb dX4_isRefusedByLaw_103 (by decide) ?_
                exact ih x10 hr ls (lv_sub hl [2, 3, 0] rfl)
              · have hr := ite_n hr c9
                refine lv_aload_n hx hb dX4_isRefusedByLaw_70 rfl (lv_at hl 1 rfl) ?_
                refine lv_iload_n hx hb dX4_isRefusedByLaw_71 rfl (lv_at hl 3 rfl) ?_
                refine lv_iconst (v := (1 : Int32)) hx hb dX4_isRefusedByLaw_72 (by decide) ?_
                obtain ⟨q11, hq11, hr⟩ := bd_use hr
                refine pcV_l (As := [.int v4, .int (1 : Int32)]) (rest := []) S (c_X4_stonesThen l dC dI h_row h_g h_bl h_wh h_ac c_bl c_wh c_ac n_row row_law row_latest row_opener row_blackThen row_whiteThen g_width g_height g_size g_all g_notFirstColumn g_notLastColumn bl wh ac v4 (1 : Int32) q11 hq11) (cwV 2 hts gX4_isRefusedByLaw_X4_stonesThen rfl rfl rfl (by decide +kernel) ⟨Nat.le_trans (m := rm_X4_isRefusedByLaw.frames) (by decide) hRf, Nat.le_trans (m := rm_X4_isRefusedByLaw.locals) (by decide) hRl⟩) hN hP hK ⟨Nat.zero_le _, Nat.zero_le _⟩ [0, 1, 2, 3, 4] rfl [0, 1, 2] rfl 0 4 rfl rfl rfl hl.1 rfl (Nat.le_of_ble_eq_true rfl) dX4_isRefusedByLaw_73 ?_
                refine lv_aload_n hx hb dX4_isRefusedByLaw_76 rfl (lv_at hl 1 rfl) ?_
                refine va_get (D := (dC, dI)) (ci := 4) (v := .long row_blackThen) (C := RX4) (T := TX4) (N := 9) hx hb hts huX4 hown hK hP 0 rfl rfl 7 (by decide) hf89 (fun _ h9 => h9) rfl dX4_isRefusedByLaw_77 ?_
                refine W.lcmp hx hb dX4_isRefusedByLaw_80 ?_
                refine lv_if_ne (tgt := 100) hx hb dX4_isRefusedByLaw_81 (by decide) (fun c12 => ?_) (fun c12 => ?_)
                · have c12 := cmp_f c12
                  have hr := ite_n hr c12
                  obtain ⟨x13, ex13, hr⟩ := nm_ex hr
                  refine lv_iinc (v := x13) (lv' := [(2, .int x13), (3, .int u7), (0, .ref h_row), (1, .int u1)]) hx hb dX4_isRefusedByLaw_100 hl (k := 3) rfl (by rw [ex13]; rfl) (by decide) rfl (fun ls hl => ?_)
                  refine lv_goto (tgt := 25) hx hb dX4_isRefusedByLaw_103 (by decide) ?_
                  exact ih x13 hr ls (lv_sub hl [2, 3, 0] rfl)
                · have c12 := cmp_t c12
                  have hr := ite_p hr c12
                  refine lv_aload_n hx hb dX4_isRefusedByLaw_84 rfl (lv_at hl 1 rfl) ?_
                  refine lv_iload_n hx hb dX4_isRefusedByLaw_85 rfl (lv_at hl 3 rfl) ?_
                  refine lv_iconst (v := (2 : Int32)) hx hb dX4_isRefusedByLaw_86 (by decide) ?_
                  obtain ⟨q14, hq14, hr⟩ := bd_use hr
                  refine pcV_l (As := [.int v4, .int (2 : Int32)]) (rest := []) S (c_X4_stonesThen l dC dI h_row h_g h_bl h_wh h_ac c_bl c_wh c_ac n_row row_law row_latest row_opener row_blackThen row_whiteThen g_width g_height g_size g_all g_notFirstColumn g_notLastColumn bl wh ac v4 (2 : Int32) q14 hq14) (cwV 2 hts gX4_isRefusedByLaw_X4_stonesThen rfl rfl rfl (by decide +kernel) ⟨Nat.le_trans (m := rm_X4_isRefusedByLaw.frames) (by decide) hRf, Nat.le_trans (m := rm_X4_isRefusedByLaw.locals) (by decide) hRl⟩) hN hP hK ⟨Nat.zero_le _, Nat.zero_le _⟩ [0, 1, 2, 3, 4] rfl [0, 1, 2] rfl 0 4 rfl rfl rfl hl.1 rfl (Nat.le_of_ble_eq_true rfl) dX4_isRefusedByLaw_87 ?_
                  refine lv_aload_n hx hb dX4_isRefusedByLaw_90 rfl (lv_at hl 1 rfl) ?_
                  refine va_get (D := (dC, dI)) (ci := 4) (v := .long row_whiteThen) (C := RX4) (T := TX4) (N := 9) hx hb hts huX4 hown hK hP 0 rfl rfl 8 (by decide) hf92 (fun _ h9 => h9) rfl dX4_isRefusedByLaw_91 ?_
                  refine W.lcmp hx hb dX4_isRefusedByLaw_94 ?_
                  refine lv_if_ne (tgt := 100) hx hb dX4_isRefusedByLaw_95 (by decide) (fun c15 => ?_) (fun c15 => ?_)
                  · have c15 := cmp_f c15
                    have hr := ite_n hr c15
                    obtain ⟨x16, ex16, hr⟩ := nm_ex hr
                    refine lv_iinc (v := x16) (lv' := [(2, .int x16), (3, .int u7), (0, .ref h_row), (1, .int u1)]) hx hb dX4_isRefusedByLaw_100 hl (k := 3) rfl (by rw [ex16]; rfl) (by decide) rfl (fun ls hl => ?_)
                    refine lv_goto (tgt := 25) hx hb dX4_isRefusedByLaw_103 (by decide) ?_
                    exact ih x16 hr ls (lv_sub hl [2, 3, 0] rfl)
                  · have c15 := cmp_t c15
                    have hr := ite_p hr c15
                    refine lv_iconst (v := (1 : Int32)) hx hb dX4_isRefusedByLaw_98 (by decide) ?_
                    obtain rfl := Option.some.inj hr
                    exact kret _ _ dX4_isRefusedByLaw_99 nar_1
            refine lv_icmp_ne (tgt := 60) hx hb dX4_isRefusedByLaw_39 (by decide) (fun c17 => ?_) (fun c17 => ?_)
            · have hr := ite_n hr c17
              refine lv_iconst (v := (1 : Int32)) hx hb dX4_isRefusedByLaw_60 (by decide) ?_
              refine lv_goto (tgt := 65) hx hb dX4_isRefusedByLaw_61 (by decide) ?_
              exact kK8 (1 : Int32) hr ls (lv_sub hl [0, 1, 2] rfl)
            · have hr := ite_p hr c17
              refine lv_aload_n hx hb dX4_isRefusedByLaw_42 rfl (lv_at hl 0 rfl) ?_
              refine lv_iload_n hx hb dX4_isRefusedByLaw_43 rfl (lv_at hl 2 rfl) ?_
              obtain ⟨q18, hq18, hr⟩ := bd_use hr
              refine pcV_i (As := [.int v4]) (rest := []) S (c_X4_moverThen l dC dI h_row h_g h_bl h_wh h_ac c_bl c_wh c_ac n_row row_law row_latest row_opener row_blackThen row_whiteThen g_width g_height g_size g_all g_notFirstColumn g_notLastColumn bl wh ac v4 q18 hq18) (cwV 1 hts gX4_isRefusedByLaw_X4_moverThen rfl rfl rfl (by decide +kernel) ⟨Nat.le_trans (m := rm_X4_isRefusedByLaw.frames) (by decide) hRf, Nat.le_trans (m := rm_X4_isRefusedByLaw.locals) (by decide) hRl⟩) hN hP hK ⟨Nat.zero_le _, Nat.zero_le _⟩ [0, 1, 2, 3, 4] rfl [0, 1, 2] rfl 0 4 rfl rfl rfl hl.1 rfl (Nat.le_of_ble_eq_true rfl) dX4_isRefusedByLaw_44 ?_
              refine lv_aload_n hx hb dX4_isRefusedByLaw_47 rfl (lv_at hl 0 rfl) ?_
              refine lv_aload_n hx hb dX4_isRefusedByLaw_48 rfl (lv_at hl 0 rfl) ?_
              refine va_get (D := (dC, dI)) (ci := 4) (v := .int row_latest) (C := RX4) (T := TX4) (N := 9) hx hb hts huX4 hown hK hP 0 rfl rfl 5 (by decide) hf36 (fun _ h9 => h9) rfl dX4_isRefusedByLaw_49 ?_
              refine lv_iconst (v := (1 : Int32)) hx hb dX4_isRefusedByLaw_52 (by decide) ?_
              refine lv_iadd hx hb dX4_isRefusedByLaw_53 ?_
              obtain ⟨q19, hq19, hr⟩ := bd_use hr
              refine pcV_i (As := [.int (row_latest + (1 : Int32))]) (rest := [.int q18]) S (c_X4_moverThen l dC dI h_row h_g h_bl h_wh h_ac c_bl c_wh c_ac n_row row_law row_latest row_opener row_blackThen row_whiteThen g_width g_height g_size g_all g_notFirstColumn g_notLastColumn bl wh ac (row_latest + (1 : Int32)) q19 hq19) (cwV 1 hts gX4_isRefusedByLaw_X4_moverThen rfl rfl rfl (by decide +kernel) ⟨Nat.le_trans (m := rm_X4_isRefusedByLaw.frames) (by decide) hRf, Nat.le_trans (m := rm_X4_isRefusedByLaw.locals) (by decide) hRl⟩) hN hP hK ⟨Nat.zero_le _, Nat.zero_le _⟩ [0, 1, 2, 3, 4] rfl [0, 1, 2] rfl 0 4 rfl rfl rfl hl.1 rfl (Nat.le_of_ble_eq_true rfl) dX4_isRefusedByLaw_54 ?_
              refine lv_icmp_ne (tgt := 64) hx hb dX4_isRefusedByLaw_57 (by decide) (fun c20 => ?_) (fun c20 => ?_)
              · have hr := ite_n hr c20
                refine lv_iconst (v := (0 : Int32)) hx hb dX4_isRefusedByLaw_64 (by decide) ?_
                exact kK8 (0 : Int32) hr ls (lv_sub hl [0, 1, 2] rfl)
              · have hr := ite_p hr c20
                refine lv_iconst (v := (1 : Int32)) hx hb dX4_isRefusedByLaw_60 (by decide) ?_
                refine lv_goto (tgt := 65) hx hb dX4_isRefusedByLaw_61 (by decide) ?_
                exact kK8 (1 : Int32) hr ls (lv_sub hl [0, 1, 2] rfl)
    exact llp_X4_isRefusedByLaw_25 FU x3 hr ls (lv_sub hl [2, 1, 0] rfl)
  refine lv_if_ne (tgt := 16) hx hb dX4_isRefusedByLaw_4 (by decide) (fun c21 => ?_) (fun c21 => ?_)
  · have hr := ite_n hr c21
    refine lv_iconst (v := (0 : Int32)) hx hb dX4_isRefusedByLaw_16 (by decide) ?_
    exact kK2 (0 : Int32) hr ls (lv_sub hl [0] rfl)
  · have hr := ite_p hr c21
    refine lv_aload_n hx hb dX4_isRefusedByLaw_7 rfl (lv_at hl 0 rfl) ?_
    refine va_get (D := (dC, dI)) (ci := 4) (v := .int row_latest) (C := RX4) (T := TX4) (N := 9) hx hb hts huX4 hown hK hP 0 rfl rfl 5 (by decide) hf36 (fun _ h9 => h9) rfl dX4_isRefusedByLaw_8 ?_
    refine lv_iconst (v := (1 : Int32)) hx hb dX4_isRefusedByLaw_11 (by decide) ?_
    refine lv_isub hx hb dX4_isRefusedByLaw_12 ?_
    refine lv_goto (tgt := 17) hx hb dX4_isRefusedByLaw_13 (by decide) ?_
    exact kK2 (row_latest - (1 : Int32)) hr ls (lv_sub hl [0] rfl)

def f_X4_reasonAgainst (n_row : Nat) (row_law : Int32) (row_latest : Int32) (row_opener : Int32) (row_blackThen : Int64) (row_whiteThen : Int64) (g_width : Int32) (g_all : Int64) (g_notFirstColumn : Int64) (g_notLastColumn : Int64) (bl : Nat → Int64) (wh : Nat → Int64) (a0 : Int32) : Option (Int32 × Int64 × Int64) :=
  (f_X4_free n_row row_latest g_all bl wh).bind fun q1 =>
  (f_X2_holds q1 a0).bind fun q2 =>
  if q2 = 0 then (
    some ((1 : Int32), row_blackThen, row_whiteThen)
  )
  else (
    nm (jshl (1 : Int64) a0) fun x4 =>
    (f_X4_mover row_latest row_opener).bind fun q5 =>
    (f_X4_stonesOf n_row row_latest bl wh q5).bind fun q6 =>
    nm (q6 ||| x4) fun x7 =>
    (f_X6_other q5).bind fun q8 =>
    (f_X4_stonesOf n_row row_latest bl wh q8).bind fun q9 =>
    (f_X2_beside g_width g_all g_notFirstColumn g_notLastColumn (g_all &&& ((x7 ||| q9) ^^^ (-1 : Int64)))).bind fun q10 =>
    (f_X2_spread g_width g_all g_notFirstColumn g_notLastColumn q10 q9).bind fun q11 =>
    nm (g_all &&& ((x7 ||| q11) ^^^ (-1 : Int64))) fun x12 =>
    (f_X2_spread g_width g_all g_notFirstColumn g_notLastColumn x4 x7).bind fun q13 =>
    (f_X2_beside g_width g_all g_notFirstColumn g_notLastColumn q13).bind fun q14 =>
    if q14 &&& x12 = (0 : Int64) then (
      some ((2 : Int32), row_blackThen, row_whiteThen)
    )
    else (
      nm (fun (u16 : Int64) =>
      nm (fun (u18 : Int64) =>
      (f_X4_isRefusedByLaw n_row row_law row_latest row_opener u16 u18 bl wh).bind fun q20 =>
      if q20 = 0 then (
        some ((0 : Int32), u16, u18)
      )
      else (
        some ((3 : Int32), u16, u18)
      )
      ) fun K19 =>
      if q5 = (1 : Int32) then (
        K19 q11
      )
      else (
        K19 x7
      )
      ) fun K17 =>
      if q5 = (1 : Int32) then (
        K17 x7
      )
      else (
        K17 q11
      )
    )
  )

abbrev rm_X4_reasonAgainst : Room := { frames := 2, cells := 0, slots := 0, locals := 53 }
set_option maxHeartbeats 4000000 in
set_option maxRecDepth 100000 in
theorem c_X4_reasonAgainst (l : Launch) (dC : Nat → ClassId) (dI : Nat → Nat → Nat) (h_row h_g h_bl h_wh h_ac : Nat) (c_bl c_wh c_ac : ClassId) (n_row : Nat) (row_law row_latest row_opener : Int32) (row_blackThen row_whiteThen : Int64) (g_width g_height g_size : Int32) (g_all g_notFirstColumn g_notLastColumn : Int64) (bl wh : Nat → Int64) (ac : Nat → Int32) (sz : Nat) (a0 : Int32) (q : Int32 × Int64 × Int64) (hr : f_X4_reasonAgainst n_row row_law row_latest row_opener row_blackThen row_whiteThen g_width g_all g_notFirstColumn g_notLastColumn bl wh a0 = some q) : Met l yX4_reasonAgainst wsX4_reasonAgainst rm_X4_reasonAgainst (PrI (dC, dI) (wd_X4 h_row h_g h_bl h_wh h_ac c_bl c_wh c_ac n_row row_law row_latest row_opener row_blackThen row_whiteThen g_width g_height g_size g_all g_notFirstColumn g_notLastColumn bl wh ac) (td_X4 c_bl c_wh c_ac) sz [.ref h_row, .int a0]) (QIi (dC, dI) (wd_X4 h_row h_g h_bl h_wh h_ac c_bl c_wh c_ac n_row row_law row_latest row_opener row_blackThen row_whiteThen g_width g_height g_size g_all g_notFirstColumn g_notLastColumn bl wh ac) (td_X4 c_bl c_wh c_ac) sz q.1 (wd_X4 h_row h_g h_bl h_wh h_ac c_bl c_wh c_ac n_row row_law row_latest row_opener q.2.1 q.2.2 g_width g_height g_size g_all g_notFirstColumn g_notLastColumn bl wh ac)) 0 0 (va_A (wd_X4 h_row h_g h_bl h_wh h_ac c_bl c_wh c_ac n_row row_law row_latest row_opener row_blackThen row_whiteThen g_width g_height g_size g_all g_notFirstColumn g_notLastColumn bl wh ac) sz) := by
  refine mkI_i (cc := cX4_reasonAgainst) (nL := 11) (by decide) rfl (Nat.le_of_ble_eq_true rfl) ?_
  intro p e R s m args below meth c H0 H locs A Q ls hRf hRl S hN hP hK hD hA hS hl kret
  have hl : lv_has ls 11 [(0, .ref h_row), (1, .int a0)] := hl
  obtain ⟨hx, hb, hml, hown, hts⟩ := S
  have hown : s.vm.findClass RX4 = some m.cls := hown
  have S : CallFix p m c cX4_reasonAgainst 11 s args wsX4_reasonAgainst RX4 := ⟨hx, hb, hml, hown, hts⟩
  have hstX6_other := hts (.static yX6_other) (by decide +kernel)
  have hiniX6_other := hts (.initialized RX6) (by decide +kernel)
  have huX4 : ∀ w ∈ u_ws RX4 TX4 9, w ∈ wsX4_reasonAgainst := by decide +kernel
  have hf9 := hts (.fieldLink RX4 9 "EyeBoard$Row" "grid" "LEyeBoard$Grid;") (by decide +kernel)
  have huX2 : ∀ w ∈ u_ws RX2 TX2 6, w ∈ wsX4_reasonAgainst := by decide +kernel
  have hf54 := hts (.fieldLink RX4 54 "EyeBoard$Grid" "all" "J") (by decide +kernel)
  have hk60 := hts (.constantLong RX4 60 (-1 : Int64)) (by decide +kernel)
  have hf89 := hts (.fieldLink RX4 89 "EyeBoard$Row" "blackThen" "J") (by decide +kernel)
  have hf92 := hts (.fieldLink RX4 92 "EyeBoard$Row" "whiteThen" "J") (by decide +kernel)
  unfold f_X4_reasonAgainst at hr
  refine lv_aload_n hx hb dX4_reasonAgainst_0 rfl (lv_at hl 0 rfl) ?_
  obtain ⟨q1, hq1, hr⟩ := bd_use hr
  refine pcV_l (As := []) (rest := []) S (c_X4_free l dC dI h_row h_g h_bl h_wh h_ac c_bl c_wh c_ac n_row row_law row_latest row_opener row_blackThen row_whiteThen g_width g_height g_size g_all g_notFirstColumn g_notLastColumn bl wh ac q1 hq1) (cwV 0 hts gX4_reasonAgainst_X4_free rfl rfl rfl (by decide +kernel) ⟨Nat.le_trans (m := rm_X4_reasonAgainst.frames) (by decide) hRf, Nat.le_trans (m := rm_X4_reasonAgainst.locals) (by decide) hRl⟩) hN hP hK ⟨Nat.zero_le _, Nat.zero_le _⟩ [0, 1, 2, 3, 4] rfl [0, 1, 2] rfl 0 4 rfl rfl rfl hl.1 rfl (Nat.le_of_ble_eq_true rfl) dX4_reasonAgainst_1 ?_
  refine lv_iload_n hx hb dX4_reasonAgainst_4 rfl (lv_at hl 1 rfl) ?_
  obtain ⟨q2, hq2, hr⟩ := bd_use hr
  refine pcS_i (As := [.long q1, .int a0]) (rest := []) S (c_X2_holds l dC dI q1 a0 q2 hq2) (va_cwS 2 hts gX4_reasonAgainst_X2_holds rfl rfl rfl (by decide +kernel) ⟨Nat.le_trans (m := rm_X4_reasonAgainst.frames) (by decide) hRf, Nat.le_trans (m := rm_X4_reasonAgainst.locals) (by decide) hRl⟩) hN hP hK ⟨Nat.zero_le _, Nat.zero_le _⟩ rfl hl.1 rfl (Nat.le_of_ble_eq_true rfl) dX4_reasonAgainst_5 ?_
  refine lv_if_ne (tgt := 13) hx hb dX4_reasonAgainst_8 (by decide) (fun c3 => ?_) (fun c3 => ?_)
  · have hr := ite_n hr c3
    refine lv_lconst (v := (1 : Int64)) hx hb dX4_reasonAgainst_13 (by decide) ?_
    refine lv_iload_n hx hb dX4_reasonAgainst_14 rfl (lv_at hl 1 rfl) ?_
    refine lv_lshl (v := jshl (1 : Int64) a0) hx hb dX4_reasonAgainst_15 rfl ?_
    refine lv_topl (fun x4 ex4 => ?_)
    have hr := nm_use hr ex4
    refine lv_lstore_n (lv' := [(2, .long x4), (0, .ref h_row), (1, .int a0)]) hx hb dX4_reasonAgainst_16 rfl hl (by decide) rfl (fun ls hl => ?_)
    refine lv_aload_n hx hb dX4_reasonAgainst_17 rfl (lv_at hl 1 rfl) ?_
    obtain ⟨q5, hq5, hr⟩ := bd_use hr
    refine pcV_i (As := []) (rest := []) S (c_X4_mover l dC dI h_row h_g h_bl h_wh h_ac c_bl c_wh c_ac n_row row_law row_latest row_opener row_blackThen row_whiteThen g_width g_height g_size g_all g_notFirstColumn g_notLastColumn bl wh ac q5 hq5) (cwV 0 hts gX4_reasonAgainst_X4_mover rfl rfl rfl (by decide +kernel) ⟨Nat.le_trans (m := rm_X4_reasonAgainst.frames) (by decide) hRf, Nat.le_trans (m := rm_X4_reasonAgainst.locals) (by decide) hRl⟩) hN hP hK ⟨Nat.zero_le _, Nat.zero_le _⟩ [0, 1, 2, 3, 4] rfl [0, 1, 2] rfl 0 4 rfl rfl rfl hl.1 rfl (Nat.le_of_ble_eq_true rfl) dX4_reasonAgainst_18 ?_
    refine lv_istore (lv' := [(4, .int q5), (2, .long x4), (0, .ref h_row), (1, .int a0)]) hx hb dX4_reasonAgainst_21 hl (by decide) rfl (fun ls hl => ?_)
    refine lv_aload_n hx hb dX4_reasonAgainst_23 rfl (lv_at hl 2 rfl) ?_
    refine lv_iload hx hb dX4_reasonAgainst_24 (lv_at hl 0 rfl) ?_
    obtain ⟨q6, hq6, hr⟩ := bd_use hr
    refine pcV_l (As := [.int q5]) (rest := []) S (c_X4_stonesOf l dC dI h_row h_g h_bl h_wh h_ac c_bl c_wh c_ac n_row row_law row_latest row_opener row_blackThen row_whiteThen g_width g_height g_size g_all g_notFirstColumn g_notLastColumn bl wh ac q5 q6 hq6) (cwV 1 hts gX4_reasonAgainst_X4_stonesOf rfl rfl rfl (by decide +kernel) ⟨Nat.le_trans (m := rm_X4_reasonAgainst.frames) (by decide) hRf, Nat.le_trans (m := rm_X4_reasonAgainst.locals) (by decide) hRl⟩) hN hP hK ⟨Nat.zero_le _, Nat.zero_le _⟩ [0, 1, 2, 3, 4] rfl [0, 1, 2] rfl 0 4 rfl rfl rfl hl.1 rfl (Nat.le_of_ble_eq_true rfl) dX4_reasonAgainst_26 ?_
    refine lv_lload_n hx hb dX4_reasonAgainst_29 rfl (lv_at hl 1 rfl) ?_
    refine lv_lor hx hb dX4_reasonAgainst_30 ?_
    refine lv_topl (fun x7 ex7 => ?_)
    have hr := nm_use hr ex7
    refine lv_lstore (lv' := [(5, .long x7), (4, .int q5), (2, .long x4), (0, .ref h_row), (1, .int a0)]) hx hb dX4_reasonAgainst_31 hl (by decide) rfl (fun ls hl => ?_)
    refine lv_aload_n hx hb dX4_reasonAgainst_33 rfl (lv_at hl 3 rfl) ?_
    refine lv_iload hx hb dX4_reasonAgainst_34 (lv_at hl 1 rfl) ?_
    obtain ⟨q8, hq8, hr⟩ := bd_use hr
    refine pcN_i (As := [.int q5]) (rest := [.ref h_row]) S (c_X6_other l dC dI q5 q8 hq8) ⟨va_cnB 1 hts gX4_reasonAgainst_X6_other_n78 rfl rfl rfl hN.1 hiniX6_other (by decide +kernel) ⟨Nat.le_trans (m := rm_X4_reasonAgainst.frames) (by decide) hRf, Nat.le_trans (m := rm_X4_reasonAgainst.locals) (by decide) hRl⟩, hstX6_other, trivial⟩ hN hP hK ⟨Nat.zero_le _, Nat.zero_le _⟩ rfl hl.1 rfl (Nat.le_of_ble_eq_true rfl) dX4_reasonAgainst_36 ?_
    obtain ⟨q9, hq9, hr⟩ := bd_use hr
    refine pcV_l (As := [.int q8]) (rest := []) S (c_X4_stonesOf l dC dI h_row h_g h_bl h_wh h_ac c_bl c_wh c_ac n_row row_law row_latest row_opener row_blackThen row_whiteThen g_width g_height g_size g_all g_notFirstColumn g_notLastColumn bl wh ac q8 q9 hq9) (cwV 1 hts gX4_reasonAgainst_X4_stonesOf rfl rfl rfl (by decide +kernel) ⟨Nat.le_trans (m := rm_X4_reasonAgainst.frames) (by decide) hRf, Nat.le_trans (m := rm_X4_reasonAgainst.locals) (by decide) hRl⟩) hN hP hK ⟨Nat.zero_le _, Nat.zero_le _⟩ [0, 1, 2, 3, 4] rfl [0, 1, 2] rfl 0 4 rfl rfl rfl hl.1 rfl (Nat.le_of_ble_eq_true rfl) dX4_reasonAgainst_39 ?_
    refine lv_lstore (lv' := [(7, .long q9), (5, .long x7), (4, .int q5), (2, .long x4), (0, .ref h_row), (1, .int a0)]) hx hb dX4_reasonAgainst_42 hl (by decide) rfl (fun ls hl => ?_)
    refine lv_aload_n hx hb dX4_reasonAgainst_44 rfl (lv_at hl 4 rfl) ?_
    refine va_get (D := (dC, dI)) (ci := 4) (v := .ref h_g) (C := RX4) (T := TX4) (N := 9) hx hb hts huX4 hown hK hP 0 rfl rfl 0 (by decide) hf9 (fun _ h9 => h9) rfl dX4_reasonAgainst_45 ?_
    refine lv_aload_n hx hb dX4_reasonAgainst_48 rfl (lv_at hl 4 rfl) ?_
    refine va_get (D := (dC, dI)) (ci := 4) (v := .ref h_g) (C := RX4) (T := TX4) (N := 9) hx hb hts huX4 hown hK hP 0 rfl rfl 0 (by decide) hf9 (fun _ h9 => h9) rfl dX4_reasonAgainst_49 ?_
    refine lv_aload_n hx hb dX4_reasonAgainst_52 rfl (lv_at hl 4 rfl) ?_
    refine va_get (D := (dC, dI)) (ci := 4) (v := .ref h_g) (C := RX4) (T := TX4) (N := 9) hx hb hts huX4 hown hK hP 0 rfl rfl 0 (by decide) hf9 (fun _ h9 => h9) rfl dX4_reasonAgainst_53 ?_
    refine va_get (D := (dC, dI)) (ci := 2) (v := .long g_all) (C := RX2) (T := TX2) (N := 6) hx hb hts huX2 hown hK hP 1 rfl rfl 3 (by decide) hf54 (fun _ h9 => h9) rfl dX4_reasonAgainst_56 ?_
    refine lv_lload hx hb dX4_reasonAgainst_59 (lv_at hl 1 rfl) ?_
    refine lv_lload hx hb dX4_reasonAgainst_61 (lv_at hl 0 rfl) ?_
    refine lv_lor hx hb dX4_reasonAgainst_63 ?_
    refine W.ldc2 (v := (-1 : Int64)) hx hb hown hk60 rfl dX4_reasonAgainst_64 ?_
    refine W.eq (g2 := F0 m 67 ls [.long (-1 : Int64), .long (x7 ||| q9), .long g_all, .ref h_g, .ref h_g]) rfl ?_
    refine lv_lxor hx hb dX4_reasonAgainst_67 ?_
    refine lv_land hx hb dX4_reasonAgainst_68 ?_
    obtain ⟨q10, hq10, hr⟩ := bd_use hr
    refine pcV_l (As := [.long (g_all &&& ((x7 ||| q9) ^^^ (-1 : Int64)))]) (rest := [.ref h_g]) S (c_X2_beside l dC dI h_g g_width g_height g_size g_all g_notFirstColumn g_notLastColumn (g_all &&& ((x7 ||| q9) ^^^ (-1 : Int64))) q10 hq10) (cwV 1 hts gX4_reasonAgainst_X2_beside rfl rfl rfl (by decide +kernel) ⟨Nat.le_trans (m := rm_X4_reasonAgainst.frames) (by decide) hRf, Nat.le_trans (m := rm_X4_reasonAgainst.locals) (by decide) hRl⟩) hN hP hK ⟨Nat.zero_le _, Nat.zero_le _⟩ [1] rfl [] rfl 1 2 rfl rfl rfl hl.1 rfl (Nat.le_of_ble_eq_true rfl) dX4_reasonAgainst_69 ?_
    refine lv_lload hx hb dX4_reasonAgainst_72 (lv_at hl 0 rfl) ?_
    obtain ⟨q11, hq11, hr⟩ := bd_use hr
    refine pcV_l (As := [.long q10, .long q9]) (rest := []) S (c_X2_spread l dC dI h_g g_width g_height g_size g_all g_notFirstColumn g_notLastColumn q10 q9 q11 hq11) (cwV 2 hts gX4_reasonAgainst_X2_spread rfl rfl rfl (by decide +kernel) ⟨Nat.le_trans (m := rm_X4_reasonAgainst.frames) (by decide) hRf, Nat.le_trans (m := rm_X4_reasonAgainst.locals) (by decide) hRl⟩) hN hP hK ⟨Nat.zero_le _, Nat.zero_le _⟩ [1] rfl [] rfl 1 2 rfl rfl rfl hl.1 rfl (Nat.le_of_ble_eq_true rfl) dX4_reasonAgainst_74 ?_
    refine lv_lstore (lv' := [(7, .long q11), (5, .long x7), (4, .int q5), (2, .long x4), (0, .ref h_row), (1, .int a0)]) hx hb dX4_reasonAgainst_77 hl (by decide) rfl (fun ls hl => ?_)
    refine lv_aload_n hx hb dX4_reasonAgainst_79 rfl (lv_at hl 4 rfl) ?_
    refine va_get (D := (dC, dI)) (ci := 4) (v := .ref h_g) (C := RX4) (T := TX4) (N := 9) hx hb hts huX4 hown hK hP 0 rfl rfl 0 (by decide) hf9 (fun _ h9 => h9) rfl dX4_reasonAgainst_80 ?_
    refine va_get (D := (dC, dI)) (ci := 2) (v := .long g_all) (C := RX2) (T := TX2) (N := 6) hx hb hts huX2 hown hK hP 1 rfl rfl 3 (by decide) hf54 (fun _ h9 => h9) rfl dX4_reasonAgainst_83 ?_
    refine lv_lload hx hb dX4_reasonAgainst_86 (lv_at hl 1 rfl) ?_
    refine lv_lload hx hb dX4_reasonAgainst_88 (lv_at hl 0 rfl) ?_
    refine lv_lor hx hb dX4_reasonAgainst_90 ?_
    refine W.ldc2 (v := (-1 : Int64)) hx hb hown hk60 rfl dX4_reasonAgainst_91 ?_
    refine W.eq (g2 := F0 m 94 ls [.long (-1 : Int64), .long (x7 ||| q11), .long g_all]) rfl ?_
    refine lv_lxor hx hb dX4_reasonAgainst_94 ?_
    refine lv_land hx hb dX4_reasonAgainst_95 ?_
    refine lv_topl (fun x12 ex12 => ?_)
    have hr := nm_use hr ex12
    refine lv_lstore (lv' := [(9, .long x12), (7, .long q11), (5, .long x7), (4, .int q5), (2, .long x4), (0, .ref h_row), (1, .int a0)]) hx hb dX4_reasonAgainst_96 hl (by decide) rfl (fun ls hl => ?_)
    refine lv_aload_n hx hb dX4_reasonAgainst_98 rfl (lv_at hl 5 rfl) ?_
    refine va_get (D := (dC, dI)) (ci := 4) (v := .ref h_g) (C := RX4) (T := TX4) (N := 9) hx hb hts huX4 hown hK hP 0 rfl rfl 0 (by decide) hf9 (fun _ h9 => h9) rfl dX4_reasonAgainst_99 ?_
    refine lv_aload_n hx hb dX4_reasonAgainst_102 rfl (lv_at hl 5 rfl) ?_
    refine va_get (D := (dC, dI)) (ci := 4) (v := .ref h_g) (C := RX4) (T := TX4) (N := 9) hx hb hts huX4 hown hK hP 0 rfl rfl 0 (by decide) hf9 (fun _ h9 => h9) rfl dX4_reasonAgainst_103 ?_
    refine lv_lload_n hx hb dX4_reasonAgainst_106 rfl (lv_at hl 4 rfl) ?_
    refine lv_lload hx hb dX4_reasonAgainst_107 (lv_at hl 2 rfl) ?_
    obtain ⟨q13, hq13, hr⟩ := bd_use hr
    refine pcV_l (As := [.long x4, .long x7]) (rest := [.ref h_g]) S (c_X2_spread l dC dI h_g g_width g_height g_size g_all g_notFirstColumn g_notLastColumn x4 x7 q13 hq13) (cwV 2 hts gX4_reasonAgainst_X2_spread rfl rfl rfl (by decide +kernel) ⟨Nat.le_trans (m := rm_X4_reasonAgainst.frames) (by decide) hRf, Nat.le_trans (m := rm_X4_reasonAgainst.locals) (by decide) hRl⟩) hN hP hK ⟨Nat.zero_le _, Nat.zero_le _⟩ [1] rfl [] rfl 1 2 rfl rfl rfl hl.1 rfl (Nat.le_of_ble_eq_true rfl) dX4_reasonAgainst_109 ?_
    obtain ⟨q14, hq14, hr⟩ := bd_use hr
    refine pcV_l (As := [.long q13]) (rest := []) S (c_X2_beside l dC dI h_g g_width g_height g_size g_all g_notFirstColumn g_notLastColumn q13 q14 hq14) (cwV 1 hts gX4_reasonAgainst_X2_beside rfl rfl rfl (by decide +kernel) ⟨Nat.le_trans (m := rm_X4_reasonAgainst.frames) (by decide) hRf, Nat.le_trans (m := rm_X4_reasonAgainst.locals) (by decide) hRl⟩) hN hP hK ⟨Nat.zero_le _, Nat.zero_le _⟩ [1] rfl [] rfl 1 2 rfl rfl rfl hl.1 rfl (Nat.le_of_ble_eq_true rfl) dX4_reasonAgainst_112 ?_
    refine lv_lload hx hb dX4_reasonAgainst_115 (lv_at hl 0 rfl) ?_
    refine lv_land hx hb dX4_reasonAgainst_117 ?_
    refine lv_lconst (v := (0 : Int64)) hx hb dX4_reasonAgainst_118 (by decide) ?_
    refine W.lcmp hx hb dX4_reasonAgainst_119 ?_
    refine lv_if_ne (tgt := 125) hx hb dX4_reasonAgainst_120 (by decide) (fun c15 => ?_) (fun c15 => ?_)
    · have c15 := cmp_f c15
      have hr := ite_n hr c15
      refine lv_aload_n hx hb dX4_reasonAgainst_125 rfl (lv_at hl 5 rfl) ?_
      refine lv_iload hx hb dX4_reasonAgainst_126 (lv_at hl 3 rfl) ?_
      refine lv_iconst (v := (1 : Int32)) hx hb dX4_reasonAgainst_128 (by decide) ?_
      obtain ⟨K17, eK17, hr⟩ := nm_ex hr
      have kK17 : ∀ (u16 : Int64) (H : Heap) (locs : List Loc) , K17 u16 = some q → va_P (dC, dI) vwCl (wd_X4 h_row h_g h_bl h_wh h_ac c_bl c_wh c_ac n_row row_law row_latest row_opener row_blackThen row_whiteThen g_width g_height g_size g_all g_notFirstColumn g_notLastColumn bl wh ac) H → va_D A (wd_X4 h_row h_g h_bl h_wh h_ac c_bl c_wh c_ac n_row row_law row_latest row_opener row_blackThen row_whiteThen g_width g_height g_size g_all g_notFirstColumn g_notLastColumn bl wh ac) → va_S A H0 H locs → ∀ (ls : Array Slot), lv_has ls 11 [(0, .ref h_row), (4, .int q5), (5, .long x7), (7, .long q11)] → W p l e R s m args below meth c H locs 0 0 Q (F0 m 139 ls [.long u16, .ref h_row]) := by
        intro u16 H locs hr hP hD hS ls hl
        rw [eK17] at hr
        refine va_put (D := (dC, dI)) (ci := 4) (v := .long u16) (ty := .long) (C := RX4) (T := TX4) (N := 9) hx hb hts huX4 tyX4 tyX4_ok nmX4 hown hK hP hD hS 0 rfl rfl 7 (by decide) hf89 (fun _ h9 => h9) rfl (by decide +kernel) rfl rfl (Nat.le_of_ble_eq_true rfl) dX4_reasonAgainst_139 (fun H locs hP hD hS => ?_)
        have hP : va_P (dC, dI) vwCl (wd_X4 h_row h_g h_bl h_wh h_ac c_bl c_wh c_ac n_row row_law row_latest row_opener u16 row_whiteThen g_width g_height g_size g_all g_notFirstColumn g_notLastColumn bl wh ac) H := hP
        have hD : va_D A (wd_X4 h_row h_g h_bl h_wh h_ac c_bl c_wh c_ac n_row row_law row_latest row_opener u16 row_whiteThen g_width g_height g_size g_all g_notFirstColumn g_notLastColumn bl wh ac) := hD
        refine lv_aload_n hx hb dX4_reasonAgainst_142 rfl (lv_at hl 0 rfl) ?_
        refine lv_iload hx hb dX4_reasonAgainst_143 (lv_at hl 1 rfl) ?_
        refine lv_iconst (v := (1 : Int32)) hx hb dX4_reasonAgainst_145 (by decide) ?_
        obtain ⟨K19, eK19, hr⟩ := nm_ex hr
        have kK19 : ∀ (u18 : Int64) (H : Heap) (locs : List Loc) , K19 u18 = some q → va_P (dC, dI) vwCl (wd_X4 h_row h_g h_bl h_wh h_ac c_bl c_wh c_ac n_row row_law row_latest row_opener u16 row_whiteThen g_width g_height g_size g_all g_notFirstColumn g_notLastColumn bl wh ac) H → va_D A (wd_X4 h_row h_g h_bl h_wh h_ac c_bl c_wh c_ac n_row row_law row_latest row_opener u16 row_whiteThen g_width g_height g_size g_all g_notFirstColumn g_notLastColumn bl wh ac) → va_S A H0 H locs → ∀ (ls : Array Slot), lv_has ls 11 [(0, .ref h_row)] → W p l e R s m args below meth c H locs 0 0 Q (F0 m 156 ls [.long u18, .ref h_row]) := by
          intro u18 H locs hr hP hD hS ls hl
          rw [eK19] at hr
          refine va_put (D := (dC, dI)) (ci := 4) (v := .long u18) (ty := .long) (C := RX4) (T := TX4) (N := 9) hx hb hts huX4 tyX4 tyX4_ok nmX4 hown hK hP hD hS 0 rfl rfl 8 (by decide) hf92 (fun _ h9 => h9) rfl (by decide +kernel) rfl rfl (Nat.le_of_ble_eq_true rfl) dX4_reasonAgainst_156 (fun H locs hP hD hS => ?_)
          have hP : va_P (dC, dI) vwCl (wd_X4 h_row h_g h_bl h_wh h_ac c_bl c_wh c_ac n_row row_law row_latest row_opener u16 u18 g_width g_height g_size g_all g_notFirstColumn g_notLastColumn bl wh ac) H := hP
          have hD : va_D A (wd_X4 h_row h_g h_bl h_wh h_ac c_bl c_wh c_ac n_row row_law row_latest row_opener u16 u18 g_width g_height g_size g_all g_notFirstColumn g_notLastColumn bl wh ac) := hD
          refine lv_aload_n hx hb dX4_reasonAgainst_159 rfl (lv_at hl 0 rfl) ?_
          obtain ⟨q20, hq20, hr⟩ := bd_use hr
          refine pcV_i (As := []) (rest := []) S (c_X4_isRefusedByLaw l dC dI h_row h_g h_bl h_wh h_ac c_bl c_wh c_ac n_row row_law row_latest row_opener u16 u18 g_width g_height g_size g_all g_notFirstColumn g_notLastColumn bl wh ac q20 hq20) (cwV 0 hts gX4_reasonAgainst_X4_isRefusedByLaw rfl rfl rfl (by decide +kernel) ⟨Nat.le_trans (m := rm_X4_reasonAgainst.frames) (by decide) hRf, Nat.le_trans (m := rm_X4_reasonAgainst.locals) (by decide) hRl⟩) hN hP hK ⟨Nat.zero_le _, Nat.zero_le _⟩ [0, 1, 2, 3, 4] rfl [0, 1, 2] rfl 0 4 rfl rfl rfl hl.1 rfl (Nat.le_of_ble_eq_true rfl) dX4_reasonAgainst_160 ?_
          refine lv_if_eq (tgt := 170) hx hb dX4_reasonAgainst_163 (by decide) (fun c21 => ?_) (fun c21 => ?_)
          · have hr := ite_p hr c21
            refine lv_iconst (v := (0 : Int32)) hx hb dX4_reasonAgainst_170 (by decide) ?_
            obtain rfl := Option.some.inj hr
            exact kret _ _ _ _ dX4_reasonAgainst_171 hP hD hS
          · have hr := ite_n hr c21
            refine lv_iconst (v := (3 : Int32)) hx hb dX4_reasonAgainst_166 (by decide) ?_
            refine lv_goto (tgt := 171) hx hb dX4_reasonAgainst_167 (by decide) ?_
            obtain rfl := Option.some.inj hr
            exact kret _ _ _ _ dX4_reasonAgainst_171 hP hD hS
        refine lv_icmp_ne (tgt := 154) hx hb dX4_reasonAgainst_146 (by decide) (fun c22 => ?_) (fun c22 => ?_)
        · have hr := ite_n hr c22
          refine lv_lload hx hb dX4_reasonAgainst_154 (lv_at hl 2 rfl) ?_
          exact kK19 x7 _ _ hr hP hD hS ls (lv_sub hl [0] rfl)
        · have hr := ite_p hr c22
          refine lv_lload hx hb dX4_reasonAgainst_149 (lv_at hl 3 rfl) ?_
          refine lv_goto (tgt := 156) hx hb dX4_reasonAgainst_151 (by decide) ?_
          exact kK19 q11 _ _ hr hP hD hS ls (lv_sub hl [0] rfl)
      refine lv_icmp_ne (tgt := 137) hx hb dX4_reasonAgainst_129 (by decide) (fun c23 => ?_) (fun c23 => ?_)
      · have hr := ite_n hr c23
        refine lv_lload hx hb dX4_reasonAgainst_137 (lv_at hl 1 rfl) ?_
        exact kK17 q11 _ _ hr hP hD hS ls (lv_sub hl [5, 3, 2, 1] rfl)
      · have hr := ite_p hr c23
        refine lv_lload hx hb dX4_reasonAgainst_132 (lv_at hl 2 rfl) ?_
        refine lv_goto (tgt := 139) hx hb dX4_reasonAgainst_134 (by decide) ?_
        exact kK17 x7 _ _ hr hP hD hS ls (lv_sub hl [5, 3, 2, 1] rfl)
    · have c15 := cmp_t c15
      have hr := ite_p hr c15
      refine lv_iconst (v := (2 : Int32)) hx hb dX4_reasonAgainst_123 (by decide) ?_
      obtain rfl := Option.some.inj hr
      exact kret _ _ _ _ dX4_reasonAgainst_124 hP hD hS
  · have hr := ite_p hr c3
    refine lv_iconst (v := (1 : Int32)) hx hb dX4_reasonAgainst_11 (by decide) ?_
    obtain rfl := Option.some.inj hr
    exact kret _ _ _ _ dX4_reasonAgainst_12 hP hD hS

def f_X4_add (n_row : Nat) (row_law : Int32) (row_latest : Int32) (row_opener : Int32) (row_blackThen : Int64) (row_whiteThen : Int64) (g_width : Int32) (g_size : Int32) (g_all : Int64) (g_notFirstColumn : Int64) (g_notLastColumn : Int64) (bl : Nat → Int64) (wh : Nat → Int64) (ac : Nat → Int32) (a0 : Int32) : Option (Int32 × Int32 × Int64 × Int64 × (Nat → Int64) × (Nat → Int64) × (Nat → Int32)) :=
  if nI n_row ≤ row_latest + (1 : Int32) then (
    some ((0 : Int32), row_latest, row_blackThen, row_whiteThen, bl, wh, ac)
  )
  else (
    if row_latest < 0 then (
      some ((0 : Int32), row_latest, row_blackThen, row_whiteThen, bl, wh, ac)
    )
    else (
      if row_latest < nI n_row then (
        nm (fun (w4 : Int64) (w5 : Int64) (w6 : Nat → Int64) (w7 : Nat → Int64) =>
        if (row_latest < 0 ∨ n_row ≤ row_latest.toNatClampNeg) then none else
        nm (row_latest + (1 : Int32)) fun x10 =>
        some ((1 : Int32), x10, w4, w5, w6, w7, upd ac row_latest.toNatClampNeg a0)
        ) fun K8 =>
        if a0 = g_size then (
          (f_X4_stonesOf n_row row_latest bl wh (1 : Int32)).bind fun q17 =>
          (f_X4_stonesOf n_row row_latest bl wh (2 : Int32)).bind fun q18 =>
          (f_X4_keep n_row bl wh (row_latest + (1 : Int32)) q17 q18).bind fun q19 =>
          K8 row_blackThen row_whiteThen q19.1 q19.2
        )
        else (
          (f_X2_has g_size a0).bind fun q12 =>
          if q12 = 0 then (
            some ((0 : Int32), row_latest, row_blackThen, row_whiteThen, bl, wh, ac)
          )
          else (
            (f_X4_reasonAgainst n_row row_law row_latest row_opener row_blackThen row_whiteThen g_width g_all g_notFirstColumn g_notLastColumn bl wh a0).bind fun q14 =>
            if q14.1 = 0 then (
              (f_X4_keep n_row bl wh (row_latest + (1 : Int32)) q14.2.1 q14.2.2).bind fun q16 =>
              K8 q14.2.1 q14.2.2 q16.1 q16.2
            )
            else (
              some ((0 : Int32), row_latest, q14.2.1, q14.2.2, bl, wh, ac)
            )
          )
        )
      )
      else (
        some ((0 : Int32), row_latest, row_blackThen, row_whiteThen, bl, wh, ac)
      )
    )
  )

abbrev rm_X4_add : Room := { frames := 3, cells := 0, slots := 0, locals := 83 }
set_option maxHeartbeats 4000000 in
set_option maxRecDepth 100000 in
theorem c_X4_add (l : Launch) (dC : Nat → ClassId) (dI : Nat → Nat → Nat) (h_row h_g h_bl h_wh h_ac : Nat) (c_bl c_wh c_ac : ClassId) (n_row : Nat) (row_law row_latest row_opener : Int32) (row_blackThen row_whiteThen : Int64) (g_width g_height g_size : Int32) (g_all g_notFirstColumn g_notLastColumn : Int64) (bl wh : Nat → Int64) (ac : Nat → Int32) (sz : Nat) (a0 : Int32) (q : Int32 × Int32 × Int64 × Int64 × (Nat → Int64) × (Nat → Int64) × (Nat → Int32)) (hr : f_X4_add n_row row_law row_latest row_opener row_blackThen row_whiteThen g_width g_size g_all g_notFirstColumn g_notLastColumn bl wh ac a0 = some q) : Met l yX4_add wsX4_add rm_X4_add (PrI (dC, dI) (wd_X4 h_row h_g h_bl h_wh h_ac c_bl c_wh c_ac n_row row_law row_latest row_opener row_blackThen row_whiteThen g_width g_height g_size g_all g_notFirstColumn g_notLastColumn bl wh ac) (td_X4 c_bl c_wh c_ac) sz [.ref h_row, .int a0]) (QIi (dC, dI) (wd_X4 h_row h_g h_bl h_wh h_ac c_bl c_wh c_ac n_row row_law row_latest row_opener row_blackThen row_whiteThen g_width g_height g_size g_all g_notFirstColumn g_notLastColumn bl wh ac) (td_X4 c_bl c_wh c_ac) sz q.1 (wd_X4 h_row h_g h_bl h_wh h_ac c_bl c_wh c_ac n_row row_law q.2.1 row_opener q.2.2.1 q.2.2.2.1 g_width g_height g_size g_all g_notFirstColumn g_notLastColumn q.2.2.2.2.1 q.2.2.2.2.2.1 q.2.2.2.2.2.2)) 0 0 (va_A (wd_X4 h_row h_g h_bl h_wh h_ac c_bl c_wh c_ac n_row row_law row_latest row_opener row_blackThen row_whiteThen g_width g_height g_size g_all g_notFirstColumn g_notLastColumn bl wh ac) sz) := by
  refine mkI_z (cc := cX4_add) (nL := 2) (by decide) rfl (Nat.le_of_ble_eq_true rfl) ?_
  intro p e R s m args below meth c H0 H locs A Q ls hRf hRl S hN hP hK hD hA hS hl kret
  have hl : lv_has ls 2 [(0, .ref h_row), (1, .int a0)] := hl
  obtain ⟨hx, hb, hml, hown, hts⟩ := S
  have hown : s.vm.findClass RX4 = some m.cls := hown
  have S : CallFix p m c cX4_add 2 s args wsX4_add RX4 := ⟨hx, hb, hml, hown, hts⟩
  have huX4 : ∀ w ∈ u_ws RX4 TX4 9, w ∈ wsX4_add := by decide +kernel
  have hf36 := hts (.fieldLink RX4 36 "EyeBoard$Row" "latest" "I") (by decide +kernel)
  have hf21 := hts (.fieldLink RX4 21 "EyeBoard$Row" "black" "[J") (by decide +kernel)
  have hf28 := hts (.fieldLink RX4 28 "EyeBoard$Row" "acts" "[I") (by decide +kernel)
  have hf9 := hts (.fieldLink RX4 9 "EyeBoard$Row" "grid" "LEyeBoard$Grid;") (by decide +kernel)
  have huX2 : ∀ w ∈ u_ws RX2 TX2 6, w ∈ wsX4_add := by decide +kernel
  have hf99 := hts (.fieldLink RX4 99 "EyeBoard$Grid" "size" "I") (by decide +kernel)
  have hf89 := hts (.fieldLink RX4 89 "EyeBoard$Row" "blackThen" "J") (by decide +kernel)
  have hf92 := hts (.fieldLink RX4 92 "EyeBoard$Row" "whiteThen" "J") (by decide +kernel)
  unfold f_X4_add at hr
  refine lv_aload_n hx hb dX4_add_0 rfl (lv_at hl 0 rfl) ?_
  refine va_get (D := (dC, dI)) (ci := 4) (v := .int row_latest) (C := RX4) (T := TX4) (N := 9) hx hb hts huX4 hown hK hP 0 rfl rfl 5 (by decide) hf36 (fun _ h9 => h9) rfl dX4_add_1 ?_
  refine lv_iconst (v := (1 : Int32)) hx hb dX4_add_4 (by decide) ?_
  refine lv_iadd hx hb dX4_add_5 ?_
  refine lv_aload_n hx hb dX4_add_6 rfl (lv_at hl 0 rfl) ?_
  refine va_get (D := (dC, dI)) (ci := 4) (v := .ref h_bl) (C := RX4) (T := TX4) (N := 9) hx hb hts huX4 hown hK hP 0 rfl rfl 1 (by decide) hf21 (fun _ h9 => h9) rfl dX4_add_7 ?_
  refine va_alen (v := nI n_row) hx hb hK hP 2 0 rfl rfl rfl dX4_add_10 ?_
  refine lv_icmp_ge (tgt := 33) hx hb dX4_add_11 (by decide) (fun c1 => ?_) (fun c1 => ?_)
  · have hr := ite_p hr c1
    refine lv_iconst (v := (0 : Int32)) hx hb dX4_add_33 (by decide) ?_
    obtain rfl := Option.some.inj hr
    exact kret _ _ _ _ dX4_add_34 hP hD hS nar_0
  · have hr := ite_n hr c1
    refine lv_aload_n hx hb dX4_add_14 rfl (lv_at hl 0 rfl) ?_
    refine va_get (D := (dC, dI)) (ci := 4) (v := .int row_latest) (C := RX4) (T := TX4) (N := 9) hx hb hts huX4 hown hK hP 0 rfl rfl 5 (by decide) hf36 (fun _ h9 => h9) rfl dX4_add_15 ?_
    refine lv_if_lt (tgt := 33) hx hb dX4_add_18 (by decide) (fun c2 => ?_) (fun c2 => ?_)
    · have hr := ite_p hr c2
      refine lv_iconst (v := (0 : Int32)) hx hb dX4_add_33 (by decide) ?_
      obtain rfl := Option.some.inj hr
      exact kret _ _ _ _ dX4_add_34 hP hD hS nar_0
    · have hr := ite_n hr c2
      refine lv_aload_n hx hb dX4_add_21 rfl (lv_at hl 0 rfl) ?_
      refine va_get (D := (dC, dI)) (ci := 4) (v := .int row_latest) (C := RX4) (T := TX4) (N := 9) hx hb hts huX4 hown hK hP 0 rfl rfl 5 (by decide) hf36 (fun _ h9 => h9) rfl dX4_add_22 ?_
      refine lv_aload_n hx hb dX4_add_25 rfl (lv_at hl 0 rfl) ?_
      refine va_get (D := (dC, dI)) (ci := 4) (v := .ref h_ac) (C := RX4) (T := TX4) (N := 9) hx hb hts huX4 hown hK hP 0 rfl rfl 3 (by decide) hf28 (fun _ h9 => h9) rfl dX4_add_26 ?_
      refine va_alen (v := nI n_row) hx hb hK hP 4 2 rfl rfl rfl dX4_add_29 ?_
      refine lv_icmp_lt (tgt := 35) hx hb dX4_add_30 (by decide) (fun c3 => ?_) (fun c3 => ?_)
      · have hr := ite_p hr c3
        refine lv_iload_n hx hb dX4_add_35 rfl (lv_at hl 1 rfl) ?_
        refine lv_aload_n hx hb dX4_add_36 rfl (lv_at hl 0 rfl) ?_
        refine va_get (D := (dC, dI)) (ci := 4) (v := .ref h_g) (C := RX4) (T := TX4) (N := 9) hx hb hts huX4 hown hK hP 0 rfl rfl 0 (by decide) hf9 (fun _ h9 => h9) rfl dX4_add_37 ?_
        refine va_get (D := (dC, dI)) (ci := 2) (v := .int g_size) (C := RX2) (T := TX2) (N := 6) hx hb hts huX2 hown hK hP 1 rfl rfl 2 (by decide) hf99 (fun _ h9 => h9) rfl dX4_add_40 ?_
        obtain ⟨K8, eK8, hr⟩ := nm_ex hr
        have kK8 : ∀ (w4 : Int64) (w5 : Int64) (w6 : Nat → Int64) (w7 : Nat → Int64) (H : Heap) (locs : List Loc) , K8 w4 w5 w6 w7 = some q → va_P (dC, dI) vwCl (wd_X4 h_row h_g h_bl h_wh h_ac c_bl c_wh c_ac n_row row_law row_latest row_opener w4 w5 g_width g_height g_size g_all g_notFirstColumn g_notLastColumn w6 w7 ac) H → va_D A (wd_X4 h_row h_g h_bl h_wh h_ac c_bl c_wh c_ac n_row row_law row_latest row_opener w4 w5 g_width g_height g_size g_all g_notFirstColumn g_notLastColumn w6 w7 ac) → va_S A H0 H locs → ∀ (ls : Array Slot), lv_has ls 2 [(0, .ref h_row), (1, .int a0)] → W p l e R s m args below meth c H locs 0 0 Q (F0 m 111 ls []) := by
          intro w4 w5 w6 w7 H locs hr hP hD hS ls hl
          rw [eK8] at hr
          refine lv_aload_n hx hb dX4_add_111 rfl (lv_at hl 0 rfl) ?_
          refine va_get (D := (dC, dI)) (ci := 4) (v := .ref h_ac) (C := RX4) (T := TX4) (N := 9) hx hb hts huX4 hown hK hP 0 rfl rfl 3 (by decide) hf28 (fun _ h9 => h9) rfl dX4_add_112 ?_
          refine lv_aload_n hx hb dX4_add_115 rfl (lv_at hl 0 rfl) ?_
          refine va_get (D := (dC, dI)) (ci := 4) (v := .int row_latest) (C := RX4) (T := TX4) (N := 9) hx hb hts huX4 hown hK hP 0 rfl rfl 5 (by decide) hf36 (fun _ h9 => h9) rfl dX4_add_116 ?_
          refine lv_iload_n hx hb dX4_add_119 rfl (lv_at hl 1 rfl) ?_
          obtain ⟨hi9, hr⟩ := ite_g hr
          refine va_iast hx hb hK hP hD hS 4 2 rfl rfl hi9 dX4_add_120 (fun H locs hP hD hS => ?_)
          have hP : va_P (dC, dI) vwCl (wd_X4 h_row h_g h_bl h_wh h_ac c_bl c_wh c_ac n_row row_law row_latest row_opener w4 w5 g_width g_height g_size g_all g_notFirstColumn g_notLastColumn w6 w7 (upd ac row_latest.toNatClampNeg a0)) H := hP
          have hD : va_D A (wd_X4 h_row h_g h_bl h_wh h_ac c_bl c_wh c_ac n_row row_law row_latest row_opener w4 w5 g_width g_height g_size g_all g_notFirstColumn g_notLastColumn w6 w7 (upd ac row_latest.toNatClampNeg a0)) := hD
          refine lv_aload_n hx hb dX4_add_121 rfl (lv_at hl 0 rfl) ?_
          refine lv_dup hx hb dX4_add_122 rfl ?_
          refine va_get (D := (dC, dI)) (ci := 4) (v := .int row_latest) (C := RX4) (T := TX4) (N := 9) hx hb hts huX4 hown hK hP 0 rfl rfl 5 (by decide) hf36 (fun _ h9 => h9) rfl dX4_add_123 ?_
          refine lv_iconst (v := (1 : Int32)) hx hb dX4_add_126 (by decide) ?_
          refine lv_iadd hx hb dX4_add_127 ?_
          refine lv_topi (fun x10 ex10 => ?_)
          have hr := nm_use hr ex10
          refine va_put (D := (dC, dI)) (ci := 4) (v := .int x10) (ty := .int) (C := RX4) (T := TX4) (N := 9) hx hb hts huX4 tyX4 tyX4_ok nmX4 hown hK hP hD hS 0 rfl rfl 5 (by decide) hf36 (fun _ h9 => h9) rfl (by decide +kernel) rfl rfl (Nat.le_of_ble_eq_true rfl) dX4_add_128 (fun H locs hP hD hS => ?_)
          have hP : va_P (dC, dI) vwCl (wd_X4 h_row h_g h_bl h_wh h_ac c_bl c_wh c_ac n_row row_law x10 row_opener w4 w5 g_width g_height g_size g_all g_notFirstColumn g_notLastColumn w6 w7 (upd ac row_latest.toNatClampNeg a0)) H := hP
          have hD : va_D A (wd_X4 h_row h_g h_bl h_wh h_ac c_bl c_wh c_ac n_row row_law x10 row_opener w4 w5 g_width g_height g_size g_all g_notFirstColumn g_notLastColumn w6 w7 (upd ac row_latest.toNatClampNeg a0)) := hD
          refine lv_iconst (v := (1 : Int32)) hx hb dX4_add_131 (by decide) ?_
          obtain rfl := Option.some.inj hr
          exact kret _ _ _ _ dX4_add_132 hP hD hS nar_1
        refine lv_icmp_ne (tgt := 69) hx hb dX4_add_43 (by decide) (fun c11 => ?_) (fun c11 => ?_)
        · have hr := ite_n hr c11
          refine lv_aload_n hx hb dX4_add_69 rfl (lv_at hl 0 rfl) ?_
          refine va_get (D := (dC, dI)) (ci := 4) (v := .ref h_g) (C := RX4) (T := TX4) (N := 9) hx hb hts huX4 hown hK hP 0 rfl rfl 0 (by decide) hf9 (fun _ h9 => h9) rfl dX4_add_70 ?_
          refine lv_iload_n hx hb dX4_add_73 rfl (lv_at hl 1 rfl) ?_
          obtain ⟨q12, hq12, hr⟩ := bd_use hr
          refine pcV_i (As := [.int a0]) (rest := []) S (c_X2_has l dC dI h_g g_width g_height g_size g_all g_notFirstColumn g_notLastColumn a0 q12 hq12) (cwV 1 hts gX4_add_X2_has rfl rfl rfl (by decide +kernel) ⟨Nat.le_trans (m := rm_X4_add.frames) (by decide) hRf, Nat.le_trans (m := rm_X4_add.locals) (by decide) hRl⟩) hN hP hK ⟨Nat.zero_le _, Nat.zero_le _⟩ [1] rfl [] rfl 1 2 rfl rfl rfl hl.1 rfl (Nat.le_of_ble_eq_true rfl) dX4_add_74 ?_
          refine lv_if_eq (tgt := 109) hx hb dX4_add_77 (by decide) (fun c13 => ?_) (fun c13 => ?_)
          · have hr := ite_p hr c13
            refine lv_iconst (v := (0 : Int32)) hx hb dX4_add_109 (by decide) ?_
            obtain rfl := Option.some.inj hr
            exact kret _ _ _ _ dX4_add_110 hP hD hS nar_0
          · have hr := ite_n hr c13
            refine lv_aload_n hx hb dX4_add_80 rfl (lv_at hl 0 rfl) ?_
            refine lv_iload_n hx hb dX4_add_81 rfl (lv_at hl 1 rfl) ?_
            obtain ⟨q14, hq14, hr⟩ := bd_use hr
            refine icV_i (As := [.int a0]) (rest := []) (ws2 := (wd_X4 h_row h_g h_bl h_wh h_ac c_bl c_wh c_ac n_row row_law row_latest row_opener q14.2.1 q14.2.2 g_width g_height g_size g_all g_notFirstColumn g_notLastColumn bl wh ac)) S (c_X4_reasonAgainst l dC dI h_row h_g h_bl h_wh h_ac c_bl c_wh c_ac n_row row_law row_latest row_opener row_blackThen row_whiteThen g_width g_height g_size g_all g_notFirstColumn g_notLastColumn bl wh ac H.size a0 q14 hq14) (cwV 1 hts gX4_add_X4_reasonAgainst rfl rfl rfl (by decide +kernel) ⟨Nat.le_trans (m := rm_X4_add.frames) (by decide) hRf, Nat.le_trans (m := rm_X4_add.locals) (by decide) hRl⟩) hN hP hK hD hS hA ⟨Nat.zero_le _, Nat.zero_le _⟩ [0, 1, 2, 3, 4] [] [0, 1, 2, 3, 4] rfl rfl rfl rfl rfl (by decide) rfl rfl rfl [0, 1, 2] rfl 0 4 rfl rfl rfl hl.1 rfl (Nat.le_of_ble_eq_true rfl) dX4_add_82 (fun H locs hP hD hS => ?_)
            refine lv_if_ne (tgt := 109) hx hb dX4_add_85 (by decide) (fun c15 => ?_) (fun c15 => ?_)
            · have hr := ite_n hr c15
              refine lv_iconst (v := (0 : Int32)) hx hb dX4_add_109 (by decide) ?_
              obtain rfl := Option.some.inj hr
              exact kret _ _ _ _ dX4_add_110 hP hD hS nar_0
            · have hr := ite_p hr c15
              refine lv_aload_n hx hb dX4_add_88 rfl (lv_at hl 0 rfl) ?_
              refine lv_aload_n hx hb dX4_add_89 rfl (lv_at hl 0 rfl) ?_
              refine va_get (D := (dC, dI)) (ci := 4) (v := .int row_latest) (C := RX4) (T := TX4) (N := 9) hx hb hts huX4 hown hK hP 0 rfl rfl 5 (by decide) hf36 (fun _ h9 => h9) rfl dX4_add_90 ?_
              refine lv_iconst (v := (1 : Int32)) hx hb dX4_add_93 (by decide) ?_
              refine lv_iadd hx hb dX4_add_94 ?_
              refine lv_aload_n hx hb dX4_add_95 rfl (lv_at hl 0 rfl) ?_
              refine va_get (D := (dC, dI)) (ci := 4) (v := .long q14.2.1) (C := RX4) (T := TX4) (N := 9) hx hb hts huX4 hown hK hP 0 rfl rfl 7 (by decide) hf89 (fun _ h9 => h9) rfl dX4_add_96 ?_
              refine lv_aload_n hx hb dX4_add_99 rfl (lv_at hl 0 rfl) ?_
              refine va_get (D := (dC, dI)) (ci := 4) (v := .long q14.2.2) (C := RX4) (T := TX4) (N := 9) hx hb hts huX4 hown hK hP 0 rfl rfl 8 (by decide) hf92 (fun _ h9 => h9) rfl dX4_add_100 ?_
              obtain ⟨q16, hq16, hr⟩ := bd_use hr
              refine icV_v (As := [.int (row_latest + (1 : Int32)), .long q14.2.1, .long q14.2.2]) (rest := []) (ws2 := (wd_X4 h_row h_g h_bl h_wh h_ac c_bl c_wh c_ac n_row row_law row_latest row_opener q14.2.1 q14.2.2 g_width g_height g_size g_all g_notFirstColumn g_notLastColumn q16.1 q16.2 ac)) S (c_X4_keep l dC dI h_row h_g h_bl h_wh h_ac c_bl c_wh c_ac n_row row_law row_latest row_opener q14.2.1 q14.2.2 g_width g_height g_size g_all g_notFirstColumn g_notLastColumn bl wh ac H.size (row_latest + (1 : Int32)) q14.2.1 q14.2.2 q16 hq16) (cwV 3 hts gX4_add_X4_keep rfl rfl rfl (by decide +kernel) ⟨Nat.le_trans (m := rm_X4_add.frames) (by decide) hRf, Nat.le_trans (m := rm_X4_add.locals) (by decide) hRl⟩) hN hP hK hD hS hA ⟨Nat.zero_le _, Nat.zero_le _⟩ [0, 1, 2, 3, 4] [] [0, 1, 2, 3, 4] rfl rfl rfl rfl rfl (by decide) rfl rfl rfl [0, 1, 2] rfl 0 4 rfl rfl rfl hl.1 rfl (Nat.le_of_ble_eq_true rfl) dX4_add_103 (fun H locs hP hD hS => ?_)
              refine lv_goto (tgt := 111) hx hb dX4_add_106 (by decide) ?_
              exact kK8 q14.2.1 q14.2.2 q16.1 q16.2 _ _ hr hP hD hS ls (lv_sub hl [0, 1] rfl)
        · have hr := ite_p hr c11
          refine lv_aload_n hx hb dX4_add_46 rfl (lv_at hl 0 rfl) ?_
          refine lv_aload_n hx hb dX4_add_47 rfl (lv_at hl 0 rfl) ?_
          refine va_get (D := (dC, dI)) (ci := 4) (v := .int row_latest) (C := RX4) (T := TX4) (N := 9) hx hb hts huX4 hown hK hP 0 rfl rfl 5 (by decide) hf36 (fun _ h9 => h9) rfl dX4_add_48 ?_
          refine lv_iconst (v := (1 : Int32)) hx hb dX4_add_51 (by decide) ?_
          refine lv_iadd hx hb dX4_add_52 ?_
          refine lv_aload_n hx hb dX4_add_53 rfl (lv_at hl 0 rfl) ?_
          refine lv_iconst (v := (1 : Int32)) hx hb dX4_add_54 (by decide) ?_
          obtain ⟨q17, hq17, hr⟩ := bd_use hr
          refine pcV_l (As := [.int (1 : Int32)]) (rest := [.int (row_latest + (1 : Int32)), .ref h_row]) S (c_X4_stonesOf l dC dI h_row h_g h_bl h_wh h_ac c_bl c_wh c_ac n_row row_law row_latest row_opener row_blackThen row_whiteThen g_width g_height g_size g_all g_notFirstColumn g_notLastColumn bl wh ac (1 : Int32) q17 hq17) (cwV 1 hts gX4_add_X4_stonesOf rfl rfl rfl (by decide +kernel) ⟨Nat.le_trans (m := rm_X4_add.frames) (by decide) hRf, Nat.le_trans (m := rm_X4_add.locals) (by decide) hRl⟩) hN hP hK ⟨Nat.zero_le _, Nat.zero_le _⟩ [0, 1, 2, 3, 4] rfl [0, 1, 2] rfl 0 4 rfl rfl rfl hl.1 rfl (Nat.le_of_ble_eq_true rfl) dX4_add_55 ?_
          refine lv_aload_n hx hb dX4_add_58 rfl (lv_at hl 0 rfl) ?_
          refine lv_iconst (v := (2 : Int32)) hx hb dX4_add_59 (by decide) ?_
          obtain ⟨q18, hq18, hr⟩ := bd_use hr
          refine pcV_l (As := [.int (2 : Int32)]) (rest := [.long q17, .int (row_latest + (1 : Int32)), .ref h_row]) S (c_X4_stonesOf l dC dI h_row h_g h_bl h_wh h_ac c_bl c_wh c_ac n_row row_law row_latest row_opener row_blackThen row_whiteThen g_width g_height g_size g_all g_notFirstColumn g_notLastColumn bl wh ac (2 : Int32) q18 hq18) (cwV 1 hts gX4_add_X4_stonesOf rfl rfl rfl (by decide +kernel) ⟨Nat.le_trans (m := rm_X4_add.frames) (by decide) hRf, Nat.le_trans (m := rm_X4_add.locals) (by decide) hRl⟩) hN hP hK ⟨Nat.zero_le _, Nat.zero_le _⟩ [0, 1, 2, 3, 4] rfl [0, 1, 2] rfl 0 4 rfl rfl rfl hl.1 rfl (Nat.le_of_ble_eq_true rfl) dX4_add_60 ?_
          obtain ⟨q19, hq19, hr⟩ := bd_use hr
          refine icV_v (As := [.int (row_latest + (1 : Int32)), .long q17, .long q18]) (rest := []) (ws2 := (wd_X4 h_row h_g h_bl h_wh h_ac c_bl c_wh c_ac n_row row_law row_latest row_opener row_blackThen row_whiteThen g_width g_height g_size g_all g_notFirstColumn g_notLastColumn q19.1 q19.2 ac)) S (c_X4_keep l dC dI h_row h_g h_bl h_wh h_ac c_bl c_wh c_ac n_row row_law row_latest row_opener row_blackThen row_whiteThen g_width g_height g_size g_all g_notFirstColumn g_notLastColumn bl wh ac H.size (row_latest + (1 : Int32)) q17 q18 q19 hq19) (cwV 3 hts gX4_add_X4_keep rfl rfl rfl (by decide +kernel) ⟨Nat.le_trans (m := rm_X4_add.frames) (by decide) hRf, Nat.le_trans (m := rm_X4_add.locals) (by decide) hRl⟩) hN hP hK hD hS hA ⟨Nat.zero_le _, Nat.zero_le _⟩ [0, 1, 2, 3, 4] [] [0, 1, 2, 3, 4] rfl rfl rfl rfl rfl (by decide) rfl rfl rfl [0, 1, 2] rfl 0 4 rfl rfl rfl hl.1 rfl (Nat.le_of_ble_eq_true rfl) dX4_add_63 (fun H locs hP hD hS => ?_)
          refine lv_goto (tgt := 111) hx hb dX4_add_66 (by decide) ?_
          exact kK8 row_blackThen row_whiteThen q19.1 q19.2 _ _ hr hP hD hS ls (lv_sub hl [0, 1] rfl)
      · have hr := ite_n hr c3
        refine lv_iconst (v := (0 : Int32)) hx hb dX4_add_33 (by decide) ?_
        obtain rfl := Option.some.inj hr
        exact kret _ _ _ _ dX4_add_34 hP hD hS nar_0

def f_X4_takeBack (row_latest : Int32)  : Option (Int32) :=
  nm (jmax (row_latest - (1 : Int32)) (0 : Int32)) fun x1 =>
  some (x1)

abbrev rm_X4_takeBack : Room := { frames := 1, cells := 0, slots := 0, locals := 32 }
set_option maxHeartbeats 4000000 in
set_option maxRecDepth 100000 in
theorem c_X4_takeBack (l : Launch) (dC : Nat → ClassId) (dI : Nat → Nat → Nat) (h_row h_g h_bl h_wh h_ac : Nat) (c_bl c_wh c_ac : ClassId) (n_row : Nat) (row_law row_latest row_opener : Int32) (row_blackThen row_whiteThen : Int64) (g_width g_height g_size : Int32) (g_all g_notFirstColumn g_notLastColumn : Int64) (bl wh : Nat → Int64) (ac : Nat → Int32) (sz : Nat)  (q : Int32) (hr : f_X4_takeBack row_latest  = some q) : Met l yX4_takeBack wsX4_takeBack rm_X4_takeBack (PrI (dC, dI) (wd_X4 h_row h_g h_bl h_wh h_ac c_bl c_wh c_ac n_row row_law row_latest row_opener row_blackThen row_whiteThen g_width g_height g_size g_all g_notFirstColumn g_notLastColumn bl wh ac) (td_X4 c_bl c_wh c_ac) sz [.ref h_row]) (QIv (dC, dI) (wd_X4 h_row h_g h_bl h_wh h_ac c_bl c_wh c_ac n_row row_law row_latest row_opener row_blackThen row_whiteThen g_width g_height g_size g_all g_notFirstColumn g_notLastColumn bl wh ac) (td_X4 c_bl c_wh c_ac) sz (wd_X4 h_row h_g h_bl h_wh h_ac c_bl c_wh c_ac n_row row_law q row_opener row_blackThen row_whiteThen g_width g_height g_size g_all g_notFirstColumn g_notLastColumn bl wh ac)) 0 0 (va_A (wd_X4 h_row h_g h_bl h_wh h_ac c_bl c_wh c_ac n_row row_law row_latest row_opener row_blackThen row_whiteThen g_width g_height g_size g_all g_notFirstColumn g_notLastColumn bl wh ac) sz) := by
  refine mkI_v (cc := cX4_takeBack) (nL := 1) (by decide) rfl (Nat.le_of_ble_eq_true rfl) ?_
  intro p e R s m args below meth c H0 H locs A Q ls hRf hRl S hN hP hK hD hA hS hl kret
  have hl : lv_has ls 1 [(0, .ref h_row)] := hl
  obtain ⟨hx, hb, hml, hown, hts⟩ := S
  have hown : s.vm.findClass RX4 = some m.cls := hown
  have S : CallFix p m c cX4_takeBack 1 s args wsX4_takeBack RX4 := ⟨hx, hb, hml, hown, hts⟩
  have huX4 : ∀ w ∈ u_ws RX4 TX4 9, w ∈ wsX4_takeBack := by decide +kernel
  have hf36 := hts (.fieldLink RX4 36 "EyeBoard$Row" "latest" "I") (by decide +kernel)
  have hmx1 := hts (.methodLink RX4 15 Lib.Math.max.name) (by decide +kernel)
  have hmx2 := hts (.static Lib.Math.max.name) (by decide +kernel)
  have hmx3 := hts (.initialized "java/lang/Math") (by decide +kernel)
  have hmx4 := hts (.code Lib.Math.max.name Lib.Math.max.code 2 (some .int)) (by decide +kernel)
  unfold f_X4_takeBack at hr
  refine lv_aload_n hx hb dX4_takeBack_0 rfl (lv_at hl 0 rfl) ?_
  refine lv_aload_n hx hb dX4_takeBack_1 rfl (lv_at hl 0 rfl) ?_
  refine va_get (D := (dC, dI)) (ci := 4) (v := .int row_latest) (C := RX4) (T := TX4) (N := 9) hx hb hts huX4 hown hK hP 0 rfl rfl 5 (by decide) hf36 (fun _ h9 => h9) rfl dX4_takeBack_2 ?_
  refine lv_iconst (v := (1 : Int32)) hx hb dX4_takeBack_5 (by decide) ?_
  refine lv_isub hx hb dX4_takeBack_6 ?_
  refine lv_iconst (v := (0 : Int32)) hx hb dX4_takeBack_7 (by decide) ?_
  refine va_mmax hx hb (hml.trans hl.1.symm) hown hmx1 hmx2 hmx3 hmx4 (Nat.le_trans (m := rm_X4_takeBack.frames) (by decide) hRf) (Nat.le_trans (m := rm_X4_takeBack.locals) (Nat.le_of_ble_eq_true rfl) hRl) (Nat.zero_le _) (Nat.zero_le _) dX4_takeBack_8 ?_
  refine lv_topi (fun x1 ex1 => ?_)
  have hr := nm_use hr ex1
  refine va_put (D := (dC, dI)) (ci := 4) (v := .int x1) (ty := .int) (C := RX4) (T := TX4) (N := 9) hx hb hts huX4 tyX4 tyX4_ok nmX4 hown hK hP hD hS 0 rfl rfl 5 (by decide) hf36 (fun _ h9 => h9) rfl (by decide +kernel) rfl rfl (Nat.le_of_ble_eq_true rfl) dX4_takeBack_11 (fun H locs hP hD hS => ?_)
  have hP : va_P (dC, dI) vwCl (wd_X4 h_row h_g h_bl h_wh h_ac c_bl c_wh c_ac n_row row_law x1 row_opener row_blackThen row_whiteThen g_width g_height g_size g_all g_notFirstColumn g_notLastColumn bl wh ac) H := hP
  have hD : va_D A (wd_X4 h_row h_g h_bl h_wh h_ac c_bl c_wh c_ac n_row row_law x1 row_opener row_blackThen row_whiteThen g_width g_height g_size g_all g_notFirstColumn g_notLastColumn bl wh ac) := hD
  obtain rfl := Option.some.inj hr
  exact kret _ _ _ _ dX4_takeBack_14 hP hD hS

def lp_X4_passesNow_9 (n_row : Nat) (row_latest : Int32) (g_size : Int32) (ac : Nat → Int32) : Nat → Int32 → Int32 → Option (Int32)
  | 0, _, _ => none
  | nF + 1, v2, v3 =>
    if v3 < 0 then (
      some (v2)
    )
    else (
      (f_X4_actAt n_row row_latest ac v3).bind fun q5 =>
      if q5 = g_size then (
        nm (v2 + 1) fun x7 =>
        nm (v3 + (-1)) fun x8 =>
        lp_X4_passesNow_9 n_row row_latest g_size ac nF x7 x8
      )
      else (
        some (v2)
      )
    )

def f_X4_passesNow (n_row : Nat) (row_latest : Int32) (g_size : Int32) (ac : Nat → Int32)  : Option (Int32) :=
  nm (row_latest - (1 : Int32)) fun x1 =>
  lp_X4_passesNow_9 n_row row_latest g_size ac FU (0 : Int32) x1

abbrev rm_X4_passesNow : Room := { frames := 1, cells := 0, slots := 0, locals := 21 }
set_option maxHeartbeats 4000000 in
set_option maxRecDepth 100000 in
theorem c_X4_passesNow (l : Launch) (dC : Nat → ClassId) (dI : Nat → Nat → Nat) (h_row h_g h_bl h_wh h_ac : Nat) (c_bl c_wh c_ac : ClassId) (n_row : Nat) (row_law row_latest row_opener : Int32) (row_blackThen row_whiteThen : Int64) (g_width g_height g_size : Int32) (g_all g_notFirstColumn g_notLastColumn : Int64) (bl wh : Nat → Int64) (ac : Nat → Int32)  (q : Int32) (hr : f_X4_passesNow n_row row_latest g_size ac  = some q) : Met l yX4_passesNow wsX4_passesNow rm_X4_passesNow (PrP (dC, dI) (wd_X4 h_row h_g h_bl h_wh h_ac c_bl c_wh c_ac n_row row_law row_latest row_opener row_blackThen row_whiteThen g_width g_height g_size g_all g_notFirstColumn g_notLastColumn bl wh ac) (td_X4 c_bl c_wh c_ac) [.ref h_row]) (vp_Si (fun x => x = q)) 0 0 (fun _ => False) := by
  refine mkP_i (cc := cX4_passesNow) (nL := 3) (by decide) rfl (Nat.le_of_ble_eq_true rfl) ?_
  intro p e R s m args below meth c H Q ls hRf hRl S hN hP hK hl kret
  have hl : lv_has ls 3 [(0, .ref h_row)] := hl
  obtain ⟨hx, hb, hml, hown, hts⟩ := S
  have hown : s.vm.findClass RX4 = some m.cls := hown
  have S : CallFix p m c cX4_passesNow 3 s args wsX4_passesNow RX4 := ⟨hx, hb, hml, hown, hts⟩
  have huX4 : ∀ w ∈ u_ws RX4 TX4 9, w ∈ wsX4_passesNow := by decide +kernel
  have hf36 := hts (.fieldLink RX4 36 "EyeBoard$Row" "latest" "I") (by decide +kernel)
  have hf9 := hts (.fieldLink RX4 9 "EyeBoard$Row" "grid" "LEyeBoard$Grid;") (by decide +kernel)
  have huX2 : ∀ w ∈ u_ws RX2 TX2 6, w ∈ wsX4_passesNow := by decide +kernel
  have hf99 := hts (.fieldLink RX4 99 "EyeBoard$Grid" "size" "I") (by decide +kernel)
  unfold f_X4_passesNow at hr
  refine lv_iconst (v := (0 : Int32)) hx hb dX4_passesNow_0 (by decide) ?_
  refine lv_istore_n (lv' := [(1, .int (0 : Int32)), (0, .ref h_row)]) hx hb dX4_passesNow_1 rfl hl (by decide) rfl (fun ls hl => ?_)
  refine lv_aload_n hx hb dX4_passesNow_2 rfl (lv_at hl 1 rfl) ?_
  refine va_get (D := (dC, dI)) (ci := 4) (v := .int row_latest) (C := RX4) (T := TX4) (N := 9) hx hb hts huX4 hown hK hP 0 rfl rfl 5 (by decide) hf36 (fun _ h9 => h9) rfl dX4_passesNow_3 ?_
  refine lv_iconst (v := (1 : Int32)) hx hb dX4_passesNow_6 (by decide) ?_
  refine lv_isub hx hb dX4_passesNow_7 ?_
  refine lv_topi (fun x1 ex1 => ?_)
  have hr := nm_use hr ex1
  refine lv_istore_n (lv' := [(2, .int x1), (1, .int (0 : Int32)), (0, .ref h_row)]) hx hb dX4_passesNow_8 rfl hl (by decide) rfl (fun ls hl => ?_)
  have llp_X4_passesNow_9 : ∀ (nF : Nat) (v2 : Int32) (v3 : Int32) , lp_X4_passesNow_9 n_row row_latest g_size ac nF v2 v3 = some q → ∀ (ls : Array Slot), lv_has ls 3 [(0, .ref h_row), (1, .int v2), (2, .int v3)] → W p l e R s m args below meth c H [] 0 0 Q (F0 m 9 ls []) := by
    intro nF
    induction nF with
    | zero => intro v2 v3 hr; exact absurd hr (by simp [lp_X4_passesNow_9])
    | succ nF ih =>
      intro v2 v3 hr ls hl
      rw [lp_X4_passesNow_9] at hr
      refine lv_iload_n hx hb dX4_passesNow_9 rfl (lv_at hl 2 rfl) ?_
      refine lv_if_lt (tgt := 37) hx hb dX4_passesNow_10 (by decide) (fun c4 => ?_) (fun c4 => ?_)
      · have hr := ite_p hr c4
        refine lv_iload_n hx hb dX4_passesNow_37 rfl (lv_at hl 1 rfl) ?_
        obtain rfl := Option.some.inj hr
        exact kret _ _ dX4_passesNow_38
      · have hr := ite_n hr c4
        refine lv_aload_n hx hb dX4_passesNow_13 rfl (lv_at hl 0 rfl) ?_
        refine lv_iload_n hx hb dX4_passesNow_14 rfl (lv_at hl 2 rfl) ?_
        obtain ⟨q5, hq5, hr⟩ := bd_use hr
        refine pcV_i (As := [.int v3]) (rest := []) S (c_X4_actAt l dC dI h_row h_g h_bl h_wh h_ac c_bl c_wh c_ac n_row row_law row_latest row_opener row_blackThen row_whiteThen g_width g_height g_size g_all g_notFirstColumn g_notLastColumn bl wh ac v3 q5 hq5) (cwV 1 hts gX4_passesNow_X4_actAt rfl rfl rfl (by decide +kernel) ⟨Nat.le_trans (m := rm_X4_passesNow.frames) (by decide) hRf, Nat.le_trans (m := rm_X4_passesNow.locals) (by decide) hRl⟩) hN hP hK ⟨Nat.zero_le _, Nat.zero_le _⟩ [0, 1, 2, 3, 4] rfl [0, 1, 2] rfl 0 4 rfl rfl rfl hl.1 rfl (Nat.le_of_ble_eq_true rfl) dX4_passesNow_15 ?_
        refine lv_aload_n hx hb dX4_passesNow_18 rfl (lv_at hl 0 rfl) ?_
        refine va_get (D := (dC, dI)) (ci := 4) (v := .ref h_g) (C := RX4) (T := TX4) (N := 9) hx hb hts huX4 hown hK hP 0 rfl rfl 0 (by decide) hf9 (fun _ h9 => h9) rfl dX4_passesNow_19 ?_
        refine va_get (D := (dC, dI)) (ci := 2) (v := .int g_size) (C := RX2) (T := TX2) (N := 6) hx hb hts huX2 hown hK hP 1 rfl rfl 2 (by decide) hf99 (fun _ h9 => h9) rfl dX4_passesNow_22 ?_
        refine lv_icmp_ne (tgt := 37) hx hb dX4_passesNow_25 (by decide) (fun c6 => ?_) (fun c6 => ?_)
        · have hr := ite_n hr c6
          refine lv_iload_n hx hb dX4_passesNow_37 rfl (lv_at hl 1 rfl) ?_
          obtain rfl := Option.some.inj hr
          exact kret _ _ dX4_passesNow_38
        · have hr := ite_p hr c6
          obtain ⟨x7, ex7, hr⟩ := nm_ex hr
          refine lv_iinc (v := x7) (lv' := [(1, .int x7), (0, .ref h_row), (2, .int v3)]) hx hb dX4_passesNow_28 hl (k := 1) rfl (by rw [ex7]; rfl) (by decide) rfl (fun ls hl => ?_)
          obtain ⟨x8, ex8, hr⟩ := nm_ex hr
          refine lv_iinc (v := x8) (lv' := [(2, .int x8), (1, .int x7), (0, .ref h_row)]) hx hb dX4_passesNow_31 hl (k := 2) rfl (by rw [ex8]; rfl) (by decide) rfl (fun ls hl => ?_)
          refine lv_goto (tgt := 9) hx hb dX4_passesNow_34 (by decide) ?_
          exact ih x7 x8 hr ls (lv_sub hl [2, 1, 0] rfl)
  exact llp_X4_passesNow_9 FU (0 : Int32) x1 hr ls (lv_sub hl [2, 1, 0] rfl)

def f_X4_takenBy (n_row : Nat) (bl : Nat → Int64) (wh : Nat → Int64) (a0 : Int32) (a1 : Int32) : Option (Int32) :=
  (f_X4_stonesThen n_row bl wh (a0 - (1 : Int32)) a1).bind fun q1 =>
  (f_X4_stonesThen n_row bl wh a0 a1).bind fun q2 =>
  (f_J13_bitCount_95d88 (q1 &&& (q2 ^^^ (-1 : Int64)))).bind fun q3 =>
  some (q3)

abbrev rm_X4_takenBy : Room := { frames := 1, cells := 0, slots := 0, locals := 23 }
set_option maxHeartbeats 4000000 in
set_option maxRecDepth 100000 in
theorem c_X4_takenBy (l : Launch) (dC : Nat → ClassId) (dI : Nat → Nat → Nat) (h_row h_g h_bl h_wh h_ac : Nat) (c_bl c_wh c_ac : ClassId) (n_row : Nat) (row_law row_latest row_opener : Int32) (row_blackThen row_whiteThen : Int64) (g_width g_height g_size : Int32) (g_all g_notFirstColumn g_notLastColumn : Int64) (bl wh : Nat → Int64) (ac : Nat → Int32) (a0 : Int32) (a1 : Int32) (q : Int32) (hr : f_X4_takenBy n_row bl wh a0 a1 = some q) : Met l yX4_takenBy wsX4_takenBy rm_X4_takenBy (PrP (dC, dI) (wd_X4 h_row h_g h_bl h_wh h_ac c_bl c_wh c_ac n_row row_law row_latest row_opener row_blackThen row_whiteThen g_width g_height g_size g_all g_notFirstColumn g_notLastColumn bl wh ac) (td_X4 c_bl c_wh c_ac) [.ref h_row, .int a0, .int a1]) (vp_Si (fun x => x = q)) 0 0 (fun _ => False) := by
  refine mkP_i (cc := cX4_takenBy) (nL := 3) (by decide) rfl (Nat.le_of_ble_eq_true rfl) ?_
  intro p e R s m args below meth c H Q ls hRf hRl S hN hP hK hl kret
  have hl : lv_has ls 3 [(0, .ref h_row), (1, .int a0), (2, .int a1)] := hl
  obtain ⟨hx, hb, hml, hown, hts⟩ := S
  have hown : s.vm.findClass RX4 = some m.cls := hown
  have S : CallFix p m c cX4_takenBy 3 s args wsX4_takenBy RX4 := ⟨hx, hb, hml, hown, hts⟩
  have hk60 := hts (.constantLong RX4 60 (-1 : Int64)) (by decide +kernel)
  unfold f_X4_takenBy at hr
  refine lv_aload_n hx hb dX4_takenBy_0 rfl (lv_at hl 0 rfl) ?_
  refine lv_iload_n hx hb dX4_takenBy_1 rfl (lv_at hl 1 rfl) ?_
  refine lv_iconst (v := (1 : Int32)) hx hb dX4_takenBy_2 (by decide) ?_
  refine lv_isub hx hb dX4_takenBy_3 ?_
  refine lv_iload_n hx hb dX4_takenBy_4 rfl (lv_at hl 2 rfl) ?_
  obtain ⟨q1, hq1, hr⟩ := bd_use hr
  refine pcV_l (As := [.int (a0 - (1 : Int32)), .int a1]) (rest := []) S (c_X4_stonesThen l dC dI h_row h_g h_bl h_wh h_ac c_bl c_wh c_ac n_row row_law row_latest row_opener row_blackThen row_whiteThen g_width g_height g_size g_all g_notFirstColumn g_notLastColumn bl wh ac (a0 - (1 : Int32)) a1 q1 hq1) (cwV 2 hts gX4_takenBy_X4_stonesThen rfl rfl rfl (by decide +kernel) ⟨Nat.le_trans (m := rm_X4_takenBy.frames) (by decide) hRf, Nat.le_trans (m := rm_X4_takenBy.locals) (by decide) hRl⟩) hN hP hK ⟨Nat.zero_le _, Nat.zero_le _⟩ [0, 1, 2, 3, 4] rfl [0, 1, 2] rfl 0 4 rfl rfl rfl hl.1 rfl (Nat.le_of_ble_eq_true rfl) dX4_takenBy_5 ?_
  refine lv_aload_n hx hb dX4_takenBy_8 rfl (lv_at hl 0 rfl) ?_
  refine lv_iload_n hx hb dX4_takenBy_9 rfl (lv_at hl 1 rfl) ?_
  refine lv_iload_n hx hb dX4_takenBy_10 rfl (lv_at hl 2 rfl) ?_
  obtain ⟨q2, hq2, hr⟩ := bd_use hr
  refine pcV_l (As := [.int a0, .int a1]) (rest := [.long q1]) S (c_X4_stonesThen l dC dI h_row h_g h_bl h_wh h_ac c_bl c_wh c_ac n_row row_law row_latest row_opener row_blackThen row_whiteThen g_width g_height g_size g_all g_notFirstColumn g_notLastColumn bl wh ac a0 a1 q2 hq2) (cwV 2 hts gX4_takenBy_X4_stonesThen rfl rfl rfl (by decide +kernel) ⟨Nat.le_trans (m := rm_X4_takenBy.frames) (by decide) hRf, Nat.le_trans (m := rm_X4_takenBy.locals) (by decide) hRl⟩) hN hP hK ⟨Nat.zero_le _, Nat.zero_le _⟩ [0, 1, 2, 3, 4] rfl [0, 1, 2] rfl 0 4 rfl rfl rfl hl.1 rfl (Nat.le_of_ble_eq_true rfl) dX4_takenBy_11 ?_
  refine W.ldc2 (v := (-1 : Int64)) hx hb hown hk60 rfl dX4_takenBy_14 ?_
  refine W.eq (g2 := F0 m 17 ls [.long (-1 : Int64), .long q2, .long q1]) rfl ?_
  refine lv_lxor hx hb dX4_takenBy_17 ?_
  refine lv_land hx hb dX4_takenBy_18 ?_
  obtain ⟨q3, hq3, hr⟩ := bd_use hr
  refine pcS_i (As := [.long (q1 &&& (q2 ^^^ (-1 : Int64)))]) (rest := []) S (c_J13_bitCount_95d88 l dC dI (q1 &&& (q2 ^^^ (-1 : Int64))) q3 hq3) (va_cwS 1 hts gX4_takenBy_J13_bitCount_95d88 rfl rfl rfl (by decide +kernel) ⟨Nat.le_trans (m := rm_X4_takenBy.frames) (by decide) hRf, Nat.le_trans (m := rm_X4_takenBy.locals) (by decide) hRl⟩) hN hP hK ⟨Nat.zero_le _, Nat.zero_le _⟩ rfl hl.1 rfl (Nat.le_of_ble_eq_true rfl) dX4_takenBy_19 ?_
  obtain rfl := Option.some.inj hr
  exact kret _ _ dX4_takenBy_22

def lp_X4_taken_4 (n_row : Nat) (row_latest : Int32) (bl : Nat → Int64) (wh : Nat → Int64) (a0 : Int32) : Nat → Int32 → Int32 → Option (Int32)
  | 0, _, _ => none
  | nF + 1, v1, v2 =>
    if row_latest < v2 then (
      some (v1)
    )
    else (
      (f_X4_takenBy n_row bl wh v2 a0).bind fun q4 =>
      nm (v1 + q4) fun x5 =>
      nm (v2 + 1) fun x6 =>
      lp_X4_taken_4 n_row row_latest bl wh a0 nF x5 x6
    )

def f_X4_taken (n_row : Nat) (row_latest : Int32) (bl : Nat → Int64) (wh : Nat → Int64) (a0 : Int32) : Option (Int32) :=
  lp_X4_taken_4 n_row row_latest bl wh a0 FU (0 : Int32) (1 : Int32)

abbrev rm_X4_taken : Room := { frames := 2, cells := 0, slots := 0, locals := 45 }
set_option maxHeartbeats 4000000 in
set_option maxRecDepth 100000 in
theorem c_X4_taken (l : Launch) (dC : Nat → ClassId) (dI : Nat → Nat → Nat) (h_row h_g h_bl h_wh h_ac : Nat) (c_bl c_wh c_ac : ClassId) (n_row : Nat) (row_law row_latest row_opener : Int32) (row_blackThen row_whiteThen : Int64) (g_width g_height g_size : Int32) (g_all g_notFirstColumn g_notLastColumn : Int64) (bl wh : Nat → Int64) (ac : Nat → Int32) (a0 : Int32) (q : Int32) (hr : f_X4_taken n_row row_latest bl wh a0 = some q) : Met l yX4_taken wsX4_taken rm_X4_taken (PrP (dC, dI) (wd_X4 h_row h_g h_bl h_wh h_ac c_bl c_wh c_ac n_row row_law row_latest row_opener row_blackThen row_whiteThen g_width g_height g_size g_all g_notFirstColumn g_notLastColumn bl wh ac) (td_X4 c_bl c_wh c_ac) [.ref h_row, .int a0]) (vp_Si (fun x => x = q)) 0 0 (fun _ => False) := by
  refine mkP_i (cc := cX4_taken) (nL := 4) (by decide) rfl (Nat.le_of_ble_eq_true rfl) ?_
  intro p e R s m args below meth c H Q ls hRf hRl S hN hP hK hl kret
  have hl : lv_has ls 4 [(0, .ref h_row), (1, .int a0)] := hl
  obtain ⟨hx, hb, hml, hown, hts⟩ := S
  have hown : s.vm.findClass RX4 = some m.cls := hown
  have S : CallFix p m c cX4_taken 4 s args wsX4_taken RX4 := ⟨hx, hb, hml, hown, hts⟩
  have huX4 : ∀ w ∈ u_ws RX4 TX4 9, w ∈ wsX4_taken := by decide +kernel
  have hf36 := hts (.fieldLink RX4 36 "EyeBoard$Row" "latest" "I") (by decide +kernel)
  unfold f_X4_taken at hr
  refine lv_iconst (v := (0 : Int32)) hx hb dX4_taken_0 (by decide) ?_
  refine lv_istore_n (lv' := [(2, .int (0 : Int32)), (0, .ref h_row), (1, .int a0)]) hx hb dX4_taken_1 rfl hl (by decide) rfl (fun ls hl => ?_)
  refine lv_iconst (v := (1 : Int32)) hx hb dX4_taken_2 (by decide) ?_
  refine lv_istore_n (lv' := [(3, .int (1 : Int32)), (2, .int (0 : Int32)), (0, .ref h_row), (1, .int a0)]) hx hb dX4_taken_3 rfl hl (by decide) rfl (fun ls hl => ?_)
  have llp_X4_taken_4 : ∀ (nF : Nat) (v1 : Int32) (v2 : Int32) , lp_X4_taken_4 n_row row_latest bl wh a0 nF v1 v2 = some q → ∀ (ls : Array Slot), lv_has ls 4 [(0, .ref h_row), (1, .int a0), (2, .int v1), (3, .int v2)] → W p l e R s m args below meth c H [] 0 0 Q (F0 m 4 ls []) := by
    intro nF
    induction nF with
    | zero => intro v1 v2 hr; exact absurd hr (by simp [lp_X4_taken_4])
    | succ nF ih =>
      intro v1 v2 hr ls hl
      rw [lp_X4_taken_4] at hr
      refine lv_iload_n hx hb dX4_taken_4 rfl (lv_at hl 3 rfl) ?_
      refine lv_aload_n hx hb dX4_taken_5 rfl (lv_at hl 0 rfl) ?_
      refine va_get (D := (dC, dI)) (ci := 4) (v := .int row_latest) (C := RX4) (T := TX4) (N := 9) hx hb hts huX4 hown hK hP 0 rfl rfl 5 (by decide) hf36 (fun _ h9 => h9) rfl dX4_taken_6 ?_
      refine lv_icmp_gt (tgt := 27) hx hb dX4_taken_9 (by decide) (fun c3 => ?_) (fun c3 => ?_)
      · have hr := ite_p hr c3
        refine lv_iload_n hx hb dX4_taken_27 rfl (lv_at hl 2 rfl) ?_
        obtain rfl := Option.some.inj hr
        exact kret _ _ dX4_taken_28
      · have hr := ite_n hr c3
        refine lv_iload_n hx hb dX4_taken_12 rfl (lv_at hl 2 rfl) ?_
        refine lv_aload_n hx hb dX4_taken_13 rfl (lv_at hl 0 rfl) ?_
        refine lv_iload_n hx hb dX4_taken_14 rfl (lv_at hl 3 rfl) ?_
        refine lv_iload_n hx hb dX4_taken_15 rfl (lv_at hl 1 rfl) ?_
        obtain ⟨q4, hq4, hr⟩ := bd_use hr
        refine pcV_i (As := [.int v2, .int a0]) (rest := [.int v1]) S (c_X4_takenBy l dC dI h_row h_g h_bl h_wh h_ac c_bl c_wh c_ac n_row row_law row_latest row_opener row_blackThen row_whiteThen g_width g_height g_size g_all g_notFirstColumn g_notLastColumn bl wh ac v2 a0 q4 hq4) (cwV 2 hts gX4_taken_X4_takenBy rfl rfl rfl (by decide +kernel) ⟨Nat.le_trans (m := rm_X4_taken.frames) (by decide) hRf, Nat.le_trans (m := rm_X4_taken.locals) (by decide) hRl⟩) hN hP hK ⟨Nat.zero_le _, Nat.zero_le _⟩ [0, 1, 2, 3, 4] rfl [0, 1, 2] rfl 0 4 rfl rfl rfl hl.1 rfl (Nat.le_of_ble_eq_true rfl) dX4_taken_16 ?_
        refine lv_iadd hx hb dX4_taken_19 ?_
        refine lv_topi (fun x5 ex5 => ?_)
        have hr := nm_use hr ex5
        refine lv_istore_n (lv' := [(2, .int x5), (0, .ref h_row), (1, .int a0), (3, .int v2)]) hx hb dX4_taken_20 rfl hl (by decide) rfl (fun ls hl => ?_)
        obtain ⟨x6, ex6, hr⟩ := nm_ex hr
        refine lv_iinc (v := x6) (lv' := [(3, .int x6), (2, .int x5), (0, .ref h_row), (1, .int a0)]) hx hb dX4_taken_21 hl (k := 3) rfl (by rw [ex6]; rfl) (by decide) rfl (fun ls hl => ?_)
        refine lv_goto (tgt := 4) hx hb dX4_taken_24 (by decide) ?_
        exact ih x5 x6 hr ls (lv_sub hl [2, 3, 1, 0] rfl)
  exact llp_X4_taken_4 FU (0 : Int32) (1 : Int32) hr ls (lv_sub hl [2, 3, 1, 0] rfl)

def f_X5_oneMore (t_made : Int32)  : Option (Int32 × Int32) :=
  if t_made < (600 : Int32) then (
    nm (t_made + (1 : Int32)) fun x2 =>
    some ((1 : Int32), x2)
  )
  else (
    some ((0 : Int32), t_made)
  )

abbrev rm_X5_oneMore : Room := { frames := 0, cells := 0, slots := 0, locals := 0 }
set_option maxHeartbeats 4000000 in
set_option maxRecDepth 100000 in
theorem c_X5_oneMore (l : Launch) (dC : Nat → ClassId) (dI : Nat → Nat → Nat) (h_t : Nat) (t_made : Int32) (sz : Nat)  (q : Int32 × Int32) (hr : f_X5_oneMore t_made  = some q) : Met l yX5_oneMore wsX5_oneMore rm_X5_oneMore (PrI (dC, dI) (wd_X5 h_t t_made) (td_X5) sz [.ref h_t]) (QIi (dC, dI) (wd_X5 h_t t_made) (td_X5) sz q.1 (wd_X5 h_t q.2)) 0 0 (va_A (wd_X5 h_t t_made) sz) := by
  refine mkI_z (cc := cX5_oneMore) (nL := 1) (by decide) rfl (Nat.le_of_ble_eq_true rfl) ?_
  intro p e R s m args below meth c H0 H locs A Q ls hRf hRl S hN hP hK hD hA hS hl kret
  have hl : lv_has ls 1 [(0, .ref h_t)] := hl
  obtain ⟨hx, hb, hml, hown, hts⟩ := S
  have hown : s.vm.findClass RX5 = some m.cls := hown
  have S : CallFix p m c cX5_oneMore 1 s args wsX5_oneMore RX5 := ⟨hx, hb, hml, hown, hts⟩
  have huX5 : ∀ w ∈ u_ws RX5 TX5 1, w ∈ wsX5_oneMore := by decide +kernel
  have hf9 := hts (.fieldLink RX5 9 "EyeBoard$Tries" "made" "I") (by decide +kernel)
  unfold f_X5_oneMore at hr
  refine lv_aload_n hx hb dX5_oneMore_0 rfl (lv_at hl 0 rfl) ?_
  refine va_get (D := (dC, dI)) (ci := 5) (v := .int t_made) (C := RX5) (T := TX5) (N := 1) hx hb hts huX5 hown hK hP 0 rfl rfl 0 (by decide) hf9 (fun _ h9 => h9) rfl dX5_oneMore_1 ?_
  refine lv_sipush (v := (600 : Int32)) hx hb dX5_oneMore_4 (by decide) ?_
  refine lv_icmp_lt (tgt := 12) hx hb dX5_oneMore_7 (by decide) (fun c1 => ?_) (fun c1 => ?_)
  · have hr := ite_p hr c1
    refine lv_aload_n hx hb dX5_oneMore_12 rfl (lv_at hl 0 rfl) ?_
    refine lv_dup hx hb dX5_oneMore_13 rfl ?_
    refine va_get (D := (dC, dI)) (ci := 5) (v := .int t_made) (C := RX5) (T := TX5) (N := 1) hx hb hts huX5 hown hK hP 0 rfl rfl 0 (by decide) hf9 (fun _ h9 => h9) rfl dX5_oneMore_14 ?_
    refine lv_iconst (v := (1 : Int32)) hx hb dX5_oneMore_17 (by decide) ?_
    refine lv_iadd hx hb dX5_oneMore_18 ?_
    refine lv_topi (fun x2 ex2 => ?_)
    have hr := nm_use hr ex2
    refine va_put (D := (dC, dI)) (ci := 5) (v := .int x2) (ty := .int) (C := RX5) (T := TX5) (N := 1) hx hb hts huX5 tyX5 tyX5_ok nmX5 hown hK hP hD hS 0 rfl rfl 0 (by decide) hf9 (fun _ h9 => h9) rfl (by decide +kernel) rfl rfl (Nat.le_of_ble_eq_true rfl) dX5_oneMore_19 (fun H locs hP hD hS => ?_)
    have hP : va_P (dC, dI) vwCl (wd_X5 h_t x2) H := hP
    have hD : va_D A (wd_X5 h_t x2) := hD
    refine lv_iconst (v := (1 : Int32)) hx hb dX5_oneMore_22 (by decide) ?_
    obtain rfl := Option.some.inj hr
    exact kret _ _ _ _ dX5_oneMore_23 hP hD hS nar_1
  · have hr := ite_n hr c1
    refine lv_iconst (v := (0 : Int32)) hx hb dX5_oneMore_10 (by decide) ?_
    obtain rfl := Option.some.inj hr
    exact kret _ _ _ _ dX5_oneMore_11 hP hD hS nar_0

