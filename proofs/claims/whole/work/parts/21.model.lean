def f_X7_reason (mo_wide : Int32) (mo_high : Int32) (mo_law : Int32) (mo_newBlack : Int64) (mo_newWhite : Int64) (mo_taken : Int32) (a_neighbours : Nat → Int64) (a_blackAt : Nat → Int64) (a_whiteAt : Nat → Int64) (a_moveAt : Nat → Int32) (a0 : Int32) (a1 : Int32) (a2 : Int32) : Option (Int32 × Int64 × Int64 × Int32) :=
  if (a0 < 0 ∨ 130 ≤ a0.toNatClampNeg) then none else
  if (a0 < 0 ∨ 130 ≤ a0.toNatClampNeg) then none else
  (f_X7_laid mo_wide mo_high mo_newBlack mo_newWhite mo_taken a_neighbours (a_blackAt a0.toNatClampNeg) (a_whiteAt a0.toNatClampNeg) a1 a2).bind fun q3 =>
  nm (q3.1) fun x4 =>
  if x4 = 0 then (
    (f_X7_isAgainst mo_law q3.2.1 q3.2.2.1 a_blackAt a_whiteAt a_moveAt a0 a1).bind fun q6 =>
    if q6 = 0 then (
      some ((0 : Int32), q3.2.1, q3.2.2.1, q3.2.2.2)
    )
    else (
      some ((3 : Int32), q3.2.1, q3.2.2.1, q3.2.2.2)
    )
  )
  else (
    some (x4, q3.2.1, q3.2.2.1, q3.2.2.2)
  )

abbrev rm_X7_reason : Room := { frames := 4, cells := 0, slots := 0, locals := 110 }
set_option maxHeartbeats 4000000 in
set_option maxRecDepth 100000 in
theorem c_X7_reason (l : Launch) (dC : Nat → ClassId) (dI : Nat → Nat → Nat) (ad : Nat → Nat) (cA : Nat → ClassId) (mo_wide mo_high mo_law mo_acts : Int32) (mo_newBlack mo_newWhite : Int64) (mo_taken mo_triesMany mo_isSpent mo_found : Int32) (a_neighbours : Nat → Int64) (a_act : Nat → Int32) (a_blackAt a_whiteAt : Nat → Int64) (a_moveAt a_takenBlack a_takenWhite : Nat → Int32) (a_chaseBlack a_chaseWhite a_aheadBlack a_aheadWhite : Nat → Int64) (a_hasAhead : Nat → Int32) (a_breathsLeft a_laidBlack a_laidWhite a_answersLeft : Nat → Int64) (a_firstAnswer a_answering a_next : Nat → Int32) (sz : Nat) (a0 : Int32) (a1 : Int32) (a2 : Int32) (q : Int32 × Int64 × Int64 × Int32) (hr : f_X7_reason mo_wide mo_high mo_law mo_newBlack mo_newWhite mo_taken a_neighbours a_blackAt a_whiteAt a_moveAt a0 a1 a2 = some q) : Met l yX7_reason wsX7_reason rm_X7_reason (PrI (dC, dI) (wd_X7 ad cA mo_wide mo_high mo_law mo_acts mo_newBlack mo_newWhite mo_taken mo_triesMany mo_isSpent mo_found a_neighbours a_act a_blackAt a_whiteAt a_moveAt a_takenBlack a_takenWhite a_chaseBlack a_chaseWhite a_aheadBlack a_aheadWhite a_hasAhead a_breathsLeft a_laidBlack a_laidWhite a_answersLeft a_firstAnswer a_answering a_next) (td_X7 cA) sz [.ref (ad 0), .int a0, .int a1, .int a2]) (QIi (dC, dI) (wd_X7 ad cA mo_wide mo_high mo_law mo_acts mo_newBlack mo_newWhite mo_taken mo_triesMany mo_isSpent mo_found a_neighbours a_act a_blackAt a_whiteAt a_moveAt a_takenBlack a_takenWhite a_chaseBlack a_chaseWhite a_aheadBlack a_aheadWhite a_hasAhead a_breathsLeft a_laidBlack a_laidWhite a_answersLeft a_firstAnswer a_answering a_next) (td_X7 cA) sz q.1 (wd_X7 ad cA mo_wide mo_high mo_law mo_acts q.2.1 q.2.2.1 q.2.2.2 mo_triesMany mo_isSpent mo_found a_neighbours a_act a_blackAt a_whiteAt a_moveAt a_takenBlack a_takenWhite a_chaseBlack a_chaseWhite a_aheadBlack a_aheadWhite a_hasAhead a_breathsLeft a_laidBlack a_laidWhite a_answersLeft a_firstAnswer a_answering a_next)) 0 0 (va_A (wd_X7 ad cA mo_wide mo_high mo_law mo_acts mo_newBlack mo_newWhite mo_taken mo_triesMany mo_isSpent mo_found a_neighbours a_act a_blackAt a_whiteAt a_moveAt a_takenBlack a_takenWhite a_chaseBlack a_chaseWhite a_aheadBlack a_aheadWhite a_hasAhead a_breathsLeft a_laidBlack a_laidWhite a_answersLeft a_firstAnswer a_answering a_next) sz) := by
  refine mkI_i (cc := cX7_reason) (nL := 5) (by decide) rfl (Nat.le_of_ble_eq_true rfl) ?_
  intro p e R s m args below meth c H0 H locs A Q ls hRf hRl S hN hP hK hD hA hS hl kret
  have hl : lv_has ls 5 [(0, .ref (ad 0)), (1, .int a0), (2, .int a1), (3, .int a2)] := hl
  obtain ⟨hx, hb, hml, hown, hts⟩ := S
  have hown : s.vm.findClass RX7 = some m.cls := hown
  have S : CallFix p m c cX7_reason 5 s args wsX7_reason RX7 := ⟨hx, hb, hml, hown, hts⟩
  have huX7 : ∀ w ∈ u_ws RX7 TX7 29, w ∈ wsX7_reason := by decide +kernel
  have hf24 := hts (.fieldLink RX7 24 "EyeBoardModel" "blackAt" "[J") (by decide +kernel)
  have hf27 := hts (.fieldLink RX7 27 "EyeBoardModel" "whiteAt" "[J") (by decide +kernel)
  unfold f_X7_reason at hr
  refine lv_aload_n hx hb dX7_reason_0 rfl (lv_at hl 0 rfl) ?_
  refine lv_aload_n hx hb dX7_reason_1 rfl (lv_at hl 0 rfl) ?_
  refine va_get (D := (dC, dI)) (ci := 7) (v := .ref (ad 3)) (C := RX7) (T := TX7) (N := 29) hx hb hts huX7 hown hK hP 0 rfl rfl 6 (by decide) hf24 (fun _ h9 => h9) rfl dX7_reason_2 ?_
  refine lv_iload_n hx hb dX7_reason_5 rfl (lv_at hl 1 rfl) ?_
  obtain ⟨hi1, hr⟩ := ite_g hr
  refine va_lald hx hb hK hP 3 2 rfl rfl hi1 dX7_reason_6 ?_
  refine lv_aload_n hx hb dX7_reason_7 rfl (lv_at hl 0 rfl) ?_
  refine va_get (D := (dC, dI)) (ci := 7) (v := .ref (ad 4)) (C := RX7) (T := TX7) (N := 29) hx hb hts huX7 hown hK hP 0 rfl rfl 7 (by decide) hf27 (fun _ h9 => h9) rfl dX7_reason_8 ?_
  refine lv_iload_n hx hb dX7_reason_11 rfl (lv_at hl 1 rfl) ?_
  obtain ⟨hi2, hr⟩ := ite_g hr
  refine va_lald hx hb hK hP 4 3 rfl rfl hi2 dX7_reason_12 ?_
  refine lv_iload_n hx hb dX7_reason_13 rfl (lv_at hl 2 rfl) ?_
  refine lv_iload_n hx hb dX7_reason_14 rfl (lv_at hl 3 rfl) ?_
  obtain ⟨q3, hq3, hr⟩ := bd_use hr
  refine icV_i (As := [.long (a_blackAt a0.toNatClampNeg), .long (a_whiteAt a0.toNatClampNeg), .int a1, .int a2]) (rest := []) (ws2 := (wd_X7 ad cA mo_wide mo_high mo_law mo_acts q3.2.1 q3.2.2.1 q3.2.2.2 mo_triesMany mo_isSpent mo_found a_neighbours a_act a_blackAt a_whiteAt a_moveAt a_takenBlack a_takenWhite a_chaseBlack a_chaseWhite a_aheadBlack a_aheadWhite a_hasAhead a_breathsLeft a_laidBlack a_laidWhite a_answersLeft a_firstAnswer a_answering a_next)) S (c_X7_laid l dC dI ad cA mo_wide mo_high mo_law mo_acts mo_newBlack mo_newWhite mo_taken mo_triesMany mo_isSpent mo_found a_neighbours a_act a_blackAt a_whiteAt a_moveAt a_takenBlack a_takenWhite a_chaseBlack a_chaseWhite a_aheadBlack a_aheadWhite a_hasAhead a_breathsLeft a_laidBlack a_laidWhite a_answersLeft a_firstAnswer a_answering a_next H.size (a_blackAt a0.toNatClampNeg) (a_whiteAt a0.toNatClampNeg) a1 a2 q3 hq3) (cwV 4 hts gX7_reason_X7_laid rfl rfl rfl (by decide +kernel) ⟨Nat.le_trans (m := rm_X7_reason.frames) (by decide) hRf, Nat.le_trans (m := rm_X7_reason.locals) (by decide) hRl⟩) hN hP hK hD hS hA ⟨Nat.zero_le _, Nat.zero_le _⟩ [0, 1, 2, 3, 4, 5, 6, 7, 8, 9, 10, 11, 12, 13, 14, 15, 16, 17, 18, 19] [] [0, 1, 2, 3, 4, 5, 6, 7, 8, 9, 10, 11, 12, 13, 14, 15, 16, 17, 18, 19] rfl rfl rfl rfl rfl (by decide) rfl rfl rfl [0, 1, 2, 3, 4, 5, 6, 7, 8, 9, 10, 11, 12, 13, 14, 15, 16, 17, 18] rfl 0 7 rfl rfl rfl hl.1 rfl (Nat.le_of_ble_eq_true rfl) dX7_reason_15 (fun H locs hP hD hS => ?_)
  refine lv_topi (fun x4 ex4 => ?_)
  have hr := nm_use hr ex4
  refine lv_istore (lv' := [(4, .int x4), (0, .ref (ad 0)), (1, .int a0), (2, .int a1), (3, .int a2)]) hx hb dX7_reason_18 hl (by decide) rfl (fun ls hl => ?_)
  refine lv_iload hx hb dX7_reason_20 (lv_at hl 0 rfl) ?_
  refine lv_if_eq (tgt := 30) hx hb dX7_reason_22 (by decide) (fun c5 => ?_) (fun c5 => ?_)
  · have hr := ite_p hr c5
    refine lv_aload_n hx hb dX7_reason_30 rfl (lv_at hl 1 rfl) ?_
    refine lv_iload_n hx hb dX7_reason_31 rfl (lv_at hl 2 rfl) ?_
    refine lv_iload_n hx hb dX7_reason_32 rfl (lv_at hl 3 rfl) ?_
    obtain ⟨q6, hq6, hr⟩ := bd_use hr
    refine pcV_i (As := [.int a0, .int a1]) (rest := []) S (c_X7_isAgainst l dC dI ad cA mo_wide mo_high mo_law mo_acts q3.2.1 q3.2.2.1 q3.2.2.2 mo_triesMany mo_isSpent mo_found a_neighbours a_act a_blackAt a_whiteAt a_moveAt a_takenBlack a_takenWhite a_chaseBlack a_chaseWhite a_aheadBlack a_aheadWhite a_hasAhead a_breathsLeft a_laidBlack a_laidWhite a_answersLeft a_firstAnswer a_answering a_next a0 a1 q6 hq6) (cwV 2 hts gX7_reason_X7_isAgainst rfl rfl rfl (by decide +kernel) ⟨Nat.le_trans (m := rm_X7_reason.frames) (by decide) hRf, Nat.le_trans (m := rm_X7_reason.locals) (by decide) hRl⟩) hN hP hK ⟨Nat.zero_le _, Nat.zero_le _⟩ [0, 1, 2, 3, 4, 5, 6, 7, 8, 9, 10, 11, 12, 13, 14, 15, 16, 17, 18, 19] rfl [0, 1, 2, 3, 4, 5, 6, 7, 8, 9, 10, 11, 12, 13, 14, 15, 16, 17, 18] rfl 0 7 rfl rfl rfl hl.1 rfl (Nat.le_of_ble_eq_true rfl) dX7_reason_33 ?_
    refine lv_if_eq (tgt := 43) hx hb dX7_reason_36 (by decide) (fun c7 => ?_) (fun c7 => ?_)
    · have hr := ite_p hr c7
      refine lv_iconst (v := (0 : Int32)) hx hb dX7_reason_43 (by decide) ?_
      obtain rfl := Option.some.inj hr
      exact kret _ _ _ _ dX7_reason_44 hP hD hS
    · have hr := ite_n hr c7
      refine lv_iconst (v := (3 : Int32)) hx hb dX7_reason_39 (by decide) ?_
      refine lv_goto (tgt := 44) hx hb dX7_reason_40 (by decide) ?_
      obtain rfl := Option.some.inj hr
      exact kret _ _ _ _ dX7_reason_44 hP hD hS
  · have hr := ite_n hr c5
    refine lv_iload hx hb dX7_reason_25 (lv_at hl 0 rfl) ?_
    refine lv_goto (tgt := 44) hx hb dX7_reason_27 (by decide) ?_
    obtain rfl := Option.some.inj hr
    exact kret _ _ _ _ dX7_reason_44 hP hD hS

def f_X7_board (mo_wide : Int32) (mo_high : Int32) (mo_law : Int32) (mo_acts : Int32) (a_neighbours : Nat → Int64) (a_blackAt : Nat → Int64) (a_whiteAt : Nat → Int64) (a_moveAt : Nat → Int32) (a_takenBlack : Nat → Int32) (a_takenWhite : Nat → Int32) (a0 : Int32) (a1 : Int32) (a2 : Int32) : Option (Int32 × Int32 × Int32 × Int32 × Int32 × (Nat → Int64) × (Nat → Int64) × (Nat → Int64) × (Nat → Int32) × (Nat → Int32) × (Nat → Int32)) :=
  (f_X7_in a0 (2 : Int32) (7 : Int32)).bind fun q1 =>
  if q1 = 0 then (
    some ((-2 : Int32), mo_wide, mo_high, mo_law, mo_acts, a_neighbours, a_blackAt, a_whiteAt, a_moveAt, a_takenBlack, a_takenWhite)
  )
  else (
    (f_X7_in a1 (2 : Int32) (7 : Int32)).bind fun q3 =>
    if q3 = 0 then (
      some ((-2 : Int32), mo_wide, mo_high, mo_law, mo_acts, a_neighbours, a_blackAt, a_whiteAt, a_moveAt, a_takenBlack, a_takenWhite)
    )
    else (
      (f_X7_in a2 (0 : Int32) (2 : Int32)).bind fun q5 =>
      if q5 = 0 then (
        some ((-2 : Int32), mo_wide, mo_high, mo_law, mo_acts, a_neighbours, a_blackAt, a_whiteAt, a_moveAt, a_takenBlack, a_takenWhite)
      )
      else (
        (f_X7_lays mo_wide mo_high mo_law mo_acts a_neighbours a_blackAt a_whiteAt a_moveAt a_takenBlack a_takenWhite a0 a1 a2).bind fun q7 =>
        some (mo_acts, q7.1, q7.2.1, q7.2.2.1, q7.2.2.2.1, q7.2.2.2.2.1, q7.2.2.2.2.2.1, q7.2.2.2.2.2.2.1, q7.2.2.2.2.2.2.2.1, q7.2.2.2.2.2.2.2.2.1, q7.2.2.2.2.2.2.2.2.2)
      )
    )
  )

abbrev rm_X7_board : Room := { frames := 1, cells := 0, slots := 0, locals := 26 }
set_option maxHeartbeats 4000000 in
set_option maxRecDepth 100000 in
theorem c_X7_board (l : Launch) (dC : Nat → ClassId) (dI : Nat → Nat → Nat) (ad : Nat → Nat) (cA : Nat → ClassId) (mo_wide mo_high mo_law mo_acts : Int32) (mo_newBlack mo_newWhite : Int64) (mo_taken mo_triesMany mo_isSpent mo_found : Int32) (a_neighbours : Nat → Int64) (a_act : Nat → Int32) (a_blackAt a_whiteAt : Nat → Int64) (a_moveAt a_takenBlack a_takenWhite : Nat → Int32) (a_chaseBlack a_chaseWhite a_aheadBlack a_aheadWhite : Nat → Int64) (a_hasAhead : Nat → Int32) (a_breathsLeft a_laidBlack a_laidWhite a_answersLeft : Nat → Int64) (a_firstAnswer a_answering a_next : Nat → Int32) (sz : Nat) (a0 : Int32) (a1 : Int32) (a2 : Int32) (q : Int32 × Int32 × Int32 × Int32 × Int32 × (Nat → Int64) × (Nat → Int64) × (Nat → Int64) × (Nat → Int32) × (Nat → Int32) × (Nat → Int32)) (hr : f_X7_board mo_wide mo_high mo_law mo_acts a_neighbours a_blackAt a_whiteAt a_moveAt a_takenBlack a_takenWhite a0 a1 a2 = some q) : Met l yX7_board wsX7_board rm_X7_board (PrI (dC, dI) (wd_X7 ad cA mo_wide mo_high mo_law mo_acts mo_newBlack mo_newWhite mo_taken mo_triesMany mo_isSpent mo_found a_neighbours a_act a_blackAt a_whiteAt a_moveAt a_takenBlack a_takenWhite a_chaseBlack a_chaseWhite a_aheadBlack a_aheadWhite a_hasAhead a_breathsLeft a_laidBlack a_laidWhite a_answersLeft a_firstAnswer a_answering a_next) (td_X7 cA) sz [.ref (ad 0), .int a0, .int a1, .int a2]) (QIi (dC, dI) (wd_X7 ad cA mo_wide mo_high mo_law mo_acts mo_newBlack mo_newWhite mo_taken mo_triesMany mo_isSpent mo_found a_neighbours a_act a_blackAt a_whiteAt a_moveAt a_takenBlack a_takenWhite a_chaseBlack a_chaseWhite a_aheadBlack a_aheadWhite a_hasAhead a_breathsLeft a_laidBlack a_laidWhite a_answersLeft a_firstAnswer a_answering a_next) (td_X7 cA) sz q.1 (wd_X7 ad cA q.2.1 q.2.2.1 q.2.2.2.1 q.2.2.2.2.1 mo_newBlack mo_newWhite mo_taken mo_triesMany mo_isSpent mo_found q.2.2.2.2.2.1 a_act q.2.2.2.2.2.2.1 q.2.2.2.2.2.2.2.1 q.2.2.2.2.2.2.2.2.1 q.2.2.2.2.2.2.2.2.2.1 q.2.2.2.2.2.2.2.2.2.2 a_chaseBlack a_chaseWhite a_aheadBlack a_aheadWhite a_hasAhead a_breathsLeft a_laidBlack a_laidWhite a_answersLeft a_firstAnswer a_answering a_next)) 0 0 (va_A (wd_X7 ad cA mo_wide mo_high mo_law mo_acts mo_newBlack mo_newWhite mo_taken mo_triesMany mo_isSpent mo_found a_neighbours a_act a_blackAt a_whiteAt a_moveAt a_takenBlack a_takenWhite a_chaseBlack a_chaseWhite a_aheadBlack a_aheadWhite a_hasAhead a_breathsLeft a_laidBlack a_laidWhite a_answersLeft a_firstAnswer a_answering a_next) sz) := by
  refine mkI_i (cc := cX7_board) (nL := 5) (by decide) rfl (Nat.le_of_ble_eq_true rfl) ?_
  intro p e R s m args below meth c H0 H locs A Q ls hRf hRl S hN hP hK hD hA hS hl kret
  have hl : lv_has ls 5 [(0, .ref (ad 0)), (1, .int a0), (2, .int a1), (3, .int a2)] := hl
  obtain ⟨hx, hb, hml, hown, hts⟩ := S
  have hown : s.vm.findClass RX7 = some m.cls := hown
  have S : CallFix p m c cX7_board 5 s args wsX7_board RX7 := ⟨hx, hb, hml, hown, hts⟩
  have huX7 : ∀ w ∈ u_ws RX7 TX7 29, w ∈ wsX7_board := by decide +kernel
  have hf86 := hts (.fieldLink RX7 86 "EyeBoardModel" "acts" "I") (by decide +kernel)
  unfold f_X7_board at hr
  refine lv_iload_n hx hb dX7_board_0 rfl (lv_at hl 1 rfl) ?_
  refine lv_iconst (v := (2 : Int32)) hx hb dX7_board_1 (by decide) ?_
  refine lv_bipush (v := (7 : Int32)) hx hb dX7_board_2 (by decide) ?_
  obtain ⟨q1, hq1, hr⟩ := bd_use hr
  refine pcS_i (As := [.int a0, .int (2 : Int32), .int (7 : Int32)]) (rest := []) S (c_X7_in l dC dI a0 (2 : Int32) (7 : Int32) q1 hq1) (va_cwS 3 hts gX7_board_X7_in rfl rfl rfl (by decide +kernel) ⟨Nat.le_trans (m := rm_X7_board.frames) (by decide) hRf, Nat.le_trans (m := rm_X7_board.locals) (by decide) hRl⟩) hN hP hK ⟨Nat.zero_le _, Nat.zero_le _⟩ rfl hl.1 rfl (Nat.le_of_ble_eq_true rfl) dX7_board_4 ?_
  refine lv_if_eq (tgt := 29) hx hb dX7_board_7 (by decide) (fun c2 => ?_) (fun c2 => ?_)
  · have hr := ite_p hr c2
    refine lv_bipush (v := (-2 : Int32)) hx hb dX7_board_29 (by decide) ?_
    obtain rfl := Option.some.inj hr
    exact kret _ _ _ _ dX7_board_31 hP hD hS
  · have hr := ite_n hr c2
    refine lv_iload_n hx hb dX7_board_10 rfl (lv_at hl 2 rfl) ?_
    refine lv_iconst (v := (2 : Int32)) hx hb dX7_board_11 (by decide) ?_
    refine lv_bipush (v := (7 : Int32)) hx hb dX7_board_12 (by decide) ?_
    obtain ⟨q3, hq3, hr⟩ := bd_use hr
    refine pcS_i (As := [.int a1, .int (2 : Int32), .int (7 : Int32)]) (rest := []) S (c_X7_in l dC dI a1 (2 : Int32) (7 : Int32) q3 hq3) (va_cwS 3 hts gX7_board_X7_in rfl rfl rfl (by decide +kernel) ⟨Nat.le_trans (m := rm_X7_board.frames) (by decide) hRf, Nat.le_trans (m := rm_X7_board.locals) (by decide) hRl⟩) hN hP hK ⟨Nat.zero_le _, Nat.zero_le _⟩ rfl hl.1 rfl (Nat.le_of_ble_eq_true rfl) dX7_board_14 ?_
    refine lv_if_eq (tgt := 29) hx hb dX7_board_17 (by decide) (fun c4 => ?_) (fun c4 => ?_)
    · have hr := ite_p hr c4
      refine lv_bipush (v := (-2 : Int32)) hx hb dX7_board_29 (by decide) ?_
      obtain rfl := Option.some.inj hr
      exact kret _ _ _ _ dX7_board_31 hP hD hS
    · have hr := ite_n hr c4
      refine lv_iload_n hx hb dX7_board_20 rfl (lv_at hl 3 rfl) ?_
      refine lv_iconst (v := (0 : Int32)) hx hb dX7_board_21 (by decide) ?_
      refine lv_iconst (v := (2 : Int32)) hx hb dX7_board_22 (by decide) ?_
      obtain ⟨q5, hq5, hr⟩ := bd_use hr
      refine pcS_i (As := [.int a2, .int (0 : Int32), .int (2 : Int32)]) (rest := []) S (c_X7_in l dC dI a2 (0 : Int32) (2 : Int32) q5 hq5) (va_cwS 3 hts gX7_board_X7_in rfl rfl rfl (by decide +kernel) ⟨Nat.le_trans (m := rm_X7_board.frames) (by decide) hRf, Nat.le_trans (m := rm_X7_board.locals) (by decide) hRl⟩) hN hP hK ⟨Nat.zero_le _, Nat.zero_le _⟩ rfl hl.1 rfl (Nat.le_of_ble_eq_true rfl) dX7_board_23 ?_
      refine lv_if_ne (tgt := 32) hx hb dX7_board_26 (by decide) (fun c6 => ?_) (fun c6 => ?_)
      · have hr := ite_n hr c6
        refine lv_aload_n hx hb dX7_board_32 rfl (lv_at hl 0 rfl) ?_
        refine va_get (D := (dC, dI)) (ci := 7) (v := .int mo_acts) (C := RX7) (T := TX7) (N := 29) hx hb hts huX7 hown hK hP 0 rfl rfl 4 (by decide) hf86 (fun _ h9 => h9) rfl dX7_board_33 ?_
        refine lv_istore (lv' := [(4, .int mo_acts), (0, .ref (ad 0)), (1, .int a0), (2, .int a1), (3, .int a2)]) hx hb dX7_board_36 hl (by decide) rfl (fun ls hl => ?_)
        refine lv_aload_n hx hb dX7_board_38 rfl (lv_at hl 1 rfl) ?_
        refine lv_iload_n hx hb dX7_board_39 rfl (lv_at hl 2 rfl) ?_
        refine lv_iload_n hx hb dX7_board_40 rfl (lv_at hl 3 rfl) ?_
        refine lv_iload_n hx hb dX7_board_41 rfl (lv_at hl 4 rfl) ?_
        obtain ⟨q7, hq7, hr⟩ := bd_use hr
        refine icV_v (As := [.int a0, .int a1, .int a2]) (rest := []) (ws2 := (wd_X7 ad cA q7.1 q7.2.1 q7.2.2.1 q7.2.2.2.1 mo_newBlack mo_newWhite mo_taken mo_triesMany mo_isSpent mo_found q7.2.2.2.2.1 a_act q7.2.2.2.2.2.1 q7.2.2.2.2.2.2.1 q7.2.2.2.2.2.2.2.1 q7.2.2.2.2.2.2.2.2.1 q7.2.2.2.2.2.2.2.2.2 a_chaseBlack a_chaseWhite a_aheadBlack a_aheadWhite a_hasAhead a_breathsLeft a_laidBlack a_laidWhite a_answersLeft a_firstAnswer a_answering a_next)) S (c_X7_lays l dC dI ad cA mo_wide mo_high mo_law mo_acts mo_newBlack mo_newWhite mo_taken mo_triesMany mo_isSpent mo_found a_neighbours a_act a_blackAt a_whiteAt a_moveAt a_takenBlack a_takenWhite a_chaseBlack a_chaseWhite a_aheadBlack a_aheadWhite a_hasAhead a_breathsLeft a_laidBlack a_laidWhite a_answersLeft a_firstAnswer a_answering a_next H.size a0 a1 a2 q7 hq7) (cwV 3 hts gX7_board_X7_lays rfl rfl rfl (by decide +kernel) ⟨Nat.le_trans (m := rm_X7_board.frames) (by decide) hRf, Nat.le_trans (m := rm_X7_board.locals) (by decide) hRl⟩) hN hP hK hD hS hA ⟨Nat.zero_le _, Nat.zero_le _⟩ [0, 1, 2, 3, 4, 5, 6, 7, 8, 9, 10, 11, 12, 13, 14, 15, 16, 17, 18, 19] [] [0, 1, 2, 3, 4, 5, 6, 7, 8, 9, 10, 11, 12, 13, 14, 15, 16, 17, 18, 19] rfl rfl rfl rfl rfl (by decide) rfl rfl rfl [0, 1, 2, 3, 4, 5, 6, 7, 8, 9, 10, 11, 12, 13, 14, 15, 16, 17, 18] rfl 0 7 rfl rfl rfl hl.1 rfl (Nat.le_of_ble_eq_true rfl) dX7_board_42 (fun H locs hP hD hS => ?_)
        refine lv_iload hx hb dX7_board_45 (lv_at hl 0 rfl) ?_
        obtain rfl := Option.some.inj hr
        exact kret _ _ _ _ dX7_board_47 hP hD hS
      · have hr := ite_p hr c6
        refine lv_bipush (v := (-2 : Int32)) hx hb dX7_board_29 (by decide) ?_
        obtain rfl := Option.some.inj hr
        exact kret _ _ _ _ dX7_board_31 hP hD hS

def lp_X7_set_105 (mo_wide : Int32) (mo_high : Int32) (a_neighbours : Nat → Int64) (x11 : Int64) (x15 : Int64) (K19 : Int32 → Option (Int32 × (Nat → Int64) × (Nat → Int64) × (Nat → Int32))) : Nat → Int32 → Int32 → Option (Int32 × (Nat → Int64) × (Nat → Int64) × (Nat → Int32))
  | 0, _, _ => none
  | nF + 1, v24, v25 =>
    (f_X7_size mo_wide mo_high).bind fun q26 =>
    if q26 ≤ v25 then (
      K19 v24
    )
    else (
      if v24 = 0 then (
        K19 v24
      )
      else (
        nm (jshl (1 : Int64) v25) fun x29 =>
        nm (fun (u30 : Int64) =>
        if u30 &&& x29 = (0 : Int64) then (
          nm (v25 + 1) fun x33 =>
          lp_X7_set_105 mo_wide mo_high a_neighbours x11 x15 K19 nF (1 : Int32) x33
        )
        else (
          (f_X7_spread mo_wide mo_high a_neighbours x29 u30).bind fun q34 =>
          (f_X7_around mo_wide mo_high a_neighbours q34).bind fun q35 =>
          (f_X7_free mo_wide mo_high x11 x15).bind fun q36 =>
          if q35 &&& q36 = (0 : Int64) then (
            nm (v25 + 1) fun x38 =>
            lp_X7_set_105 mo_wide mo_high a_neighbours x11 x15 K19 nF (0 : Int32) x38
          )
          else (
            nm (v25 + 1) fun x39 =>
            lp_X7_set_105 mo_wide mo_high a_neighbours x11 x15 K19 nF (1 : Int32) x39
          )
        )
        ) fun K31 =>
        if x11 &&& x29 = (0 : Int64) then (
          K31 x15
        )
        else (
          K31 x11
        )
      )
    )

def f_X7_set (mo_wide : Int32) (mo_high : Int32) (mo_acts : Int32) (a_neighbours : Nat → Int64) (a_blackAt : Nat → Int64) (a_whiteAt : Nat → Int64) (a_moveAt : Nat → Int32) (a0 : Int32) (a1 : Int32) (a2 : Int32) : Option (Int32 × (Nat → Int64) × (Nat → Int64) × (Nat → Int32)) :=
  (f_X7_isCrossing mo_wide mo_high a0).bind fun q1 =>
  if q1 = 0 then (
    some ((-2 : Int32), a_blackAt, a_whiteAt, a_moveAt)
  )
  else (
    (f_X7_in a1 (0 : Int32) (2 : Int32)).bind fun q3 =>
    if q3 = 0 then (
      some ((-2 : Int32), a_blackAt, a_whiteAt, a_moveAt)
    )
    else (
      (f_X7_in a2 (1 : Int32) (2 : Int32)).bind fun q5 =>
      if q5 = 0 then (
        some ((-2 : Int32), a_blackAt, a_whiteAt, a_moveAt)
      )
      else (
        nm (jshl (1 : Int64) a0) fun x7 =>
        if ((0 : Int32) < 0 ∨ 130 ≤ (0 : Int32).toNatClampNeg) then none else
        nm (fun (u9 : Int64) =>
        nm (((a_blackAt (0 : Int32).toNatClampNeg) &&& (x7 ^^^ (-1 : Int64))) ||| u9) fun x11 =>
        if ((0 : Int32) < 0 ∨ 130 ≤ (0 : Int32).toNatClampNeg) then none else
        nm (fun (u13 : Int64) =>
        nm (((a_whiteAt (0 : Int32).toNatClampNeg) &&& (x7 ^^^ (-1 : Int64))) ||| u13) fun x15 =>
        nm (fun (u16 : Int32) =>
        nm (fun (v18 : Int32) =>
        if v18 = 0 then (
          some ((-3 : Int32), a_blackAt, a_whiteAt, a_moveAt)
        )
        else (
          if ((0 : Int32) < 0 ∨ 130 ≤ (0 : Int32).toNatClampNeg) then none else
          if ((0 : Int32) < 0 ∨ 130 ≤ (0 : Int32).toNatClampNeg) then none else
          if ((0 : Int32) < 0 ∨ 130 ≤ (0 : Int32).toNatClampNeg) then none else
          some ((1 : Int32), vp_updL a_blackAt (0 : Int32).toNatClampNeg x11, vp_updL a_whiteAt (0 : Int32).toNatClampNeg x15, upd a_moveAt (0 : Int32).toNatClampNeg a2)
        )
        ) fun K19 =>
        lp_X7_set_105 mo_wide mo_high a_neighbours x11 x15 K19 FU u16 (0 : Int32)
        ) fun K17 =>
        if mo_acts = 0 then (
          K17 (1 : Int32)
        )
        else (
          K17 (0 : Int32)
        )
        ) fun K14 =>
        if a1 = (2 : Int32) then (
          K14 x7
        )
        else (
          K14 (0 : Int64)
        )
        ) fun K10 =>
        if a1 = (1 : Int32) then (
          K10 x7
        )
        else (
          K10 (0 : Int64)
        )
      )
    )
  )

abbrev rm_X7_set : Room := { frames := 3, cells := 0, slots := 0, locals := 73 }
set_option maxHeartbeats 4000000 in
set_option maxRecDepth 100000 in
theorem c_X7_set (l : Launch) (dC : Nat → ClassId) (dI : Nat → Nat → Nat) (ad : Nat → Nat) (cA : Nat → ClassId) (mo_wide mo_high mo_law mo_acts : Int32) (mo_newBlack mo_newWhite : Int64) (mo_taken mo_triesMany mo_isSpent mo_found : Int32) (a_neighbours : Nat → Int64) (a_act : Nat → Int32) (a_blackAt a_whiteAt : Nat → Int64) (a_moveAt a_takenBlack a_takenWhite : Nat → Int32) (a_chaseBlack a_chaseWhite a_aheadBlack a_aheadWhite : Nat → Int64) (a_hasAhead : Nat → Int32) (a_breathsLeft a_laidBlack a_laidWhite a_answersLeft : Nat → Int64) (a_firstAnswer a_answering a_next : Nat → Int32) (sz : Nat) (a0 : Int32) (a1 : Int32) (a2 : Int32) (q : Int32 × (Nat → Int64) × (Nat → Int64) × (Nat → Int32)) (hr : f_X7_set mo_wide mo_high mo_acts a_neighbours a_blackAt a_whiteAt a_moveAt a0 a1 a2 = some q) : Met l yX7_set wsX7_set rm_X7_set (PrI (dC, dI) (wd_X7 ad cA mo_wide mo_high mo_law mo_acts mo_newBlack mo_newWhite mo_taken mo_triesMany mo_isSpent mo_found a_neighbours a_act a_blackAt a_whiteAt a_moveAt a_takenBlack a_takenWhite a_chaseBlack a_chaseWhite a_aheadBlack a_aheadWhite a_hasAhead a_breathsLeft a_laidBlack a_laidWhite a_answersLeft a_firstAnswer a_answering a_next) (td_X7 cA) sz [.ref (ad 0), .int a0, .int a1, .int a2]) (QIi (dC, dI) (wd_X7 ad cA mo_wide mo_high mo_law mo_acts mo_newBlack mo_newWhite mo_taken mo_triesMany mo_isSpent mo_found a_neighbours a_act a_blackAt a_whiteAt a_moveAt a_takenBlack a_takenWhite a_chaseBlack a_chaseWhite a_aheadBlack a_aheadWhite a_hasAhead a_breathsLeft a_laidBlack a_laidWhite a_answersLeft a_firstAnswer a_answering a_next) (td_X7 cA) sz q.1 (wd_X7 ad cA mo_wide mo_high mo_law mo_acts mo_newBlack mo_newWhite mo_taken mo_triesMany mo_isSpent mo_found a_neighbours a_act q.2.1 q.2.2.1 q.2.2.2 a_takenBlack a_takenWhite a_chaseBlack a_chaseWhite a_aheadBlack a_aheadWhite a_hasAhead a_breathsLeft a_laidBlack a_laidWhite a_answersLeft a_firstAnswer a_answering a_next)) 0 0 (va_A (wd_X7 ad cA mo_wide mo_high mo_law mo_acts mo_newBlack mo_newWhite mo_taken mo_triesMany mo_isSpent mo_found a_neighbours a_act a_blackAt a_whiteAt a_moveAt a_takenBlack a_takenWhite a_chaseBlack a_chaseWhite a_aheadBlack a_aheadWhite a_hasAhead a_breathsLeft a_laidBlack a_laidWhite a_answersLeft a_firstAnswer a_answering a_next) sz) := by
  refine mkI_i (cc := cX7_set) (nL := 16) (by decide) rfl (Nat.le_of_ble_eq_true rfl) ?_
  intro p e R s m args below meth c H0 H locs A Q ls hRf hRl S hN hP hK hD hA hS hl kret
  have hl : lv_has ls 16 [(0, .ref (ad 0)), (1, .int a0), (2, .int a1), (3, .int a2)] := hl
  obtain ⟨hx, hb, hml, hown, hts⟩ := S
  have hown : s.vm.findClass RX7 = some m.cls := hown
  have S : CallFix p m c cX7_set 16 s args wsX7_set RX7 := ⟨hx, hb, hml, hown, hts⟩
  have huX7 : ∀ w ∈ u_ws RX7 TX7 29, w ∈ wsX7_set := by decide +kernel
  have hf24 := hts (.fieldLink RX7 24 "EyeBoardModel" "blackAt" "[J") (by decide +kernel)
  have hk105 := hts (.constantLong RX7 105 (-1 : Int64)) (by decide +kernel)
  have hf27 := hts (.fieldLink RX7 27 "EyeBoardModel" "whiteAt" "[J") (by decide +kernel)
  have hf86 := hts (.fieldLink RX7 86 "EyeBoardModel" "acts" "I") (by decide +kernel)
  have hf30 := hts (.fieldLink RX7 30 "EyeBoardModel" "moveAt" "[I") (by decide +kernel)
  unfold f_X7_set at hr
  refine lv_aload_n hx hb dX7_set_0 rfl (lv_at hl 0 rfl) ?_
  refine lv_iload_n hx hb dX7_set_1 rfl (lv_at hl 1 rfl) ?_
  obtain ⟨q1, hq1, hr⟩ := bd_use hr
  refine pcV_i (As := [.int a0]) (rest := []) S (c_X7_isCrossing l dC dI ad cA mo_wide mo_high mo_law mo_acts mo_newBlack mo_newWhite mo_taken mo_triesMany mo_isSpent mo_found a_neighbours a_act a_blackAt a_whiteAt a_moveAt a_takenBlack a_takenWhite a_chaseBlack a_chaseWhite a_aheadBlack a_aheadWhite a_hasAhead a_breathsLeft a_laidBlack a_laidWhite a_answersLeft a_firstAnswer a_answering a_next a0 q1 hq1) (cwV 1 hts gX7_set_X7_isCrossing rfl rfl rfl (by decide +kernel) ⟨Nat.le_trans (m := rm_X7_set.frames) (by decide) hRf, Nat.le_trans (m := rm_X7_set.locals) (by decide) hRl⟩) hN hP hK ⟨Nat.zero_le _, Nat.zero_le _⟩ [0, 1, 2, 3, 4, 5, 6, 7, 8, 9, 10, 11, 12, 13, 14, 15, 16, 17, 18, 19] rfl [0, 1, 2, 3, 4, 5, 6, 7, 8, 9, 10, 11, 12, 13, 14, 15, 16, 17, 18] rfl 0 7 rfl rfl rfl hl.1 rfl (Nat.le_of_ble_eq_true rfl) dX7_set_2 ?_
  refine lv_if_eq (tgt := 26) hx hb dX7_set_5 (by decide) (fun c2 => ?_) (fun c2 => ?_)
  · have hr := ite_p hr c2
    refine lv_bipush (v := (-2 : Int32)) hx hb dX7_set_26 (by decide) ?_
    obtain rfl := Option.some.inj hr
    exact kret _ _ _ _ dX7_set_28 hP hD hS
  · have hr := ite_n hr c2
    refine lv_iload_n hx hb dX7_set_8 rfl (lv_at hl 2 rfl) ?_
    refine lv_iconst (v := (0 : Int32)) hx hb dX7_set_9 (by decide) ?_
    refine lv_iconst (v := (2 : Int32)) hx hb dX7_set_10 (by decide) ?_
    obtain ⟨q3, hq3, hr⟩ := bd_use hr
    refine pcS_i (As := [.int a1, .int (0 : Int32), .int (2 : Int32)]) (rest := []) S (c_X7_in l dC dI a1 (0 : Int32) (2 : Int32) q3 hq3) (va_cwS 3 hts gX7_set_X7_in rfl rfl rfl (by decide +kernel) ⟨Nat.le_trans (m := rm_X7_set.frames) (by decide) hRf, Nat.le_trans (m := rm_X7_set.locals) (by decide) hRl⟩) hN hP hK ⟨Nat.zero_le _, Nat.zero_le _⟩ rfl hl.1 rfl (Nat.le_of_ble_eq_true rfl) dX7_set_11 ?_
    refine lv_if_eq (tgt := 26) hx hb dX7_set_14 (by decide) (fun c4 => ?_) (fun c4 => ?_)
    · have hr := ite_p hr c4
      refine lv_bipush (v := (-2 : Int32)) hx hb dX7_set_26 (by decide) ?_
      obtain rfl := Option.some.inj hr
      exact kret _ _ _ _ dX7_set_28 hP hD hS
    · have hr := ite_n hr c4
      refine lv_iload_n hx hb dX7_set_17 rfl (lv_at hl 3 rfl) ?_
      refine lv_iconst (v := (1 : Int32)) hx hb dX7_set_18 (by decide) ?_
      refine lv_iconst (v := (2 : Int32)) hx hb dX7_set_19 (by decide) ?_
      obtain ⟨q5, hq5, hr⟩ := bd_use hr
      refine pcS_i (As := [.int a2, .int (1 : Int32), .int (2 : Int32)]) (rest := []) S (c_X7_in l dC dI a2 (1 : Int32) (2 : Int32) q5 hq5) (va_cwS 3 hts gX7_set_X7_in rfl rfl rfl (by decide +kernel) ⟨Nat.le_trans (m := rm_X7_set.frames) (by decide) hRf, Nat.le_trans (m := rm_X7_set.locals) (by decide) hRl⟩) hN hP hK ⟨Nat.zero_le _, Nat.zero_le _⟩ rfl hl.1 rfl (Nat.le_of_ble_eq_true rfl) dX7_set_20 ?_
      refine lv_if_ne (tgt := 29) hx hb dX7_set_23 (by decide) (fun c6 => ?_) (fun c6 => ?_)
      · have hr := ite_n hr c6
        refine lv_lconst (v := (1 : Int64)) hx hb dX7_set_29 (by decide) ?_
        refine lv_iload_n hx hb dX7_set_30 rfl (lv_at hl 1 rfl) ?_
        refine lv_lshl (v := jshl (1 : Int64) a0) hx hb dX7_set_31 rfl ?_
        refine lv_topl (fun x7 ex7 => ?_)
        have hr := nm_use hr ex7
        refine lv_lstore (lv' := [(4, .long x7), (0, .ref (ad 0)), (1, .int a0), (2, .int a1), (3, .int a2)]) hx hb dX7_set_32 hl (by decide) rfl (fun ls hl => ?_)
        refine lv_aload_n hx hb dX7_set_34 rfl (lv_at hl 1 rfl) ?_
        refine va_get (D := (dC, dI)) (ci := 7) (v := .ref (ad 3)) (C := RX7) (T := TX7) (N := 29) hx hb hts huX7 hown hK hP 0 rfl rfl 6 (by decide) hf24 (fun _ h9 => h9) rfl dX7_set_35 ?_
        refine lv_iconst (v := (0 : Int32)) hx hb dX7_set_38 (by decide) ?_
        obtain ⟨hi8, hr⟩ := ite_g hr
        refine va_lald hx hb hK hP 3 2 rfl rfl hi8 dX7_set_39 ?_
        refine lv_lload hx hb dX7_set_40 (lv_at hl 0 rfl) ?_
        refine W.ldc2 (v := (-1 : Int64)) hx hb hown hk105 rfl dX7_set_42 ?_
        refine W.eq (g2 := F0 m 45 ls [.long (-1 : Int64), .long x7, .long (a_blackAt (0 : Int32).toNatClampNeg)]) rfl ?_
        refine lv_lxor hx hb dX7_set_45 ?_
        refine lv_land hx hb dX7_set_46 ?_
        refine lv_iload_n hx hb dX7_set_47 rfl (lv_at hl 3 rfl) ?_
        refine lv_iconst (v := (1 : Int32)) hx hb dX7_set_48 (by decide) ?_
        obtain ⟨K10, eK10, hr⟩ := nm_ex hr
        have kK10 : ∀ (u9 : Int64) (H : Heap) (locs : List Loc) , K10 u9 = some q → va_P (dC, dI) vwCl (wd_X7 ad cA mo_wide mo_high mo_law mo_acts mo_newBlack mo_newWhite mo_taken mo_triesMany mo_isSpent mo_found a_neighbours a_act a_blackAt a_whiteAt a_moveAt a_takenBlack a_takenWhite a_chaseBlack a_chaseWhite a_aheadBlack a_aheadWhite a_hasAhead a_breathsLeft a_laidBlack a_laidWhite a_answersLeft a_firstAnswer a_answering a_next) H → va_D A (wd_X7 ad cA mo_wide mo_high mo_law mo_acts mo_newBlack mo_newWhite mo_taken mo_triesMany mo_isSpent mo_found a_neighbours a_act a_blackAt a_whiteAt a_moveAt a_takenBlack a_takenWhite a_chaseBlack a_chaseWhite a_aheadBlack a_aheadWhite a_hasAhead a_breathsLeft a_laidBlack a_laidWhite a_answersLeft a_firstAnswer a_answering a_next) → va_S A H0 H locs → ∀ (ls : Array Slot), lv_has ls 16 [(0, .ref (ad 0)), (2, .int a1), (3, .int a2), (4, .long x7)] → W p l e R s m args below meth c H locs 0 0 Q (F0 m 58 ls [.long u9, .long ((a_blackAt (0 : Int32).toNatClampNeg) &&& (x7 ^^^ (-1 : Int64)))]) := by
          intro u9 H locs hr hP hD hS ls hl
          rw [eK10] at hr
          refine lv_lor hx hb dX7_set_58 ?_
          refine lv_topl (fun x11 ex11 => ?_)
          have hr := nm_use hr ex11
          refine lv_lstore (lv' := [(6, .long x11), (0, .ref (ad 0)), (2, .int a1), (3, .int a2), (4, .long x7)]) hx hb dX7_set_59 hl (by decide) rfl (fun ls hl => ?_)
          refine lv_aload_n hx hb dX7_set_61 rfl (lv_at hl 1 rfl) ?_
          refine va_get (D := (dC, dI)) (ci := 7) (v := .ref (ad 4)) (C := RX7) (T := TX7) (N := 29) hx hb hts huX7 hown hK hP 0 rfl rfl 7 (by decide) hf27 (fun _ h9 => h9) rfl dX7_set_62 ?_
          refine lv_iconst (v := (0 : Int32)) hx hb dX7_set_65 (by decide) ?_
          obtain ⟨hi12, hr⟩ := ite_g hr
          refine va_lald hx hb hK hP 4 3 rfl rfl hi12 dX7_set_66 ?_
          refine lv_lload hx hb dX7_set_67 (lv_at hl 4 rfl) ?_
          refine W.ldc2 (v := (-1 : Int64)) hx hb hown hk105 rfl dX7_set_69 ?_
          refine W.eq (g2 := F0 m 72 ls [.long (-1 : Int64), .long x7, .long (a_whiteAt (0 : Int32).toNatClampNeg)]) rfl ?_
          refine lv_lxor hx hb dX7_set_72 ?_
          refine lv_land hx hb dX7_set_73 ?_
          refine lv_iload_n hx hb dX7_set_74 rfl (lv_at hl 2 rfl) ?_
          refine lv_iconst (v := (2 : Int32)) hx hb dX7_set_75 (by decide) ?_
          obtain ⟨K14, eK14, hr⟩ := nm_ex hr
          have kK14 : ∀ (u13 : Int64) (H : Heap) (locs : List Loc) , K14 u13 = some q → va_P (dC, dI) vwCl (wd_X7 ad cA mo_wide mo_high mo_law mo_acts mo_newBlack mo_newWhite mo_taken mo_triesMany mo_isSpent mo_found a_neighbours a_act a_blackAt a_whiteAt a_moveAt a_takenBlack a_takenWhite a_chaseBlack a_chaseWhite a_aheadBlack a_aheadWhite a_hasAhead a_breathsLeft a_laidBlack a_laidWhite a_answersLeft a_firstAnswer a_answering a_next) H → va_D A (wd_X7 ad cA mo_wide mo_high mo_law mo_acts mo_newBlack mo_newWhite mo_taken mo_triesMany mo_isSpent mo_found a_neighbours a_act a_blackAt a_whiteAt a_moveAt a_takenBlack a_takenWhite a_chaseBlack a_chaseWhite a_aheadBlack a_aheadWhite a_hasAhead a_breathsLeft a_laidBlack a_laidWhite a_answersLeft a_firstAnswer a_answering a_next) → va_S A H0 H locs → ∀ (ls : Array Slot), lv_has ls 16 [(0, .ref (ad 0)), (3, .int a2), (6, .long x11)] → W p l e R s m args below meth c H locs 0 0 Q (F0 m 85 ls [.long u13, .long ((a_whiteAt (0 : Int32).toNatClampNeg) &&& (x7 ^^^ (-1 : Int64)))]) := by
            intro u13 H locs hr hP hD hS ls hl
            rw [eK14] at hr
            refine lv_lor hx hb dX7_set_85 ?_
            refine lv_topl (fun x15 ex15 => ?_)
            have hr := nm_use hr ex15
            refine lv_lstore (lv' := [(8, .long x15), (0, .ref (ad 0)), (3, .int a2), (6, .long x11)]) hx hb dX7_set_86 hl (by decide) rfl (fun ls hl => ?_)
            refine lv_aload_n hx hb dX7_set_88 rfl (lv_at hl 1 rfl) ?_
            refine va_get (D := (dC, dI)) (ci := 7) (v := .int mo_acts) (C := RX7) (T := TX7) (N := 29) hx hb hts huX7 hown hK hP 0 rfl rfl 4 (by decide) hf86 (fun _ h9 => h9) rfl dX7_set_89 ?_
            obtain ⟨K17, eK17, hr⟩ := nm_ex hr
            have kK17 : ∀ (u16 : Int32) (H : Heap) (locs : List Loc) , K17 u16 = some q → va_P (dC, dI) vwCl (wd_X7 ad cA mo_wide mo_high mo_law mo_acts mo_newBlack mo_newWhite mo_taken mo_triesMany mo_isSpent mo_found a_neighbours a_act a_blackAt a_whiteAt a_moveAt a_takenBlack a_takenWhite a_chaseBlack a_chaseWhite a_aheadBlack a_aheadWhite a_hasAhead a_breathsLeft a_laidBlack a_laidWhite a_answersLeft a_firstAnswer a_answering a_next) H → va_D A (wd_X7 ad cA mo_wide mo_high mo_law mo_acts mo_newBlack mo_newWhite mo_taken mo_triesMany mo_isSpent mo_found a_neighbours a_act a_blackAt a_whiteAt a_moveAt a_takenBlack a_takenWhite a_chaseBlack a_chaseWhite a_aheadBlack a_aheadWhite a_hasAhead a_breathsLeft a_laidBlack a_laidWhite a_answersLeft a_firstAnswer a_answering a_next) → va_S A H0 H locs → ∀ (ls : Array Slot), lv_has ls 16 [(0, .ref (ad 0)), (3, .int a2), (6, .long x11), (8, .long x15)] → W p l e R s m args below meth c H locs 0 0 Q (F0 m 100 ls [.int u16]) := by
              intro u16 H locs hr hP hD hS ls hl
              rw [eK17] at hr
              refine lv_istore (lv' := [(10, .int u16), (0, .ref (ad 0)), (3, .int a2), (6, .long x11), (8, .long x15)]) hx hb dX7_set_100 hl (by decide) rfl (fun ls hl => ?_)
              refine lv_iconst (v := (0 : Int32)) hx hb dX7_set_102 (by decide) ?_
              refine lv_istore (lv' := [(11, .int (0 : Int32)), (10, .int u16), (0, .ref (ad 0)), (3, .int a2), (6, .long x11), (8, .long x15)]) hx hb dX7_set_103 hl (by decide) rfl (fun ls hl => ?_)
              obtain ⟨K19, eK19, hr⟩ := nm_ex hr
              have kK19 : ∀ (v18 : Int32) (H : Heap) (locs : List Loc) , K19 v18 = some q → va_P (dC, dI) vwCl (wd_X7 ad cA mo_wide mo_high mo_law mo_acts mo_newBlack mo_newWhite mo_taken mo_triesMany mo_isSpent mo_found a_neighbours a_act a_blackAt a_whiteAt a_moveAt a_takenBlack a_takenWhite a_chaseBlack a_chaseWhite a_aheadBlack a_aheadWhite a_hasAhead a_breathsLeft a_laidBlack a_laidWhite a_answersLeft a_firstAnswer a_answering a_next) H → va_D A (wd_X7 ad cA mo_wide mo_high mo_law mo_acts mo_newBlack mo_newWhite mo_taken mo_triesMany mo_isSpent mo_found a_neighbours a_act a_blackAt a_whiteAt a_moveAt a_takenBlack a_takenWhite a_chaseBlack a_chaseWhite a_aheadBlack a_aheadWhite a_hasAhead a_breathsLeft a_laidBlack a_laidWhite a_answersLeft a_firstAnswer a_answering a_next) → va_S A H0 H locs → ∀ (ls : Array Slot), lv_has ls 16 [(0, .ref (ad 0)), (3, .int a2), (6, .long x11), (8, .long x15), (10, .int v18)] → W p l e R s m args below meth c H locs 0 0 Q (F0 m 193 ls []) := by
                intro v18 H locs hr hP hD hS ls hl
                rw [eK19] at hr
                refine lv_iload hx hb dX7_set_193 (lv_at hl 4 rfl) ?_
                refine lv_if_ne (tgt := 201) hx hb dX7_set_195 (by decide) (fun c20 => ?_) (fun c20 => ?_)
                · have hr := ite_n hr c20
                  refine lv_aload_n hx hb dX7_set_201 rfl (lv_at hl 0 rfl) ?_
                  refine va_get (D := (dC, dI)) (ci := 7) (v := .ref (ad 3)) (C := RX7) (T := TX7) (N := 29) hx hb hts huX7 hown hK hP 0 rfl rfl 6 (by decide) hf24 (fun _ h9 => h9) rfl dX7_set_202 ?_
                  refine lv_iconst (v := (0 : Int32)) hx hb dX7_set_205 (by decide) ?_
                  refine lv_lload hx hb dX7_set_206 (lv_at hl 2 rfl) ?_
                  obtain ⟨hi21, hr⟩ := ite_g hr
                  refine va_last hx hb hK hP hD hS 3 2 rfl rfl hi21 dX7_set_208 (fun H locs hP hD hS => ?_)
                  have hP : va_P (dC, dI) vwCl (wd_X7 ad cA mo_wide mo_high mo_law mo_acts mo_newBlack mo_newWhite mo_taken mo_triesMany mo_isSpent mo_found a_neighbours a_act (vp_updL a_blackAt (0 : Int32).toNatClampNeg x11) a_whiteAt a_moveAt a_takenBlack a_takenWhite a_chaseBlack a_chaseWhite a_aheadBlack a_aheadWhite a_hasAhead a_breathsLeft a_laidBlack a_laidWhite a_answersLeft a_firstAnswer a_answering a_next) H := hP
                  have hD : va_D A (wd_X7 ad cA mo_wide mo_high mo_law mo_acts mo_newBlack mo_newWhite mo_taken mo_triesMany mo_isSpent mo_found a_neighbours a_act (vp_updL a_blackAt (0 : Int32).toNatClampNeg x11) a_whiteAt a_moveAt a_takenBlack a_takenWhite a_chaseBlack a_chaseWhite a_aheadBlack a_aheadWhite a_hasAhead a_breathsLeft a_laidBlack a_laidWhite a_answersLeft a_firstAnswer a_answering a_next) := hD
                  refine lv_aload_n hx hb dX7_set_209 rfl (lv_at hl 0 rfl) ?_
                  refine va_get (D := (dC, dI)) (ci := 7) (v := .ref (ad 4)) (C := RX7) (T := TX7) (N := 29) hx hb hts huX7 hown hK hP 0 rfl rfl 7 (by decide) hf27 (fun _ h9 => h9) rfl dX7_set_210 ?_
                  refine lv_iconst (v := (0 : Int32)) hx hb dX7_set_213 (by decide) ?_
                  refine lv_lload hx hb dX7_set_214 (lv_at hl 3 rfl) ?_
                  obtain ⟨hi22, hr⟩ := ite_g hr
                  refine va_last hx hb hK hP hD hS 4 3 rfl rfl hi22 dX7_set_216 (fun H locs hP hD hS => ?_)
                  have hP : va_P (dC, dI) vwCl (wd_X7 ad cA mo_wide mo_high mo_law mo_acts mo_newBlack mo_newWhite mo_taken mo_triesMany mo_isSpent mo_found a_neighbours a_act (vp_updL a_blackAt (0 : Int32).toNatClampNeg x11) (vp_updL a_whiteAt (0 : Int32).toNatClampNeg x15) a_moveAt a_takenBlack a_takenWhite a_chaseBlack a_chaseWhite a_aheadBlack a_aheadWhite a_hasAhead a_breathsLeft a_laidBlack a_laidWhite a_answersLeft a_firstAnswer a_answering a_next) H := hP
                  have hD : va_D A (wd_X7 ad cA mo_wide mo_high mo_law mo_acts mo_newBlack mo_newWhite mo_taken mo_triesMany mo_isSpent mo_found a_neighbours a_act (vp_updL a_blackAt (0 : Int32).toNatClampNeg x11) (vp_updL a_whiteAt (0 : Int32).toNatClampNeg x15) a_moveAt a_takenBlack a_takenWhite a_chaseBlack a_chaseWhite a_aheadBlack a_aheadWhite a_hasAhead a_breathsLeft a_laidBlack a_laidWhite a_answersLeft a_firstAnswer a_answering a_next) := hD
                  refine lv_aload_n hx hb dX7_set_217 rfl (lv_at hl 0 rfl) ?_
                  refine va_get (D := (dC, dI)) (ci := 7) (v := .ref (ad 5)) (C := RX7) (T := TX7) (N := 29) hx hb hts huX7 hown hK hP 0 rfl rfl 8 (by decide) hf30 (fun _ h9 => h9) rfl dX7_set_218 ?_
                  refine lv_iconst (v := (0 : Int32)) hx hb dX7_set_221 (by decide) ?_
                  refine lv_iload_n hx hb dX7_set_222 rfl (lv_at hl 1 rfl) ?_
                  obtain ⟨hi23, hr⟩ := ite_g hr
                  refine va_iast hx hb hK hP hD hS 5 4 rfl rfl hi23 dX7_set_223 (fun H locs hP hD hS => ?_)
                  have hP : va_P (dC, dI) vwCl (wd_X7 ad cA mo_wide mo_high mo_law mo_acts mo_newBlack mo_newWhite mo_taken mo_triesMany mo_isSpent mo_found a_neighbours a_act (vp_updL a_blackAt (0 : Int32).toNatClampNeg x11) (vp_updL a_whiteAt (0 : Int32).toNatClampNeg x15) (upd a_moveAt (0 : Int32).toNatClampNeg a2) a_takenBlack a_takenWhite a_chaseBlack a_chaseWhite a_aheadBlack a_aheadWhite a_hasAhead a_breathsLeft a_laidBlack a_laidWhite a_answersLeft a_firstAnswer a_answering a_next) H := hP
                  have hD : va_D A (wd_X7 ad cA mo_wide mo_high mo_law mo_acts mo_newBlack mo_newWhite mo_taken mo_triesMany mo_isSpent mo_found a_neighbours a_act (vp_updL a_blackAt (0 : Int32).toNatClampNeg x11) (vp_updL a_whiteAt (0 : Int32).toNatClampNeg x15) (upd a_moveAt (0 : Int32).toNatClampNeg a2) a_takenBlack a_takenWhite a_chaseBlack a_chaseWhite a_aheadBlack a_aheadWhite a_hasAhead a_breathsLeft a_laidBlack a_laidWhite a_answersLeft a_firstAnswer a_answering a_next) := hD
                  refine lv_iconst (v := (1 : Int32)) hx hb dX7_set_224 (by decide) ?_
                  obtain rfl := Option.some.inj hr
                  exact kret _ _ _ _ dX7_set_225 hP hD hS
                · have hr := ite_p hr c20
                  refine lv_bipush (v := (-3 : Int32)) hx hb dX7_set_198 (by decide) ?_
                  obtain rfl := Option.some.inj hr
                  exact kret _ _ _ _ dX7_set_200 hP hD hS
              have llp_X7_set_105 : ∀ (nF : Nat) (v24 : Int32) (v25 : Int32) (H : Heap) (locs : List Loc), lp_X7_set_105 mo_wide mo_high a_neighbours x11 x15 K19 nF v24 v25 = some q → va_P (dC, dI) vwCl (wd_X7 ad cA mo_wide mo_high mo_law mo_acts mo_newBlack mo_newWhite mo_taken mo_triesMany mo_isSpent mo_found a_neighbours a_act a_blackAt a_whiteAt a_moveAt a_takenBlack a_takenWhite a_chaseBlack a_chaseWhite a_aheadBlack a_aheadWhite a_hasAhead a_breathsLeft a_laidBlack a_laidWhite a_answersLeft a_firstAnswer a_answering a_next) H → va_D A (wd_X7 ad cA mo_wide mo_high mo_law mo_acts mo_newBlack mo_newWhite mo_taken mo_triesMany mo_isSpent mo_found a_neighbours a_act a_blackAt a_whiteAt a_moveAt a_takenBlack a_takenWhite a_chaseBlack a_chaseWhite a_aheadBlack a_aheadWhite a_hasAhead a_breathsLeft a_laidBlack a_laidWhite a_answersLeft a_firstAnswer a_answering a_next) → va_S A H0 H locs → ∀ (ls : Array Slot), lv_has ls 16 [(0, .ref (ad 0)), (3, .int a2), (6, .long x11), (8, .long x15), (10, .int v24), (11, .int v25)] → W p l e R s m args below meth c H locs 0 0 Q (F0 m 105 ls []) := by
                intro nF
                induction nF with
                | zero => intro v24 v25 H locs hr; exact absurd hr (by simp [lp_X7_set_105])
                | succ nF ih =>
                  intro v24 v25 H locs hr hP hD hS ls hl
                  rw [lp_X7_set_105] at hr
                  refine lv_iload hx hb dX7_set_105 (lv_at hl 5 rfl) ?_
                  refine lv_aload_n hx hb dX7_set_107 rfl (lv_at hl 0 rfl) ?_
                  obtain ⟨q26, hq26, hr⟩ := bd_use hr
                  refine pcV_i (As := []) (rest := [.int v25]) S (c_X7_size l dC dI ad cA mo_wide mo_high mo_law mo_acts mo_newBlack mo_newWhite mo_taken mo_triesMany mo_isSpent mo_found a_neighbours a_act a_blackAt a_whiteAt a_moveAt a_takenBlack a_takenWhite a_chaseBlack a_chaseWhite a_aheadBlack a_aheadWhite a_hasAhead a_breathsLeft a_laidBlack a_laidWhite a_answersLeft a_firstAnswer a_answering a_next q26 hq26) (cwV 0 hts gX7_set_X7_size rfl rfl rfl (by decide +kernel) ⟨Nat.le_trans (m := rm_X7_set.frames) (by decide) hRf, Nat.le_trans (m := rm_X7_set.locals) (by decide) hRl⟩) hN hP hK ⟨Nat.zero_le _, Nat.zero_le _⟩ [0, 1, 2, 3, 4, 5, 6, 7, 8, 9, 10, 11, 12, 13, 14, 15, 16, 17, 18, 19] rfl [0, 1, 2, 3, 4, 5, 6, 7, 8, 9, 10, 11, 12, 13, 14, 15, 16, 17, 18] rfl 0 7 rfl rfl rfl hl.1 rfl (Nat.le_of_ble_eq_true rfl) dX7_set_108 ?_
                  refine lv_icmp_ge (tgt := 193) hx hb dX7_set_111 (by decide) (fun c27 => ?_) (fun c27 => ?_)
                  · have hr := ite_p hr c27
                    exact kK19 v24 _ _ hr hP hD hS ls (lv_sub hl [0, 1, 2, 3, 4] rfl)
                  · have hr := ite_n hr c27
                    refine lv_iload hx hb dX7_set_114 (lv_at hl 4 rfl) ?_
                    refine lv_if_eq (tgt := 193) hx hb dX7_set_116 (by decide) (fun c28 => ?_) (fun c28 => ?_)
                    · have hr := ite_p hr c28
                      exact kK19 v24 _ _ hr hP hD hS ls (lv_sub hl [0, 1, 2, 3, 4] rfl)
                    · have hr := ite_n hr c28
                      refine lv_lconst (v := (1 : Int64)) hx hb dX7_set_119 (by decide) ?_
                      refine lv_iload hx hb dX7_set_120 (lv_at hl 5 rfl) ?_
                      refine lv_lshl (v := jshl (1 : Int64) v25) hx hb dX7_set_122 rfl ?_
                      refine lv_topl (fun x29 ex29 => ?_)
                      have hr := nm_use hr ex29
                      refine lv_lstore (lv' := [(12, .long x29), (0, .ref (ad 0)), (3, .int a2), (6, .long x11), (8, .long x15), (10, .int v24), (11, .int v25)]) hx hb dX7_set_123 hl (by decide) rfl (fun ls hl => ?_)
                      refine lv_lload hx hb dX7_set_125 (lv_at hl 3 rfl) ?_
                      refine lv_lload hx hb dX7_set_127 (lv_at hl 0 rfl) ?_
                      refine lv_land hx hb dX7_set_129 ?_
                      refine lv_lconst (v := (0 : Int64)) hx hb dX7_set_130 (by decide) ?_
                      refine W.lcmp hx hb dX7_set_131 ?_
                      obtain ⟨K31, eK31, hr⟩ := nm_ex hr
                      have kK31 : ∀ (u30 : Int64) (H : Heap) (locs : List Loc) , K31 u30 = some q → va_P (dC, dI) vwCl (wd_X7 ad cA mo_wide mo_high mo_law mo_acts mo_newBlack mo_newWhite mo_taken mo_triesMany mo_isSpent mo_found a_neighbours a_act a_blackAt a_whiteAt a_moveAt a_takenBlack a_takenWhite a_chaseBlack a_chaseWhite a_aheadBlack a_aheadWhite a_hasAhead a_breathsLeft a_laidBlack a_laidWhite a_answersLeft a_firstAnswer a_answering a_next) H → va_D A (wd_X7 ad cA mo_wide mo_high mo_law mo_acts mo_newBlack mo_newWhite mo_taken mo_triesMany mo_isSpent mo_found a_neighbours a_act a_blackAt a_whiteAt a_moveAt a_takenBlack a_takenWhite a_chaseBlack a_chaseWhite a_aheadBlack a_aheadWhite a_hasAhead a_breathsLeft a_laidBlack a_laidWhite a_answersLeft a_firstAnswer a_answering a_next) → va_S A H0 H locs → ∀ (ls : Array Slot), lv_has ls 16 [(0, .ref (ad 0)), (3, .int a2), (6, .long x11), (8, .long x15), (11, .int v25), (12, .long x29)] → W p l e R s m args below meth c H locs 0 0 Q (F0 m 142 ls [.long u30]) := by
                        intro u30 H locs hr hP hD hS ls hl
                        rw [eK31] at hr
                        refine lv_lstore (lv' := [(14, .long u30), (0, .ref (ad 0)), (3, .int a2), (6, .long x11), (8, .long x15), (11, .int v25), (12, .long x29)]) hx hb dX7_set_142 hl (by decide) rfl (fun ls hl => ?_)
                        refine lv_lload hx hb dX7_set_144 (lv_at hl 0 rfl) ?_
                        refine lv_lload hx hb dX7_set_146 (lv_at hl 6 rfl) ?_
                        refine lv_land hx hb dX7_set_148 ?_
                        refine lv_lconst (v := (0 : Int64)) hx hb dX7_set_149 (by decide) ?_
                        refine W.lcmp hx hb dX7_set_150 ?_
                        refine lv_if_eq (tgt := 180) hx hb dX7_set_151 (by decide) (fun c32 => ?_) (fun c32 => ?_)
                        · have c32 := cmp_t c32
                          have hr := ite_p hr c32
                          refine lv_iconst (v := (1 : Int32)) hx hb dX7_set_180 (by decide) ?_
                          refine lv_goto (tgt := 185) hx hb dX7_set_181 (by decide) ?_
                          refine lv_istore (lv' := [(10, .int (1 : Int32)), (14, .long u30), (0, .ref (ad 0)), (3, .int a2), (6, .long x11), (8, .long x15), (11, .int v25), (12, .long x29)]) hx hb dX7_set_185 hl (by decide) rfl (fun ls hl => ?_)
                          obtain ⟨x33, ex33, hr⟩ := nm_ex hr
                          refine lv_iinc (v := x33) (lv' := [(11, .int x33), (10, .int (1 : Int32)), (14, .long u30), (0, .ref (ad 0)), (3, .int a2), (6, .long x11), (8, .long x15), (12, .long x29)]) hx hb dX7_set_187 hl (k := 6) rfl (by rw [ex33]; rfl) (by decide) rfl (fun ls hl => ?_)
                          refine lv_goto (tgt := 105) hx hb dX7_set_190 (by decide) ?_
                          exact ih (1 : Int32) x33 _ _ hr hP hD hS ls (lv_sub hl [3, 4, 5, 6, 1, 0] rfl)
                        · have c32 := cmp_f c32
                          have hr := ite_n hr c32
                          refine lv_aload_n hx hb dX7_set_154 rfl (lv_at hl 1 rfl) ?_
                          refine lv_aload_n hx hb dX7_set_155 rfl (lv_at hl 1 rfl) ?_
                          refine lv_lload hx hb dX7_set_156 (lv_at hl 6 rfl) ?_
                          refine lv_lload hx hb dX7_set_158 (lv_at hl 0 rfl) ?_
                          obtain ⟨q34, hq34, hr⟩ := bd_use hr
                          refine pcV_l (As := [.long x29, .long u30]) (rest := [.ref (ad 0)]) S (c_X7_spread l dC dI ad cA mo_wide mo_high mo_law mo_acts mo_newBlack mo_newWhite mo_taken mo_triesMany mo_isSpent mo_found a_neighbours a_act a_blackAt a_whiteAt a_moveAt a_takenBlack a_takenWhite a_chaseBlack a_chaseWhite a_aheadBlack a_aheadWhite a_hasAhead a_breathsLeft a_laidBlack a_laidWhite a_answersLeft a_firstAnswer a_answering a_next x29 u30 q34 hq34) (cwV 2 hts gX7_set_X7_spread rfl rfl rfl (by decide +kernel) ⟨Nat.le_trans (m := rm_X7_set.frames) (by decide) hRf, Nat.le_trans (m := rm_X7_set.locals) (by decide) hRl⟩) hN hP hK ⟨Nat.zero_le _, Nat.zero_le _⟩ [0, 1, 2, 3, 4, 5, 6, 7, 8, 9, 10, 11, 12, 13, 14, 15, 16, 17, 18, 19] rfl [0, 1, 2, 3, 4, 5, 6, 7, 8, 9, 10, 11, 12, 13, 14, 15, 16, 17, 18] rfl 0 7 rfl rfl rfl hl.1 rfl (Nat.le_of_ble_eq_true rfl) dX7_set_160 ?_
                          obtain ⟨q35, hq35, hr⟩ := bd_use hr
                          refine pcV_l (As := [.long q34]) (rest := []) S (c_X7_around l dC dI ad cA mo_wide mo_high mo_law mo_acts mo_newBlack mo_newWhite mo_taken mo_triesMany mo_isSpent mo_found a_neighbours a_act a_blackAt a_whiteAt a_moveAt a_takenBlack a_takenWhite a_chaseBlack a_chaseWhite a_aheadBlack a_aheadWhite a_hasAhead a_breathsLeft a_laidBlack a_laidWhite a_answersLeft a_firstAnswer a_answering a_next q34 q35 hq35) (cwV 1 hts gX7_set_X7_around rfl rfl rfl (by decide +kernel) ⟨Nat.le_trans (m := rm_X7_set.frames) (by decide) hRf, Nat.le_trans (m := rm_X7_set.locals) (by decide) hRl⟩) hN hP hK ⟨Nat.zero_le _, Nat.zero_le _⟩ [0, 1, 2, 3, 4, 5, 6, 7, 8, 9, 10, 11, 12, 13, 14, 15, 16, 17, 18, 19] rfl [0, 1, 2, 3, 4, 5, 6, 7, 8, 9, 10, 11, 12, 13, 14, 15, 16, 17, 18] rfl 0 7 rfl rfl rfl hl.1 rfl (Nat.le_of_ble_eq_true rfl) dX7_set_163 ?_
                          refine lv_aload_n hx hb dX7_set_166 rfl (lv_at hl 1 rfl) ?_
                          refine lv_lload hx hb dX7_set_167 (lv_at hl 3 rfl) ?_
                          refine lv_lload hx hb dX7_set_169 (lv_at hl 4 rfl) ?_
                          obtain ⟨q36, hq36, hr⟩ := bd_use hr
                          refine pcV_l (As := [.long x11, .long x15]) (rest := [.long q35]) S (c_X7_free l dC dI ad cA mo_wide mo_high mo_law mo_acts mo_newBlack mo_newWhite mo_taken mo_triesMany mo_isSpent mo_found a_neighbours a_act a_blackAt a_whiteAt a_moveAt a_takenBlack a_takenWhite a_chaseBlack a_chaseWhite a_aheadBlack a_aheadWhite a_hasAhead a_breathsLeft a_laidBlack a_laidWhite a_answersLeft a_firstAnswer a_answering a_next x11 x15 q36 hq36) (cwV 2 hts gX7_set_X7_free rfl rfl rfl (by decide +kernel) ⟨Nat.le_trans (m := rm_X7_set.frames) (by decide) hRf, Nat.le_trans (m := rm_X7_set.locals) (by decide) hRl⟩) hN hP hK ⟨Nat.zero_le _, Nat.zero_le _⟩ [0, 1, 2, 3, 4, 5, 6, 7, 8, 9, 10, 11, 12, 13, 14, 15, 16, 17, 18, 19] rfl [0, 1, 2, 3, 4, 5, 6, 7, 8, 9, 10, 11, 12, 13, 14, 15, 16, 17, 18] rfl 0 7 rfl rfl rfl hl.1 rfl (Nat.le_of_ble_eq_true rfl) dX7_set_171 ?_
                          refine lv_land hx hb dX7_set_174 ?_
                          refine lv_lconst (v := (0 : Int64)) hx hb dX7_set_175 (by decide) ?_
                          refine W.lcmp hx hb dX7_set_176 ?_
                          refine lv_if_eq (tgt := 184) hx hb dX7_set_177 (by decide) (fun c37 => ?_) (fun c37 => ?_)
                          · have c37 := cmp_t c37
                            have hr := ite_p hr c37
                            refine lv_iconst (v := (0 : Int32)) hx hb dX7_set_184 (by decide) ?_
                            refine lv_istore (lv' := [(10, .int (0 : Int32)), (14, .long u30), (0, .ref (ad 0)), (3, .int a2), (6, .long x11), (8, .long x15), (11, .int v25), (12, .long x29)]) hx hb dX7_set_185 hl (by decide) rfl (fun ls hl => ?_)
                            obtain ⟨x38, ex38, hr⟩ := nm_ex hr
                            refine lv_iinc (v := x38) (lv' := [(11, .int x38), (10, .int (0 : Int32)), (14, .long u30), (0, .ref (ad 0)), (3, .int a2), (6, .long x11), (8, .long x15), (12, .long x29)]) hx hb dX7_set_187 hl (k := 6) rfl (by rw [ex38]; rfl) (by decide) rfl (fun ls hl => ?_)
                            refine lv_goto (tgt := 105) hx hb dX7_set_190 (by decide) ?_
                            exact ih (0 : Int32) x38 _ _ hr hP hD hS ls (lv_sub hl [3, 4, 5, 6, 1, 0] rfl)
                          · have c37 := cmp_f c37
                            have hr := ite_n hr c37
                            refine lv_iconst (v := (1 : Int32)) hx hb dX7_set_180 (by decide) ?_
                            refine lv_goto (tgt := 185) hx hb dX7_set_181 (by decide) ?_
                            refine lv_istore (lv' := [(10, .int (1 : Int32)), (14, .long u30), (0, .ref (ad 0)), (3, .int a2), (6, .long x11), (8, .long x15), (11, .int v25), (12, .long x29)]) hx hb dX7_set_185 hl (by decide) rfl (fun ls hl => ?_)
                            obtain ⟨x39, ex39, hr⟩ := nm_ex hr
                            refine lv_iinc (v := x39) (lv' := [(11, .int x39), (10, .int (1 : Int32)), (14, .long u30), (0, .ref (ad 0)), (3, .int a2), (6, .long x11), (8, .long x15), (12, .long x29)]) hx hb dX7_set_187 hl (k := 6) rfl (by rw [ex39]; rfl) (by decide) rfl (fun ls hl => ?_)
                            refine lv_goto (tgt := 105) hx hb dX7_set_190 (by decide) ?_
                            exact ih (1 : Int32) x39 _ _ hr hP hD hS ls (lv_sub hl [3, 4, 5, 6, 1, 0] rfl)
                      refine lv_if_eq (tgt := 140) hx hb dX7_set_132 (by decide) (fun c40 => ?_) (fun c40 => ?_)
                      · have c40 := cmp_t c40
                        have hr := ite_p hr c40
                        refine lv_lload hx hb dX7_set_140 (lv_at hl 4 rfl) ?_
                        exact kK31 x15 _ _ hr hP hD hS ls (lv_sub hl [1, 2, 3, 4, 6, 0] rfl)
                      · have c40 := cmp_f c40
                        have hr := ite_n hr c40
                        refine lv_lload hx hb dX7_set_135 (lv_at hl 3 rfl) ?_
                        refine lv_goto (tgt := 142) hx hb dX7_set_137 (by decide) ?_
                        exact kK31 x11 _ _ hr hP hD hS ls (lv_sub hl [1, 2, 3, 4, 6, 0] rfl)
              exact llp_X7_set_105 FU u16 (0 : Int32) _ _ hr hP hD hS ls (lv_sub hl [2, 3, 4, 5, 1, 0] rfl)
            refine lv_if_ne (tgt := 99) hx hb dX7_set_92 (by decide) (fun c41 => ?_) (fun c41 => ?_)
            · have hr := ite_n hr c41
              refine lv_iconst (v := (0 : Int32)) hx hb dX7_set_99 (by decide) ?_
              exact kK17 (0 : Int32) _ _ hr hP hD hS ls (lv_sub hl [1, 2, 3, 0] rfl)
            · have hr := ite_p hr c41
              refine lv_iconst (v := (1 : Int32)) hx hb dX7_set_95 (by decide) ?_
              refine lv_goto (tgt := 100) hx hb dX7_set_96 (by decide) ?_
              exact kK17 (1 : Int32) _ _ hr hP hD hS ls (lv_sub hl [1, 2, 3, 0] rfl)
          refine lv_icmp_ne (tgt := 84) hx hb dX7_set_76 (by decide) (fun c42 => ?_) (fun c42 => ?_)
          · have hr := ite_n hr c42
            refine lv_lconst (v := (0 : Int64)) hx hb dX7_set_84 (by decide) ?_
            exact kK14 (0 : Int64) _ _ hr hP hD hS ls (lv_sub hl [1, 3, 0] rfl)
          · have hr := ite_p hr c42
            refine lv_lload hx hb dX7_set_79 (lv_at hl 4 rfl) ?_
            refine lv_goto (tgt := 85) hx hb dX7_set_81 (by decide) ?_
            exact kK14 x7 _ _ hr hP hD hS ls (lv_sub hl [1, 3, 0] rfl)
        refine lv_icmp_ne (tgt := 57) hx hb dX7_set_49 (by decide) (fun c43 => ?_) (fun c43 => ?_)
        · have hr := ite_n hr c43
          refine lv_lconst (v := (0 : Int64)) hx hb dX7_set_57 (by decide) ?_
          exact kK10 (0 : Int64) _ _ hr hP hD hS ls (lv_sub hl [1, 3, 4, 0] rfl)
        · have hr := ite_p hr c43
          refine lv_lload hx hb dX7_set_52 (lv_at hl 0 rfl) ?_
          refine lv_goto (tgt := 58) hx hb dX7_set_54 (by decide) ?_
          exact kK10 x7 _ _ hr hP hD hS ls (lv_sub hl [1, 3, 4, 0] rfl)
      · have hr := ite_p hr c6
        refine lv_bipush (v := (-2 : Int32)) hx hb dX7_set_26 (by decide) ?_
        obtain rfl := Option.some.inj hr
        exact kret _ _ _ _ dX7_set_28 hP hD hS

def f_X7_acted (mo_wide : Int32) (mo_high : Int32) (mo_acts : Int32) (mo_taken : Int32) (a_act : Nat → Int32) (a_blackAt : Nat → Int64) (a_whiteAt : Nat → Int64) (a_moveAt : Nat → Int32) (a_takenBlack : Nat → Int32) (a_takenWhite : Nat → Int32) (a0 : Int32) (a1 : Int64) (a2 : Int64) : Option (Int32 × (Nat → Int32) × (Nat → Int64) × (Nat → Int64) × (Nat → Int32) × (Nat → Int32) × (Nat → Int32)) :=
  if (mo_acts < 0 ∨ 120 ≤ mo_acts.toNatClampNeg) then none else
  if (mo_acts < 0 ∨ 130 ≤ mo_acts.toNatClampNeg) then none else
  nm (a_moveAt mo_acts.toNatClampNeg) fun x3 =>
  if (mo_acts < 0 ∨ 121 ≤ mo_acts.toNatClampNeg) then none else
  nm (fun (u5 : Int32) =>
  nm ((a_takenBlack mo_acts.toNatClampNeg) + u5) fun x7 =>
  if (mo_acts + (1 : Int32) < 0 ∨ 121 ≤ (mo_acts + (1 : Int32)).toNatClampNeg) then none else
  if (mo_acts < 0 ∨ 121 ≤ mo_acts.toNatClampNeg) then none else
  nm (fun (u10 : Int32) =>
  nm ((a_takenWhite mo_acts.toNatClampNeg) + u10) fun x12 =>
  if (mo_acts + (1 : Int32) < 0 ∨ 121 ≤ (mo_acts + (1 : Int32)).toNatClampNeg) then none else
  nm (mo_acts + (1 : Int32)) fun x14 =>
  if (x14 < 0 ∨ 130 ≤ x14.toNatClampNeg) then none else
  if (x14 < 0 ∨ 130 ≤ x14.toNatClampNeg) then none else
  (f_X7_other x3).bind fun q17 =>
  if (x14 < 0 ∨ 130 ≤ x14.toNatClampNeg) then none else
  some (x14, upd a_act mo_acts.toNatClampNeg a0, vp_updL a_blackAt x14.toNatClampNeg a1, vp_updL a_whiteAt x14.toNatClampNeg a2, upd a_moveAt x14.toNatClampNeg q17, upd a_takenBlack (mo_acts + (1 : Int32)).toNatClampNeg x7, upd a_takenWhite (mo_acts + (1 : Int32)).toNatClampNeg x12)
  ) fun K11 =>
  if x3 = (1 : Int32) then (
    (f_X7_size mo_wide mo_high).bind fun q20 =>
    if q20 ≤ a0 then (
      K11 (0 : Int32)
    )
    else (
      K11 mo_taken
    )
  )
  else (
    K11 (0 : Int32)
  )
  ) fun K6 =>
  if x3 = (1 : Int32) then (
    K6 (0 : Int32)
  )
  else (
    (f_X7_size mo_wide mo_high).bind fun q23 =>
    if a0 = q23 then (
      K6 (0 : Int32)
    )
    else (
      K6 mo_taken
    )
  )

abbrev rm_X7_acted : Room := { frames := 1, cells := 0, slots := 0, locals := 20 }
set_option maxHeartbeats 4000000 in
set_option maxRecDepth 100000 in
theorem c_X7_acted (l : Launch) (dC : Nat → ClassId) (dI : Nat → Nat → Nat) (ad : Nat → Nat) (cA : Nat → ClassId) (mo_wide mo_high mo_law mo_acts : Int32) (mo_newBlack mo_newWhite : Int64) (mo_taken mo_triesMany mo_isSpent mo_found : Int32) (a_neighbours : Nat → Int64) (a_act : Nat → Int32) (a_blackAt a_whiteAt : Nat → Int64) (a_moveAt a_takenBlack a_takenWhite : Nat → Int32) (a_chaseBlack a_chaseWhite a_aheadBlack a_aheadWhite : Nat → Int64) (a_hasAhead : Nat → Int32) (a_breathsLeft a_laidBlack a_laidWhite a_answersLeft : Nat → Int64) (a_firstAnswer a_answering a_next : Nat → Int32) (sz : Nat) (a0 : Int32) (a1 : Int64) (a2 : Int64) (q : Int32 × (Nat → Int32) × (Nat → Int64) × (Nat → Int64) × (Nat → Int32) × (Nat → Int32) × (Nat → Int32)) (hr : f_X7_acted mo_wide mo_high mo_acts mo_taken a_act a_blackAt a_whiteAt a_moveAt a_takenBlack a_takenWhite a0 a1 a2 = some q) : Met l yX7_acted wsX7_acted rm_X7_acted (PrI (dC, dI) (wd_X7 ad cA mo_wide mo_high mo_law mo_acts mo_newBlack mo_newWhite mo_taken mo_triesMany mo_isSpent mo_found a_neighbours a_act a_blackAt a_whiteAt a_moveAt a_takenBlack a_takenWhite a_chaseBlack a_chaseWhite a_aheadBlack a_aheadWhite a_hasAhead a_breathsLeft a_laidBlack a_laidWhite a_answersLeft a_firstAnswer a_answering a_next) (td_X7 cA) sz [.ref (ad 0), .int a0, .long a1, .long a2]) (QIv (dC, dI) (wd_X7 ad cA mo_wide mo_high mo_law mo_acts mo_newBlack mo_newWhite mo_taken mo_triesMany mo_isSpent mo_found a_neighbours a_act a_blackAt a_whiteAt a_moveAt a_takenBlack a_takenWhite a_chaseBlack a_chaseWhite a_aheadBlack a_aheadWhite a_hasAhead a_breathsLeft a_laidBlack a_laidWhite a_answersLeft a_firstAnswer a_answering a_next) (td_X7 cA) sz (wd_X7 ad cA mo_wide mo_high mo_law q.1 mo_newBlack mo_newWhite mo_taken mo_triesMany mo_isSpent mo_found a_neighbours q.2.1 q.2.2.1 q.2.2.2.1 q.2.2.2.2.1 q.2.2.2.2.2.1 q.2.2.2.2.2.2 a_chaseBlack a_chaseWhite a_aheadBlack a_aheadWhite a_hasAhead a_breathsLeft a_laidBlack a_laidWhite a_answersLeft a_firstAnswer a_answering a_next)) 0 0 (va_A (wd_X7 ad cA mo_wide mo_high mo_law mo_acts mo_newBlack mo_newWhite mo_taken mo_triesMany mo_isSpent mo_found a_neighbours a_act a_blackAt a_whiteAt a_moveAt a_takenBlack a_takenWhite a_chaseBlack a_chaseWhite a_aheadBlack a_aheadWhite a_hasAhead a_breathsLeft a_laidBlack a_laidWhite a_answersLeft a_firstAnswer a_answering a_next) sz) := by
  refine mkI_v (cc := cX7_acted) (nL := 7) (by decide) rfl (Nat.le_of_ble_eq_true rfl) ?_
  intro p e R s m args below meth c H0 H locs A Q ls hRf hRl S hN hP hK hD hA hS hl kret
  have hl : lv_has ls 7 [(0, .ref (ad 0)), (1, .int a0), (2, .long a1), (4, .long a2)] := hl
  obtain ⟨hx, hb, hml, hown, hts⟩ := S
  have hown : s.vm.findClass RX7 = some m.cls := hown
  have S : CallFix p m c cX7_acted 7 s args wsX7_acted RX7 := ⟨hx, hb, hml, hown, hts⟩
  have huX7 : ∀ w ∈ u_ws RX7 TX7 29, w ∈ wsX7_acted := by decide +kernel
  have hf20 := hts (.fieldLink RX7 20 "EyeBoardModel" "act" "[I") (by decide +kernel)
  have hf86 := hts (.fieldLink RX7 86 "EyeBoardModel" "acts" "I") (by decide +kernel)
  have hf30 := hts (.fieldLink RX7 30 "EyeBoardModel" "moveAt" "[I") (by decide +kernel)
  have hf33 := hts (.fieldLink RX7 33 "EyeBoardModel" "takenBlack" "[I") (by decide +kernel)
  have hf36 := hts (.fieldLink RX7 36 "EyeBoardModel" "takenWhite" "[I") (by decide +kernel)
  have hf24 := hts (.fieldLink RX7 24 "EyeBoardModel" "blackAt" "[J") (by decide +kernel)
  have hf27 := hts (.fieldLink RX7 27 "EyeBoardModel" "whiteAt" "[J") (by decide +kernel)
  have hf119 := hts (.fieldLink RX7 119 "EyeBoardModel" "taken" "I") (by decide +kernel)
  unfold f_X7_acted at hr
  refine lv_aload_n hx hb dX7_acted_0 rfl (lv_at hl 0 rfl) ?_
  refine va_get (D := (dC, dI)) (ci := 7) (v := .ref (ad 2)) (C := RX7) (T := TX7) (N := 29) hx hb hts huX7 hown hK hP 0 rfl rfl 5 (by decide) hf20 (fun _ h9 => h9) rfl dX7_acted_1 ?_
  refine lv_aload_n hx hb dX7_acted_4 rfl (lv_at hl 0 rfl) ?_
  refine va_get (D := (dC, dI)) (ci := 7) (v := .int mo_acts) (C := RX7) (T := TX7) (N := 29) hx hb hts huX7 hown hK hP 0 rfl rfl 4 (by decide) hf86 (fun _ h9 => h9) rfl dX7_acted_5 ?_
  refine lv_iload_n hx hb dX7_acted_8 rfl (lv_at hl 1 rfl) ?_
  obtain ⟨hi1, hr⟩ := ite_g hr
  refine va_iast hx hb hK hP hD hS 2 1 rfl rfl hi1 dX7_acted_9 (fun H locs hP hD hS => ?_)
  have hP : va_P (dC, dI) vwCl (wd_X7 ad cA mo_wide mo_high mo_law mo_acts mo_newBlack mo_newWhite mo_taken mo_triesMany mo_isSpent mo_found a_neighbours (upd a_act mo_acts.toNatClampNeg a0) a_blackAt a_whiteAt a_moveAt a_takenBlack a_takenWhite a_chaseBlack a_chaseWhite a_aheadBlack a_aheadWhite a_hasAhead a_breathsLeft a_laidBlack a_laidWhite a_answersLeft a_firstAnswer a_answering a_next) H := hP
  have hD : va_D A (wd_X7 ad cA mo_wide mo_high mo_law mo_acts mo_newBlack mo_newWhite mo_taken mo_triesMany mo_isSpent mo_found a_neighbours (upd a_act mo_acts.toNatClampNeg a0) a_blackAt a_whiteAt a_moveAt a_takenBlack a_takenWhite a_chaseBlack a_chaseWhite a_aheadBlack a_aheadWhite a_hasAhead a_breathsLeft a_laidBlack a_laidWhite a_answersLeft a_firstAnswer a_answering a_next) := hD
  refine lv_aload_n hx hb dX7_acted_10 rfl (lv_at hl 0 rfl) ?_
  refine va_get (D := (dC, dI)) (ci := 7) (v := .ref (ad 5)) (C := RX7) (T := TX7) (N := 29) hx hb hts huX7 hown hK hP 0 rfl rfl 8 (by decide) hf30 (fun _ h9 => h9) rfl dX7_acted_11 ?_
  refine lv_aload_n hx hb dX7_acted_14 rfl (lv_at hl 0 rfl) ?_
  refine va_get (D := (dC, dI)) (ci := 7) (v := .int mo_acts) (C := RX7) (T := TX7) (N := 29) hx hb hts huX7 hown hK hP 0 rfl rfl 4 (by decide) hf86 (fun _ h9 => h9) rfl dX7_acted_15 ?_
  obtain ⟨hi2, hr⟩ := ite_g hr
  refine va_iald hx hb hK hP 5 4 rfl rfl hi2 dX7_acted_18 ?_
  refine lv_topi (fun x3 ex3 => ?_)
  have hr := nm_use hr ex3
  refine lv_istore (lv' := [(6, .int x3), (0, .ref (ad 0)), (1, .int a0), (2, .long a1), (4, .long a2)]) hx hb dX7_acted_19 hl (by decide) rfl (fun ls hl => ?_)
  refine lv_aload_n hx hb dX7_acted_21 rfl (lv_at hl 1 rfl) ?_
  refine va_get (D := (dC, dI)) (ci := 7) (v := .ref (ad 6)) (C := RX7) (T := TX7) (N := 29) hx hb hts huX7 hown hK hP 0 rfl rfl 9 (by decide) hf33 (fun _ h9 => h9) rfl dX7_acted_22 ?_
  refine lv_aload_n hx hb dX7_acted_25 rfl (lv_at hl 1 rfl) ?_
  refine va_get (D := (dC, dI)) (ci := 7) (v := .int mo_acts) (C := RX7) (T := TX7) (N := 29) hx hb hts huX7 hown hK hP 0 rfl rfl 4 (by decide) hf86 (fun _ h9 => h9) rfl dX7_acted_26 ?_
  refine lv_iconst (v := (1 : Int32)) hx hb dX7_acted_29 (by decide) ?_
  refine lv_iadd hx hb dX7_acted_30 ?_
  refine lv_aload_n hx hb dX7_acted_31 rfl (lv_at hl 1 rfl) ?_
  refine va_get (D := (dC, dI)) (ci := 7) (v := .ref (ad 6)) (C := RX7) (T := TX7) (N := 29) hx hb hts huX7 hown hK hP 0 rfl rfl 9 (by decide) hf33 (fun _ h9 => h9) rfl dX7_acted_32 ?_
  refine lv_aload_n hx hb dX7_acted_35 rfl (lv_at hl 1 rfl) ?_
  refine va_get (D := (dC, dI)) (ci := 7) (v := .int mo_acts) (C := RX7) (T := TX7) (N := 29) hx hb hts huX7 hown hK hP 0 rfl rfl 4 (by decide) hf86 (fun _ h9 => h9) rfl dX7_acted_36 ?_
  obtain ⟨hi4, hr⟩ := ite_g hr
  refine va_iald hx hb hK hP 6 5 rfl rfl hi4 dX7_acted_39 ?_
  refine lv_iload hx hb dX7_acted_40 (lv_at hl 0 rfl) ?_
  refine lv_iconst (v := (1 : Int32)) hx hb dX7_acted_42 (by decide) ?_
  obtain ⟨K6, eK6, hr⟩ := nm_ex hr
  have kK6 : ∀ (u5 : Int32) (H : Heap) (locs : List Loc) , K6 u5 = some q → va_P (dC, dI) vwCl (wd_X7 ad cA mo_wide mo_high mo_law mo_acts mo_newBlack mo_newWhite mo_taken mo_triesMany mo_isSpent mo_found a_neighbours (upd a_act mo_acts.toNatClampNeg a0) a_blackAt a_whiteAt a_moveAt a_takenBlack a_takenWhite a_chaseBlack a_chaseWhite a_aheadBlack a_aheadWhite a_hasAhead a_breathsLeft a_laidBlack a_laidWhite a_answersLeft a_firstAnswer a_answering a_next) H → va_D A (wd_X7 ad cA mo_wide mo_high mo_law mo_acts mo_newBlack mo_newWhite mo_taken mo_triesMany mo_isSpent mo_found a_neighbours (upd a_act mo_acts.toNatClampNeg a0) a_blackAt a_whiteAt a_moveAt a_takenBlack a_takenWhite a_chaseBlack a_chaseWhite a_aheadBlack a_aheadWhite a_hasAhead a_breathsLeft a_laidBlack a_laidWhite a_answersLeft a_firstAnswer a_answering a_next) → va_S A H0 H locs → ∀ (ls : Array Slot), lv_has ls 7 [(0, .ref (ad 0)), (1, .int a0), (2, .long a1), (4, .long a2), (6, .int x3)] → W p l e R s m args below meth c H locs 0 0 Q (F0 m 62 ls [.int u5, .int (a_takenBlack mo_acts.toNatClampNeg), .int (mo_acts + (1 : Int32)), .ref (ad 6)]) := by
    intro u5 H locs hr hP hD hS ls hl
    rw [eK6] at hr
    refine lv_iadd hx hb dX7_acted_62 ?_
    refine lv_topi (fun x7 ex7 => ?_)
    have hr := nm_use hr ex7
    obtain ⟨hi8, hr⟩ := ite_g hr
    refine va_iast hx hb hK hP hD hS 6 5 rfl rfl hi8 dX7_acted_63 (fun H locs hP hD hS => ?_)
    have hP : va_P (dC, dI) vwCl (wd_X7 ad cA mo_wide mo_high mo_law mo_acts mo_newBlack mo_newWhite mo_taken mo_triesMany mo_isSpent mo_found a_neighbours (upd a_act mo_acts.toNatClampNeg a0) a_blackAt a_whiteAt a_moveAt (upd a_takenBlack (mo_acts + (1 : Int32)).toNatClampNeg x7) a_takenWhite a_chaseBlack a_chaseWhite a_aheadBlack a_aheadWhite a_hasAhead a_breathsLeft a_laidBlack a_laidWhite a_answersLeft a_firstAnswer a_answering a_next) H := hP
    have hD : va_D A (wd_X7 ad cA mo_wide mo_high mo_law mo_acts mo_newBlack mo_newWhite mo_taken mo_triesMany mo_isSpent mo_found a_neighbours (upd a_act mo_acts.toNatClampNeg a0) a_blackAt a_whiteAt a_moveAt (upd a_takenBlack (mo_acts + (1 : Int32)).toNatClampNeg x7) a_takenWhite a_chaseBlack a_chaseWhite a_aheadBlack a_aheadWhite a_hasAhead a_breathsLeft a_laidBlack a_laidWhite a_answersLeft a_firstAnswer a_answering a_next) := hD
    refine lv_aload_n hx hb dX7_acted_64 rfl (lv_at hl 0 rfl) ?_
    refine va_get (D := (dC, dI)) (ci := 7) (v := .ref (ad 7)) (C := RX7) (T := TX7) (N := 29) hx hb hts huX7 hown hK hP 0 rfl rfl 10 (by decide) hf36 (fun _ h9 => h9) rfl dX7_acted_65 ?_
    refine lv_aload_n hx hb dX7_acted_68 rfl (lv_at hl 0 rfl) ?_
    refine va_get (D := (dC, dI)) (ci := 7) (v := .int mo_acts) (C := RX7) (T := TX7) (N := 29) hx hb hts huX7 hown hK hP 0 rfl rfl 4 (by decide) hf86 (fun _ h9 => h9) rfl dX7_acted_69 ?_
    refine lv_iconst (v := (1 : Int32)) hx hb dX7_acted_72 (by decide) ?_
    refine lv_iadd hx hb dX7_acted_73 ?_
    refine lv_aload_n hx hb dX7_acted_74 rfl (lv_at hl 0 rfl) ?_
    refine va_get (D := (dC, dI)) (ci := 7) (v := .ref (ad 7)) (C := RX7) (T := TX7) (N := 29) hx hb hts huX7 hown hK hP 0 rfl rfl 10 (by decide) hf36 (fun _ h9 => h9) rfl dX7_acted_75 ?_
    refine lv_aload_n hx hb dX7_acted_78 rfl (lv_at hl 0 rfl) ?_
    refine va_get (D := (dC, dI)) (ci := 7) (v := .int mo_acts) (C := RX7) (T := TX7) (N := 29) hx hb hts huX7 hown hK hP 0 rfl rfl 4 (by decide) hf86 (fun _ h9 => h9) rfl dX7_acted_79 ?_
    obtain ⟨hi9, hr⟩ := ite_g hr
    refine va_iald hx hb hK hP 7 6 rfl rfl hi9 dX7_acted_82 ?_
    refine lv_iload hx hb dX7_acted_83 (lv_at hl 4 rfl) ?_
    refine lv_iconst (v := (1 : Int32)) hx hb dX7_acted_85 (by decide) ?_
    obtain ⟨K11, eK11, hr⟩ := nm_ex hr
    have kK11 : ∀ (u10 : Int32) (H : Heap) (locs : List Loc) , K11 u10 = some q → va_P (dC, dI) vwCl (wd_X7 ad cA mo_wide mo_high mo_law mo_acts mo_newBlack mo_newWhite mo_taken mo_triesMany mo_isSpent mo_found a_neighbours (upd a_act mo_acts.toNatClampNeg a0) a_blackAt a_whiteAt a_moveAt (upd a_takenBlack (mo_acts + (1 : Int32)).toNatClampNeg x7) a_takenWhite a_chaseBlack a_chaseWhite a_aheadBlack a_aheadWhite a_hasAhead a_breathsLeft a_laidBlack a_laidWhite a_answersLeft a_firstAnswer a_answering a_next) H → va_D A (wd_X7 ad cA mo_wide mo_high mo_law mo_acts mo_newBlack mo_newWhite mo_taken mo_triesMany mo_isSpent mo_found a_neighbours (upd a_act mo_acts.toNatClampNeg a0) a_blackAt a_whiteAt a_moveAt (upd a_takenBlack (mo_acts + (1 : Int32)).toNatClampNeg x7) a_takenWhite a_chaseBlack a_chaseWhite a_aheadBlack a_aheadWhite a_hasAhead a_breathsLeft a_laidBlack a_laidWhite a_answersLeft a_firstAnswer a_answering a_next) → va_S A H0 H locs → ∀ (ls : Array Slot), lv_has ls 7 [(0, .ref (ad 0)), (2, .long a1), (4, .long a2), (6, .int x3)] → W p l e R s m args below meth c H locs 0 0 Q (F0 m 105 ls [.int u10, .int (a_takenWhite mo_acts.toNatClampNeg), .int (mo_acts + (1 : Int32)), .ref (ad 7)]) := by
      intro u10 H locs hr hP hD hS ls hl
      rw [eK11] at hr
      refine lv_iadd hx hb dX7_acted_105 ?_
      refine lv_topi (fun x12 ex12 => ?_)
      have hr := nm_use hr ex12
      obtain ⟨hi13, hr⟩ := ite_g hr
      refine va_iast hx hb hK hP hD hS 7 6 rfl rfl hi13 dX7_acted_106 (fun H locs hP hD hS => ?_)
      have hP : va_P (dC, dI) vwCl (wd_X7 ad cA mo_wide mo_high mo_law mo_acts mo_newBlack mo_newWhite mo_taken mo_triesMany mo_isSpent mo_found a_neighbours (upd a_act mo_acts.toNatClampNeg a0) a_blackAt a_whiteAt a_moveAt (upd a_takenBlack (mo_acts + (1 : Int32)).toNatClampNeg x7) (upd a_takenWhite (mo_acts + (1 : Int32)).toNatClampNeg x12) a_chaseBlack a_chaseWhite a_aheadBlack a_aheadWhite a_hasAhead a_breathsLeft a_laidBlack a_laidWhite a_answersLeft a_firstAnswer a_answering a_next) H := hP
      have hD : va_D A (wd_X7 ad cA mo_wide mo_high mo_law mo_acts mo_newBlack mo_newWhite mo_taken mo_triesMany mo_isSpent mo_found a_neighbours (upd a_act mo_acts.toNatClampNeg a0) a_blackAt a_whiteAt a_moveAt (upd a_takenBlack (mo_acts + (1 : Int32)).toNatClampNeg x7) (upd a_takenWhite (mo_acts + (1 : Int32)).toNatClampNeg x12) a_chaseBlack a_chaseWhite a_aheadBlack a_aheadWhite a_hasAhead a_breathsLeft a_laidBlack a_laidWhite a_answersLeft a_firstAnswer a_answering a_next) := hD
      refine lv_aload_n hx hb dX7_acted_107 rfl (lv_at hl 0 rfl) ?_
      refine lv_dup hx hb dX7_acted_108 rfl ?_
      refine va_get (D := (dC, dI)) (ci := 7) (v := .int mo_acts) (C := RX7) (T := TX7) (N := 29) hx hb hts huX7 hown hK hP 0 rfl rfl 4 (by decide) hf86 (fun _ h9 => h9) rfl dX7_acted_109 ?_
      refine lv_iconst (v := (1 : Int32)) hx hb dX7_acted_112 (by decide) ?_
      refine lv_iadd hx hb dX7_acted_113 ?_
      refine lv_topi (fun x14 ex14 => ?_)
      have hr := nm_use hr ex14
      refine va_put (D := (dC, dI)) (ci := 7) (v := .int x14) (ty := .int) (C := RX7) (T := TX7) (N := 29) hx hb hts huX7 tyX7 tyX7_ok nmX7 hown hK hP hD hS 0 rfl rfl 4 (by decide) hf86 (fun _ h9 => h9) rfl (by decide +kernel) rfl rfl (Nat.le_of_ble_eq_true rfl) dX7_acted_114 (fun H locs hP hD hS => ?_)
      have hP : va_P (dC, dI) vwCl (wd_X7 ad cA mo_wide mo_high mo_law x14 mo_newBlack mo_newWhite mo_taken mo_triesMany mo_isSpent mo_found a_neighbours (upd a_act mo_acts.toNatClampNeg a0) a_blackAt a_whiteAt a_moveAt (upd a_takenBlack (mo_acts + (1 : Int32)).toNatClampNeg x7) (upd a_takenWhite (mo_acts + (1 : Int32)).toNatClampNeg x12) a_chaseBlack a_chaseWhite a_aheadBlack a_aheadWhite a_hasAhead a_breathsLeft a_laidBlack a_laidWhite a_answersLeft a_firstAnswer a_answering a_next) H := hP
      have hD : va_D A (wd_X7 ad cA mo_wide mo_high mo_law x14 mo_newBlack mo_newWhite mo_taken mo_triesMany mo_isSpent mo_found a_neighbours (upd a_act mo_acts.toNatClampNeg a0) a_blackAt a_whiteAt a_moveAt (upd a_takenBlack (mo_acts + (1 : Int32)).toNatClampNeg x7) (upd a_takenWhite (mo_acts + (1 : Int32)).toNatClampNeg x12) a_chaseBlack a_chaseWhite a_aheadBlack a_aheadWhite a_hasAhead a_breathsLeft a_laidBlack a_laidWhite a_answersLeft a_firstAnswer a_answering a_next) := hD
      refine lv_aload_n hx hb dX7_acted_117 rfl (lv_at hl 0 rfl) ?_
      refine va_get (D := (dC, dI)) (ci := 7) (v := .ref (ad 3)) (C := RX7) (T := TX7) (N := 29) hx hb hts huX7 hown hK hP 0 rfl rfl 6 (by decide) hf24 (fun _ h9 => h9) rfl dX7_acted_118 ?_
      refine lv_aload_n hx hb dX7_acted_121 rfl (lv_at hl 0 rfl) ?_
      refine va_get (D := (dC, dI)) (ci := 7) (v := .int x14) (C := RX7) (T := TX7) (N := 29) hx hb hts huX7 hown hK hP 0 rfl rfl 4 (by decide) hf86 (fun _ h9 => h9) rfl dX7_acted_122 ?_
      refine lv_lload_n hx hb dX7_acted_125 rfl (lv_at hl 1 rfl) ?_
      obtain ⟨hi15, hr⟩ := ite_g hr
      refine va_last hx hb hK hP hD hS 3 2 rfl rfl hi15 dX7_acted_126 (fun H locs hP hD hS => ?_)
      have hP : va_P (dC, dI) vwCl (wd_X7 ad cA mo_wide mo_high mo_law x14 mo_newBlack mo_newWhite mo_taken mo_triesMany mo_isSpent mo_found a_neighbours (upd a_act mo_acts.toNatClampNeg a0) (vp_updL a_blackAt x14.toNatClampNeg a1) a_whiteAt a_moveAt (upd a_takenBlack (mo_acts + (1 : Int32)).toNatClampNeg x7) (upd a_takenWhite (mo_acts + (1 : Int32)).toNatClampNeg x12) a_chaseBlack a_chaseWhite a_aheadBlack a_aheadWhite a_hasAhead a_breathsLeft a_laidBlack a_laidWhite a_answersLeft a_firstAnswer a_answering a_next) H := hP
      have hD : va_D A (wd_X7 ad cA mo_wide mo_high mo_law x14 mo_newBlack mo_newWhite mo_taken mo_triesMany mo_isSpent mo_found a_neighbours (upd a_act mo_acts.toNatClampNeg a0) (vp_updL a_blackAt x14.toNatClampNeg a1) a_whiteAt a_moveAt (upd a_takenBlack (mo_acts + (1 : Int32)).toNatClampNeg x7) (upd a_takenWhite (mo_acts + (1 : Int32)).toNatClampNeg x12) a_chaseBlack a_chaseWhite a_aheadBlack a_aheadWhite a_hasAhead a_breathsLeft a_laidBlack a_laidWhite a_answersLeft a_firstAnswer a_answering a_next) := hD
      refine lv_aload_n hx hb dX7_acted_127 rfl (lv_at hl 0 rfl) ?_
      refine va_get (D := (dC, dI)) (ci := 7) (v := .ref (ad 4)) (C := RX7) (T := TX7) (N := 29) hx hb hts huX7 hown hK hP 0 rfl rfl 7 (by decide) hf27 (fun _ h9 => h9) rfl dX7_acted_128 ?_
      refine lv_aload_n hx hb dX7_acted_131 rfl (lv_at hl 0 rfl) ?_
      refine va_get (D := (dC, dI)) (ci := 7) (v := .int x14) (C := RX7) (T := TX7) (N := 29) hx hb hts huX7 hown hK hP 0 rfl rfl 4 (by decide) hf86 (fun _ h9 => h9) rfl dX7_acted_132 ?_
      refine lv_lload hx hb dX7_acted_135 (lv_at hl 2 rfl) ?_
      obtain ⟨hi16, hr⟩ := ite_g hr
      refine va_last hx hb hK hP hD hS 4 3 rfl rfl hi16 dX7_acted_137 (fun H locs hP hD hS => ?_)
      have hP : va_P (dC, dI) vwCl (wd_X7 ad cA mo_wide mo_high mo_law x14 mo_newBlack mo_newWhite mo_taken mo_triesMany mo_isSpent mo_found a_neighbours (upd a_act mo_acts.toNatClampNeg a0) (vp_updL a_blackAt x14.toNatClampNeg a1) (vp_updL a_whiteAt x14.toNatClampNeg a2) a_moveAt (upd a_takenBlack (mo_acts + (1 : Int32)).toNatClampNeg x7) (upd a_takenWhite (mo_acts + (1 : Int32)).toNatClampNeg x12) a_chaseBlack a_chaseWhite a_aheadBlack a_aheadWhite a_hasAhead a_breathsLeft a_laidBlack a_laidWhite a_answersLeft a_firstAnswer a_answering a_next) H := hP
      have hD : va_D A (wd_X7 ad cA mo_wide mo_high mo_law x14 mo_newBlack mo_newWhite mo_taken mo_triesMany mo_isSpent mo_found a_neighbours (upd a_act mo_acts.toNatClampNeg a0) (vp_updL a_blackAt x14.toNatClampNeg a1) (vp_updL a_whiteAt x14.toNatClampNeg a2) a_moveAt (upd a_takenBlack (mo_acts + (1 : Int32)).toNatClampNeg x7) (upd a_takenWhite (mo_acts + (1 : Int32)).toNatClampNeg x12) a_chaseBlack a_chaseWhite a_aheadBlack a_aheadWhite a_hasAhead a_breathsLeft a_laidBlack a_laidWhite a_answersLeft a_firstAnswer a_answering a_next) := hD
      refine lv_aload_n hx hb dX7_acted_138 rfl (lv_at hl 0 rfl) ?_
      refine va_get (D := (dC, dI)) (ci := 7) (v := .ref (ad 5)) (C := RX7) (T := TX7) (N := 29) hx hb hts huX7 hown hK hP 0 rfl rfl 8 (by decide) hf30 (fun _ h9 => h9) rfl dX7_acted_139 ?_
      refine lv_aload_n hx hb dX7_acted_142 rfl (lv_at hl 0 rfl) ?_
      refine va_get (D := (dC, dI)) (ci := 7) (v := .int x14) (C := RX7) (T := TX7) (N := 29) hx hb hts huX7 hown hK hP 0 rfl rfl 4 (by decide) hf86 (fun _ h9 => h9) rfl dX7_acted_143 ?_
      refine lv_iload hx hb dX7_acted_146 (lv_at hl 3 rfl) ?_
      obtain ⟨q17, hq17, hr⟩ := bd_use hr
      refine pcS_i (As := [.int x3]) (rest := [.int x14, .ref (ad 5)]) S (c_X7_other l dC dI x3 q17 hq17) (va_cwS 1 hts gX7_acted_X7_other rfl rfl rfl (by decide +kernel) ⟨Nat.le_trans (m := rm_X7_acted.frames) (by decide) hRf, Nat.le_trans (m := rm_X7_acted.locals) (by decide) hRl⟩) hN hP hK ⟨Nat.zero_le _, Nat.zero_le _⟩ rfl hl.1 rfl (Nat.le_of_ble_eq_true rfl) dX7_acted_148 ?_
      obtain ⟨hi18, hr⟩ := ite_g hr
      refine va_iast hx hb hK hP hD hS 5 4 rfl rfl hi18 dX7_acted_151 (fun H locs hP hD hS => ?_)
      have hP : va_P (dC, dI) vwCl (wd_X7 ad cA mo_wide mo_high mo_law x14 mo_newBlack mo_newWhite mo_taken mo_triesMany mo_isSpent mo_found a_neighbours (upd a_act mo_acts.toNatClampNeg a0) (vp_updL a_blackAt x14.toNatClampNeg a1) (vp_updL a_whiteAt x14.toNatClampNeg a2) (upd a_moveAt x14.toNatClampNeg q17) (upd a_takenBlack (mo_acts + (1 : Int32)).toNatClampNeg x7) (upd a_takenWhite (mo_acts + (1 : Int32)).toNatClampNeg x12) a_chaseBlack a_chaseWhite a_aheadBlack a_aheadWhite a_hasAhead a_breathsLeft a_laidBlack a_laidWhite a_answersLeft a_firstAnswer a_answering a_next) H := hP
      have hD : va_D A (wd_X7 ad cA mo_wide mo_high mo_law x14 mo_newBlack mo_newWhite mo_taken mo_triesMany mo_isSpent mo_found a_neighbours (upd a_act mo_acts.toNatClampNeg a0) (vp_updL a_blackAt x14.toNatClampNeg a1) (vp_updL a_whiteAt x14.toNatClampNeg a2) (upd a_moveAt x14.toNatClampNeg q17) (upd a_takenBlack (mo_acts + (1 : Int32)).toNatClampNeg x7) (upd a_takenWhite (mo_acts + (1 : Int32)).toNatClampNeg x12) a_chaseBlack a_chaseWhite a_aheadBlack a_aheadWhite a_hasAhead a_breathsLeft a_laidBlack a_laidWhite a_answersLeft a_firstAnswer a_answering a_next) := hD
      obtain rfl := Option.some.inj hr
      exact kret _ _ _ _ dX7_acted_152 hP hD hS
    refine lv_icmp_ne (tgt := 104) hx hb dX7_acted_86 (by decide) (fun c19 => ?_) (fun c19 => ?_)
    · have hr := ite_n hr c19
      refine lv_iconst (v := (0 : Int32)) hx hb dX7_acted_104 (by decide) ?_
      exact kK11 (0 : Int32) _ _ hr hP hD hS ls (lv_sub hl [0, 2, 3, 4] rfl)
    · have hr := ite_p hr c19
      refine lv_iload_n hx hb dX7_acted_89 rfl (lv_at hl 1 rfl) ?_
      refine lv_aload_n hx hb dX7_acted_90 rfl (lv_at hl 0 rfl) ?_
      obtain ⟨q20, hq20, hr⟩ := bd_use hr
      refine pcV_i (As := []) (rest := [.int a0, .int (a_takenWhite mo_acts.toNatClampNeg), .int (mo_acts + (1 : Int32)), .ref (ad 7)]) S (c_X7_size l dC dI ad cA mo_wide mo_high mo_law mo_acts mo_newBlack mo_newWhite mo_taken mo_triesMany mo_isSpent mo_found a_neighbours (upd a_act mo_acts.toNatClampNeg a0) a_blackAt a_whiteAt a_moveAt (upd a_takenBlack (mo_acts + (1 : Int32)).toNatClampNeg x7) a_takenWhite a_chaseBlack a_chaseWhite a_aheadBlack a_aheadWhite a_hasAhead a_breathsLeft a_laidBlack a_laidWhite a_answersLeft a_firstAnswer a_answering a_next q20 hq20) (cwV 0 hts gX7_acted_X7_size rfl rfl rfl (by decide +kernel) ⟨Nat.le_trans (m := rm_X7_acted.frames) (by decide) hRf, Nat.le_trans (m := rm_X7_acted.locals) (by decide) hRl⟩) hN hP hK ⟨Nat.zero_le _, Nat.zero_le _⟩ [0, 1, 2, 3, 4, 5, 6, 7, 8, 9, 10, 11, 12, 13, 14, 15, 16, 17, 18, 19] rfl [0, 1, 2, 3, 4, 5, 6, 7, 8, 9, 10, 11, 12, 13, 14, 15, 16, 17, 18] rfl 0 7 rfl rfl rfl hl.1 rfl (Nat.le_of_ble_eq_true rfl) dX7_acted_91 ?_
      refine lv_icmp_ge (tgt := 104) hx hb dX7_acted_94 (by decide) (fun c21 => ?_) (fun c21 => ?_)
      · have hr := ite_p hr c21
        refine lv_iconst (v := (0 : Int32)) hx hb dX7_acted_104 (by decide) ?_
        exact kK11 (0 : Int32) _ _ hr hP hD hS ls (lv_sub hl [0, 2, 3, 4] rfl)
      · have hr := ite_n hr c21
        refine lv_aload_n hx hb dX7_acted_97 rfl (lv_at hl 0 rfl) ?_
        refine va_get (D := (dC, dI)) (ci := 7) (v := .int mo_taken) (C := RX7) (T := TX7) (N := 29) hx hb hts huX7 hown hK hP 0 rfl rfl 13 (by decide) hf119 (fun _ h9 => h9) rfl dX7_acted_98 ?_
        refine lv_goto (tgt := 105) hx hb dX7_acted_101 (by decide) ?_
        exact kK11 mo_taken _ _ hr hP hD hS ls (lv_sub hl [0, 2, 3, 4] rfl)
  refine lv_icmp_eq (tgt := 54) hx hb dX7_acted_43 (by decide) (fun c22 => ?_) (fun c22 => ?_)
  · have hr := ite_p hr c22
    refine lv_iconst (v := (0 : Int32)) hx hb dX7_acted_54 (by decide) ?_
    refine lv_goto (tgt := 62) hx hb dX7_acted_55 (by decide) ?_
    exact kK6 (0 : Int32) _ _ hr hP hD hS ls (lv_sub hl [1, 2, 3, 4, 0] rfl)
  · have hr := ite_n hr c22
    refine lv_iload_n hx hb dX7_acted_46 rfl (lv_at hl 2 rfl) ?_
    refine lv_aload_n hx hb dX7_acted_47 rfl (lv_at hl 1 rfl) ?_
    obtain ⟨q23, hq23, hr⟩ := bd_use hr
    refine pcV_i (As := []) (rest := [.int a0, .int (a_takenBlack mo_acts.toNatClampNeg), .int (mo_acts + (1 : Int32)), .ref (ad 6)]) S (c_X7_size l dC dI ad cA mo_wide mo_high mo_law mo_acts mo_newBlack mo_newWhite mo_taken mo_triesMany mo_isSpent mo_found a_neighbours (upd a_act mo_acts.toNatClampNeg a0) a_blackAt a_whiteAt a_moveAt a_takenBlack a_takenWhite a_chaseBlack a_chaseWhite a_aheadBlack a_aheadWhite a_hasAhead a_breathsLeft a_laidBlack a_laidWhite a_answersLeft a_firstAnswer a_answering a_next q23 hq23) (cwV 0 hts gX7_acted_X7_size rfl rfl rfl (by decide +kernel) ⟨Nat.le_trans (m := rm_X7_acted.frames) (by decide) hRf, Nat.le_trans (m := rm_X7_acted.locals) (by decide) hRl⟩) hN hP hK ⟨Nat.zero_le _, Nat.zero_le _⟩ [0, 1, 2, 3, 4, 5, 6, 7, 8, 9, 10, 11, 12, 13, 14, 15, 16, 17, 18, 19] rfl [0, 1, 2, 3, 4, 5, 6, 7, 8, 9, 10, 11, 12, 13, 14, 15, 16, 17, 18] rfl 0 7 rfl rfl rfl hl.1 rfl (Nat.le_of_ble_eq_true rfl) dX7_acted_48 ?_
    refine lv_icmp_ne (tgt := 58) hx hb dX7_acted_51 (by decide) (fun c24 => ?_) (fun c24 => ?_)
    · have hr := ite_n hr c24
      refine lv_aload_n hx hb dX7_acted_58 rfl (lv_at hl 1 rfl) ?_
      refine va_get (D := (dC, dI)) (ci := 7) (v := .int mo_taken) (C := RX7) (T := TX7) (N := 29) hx hb hts huX7 hown hK hP 0 rfl rfl 13 (by decide) hf119 (fun _ h9 => h9) rfl dX7_acted_59 ?_
      exact kK6 mo_taken _ _ hr hP hD hS ls (lv_sub hl [1, 2, 3, 4, 0] rfl)
    · have hr := ite_p hr c24
      refine lv_iconst (v := (0 : Int32)) hx hb dX7_acted_54 (by decide) ?_
      refine lv_goto (tgt := 62) hx hb dX7_acted_55 (by decide) ?_
      exact kK6 (0 : Int32) _ _ hr hP hD hS ls (lv_sub hl [1, 2, 3, 4, 0] rfl)

def f_X7_lay (mo_wide : Int32) (mo_high : Int32) (mo_law : Int32) (mo_acts : Int32) (mo_newBlack : Int64) (mo_newWhite : Int64) (mo_taken : Int32) (a_neighbours : Nat → Int64) (a_act : Nat → Int32) (a_blackAt : Nat → Int64) (a_whiteAt : Nat → Int64) (a_moveAt : Nat → Int32) (a_takenBlack : Nat → Int32) (a_takenWhite : Nat → Int32) (a0 : Int32) : Option (Int32 × Int32 × Int64 × Int64 × Int32 × (Nat → Int32) × (Nat → Int64) × (Nat → Int64) × (Nat → Int32) × (Nat → Int32) × (Nat → Int32)) :=
  (f_X7_isCrossing mo_wide mo_high a0).bind fun q1 =>
  if q1 = 0 then (
    some ((-2 : Int32), mo_acts, mo_newBlack, mo_newWhite, mo_taken, a_act, a_blackAt, a_whiteAt, a_moveAt, a_takenBlack, a_takenWhite)
  )
  else (
    if (mo_acts < 0 ∨ 130 ≤ mo_acts.toNatClampNeg) then none else
    (f_X7_reason mo_wide mo_high mo_law mo_newBlack mo_newWhite mo_taken a_neighbours a_blackAt a_whiteAt a_moveAt mo_acts (a_moveAt mo_acts.toNatClampNeg) a0).bind fun q4 =>
    if q4.1 = 0 then (
      if mo_acts = (120 : Int32) then (
        some ((-4 : Int32), mo_acts, q4.2.1, q4.2.2.1, q4.2.2.2, a_act, a_blackAt, a_whiteAt, a_moveAt, a_takenBlack, a_takenWhite)
      )
      else (
        nm (q4.2.2.2) fun x7 =>
        (f_X7_acted mo_wide mo_high mo_acts q4.2.2.2 a_act a_blackAt a_whiteAt a_moveAt a_takenBlack a_takenWhite a0 q4.2.1 q4.2.2.1).bind fun q8 =>
        some (x7, q8.1, q4.2.1, q4.2.2.1, q4.2.2.2, q8.2.1, q8.2.2.1, q8.2.2.2.1, q8.2.2.2.2.1, q8.2.2.2.2.2.1, q8.2.2.2.2.2.2)
      )
    )
    else (
      some ((-3 : Int32), mo_acts, q4.2.1, q4.2.2.1, q4.2.2.2, a_act, a_blackAt, a_whiteAt, a_moveAt, a_takenBlack, a_takenWhite)
    )
  )

abbrev rm_X7_lay : Room := { frames := 5, cells := 0, slots := 0, locals := 134 }
set_option maxHeartbeats 4000000 in
set_option maxRecDepth 100000 in
theorem c_X7_lay (l : Launch) (dC : Nat → ClassId) (dI : Nat → Nat → Nat) (ad : Nat → Nat) (cA : Nat → ClassId) (mo_wide mo_high mo_law mo_acts : Int32) (mo_newBlack mo_newWhite : Int64) (mo_taken mo_triesMany mo_isSpent mo_found : Int32) (a_neighbours : Nat → Int64) (a_act : Nat → Int32) (a_blackAt a_whiteAt : Nat → Int64) (a_moveAt a_takenBlack a_takenWhite : Nat → Int32) (a_chaseBlack a_chaseWhite a_aheadBlack a_aheadWhite : Nat → Int64) (a_hasAhead : Nat → Int32) (a_breathsLeft a_laidBlack a_laidWhite a_answersLeft : Nat → Int64) (a_firstAnswer a_answering a_next : Nat → Int32) (sz : Nat) (a0 : Int32) (q : Int32 × Int32 × Int64 × Int64 × Int32 × (Nat → Int32) × (Nat → Int64) × (Nat → Int64) × (Nat → Int32) × (Nat → Int32) × (Nat → Int32)) (hr : f_X7_lay mo_wide mo_high mo_law mo_acts mo_newBlack mo_newWhite mo_taken a_neighbours a_act a_blackAt a_whiteAt a_moveAt a_takenBlack a_takenWhite a0 = some q) : Met l yX7_lay wsX7_lay rm_X7_lay (PrI (dC, dI) (wd_X7 ad cA mo_wide mo_high mo_law mo_acts mo_newBlack mo_newWhite mo_taken mo_triesMany mo_isSpent mo_found a_neighbours a_act a_blackAt a_whiteAt a_moveAt a_takenBlack a_takenWhite a_chaseBlack a_chaseWhite a_aheadBlack a_aheadWhite a_hasAhead a_breathsLeft a_laidBlack a_laidWhite a_answersLeft a_firstAnswer a_answering a_next) (td_X7 cA) sz [.ref (ad 0), .int a0]) (QIi (dC, dI) (wd_X7 ad cA mo_wide mo_high mo_law mo_acts mo_newBlack mo_newWhite mo_taken mo_triesMany mo_isSpent mo_found a_neighbours a_act a_blackAt a_whiteAt a_moveAt a_takenBlack a_takenWhite a_chaseBlack a_chaseWhite a_aheadBlack a_aheadWhite a_hasAhead a_breathsLeft a_laidBlack a_laidWhite a_answersLeft a_firstAnswer a_answering a_next) (td_X7 cA) sz q.1 (wd_X7 ad cA mo_wide mo_high mo_law q.2.1 q.2.2.1 q.2.2.2.1 q.2.2.2.2.1 mo_triesMany mo_isSpent mo_found a_neighbours q.2.2.2.2.2.1 q.2.2.2.2.2.2.1 q.2.2.2.2.2.2.2.1 q.2.2.2.2.2.2.2.2.1 q.2.2.2.2.2.2.2.2.2.1 q.2.2.2.2.2.2.2.2.2.2 a_chaseBlack a_chaseWhite a_aheadBlack a_aheadWhite a_hasAhead a_breathsLeft a_laidBlack a_laidWhite a_answersLeft a_firstAnswer a_answering a_next)) 0 0 (va_A (wd_X7 ad cA mo_wide mo_high mo_law mo_acts mo_newBlack mo_newWhite mo_taken mo_triesMany mo_isSpent mo_found a_neighbours a_act a_blackAt a_whiteAt a_moveAt a_takenBlack a_takenWhite a_chaseBlack a_chaseWhite a_aheadBlack a_aheadWhite a_hasAhead a_breathsLeft a_laidBlack a_laidWhite a_answersLeft a_firstAnswer a_answering a_next) sz) := by
  refine mkI_i (cc := cX7_lay) (nL := 3) (by decide) rfl (Nat.le_of_ble_eq_true rfl) ?_
  intro p e R s m args below meth c H0 H locs A Q ls hRf hRl S hN hP hK hD hA hS hl kret
  have hl : lv_has ls 3 [(0, .ref (ad 0)), (1, .int a0)] := hl
  obtain ⟨hx, hb, hml, hown, hts⟩ := S
  have hown : s.vm.findClass RX7 = some m.cls := hown
  have S : CallFix p m c cX7_lay 3 s args wsX7_lay RX7 := ⟨hx, hb, hml, hown, hts⟩
  have huX7 : ∀ w ∈ u_ws RX7 TX7 29, w ∈ wsX7_lay := by decide +kernel
  have hf86 := hts (.fieldLink RX7 86 "EyeBoardModel" "acts" "I") (by decide +kernel)
  have hf30 := hts (.fieldLink RX7 30 "EyeBoardModel" "moveAt" "[I") (by decide +kernel)
  have hf119 := hts (.fieldLink RX7 119 "EyeBoardModel" "taken" "I") (by decide +kernel)
  have hf122 := hts (.fieldLink RX7 122 "EyeBoardModel" "newBlack" "J") (by decide +kernel)
  have hf126 := hts (.fieldLink RX7 126 "EyeBoardModel" "newWhite" "J") (by decide +kernel)
  unfold f_X7_lay at hr
  refine lv_aload_n hx hb dX7_lay_0 rfl (lv_at hl 0 rfl) ?_
  refine lv_iload_n hx hb dX7_lay_1 rfl (lv_at hl 1 rfl) ?_
  obtain ⟨q1, hq1, hr⟩ := bd_use hr
  refine pcV_i (As := [.int a0]) (rest := []) S (c_X7_isCrossing l dC dI ad cA mo_wide mo_high mo_law mo_acts mo_newBlack mo_newWhite mo_taken mo_triesMany mo_isSpent mo_found a_neighbours a_act a_blackAt a_whiteAt a_moveAt a_takenBlack a_takenWhite a_chaseBlack a_chaseWhite a_aheadBlack a_aheadWhite a_hasAhead a_breathsLeft a_laidBlack a_laidWhite a_answersLeft a_firstAnswer a_answering a_next a0 q1 hq1) (cwV 1 hts gX7_lay_X7_isCrossing rfl rfl rfl (by decide +kernel) ⟨Nat.le_trans (m := rm_X7_lay.frames) (by decide) hRf, Nat.le_trans (m := rm_X7_lay.locals) (by decide) hRl⟩) hN hP hK ⟨Nat.zero_le _, Nat.zero_le _⟩ [0, 1, 2, 3, 4, 5, 6, 7, 8, 9, 10, 11, 12, 13, 14, 15, 16, 17, 18, 19] rfl [0, 1, 2, 3, 4, 5, 6, 7, 8, 9, 10, 11, 12, 13, 14, 15, 16, 17, 18] rfl 0 7 rfl rfl rfl hl.1 rfl (Nat.le_of_ble_eq_true rfl) dX7_lay_2 ?_
  refine lv_if_ne (tgt := 11) hx hb dX7_lay_5 (by decide) (fun c2 => ?_) (fun c2 => ?_)
  · have hr := ite_n hr c2
    refine lv_aload_n hx hb dX7_lay_11 rfl (lv_at hl 0 rfl) ?_
    refine lv_aload_n hx hb dX7_lay_12 rfl (lv_at hl 0 rfl) ?_
    refine va_get (D := (dC, dI)) (ci := 7) (v := .int mo_acts) (C := RX7) (T := TX7) (N := 29) hx hb hts huX7 hown hK hP 0 rfl rfl 4 (by decide) hf86 (fun _ h9 => h9) rfl dX7_lay_13 ?_
    refine lv_aload_n hx hb dX7_lay_16 rfl (lv_at hl 0 rfl) ?_
    refine va_get (D := (dC, dI)) (ci := 7) (v := .ref (ad 5)) (C := RX7) (T := TX7) (N := 29) hx hb hts huX7 hown hK hP 0 rfl rfl 8 (by decide) hf30 (fun _ h9 => h9) rfl dX7_lay_17 ?_
    refine lv_aload_n hx hb dX7_lay_20 rfl (lv_at hl 0 rfl) ?_
    refine va_get (D := (dC, dI)) (ci := 7) (v := .int mo_acts) (C := RX7) (T := TX7) (N := 29) hx hb hts huX7 hown hK hP 0 rfl rfl 4 (by decide) hf86 (fun _ h9 => h9) rfl dX7_lay_21 ?_
    obtain ⟨hi3, hr⟩ := ite_g hr
    refine va_iald hx hb hK hP 5 4 rfl rfl hi3 dX7_lay_24 ?_
    refine lv_iload_n hx hb dX7_lay_25 rfl (lv_at hl 1 rfl) ?_
    obtain ⟨q4, hq4, hr⟩ := bd_use hr
    refine icV_i (As := [.int mo_acts, .int (a_moveAt mo_acts.toNatClampNeg), .int a0]) (rest := []) (ws2 := (wd_X7 ad cA mo_wide mo_high mo_law mo_acts q4.2.1 q4.2.2.1 q4.2.2.2 mo_triesMany mo_isSpent mo_found a_neighbours a_act a_blackAt a_whiteAt a_moveAt a_takenBlack a_takenWhite a_chaseBlack a_chaseWhite a_aheadBlack a_aheadWhite a_hasAhead a_breathsLeft a_laidBlack a_laidWhite a_answersLeft a_firstAnswer a_answering a_next)) S (c_X7_reason l dC dI ad cA mo_wide mo_high mo_law mo_acts mo_newBlack mo_newWhite mo_taken mo_triesMany mo_isSpent mo_found a_neighbours a_act a_blackAt a_whiteAt a_moveAt a_takenBlack a_takenWhite a_chaseBlack a_chaseWhite a_aheadBlack a_aheadWhite a_hasAhead a_breathsLeft a_laidBlack a_laidWhite a_answersLeft a_firstAnswer a_answering a_next H.size mo_acts (a_moveAt mo_acts.toNatClampNeg) a0 q4 hq4) (cwV 3 hts gX7_lay_X7_reason rfl rfl rfl (by decide +kernel) ⟨Nat.le_trans (m := rm_X7_lay.frames) (by decide) hRf, Nat.le_trans (m := rm_X7_lay.locals) (by decide) hRl⟩) hN hP hK hD hS hA ⟨Nat.zero_le _, Nat.zero_le _⟩ [0, 1, 2, 3, 4, 5, 6, 7, 8, 9, 10, 11, 12, 13, 14, 15, 16, 17, 18, 19] [] [0, 1, 2, 3, 4, 5, 6, 7, 8, 9, 10, 11, 12, 13, 14, 15, 16, 17, 18, 19] rfl rfl rfl rfl rfl (by decide) rfl rfl rfl [0, 1, 2, 3, 4, 5, 6, 7, 8, 9, 10, 11, 12, 13, 14, 15, 16, 17, 18] rfl 0 7 rfl rfl rfl hl.1 rfl (Nat.le_of_ble_eq_true rfl) dX7_lay_26 (fun H locs hP hD hS => ?_)
    refine lv_if_eq (tgt := 35) hx hb dX7_lay_29 (by decide) (fun c5 => ?_) (fun c5 => ?_)
    · have hr := ite_p hr c5
      refine lv_aload_n hx hb dX7_lay_35 rfl (lv_at hl 0 rfl) ?_
      refine va_get (D := (dC, dI)) (ci := 7) (v := .int mo_acts) (C := RX7) (T := TX7) (N := 29) hx hb hts huX7 hown hK hP 0 rfl rfl 4 (by decide) hf86 (fun _ h9 => h9) rfl dX7_lay_36 ?_
      refine lv_bipush (v := (120 : Int32)) hx hb dX7_lay_39 (by decide) ?_
      refine lv_icmp_ne (tgt := 47) hx hb dX7_lay_41 (by decide) (fun c6 => ?_) (fun c6 => ?_)
      · have hr := ite_n hr c6
        refine lv_aload_n hx hb dX7_lay_47 rfl (lv_at hl 0 rfl) ?_
        refine va_get (D := (dC, dI)) (ci := 7) (v := .int q4.2.2.2) (C := RX7) (T := TX7) (N := 29) hx hb hts huX7 hown hK hP 0 rfl rfl 13 (by decide) hf119 (fun _ h9 => h9) rfl dX7_lay_48 ?_
        refine lv_topi (fun x7 ex7 => ?_)
        have hr := nm_use hr ex7
        refine lv_istore_n (lv' := [(2, .int x7), (0, .ref (ad 0)), (1, .int a0)]) hx hb dX7_lay_51 rfl hl (by decide) rfl (fun ls hl => ?_)
        refine lv_aload_n hx hb dX7_lay_52 rfl (lv_at hl 1 rfl) ?_
        refine lv_iload_n hx hb dX7_lay_53 rfl (lv_at hl 2 rfl) ?_
        refine lv_aload_n hx hb dX7_lay_54 rfl (lv_at hl 1 rfl) ?_
        refine va_get (D := (dC, dI)) (ci := 7) (v := .long q4.2.1) (C := RX7) (T := TX7) (N := 29) hx hb hts huX7 hown hK hP 0 rfl rfl 11 (by decide) hf122 (fun _ h9 => h9) rfl dX7_lay_55 ?_
        refine lv_aload_n hx hb dX7_lay_58 rfl (lv_at hl 1 rfl) ?_
        refine va_get (D := (dC, dI)) (ci := 7) (v := .long q4.2.2.1) (C := RX7) (T := TX7) (N := 29) hx hb hts huX7 hown hK hP 0 rfl rfl 12 (by decide) hf126 (fun _ h9 => h9) rfl dX7_lay_59 ?_
        obtain ⟨q8, hq8, hr⟩ := bd_use hr
        refine icV_v (As := [.int a0, .long q4.2.1, .long q4.2.2.1]) (rest := []) (ws2 := (wd_X7 ad cA mo_wide mo_high mo_law q8.1 q4.2.1 q4.2.2.1 q4.2.2.2 mo_triesMany mo_isSpent mo_found a_neighbours q8.2.1 q8.2.2.1 q8.2.2.2.1 q8.2.2.2.2.1 q8.2.2.2.2.2.1 q8.2.2.2.2.2.2 a_chaseBlack a_chaseWhite a_aheadBlack a_aheadWhite a_hasAhead a_breathsLeft a_laidBlack a_laidWhite a_answersLeft a_firstAnswer a_answering a_next)) S (c_X7_acted l dC dI ad cA mo_wide mo_high mo_law mo_acts q4.2.1 q4.2.2.1 q4.2.2.2 mo_triesMany mo_isSpent mo_found a_neighbours a_act a_blackAt a_whiteAt a_moveAt a_takenBlack a_takenWhite a_chaseBlack a_chaseWhite a_aheadBlack a_aheadWhite a_hasAhead a_breathsLeft a_laidBlack a_laidWhite a_answersLeft a_firstAnswer a_answering a_next H.size a0 q4.2.1 q4.2.2.1 q8 hq8) (cwV 3 hts gX7_lay_X7_acted rfl rfl rfl (by decide +kernel) ⟨Nat.le_trans (m := rm_X7_lay.frames) (by decide) hRf, Nat.le_trans (m := rm_X7_lay.locals) (by decide) hRl⟩) hN hP hK hD hS hA ⟨Nat.zero_le _, Nat.zero_le _⟩ [0, 1, 2, 3, 4, 5, 6, 7, 8, 9, 10, 11, 12, 13, 14, 15, 16, 17, 18, 19] [] [0, 1, 2, 3, 4, 5, 6, 7, 8, 9, 10, 11, 12, 13, 14, 15, 16, 17, 18, 19] rfl rfl rfl rfl rfl (by decide) rfl rfl rfl [0, 1, 2, 3, 4, 5, 6, 7, 8, 9, 10, 11, 12, 13, 14, 15, 16, 17, 18] rfl 0 7 rfl rfl rfl hl.1 rfl (Nat.le_of_ble_eq_true rfl) dX7_lay_62 (fun H locs hP hD hS => ?_)
        refine lv_iload_n hx hb dX7_lay_65 rfl (lv_at hl 0 rfl) ?_
        obtain rfl := Option.some.inj hr
        exact kret _ _ _ _ dX7_lay_66 hP hD hS
      · have hr := ite_p hr c6
        refine lv_bipush (v := (-4 : Int32)) hx hb dX7_lay_44 (by decide) ?_
        obtain rfl := Option.some.inj hr
        exact kret _ _ _ _ dX7_lay_46 hP hD hS
    · have hr := ite_n hr c5
      refine lv_bipush (v := (-3 : Int32)) hx hb dX7_lay_32 (by decide) ?_
      obtain rfl := Option.some.inj hr
      exact kret _ _ _ _ dX7_lay_34 hP hD hS
  · have hr := ite_p hr c2
    refine lv_bipush (v := (-2 : Int32)) hx hb dX7_lay_8 (by decide) ?_
    obtain rfl := Option.some.inj hr
    exact kret _ _ _ _ dX7_lay_10 hP hD hS

def lp_X7_passes_2 (mo_wide : Int32) (mo_high : Int32) (mo_acts : Int32) (a_act : Nat → Int32) : Nat → Int32 → Option (Int32)
  | 0, _ => none
  | nF + 1, v1 =>
    if mo_acts ≤ v1 then (
      some (v1)
    )
    else (
      if ((mo_acts - (1 : Int32)) - v1 < 0 ∨ 120 ≤ ((mo_acts - (1 : Int32)) - v1).toNatClampNeg) then none else
      (f_X7_size mo_wide mo_high).bind fun q4 =>
      if a_act ((mo_acts - (1 : Int32)) - v1).toNatClampNeg = q4 then (
        nm (v1 + 1) fun x6 =>
        lp_X7_passes_2 mo_wide mo_high mo_acts a_act nF x6
      )
      else (
        some (v1)
      )
    )

def f_X7_passes (mo_wide : Int32) (mo_high : Int32) (mo_acts : Int32) (a_act : Nat → Int32)  : Option (Int32) :=
  lp_X7_passes_2 mo_wide mo_high mo_acts a_act FU (0 : Int32)

abbrev rm_X7_passes : Room := { frames := 1, cells := 0, slots := 0, locals := 20 }
set_option maxHeartbeats 4000000 in
set_option maxRecDepth 100000 in
theorem c_X7_passes (l : Launch) (dC : Nat → ClassId) (dI : Nat → Nat → Nat) (ad : Nat → Nat) (cA : Nat → ClassId) (mo_wide mo_high mo_law mo_acts : Int32) (mo_newBlack mo_newWhite : Int64) (mo_taken mo_triesMany mo_isSpent mo_found : Int32) (a_neighbours : Nat → Int64) (a_act : Nat → Int32) (a_blackAt a_whiteAt : Nat → Int64) (a_moveAt a_takenBlack a_takenWhite : Nat → Int32) (a_chaseBlack a_chaseWhite a_aheadBlack a_aheadWhite : Nat → Int64) (a_hasAhead : Nat → Int32) (a_breathsLeft a_laidBlack a_laidWhite a_answersLeft : Nat → Int64) (a_firstAnswer a_answering a_next : Nat → Int32)  (q : Int32) (hr : f_X7_passes mo_wide mo_high mo_acts a_act  = some q) : Met l yX7_passes wsX7_passes rm_X7_passes (PrP (dC, dI) (wd_X7 ad cA mo_wide mo_high mo_law mo_acts mo_newBlack mo_newWhite mo_taken mo_triesMany mo_isSpent mo_found a_neighbours a_act a_blackAt a_whiteAt a_moveAt a_takenBlack a_takenWhite a_chaseBlack a_chaseWhite a_aheadBlack a_aheadWhite a_hasAhead a_breathsLeft a_laidBlack a_laidWhite a_answersLeft a_firstAnswer a_answering a_next) (td_X7 cA) [.ref (ad 0)]) (vp_Si (fun x => x = q)) 0 0 (fun _ => False) := by
  refine mkP_i (cc := cX7_passes) (nL := 2) (by decide) rfl (Nat.le_of_ble_eq_true rfl) ?_
  intro p e R s m args below meth c H Q ls hRf hRl S hN hP hK hl kret
  have hl : lv_has ls 2 [(0, .ref (ad 0))] := hl
  obtain ⟨hx, hb, hml, hown, hts⟩ := S
  have hown : s.vm.findClass RX7 = some m.cls := hown
  have S : CallFix p m c cX7_passes 2 s args wsX7_passes RX7 := ⟨hx, hb, hml, hown, hts⟩
  have huX7 : ∀ w ∈ u_ws RX7 TX7 29, w ∈ wsX7_passes := by decide +kernel
  have hf86 := hts (.fieldLink RX7 86 "EyeBoardModel" "acts" "I") (by decide +kernel)
  have hf20 := hts (.fieldLink RX7 20 "EyeBoardModel" "act" "[I") (by decide +kernel)
  unfold f_X7_passes at hr
  refine lv_iconst (v := (0 : Int32)) hx hb dX7_passes_0 (by decide) ?_
  refine lv_istore_n (lv' := [(1, .int (0 : Int32)), (0, .ref (ad 0))]) hx hb dX7_passes_1 rfl hl (by decide) rfl (fun ls hl => ?_)
  have llp_X7_passes_2 : ∀ (nF : Nat) (v1 : Int32) , lp_X7_passes_2 mo_wide mo_high mo_acts a_act nF v1 = some q → ∀ (ls : Array Slot), lv_has ls 2 [(0, .ref (ad 0)), (1, .int v1)] → W p l e R s m args below meth c H [] 0 0 Q (F0 m 2 ls []) := by
    intro nF
    induction nF with
    | zero => intro v1 hr; exact absurd hr (by simp [lp_X7_passes_2])
    | succ nF ih =>
      intro v1 hr ls hl
      rw [lp_X7_passes_2] at hr
      refine lv_iload_n hx hb dX7_passes_2 rfl (lv_at hl 1 rfl) ?_
      refine lv_aload_n hx hb dX7_passes_3 rfl (lv_at hl 0 rfl) ?_
      refine va_get (D := (dC, dI)) (ci := 7) (v := .int mo_acts) (C := RX7) (T := TX7) (N := 29) hx hb hts huX7 hown hK hP 0 rfl rfl 4 (by decide) hf86 (fun _ h9 => h9) rfl dX7_passes_4 ?_
      refine lv_icmp_ge (tgt := 36) hx hb dX7_passes_7 (by decide) (fun c2 => ?_) (fun c2 => ?_)
      · have hr := ite_p hr c2
        refine lv_iload_n hx hb dX7_passes_36 rfl (lv_at hl 1 rfl) ?_
        obtain rfl := Option.some.inj hr
        exact kret _ _ dX7_passes_37
      · have hr := ite_n hr c2
        refine lv_aload_n hx hb dX7_passes_10 rfl (lv_at hl 0 rfl) ?_
        refine va_get (D := (dC, dI)) (ci := 7) (v := .ref (ad 2)) (C := RX7) (T := TX7) (N := 29) hx hb hts huX7 hown hK hP 0 rfl rfl 5 (by decide) hf20 (fun _ h9 => h9) rfl dX7_passes_11 ?_
        refine lv_aload_n hx hb dX7_passes_14 rfl (lv_at hl 0 rfl) ?_
        refine va_get (D := (dC, dI)) (ci := 7) (v := .int mo_acts) (C := RX7) (T := TX7) (N := 29) hx hb hts huX7 hown hK hP 0 rfl rfl 4 (by decide) hf86 (fun _ h9 => h9) rfl dX7_passes_15 ?_
        refine lv_iconst (v := (1 : Int32)) hx hb dX7_passes_18 (by decide) ?_
        refine lv_isub hx hb dX7_passes_19 ?_
        refine lv_iload_n hx hb dX7_passes_20 rfl (lv_at hl 1 rfl) ?_
        refine lv_isub hx hb dX7_passes_21 ?_
        obtain ⟨hi3, hr⟩ := ite_g hr
        refine va_iald hx hb hK hP 2 1 rfl rfl hi3 dX7_passes_22 ?_
        refine lv_aload_n hx hb dX7_passes_23 rfl (lv_at hl 0 rfl) ?_
        obtain ⟨q4, hq4, hr⟩ := bd_use hr
        refine pcV_i (As := []) (rest := [.int (a_act ((mo_acts - (1 : Int32)) - v1).toNatClampNeg)]) S (c_X7_size l dC dI ad cA mo_wide mo_high mo_law mo_acts mo_newBlack mo_newWhite mo_taken mo_triesMany mo_isSpent mo_found a_neighbours a_act a_blackAt a_whiteAt a_moveAt a_takenBlack a_takenWhite a_chaseBlack a_chaseWhite a_aheadBlack a_aheadWhite a_hasAhead a_breathsLeft a_laidBlack a_laidWhite a_answersLeft a_firstAnswer a_answering a_next q4 hq4) (cwV 0 hts gX7_passes_X7_size rfl rfl rfl (by decide +kernel) ⟨Nat.le_trans (m := rm_X7_passes.frames) (by decide) hRf, Nat.le_trans (m := rm_X7_passes.locals) (by decide) hRl⟩) hN hP hK ⟨Nat.zero_le _, Nat.zero_le _⟩ [0, 1, 2, 3, 4, 5, 6, 7, 8, 9, 10, 11, 12, 13, 14, 15, 16, 17, 18, 19] rfl [0, 1, 2, 3, 4, 5, 6, 7, 8, 9, 10, 11, 12, 13, 14, 15, 16, 17, 18] rfl 0 7 rfl rfl rfl hl.1 rfl (Nat.le_of_ble_eq_true rfl) dX7_passes_24 ?_
        refine lv_icmp_ne (tgt := 36) hx hb dX7_passes_27 (by decide) (fun c5 => ?_) (fun c5 => ?_)
        · have hr := ite_n hr c5
          refine lv_iload_n hx hb dX7_passes_36 rfl (lv_at hl 1 rfl) ?_
          obtain rfl := Option.some.inj hr
          exact kret _ _ dX7_passes_37
        · have hr := ite_p hr c5
          obtain ⟨x6, ex6, hr⟩ := nm_ex hr
          refine lv_iinc (v := x6) (lv' := [(1, .int x6), (0, .ref (ad 0))]) hx hb dX7_passes_30 hl (k := 1) rfl (by rw [ex6]; rfl) (by decide) rfl (fun ls hl => ?_)
          refine lv_goto (tgt := 2) hx hb dX7_passes_33 (by decide) ?_
          exact ih x6 hr ls (lv_sub hl [1, 0] rfl)
  exact llp_X7_passes_2 FU (0 : Int32) hr ls (lv_sub hl [1, 0] rfl)

def f_X7_pass (mo_wide : Int32) (mo_high : Int32) (mo_acts : Int32) (mo_taken : Int32) (a_act : Nat → Int32) (a_blackAt : Nat → Int64) (a_whiteAt : Nat → Int64) (a_moveAt : Nat → Int32) (a_takenBlack : Nat → Int32) (a_takenWhite : Nat → Int32)  : Option (Int32 × Int32 × (Nat → Int32) × (Nat → Int64) × (Nat → Int64) × (Nat → Int32) × (Nat → Int32) × (Nat → Int32)) :=
  if mo_acts = (120 : Int32) then (
    some ((-4 : Int32), mo_acts, a_act, a_blackAt, a_whiteAt, a_moveAt, a_takenBlack, a_takenWhite)
  )
  else (
    (f_X7_size mo_wide mo_high).bind fun q2 =>
    if (mo_acts < 0 ∨ 130 ≤ mo_acts.toNatClampNeg) then none else
    if (mo_acts < 0 ∨ 130 ≤ mo_acts.toNatClampNeg) then none else
    (f_X7_acted mo_wide mo_high mo_acts mo_taken a_act a_blackAt a_whiteAt a_moveAt a_takenBlack a_takenWhite q2 (a_blackAt mo_acts.toNatClampNeg) (a_whiteAt mo_acts.toNatClampNeg)).bind fun q5 =>
    (f_X7_passes mo_wide mo_high q5.1 q5.2.1).bind fun q6 =>
    some (q6, q5.1, q5.2.1, q5.2.2.1, q5.2.2.2.1, q5.2.2.2.2.1, q5.2.2.2.2.2.1, q5.2.2.2.2.2.2)
  )

abbrev rm_X7_pass : Room := { frames := 2, cells := 0, slots := 0, locals := 46 }
set_option maxHeartbeats 4000000 in
set_option maxRecDepth 100000 in
theorem c_X7_pass (l : Launch) (dC : Nat → ClassId) (dI : Nat → Nat → Nat) (ad : Nat → Nat) (cA : Nat → ClassId) (mo_wide mo_high mo_law mo_acts : Int32) (mo_newBlack mo_newWhite : Int64) (mo_taken mo_triesMany mo_isSpent mo_found : Int32) (a_neighbours : Nat → Int64) (a_act : Nat → Int32) (a_blackAt a_whiteAt : Nat → Int64) (a_moveAt a_takenBlack a_takenWhite : Nat → Int32) (a_chaseBlack a_chaseWhite a_aheadBlack a_aheadWhite : Nat → Int64) (a_hasAhead : Nat → Int32) (a_breathsLeft a_laidBlack a_laidWhite a_answersLeft : Nat → Int64) (a_firstAnswer a_answering a_next : Nat → Int32) (sz : Nat)  (q : Int32 × Int32 × (Nat → Int32) × (Nat → Int64) × (Nat → Int64) × (Nat → Int32) × (Nat → Int32) × (Nat → Int32)) (hr : f_X7_pass mo_wide mo_high mo_acts mo_taken a_act a_blackAt a_whiteAt a_moveAt a_takenBlack a_takenWhite  = some q) : Met l yX7_pass wsX7_pass rm_X7_pass (PrI (dC, dI) (wd_X7 ad cA mo_wide mo_high mo_law mo_acts mo_newBlack mo_newWhite mo_taken mo_triesMany mo_isSpent mo_found a_neighbours a_act a_blackAt a_whiteAt a_moveAt a_takenBlack a_takenWhite a_chaseBlack a_chaseWhite a_aheadBlack a_aheadWhite a_hasAhead a_breathsLeft a_laidBlack a_laidWhite a_answersLeft a_firstAnswer a_answering a_next) (td_X7 cA) sz [.ref (ad 0)]) (QIi (dC, dI) (wd_X7 ad cA mo_wide mo_high mo_law mo_acts mo_newBlack mo_newWhite mo_taken mo_triesMany mo_isSpent mo_found a_neighbours a_act a_blackAt a_whiteAt a_moveAt a_takenBlack a_takenWhite a_chaseBlack a_chaseWhite a_aheadBlack a_aheadWhite a_hasAhead a_breathsLeft a_laidBlack a_laidWhite a_answersLeft a_firstAnswer a_answering a_next) (td_X7 cA) sz q.1 (wd_X7 ad cA mo_wide mo_high mo_law q.2.1 mo_newBlack mo_newWhite mo_taken mo_triesMany mo_isSpent mo_found a_neighbours q.2.2.1 q.2.2.2.1 q.2.2.2.2.1 q.2.2.2.2.2.1 q.2.2.2.2.2.2.1 q.2.2.2.2.2.2.2 a_chaseBlack a_chaseWhite a_aheadBlack a_aheadWhite a_hasAhead a_breathsLeft a_laidBlack a_laidWhite a_answersLeft a_firstAnswer a_answering a_next)) 0 0 (va_A (wd_X7 ad cA mo_wide mo_high mo_law mo_acts mo_newBlack mo_newWhite mo_taken mo_triesMany mo_isSpent mo_found a_neighbours a_act a_blackAt a_whiteAt a_moveAt a_takenBlack a_takenWhite a_chaseBlack a_chaseWhite a_aheadBlack a_aheadWhite a_hasAhead a_breathsLeft a_laidBlack a_laidWhite a_answersLeft a_firstAnswer a_answering a_next) sz) := by
  refine mkI_i (cc := cX7_pass) (nL := 1) (by decide) rfl (Nat.le_of_ble_eq_true rfl) ?_
  intro p e R s m args below meth c H0 H locs A Q ls hRf hRl S hN hP hK hD hA hS hl kret
  have hl : lv_has ls 1 [(0, .ref (ad 0))] := hl
  obtain ⟨hx, hb, hml, hown, hts⟩ := S
  have hown : s.vm.findClass RX7 = some m.cls := hown
  have S : CallFix p m c cX7_pass 1 s args wsX7_pass RX7 := ⟨hx, hb, hml, hown, hts⟩
  have huX7 : ∀ w ∈ u_ws RX7 TX7 29, w ∈ wsX7_pass := by decide +kernel
  have hf86 := hts (.fieldLink RX7 86 "EyeBoardModel" "acts" "I") (by decide +kernel)
  have hf24 := hts (.fieldLink RX7 24 "EyeBoardModel" "blackAt" "[J") (by decide +kernel)
  have hf27 := hts (.fieldLink RX7 27 "EyeBoardModel" "whiteAt" "[J") (by decide +kernel)
  unfold f_X7_pass at hr
  refine lv_aload_n hx hb dX7_pass_0 rfl (lv_at hl 0 rfl) ?_
  refine va_get (D := (dC, dI)) (ci := 7) (v := .int mo_acts) (C := RX7) (T := TX7) (N := 29) hx hb hts huX7 hown hK hP 0 rfl rfl 4 (by decide) hf86 (fun _ h9 => h9) rfl dX7_pass_1 ?_
  refine lv_bipush (v := (120 : Int32)) hx hb dX7_pass_4 (by decide) ?_
  refine lv_icmp_ne (tgt := 12) hx hb dX7_pass_6 (by decide) (fun c1 => ?_) (fun c1 => ?_)
  · have hr := ite_n hr c1
    refine lv_aload_n hx hb dX7_pass_12 rfl (lv_at hl 0 rfl) ?_
    refine lv_aload_n hx hb dX7_pass_13 rfl (lv_at hl 0 rfl) ?_
    obtain ⟨q2, hq2, hr⟩ := bd_use hr
    refine pcV_i (As := []) (rest := [.ref (ad 0)]) S (c_X7_size l dC dI ad cA mo_wide mo_high mo_law mo_acts mo_newBlack mo_newWhite mo_taken mo_triesMany mo_isSpent mo_found a_neighbours a_act a_blackAt a_whiteAt a_moveAt a_takenBlack a_takenWhite a_chaseBlack a_chaseWhite a_aheadBlack a_aheadWhite a_hasAhead a_breathsLeft a_laidBlack a_laidWhite a_answersLeft a_firstAnswer a_answering a_next q2 hq2) (cwV 0 hts gX7_pass_X7_size rfl rfl rfl (by decide +kernel) ⟨Nat.le_trans (m := rm_X7_pass.frames) (by decide) hRf, Nat.le_trans (m := rm_X7_pass.locals) (by decide) hRl⟩) hN hP hK ⟨Nat.zero_le _, Nat.zero_le _⟩ [0, 1, 2, 3, 4, 5, 6, 7, 8, 9, 10, 11, 12, 13, 14, 15, 16, 17, 18, 19] rfl [0, 1, 2, 3, 4, 5, 6, 7, 8, 9, 10, 11, 12, 13, 14, 15, 16, 17, 18] rfl 0 7 rfl rfl rfl hl.1 rfl (Nat.le_of_ble_eq_true rfl) dX7_pass_14 ?_
    refine lv_aload_n hx hb dX7_pass_17 rfl (lv_at hl 0 rfl) ?_
    refine va_get (D := (dC, dI)) (ci := 7) (v := .ref (ad 3)) (C := RX7) (T := TX7) (N := 29) hx hb hts huX7 hown hK hP 0 rfl rfl 6 (by decide) hf24 (fun _ h9 => h9) rfl dX7_pass_18 ?_
    refine lv_aload_n hx hb dX7_pass_21 rfl (lv_at hl 0 rfl) ?_
    refine va_get (D := (dC, dI)) (ci := 7) (v := .int mo_acts) (C := RX7) (T := TX7) (N := 29) hx hb hts huX7 hown hK hP 0 rfl rfl 4 (by decide) hf86 (fun _ h9 => h9) rfl dX7_pass_22 ?_
    obtain ⟨hi3, hr⟩ := ite_g hr
    refine va_lald hx hb hK hP 3 2 rfl rfl hi3 dX7_pass_25 ?_
    refine lv_aload_n hx hb dX7_pass_26 rfl (lv_at hl 0 rfl) ?_
    refine va_get (D := (dC, dI)) (ci := 7) (v := .ref (ad 4)) (C := RX7) (T := TX7) (N := 29) hx hb hts huX7 hown hK hP 0 rfl rfl 7 (by decide) hf27 (fun _ h9 => h9) rfl dX7_pass_27 ?_
    refine lv_aload_n hx hb dX7_pass_30 rfl (lv_at hl 0 rfl) ?_
    refine va_get (D := (dC, dI)) (ci := 7) (v := .int mo_acts) (C := RX7) (T := TX7) (N := 29) hx hb hts huX7 hown hK hP 0 rfl rfl 4 (by decide) hf86 (fun _ h9 => h9) rfl dX7_pass_31 ?_
    obtain ⟨hi4, hr⟩ := ite_g hr
    refine va_lald hx hb hK hP 4 3 rfl rfl hi4 dX7_pass_34 ?_
    obtain ⟨q5, hq5, hr⟩ := bd_use hr
    refine icV_v (As := [.int q2, .long (a_blackAt mo_acts.toNatClampNeg), .long (a_whiteAt mo_acts.toNatClampNeg)]) (rest := []) (ws2 := (wd_X7 ad cA mo_wide mo_high mo_law q5.1 mo_newBlack mo_newWhite mo_taken mo_triesMany mo_isSpent mo_found a_neighbours q5.2.1 q5.2.2.1 q5.2.2.2.1 q5.2.2.2.2.1 q5.2.2.2.2.2.1 q5.2.2.2.2.2.2 a_chaseBlack a_chaseWhite a_aheadBlack a_aheadWhite a_hasAhead a_breathsLeft a_laidBlack a_laidWhite a_answersLeft a_firstAnswer a_answering a_next)) S (c_X7_acted l dC dI ad cA mo_wide mo_high mo_law mo_acts mo_newBlack mo_newWhite mo_taken mo_triesMany mo_isSpent mo_found a_neighbours a_act a_blackAt a_whiteAt a_moveAt a_takenBlack a_takenWhite a_chaseBlack a_chaseWhite a_aheadBlack a_aheadWhite a_hasAhead a_breathsLeft a_laidBlack a_laidWhite a_answersLeft a_firstAnswer a_answering a_next H.size q2 (a_blackAt mo_acts.toNatClampNeg) (a_whiteAt mo_acts.toNatClampNeg) q5 hq5) (cwV 3 hts gX7_pass_X7_acted rfl rfl rfl (by decide +kernel) ⟨Nat.le_trans (m := rm_X7_pass.frames) (by decide) hRf, Nat.le_trans (m := rm_X7_pass.locals) (by decide) hRl⟩) hN hP hK hD hS hA ⟨Nat.zero_le _, Nat.zero_le _⟩ [0, 1, 2, 3, 4, 5, 6, 7, 8, 9, 10, 11, 12, 13, 14, 15, 16, 17, 18, 19] [] [0, 1, 2, 3, 4, 5, 6, 7, 8, 9, 10, 11, 12, 13, 14, 15, 16, 17, 18, 19] rfl rfl rfl rfl rfl (by decide) rfl rfl rfl [0, 1, 2, 3, 4, 5, 6, 7, 8, 9, 10, 11, 12, 13, 14, 15, 16, 17, 18] rfl 0 7 rfl rfl rfl hl.1 rfl (Nat.le_of_ble_eq_true rfl) dX7_pass_35 (fun H locs hP hD hS => ?_)
    refine lv_aload_n hx hb dX7_pass_38 rfl (lv_at hl 0 rfl) ?_
    obtain ⟨q6, hq6, hr⟩ := bd_use hr
    refine pcV_i (As := []) (rest := []) S (c_X7_passes l dC dI ad cA mo_wide mo_high mo_law q5.1 mo_newBlack mo_newWhite mo_taken mo_triesMany mo_isSpent mo_found a_neighbours q5.2.1 q5.2.2.1 q5.2.2.2.1 q5.2.2.2.2.1 q5.2.2.2.2.2.1 q5.2.2.2.2.2.2 a_chaseBlack a_chaseWhite a_aheadBlack a_aheadWhite a_hasAhead a_breathsLeft a_laidBlack a_laidWhite a_answersLeft a_firstAnswer a_answering a_next q6 hq6) (cwV 0 hts gX7_pass_X7_passes rfl rfl rfl (by decide +kernel) ⟨Nat.le_trans (m := rm_X7_pass.frames) (by decide) hRf, Nat.le_trans (m := rm_X7_pass.locals) (by decide) hRl⟩) hN hP hK ⟨Nat.zero_le _, Nat.zero_le _⟩ [0, 1, 2, 3, 4, 5, 6, 7, 8, 9, 10, 11, 12, 13, 14, 15, 16, 17, 18, 19] rfl [0, 1, 2, 3, 4, 5, 6, 7, 8, 9, 10, 11, 12, 13, 14, 15, 16, 17, 18] rfl 0 7 rfl rfl rfl hl.1 rfl (Nat.le_of_ble_eq_true rfl) dX7_pass_39 ?_
    obtain rfl := Option.some.inj hr
    exact kret _ _ _ _ dX7_pass_42 hP hD hS
  · have hr := ite_p hr c1
    refine lv_bipush (v := (-4 : Int32)) hx hb dX7_pass_9 (by decide) ?_
    obtain rfl := Option.some.inj hr
    exact kret _ _ _ _ dX7_pass_11 hP hD hS

def f_X7_why (mo_wide : Int32) (mo_high : Int32) (mo_law : Int32) (mo_acts : Int32) (mo_newBlack : Int64) (mo_newWhite : Int64) (mo_taken : Int32) (a_neighbours : Nat → Int64) (a_blackAt : Nat → Int64) (a_whiteAt : Nat → Int64) (a_moveAt : Nat → Int32) (a0 : Int32) : Option (Int32 × Int64 × Int64 × Int32) :=
  (f_X7_isCrossing mo_wide mo_high a0).bind fun q1 =>
  if q1 = 0 then (
    some ((-2 : Int32), mo_newBlack, mo_newWhite, mo_taken)
  )
  else (
    if (mo_acts < 0 ∨ 130 ≤ mo_acts.toNatClampNeg) then none else
    (f_X7_reason mo_wide mo_high mo_law mo_newBlack mo_newWhite mo_taken a_neighbours a_blackAt a_whiteAt a_moveAt mo_acts (a_moveAt mo_acts.toNatClampNeg) a0).bind fun q4 =>
    some (q4.1, q4.2.1, q4.2.2.1, q4.2.2.2)
  )

abbrev rm_X7_why : Room := { frames := 5, cells := 0, slots := 0, locals := 134 }
set_option maxHeartbeats 4000000 in
set_option maxRecDepth 100000 in
theorem c_X7_why (l : Launch) (dC : Nat → ClassId) (dI : Nat → Nat → Nat) (ad : Nat → Nat) (cA : Nat → ClassId) (mo_wide mo_high mo_law mo_acts : Int32) (mo_newBlack mo_newWhite : Int64) (mo_taken mo_triesMany mo_isSpent mo_found : Int32) (a_neighbours : Nat → Int64) (a_act : Nat → Int32) (a_blackAt a_whiteAt : Nat → Int64) (a_moveAt a_takenBlack a_takenWhite : Nat → Int32) (a_chaseBlack a_chaseWhite a_aheadBlack a_aheadWhite : Nat → Int64) (a_hasAhead : Nat → Int32) (a_breathsLeft a_laidBlack a_laidWhite a_answersLeft : Nat → Int64) (a_firstAnswer a_answering a_next : Nat → Int32) (sz : Nat) (a0 : Int32) (q : Int32 × Int64 × Int64 × Int32) (hr : f_X7_why mo_wide mo_high mo_law mo_acts mo_newBlack mo_newWhite mo_taken a_neighbours a_blackAt a_whiteAt a_moveAt a0 = some q) : Met l yX7_why wsX7_why rm_X7_why (PrI (dC, dI) (wd_X7 ad cA mo_wide mo_high mo_law mo_acts mo_newBlack mo_newWhite mo_taken mo_triesMany mo_isSpent mo_found a_neighbours a_act a_blackAt a_whiteAt a_moveAt a_takenBlack a_takenWhite a_chaseBlack a_chaseWhite a_aheadBlack a_aheadWhite a_hasAhead a_breathsLeft a_laidBlack a_laidWhite a_answersLeft a_firstAnswer a_answering a_next) (td_X7 cA) sz [.ref (ad 0), .int a0]) (QIi (dC, dI) (wd_X7 ad cA mo_wide mo_high mo_law mo_acts mo_newBlack mo_newWhite mo_taken mo_triesMany mo_isSpent mo_found a_neighbours a_act a_blackAt a_whiteAt a_moveAt a_takenBlack a_takenWhite a_chaseBlack a_chaseWhite a_aheadBlack a_aheadWhite a_hasAhead a_breathsLeft a_laidBlack a_laidWhite a_answersLeft a_firstAnswer a_answering a_next) (td_X7 cA) sz q.1 (wd_X7 ad cA mo_wide mo_high mo_law mo_acts q.2.1 q.2.2.1 q.2.2.2 mo_triesMany mo_isSpent mo_found a_neighbours a_act a_blackAt a_whiteAt a_moveAt a_takenBlack a_takenWhite a_chaseBlack a_chaseWhite a_aheadBlack a_aheadWhite a_hasAhead a_breathsLeft a_laidBlack a_laidWhite a_answersLeft a_firstAnswer a_answering a_next)) 0 0 (va_A (wd_X7 ad cA mo_wide mo_high mo_law mo_acts mo_newBlack mo_newWhite mo_taken mo_triesMany mo_isSpent mo_found a_neighbours a_act a_blackAt a_whiteAt a_moveAt a_takenBlack a_takenWhite a_chaseBlack a_chaseWhite a_aheadBlack a_aheadWhite a_hasAhead a_breathsLeft a_laidBlack a_laidWhite a_answersLeft a_firstAnswer a_answering a_next) sz) := by
  refine mkI_i (cc := cX7_why) (nL := 2) (by decide) rfl (Nat.le_of_ble_eq_true rfl) ?_
  intro p e R s m args below meth c H0 H locs A Q ls hRf hRl S hN hP hK hD hA hS hl kret
  have hl : lv_has ls 2 [(0, .ref (ad 0)), (1, .int a0)] := hl
  obtain ⟨hx, hb, hml, hown, hts⟩ := S
  have hown : s.vm.findClass RX7 = some m.cls := hown
  have S : CallFix p m c cX7_why 2 s args wsX7_why RX7 := ⟨hx, hb, hml, hown, hts⟩
  have huX7 : ∀ w ∈ u_ws RX7 TX7 29, w ∈ wsX7_why := by decide +kernel
  have hf86 := hts (.fieldLink RX7 86 "EyeBoardModel" "acts" "I") (by decide +kernel)
  have hf30 := hts (.fieldLink RX7 30 "EyeBoardModel" "moveAt" "[I") (by decide +kernel)
  unfold f_X7_why at hr
  refine lv_aload_n hx hb dX7_why_0 rfl (lv_at hl 0 rfl) ?_
  refine lv_iload_n hx hb dX7_why_1 rfl (lv_at hl 1 rfl) ?_
  obtain ⟨q1, hq1, hr⟩ := bd_use hr
  refine pcV_i (As := [.int a0]) (rest := []) S (c_X7_isCrossing l dC dI ad cA mo_wide mo_high mo_law mo_acts mo_newBlack mo_newWhite mo_taken mo_triesMany mo_isSpent mo_found a_neighbours a_act a_blackAt a_whiteAt a_moveAt a_takenBlack a_takenWhite a_chaseBlack a_chaseWhite a_aheadBlack a_aheadWhite a_hasAhead a_breathsLeft a_laidBlack a_laidWhite a_answersLeft a_firstAnswer a_answering a_next a0 q1 hq1) (cwV 1 hts gX7_why_X7_isCrossing rfl rfl rfl (by decide +kernel) ⟨Nat.le_trans (m := rm_X7_why.frames) (by decide) hRf, Nat.le_trans (m := rm_X7_why.locals) (by decide) hRl⟩) hN hP hK ⟨Nat.zero_le _, Nat.zero_le _⟩ [0, 1, 2, 3, 4, 5, 6, 7, 8, 9, 10, 11, 12, 13, 14, 15, 16, 17, 18, 19] rfl [0, 1, 2, 3, 4, 5, 6, 7, 8, 9, 10, 11, 12, 13, 14, 15, 16, 17, 18] rfl 0 7 rfl rfl rfl hl.1 rfl (Nat.le_of_ble_eq_true rfl) dX7_why_2 ?_
  refine lv_if_eq (tgt := 29) hx hb dX7_why_5 (by decide) (fun c2 => ?_) (fun c2 => ?_)
  · have hr := ite_p hr c2
    refine lv_bipush (v := (-2 : Int32)) hx hb dX7_why_29 (by decide) ?_
    obtain rfl := Option.some.inj hr
    exact kret _ _ _ _ dX7_why_31 hP hD hS
  · have hr := ite_n hr c2
    refine lv_aload_n hx hb dX7_why_8 rfl (lv_at hl 0 rfl) ?_
    refine lv_aload_n hx hb dX7_why_9 rfl (lv_at hl 0 rfl) ?_
    refine va_get (D := (dC, dI)) (ci := 7) (v := .int mo_acts) (C := RX7) (T := TX7) (N := 29) hx hb hts huX7 hown hK hP 0 rfl rfl 4 (by decide) hf86 (fun _ h9 => h9) rfl dX7_why_10 ?_
    refine lv_aload_n hx hb dX7_why_13 rfl (lv_at hl 0 rfl) ?_
    refine va_get (D := (dC, dI)) (ci := 7) (v := .ref (ad 5)) (C := RX7) (T := TX7) (N := 29) hx hb hts huX7 hown hK hP 0 rfl rfl 8 (by decide) hf30 (fun _ h9 => h9) rfl dX7_why_14 ?_
    refine lv_aload_n hx hb dX7_why_17 rfl (lv_at hl 0 rfl) ?_
    refine va_get (D := (dC, dI)) (ci := 7) (v := .int mo_acts) (C := RX7) (T := TX7) (N := 29) hx hb hts huX7 hown hK hP 0 rfl rfl 4 (by decide) hf86 (fun _ h9 => h9) rfl dX7_why_18 ?_
    obtain ⟨hi3, hr⟩ := ite_g hr
    refine va_iald hx hb hK hP 5 4 rfl rfl hi3 dX7_why_21 ?_
    refine lv_iload_n hx hb dX7_why_22 rfl (lv_at hl 1 rfl) ?_
    obtain ⟨q4, hq4, hr⟩ := bd_use hr
    refine icV_i (As := [.int mo_acts, .int (a_moveAt mo_acts.toNatClampNeg), .int a0]) (rest := []) (ws2 := (wd_X7 ad cA mo_wide mo_high mo_law mo_acts q4.2.1 q4.2.2.1 q4.2.2.2 mo_triesMany mo_isSpent mo_found a_neighbours a_act a_blackAt a_whiteAt a_moveAt a_takenBlack a_takenWhite a_chaseBlack a_chaseWhite a_aheadBlack a_aheadWhite a_hasAhead a_breathsLeft a_laidBlack a_laidWhite a_answersLeft a_firstAnswer a_answering a_next)) S (c_X7_reason l dC dI ad cA mo_wide mo_high mo_law mo_acts mo_newBlack mo_newWhite mo_taken mo_triesMany mo_isSpent mo_found a_neighbours a_act a_blackAt a_whiteAt a_moveAt a_takenBlack a_takenWhite a_chaseBlack a_chaseWhite a_aheadBlack a_aheadWhite a_hasAhead a_breathsLeft a_laidBlack a_laidWhite a_answersLeft a_firstAnswer a_answering a_next H.size mo_acts (a_moveAt mo_acts.toNatClampNeg) a0 q4 hq4) (cwV 3 hts gX7_why_X7_reason rfl rfl rfl (by decide +kernel) ⟨Nat.le_trans (m := rm_X7_why.frames) (by decide) hRf, Nat.le_trans (m := rm_X7_why.locals) (by decide) hRl⟩) hN hP hK hD hS hA ⟨Nat.zero_le _, Nat.zero_le _⟩ [0, 1, 2, 3, 4, 5, 6, 7, 8, 9, 10, 11, 12, 13, 14, 15, 16, 17, 18, 19] [] [0, 1, 2, 3, 4, 5, 6, 7, 8, 9, 10, 11, 12, 13, 14, 15, 16, 17, 18, 19] rfl rfl rfl rfl rfl (by decide) rfl rfl rfl [0, 1, 2, 3, 4, 5, 6, 7, 8, 9, 10, 11, 12, 13, 14, 15, 16, 17, 18] rfl 0 7 rfl rfl rfl hl.1 rfl (Nat.le_of_ble_eq_true rfl) dX7_why_23 (fun H locs hP hD hS => ?_)
    refine lv_goto (tgt := 31) hx hb dX7_why_26 (by decide) ?_
    obtain rfl := Option.some.inj hr
    exact kret _ _ _ _ dX7_why_31 hP hD hS

def f_X7_undo (mo_acts : Int32)  : Option (Int32 × Int32) :=
  if mo_acts = 0 then (
    some ((-3 : Int32), mo_acts)
  )
  else (
    nm (mo_acts - (1 : Int32)) fun x2 =>
    some (x2, x2)
  )

abbrev rm_X7_undo : Room := { frames := 0, cells := 0, slots := 0, locals := 0 }
set_option maxHeartbeats 4000000 in
set_option maxRecDepth 100000 in
theorem c_X7_undo (l : Launch) (dC : Nat → ClassId) (dI : Nat → Nat → Nat) (ad : Nat → Nat) (cA : Nat → ClassId) (mo_wide mo_high mo_law mo_acts : Int32) (mo_newBlack mo_newWhite : Int64) (mo_taken mo_triesMany mo_isSpent mo_found : Int32) (a_neighbours : Nat → Int64) (a_act : Nat → Int32) (a_blackAt a_whiteAt : Nat → Int64) (a_moveAt a_takenBlack a_takenWhite : Nat → Int32) (a_chaseBlack a_chaseWhite a_aheadBlack a_aheadWhite : Nat → Int64) (a_hasAhead : Nat → Int32) (a_breathsLeft a_laidBlack a_laidWhite a_answersLeft : Nat → Int64) (a_firstAnswer a_answering a_next : Nat → Int32) (sz : Nat)  (q : Int32 × Int32) (hr : f_X7_undo mo_acts  = some q) : Met l yX7_undo wsX7_undo rm_X7_undo (PrI (dC, dI) (wd_X7 ad cA mo_wide mo_high mo_law mo_acts mo_newBlack mo_newWhite mo_taken mo_triesMany mo_isSpent mo_found a_neighbours a_act a_blackAt a_whiteAt a_moveAt a_takenBlack a_takenWhite a_chaseBlack a_chaseWhite a_aheadBlack a_aheadWhite a_hasAhead a_breathsLeft a_laidBlack a_laidWhite a_answersLeft a_firstAnswer a_answering a_next) (td_X7 cA) sz [.ref (ad 0)]) (QIi (dC, dI) (wd_X7 ad cA mo_wide mo_high mo_law mo_acts mo_newBlack mo_newWhite mo_taken mo_triesMany mo_isSpent mo_found a_neighbours a_act a_blackAt a_whiteAt a_moveAt a_takenBlack a_takenWhite a_chaseBlack a_chaseWhite a_aheadBlack a_aheadWhite a_hasAhead a_breathsLeft a_laidBlack a_laidWhite a_answersLeft a_firstAnswer a_answering a_next) (td_X7 cA) sz q.1 (wd_X7 ad cA mo_wide mo_high mo_law q.2 mo_newBlack mo_newWhite mo_taken mo_triesMany mo_isSpent mo_found a_neighbours a_act a_blackAt a_whiteAt a_moveAt a_takenBlack a_takenWhite a_chaseBlack a_chaseWhite a_aheadBlack a_aheadWhite a_hasAhead a_breathsLeft a_laidBlack a_laidWhite a_answersLeft a_firstAnswer a_answering a_next)) 0 0 (va_A (wd_X7 ad cA mo_wide mo_high mo_law mo_acts mo_newBlack mo_newWhite mo_taken mo_triesMany mo_isSpent mo_found a_neighbours a_act a_blackAt a_whiteAt a_moveAt a_takenBlack a_takenWhite a_chaseBlack a_chaseWhite a_aheadBlack a_aheadWhite a_hasAhead a_breathsLeft a_laidBlack a_laidWhite a_answersLeft a_firstAnswer a_answering a_next) sz) := by
  refine mkI_i (cc := cX7_undo) (nL := 1) (by decide) rfl (Nat.le_of_ble_eq_true rfl) ?_
  intro p e R s m args below meth c H0 H locs A Q ls hRf hRl S hN hP hK hD hA hS hl kret
  have hl : lv_has ls 1 [(0, .ref (ad 0))] := hl
  obtain ⟨hx, hb, hml, hown, hts⟩ := S
  have hown : s.vm.findClass RX7 = some m.cls := hown
  have S : CallFix p m c cX7_undo 1 s args wsX7_undo RX7 := ⟨hx, hb, hml, hown, hts⟩
  have huX7 : ∀ w ∈ u_ws RX7 TX7 29, w ∈ wsX7_undo := by decide +kernel
  have hf86 := hts (.fieldLink RX7 86 "EyeBoardModel" "acts" "I") (by decide +kernel)
  unfold f_X7_undo at hr
  refine lv_aload_n hx hb dX7_undo_0 rfl (lv_at hl 0 rfl) ?_
  refine va_get (D := (dC, dI)) (ci := 7) (v := .int mo_acts) (C := RX7) (T := TX7) (N := 29) hx hb hts huX7 hown hK hP 0 rfl rfl 4 (by decide) hf86 (fun _ h9 => h9) rfl dX7_undo_1 ?_
  refine lv_if_ne (tgt := 10) hx hb dX7_undo_4 (by decide) (fun c1 => ?_) (fun c1 => ?_)
  · have hr := ite_n hr c1
    refine lv_aload_n hx hb dX7_undo_10 rfl (lv_at hl 0 rfl) ?_
    refine lv_dup hx hb dX7_undo_11 rfl ?_
    refine va_get (D := (dC, dI)) (ci := 7) (v := .int mo_acts) (C := RX7) (T := TX7) (N := 29) hx hb hts huX7 hown hK hP 0 rfl rfl 4 (by decide) hf86 (fun _ h9 => h9) rfl dX7_undo_12 ?_
    refine lv_iconst (v := (1 : Int32)) hx hb dX7_undo_15 (by decide) ?_
    refine lv_isub hx hb dX7_undo_16 ?_
    refine lv_topi (fun x2 ex2 => ?_)
    have hr := nm_use hr ex2
    refine va_put (D := (dC, dI)) (ci := 7) (v := .int x2) (ty := .int) (C := RX7) (T := TX7) (N := 29) hx hb hts huX7 tyX7 tyX7_ok nmX7 hown hK hP hD hS 0 rfl rfl 4 (by decide) hf86 (fun _ h9 => h9) rfl (by decide +kernel) rfl rfl (Nat.le_of_ble_eq_true rfl) dX7_undo_17 (fun H locs hP hD hS => ?_)
    have hP : va_P (dC, dI) vwCl (wd_X7 ad cA mo_wide mo_high mo_law x2 mo_newBlack mo_newWhite mo_taken mo_triesMany mo_isSpent mo_found a_neighbours a_act a_blackAt a_whiteAt a_moveAt a_takenBlack a_takenWhite a_chaseBlack a_chaseWhite a_aheadBlack a_aheadWhite a_hasAhead a_breathsLeft a_laidBlack a_laidWhite a_answersLeft a_firstAnswer a_answering a_next) H := hP
    have hD : va_D A (wd_X7 ad cA mo_wide mo_high mo_law x2 mo_newBlack mo_newWhite mo_taken mo_triesMany mo_isSpent mo_found a_neighbours a_act a_blackAt a_whiteAt a_moveAt a_takenBlack a_takenWhite a_chaseBlack a_chaseWhite a_aheadBlack a_aheadWhite a_hasAhead a_breathsLeft a_laidBlack a_laidWhite a_answersLeft a_firstAnswer a_answering a_next) := hD
    refine lv_aload_n hx hb dX7_undo_20 rfl (lv_at hl 0 rfl) ?_
    refine va_get (D := (dC, dI)) (ci := 7) (v := .int x2) (C := RX7) (T := TX7) (N := 29) hx hb hts huX7 hown hK hP 0 rfl rfl 4 (by decide) hf86 (fun _ h9 => h9) rfl dX7_undo_21 ?_
    obtain rfl := Option.some.inj hr
    exact kret _ _ _ _ dX7_undo_24 hP hD hS
  · have hr := ite_p hr c1
    refine lv_bipush (v := (-3 : Int32)) hx hb dX7_undo_7 (by decide) ?_
    obtain rfl := Option.some.inj hr
    exact kret _ _ _ _ dX7_undo_9 hP hD hS

