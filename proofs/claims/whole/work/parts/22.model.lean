def f_X7_atOf (mo_acts : Int32) (a_blackAt : Nat → Int64) (a_whiteAt : Nat → Int64) (a0 : Int32) : Option (Int32) :=
  if (mo_acts < 0 ∨ 130 ≤ mo_acts.toNatClampNeg) then none else
  if (jshr (a_blackAt mo_acts.toNatClampNeg) a0) &&& (1 : Int64) = (1 : Int64) then (
    some ((1 : Int32))
  )
  else (
    if (mo_acts < 0 ∨ 130 ≤ mo_acts.toNatClampNeg) then none else
    if (jshr (a_whiteAt mo_acts.toNatClampNeg) a0) &&& (1 : Int64) = (1 : Int64) then (
      some ((2 : Int32))
    )
    else (
      some ((0 : Int32))
    )
  )

abbrev rm_X7_atOf : Room := { frames := 0, cells := 0, slots := 0, locals := 0 }
set_option maxHeartbeats 4000000 in
set_option maxRecDepth 100000 in
theorem c_X7_atOf (l : Launch) (dC : Nat → ClassId) (dI : Nat → Nat → Nat) (ad : Nat → Nat) (cA : Nat → ClassId) (mo_wide mo_high mo_law mo_acts : Int32) (mo_newBlack mo_newWhite : Int64) (mo_taken mo_triesMany mo_isSpent mo_found : Int32) (a_neighbours : Nat → Int64) (a_act : Nat → Int32) (a_blackAt a_whiteAt : Nat → Int64) (a_moveAt a_takenBlack a_takenWhite : Nat → Int32) (a_chaseBlack a_chaseWhite a_aheadBlack a_aheadWhite : Nat → Int64) (a_hasAhead : Nat → Int32) (a_breathsLeft a_laidBlack a_laidWhite a_answersLeft : Nat → Int64) (a_firstAnswer a_answering a_next : Nat → Int32) (a0 : Int32) (q : Int32) (hr : f_X7_atOf mo_acts a_blackAt a_whiteAt a0 = some q) : Met l yX7_atOf wsX7_atOf rm_X7_atOf (PrP (dC, dI) (wd_X7 ad cA mo_wide mo_high mo_law mo_acts mo_newBlack mo_newWhite mo_taken mo_triesMany mo_isSpent mo_found a_neighbours a_act a_blackAt a_whiteAt a_moveAt a_takenBlack a_takenWhite a_chaseBlack a_chaseWhite a_aheadBlack a_aheadWhite a_hasAhead a_breathsLeft a_laidBlack a_laidWhite a_answersLeft a_firstAnswer a_answering a_next) (td_X7 cA) [.ref (ad 0), .int a0]) (vp_Si (fun x => x = q)) 0 0 (fun _ => False) := by
  refine mkP_i (cc := cX7_atOf) (nL := 2) (by decide) rfl (Nat.le_of_ble_eq_true rfl) ?_
  intro p e R s m args below meth c H Q ls hRf hRl S hN hP hK hl kret
  have hl : lv_has ls 2 [(0, .ref (ad 0)), (1, .int a0)] := hl
  obtain ⟨hx, hb, hml, hown, hts⟩ := S
  have hown : s.vm.findClass RX7 = some m.cls := hown
  have S : CallFix p m c cX7_atOf 2 s args wsX7_atOf RX7 := ⟨hx, hb, hml, hown, hts⟩
  have huX7 : ∀ w ∈ u_ws RX7 TX7 29, w ∈ wsX7_atOf := by decide +kernel
  have hf24 := hts (.fieldLink RX7 24 "EyeBoardModel" "blackAt" "[J") (by decide +kernel)
  have hf86 := hts (.fieldLink RX7 86 "EyeBoardModel" "acts" "I") (by decide +kernel)
  have hf27 := hts (.fieldLink RX7 27 "EyeBoardModel" "whiteAt" "[J") (by decide +kernel)
  unfold f_X7_atOf at hr
  refine lv_aload_n hx hb dX7_atOf_0 rfl (lv_at hl 0 rfl) ?_
  refine va_get (D := (dC, dI)) (ci := 7) (v := .ref (ad 3)) (C := RX7) (T := TX7) (N := 29) hx hb hts huX7 hown hK hP 0 rfl rfl 6 (by decide) hf24 (fun _ h9 => h9) rfl dX7_atOf_1 ?_
  refine lv_aload_n hx hb dX7_atOf_4 rfl (lv_at hl 0 rfl) ?_
  refine va_get (D := (dC, dI)) (ci := 7) (v := .int mo_acts) (C := RX7) (T := TX7) (N := 29) hx hb hts huX7 hown hK hP 0 rfl rfl 4 (by decide) hf86 (fun _ h9 => h9) rfl dX7_atOf_5 ?_
  obtain ⟨hi1, hr⟩ := ite_g hr
  refine va_lald hx hb hK hP 3 2 rfl rfl hi1 dX7_atOf_8 ?_
  refine lv_iload_n hx hb dX7_atOf_9 rfl (lv_at hl 1 rfl) ?_
  refine lv_lshr (v := jshr (a_blackAt mo_acts.toNatClampNeg) a0) hx hb dX7_atOf_10 rfl ?_
  refine lv_lconst (v := (1 : Int64)) hx hb dX7_atOf_11 (by decide) ?_
  refine lv_land hx hb dX7_atOf_12 ?_
  refine lv_lconst (v := (1 : Int64)) hx hb dX7_atOf_13 (by decide) ?_
  refine W.lcmp hx hb dX7_atOf_14 ?_
  refine lv_if_ne (tgt := 22) hx hb dX7_atOf_15 (by decide) (fun c2 => ?_) (fun c2 => ?_)
  · have c2 := cmp_f c2
    have hr := ite_n hr c2
    refine lv_aload_n hx hb dX7_atOf_22 rfl (lv_at hl 0 rfl) ?_
    refine va_get (D := (dC, dI)) (ci := 7) (v := .ref (ad 4)) (C := RX7) (T := TX7) (N := 29) hx hb hts huX7 hown hK hP 0 rfl rfl 7 (by decide) hf27 (fun _ h9 => h9) rfl dX7_atOf_23 ?_
    refine lv_aload_n hx hb dX7_atOf_26 rfl (lv_at hl 0 rfl) ?_
    refine va_get (D := (dC, dI)) (ci := 7) (v := .int mo_acts) (C := RX7) (T := TX7) (N := 29) hx hb hts huX7 hown hK hP 0 rfl rfl 4 (by decide) hf86 (fun _ h9 => h9) rfl dX7_atOf_27 ?_
    obtain ⟨hi3, hr⟩ := ite_g hr
    refine va_lald hx hb hK hP 4 3 rfl rfl hi3 dX7_atOf_30 ?_
    refine lv_iload_n hx hb dX7_atOf_31 rfl (lv_at hl 1 rfl) ?_
    refine lv_lshr (v := jshr (a_whiteAt mo_acts.toNatClampNeg) a0) hx hb dX7_atOf_32 rfl ?_
    refine lv_lconst (v := (1 : Int64)) hx hb dX7_atOf_33 (by decide) ?_
    refine lv_land hx hb dX7_atOf_34 ?_
    refine lv_lconst (v := (1 : Int64)) hx hb dX7_atOf_35 (by decide) ?_
    refine W.lcmp hx hb dX7_atOf_36 ?_
    refine lv_if_ne (tgt := 44) hx hb dX7_atOf_37 (by decide) (fun c4 => ?_) (fun c4 => ?_)
    · have c4 := cmp_f c4
      have hr := ite_n hr c4
      refine lv_iconst (v := (0 : Int32)) hx hb dX7_atOf_44 (by decide) ?_
      obtain rfl := Option.some.inj hr
      exact kret _ _ dX7_atOf_45
    · have c4 := cmp_t c4
      have hr := ite_p hr c4
      refine lv_iconst (v := (2 : Int32)) hx hb dX7_atOf_40 (by decide) ?_
      refine lv_goto (tgt := 45) hx hb dX7_atOf_41 (by decide) ?_
      obtain rfl := Option.some.inj hr
      exact kret _ _ dX7_atOf_45
  · have c2 := cmp_t c2
    have hr := ite_p hr c2
    refine lv_iconst (v := (1 : Int32)) hx hb dX7_atOf_18 (by decide) ?_
    refine lv_goto (tgt := 45) hx hb dX7_atOf_19 (by decide) ?_
    obtain rfl := Option.some.inj hr
    exact kret _ _ dX7_atOf_45

def f_X7_at (mo_wide : Int32) (mo_high : Int32) (mo_acts : Int32) (a_blackAt : Nat → Int64) (a_whiteAt : Nat → Int64) (a0 : Int32) : Option (Int32) :=
  (f_X7_isCrossing mo_wide mo_high a0).bind fun q1 =>
  if q1 = 0 then (
    some ((-2 : Int32))
  )
  else (
    (f_X7_atOf mo_acts a_blackAt a_whiteAt a0).bind fun q3 =>
    some (q3)
  )

abbrev rm_X7_at : Room := { frames := 2, cells := 0, slots := 0, locals := 43 }
set_option maxHeartbeats 4000000 in
set_option maxRecDepth 100000 in
theorem c_X7_at (l : Launch) (dC : Nat → ClassId) (dI : Nat → Nat → Nat) (ad : Nat → Nat) (cA : Nat → ClassId) (mo_wide mo_high mo_law mo_acts : Int32) (mo_newBlack mo_newWhite : Int64) (mo_taken mo_triesMany mo_isSpent mo_found : Int32) (a_neighbours : Nat → Int64) (a_act : Nat → Int32) (a_blackAt a_whiteAt : Nat → Int64) (a_moveAt a_takenBlack a_takenWhite : Nat → Int32) (a_chaseBlack a_chaseWhite a_aheadBlack a_aheadWhite : Nat → Int64) (a_hasAhead : Nat → Int32) (a_breathsLeft a_laidBlack a_laidWhite a_answersLeft : Nat → Int64) (a_firstAnswer a_answering a_next : Nat → Int32) (a0 : Int32) (q : Int32) (hr : f_X7_at mo_wide mo_high mo_acts a_blackAt a_whiteAt a0 = some q) : Met l yX7_at wsX7_at rm_X7_at (PrP (dC, dI) (wd_X7 ad cA mo_wide mo_high mo_law mo_acts mo_newBlack mo_newWhite mo_taken mo_triesMany mo_isSpent mo_found a_neighbours a_act a_blackAt a_whiteAt a_moveAt a_takenBlack a_takenWhite a_chaseBlack a_chaseWhite a_aheadBlack a_aheadWhite a_hasAhead a_breathsLeft a_laidBlack a_laidWhite a_answersLeft a_firstAnswer a_answering a_next) (td_X7 cA) [.ref (ad 0), .int a0]) (vp_Si (fun x => x = q)) 0 0 (fun _ => False) := by
  refine mkP_i (cc := cX7_at) (nL := 2) (by decide) rfl (Nat.le_of_ble_eq_true rfl) ?_
  intro p e R s m args below meth c H Q ls hRf hRl S hN hP hK hl kret
  have hl : lv_has ls 2 [(0, .ref (ad 0)), (1, .int a0)] := hl
  obtain ⟨hx, hb, hml, hown, hts⟩ := S
  have hown : s.vm.findClass RX7 = some m.cls := hown
  have S : CallFix p m c cX7_at 2 s args wsX7_at RX7 := ⟨hx, hb, hml, hown, hts⟩
  unfold f_X7_at at hr
  refine lv_aload_n hx hb dX7_at_0 rfl (lv_at hl 0 rfl) ?_
  refine lv_iload_n hx hb dX7_at_1 rfl (lv_at hl 1 rfl) ?_
  obtain ⟨q1, hq1, hr⟩ := bd_use hr
  refine pcV_i (As := [.int a0]) (rest := []) S (c_X7_isCrossing l dC dI ad cA mo_wide mo_high mo_law mo_acts mo_newBlack mo_newWhite mo_taken mo_triesMany mo_isSpent mo_found a_neighbours a_act a_blackAt a_whiteAt a_moveAt a_takenBlack a_takenWhite a_chaseBlack a_chaseWhite a_aheadBlack a_aheadWhite a_hasAhead a_breathsLeft a_laidBlack a_laidWhite a_answersLeft a_firstAnswer a_answering a_next a0 q1 hq1) (cwV 1 hts gX7_at_X7_isCrossing rfl rfl rfl (by decide +kernel) ⟨Nat.le_trans (m := rm_X7_at.frames) (by decide) hRf, Nat.le_trans (m := rm_X7_at.locals) (by decide) hRl⟩) hN hP hK ⟨Nat.zero_le _, Nat.zero_le _⟩ [0, 1, 2, 3, 4, 5, 6, 7, 8, 9, 10, 11, 12, 13, 14, 15, 16, 17, 18, 19] rfl [0, 1, 2, 3, 4, 5, 6, 7, 8, 9, 10, 11, 12, 13, 14, 15, 16, 17, 18] rfl 0 7 rfl rfl rfl hl.1 rfl (Nat.le_of_ble_eq_true rfl) dX7_at_2 ?_
  refine lv_if_eq (tgt := 16) hx hb dX7_at_5 (by decide) (fun c2 => ?_) (fun c2 => ?_)
  · have hr := ite_p hr c2
    refine lv_bipush (v := (-2 : Int32)) hx hb dX7_at_16 (by decide) ?_
    obtain rfl := Option.some.inj hr
    exact kret _ _ dX7_at_18
  · have hr := ite_n hr c2
    refine lv_aload_n hx hb dX7_at_8 rfl (lv_at hl 0 rfl) ?_
    refine lv_iload_n hx hb dX7_at_9 rfl (lv_at hl 1 rfl) ?_
    obtain ⟨q3, hq3, hr⟩ := bd_use hr
    refine pcV_i (As := [.int a0]) (rest := []) S (c_X7_atOf l dC dI ad cA mo_wide mo_high mo_law mo_acts mo_newBlack mo_newWhite mo_taken mo_triesMany mo_isSpent mo_found a_neighbours a_act a_blackAt a_whiteAt a_moveAt a_takenBlack a_takenWhite a_chaseBlack a_chaseWhite a_aheadBlack a_aheadWhite a_hasAhead a_breathsLeft a_laidBlack a_laidWhite a_answersLeft a_firstAnswer a_answering a_next a0 q3 hq3) (cwV 1 hts gX7_at_X7_atOf rfl rfl rfl (by decide +kernel) ⟨Nat.le_trans (m := rm_X7_at.frames) (by decide) hRf, Nat.le_trans (m := rm_X7_at.locals) (by decide) hRl⟩) hN hP hK ⟨Nat.zero_le _, Nat.zero_le _⟩ [0, 1, 2, 3, 4, 5, 6, 7, 8, 9, 10, 11, 12, 13, 14, 15, 16, 17, 18, 19] rfl [0, 1, 2, 3, 4, 5, 6, 7, 8, 9, 10, 11, 12, 13, 14, 15, 16, 17, 18] rfl 0 7 rfl rfl rfl hl.1 rfl (Nat.le_of_ble_eq_true rfl) dX7_at_10 ?_
    refine lv_goto (tgt := 18) hx hb dX7_at_13 (by decide) ?_
    obtain rfl := Option.some.inj hr
    exact kret _ _ dX7_at_18

def f_X7_stones (mo_acts : Int32) (a_blackAt : Nat → Int64) (a_whiteAt : Nat → Int64) (a0 : Int32) : Option (Int64) :=
  if a0 = (1 : Int32) then (
    if (mo_acts < 0 ∨ 130 ≤ mo_acts.toNatClampNeg) then none else
    some (a_blackAt mo_acts.toNatClampNeg)
  )
  else (
    if (mo_acts < 0 ∨ 130 ≤ mo_acts.toNatClampNeg) then none else
    some (a_whiteAt mo_acts.toNatClampNeg)
  )

abbrev rm_X7_stones : Room := { frames := 0, cells := 0, slots := 0, locals := 0 }
set_option maxHeartbeats 4000000 in
set_option maxRecDepth 100000 in
theorem c_X7_stones (l : Launch) (dC : Nat → ClassId) (dI : Nat → Nat → Nat) (ad : Nat → Nat) (cA : Nat → ClassId) (mo_wide mo_high mo_law mo_acts : Int32) (mo_newBlack mo_newWhite : Int64) (mo_taken mo_triesMany mo_isSpent mo_found : Int32) (a_neighbours : Nat → Int64) (a_act : Nat → Int32) (a_blackAt a_whiteAt : Nat → Int64) (a_moveAt a_takenBlack a_takenWhite : Nat → Int32) (a_chaseBlack a_chaseWhite a_aheadBlack a_aheadWhite : Nat → Int64) (a_hasAhead : Nat → Int32) (a_breathsLeft a_laidBlack a_laidWhite a_answersLeft : Nat → Int64) (a_firstAnswer a_answering a_next : Nat → Int32) (a0 : Int32) (q : Int64) (hr : f_X7_stones mo_acts a_blackAt a_whiteAt a0 = some q) : Met l yX7_stones wsX7_stones rm_X7_stones (PrP (dC, dI) (wd_X7 ad cA mo_wide mo_high mo_law mo_acts mo_newBlack mo_newWhite mo_taken mo_triesMany mo_isSpent mo_found a_neighbours a_act a_blackAt a_whiteAt a_moveAt a_takenBlack a_takenWhite a_chaseBlack a_chaseWhite a_aheadBlack a_aheadWhite a_hasAhead a_breathsLeft a_laidBlack a_laidWhite a_answersLeft a_firstAnswer a_answering a_next) (td_X7 cA) [.ref (ad 0), .int a0]) (vp_Sl (fun x => x = q)) 0 0 (fun _ => False) := by
  refine mkP_l (cc := cX7_stones) (nL := 2) (by decide) rfl (Nat.le_of_ble_eq_true rfl) ?_
  intro p e R s m args below meth c H Q ls hRf hRl S hN hP hK hl kret
  have hl : lv_has ls 2 [(0, .ref (ad 0)), (1, .int a0)] := hl
  obtain ⟨hx, hb, hml, hown, hts⟩ := S
  have hown : s.vm.findClass RX7 = some m.cls := hown
  have S : CallFix p m c cX7_stones 2 s args wsX7_stones RX7 := ⟨hx, hb, hml, hown, hts⟩
  have huX7 : ∀ w ∈ u_ws RX7 TX7 29, w ∈ wsX7_stones := by decide +kernel
  have hf27 := hts (.fieldLink RX7 27 "EyeBoardModel" "whiteAt" "[J") (by decide +kernel)
  have hf86 := hts (.fieldLink RX7 86 "EyeBoardModel" "acts" "I") (by decide +kernel)
  have hf24 := hts (.fieldLink RX7 24 "EyeBoardModel" "blackAt" "[J") (by decide +kernel)
  unfold f_X7_stones at hr
  refine lv_iload_n hx hb dX7_stones_0 rfl (lv_at hl 1 rfl) ?_
  refine lv_iconst (v := (1 : Int32)) hx hb dX7_stones_1 (by decide) ?_
  refine lv_icmp_ne (tgt := 17) hx hb dX7_stones_2 (by decide) (fun c1 => ?_) (fun c1 => ?_)
  · have hr := ite_n hr c1
    refine lv_aload_n hx hb dX7_stones_17 rfl (lv_at hl 0 rfl) ?_
    refine va_get (D := (dC, dI)) (ci := 7) (v := .ref (ad 4)) (C := RX7) (T := TX7) (N := 29) hx hb hts huX7 hown hK hP 0 rfl rfl 7 (by decide) hf27 (fun _ h9 => h9) rfl dX7_stones_18 ?_
    refine lv_aload_n hx hb dX7_stones_21 rfl (lv_at hl 0 rfl) ?_
    refine va_get (D := (dC, dI)) (ci := 7) (v := .int mo_acts) (C := RX7) (T := TX7) (N := 29) hx hb hts huX7 hown hK hP 0 rfl rfl 4 (by decide) hf86 (fun _ h9 => h9) rfl dX7_stones_22 ?_
    obtain ⟨hi2, hr⟩ := ite_g hr
    refine va_lald hx hb hK hP 4 3 rfl rfl hi2 dX7_stones_25 ?_
    obtain rfl := Option.some.inj hr
    exact kret _ _ dX7_stones_26
  · have hr := ite_p hr c1
    refine lv_aload_n hx hb dX7_stones_5 rfl (lv_at hl 0 rfl) ?_
    refine va_get (D := (dC, dI)) (ci := 7) (v := .ref (ad 3)) (C := RX7) (T := TX7) (N := 29) hx hb hts huX7 hown hK hP 0 rfl rfl 6 (by decide) hf24 (fun _ h9 => h9) rfl dX7_stones_6 ?_
    refine lv_aload_n hx hb dX7_stones_9 rfl (lv_at hl 0 rfl) ?_
    refine va_get (D := (dC, dI)) (ci := 7) (v := .int mo_acts) (C := RX7) (T := TX7) (N := 29) hx hb hts huX7 hown hK hP 0 rfl rfl 4 (by decide) hf86 (fun _ h9 => h9) rfl dX7_stones_10 ?_
    obtain ⟨hi3, hr⟩ := ite_g hr
    refine va_lald hx hb hK hP 3 2 rfl rfl hi3 dX7_stones_13 ?_
    refine lv_goto (tgt := 26) hx hb dX7_stones_14 (by decide) ?_
    obtain rfl := Option.some.inj hr
    exact kret _ _ dX7_stones_26

def f_X7_breaths (mo_wide : Int32) (mo_high : Int32) (mo_acts : Int32) (a_neighbours : Nat → Int64) (a_blackAt : Nat → Int64) (a_whiteAt : Nat → Int64) (a0 : Int64) : Option (Int64) :=
  (f_X7_around mo_wide mo_high a_neighbours a0).bind fun q1 =>
  if (mo_acts < 0 ∨ 130 ≤ mo_acts.toNatClampNeg) then none else
  if (mo_acts < 0 ∨ 130 ≤ mo_acts.toNatClampNeg) then none else
  (f_X7_free mo_wide mo_high (a_blackAt mo_acts.toNatClampNeg) (a_whiteAt mo_acts.toNatClampNeg)).bind fun q4 =>
  some (q1 &&& q4)

abbrev rm_X7_breaths : Room := { frames := 3, cells := 0, slots := 0, locals := 64 }
set_option maxHeartbeats 4000000 in
set_option maxRecDepth 100000 in
theorem c_X7_breaths (l : Launch) (dC : Nat → ClassId) (dI : Nat → Nat → Nat) (ad : Nat → Nat) (cA : Nat → ClassId) (mo_wide mo_high mo_law mo_acts : Int32) (mo_newBlack mo_newWhite : Int64) (mo_taken mo_triesMany mo_isSpent mo_found : Int32) (a_neighbours : Nat → Int64) (a_act : Nat → Int32) (a_blackAt a_whiteAt : Nat → Int64) (a_moveAt a_takenBlack a_takenWhite : Nat → Int32) (a_chaseBlack a_chaseWhite a_aheadBlack a_aheadWhite : Nat → Int64) (a_hasAhead : Nat → Int32) (a_breathsLeft a_laidBlack a_laidWhite a_answersLeft : Nat → Int64) (a_firstAnswer a_answering a_next : Nat → Int32) (a0 : Int64) (q : Int64) (hr : f_X7_breaths mo_wide mo_high mo_acts a_neighbours a_blackAt a_whiteAt a0 = some q) : Met l yX7_breaths wsX7_breaths rm_X7_breaths (PrP (dC, dI) (wd_X7 ad cA mo_wide mo_high mo_law mo_acts mo_newBlack mo_newWhite mo_taken mo_triesMany mo_isSpent mo_found a_neighbours a_act a_blackAt a_whiteAt a_moveAt a_takenBlack a_takenWhite a_chaseBlack a_chaseWhite a_aheadBlack a_aheadWhite a_hasAhead a_breathsLeft a_laidBlack a_laidWhite a_answersLeft a_firstAnswer a_answering a_next) (td_X7 cA) [.ref (ad 0), .long a0]) (vp_Sl (fun x => x = q)) 0 0 (fun _ => False) := by
  refine mkP_l (cc := cX7_breaths) (nL := 3) (by decide) rfl (Nat.le_of_ble_eq_true rfl) ?_
  intro p e R s m args below meth c H Q ls hRf hRl S hN hP hK hl kret
  have hl : lv_has ls 3 [(0, .ref (ad 0)), (1, .long a0)] := hl
  obtain ⟨hx, hb, hml, hown, hts⟩ := S
  have hown : s.vm.findClass RX7 = some m.cls := hown
  have S : CallFix p m c cX7_breaths 3 s args wsX7_breaths RX7 := ⟨hx, hb, hml, hown, hts⟩
  have huX7 : ∀ w ∈ u_ws RX7 TX7 29, w ∈ wsX7_breaths := by decide +kernel
  have hf24 := hts (.fieldLink RX7 24 "EyeBoardModel" "blackAt" "[J") (by decide +kernel)
  have hf86 := hts (.fieldLink RX7 86 "EyeBoardModel" "acts" "I") (by decide +kernel)
  have hf27 := hts (.fieldLink RX7 27 "EyeBoardModel" "whiteAt" "[J") (by decide +kernel)
  unfold f_X7_breaths at hr
  refine lv_aload_n hx hb dX7_breaths_0 rfl (lv_at hl 0 rfl) ?_
  refine lv_lload_n hx hb dX7_breaths_1 rfl (lv_at hl 1 rfl) ?_
  obtain ⟨q1, hq1, hr⟩ := bd_use hr
  refine pcV_l (As := [.long a0]) (rest := []) S (c_X7_around l dC dI ad cA mo_wide mo_high mo_law mo_acts mo_newBlack mo_newWhite mo_taken mo_triesMany mo_isSpent mo_found a_neighbours a_act a_blackAt a_whiteAt a_moveAt a_takenBlack a_takenWhite a_chaseBlack a_chaseWhite a_aheadBlack a_aheadWhite a_hasAhead a_breathsLeft a_laidBlack a_laidWhite a_answersLeft a_firstAnswer a_answering a_next a0 q1 hq1) (cwV 1 hts gX7_breaths_X7_around rfl rfl rfl (by decide +kernel) ⟨Nat.le_trans (m := rm_X7_breaths.frames) (by decide) hRf, Nat.le_trans (m := rm_X7_breaths.locals) (by decide) hRl⟩) hN hP hK ⟨Nat.zero_le _, Nat.zero_le _⟩ [0, 1, 2, 3, 4, 5, 6, 7, 8, 9, 10, 11, 12, 13, 14, 15, 16, 17, 18, 19] rfl [0, 1, 2, 3, 4, 5, 6, 7, 8, 9, 10, 11, 12, 13, 14, 15, 16, 17, 18] rfl 0 7 rfl rfl rfl hl.1 rfl (Nat.le_of_ble_eq_true rfl) dX7_breaths_2 ?_
  refine lv_aload_n hx hb dX7_breaths_5 rfl (lv_at hl 0 rfl) ?_
  refine lv_aload_n hx hb dX7_breaths_6 rfl (lv_at hl 0 rfl) ?_
  refine va_get (D := (dC, dI)) (ci := 7) (v := .ref (ad 3)) (C := RX7) (T := TX7) (N := 29) hx hb hts huX7 hown hK hP 0 rfl rfl 6 (by decide) hf24 (fun _ h9 => h9) rfl dX7_breaths_7 ?_
  refine lv_aload_n hx hb dX7_breaths_10 rfl (lv_at hl 0 rfl) ?_
  refine va_get (D := (dC, dI)) (ci := 7) (v := .int mo_acts) (C := RX7) (T := TX7) (N := 29) hx hb hts huX7 hown hK hP 0 rfl rfl 4 (by decide) hf86 (fun _ h9 => h9) rfl dX7_breaths_11 ?_
  obtain ⟨hi2, hr⟩ := ite_g hr
  refine va_lald hx hb hK hP 3 2 rfl rfl hi2 dX7_breaths_14 ?_
  refine lv_aload_n hx hb dX7_breaths_15 rfl (lv_at hl 0 rfl) ?_
  refine va_get (D := (dC, dI)) (ci := 7) (v := .ref (ad 4)) (C := RX7) (T := TX7) (N := 29) hx hb hts huX7 hown hK hP 0 rfl rfl 7 (by decide) hf27 (fun _ h9 => h9) rfl dX7_breaths_16 ?_
  refine lv_aload_n hx hb dX7_breaths_19 rfl (lv_at hl 0 rfl) ?_
  refine va_get (D := (dC, dI)) (ci := 7) (v := .int mo_acts) (C := RX7) (T := TX7) (N := 29) hx hb hts huX7 hown hK hP 0 rfl rfl 4 (by decide) hf86 (fun _ h9 => h9) rfl dX7_breaths_20 ?_
  obtain ⟨hi3, hr⟩ := ite_g hr
  refine va_lald hx hb hK hP 4 3 rfl rfl hi3 dX7_breaths_23 ?_
  obtain ⟨q4, hq4, hr⟩ := bd_use hr
  refine pcV_l (As := [.long (a_blackAt mo_acts.toNatClampNeg), .long (a_whiteAt mo_acts.toNatClampNeg)]) (rest := [.long q1]) S (c_X7_free l dC dI ad cA mo_wide mo_high mo_law mo_acts mo_newBlack mo_newWhite mo_taken mo_triesMany mo_isSpent mo_found a_neighbours a_act a_blackAt a_whiteAt a_moveAt a_takenBlack a_takenWhite a_chaseBlack a_chaseWhite a_aheadBlack a_aheadWhite a_hasAhead a_breathsLeft a_laidBlack a_laidWhite a_answersLeft a_firstAnswer a_answering a_next (a_blackAt mo_acts.toNatClampNeg) (a_whiteAt mo_acts.toNatClampNeg) q4 hq4) (cwV 2 hts gX7_breaths_X7_free rfl rfl rfl (by decide +kernel) ⟨Nat.le_trans (m := rm_X7_breaths.frames) (by decide) hRf, Nat.le_trans (m := rm_X7_breaths.locals) (by decide) hRl⟩) hN hP hK ⟨Nat.zero_le _, Nat.zero_le _⟩ [0, 1, 2, 3, 4, 5, 6, 7, 8, 9, 10, 11, 12, 13, 14, 15, 16, 17, 18, 19] rfl [0, 1, 2, 3, 4, 5, 6, 7, 8, 9, 10, 11, 12, 13, 14, 15, 16, 17, 18] rfl 0 7 rfl rfl rfl hl.1 rfl (Nat.le_of_ble_eq_true rfl) dX7_breaths_24 ?_
  refine lv_land hx hb dX7_breaths_27 ?_
  obtain rfl := Option.some.inj hr
  exact kret _ _ dX7_breaths_28

def f_X7_isVital (mo_wide : Int32) (mo_high : Int32) (mo_acts : Int32) (a_neighbours : Nat → Int64) (a_blackAt : Nat → Int64) (a_whiteAt : Nat → Int64) (a0 : Int64) (a1 : Int64) : Option (Int32) :=
  (f_X7_around mo_wide mo_high a_neighbours a1).bind fun q1 =>
  if q1 &&& a0 = (0 : Int64) then (
    some ((0 : Int32))
  )
  else (
    if (mo_acts < 0 ∨ 130 ≤ mo_acts.toNatClampNeg) then none else
    if (mo_acts < 0 ∨ 130 ≤ mo_acts.toNatClampNeg) then none else
    (f_X7_free mo_wide mo_high (a_blackAt mo_acts.toNatClampNeg) (a_whiteAt mo_acts.toNatClampNeg)).bind fun q5 =>
    (f_X7_breaths mo_wide mo_high mo_acts a_neighbours a_blackAt a_whiteAt a1).bind fun q6 =>
    if (a0 &&& q5) &&& (q6 ^^^ (-1 : Int64)) = (0 : Int64) then (
      some ((1 : Int32))
    )
    else (
      some ((0 : Int32))
    )
  )

abbrev rm_X7_isVital : Room := { frames := 4, cells := 0, slots := 0, locals := 86 }
set_option maxHeartbeats 4000000 in
set_option maxRecDepth 100000 in
theorem c_X7_isVital (l : Launch) (dC : Nat → ClassId) (dI : Nat → Nat → Nat) (ad : Nat → Nat) (cA : Nat → ClassId) (mo_wide mo_high mo_law mo_acts : Int32) (mo_newBlack mo_newWhite : Int64) (mo_taken mo_triesMany mo_isSpent mo_found : Int32) (a_neighbours : Nat → Int64) (a_act : Nat → Int32) (a_blackAt a_whiteAt : Nat → Int64) (a_moveAt a_takenBlack a_takenWhite : Nat → Int32) (a_chaseBlack a_chaseWhite a_aheadBlack a_aheadWhite : Nat → Int64) (a_hasAhead : Nat → Int32) (a_breathsLeft a_laidBlack a_laidWhite a_answersLeft : Nat → Int64) (a_firstAnswer a_answering a_next : Nat → Int32) (a0 : Int64) (a1 : Int64) (q : Int32) (hr : f_X7_isVital mo_wide mo_high mo_acts a_neighbours a_blackAt a_whiteAt a0 a1 = some q) : Met l yX7_isVital wsX7_isVital rm_X7_isVital (PrP (dC, dI) (wd_X7 ad cA mo_wide mo_high mo_law mo_acts mo_newBlack mo_newWhite mo_taken mo_triesMany mo_isSpent mo_found a_neighbours a_act a_blackAt a_whiteAt a_moveAt a_takenBlack a_takenWhite a_chaseBlack a_chaseWhite a_aheadBlack a_aheadWhite a_hasAhead a_breathsLeft a_laidBlack a_laidWhite a_answersLeft a_firstAnswer a_answering a_next) (td_X7 cA) [.ref (ad 0), .long a0, .long a1]) (vp_Si (fun x => x = q)) 0 0 (fun _ => False) := by
  refine mkP_z (cc := cX7_isVital) (nL := 5) (by decide) rfl (Nat.le_of_ble_eq_true rfl) ?_
  intro p e R s m args below meth c H Q ls hRf hRl S hN hP hK hl kret
  have hl : lv_has ls 5 [(0, .ref (ad 0)), (1, .long a0), (3, .long a1)] := hl
  obtain ⟨hx, hb, hml, hown, hts⟩ := S
  have hown : s.vm.findClass RX7 = some m.cls := hown
  have S : CallFix p m c cX7_isVital 5 s args wsX7_isVital RX7 := ⟨hx, hb, hml, hown, hts⟩
  have huX7 : ∀ w ∈ u_ws RX7 TX7 29, w ∈ wsX7_isVital := by decide +kernel
  have hf24 := hts (.fieldLink RX7 24 "EyeBoardModel" "blackAt" "[J") (by decide +kernel)
  have hf86 := hts (.fieldLink RX7 86 "EyeBoardModel" "acts" "I") (by decide +kernel)
  have hf27 := hts (.fieldLink RX7 27 "EyeBoardModel" "whiteAt" "[J") (by decide +kernel)
  have hk105 := hts (.constantLong RX7 105 (-1 : Int64)) (by decide +kernel)
  unfold f_X7_isVital at hr
  refine lv_aload_n hx hb dX7_isVital_0 rfl (lv_at hl 0 rfl) ?_
  refine lv_lload_n hx hb dX7_isVital_1 rfl (lv_at hl 2 rfl) ?_
  obtain ⟨q1, hq1, hr⟩ := bd_use hr
  refine pcV_l (As := [.long a1]) (rest := []) S (c_X7_around l dC dI ad cA mo_wide mo_high mo_law mo_acts mo_newBlack mo_newWhite mo_taken mo_triesMany mo_isSpent mo_found a_neighbours a_act a_blackAt a_whiteAt a_moveAt a_takenBlack a_takenWhite a_chaseBlack a_chaseWhite a_aheadBlack a_aheadWhite a_hasAhead a_breathsLeft a_laidBlack a_laidWhite a_answersLeft a_firstAnswer a_answering a_next a1 q1 hq1) (cwV 1 hts gX7_isVital_X7_around rfl rfl rfl (by decide +kernel) ⟨Nat.le_trans (m := rm_X7_isVital.frames) (by decide) hRf, Nat.le_trans (m := rm_X7_isVital.locals) (by decide) hRl⟩) hN hP hK ⟨Nat.zero_le _, Nat.zero_le _⟩ [0, 1, 2, 3, 4, 5, 6, 7, 8, 9, 10, 11, 12, 13, 14, 15, 16, 17, 18, 19] rfl [0, 1, 2, 3, 4, 5, 6, 7, 8, 9, 10, 11, 12, 13, 14, 15, 16, 17, 18] rfl 0 7 rfl rfl rfl hl.1 rfl (Nat.le_of_ble_eq_true rfl) dX7_isVital_2 ?_
  refine lv_lload_n hx hb dX7_isVital_5 rfl (lv_at hl 1 rfl) ?_
  refine lv_land hx hb dX7_isVital_6 ?_
  refine lv_lconst (v := (0 : Int64)) hx hb dX7_isVital_7 (by decide) ?_
  refine W.lcmp hx hb dX7_isVital_8 ?_
  refine lv_if_eq (tgt := 55) hx hb dX7_isVital_9 (by decide) (fun c2 => ?_) (fun c2 => ?_)
  · have c2 := cmp_t c2
    have hr := ite_p hr c2
    refine lv_iconst (v := (0 : Int32)) hx hb dX7_isVital_55 (by decide) ?_
    obtain rfl := Option.some.inj hr
    exact kret _ _ dX7_isVital_56 nar_0
  · have c2 := cmp_f c2
    have hr := ite_n hr c2
    refine lv_lload_n hx hb dX7_isVital_12 rfl (lv_at hl 1 rfl) ?_
    refine lv_aload_n hx hb dX7_isVital_13 rfl (lv_at hl 0 rfl) ?_
    refine lv_aload_n hx hb dX7_isVital_14 rfl (lv_at hl 0 rfl) ?_
    refine va_get (D := (dC, dI)) (ci := 7) (v := .ref (ad 3)) (C := RX7) (T := TX7) (N := 29) hx hb hts huX7 hown hK hP 0 rfl rfl 6 (by decide) hf24 (fun _ h9 => h9) rfl dX7_isVital_15 ?_
    refine lv_aload_n hx hb dX7_isVital_18 rfl (lv_at hl 0 rfl) ?_
    refine va_get (D := (dC, dI)) (ci := 7) (v := .int mo_acts) (C := RX7) (T := TX7) (N := 29) hx hb hts huX7 hown hK hP 0 rfl rfl 4 (by decide) hf86 (fun _ h9 => h9) rfl dX7_isVital_19 ?_
    obtain ⟨hi3, hr⟩ := ite_g hr
    refine va_lald hx hb hK hP 3 2 rfl rfl hi3 dX7_isVital_22 ?_
    refine lv_aload_n hx hb dX7_isVital_23 rfl (lv_at hl 0 rfl) ?_
    refine va_get (D := (dC, dI)) (ci := 7) (v := .ref (ad 4)) (C := RX7) (T := TX7) (N := 29) hx hb hts huX7 hown hK hP 0 rfl rfl 7 (by decide) hf27 (fun _ h9 => h9) rfl dX7_isVital_24 ?_
    refine lv_aload_n hx hb dX7_isVital_27 rfl (lv_at hl 0 rfl) ?_
    refine va_get (D := (dC, dI)) (ci := 7) (v := .int mo_acts) (C := RX7) (T := TX7) (N := 29) hx hb hts huX7 hown hK hP 0 rfl rfl 4 (by decide) hf86 (fun _ h9 => h9) rfl dX7_isVital_28 ?_
    obtain ⟨hi4, hr⟩ := ite_g hr
    refine va_lald hx hb hK hP 4 3 rfl rfl hi4 dX7_isVital_31 ?_
    obtain ⟨q5, hq5, hr⟩ := bd_use hr
    refine pcV_l (As := [.long (a_blackAt mo_acts.toNatClampNeg), .long (a_whiteAt mo_acts.toNatClampNeg)]) (rest := [.long a0]) S (c_X7_free l dC dI ad cA mo_wide mo_high mo_law mo_acts mo_newBlack mo_newWhite mo_taken mo_triesMany mo_isSpent mo_found a_neighbours a_act a_blackAt a_whiteAt a_moveAt a_takenBlack a_takenWhite a_chaseBlack a_chaseWhite a_aheadBlack a_aheadWhite a_hasAhead a_breathsLeft a_laidBlack a_laidWhite a_answersLeft a_firstAnswer a_answering a_next (a_blackAt mo_acts.toNatClampNeg) (a_whiteAt mo_acts.toNatClampNeg) q5 hq5) (cwV 2 hts gX7_isVital_X7_free rfl rfl rfl (by decide +kernel) ⟨Nat.le_trans (m := rm_X7_isVital.frames) (by decide) hRf, Nat.le_trans (m := rm_X7_isVital.locals) (by decide) hRl⟩) hN hP hK ⟨Nat.zero_le _, Nat.zero_le _⟩ [0, 1, 2, 3, 4, 5, 6, 7, 8, 9, 10, 11, 12, 13, 14, 15, 16, 17, 18, 19] rfl [0, 1, 2, 3, 4, 5, 6, 7, 8, 9, 10, 11, 12, 13, 14, 15, 16, 17, 18] rfl 0 7 rfl rfl rfl hl.1 rfl (Nat.le_of_ble_eq_true rfl) dX7_isVital_32 ?_
    refine lv_land hx hb dX7_isVital_35 ?_
    refine lv_aload_n hx hb dX7_isVital_36 rfl (lv_at hl 0 rfl) ?_
    refine lv_lload_n hx hb dX7_isVital_37 rfl (lv_at hl 2 rfl) ?_
    obtain ⟨q6, hq6, hr⟩ := bd_use hr
    refine pcV_l (As := [.long a1]) (rest := [.long (a0 &&& q5)]) S (c_X7_breaths l dC dI ad cA mo_wide mo_high mo_law mo_acts mo_newBlack mo_newWhite mo_taken mo_triesMany mo_isSpent mo_found a_neighbours a_act a_blackAt a_whiteAt a_moveAt a_takenBlack a_takenWhite a_chaseBlack a_chaseWhite a_aheadBlack a_aheadWhite a_hasAhead a_breathsLeft a_laidBlack a_laidWhite a_answersLeft a_firstAnswer a_answering a_next a1 q6 hq6) (cwV 1 hts gX7_isVital_X7_breaths rfl rfl rfl (by decide +kernel) ⟨Nat.le_trans (m := rm_X7_isVital.frames) (by decide) hRf, Nat.le_trans (m := rm_X7_isVital.locals) (by decide) hRl⟩) hN hP hK ⟨Nat.zero_le _, Nat.zero_le _⟩ [0, 1, 2, 3, 4, 5, 6, 7, 8, 9, 10, 11, 12, 13, 14, 15, 16, 17, 18, 19] rfl [0, 1, 2, 3, 4, 5, 6, 7, 8, 9, 10, 11, 12, 13, 14, 15, 16, 17, 18] rfl 0 7 rfl rfl rfl hl.1 rfl (Nat.le_of_ble_eq_true rfl) dX7_isVital_38 ?_
    refine W.ldc2 (v := (-1 : Int64)) hx hb hown hk105 rfl dX7_isVital_41 ?_
    refine W.eq (g2 := F0 m 44 ls [.long (-1 : Int64), .long q6, .long (a0 &&& q5)]) rfl ?_
    refine lv_lxor hx hb dX7_isVital_44 ?_
    refine lv_land hx hb dX7_isVital_45 ?_
    refine lv_lconst (v := (0 : Int64)) hx hb dX7_isVital_46 (by decide) ?_
    refine W.lcmp hx hb dX7_isVital_47 ?_
    refine lv_if_ne (tgt := 55) hx hb dX7_isVital_48 (by decide) (fun c7 => ?_) (fun c7 => ?_)
    · have c7 := cmp_f c7
      have hr := ite_n hr c7
      refine lv_iconst (v := (0 : Int32)) hx hb dX7_isVital_55 (by decide) ?_
      obtain rfl := Option.some.inj hr
      exact kret _ _ dX7_isVital_56 nar_0
    · have c7 := cmp_t c7
      have hr := ite_p hr c7
      refine lv_iconst (v := (1 : Int32)) hx hb dX7_isVital_51 (by decide) ?_
      refine lv_goto (tgt := 56) hx hb dX7_isVital_52 (by decide) ?_
      obtain rfl := Option.some.inj hr
      exact kret _ _ dX7_isVital_56 nar_1

def lp_X7_vital_19 (mo_wide : Int32) (mo_high : Int32) (mo_acts : Int32) (a_neighbours : Nat → Int64) (a_blackAt : Nat → Int64) (a_whiteAt : Nat → Int64) (a0 : Int32) (a1 : Int64) (a2 : Int64) : Nat → Int64 → Int32 → Option (Int32)
  | 0, _, _ => none
  | nF + 1, v4, v5 =>
    if v4 = (0 : Int64) then (
      some (v5)
    )
    else (
      (f_X7_all mo_wide mo_high).bind fun q7 =>
      (f_X7_stones mo_acts a_blackAt a_whiteAt a0).bind fun q8 =>
      (f_X7_spread mo_wide mo_high a_neighbours (v4 &&& (-v4)) (q7 &&& (q8 ^^^ (-1 : Int64)))).bind fun q9 =>
      nm (v4 &&& (q9 ^^^ (-1 : Int64))) fun x10 =>
      (f_X7_isVital mo_wide mo_high mo_acts a_neighbours a_blackAt a_whiteAt q9 a1).bind fun q11 =>
      if q11 = 0 then (
        nm (v5 + (0 : Int32)) fun x13 =>
        lp_X7_vital_19 mo_wide mo_high mo_acts a_neighbours a_blackAt a_whiteAt a0 a1 a2 nF x10 x13
      )
      else (
        (f_X7_around mo_wide mo_high a_neighbours q9).bind fun q14 =>
        if q14 &&& a2 = (0 : Int64) then (
          nm (v5 + (1 : Int32)) fun x17 =>
          lp_X7_vital_19 mo_wide mo_high mo_acts a_neighbours a_blackAt a_whiteAt a0 a1 a2 nF x10 x17
        )
        else (
          nm (v5 + (0 : Int32)) fun x16 =>
          lp_X7_vital_19 mo_wide mo_high mo_acts a_neighbours a_blackAt a_whiteAt a0 a1 a2 nF x10 x16
        )
      )
    )

def f_X7_vital (mo_wide : Int32) (mo_high : Int32) (mo_acts : Int32) (a_neighbours : Nat → Int64) (a_blackAt : Nat → Int64) (a_whiteAt : Nat → Int64) (a0 : Int32) (a1 : Int64) (a2 : Int64) : Option (Int32) :=
  (f_X7_all mo_wide mo_high).bind fun q1 =>
  (f_X7_stones mo_acts a_blackAt a_whiteAt a0).bind fun q2 =>
  nm (q1 &&& (q2 ^^^ (-1 : Int64))) fun x3 =>
  lp_X7_vital_19 mo_wide mo_high mo_acts a_neighbours a_blackAt a_whiteAt a0 a1 a2 FU x3 (0 : Int32)

abbrev rm_X7_vital : Room := { frames := 5, cells := 0, slots := 0, locals := 110 }
set_option maxHeartbeats 4000000 in
set_option maxRecDepth 100000 in
theorem c_X7_vital (l : Launch) (dC : Nat → ClassId) (dI : Nat → Nat → Nat) (ad : Nat → Nat) (cA : Nat → ClassId) (mo_wide mo_high mo_law mo_acts : Int32) (mo_newBlack mo_newWhite : Int64) (mo_taken mo_triesMany mo_isSpent mo_found : Int32) (a_neighbours : Nat → Int64) (a_act : Nat → Int32) (a_blackAt a_whiteAt : Nat → Int64) (a_moveAt a_takenBlack a_takenWhite : Nat → Int32) (a_chaseBlack a_chaseWhite a_aheadBlack a_aheadWhite : Nat → Int64) (a_hasAhead : Nat → Int32) (a_breathsLeft a_laidBlack a_laidWhite a_answersLeft : Nat → Int64) (a_firstAnswer a_answering a_next : Nat → Int32) (a0 : Int32) (a1 : Int64) (a2 : Int64) (q : Int32) (hr : f_X7_vital mo_wide mo_high mo_acts a_neighbours a_blackAt a_whiteAt a0 a1 a2 = some q) : Met l yX7_vital wsX7_vital rm_X7_vital (PrP (dC, dI) (wd_X7 ad cA mo_wide mo_high mo_law mo_acts mo_newBlack mo_newWhite mo_taken mo_triesMany mo_isSpent mo_found a_neighbours a_act a_blackAt a_whiteAt a_moveAt a_takenBlack a_takenWhite a_chaseBlack a_chaseWhite a_aheadBlack a_aheadWhite a_hasAhead a_breathsLeft a_laidBlack a_laidWhite a_answersLeft a_firstAnswer a_answering a_next) (td_X7 cA) [.ref (ad 0), .int a0, .long a1, .long a2]) (vp_Si (fun x => x = q)) 0 0 (fun _ => False) := by
  refine mkP_i (cc := cX7_vital) (nL := 11) (by decide) rfl (Nat.le_of_ble_eq_true rfl) ?_
  intro p e R s m args below meth c H Q ls hRf hRl S hN hP hK hl kret
  have hl : lv_has ls 11 [(0, .ref (ad 0)), (1, .int a0), (2, .long a1), (4, .long a2)] := hl
  obtain ⟨hx, hb, hml, hown, hts⟩ := S
  have hown : s.vm.findClass RX7 = some m.cls := hown
  have S : CallFix p m c cX7_vital 11 s args wsX7_vital RX7 := ⟨hx, hb, hml, hown, hts⟩
  have hk105 := hts (.constantLong RX7 105 (-1 : Int64)) (by decide +kernel)
  unfold f_X7_vital at hr
  refine lv_aload_n hx hb dX7_vital_0 rfl (lv_at hl 0 rfl) ?_
  obtain ⟨q1, hq1, hr⟩ := bd_use hr
  refine pcV_l (As := []) (rest := []) S (c_X7_all l dC dI ad cA mo_wide mo_high mo_law mo_acts mo_newBlack mo_newWhite mo_taken mo_triesMany mo_isSpent mo_found a_neighbours a_act a_blackAt a_whiteAt a_moveAt a_takenBlack a_takenWhite a_chaseBlack a_chaseWhite a_aheadBlack a_aheadWhite a_hasAhead a_breathsLeft a_laidBlack a_laidWhite a_answersLeft a_firstAnswer a_answering a_next q1 hq1) (cwV 0 hts gX7_vital_X7_all rfl rfl rfl (by decide +kernel) ⟨Nat.le_trans (m := rm_X7_vital.frames) (by decide) hRf, Nat.le_trans (m := rm_X7_vital.locals) (by decide) hRl⟩) hN hP hK ⟨Nat.zero_le _, Nat.zero_le _⟩ [0, 1, 2, 3, 4, 5, 6, 7, 8, 9, 10, 11, 12, 13, 14, 15, 16, 17, 18, 19] rfl [0, 1, 2, 3, 4, 5, 6, 7, 8, 9, 10, 11, 12, 13, 14, 15, 16, 17, 18] rfl 0 7 rfl rfl rfl hl.1 rfl (Nat.le_of_ble_eq_true rfl) dX7_vital_1 ?_
  refine lv_aload_n hx hb dX7_vital_4 rfl (lv_at hl 0 rfl) ?_
  refine lv_iload_n hx hb dX7_vital_5 rfl (lv_at hl 1 rfl) ?_
  obtain ⟨q2, hq2, hr⟩ := bd_use hr
  refine pcV_l (As := [.int a0]) (rest := [.long q1]) S (c_X7_stones l dC dI ad cA mo_wide mo_high mo_law mo_acts mo_newBlack mo_newWhite mo_taken mo_triesMany mo_isSpent mo_found a_neighbours a_act a_blackAt a_whiteAt a_moveAt a_takenBlack a_takenWhite a_chaseBlack a_chaseWhite a_aheadBlack a_aheadWhite a_hasAhead a_breathsLeft a_laidBlack a_laidWhite a_answersLeft a_firstAnswer a_answering a_next a0 q2 hq2) (cwV 1 hts gX7_vital_X7_stones rfl rfl rfl (by decide +kernel) ⟨Nat.le_trans (m := rm_X7_vital.frames) (by decide) hRf, Nat.le_trans (m := rm_X7_vital.locals) (by decide) hRl⟩) hN hP hK ⟨Nat.zero_le _, Nat.zero_le _⟩ [0, 1, 2, 3, 4, 5, 6, 7, 8, 9, 10, 11, 12, 13, 14, 15, 16, 17, 18, 19] rfl [0, 1, 2, 3, 4, 5, 6, 7, 8, 9, 10, 11, 12, 13, 14, 15, 16, 17, 18] rfl 0 7 rfl rfl rfl hl.1 rfl (Nat.le_of_ble_eq_true rfl) dX7_vital_6 ?_
  refine W.ldc2 (v := (-1 : Int64)) hx hb hown hk105 rfl dX7_vital_9 ?_
  refine W.eq (g2 := F0 m 12 ls [.long (-1 : Int64), .long q2, .long q1]) rfl ?_
  refine lv_lxor hx hb dX7_vital_12 ?_
  refine lv_land hx hb dX7_vital_13 ?_
  refine lv_topl (fun x3 ex3 => ?_)
  have hr := nm_use hr ex3
  refine lv_lstore (lv' := [(6, .long x3), (0, .ref (ad 0)), (1, .int a0), (2, .long a1), (4, .long a2)]) hx hb dX7_vital_14 hl (by decide) rfl (fun ls hl => ?_)
  refine lv_iconst (v := (0 : Int32)) hx hb dX7_vital_16 (by decide) ?_
  refine lv_istore (lv' := [(8, .int (0 : Int32)), (6, .long x3), (0, .ref (ad 0)), (1, .int a0), (2, .long a1), (4, .long a2)]) hx hb dX7_vital_17 hl (by decide) rfl (fun ls hl => ?_)
  have llp_X7_vital_19 : ∀ (nF : Nat) (v4 : Int64) (v5 : Int32) , lp_X7_vital_19 mo_wide mo_high mo_acts a_neighbours a_blackAt a_whiteAt a0 a1 a2 nF v4 v5 = some q → ∀ (ls : Array Slot), lv_has ls 11 [(0, .ref (ad 0)), (1, .int a0), (2, .long a1), (4, .long a2), (6, .long v4), (8, .int v5)] → W p l e R s m args below meth c H [] 0 0 Q (F0 m 19 ls []) := by
    intro nF
    induction nF with
    | zero => intro v4 v5 hr; exact absurd hr (by simp [lp_X7_vital_19])
    | succ nF ih =>
      intro v4 v5 hr ls hl
      rw [lp_X7_vital_19] at hr
      refine lv_lload hx hb dX7_vital_19 (lv_at hl 4 rfl) ?_
      refine lv_lconst (v := (0 : Int64)) hx hb dX7_vital_21 (by decide) ?_
      refine W.lcmp hx hb dX7_vital_22 ?_
      refine lv_if_eq (tgt := 100) hx hb dX7_vital_23 (by decide) (fun c6 => ?_) (fun c6 => ?_)
      · have c6 := cmp_t c6
        have hr := ite_p hr c6
        refine lv_iload hx hb dX7_vital_100 (lv_at hl 5 rfl) ?_
        obtain rfl := Option.some.inj hr
        exact kret _ _ dX7_vital_102
      · have c6 := cmp_f c6
        have hr := ite_n hr c6
        refine lv_aload_n hx hb dX7_vital_26 rfl (lv_at hl 0 rfl) ?_
        refine lv_lload hx hb dX7_vital_27 (lv_at hl 4 rfl) ?_
        refine lv_lload hx hb dX7_vital_29 (lv_at hl 4 rfl) ?_
        refine lv_lneg hx hb dX7_vital_31 ?_
        refine lv_land hx hb dX7_vital_32 ?_
        refine lv_aload_n hx hb dX7_vital_33 rfl (lv_at hl 0 rfl) ?_
        obtain ⟨q7, hq7, hr⟩ := bd_use hr
        refine pcV_l (As := []) (rest := [.long (v4 &&& (-v4)), .ref (ad 0)]) S (c_X7_all l dC dI ad cA mo_wide mo_high mo_law mo_acts mo_newBlack mo_newWhite mo_taken mo_triesMany mo_isSpent mo_found a_neighbours a_act a_blackAt a_whiteAt a_moveAt a_takenBlack a_takenWhite a_chaseBlack a_chaseWhite a_aheadBlack a_aheadWhite a_hasAhead a_breathsLeft a_laidBlack a_laidWhite a_answersLeft a_firstAnswer a_answering a_next q7 hq7) (cwV 0 hts gX7_vital_X7_all rfl rfl rfl (by decide +kernel) ⟨Nat.le_trans (m := rm_X7_vital.frames) (by decide) hRf, Nat.le_trans (m := rm_X7_vital.locals) (by decide) hRl⟩) hN hP hK ⟨Nat.zero_le _, Nat.zero_le _⟩ [0, 1, 2, 3, 4, 5, 6, 7, 8, 9, 10, 11, 12, 13, 14, 15, 16, 17, 18, 19] rfl [0, 1, 2, 3, 4, 5, 6, 7, 8, 9, 10, 11, 12, 13, 14, 15, 16, 17, 18] rfl 0 7 rfl rfl rfl hl.1 rfl (Nat.le_of_ble_eq_true rfl) dX7_vital_34 ?_
        refine lv_aload_n hx hb dX7_vital_37 rfl (lv_at hl 0 rfl) ?_
        refine lv_iload_n hx hb dX7_vital_38 rfl (lv_at hl 1 rfl) ?_
        obtain ⟨q8, hq8, hr⟩ := bd_use hr
        refine pcV_l (As := [.int a0]) (rest := [.long q7, .long (v4 &&& (-v4)), .ref (ad 0)]) S (c_X7_stones l dC dI ad cA mo_wide mo_high mo_law mo_acts mo_newBlack mo_newWhite mo_taken mo_triesMany mo_isSpent mo_found a_neighbours a_act a_blackAt a_whiteAt a_moveAt a_takenBlack a_takenWhite a_chaseBlack a_chaseWhite a_aheadBlack a_aheadWhite a_hasAhead a_breathsLeft a_laidBlack a_laidWhite a_answersLeft a_firstAnswer a_answering a_next a0 q8 hq8) (cwV 1 hts gX7_vital_X7_stones rfl rfl rfl (by decide +kernel) ⟨Nat.le_trans (m := rm_X7_vital.frames) (by decide) hRf, Nat.le_trans (m := rm_X7_vital.locals) (by decide) hRl⟩) hN hP hK ⟨Nat.zero_le _, Nat.zero_le _⟩ [0, 1, 2, 3, 4, 5, 6, 7, 8, 9, 10, 11, 12, 13, 14, 15, 16, 17, 18, 19] rfl [0, 1, 2, 3, 4, 5, 6, 7, 8, 9, 10, 11, 12, 13, 14, 15, 16, 17, 18] rfl 0 7 rfl rfl rfl hl.1 rfl (Nat.le_of_ble_eq_true rfl) dX7_vital_39 ?_
        refine W.ldc2 (v := (-1 : Int64)) hx hb hown hk105 rfl dX7_vital_42 ?_
        refine W.eq (g2 := F0 m 45 ls [.long (-1 : Int64), .long q8, .long q7, .long (v4 &&& (-v4)), .ref (ad 0)]) rfl ?_
        refine lv_lxor hx hb dX7_vital_45 ?_
        refine lv_land hx hb dX7_vital_46 ?_
        obtain ⟨q9, hq9, hr⟩ := bd_use hr
        refine pcV_l (As := [.long (v4 &&& (-v4)), .long (q7 &&& (q8 ^^^ (-1 : Int64)))]) (rest := []) S (c_X7_spread l dC dI ad cA mo_wide mo_high mo_law mo_acts mo_newBlack mo_newWhite mo_taken mo_triesMany mo_isSpent mo_found a_neighbours a_act a_blackAt a_whiteAt a_moveAt a_takenBlack a_takenWhite a_chaseBlack a_chaseWhite a_aheadBlack a_aheadWhite a_hasAhead a_breathsLeft a_laidBlack a_laidWhite a_answersLeft a_firstAnswer a_answering a_next (v4 &&& (-v4)) (q7 &&& (q8 ^^^ (-1 : Int64))) q9 hq9) (cwV 2 hts gX7_vital_X7_spread rfl rfl rfl (by decide +kernel) ⟨Nat.le_trans (m := rm_X7_vital.frames) (by decide) hRf, Nat.le_trans (m := rm_X7_vital.locals) (by decide) hRl⟩) hN hP hK ⟨Nat.zero_le _, Nat.zero_le _⟩ [0, 1, 2, 3, 4, 5, 6, 7, 8, 9, 10, 11, 12, 13, 14, 15, 16, 17, 18, 19] rfl [0, 1, 2, 3, 4, 5, 6, 7, 8, 9, 10, 11, 12, 13, 14, 15, 16, 17, 18] rfl 0 7 rfl rfl rfl hl.1 rfl (Nat.le_of_ble_eq_true rfl) dX7_vital_47 ?_
        refine lv_lstore (lv' := [(9, .long q9), (0, .ref (ad 0)), (1, .int a0), (2, .long a1), (4, .long a2), (6, .long v4), (8, .int v5)]) hx hb dX7_vital_50 hl (by decide) rfl (fun ls hl => ?_)
        refine lv_lload hx hb dX7_vital_52 (lv_at hl 5 rfl) ?_
        refine lv_lload hx hb dX7_vital_54 (lv_at hl 0 rfl) ?_
        refine W.ldc2 (v := (-1 : Int64)) hx hb hown hk105 rfl dX7_vital_56 ?_
        refine W.eq (g2 := F0 m 59 ls [.long (-1 : Int64), .long q9, .long v4]) rfl ?_
        refine lv_lxor hx hb dX7_vital_59 ?_
        refine lv_land hx hb dX7_vital_60 ?_
        refine lv_topl (fun x10 ex10 => ?_)
        have hr := nm_use hr ex10
        refine lv_lstore (lv' := [(6, .long x10), (9, .long q9), (0, .ref (ad 0)), (1, .int a0), (2, .long a1), (4, .long a2), (8, .int v5)]) hx hb dX7_vital_61 hl (by decide) rfl (fun ls hl => ?_)
        refine lv_iload hx hb dX7_vital_63 (lv_at hl 6 rfl) ?_
        refine lv_aload_n hx hb dX7_vital_65 rfl (lv_at hl 2 rfl) ?_
        refine lv_lload hx hb dX7_vital_66 (lv_at hl 1 rfl) ?_
        refine lv_lload_n hx hb dX7_vital_68 rfl (lv_at hl 4 rfl) ?_
        obtain ⟨q11, hq11, hr⟩ := bd_use hr
        refine pcV_i (As := [.long q9, .long a1]) (rest := [.int v5]) S (c_X7_isVital l dC dI ad cA mo_wide mo_high mo_law mo_acts mo_newBlack mo_newWhite mo_taken mo_triesMany mo_isSpent mo_found a_neighbours a_act a_blackAt a_whiteAt a_moveAt a_takenBlack a_takenWhite a_chaseBlack a_chaseWhite a_aheadBlack a_aheadWhite a_hasAhead a_breathsLeft a_laidBlack a_laidWhite a_answersLeft a_firstAnswer a_answering a_next q9 a1 q11 hq11) (cwV 2 hts gX7_vital_X7_isVital rfl rfl rfl (by decide +kernel) ⟨Nat.le_trans (m := rm_X7_vital.frames) (by decide) hRf, Nat.le_trans (m := rm_X7_vital.locals) (by decide) hRl⟩) hN hP hK ⟨Nat.zero_le _, Nat.zero_le _⟩ [0, 1, 2, 3, 4, 5, 6, 7, 8, 9, 10, 11, 12, 13, 14, 15, 16, 17, 18, 19] rfl [0, 1, 2, 3, 4, 5, 6, 7, 8, 9, 10, 11, 12, 13, 14, 15, 16, 17, 18] rfl 0 7 rfl rfl rfl hl.1 rfl (Nat.le_of_ble_eq_true rfl) dX7_vital_69 ?_
        refine lv_if_eq (tgt := 93) hx hb dX7_vital_72 (by decide) (fun c12 => ?_) (fun c12 => ?_)
        · have hr := ite_p hr c12
          refine lv_iconst (v := (0 : Int32)) hx hb dX7_vital_93 (by decide) ?_
          refine lv_iadd hx hb dX7_vital_94 ?_
          refine lv_topi (fun x13 ex13 => ?_)
          have hr := nm_use hr ex13
          refine lv_istore (lv' := [(8, .int x13), (6, .long x10), (9, .long q9), (0, .ref (ad 0)), (1, .int a0), (2, .long a1), (4, .long a2)]) hx hb dX7_vital_95 hl (by decide) rfl (fun ls hl => ?_)
          refine lv_goto (tgt := 19) hx hb dX7_vital_97 (by decide) ?_
          exact ih x10 x13 hr ls (lv_sub hl [3, 4, 5, 6, 1, 0] rfl)
        · have hr := ite_n hr c12
          refine lv_aload_n hx hb dX7_vital_75 rfl (lv_at hl 2 rfl) ?_
          refine lv_lload hx hb dX7_vital_76 (lv_at hl 1 rfl) ?_
          obtain ⟨q14, hq14, hr⟩ := bd_use hr
          refine pcV_l (As := [.long q9]) (rest := [.int v5]) S (c_X7_around l dC dI ad cA mo_wide mo_high mo_law mo_acts mo_newBlack mo_newWhite mo_taken mo_triesMany mo_isSpent mo_found a_neighbours a_act a_blackAt a_whiteAt a_moveAt a_takenBlack a_takenWhite a_chaseBlack a_chaseWhite a_aheadBlack a_aheadWhite a_hasAhead a_breathsLeft a_laidBlack a_laidWhite a_answersLeft a_firstAnswer a_answering a_next q9 q14 hq14) (cwV 1 hts gX7_vital_X7_around rfl rfl rfl (by decide +kernel) ⟨Nat.le_trans (m := rm_X7_vital.frames) (by decide) hRf, Nat.le_trans (m := rm_X7_vital.locals) (by decide) hRl⟩) hN hP hK ⟨Nat.zero_le _, Nat.zero_le _⟩ [0, 1, 2, 3, 4, 5, 6, 7, 8, 9, 10, 11, 12, 13, 14, 15, 16, 17, 18, 19] rfl [0, 1, 2, 3, 4, 5, 6, 7, 8, 9, 10, 11, 12, 13, 14, 15, 16, 17, 18] rfl 0 7 rfl rfl rfl hl.1 rfl (Nat.le_of_ble_eq_true rfl) dX7_vital_78 ?_
          refine lv_lload hx hb dX7_vital_81 (lv_at hl 5 rfl) ?_
          refine lv_land hx hb dX7_vital_83 ?_
          refine lv_lconst (v := (0 : Int64)) hx hb dX7_vital_84 (by decide) ?_
          refine W.lcmp hx hb dX7_vital_85 ?_
          refine lv_if_ne (tgt := 93) hx hb dX7_vital_86 (by decide) (fun c15 => ?_) (fun c15 => ?_)
          · have c15 := cmp_f c15
            have hr := ite_n hr c15
            refine lv_iconst (v := (0 : Int32)) hx hb dX7_vital_93 (by decide) ?_
            refine lv_iadd hx hb dX7_vital_94 ?_
            refine lv_topi (fun x16 ex16 => ?_)
            have hr := nm_use hr ex16
            refine lv_istore (lv' := [(8, .int x16), (6, .long x10), (9, .long q9), (0, .ref (ad 0)), (1, .int a0), (2, .long a1), (4, .long a2)]) hx hb dX7_vital_95 hl (by decide) rfl (fun ls hl => ?_)
            refine lv_goto (tgt := 19) hx hb dX7_vital_97 (by decide) ?_
            exact ih x10 x16 hr ls (lv_sub hl [3, 4, 5, 6, 1, 0] rfl)
          · have c15 := cmp_t c15
            have hr := ite_p hr c15
            refine lv_iconst (v := (1 : Int32)) hx hb dX7_vital_89 (by decide) ?_
            refine lv_goto (tgt := 94) hx hb dX7_vital_90 (by decide) ?_
            refine lv_iadd hx hb dX7_vital_94 ?_
            refine lv_topi (fun x17 ex17 => ?_)
            have hr := nm_use hr ex17
            refine lv_istore (lv' := [(8, .int x17), (6, .long x10), (9, .long q9), (0, .ref (ad 0)), (1, .int a0), (2, .long a1), (4, .long a2)]) hx hb dX7_vital_95 hl (by decide) rfl (fun ls hl => ?_)
            refine lv_goto (tgt := 19) hx hb dX7_vital_97 (by decide) ?_
            exact ih x10 x17 hr ls (lv_sub hl [3, 4, 5, 6, 1, 0] rfl)
  exact llp_X7_vital_19 FU x3 (0 : Int32) hr ls (lv_sub hl [2, 3, 4, 5, 1, 0] rfl)

def lp_X7_stand_31 (mo_wide : Int32) (mo_high : Int32) (mo_acts : Int32) (a_neighbours : Nat → Int64) (a_blackAt : Nat → Int64) (a_whiteAt : Nat → Int64) (a0 : Int32) (v4 : Int64) (K10 : Int64 → Option (Int64)) : Nat → Int64 → Int64 → Option (Int64)
  | 0, _, _ => none
  | nF + 1, v11, v12 =>
    if v12 = (0 : Int64) then (
      K10 v11
    )
    else (
      (f_X7_stones mo_acts a_blackAt a_whiteAt a0).bind fun q14 =>
      (f_X7_spread mo_wide mo_high a_neighbours (v12 &&& (-v12)) q14).bind fun q15 =>
      nm (v12 &&& (q15 ^^^ (-1 : Int64))) fun x16 =>
      (f_X7_vital mo_wide mo_high mo_acts a_neighbours a_blackAt a_whiteAt a0 q15 v4).bind fun q17 =>
      if (2 : Int32) ≤ q17 then (
        nm (v11 ||| (0 : Int64)) fun x19 =>
        lp_X7_stand_31 mo_wide mo_high mo_acts a_neighbours a_blackAt a_whiteAt a0 v4 K10 nF x19 x16
      )
      else (
        nm (v11 ||| q15) fun x20 =>
        lp_X7_stand_31 mo_wide mo_high mo_acts a_neighbours a_blackAt a_whiteAt a0 v4 K10 nF x20 x16
      )
    )

def lp_X7_stand_7 (mo_wide : Int32) (mo_high : Int32) (mo_acts : Int32) (a_neighbours : Nat → Int64) (a_blackAt : Nat → Int64) (a_whiteAt : Nat → Int64) (a0 : Int32) (K2 : Int64 → Option (Int64)) : Nat → Int64 → Int64 → Option (Int64)
  | 0, _, _ => none
  | nF + 1, v4, v5 =>
    if v5 = v4 then (
      K2 v4
    )
    else (
      (f_X7_stones mo_acts a_blackAt a_whiteAt a0).bind fun q7 =>
      nm (q7 &&& (v4 ^^^ (-1 : Int64))) fun x8 =>
      nm (fun (v9 : Int64) =>
      lp_X7_stand_7 mo_wide mo_high mo_acts a_neighbours a_blackAt a_whiteAt a0 K2 nF v9 v4
      ) fun K10 =>
      lp_X7_stand_31 mo_wide mo_high mo_acts a_neighbours a_blackAt a_whiteAt a0 v4 K10 FU v4 x8
    )

def f_X7_stand (mo_wide : Int32) (mo_high : Int32) (mo_acts : Int32) (a_neighbours : Nat → Int64) (a_blackAt : Nat → Int64) (a_whiteAt : Nat → Int64) (a0 : Int32) : Option (Int64) :=
  nm (fun (v1 : Int64) =>
  (f_X7_stones mo_acts a_blackAt a_whiteAt a0).bind fun q3 =>
  some (q3 &&& (v1 ^^^ (-1 : Int64)))
  ) fun K2 =>
  lp_X7_stand_7 mo_wide mo_high mo_acts a_neighbours a_blackAt a_whiteAt a0 K2 FU (0 : Int64) (-1 : Int64)

abbrev rm_X7_stand : Room := { frames := 6, cells := 0, slots := 0, locals := 140 }
set_option maxHeartbeats 4000000 in
set_option maxRecDepth 100000 in
theorem c_X7_stand (l : Launch) (dC : Nat → ClassId) (dI : Nat → Nat → Nat) (ad : Nat → Nat) (cA : Nat → ClassId) (mo_wide mo_high mo_law mo_acts : Int32) (mo_newBlack mo_newWhite : Int64) (mo_taken mo_triesMany mo_isSpent mo_found : Int32) (a_neighbours : Nat → Int64) (a_act : Nat → Int32) (a_blackAt a_whiteAt : Nat → Int64) (a_moveAt a_takenBlack a_takenWhite : Nat → Int32) (a_chaseBlack a_chaseWhite a_aheadBlack a_aheadWhite : Nat → Int64) (a_hasAhead : Nat → Int32) (a_breathsLeft a_laidBlack a_laidWhite a_answersLeft : Nat → Int64) (a_firstAnswer a_answering a_next : Nat → Int32) (a0 : Int32) (q : Int64) (hr : f_X7_stand mo_wide mo_high mo_acts a_neighbours a_blackAt a_whiteAt a0 = some q) : Met l yX7_stand wsX7_stand rm_X7_stand (PrP (dC, dI) (wd_X7 ad cA mo_wide mo_high mo_law mo_acts mo_newBlack mo_newWhite mo_taken mo_triesMany mo_isSpent mo_found a_neighbours a_act a_blackAt a_whiteAt a_moveAt a_takenBlack a_takenWhite a_chaseBlack a_chaseWhite a_aheadBlack a_aheadWhite a_hasAhead a_breathsLeft a_laidBlack a_laidWhite a_answersLeft a_firstAnswer a_answering a_next) (td_X7 cA) [.ref (ad 0), .int a0]) (vp_Sl (fun x => x = q)) 0 0 (fun _ => False) := by
  refine mkP_l (cc := cX7_stand) (nL := 10) (by decide) rfl (Nat.le_of_ble_eq_true rfl) ?_
  intro p e R s m args below meth c H Q ls hRf hRl S hN hP hK hl kret
  have hl : lv_has ls 10 [(0, .ref (ad 0)), (1, .int a0)] := hl
  obtain ⟨hx, hb, hml, hown, hts⟩ := S
  have hown : s.vm.findClass RX7 = some m.cls := hown
  have S : CallFix p m c cX7_stand 10 s args wsX7_stand RX7 := ⟨hx, hb, hml, hown, hts⟩
  have hk105 := hts (.constantLong RX7 105 (-1 : Int64)) (by decide +kernel)
  unfold f_X7_stand at hr
  refine lv_lconst (v := (0 : Int64)) hx hb dX7_stand_0 (by decide) ?_
  refine lv_lstore_n (lv' := [(2, .long (0 : Int64)), (0, .ref (ad 0)), (1, .int a0)]) hx hb dX7_stand_1 rfl hl (by decide) rfl (fun ls hl => ?_)
  refine W.ldc2 (v := (-1 : Int64)) hx hb hown hk105 rfl dX7_stand_2 ?_
  refine W.eq (g2 := F0 m 5 ls [.long (-1 : Int64)]) rfl ?_
  refine lv_lstore (lv' := [(4, .long (-1 : Int64)), (2, .long (0 : Int64)), (0, .ref (ad 0)), (1, .int a0)]) hx hb dX7_stand_5 hl (by decide) rfl (fun ls hl => ?_)
  obtain ⟨K2, eK2, hr⟩ := nm_ex hr
  have kK2 : ∀ (v1 : Int64) , K2 v1 = some q → ∀ (ls : Array Slot), lv_has ls 10 [(0, .ref (ad 0)), (1, .int a0), (2, .long v1)] → W p l e R s m args below meth c H [] 0 0 Q (F0 m 94 ls []) := by
    intro v1 hr ls hl
    rw [eK2] at hr
    refine lv_aload_n hx hb dX7_stand_94 rfl (lv_at hl 0 rfl) ?_
    refine lv_iload_n hx hb dX7_stand_95 rfl (lv_at hl 1 rfl) ?_
    obtain ⟨q3, hq3, hr⟩ := bd_use hr
    refine pcV_l (As := [.int a0]) (rest := []) S (c_X7_stones l dC dI ad cA mo_wide mo_high mo_law mo_acts mo_newBlack mo_newWhite mo_taken mo_triesMany mo_isSpent mo_found a_neighbours a_act a_blackAt a_whiteAt a_moveAt a_takenBlack a_takenWhite a_chaseBlack a_chaseWhite a_aheadBlack a_aheadWhite a_hasAhead a_breathsLeft a_laidBlack a_laidWhite a_answersLeft a_firstAnswer a_answering a_next a0 q3 hq3) (cwV 1 hts gX7_stand_X7_stones rfl rfl rfl (by decide +kernel) ⟨Nat.le_trans (m := rm_X7_stand.frames) (by decide) hRf, Nat.le_trans (m := rm_X7_stand.locals) (by decide) hRl⟩) hN hP hK ⟨Nat.zero_le _, Nat.zero_le _⟩ [0, 1, 2, 3, 4, 5, 6, 7, 8, 9, 10, 11, 12, 13, 14, 15, 16, 17, 18, 19] rfl [0, 1, 2, 3, 4, 5, 6, 7, 8, 9, 10, 11, 12, 13, 14, 15, 16, 17, 18] rfl 0 7 rfl rfl rfl hl.1 rfl (Nat.le_of_ble_eq_true rfl) dX7_stand_96 ?_
    refine lv_lload_n hx hb dX7_stand_99 rfl (lv_at hl 2 rfl) ?_
    refine W.ldc2 (v := (-1 : Int64)) hx hb hown hk105 rfl dX7_stand_100 ?_
    refine W.eq (g2 := F0 m 103 ls [.long (-1 : Int64), .long v1, .long q3]) rfl ?_
    refine lv_lxor hx hb dX7_stand_103 ?_
    refine lv_land hx hb dX7_stand_104 ?_
    obtain rfl := Option.some.inj hr
    exact kret _ _ dX7_stand_105
  have llp_X7_stand_7 : ∀ (nF : Nat) (v4 : Int64) (v5 : Int64) , lp_X7_stand_7 mo_wide mo_high mo_acts a_neighbours a_blackAt a_whiteAt a0 K2 nF v4 v5 = some q → ∀ (ls : Array Slot), lv_has ls 10 [(0, .ref (ad 0)), (1, .int a0), (2, .long v4), (4, .long v5)] → W p l e R s m args below meth c H [] 0 0 Q (F0 m 7 ls []) := by
    intro nF
    induction nF with
    | zero => intro v4 v5 hr; exact absurd hr (by simp [lp_X7_stand_7])
    | succ nF ih =>
      intro v4 v5 hr ls hl
      rw [lp_X7_stand_7] at hr
      refine lv_lload hx hb dX7_stand_7 (lv_at hl 3 rfl) ?_
      refine lv_lload_n hx hb dX7_stand_9 rfl (lv_at hl 2 rfl) ?_
      refine W.lcmp hx hb dX7_stand_10 ?_
      refine lv_if_eq (tgt := 94) hx hb dX7_stand_11 (by decide) (fun c6 => ?_) (fun c6 => ?_)
      · have c6 := cmp_t c6
        have hr := ite_p hr c6
        exact kK2 v4 hr ls (lv_sub hl [0, 1, 2] rfl)
      · have c6 := cmp_f c6
        have hr := ite_n hr c6
        refine lv_lload_n hx hb dX7_stand_14 rfl (lv_at hl 2 rfl) ?_
        refine lv_lstore (lv' := [(4, .long v4), (0, .ref (ad 0)), (1, .int a0), (2, .long v4)]) hx hb dX7_stand_15 hl (by decide) rfl (fun ls hl => ?_)
        refine lv_aload_n hx hb dX7_stand_17 rfl (lv_at hl 1 rfl) ?_
        refine lv_iload_n hx hb dX7_stand_18 rfl (lv_at hl 2 rfl) ?_
        obtain ⟨q7, hq7, hr⟩ := bd_use hr
        refine pcV_l (As := [.int a0]) (rest := []) S (c_X7_stones l dC dI ad cA mo_wide mo_high mo_law mo_acts mo_newBlack mo_newWhite mo_taken mo_triesMany mo_isSpent mo_found a_neighbours a_act a_blackAt a_whiteAt a_moveAt a_takenBlack a_takenWhite a_chaseBlack a_chaseWhite a_aheadBlack a_aheadWhite a_hasAhead a_breathsLeft a_laidBlack a_laidWhite a_answersLeft a_firstAnswer a_answering a_next a0 q7 hq7) (cwV 1 hts gX7_stand_X7_stones rfl rfl rfl (by decide +kernel) ⟨Nat.le_trans (m := rm_X7_stand.frames) (by decide) hRf, Nat.le_trans (m := rm_X7_stand.locals) (by decide) hRl⟩) hN hP hK ⟨Nat.zero_le _, Nat.zero_le _⟩ [0, 1, 2, 3, 4, 5, 6, 7, 8, 9, 10, 11, 12, 13, 14, 15, 16, 17, 18, 19] rfl [0, 1, 2, 3, 4, 5, 6, 7, 8, 9, 10, 11, 12, 13, 14, 15, 16, 17, 18] rfl 0 7 rfl rfl rfl hl.1 rfl (Nat.le_of_ble_eq_true rfl) dX7_stand_19 ?_
        refine lv_lload hx hb dX7_stand_22 (lv_at hl 0 rfl) ?_
        refine W.ldc2 (v := (-1 : Int64)) hx hb hown hk105 rfl dX7_stand_24 ?_
        refine W.eq (g2 := F0 m 27 ls [.long (-1 : Int64), .long v4, .long q7]) rfl ?_
        refine lv_lxor hx hb dX7_stand_27 ?_
        refine lv_land hx hb dX7_stand_28 ?_
        refine lv_topl (fun x8 ex8 => ?_)
        have hr := nm_use hr ex8
        refine lv_lstore (lv' := [(6, .long x8), (4, .long v4), (0, .ref (ad 0)), (1, .int a0), (2, .long v4)]) hx hb dX7_stand_29 hl (by decide) rfl (fun ls hl => ?_)
        obtain ⟨K10, eK10, hr⟩ := nm_ex hr
        have kK10 : ∀ (v9 : Int64) , K10 v9 = some q → ∀ (ls : Array Slot), lv_has ls 10 [(0, .ref (ad 0)), (1, .int a0), (2, .long v9), (4, .long v4)] → W p l e R s m args below meth c H [] 0 0 Q (F0 m 91 ls []) := by
          intro v9 hr ls hl
          rw [eK10] at hr
          refine lv_goto (tgt := 7) hx hb dX7_stand_91 (by decide) ?_
          exact ih v9 v4 hr ls (lv_sub hl [0, 1, 2, 3] rfl)
        have llp_X7_stand_31 : ∀ (nF : Nat) (v11 : Int64) (v12 : Int64) , lp_X7_stand_31 mo_wide mo_high mo_acts a_neighbours a_blackAt a_whiteAt a0 v4 K10 nF v11 v12 = some q → ∀ (ls : Array Slot), lv_has ls 10 [(0, .ref (ad 0)), (1, .int a0), (2, .long v11), (4, .long v4), (6, .long v12)] → W p l e R s m args below meth c H [] 0 0 Q (F0 m 31 ls []) := by
          intro nF
          induction nF with
          | zero => intro v11 v12 hr; exact absurd hr (by simp [lp_X7_stand_31])
          | succ nF ih =>
            intro v11 v12 hr ls hl
            rw [lp_X7_stand_31] at hr
            refine lv_lload hx hb dX7_stand_31 (lv_at hl 4 rfl) ?_
            refine lv_lconst (v := (0 : Int64)) hx hb dX7_stand_33 (by decide) ?_
            refine W.lcmp hx hb dX7_stand_34 ?_
            refine lv_if_eq (tgt := 91) hx hb dX7_stand_35 (by decide) (fun c13 => ?_) (fun c13 => ?_)
            · have c13 := cmp_t c13
              have hr := ite_p hr c13
              exact kK10 v11 hr ls (lv_sub hl [0, 1, 2, 3] rfl)
            · have c13 := cmp_f c13
              have hr := ite_n hr c13
              refine lv_aload_n hx hb dX7_stand_38 rfl (lv_at hl 0 rfl) ?_
              refine lv_lload hx hb dX7_stand_39 (lv_at hl 4 rfl) ?_
              refine lv_lload hx hb dX7_stand_41 (lv_at hl 4 rfl) ?_
              refine lv_lneg hx hb dX7_stand_43 ?_
              refine lv_land hx hb dX7_stand_44 ?_
              refine lv_aload_n hx hb dX7_stand_45 rfl (lv_at hl 0 rfl) ?_
              refine lv_iload_n hx hb dX7_stand_46 rfl (lv_at hl 1 rfl) ?_
              obtain ⟨q14, hq14, hr⟩ := bd_use hr
              refine pcV_l (As := [.int a0]) (rest := [.long (v12 &&& (-v12)), .ref (ad 0)]) S (c_X7_stones l dC dI ad cA mo_wide mo_high mo_law mo_acts mo_newBlack mo_newWhite mo_taken mo_triesMany mo_isSpent mo_found a_neighbours a_act a_blackAt a_whiteAt a_moveAt a_takenBlack a_takenWhite a_chaseBlack a_chaseWhite a_aheadBlack a_aheadWhite a_hasAhead a_breathsLeft a_laidBlack a_laidWhite a_answersLeft a_firstAnswer a_answering a_next a0 q14 hq14) (cwV 1 hts gX7_stand_X7_stones rfl rfl rfl (by decide +kernel) ⟨Nat.le_trans (m := rm_X7_stand.frames) (by decide) hRf, Nat.le_trans (m := rm_X7_stand.locals) (by decide) hRl⟩) hN hP hK ⟨Nat.zero_le _, Nat.zero_le _⟩ [0, 1, 2, 3, 4, 5, 6, 7, 8, 9, 10, 11, 12, 13, 14, 15, 16, 17, 18, 19] rfl [0, 1, 2, 3, 4, 5, 6, 7, 8, 9, 10, 11, 12, 13, 14, 15, 16, 17, 18] rfl 0 7 rfl rfl rfl hl.1 rfl (Nat.le_of_ble_eq_true rfl) dX7_stand_47 ?_
              obtain ⟨q15, hq15, hr⟩ := bd_use hr
              refine pcV_l (As := [.long (v12 &&& (-v12)), .long q14]) (rest := []) S (c_X7_spread l dC dI ad cA mo_wide mo_high mo_law mo_acts mo_newBlack mo_newWhite mo_taken mo_triesMany mo_isSpent mo_found a_neighbours a_act a_blackAt a_whiteAt a_moveAt a_takenBlack a_takenWhite a_chaseBlack a_chaseWhite a_aheadBlack a_aheadWhite a_hasAhead a_breathsLeft a_laidBlack a_laidWhite a_answersLeft a_firstAnswer a_answering a_next (v12 &&& (-v12)) q14 q15 hq15) (cwV 2 hts gX7_stand_X7_spread rfl rfl rfl (by decide +kernel) ⟨Nat.le_trans (m := rm_X7_stand.frames) (by decide) hRf, Nat.le_trans (m := rm_X7_stand.locals) (by decide) hRl⟩) hN hP hK ⟨Nat.zero_le _, Nat.zero_le _⟩ [0, 1, 2, 3, 4, 5, 6, 7, 8, 9, 10, 11, 12, 13, 14, 15, 16, 17, 18, 19] rfl [0, 1, 2, 3, 4, 5, 6, 7, 8, 9, 10, 11, 12, 13, 14, 15, 16, 17, 18] rfl 0 7 rfl rfl rfl hl.1 rfl (Nat.le_of_ble_eq_true rfl) dX7_stand_50 ?_
              refine lv_lstore (lv' := [(8, .long q15), (0, .ref (ad 0)), (1, .int a0), (2, .long v11), (4, .long v4), (6, .long v12)]) hx hb dX7_stand_53 hl (by decide) rfl (fun ls hl => ?_)
              refine lv_lload hx hb dX7_stand_55 (lv_at hl 5 rfl) ?_
              refine lv_lload hx hb dX7_stand_57 (lv_at hl 0 rfl) ?_
              refine W.ldc2 (v := (-1 : Int64)) hx hb hown hk105 rfl dX7_stand_59 ?_
              refine W.eq (g2 := F0 m 62 ls [.long (-1 : Int64), .long q15, .long v12]) rfl ?_
              refine lv_lxor hx hb dX7_stand_62 ?_
              refine lv_land hx hb dX7_stand_63 ?_
              refine lv_topl (fun x16 ex16 => ?_)
              have hr := nm_use hr ex16
              refine lv_lstore (lv' := [(6, .long x16), (8, .long q15), (0, .ref (ad 0)), (1, .int a0), (2, .long v11), (4, .long v4)]) hx hb dX7_stand_64 hl (by decide) rfl (fun ls hl => ?_)
              refine lv_lload_n hx hb dX7_stand_66 rfl (lv_at hl 4 rfl) ?_
              refine lv_aload_n hx hb dX7_stand_67 rfl (lv_at hl 2 rfl) ?_
              refine lv_iload_n hx hb dX7_stand_68 rfl (lv_at hl 3 rfl) ?_
              refine lv_lload hx hb dX7_stand_69 (lv_at hl 1 rfl) ?_
              refine lv_lload hx hb dX7_stand_71 (lv_at hl 5 rfl) ?_
              obtain ⟨q17, hq17, hr⟩ := bd_use hr
              refine pcV_i (As := [.int a0, .long q15, .long v4]) (rest := [.long v11]) S (c_X7_vital l dC dI ad cA mo_wide mo_high mo_law mo_acts mo_newBlack mo_newWhite mo_taken mo_triesMany mo_isSpent mo_found a_neighbours a_act a_blackAt a_whiteAt a_moveAt a_takenBlack a_takenWhite a_chaseBlack a_chaseWhite a_aheadBlack a_aheadWhite a_hasAhead a_breathsLeft a_laidBlack a_laidWhite a_answersLeft a_firstAnswer a_answering a_next a0 q15 v4 q17 hq17) (cwV 3 hts gX7_stand_X7_vital rfl rfl rfl (by decide +kernel) ⟨Nat.le_trans (m := rm_X7_stand.frames) (by decide) hRf, Nat.le_trans (m := rm_X7_stand.locals) (by decide) hRl⟩) hN hP hK ⟨Nat.zero_le _, Nat.zero_le _⟩ [0, 1, 2, 3, 4, 5, 6, 7, 8, 9, 10, 11, 12, 13, 14, 15, 16, 17, 18, 19] rfl [0, 1, 2, 3, 4, 5, 6, 7, 8, 9, 10, 11, 12, 13, 14, 15, 16, 17, 18] rfl 0 7 rfl rfl rfl hl.1 rfl (Nat.le_of_ble_eq_true rfl) dX7_stand_73 ?_
              refine lv_iconst (v := (2 : Int32)) hx hb dX7_stand_76 (by decide) ?_
              refine lv_icmp_ge (tgt := 85) hx hb dX7_stand_77 (by decide) (fun c18 => ?_) (fun c18 => ?_)
              · have hr := ite_p hr c18
                refine lv_lconst (v := (0 : Int64)) hx hb dX7_stand_85 (by decide) ?_
                refine lv_lor hx hb dX7_stand_86 ?_
                refine lv_topl (fun x19 ex19 => ?_)
                have hr := nm_use hr ex19
                refine lv_lstore_n (lv' := [(2, .long x19), (6, .long x16), (8, .long q15), (0, .ref (ad 0)), (1, .int a0), (4, .long v4)]) hx hb dX7_stand_87 rfl hl (by decide) rfl (fun ls hl => ?_)
                refine lv_goto (tgt := 31) hx hb dX7_stand_88 (by decide) ?_
                exact ih x19 x16 hr ls (lv_sub hl [3, 4, 0, 5, 1] rfl)
              · have hr := ite_n hr c18
                refine lv_lload hx hb dX7_stand_80 (lv_at hl 1 rfl) ?_
                refine lv_goto (tgt := 86) hx hb dX7_stand_82 (by decide) ?_
                refine lv_lor hx hb dX7_stand_86 ?_
                refine lv_topl (fun x20 ex20 => ?_)
                have hr := nm_use hr ex20
                refine lv_lstore_n (lv' := [(2, .long x20), (6, .long x16), (8, .long q15), (0, .ref (ad 0)), (1, .int a0), (4, .long v4)]) hx hb dX7_stand_87 rfl hl (by decide) rfl (fun ls hl => ?_)
                refine lv_goto (tgt := 31) hx hb dX7_stand_88 (by decide) ?_
                exact ih x20 x16 hr ls (lv_sub hl [3, 4, 0, 5, 1] rfl)
        exact llp_X7_stand_31 FU v4 x8 hr ls (lv_sub hl [2, 3, 4, 1, 0] rfl)
  exact llp_X7_stand_7 FU (0 : Int64) (-1 : Int64) hr ls (lv_sub hl [2, 3, 1, 0] rfl)

def f_X7_groupAt (mo_wide : Int32) (mo_high : Int32) (mo_acts : Int32) (a_neighbours : Nat → Int64) (a_blackAt : Nat → Int64) (a_whiteAt : Nat → Int64) (a0 : Int32) : Option (Int64) :=
  (f_X7_atOf mo_acts a_blackAt a_whiteAt a0).bind fun q1 =>
  (f_X7_stones mo_acts a_blackAt a_whiteAt q1).bind fun q2 =>
  (f_X7_spread mo_wide mo_high a_neighbours (jshl (1 : Int64) a0) q2).bind fun q3 =>
  some (q3)

abbrev rm_X7_groupAt : Room := { frames := 3, cells := 0, slots := 0, locals := 73 }
set_option maxHeartbeats 4000000 in
set_option maxRecDepth 100000 in
theorem c_X7_groupAt (l : Launch) (dC : Nat → ClassId) (dI : Nat → Nat → Nat) (ad : Nat → Nat) (cA : Nat → ClassId) (mo_wide mo_high mo_law mo_acts : Int32) (mo_newBlack mo_newWhite : Int64) (mo_taken mo_triesMany mo_isSpent mo_found : Int32) (a_neighbours : Nat → Int64) (a_act : Nat → Int32) (a_blackAt a_whiteAt : Nat → Int64) (a_moveAt a_takenBlack a_takenWhite : Nat → Int32) (a_chaseBlack a_chaseWhite a_aheadBlack a_aheadWhite : Nat → Int64) (a_hasAhead : Nat → Int32) (a_breathsLeft a_laidBlack a_laidWhite a_answersLeft : Nat → Int64) (a_firstAnswer a_answering a_next : Nat → Int32) (a0 : Int32) (q : Int64) (hr : f_X7_groupAt mo_wide mo_high mo_acts a_neighbours a_blackAt a_whiteAt a0 = some q) : Met l yX7_groupAt wsX7_groupAt rm_X7_groupAt (PrP (dC, dI) (wd_X7 ad cA mo_wide mo_high mo_law mo_acts mo_newBlack mo_newWhite mo_taken mo_triesMany mo_isSpent mo_found a_neighbours a_act a_blackAt a_whiteAt a_moveAt a_takenBlack a_takenWhite a_chaseBlack a_chaseWhite a_aheadBlack a_aheadWhite a_hasAhead a_breathsLeft a_laidBlack a_laidWhite a_answersLeft a_firstAnswer a_answering a_next) (td_X7 cA) [.ref (ad 0), .int a0]) (vp_Sl (fun x => x = q)) 0 0 (fun _ => False) := by
  refine mkP_l (cc := cX7_groupAt) (nL := 2) (by decide) rfl (Nat.le_of_ble_eq_true rfl) ?_
  intro p e R s m args below meth c H Q ls hRf hRl S hN hP hK hl kret
  have hl : lv_has ls 2 [(0, .ref (ad 0)), (1, .int a0)] := hl
  obtain ⟨hx, hb, hml, hown, hts⟩ := S
  have hown : s.vm.findClass RX7 = some m.cls := hown
  have S : CallFix p m c cX7_groupAt 2 s args wsX7_groupAt RX7 := ⟨hx, hb, hml, hown, hts⟩
  unfold f_X7_groupAt at hr
  refine lv_aload_n hx hb dX7_groupAt_0 rfl (lv_at hl 0 rfl) ?_
  refine lv_lconst (v := (1 : Int64)) hx hb dX7_groupAt_1 (by decide) ?_
  refine lv_iload_n hx hb dX7_groupAt_2 rfl (lv_at hl 1 rfl) ?_
  refine lv_lshl (v := jshl (1 : Int64) a0) hx hb dX7_groupAt_3 rfl ?_
  refine lv_aload_n hx hb dX7_groupAt_4 rfl (lv_at hl 0 rfl) ?_
  refine lv_aload_n hx hb dX7_groupAt_5 rfl (lv_at hl 0 rfl) ?_
  refine lv_iload_n hx hb dX7_groupAt_6 rfl (lv_at hl 1 rfl) ?_
  obtain ⟨q1, hq1, hr⟩ := bd_use hr
  refine pcV_i (As := [.int a0]) (rest := [.ref (ad 0), .long (jshl (1 : Int64) a0), .ref (ad 0)]) S (c_X7_atOf l dC dI ad cA mo_wide mo_high mo_law mo_acts mo_newBlack mo_newWhite mo_taken mo_triesMany mo_isSpent mo_found a_neighbours a_act a_blackAt a_whiteAt a_moveAt a_takenBlack a_takenWhite a_chaseBlack a_chaseWhite a_aheadBlack a_aheadWhite a_hasAhead a_breathsLeft a_laidBlack a_laidWhite a_answersLeft a_firstAnswer a_answering a_next a0 q1 hq1) (cwV 1 hts gX7_groupAt_X7_atOf rfl rfl rfl (by decide +kernel) ⟨Nat.le_trans (m := rm_X7_groupAt.frames) (by decide) hRf, Nat.le_trans (m := rm_X7_groupAt.locals) (by decide) hRl⟩) hN hP hK ⟨Nat.zero_le _, Nat.zero_le _⟩ [0, 1, 2, 3, 4, 5, 6, 7, 8, 9, 10, 11, 12, 13, 14, 15, 16, 17, 18, 19] rfl [0, 1, 2, 3, 4, 5, 6, 7, 8, 9, 10, 11, 12, 13, 14, 15, 16, 17, 18] rfl 0 7 rfl rfl rfl hl.1 rfl (Nat.le_of_ble_eq_true rfl) dX7_groupAt_7 ?_
  obtain ⟨q2, hq2, hr⟩ := bd_use hr
  refine pcV_l (As := [.int q1]) (rest := [.long (jshl (1 : Int64) a0), .ref (ad 0)]) S (c_X7_stones l dC dI ad cA mo_wide mo_high mo_law mo_acts mo_newBlack mo_newWhite mo_taken mo_triesMany mo_isSpent mo_found a_neighbours a_act a_blackAt a_whiteAt a_moveAt a_takenBlack a_takenWhite a_chaseBlack a_chaseWhite a_aheadBlack a_aheadWhite a_hasAhead a_breathsLeft a_laidBlack a_laidWhite a_answersLeft a_firstAnswer a_answering a_next q1 q2 hq2) (cwV 1 hts gX7_groupAt_X7_stones rfl rfl rfl (by decide +kernel) ⟨Nat.le_trans (m := rm_X7_groupAt.frames) (by decide) hRf, Nat.le_trans (m := rm_X7_groupAt.locals) (by decide) hRl⟩) hN hP hK ⟨Nat.zero_le _, Nat.zero_le _⟩ [0, 1, 2, 3, 4, 5, 6, 7, 8, 9, 10, 11, 12, 13, 14, 15, 16, 17, 18, 19] rfl [0, 1, 2, 3, 4, 5, 6, 7, 8, 9, 10, 11, 12, 13, 14, 15, 16, 17, 18] rfl 0 7 rfl rfl rfl hl.1 rfl (Nat.le_of_ble_eq_true rfl) dX7_groupAt_10 ?_
  obtain ⟨q3, hq3, hr⟩ := bd_use hr
  refine pcV_l (As := [.long (jshl (1 : Int64) a0), .long q2]) (rest := []) S (c_X7_spread l dC dI ad cA mo_wide mo_high mo_law mo_acts mo_newBlack mo_newWhite mo_taken mo_triesMany mo_isSpent mo_found a_neighbours a_act a_blackAt a_whiteAt a_moveAt a_takenBlack a_takenWhite a_chaseBlack a_chaseWhite a_aheadBlack a_aheadWhite a_hasAhead a_breathsLeft a_laidBlack a_laidWhite a_answersLeft a_firstAnswer a_answering a_next (jshl (1 : Int64) a0) q2 q3 hq3) (cwV 2 hts gX7_groupAt_X7_spread rfl rfl rfl (by decide +kernel) ⟨Nat.le_trans (m := rm_X7_groupAt.frames) (by decide) hRf, Nat.le_trans (m := rm_X7_groupAt.locals) (by decide) hRl⟩) hN hP hK ⟨Nat.zero_le _, Nat.zero_le _⟩ [0, 1, 2, 3, 4, 5, 6, 7, 8, 9, 10, 11, 12, 13, 14, 15, 16, 17, 18, 19] rfl [0, 1, 2, 3, 4, 5, 6, 7, 8, 9, 10, 11, 12, 13, 14, 15, 16, 17, 18] rfl 0 7 rfl rfl rfl hl.1 rfl (Nat.le_of_ble_eq_true rfl) dX7_groupAt_13 ?_
  obtain rfl := Option.some.inj hr
  exact kret _ _ dX7_groupAt_16

def f_X7_group (mo_wide : Int32) (mo_high : Int32) (mo_acts : Int32) (a_neighbours : Nat → Int64) (a_blackAt : Nat → Int64) (a_whiteAt : Nat → Int64) (a0 : Int32) (a1 : Int32) : Option (Int32) :=
  (f_X7_isCrossing mo_wide mo_high a0).bind fun q1 =>
  if q1 = 0 then (
    some ((-2 : Int32))
  )
  else (
    (f_X7_in a1 (0 : Int32) (4 : Int32)).bind fun q3 =>
    if q3 = 0 then (
      some ((-2 : Int32))
    )
    else (
      (f_X7_atOf mo_acts a_blackAt a_whiteAt a0).bind fun q5 =>
      if q5 = 0 then (
        some ((-3 : Int32))
      )
      else (
        (f_X7_groupAt mo_wide mo_high mo_acts a_neighbours a_blackAt a_whiteAt a0).bind fun q7 =>
        if a1 = 0 then (
          (f_X7_many q7).bind fun q9 =>
          some (q9)
        )
        else (
        if a1 = 1 then (
          (f_X7_breaths mo_wide mo_high mo_acts a_neighbours a_blackAt a_whiteAt q7).bind fun q11 =>
          (f_X7_many q11).bind fun q12 =>
          some (q12)
        )
        else (
        if a1 = 2 then (
          (f_X7_least q7 (0 : Int32)).bind fun q14 =>
          some (q14)
        )
        else (
        if a1 = 3 then (
          (f_X7_vital mo_wide mo_high mo_acts a_neighbours a_blackAt a_whiteAt q5 q7 (0 : Int64)).bind fun q16 =>
          some (q16)
        )
        else (
        (f_X7_stand mo_wide mo_high mo_acts a_neighbours a_blackAt a_whiteAt q5).bind fun q18 =>
        if q18 &&& q7 = (0 : Int64) then (
          some ((0 : Int32))
        )
        else (
          some ((1 : Int32))
        )))))
      )
    )
  )

abbrev rm_X7_group : Room := { frames := 7, cells := 0, slots := 0, locals := 169 }
set_option maxHeartbeats 4000000 in
set_option maxRecDepth 100000 in
theorem c_X7_group (l : Launch) (dC : Nat → ClassId) (dI : Nat → Nat → Nat) (ad : Nat → Nat) (cA : Nat → ClassId) (mo_wide mo_high mo_law mo_acts : Int32) (mo_newBlack mo_newWhite : Int64) (mo_taken mo_triesMany mo_isSpent mo_found : Int32) (a_neighbours : Nat → Int64) (a_act : Nat → Int32) (a_blackAt a_whiteAt : Nat → Int64) (a_moveAt a_takenBlack a_takenWhite : Nat → Int32) (a_chaseBlack a_chaseWhite a_aheadBlack a_aheadWhite : Nat → Int64) (a_hasAhead : Nat → Int32) (a_breathsLeft a_laidBlack a_laidWhite a_answersLeft : Nat → Int64) (a_firstAnswer a_answering a_next : Nat → Int32) (a0 : Int32) (a1 : Int32) (q : Int32) (hr : f_X7_group mo_wide mo_high mo_acts a_neighbours a_blackAt a_whiteAt a0 a1 = some q) : Met l yX7_group wsX7_group rm_X7_group (PrP (dC, dI) (wd_X7 ad cA mo_wide mo_high mo_law mo_acts mo_newBlack mo_newWhite mo_taken mo_triesMany mo_isSpent mo_found a_neighbours a_act a_blackAt a_whiteAt a_moveAt a_takenBlack a_takenWhite a_chaseBlack a_chaseWhite a_aheadBlack a_aheadWhite a_hasAhead a_breathsLeft a_laidBlack a_laidWhite a_answersLeft a_firstAnswer a_answering a_next) (td_X7 cA) [.ref (ad 0), .int a0, .int a1]) (vp_Si (fun x => x = q)) 0 0 (fun _ => False) := by
  refine mkP_i (cc := cX7_group) (nL := 6) (by decide) rfl (Nat.le_of_ble_eq_true rfl) ?_
  intro p e R s m args below meth c H Q ls hRf hRl S hN hP hK hl kret
  have hl : lv_has ls 6 [(0, .ref (ad 0)), (1, .int a0), (2, .int a1)] := hl
  obtain ⟨hx, hb, hml, hown, hts⟩ := S
  have hown : s.vm.findClass RX7 = some m.cls := hown
  have S : CallFix p m c cX7_group 6 s args wsX7_group RX7 := ⟨hx, hb, hml, hown, hts⟩
  unfold f_X7_group at hr
  refine lv_aload_n hx hb dX7_group_0 rfl (lv_at hl 0 rfl) ?_
  refine lv_iload_n hx hb dX7_group_1 rfl (lv_at hl 1 rfl) ?_
  obtain ⟨q1, hq1, hr⟩ := bd_use hr
  refine pcV_i (As := [.int a0]) (rest := []) S (c_X7_isCrossing l dC dI ad cA mo_wide mo_high mo_law mo_acts mo_newBlack mo_newWhite mo_taken mo_triesMany mo_isSpent mo_found a_neighbours a_act a_blackAt a_whiteAt a_moveAt a_takenBlack a_takenWhite a_chaseBlack a_chaseWhite a_aheadBlack a_aheadWhite a_hasAhead a_breathsLeft a_laidBlack a_laidWhite a_answersLeft a_firstAnswer a_answering a_next a0 q1 hq1) (cwV 1 hts gX7_group_X7_isCrossing rfl rfl rfl (by decide +kernel) ⟨Nat.le_trans (m := rm_X7_group.frames) (by decide) hRf, Nat.le_trans (m := rm_X7_group.locals) (by decide) hRl⟩) hN hP hK ⟨Nat.zero_le _, Nat.zero_le _⟩ [0, 1, 2, 3, 4, 5, 6, 7, 8, 9, 10, 11, 12, 13, 14, 15, 16, 17, 18, 19] rfl [0, 1, 2, 3, 4, 5, 6, 7, 8, 9, 10, 11, 12, 13, 14, 15, 16, 17, 18] rfl 0 7 rfl rfl rfl hl.1 rfl (Nat.le_of_ble_eq_true rfl) dX7_group_2 ?_
  refine lv_if_eq (tgt := 17) hx hb dX7_group_5 (by decide) (fun c2 => ?_) (fun c2 => ?_)
  · have hr := ite_p hr c2
    refine lv_bipush (v := (-2 : Int32)) hx hb dX7_group_17 (by decide) ?_
    obtain rfl := Option.some.inj hr
    exact kret _ _ dX7_group_19
  · have hr := ite_n hr c2
    refine lv_iload_n hx hb dX7_group_8 rfl (lv_at hl 2 rfl) ?_
    refine lv_iconst (v := (0 : Int32)) hx hb dX7_group_9 (by decide) ?_
    refine lv_iconst (v := (4 : Int32)) hx hb dX7_group_10 (by decide) ?_
    obtain ⟨q3, hq3, hr⟩ := bd_use hr
    refine pcS_i (As := [.int a1, .int (0 : Int32), .int (4 : Int32)]) (rest := []) S (c_X7_in l dC dI a1 (0 : Int32) (4 : Int32) q3 hq3) (va_cwS 3 hts gX7_group_X7_in rfl rfl rfl (by decide +kernel) ⟨Nat.le_trans (m := rm_X7_group.frames) (by decide) hRf, Nat.le_trans (m := rm_X7_group.locals) (by decide) hRl⟩) hN hP hK ⟨Nat.zero_le _, Nat.zero_le _⟩ rfl hl.1 rfl (Nat.le_of_ble_eq_true rfl) dX7_group_11 ?_
    refine lv_if_ne (tgt := 20) hx hb dX7_group_14 (by decide) (fun c4 => ?_) (fun c4 => ?_)
    · have hr := ite_n hr c4
      refine lv_aload_n hx hb dX7_group_20 rfl (lv_at hl 0 rfl) ?_
      refine lv_iload_n hx hb dX7_group_21 rfl (lv_at hl 1 rfl) ?_
      obtain ⟨q5, hq5, hr⟩ := bd_use hr
      refine pcV_i (As := [.int a0]) (rest := []) S (c_X7_atOf l dC dI ad cA mo_wide mo_high mo_law mo_acts mo_newBlack mo_newWhite mo_taken mo_triesMany mo_isSpent mo_found a_neighbours a_act a_blackAt a_whiteAt a_moveAt a_takenBlack a_takenWhite a_chaseBlack a_chaseWhite a_aheadBlack a_aheadWhite a_hasAhead a_breathsLeft a_laidBlack a_laidWhite a_answersLeft a_firstAnswer a_answering a_next a0 q5 hq5) (cwV 1 hts gX7_group_X7_atOf rfl rfl rfl (by decide +kernel) ⟨Nat.le_trans (m := rm_X7_group.frames) (by decide) hRf, Nat.le_trans (m := rm_X7_group.locals) (by decide) hRl⟩) hN hP hK ⟨Nat.zero_le _, Nat.zero_le _⟩ [0, 1, 2, 3, 4, 5, 6, 7, 8, 9, 10, 11, 12, 13, 14, 15, 16, 17, 18, 19] rfl [0, 1, 2, 3, 4, 5, 6, 7, 8, 9, 10, 11, 12, 13, 14, 15, 16, 17, 18] rfl 0 7 rfl rfl rfl hl.1 rfl (Nat.le_of_ble_eq_true rfl) dX7_group_22 ?_
      refine lv_istore_n (lv' := [(3, .int q5), (0, .ref (ad 0)), (1, .int a0), (2, .int a1)]) hx hb dX7_group_25 rfl hl (by decide) rfl (fun ls hl => ?_)
      refine lv_iload_n hx hb dX7_group_26 rfl (lv_at hl 0 rfl) ?_
      refine lv_if_ne (tgt := 33) hx hb dX7_group_27 (by decide) (fun c6 => ?_) (fun c6 => ?_)
      · have hr := ite_n hr c6
        refine lv_aload_n hx hb dX7_group_33 rfl (lv_at hl 1 rfl) ?_
        refine lv_iload_n hx hb dX7_group_34 rfl (lv_at hl 2 rfl) ?_
        obtain ⟨q7, hq7, hr⟩ := bd_use hr
        refine pcV_l (As := [.int a0]) (rest := []) S (c_X7_groupAt l dC dI ad cA mo_wide mo_high mo_law mo_acts mo_newBlack mo_newWhite mo_taken mo_triesMany mo_isSpent mo_found a_neighbours a_act a_blackAt a_whiteAt a_moveAt a_takenBlack a_takenWhite a_chaseBlack a_chaseWhite a_aheadBlack a_aheadWhite a_hasAhead a_breathsLeft a_laidBlack a_laidWhite a_answersLeft a_firstAnswer a_answering a_next a0 q7 hq7) (cwV 1 hts gX7_group_X7_groupAt rfl rfl rfl (by decide +kernel) ⟨Nat.le_trans (m := rm_X7_group.frames) (by decide) hRf, Nat.le_trans (m := rm_X7_group.locals) (by decide) hRl⟩) hN hP hK ⟨Nat.zero_le _, Nat.zero_le _⟩ [0, 1, 2, 3, 4, 5, 6, 7, 8, 9, 10, 11, 12, 13, 14, 15, 16, 17, 18, 19] rfl [0, 1, 2, 3, 4, 5, 6, 7, 8, 9, 10, 11, 12, 13, 14, 15, 16, 17, 18] rfl 0 7 rfl rfl rfl hl.1 rfl (Nat.le_of_ble_eq_true rfl) dX7_group_35 ?_
        refine lv_lstore (lv' := [(4, .long q7), (3, .int q5), (0, .ref (ad 0)), (1, .int a0), (2, .int a1)]) hx hb dX7_group_38 hl (by decide) rfl (fun ls hl => ?_)
        refine lv_iload_n hx hb dX7_group_40 rfl (lv_at hl 4 rfl) ?_
        by_cases c8 : a1 = 0
        · have hr := ite_p hr c8
          refine lv_tableIn (off := 31) (tgt := 72) hx hb dX7_group_41 (by rw [c8]; decide) (by rw [c8]; decide) (by rw [c8]; rfl) (by decide) ?_
          refine lv_lload hx hb dX7_group_72 (lv_at hl 0 rfl) ?_
          obtain ⟨q9, hq9, hr⟩ := bd_use hr
          refine pcS_i (As := [.long q7]) (rest := []) S (c_X7_many l dC dI q7 q9 hq9) (va_cwS 1 hts gX7_group_X7_many rfl rfl rfl (by decide +kernel) ⟨Nat.le_trans (m := rm_X7_group.frames) (by decide) hRf, Nat.le_trans (m := rm_X7_group.locals) (by decide) hRl⟩) hN hP hK ⟨Nat.zero_le _, Nat.zero_le _⟩ rfl hl.1 rfl (Nat.le_of_ble_eq_true rfl) dX7_group_74 ?_
          obtain rfl := Option.some.inj hr
          exact kret _ _ dX7_group_77
        have hr := ite_n hr c8
        by_cases c10 : a1 = 1
        · have hr := ite_p hr c10
          refine lv_tableIn (off := 37) (tgt := 78) hx hb dX7_group_41 (by rw [c10]; decide) (by rw [c10]; decide) (by rw [c10]; rfl) (by decide) ?_
          refine lv_aload_n hx hb dX7_group_78 rfl (lv_at hl 2 rfl) ?_
          refine lv_lload hx hb dX7_group_79 (lv_at hl 0 rfl) ?_
          obtain ⟨q11, hq11, hr⟩ := bd_use hr
          refine pcV_l (As := [.long q7]) (rest := []) S (c_X7_breaths l dC dI ad cA mo_wide mo_high mo_law mo_acts mo_newBlack mo_newWhite mo_taken mo_triesMany mo_isSpent mo_found a_neighbours a_act a_blackAt a_whiteAt a_moveAt a_takenBlack a_takenWhite a_chaseBlack a_chaseWhite a_aheadBlack a_aheadWhite a_hasAhead a_breathsLeft a_laidBlack a_laidWhite a_answersLeft a_firstAnswer a_answering a_next q7 q11 hq11) (cwV 1 hts gX7_group_X7_breaths rfl rfl rfl (by decide +kernel) ⟨Nat.le_trans (m := rm_X7_group.frames) (by decide) hRf, Nat.le_trans (m := rm_X7_group.locals) (by decide) hRl⟩) hN hP hK ⟨Nat.zero_le _, Nat.zero_le _⟩ [0, 1, 2, 3, 4, 5, 6, 7, 8, 9, 10, 11, 12, 13, 14, 15, 16, 17, 18, 19] rfl [0, 1, 2, 3, 4, 5, 6, 7, 8, 9, 10, 11, 12, 13, 14, 15, 16, 17, 18] rfl 0 7 rfl rfl rfl hl.1 rfl (Nat.le_of_ble_eq_true rfl) dX7_group_81 ?_
          obtain ⟨q12, hq12, hr⟩ := bd_use hr
          refine pcS_i (As := [.long q11]) (rest := []) S (c_X7_many l dC dI q11 q12 hq12) (va_cwS 1 hts gX7_group_X7_many rfl rfl rfl (by decide +kernel) ⟨Nat.le_trans (m := rm_X7_group.frames) (by decide) hRf, Nat.le_trans (m := rm_X7_group.locals) (by decide) hRl⟩) hN hP hK ⟨Nat.zero_le _, Nat.zero_le _⟩ rfl hl.1 rfl (Nat.le_of_ble_eq_true rfl) dX7_group_84 ?_
          obtain rfl := Option.some.inj hr
          exact kret _ _ dX7_group_87
        have hr := ite_n hr c10
        by_cases c13 : a1 = 2
        · have hr := ite_p hr c13
          refine lv_tableIn (off := 47) (tgt := 88) hx hb dX7_group_41 (by rw [c13]; decide) (by rw [c13]; decide) (by rw [c13]; rfl) (by decide) ?_
          refine lv_lload hx hb dX7_group_88 (lv_at hl 0 rfl) ?_
          refine lv_iconst (v := (0 : Int32)) hx hb dX7_group_90 (by decide) ?_
          obtain ⟨q14, hq14, hr⟩ := bd_use hr
          refine pcS_i (As := [.long q7, .int (0 : Int32)]) (rest := []) S (c_X7_least l dC dI q7 (0 : Int32) q14 hq14) (va_cwS 2 hts gX7_group_X7_least rfl rfl rfl (by decide +kernel) ⟨Nat.le_trans (m := rm_X7_group.frames) (by decide) hRf, Nat.le_trans (m := rm_X7_group.locals) (by decide) hRl⟩) hN hP hK ⟨Nat.zero_le _, Nat.zero_le _⟩ rfl hl.1 rfl (Nat.le_of_ble_eq_true rfl) dX7_group_91 ?_
          obtain rfl := Option.some.inj hr
          exact kret _ _ dX7_group_94
        have hr := ite_n hr c13
        by_cases c15 : a1 = 3
        · have hr := ite_p hr c15
          refine lv_tableIn (off := 54) (tgt := 95) hx hb dX7_group_41 (by rw [c15]; decide) (by rw [c15]; decide) (by rw [c15]; rfl) (by decide) ?_
          refine lv_aload_n hx hb dX7_group_95 rfl (lv_at hl 2 rfl) ?_
          refine lv_iload_n hx hb dX7_group_96 rfl (lv_at hl 1 rfl) ?_
          refine lv_lload hx hb dX7_group_97 (lv_at hl 0 rfl) ?_
          refine lv_lconst (v := (0 : Int64)) hx hb dX7_group_99 (by decide) ?_
          obtain ⟨q16, hq16, hr⟩ := bd_use hr
          refine pcV_i (As := [.int q5, .long q7, .long (0 : Int64)]) (rest := []) S (c_X7_vital l dC dI ad cA mo_wide mo_high mo_law mo_acts mo_newBlack mo_newWhite mo_taken mo_triesMany mo_isSpent mo_found a_neighbours a_act a_blackAt a_whiteAt a_moveAt a_takenBlack a_takenWhite a_chaseBlack a_chaseWhite a_aheadBlack a_aheadWhite a_hasAhead a_breathsLeft a_laidBlack a_laidWhite a_answersLeft a_firstAnswer a_answering a_next q5 q7 (0 : Int64) q16 hq16) (cwV 3 hts gX7_group_X7_vital rfl rfl rfl (by decide +kernel) ⟨Nat.le_trans (m := rm_X7_group.frames) (by decide) hRf, Nat.le_trans (m := rm_X7_group.locals) (by decide) hRl⟩) hN hP hK ⟨Nat.zero_le _, Nat.zero_le _⟩ [0, 1, 2, 3, 4, 5, 6, 7, 8, 9, 10, 11, 12, 13, 14, 15, 16, 17, 18, 19] rfl [0, 1, 2, 3, 4, 5, 6, 7, 8, 9, 10, 11, 12, 13, 14, 15, 16, 17, 18] rfl 0 7 rfl rfl rfl hl.1 rfl (Nat.le_of_ble_eq_true rfl) dX7_group_100 ?_
          obtain rfl := Option.some.inj hr
          exact kret _ _ dX7_group_103
        have hr := ite_n hr c15
        have ht17 : a1.toInt < 0 ∨ 3 < a1.toInt := by
          have e0 : ¬ a1.toInt = 0 := tb_ne c8
          have e1 : ¬ a1.toInt = 1 := tb_ne c10
          have e2 : ¬ a1.toInt = 2 := tb_ne c13
          have e3 : ¬ a1.toInt = 3 := tb_ne c15
          omega
        refine lv_tableOut (tgt := 104) hx hb dX7_group_41 ht17 (by decide) ?_
        refine lv_aload_n hx hb dX7_group_104 rfl (lv_at hl 2 rfl) ?_
        refine lv_iload_n hx hb dX7_group_105 rfl (lv_at hl 1 rfl) ?_
        obtain ⟨q18, hq18, hr⟩ := bd_use hr
        refine pcV_l (As := [.int q5]) (rest := []) S (c_X7_stand l dC dI ad cA mo_wide mo_high mo_law mo_acts mo_newBlack mo_newWhite mo_taken mo_triesMany mo_isSpent mo_found a_neighbours a_act a_blackAt a_whiteAt a_moveAt a_takenBlack a_takenWhite a_chaseBlack a_chaseWhite a_aheadBlack a_aheadWhite a_hasAhead a_breathsLeft a_laidBlack a_laidWhite a_answersLeft a_firstAnswer a_answering a_next q5 q18 hq18) (cwV 1 hts gX7_group_X7_stand rfl rfl rfl (by decide +kernel) ⟨Nat.le_trans (m := rm_X7_group.frames) (by decide) hRf, Nat.le_trans (m := rm_X7_group.locals) (by decide) hRl⟩) hN hP hK ⟨Nat.zero_le _, Nat.zero_le _⟩ [0, 1, 2, 3, 4, 5, 6, 7, 8, 9, 10, 11, 12, 13, 14, 15, 16, 17, 18, 19] rfl [0, 1, 2, 3, 4, 5, 6, 7, 8, 9, 10, 11, 12, 13, 14, 15, 16, 17, 18] rfl 0 7 rfl rfl rfl hl.1 rfl (Nat.le_of_ble_eq_true rfl) dX7_group_106 ?_
        refine lv_lload hx hb dX7_group_109 (lv_at hl 0 rfl) ?_
        refine lv_land hx hb dX7_group_111 ?_
        refine lv_lconst (v := (0 : Int64)) hx hb dX7_group_112 (by decide) ?_
        refine W.lcmp hx hb dX7_group_113 ?_
        refine lv_if_eq (tgt := 121) hx hb dX7_group_114 (by decide) (fun c19 => ?_) (fun c19 => ?_)
        · have c19 := cmp_t c19
          have hr := ite_p hr c19
          refine lv_iconst (v := (0 : Int32)) hx hb dX7_group_121 (by decide) ?_
          obtain rfl := Option.some.inj hr
          exact kret _ _ dX7_group_122
        · have c19 := cmp_f c19
          have hr := ite_n hr c19
          refine lv_iconst (v := (1 : Int32)) hx hb dX7_group_117 (by decide) ?_
          refine lv_goto (tgt := 122) hx hb dX7_group_118 (by decide) ?_
          obtain rfl := Option.some.inj hr
          exact kret _ _ dX7_group_122
      · have hr := ite_p hr c6
        refine lv_bipush (v := (-3 : Int32)) hx hb dX7_group_30 (by decide) ?_
        obtain rfl := Option.some.inj hr
        exact kret _ _ dX7_group_32
    · have hr := ite_p hr c4
      refine lv_bipush (v := (-2 : Int32)) hx hb dX7_group_17 (by decide) ?_
      obtain rfl := Option.some.inj hr
      exact kret _ _ dX7_group_19

def lp_X7_breath_58 (a1 : Int32) (q6 : Int64) : Nat → Int32 → Int32 → Option (Int32)
  | 0, _, _ => none
  | nF + 1, v11, v12 =>
    if a1 ≤ v12 then (
      some (v11)
    )
    else (
      (f_X7_least q6 (v11 + (1 : Int32))).bind fun q14 =>
      nm (v12 + 1) fun x15 =>
      lp_X7_breath_58 a1 q6 nF q14 x15
    )

def f_X7_breath (mo_wide : Int32) (mo_high : Int32) (mo_acts : Int32) (a_neighbours : Nat → Int64) (a_blackAt : Nat → Int64) (a_whiteAt : Nat → Int64) (a0 : Int32) (a1 : Int32) : Option (Int32) :=
  (f_X7_isCrossing mo_wide mo_high a0).bind fun q1 =>
  if q1 = 0 then (
    some ((-2 : Int32))
  )
  else (
    (f_X7_atOf mo_acts a_blackAt a_whiteAt a0).bind fun q3 =>
    if q3 = 0 then (
      some ((-3 : Int32))
    )
    else (
      (f_X7_groupAt mo_wide mo_high mo_acts a_neighbours a_blackAt a_whiteAt a0).bind fun q5 =>
      (f_X7_breaths mo_wide mo_high mo_acts a_neighbours a_blackAt a_whiteAt q5).bind fun q6 =>
      (f_X7_many q6).bind fun q7 =>
      (f_X7_in a1 (0 : Int32) (q7 - (1 : Int32))).bind fun q8 =>
      if q8 = 0 then (
        some ((-1 : Int32))
      )
      else (
        (f_X7_least q6 (0 : Int32)).bind fun q10 =>
        lp_X7_breath_58 a1 q6 FU q10 (0 : Int32)
      )
    )
  )

abbrev rm_X7_breath : Room := { frames := 4, cells := 0, slots := 0, locals := 94 }
set_option maxHeartbeats 4000000 in
set_option maxRecDepth 100000 in
theorem c_X7_breath (l : Launch) (dC : Nat → ClassId) (dI : Nat → Nat → Nat) (ad : Nat → Nat) (cA : Nat → ClassId) (mo_wide mo_high mo_law mo_acts : Int32) (mo_newBlack mo_newWhite : Int64) (mo_taken mo_triesMany mo_isSpent mo_found : Int32) (a_neighbours : Nat → Int64) (a_act : Nat → Int32) (a_blackAt a_whiteAt : Nat → Int64) (a_moveAt a_takenBlack a_takenWhite : Nat → Int32) (a_chaseBlack a_chaseWhite a_aheadBlack a_aheadWhite : Nat → Int64) (a_hasAhead : Nat → Int32) (a_breathsLeft a_laidBlack a_laidWhite a_answersLeft : Nat → Int64) (a_firstAnswer a_answering a_next : Nat → Int32) (a0 : Int32) (a1 : Int32) (q : Int32) (hr : f_X7_breath mo_wide mo_high mo_acts a_neighbours a_blackAt a_whiteAt a0 a1 = some q) : Met l yX7_breath wsX7_breath rm_X7_breath (PrP (dC, dI) (wd_X7 ad cA mo_wide mo_high mo_law mo_acts mo_newBlack mo_newWhite mo_taken mo_triesMany mo_isSpent mo_found a_neighbours a_act a_blackAt a_whiteAt a_moveAt a_takenBlack a_takenWhite a_chaseBlack a_chaseWhite a_aheadBlack a_aheadWhite a_hasAhead a_breathsLeft a_laidBlack a_laidWhite a_answersLeft a_firstAnswer a_answering a_next) (td_X7 cA) [.ref (ad 0), .int a0, .int a1]) (vp_Si (fun x => x = q)) 0 0 (fun _ => False) := by
  refine mkP_i (cc := cX7_breath) (nL := 7) (by decide) rfl (Nat.le_of_ble_eq_true rfl) ?_
  intro p e R s m args below meth c H Q ls hRf hRl S hN hP hK hl kret
  have hl : lv_has ls 7 [(0, .ref (ad 0)), (1, .int a0), (2, .int a1)] := hl
  obtain ⟨hx, hb, hml, hown, hts⟩ := S
  have hown : s.vm.findClass RX7 = some m.cls := hown
  have S : CallFix p m c cX7_breath 7 s args wsX7_breath RX7 := ⟨hx, hb, hml, hown, hts⟩
  unfold f_X7_breath at hr
  refine lv_aload_n hx hb dX7_breath_0 rfl (lv_at hl 0 rfl) ?_
  refine lv_iload_n hx hb dX7_breath_1 rfl (lv_at hl 1 rfl) ?_
  obtain ⟨q1, hq1, hr⟩ := bd_use hr
  refine pcV_i (As := [.int a0]) (rest := []) S (c_X7_isCrossing l dC dI ad cA mo_wide mo_high mo_law mo_acts mo_newBlack mo_newWhite mo_taken mo_triesMany mo_isSpent mo_found a_neighbours a_act a_blackAt a_whiteAt a_moveAt a_takenBlack a_takenWhite a_chaseBlack a_chaseWhite a_aheadBlack a_aheadWhite a_hasAhead a_breathsLeft a_laidBlack a_laidWhite a_answersLeft a_firstAnswer a_answering a_next a0 q1 hq1) (cwV 1 hts gX7_breath_X7_isCrossing rfl rfl rfl (by decide +kernel) ⟨Nat.le_trans (m := rm_X7_breath.frames) (by decide) hRf, Nat.le_trans (m := rm_X7_breath.locals) (by decide) hRl⟩) hN hP hK ⟨Nat.zero_le _, Nat.zero_le _⟩ [0, 1, 2, 3, 4, 5, 6, 7, 8, 9, 10, 11, 12, 13, 14, 15, 16, 17, 18, 19] rfl [0, 1, 2, 3, 4, 5, 6, 7, 8, 9, 10, 11, 12, 13, 14, 15, 16, 17, 18] rfl 0 7 rfl rfl rfl hl.1 rfl (Nat.le_of_ble_eq_true rfl) dX7_breath_2 ?_
  refine lv_if_ne (tgt := 11) hx hb dX7_breath_5 (by decide) (fun c2 => ?_) (fun c2 => ?_)
  · have hr := ite_n hr c2
    refine lv_aload_n hx hb dX7_breath_11 rfl (lv_at hl 0 rfl) ?_
    refine lv_iload_n hx hb dX7_breath_12 rfl (lv_at hl 1 rfl) ?_
    obtain ⟨q3, hq3, hr⟩ := bd_use hr
    refine pcV_i (As := [.int a0]) (rest := []) S (c_X7_atOf l dC dI ad cA mo_wide mo_high mo_law mo_acts mo_newBlack mo_newWhite mo_taken mo_triesMany mo_isSpent mo_found a_neighbours a_act a_blackAt a_whiteAt a_moveAt a_takenBlack a_takenWhite a_chaseBlack a_chaseWhite a_aheadBlack a_aheadWhite a_hasAhead a_breathsLeft a_laidBlack a_laidWhite a_answersLeft a_firstAnswer a_answering a_next a0 q3 hq3) (cwV 1 hts gX7_breath_X7_atOf rfl rfl rfl (by decide +kernel) ⟨Nat.le_trans (m := rm_X7_breath.frames) (by decide) hRf, Nat.le_trans (m := rm_X7_breath.locals) (by decide) hRl⟩) hN hP hK ⟨Nat.zero_le _, Nat.zero_le _⟩ [0, 1, 2, 3, 4, 5, 6, 7, 8, 9, 10, 11, 12, 13, 14, 15, 16, 17, 18, 19] rfl [0, 1, 2, 3, 4, 5, 6, 7, 8, 9, 10, 11, 12, 13, 14, 15, 16, 17, 18] rfl 0 7 rfl rfl rfl hl.1 rfl (Nat.le_of_ble_eq_true rfl) dX7_breath_13 ?_
    refine lv_if_ne (tgt := 22) hx hb dX7_breath_16 (by decide) (fun c4 => ?_) (fun c4 => ?_)
    · have hr := ite_n hr c4
      refine lv_aload_n hx hb dX7_breath_22 rfl (lv_at hl 0 rfl) ?_
      refine lv_aload_n hx hb dX7_breath_23 rfl (lv_at hl 0 rfl) ?_
      refine lv_iload_n hx hb dX7_breath_24 rfl (lv_at hl 1 rfl) ?_
      obtain ⟨q5, hq5, hr⟩ := bd_use hr
      refine pcV_l (As := [.int a0]) (rest := [.ref (ad 0)]) S (c_X7_groupAt l dC dI ad cA mo_wide mo_high mo_law mo_acts mo_newBlack mo_newWhite mo_taken mo_triesMany mo_isSpent mo_found a_neighbours a_act a_blackAt a_whiteAt a_moveAt a_takenBlack a_takenWhite a_chaseBlack a_chaseWhite a_aheadBlack a_aheadWhite a_hasAhead a_breathsLeft a_laidBlack a_laidWhite a_answersLeft a_firstAnswer a_answering a_next a0 q5 hq5) (cwV 1 hts gX7_breath_X7_groupAt rfl rfl rfl (by decide +kernel) ⟨Nat.le_trans (m := rm_X7_breath.frames) (by decide) hRf, Nat.le_trans (m := rm_X7_breath.locals) (by decide) hRl⟩) hN hP hK ⟨Nat.zero_le _, Nat.zero_le _⟩ [0, 1, 2, 3, 4, 5, 6, 7, 8, 9, 10, 11, 12, 13, 14, 15, 16, 17, 18, 19] rfl [0, 1, 2, 3, 4, 5, 6, 7, 8, 9, 10, 11, 12, 13, 14, 15, 16, 17, 18] rfl 0 7 rfl rfl rfl hl.1 rfl (Nat.le_of_ble_eq_true rfl) dX7_breath_25 ?_
      obtain ⟨q6, hq6, hr⟩ := bd_use hr
      refine pcV_l (As := [.long q5]) (rest := []) S (c_X7_breaths l dC dI ad cA mo_wide mo_high mo_law mo_acts mo_newBlack mo_newWhite mo_taken mo_triesMany mo_isSpent mo_found a_neighbours a_act a_blackAt a_whiteAt a_moveAt a_takenBlack a_takenWhite a_chaseBlack a_chaseWhite a_aheadBlack a_aheadWhite a_hasAhead a_breathsLeft a_laidBlack a_laidWhite a_answersLeft a_firstAnswer a_answering a_next q5 q6 hq6) (cwV 1 hts gX7_breath_X7_breaths rfl rfl rfl (by decide +kernel) ⟨Nat.le_trans (m := rm_X7_breath.frames) (by decide) hRf, Nat.le_trans (m := rm_X7_breath.locals) (by decide) hRl⟩) hN hP hK ⟨Nat.zero_le _, Nat.zero_le _⟩ [0, 1, 2, 3, 4, 5, 6, 7, 8, 9, 10, 11, 12, 13, 14, 15, 16, 17, 18, 19] rfl [0, 1, 2, 3, 4, 5, 6, 7, 8, 9, 10, 11, 12, 13, 14, 15, 16, 17, 18] rfl 0 7 rfl rfl rfl hl.1 rfl (Nat.le_of_ble_eq_true rfl) dX7_breath_28 ?_
      refine lv_lstore_n (lv' := [(3, .long q6), (0, .ref (ad 0)), (1, .int a0), (2, .int a1)]) hx hb dX7_breath_31 rfl hl (by decide) rfl (fun ls hl => ?_)
      refine lv_iload_n hx hb dX7_breath_32 rfl (lv_at hl 3 rfl) ?_
      refine lv_iconst (v := (0 : Int32)) hx hb dX7_breath_33 (by decide) ?_
      refine lv_lload_n hx hb dX7_breath_34 rfl (lv_at hl 0 rfl) ?_
      obtain ⟨q7, hq7, hr⟩ := bd_use hr
      refine pcS_i (As := [.long q6]) (rest := [.int (0 : Int32), .int a1]) S (c_X7_many l dC dI q6 q7 hq7) (va_cwS 1 hts gX7_breath_X7_many rfl rfl rfl (by decide +kernel) ⟨Nat.le_trans (m := rm_X7_breath.frames) (by decide) hRf, Nat.le_trans (m := rm_X7_breath.locals) (by decide) hRl⟩) hN hP hK ⟨Nat.zero_le _, Nat.zero_le _⟩ rfl hl.1 rfl (Nat.le_of_ble_eq_true rfl) dX7_breath_35 ?_
      refine lv_iconst (v := (1 : Int32)) hx hb dX7_breath_38 (by decide) ?_
      refine lv_isub hx hb dX7_breath_39 ?_
      obtain ⟨q8, hq8, hr⟩ := bd_use hr
      refine pcS_i (As := [.int a1, .int (0 : Int32), .int (q7 - (1 : Int32))]) (rest := []) S (c_X7_in l dC dI a1 (0 : Int32) (q7 - (1 : Int32)) q8 hq8) (va_cwS 3 hts gX7_breath_X7_in rfl rfl rfl (by decide +kernel) ⟨Nat.le_trans (m := rm_X7_breath.frames) (by decide) hRf, Nat.le_trans (m := rm_X7_breath.locals) (by decide) hRl⟩) hN hP hK ⟨Nat.zero_le _, Nat.zero_le _⟩ rfl hl.1 rfl (Nat.le_of_ble_eq_true rfl) dX7_breath_40 ?_
      refine lv_if_ne (tgt := 48) hx hb dX7_breath_43 (by decide) (fun c9 => ?_) (fun c9 => ?_)
      · have hr := ite_n hr c9
        refine lv_lload_n hx hb dX7_breath_48 rfl (lv_at hl 0 rfl) ?_
        refine lv_iconst (v := (0 : Int32)) hx hb dX7_breath_49 (by decide) ?_
        obtain ⟨q10, hq10, hr⟩ := bd_use hr
        refine pcS_i (As := [.long q6, .int (0 : Int32)]) (rest := []) S (c_X7_least l dC dI q6 (0 : Int32) q10 hq10) (va_cwS 2 hts gX7_breath_X7_least rfl rfl rfl (by decide +kernel) ⟨Nat.le_trans (m := rm_X7_breath.frames) (by decide) hRf, Nat.le_trans (m := rm_X7_breath.locals) (by decide) hRl⟩) hN hP hK ⟨Nat.zero_le _, Nat.zero_le _⟩ rfl hl.1 rfl (Nat.le_of_ble_eq_true rfl) dX7_breath_50 ?_
        refine lv_istore (lv' := [(5, .int q10), (3, .long q6), (0, .ref (ad 0)), (1, .int a0), (2, .int a1)]) hx hb dX7_breath_53 hl (by decide) rfl (fun ls hl => ?_)
        refine lv_iconst (v := (0 : Int32)) hx hb dX7_breath_55 (by decide) ?_
        refine lv_istore (lv' := [(6, .int (0 : Int32)), (5, .int q10), (3, .long q6), (0, .ref (ad 0)), (1, .int a0), (2, .int a1)]) hx hb dX7_breath_56 hl (by decide) rfl (fun ls hl => ?_)
        have llp_X7_breath_58 : ∀ (nF : Nat) (v11 : Int32) (v12 : Int32) , lp_X7_breath_58 a1 q6 nF v11 v12 = some q → ∀ (ls : Array Slot), lv_has ls 7 [(2, .int a1), (3, .long q6), (5, .int v11), (6, .int v12)] → W p l e R s m args below meth c H [] 0 0 Q (F0 m 58 ls []) := by
          intro nF
          induction nF with
          | zero => intro v11 v12 hr; exact absurd hr (by simp [lp_X7_breath_58])
          | succ nF ih =>
            intro v11 v12 hr ls hl
            rw [lp_X7_breath_58] at hr
            refine lv_iload hx hb dX7_breath_58 (lv_at hl 3 rfl) ?_
            refine lv_iload_n hx hb dX7_breath_60 rfl (lv_at hl 0 rfl) ?_
            refine lv_icmp_ge (tgt := 80) hx hb dX7_breath_61 (by decide) (fun c13 => ?_) (fun c13 => ?_)
            · have hr := ite_p hr c13
              refine lv_iload hx hb dX7_breath_80 (lv_at hl 2 rfl) ?_
              obtain rfl := Option.some.inj hr
              exact kret _ _ dX7_breath_82
            · have hr := ite_n hr c13
              refine lv_lload_n hx hb dX7_breath_64 rfl (lv_at hl 1 rfl) ?_
              refine lv_iload hx hb dX7_breath_65 (lv_at hl 2 rfl) ?_
              refine lv_iconst (v := (1 : Int32)) hx hb dX7_breath_67 (by decide) ?_
              refine lv_iadd hx hb dX7_breath_68 ?_
              obtain ⟨q14, hq14, hr⟩ := bd_use hr
              refine pcS_i (As := [.long q6, .int (v11 + (1 : Int32))]) (rest := []) S (c_X7_least l dC dI q6 (v11 + (1 : Int32)) q14 hq14) (va_cwS 2 hts gX7_breath_X7_least rfl rfl rfl (by decide +kernel) ⟨Nat.le_trans (m := rm_X7_breath.frames) (by decide) hRf, Nat.le_trans (m := rm_X7_breath.locals) (by decide) hRl⟩) hN hP hK ⟨Nat.zero_le _, Nat.zero_le _⟩ rfl hl.1 rfl (Nat.le_of_ble_eq_true rfl) dX7_breath_69 ?_
              refine lv_istore (lv' := [(5, .int q14), (2, .int a1), (3, .long q6), (6, .int v12)]) hx hb dX7_breath_72 hl (by decide) rfl (fun ls hl => ?_)
              obtain ⟨x15, ex15, hr⟩ := nm_ex hr
              refine lv_iinc (v := x15) (lv' := [(6, .int x15), (5, .int q14), (2, .int a1), (3, .long q6)]) hx hb dX7_breath_74 hl (k := 3) rfl (by rw [ex15]; rfl) (by decide) rfl (fun ls hl => ?_)
              refine lv_goto (tgt := 58) hx hb dX7_breath_77 (by decide) ?_
              exact ih q14 x15 hr ls (lv_sub hl [2, 3, 1, 0] rfl)
        exact llp_X7_breath_58 FU q10 (0 : Int32) hr ls (lv_sub hl [5, 2, 1, 0] rfl)
      · have hr := ite_p hr c9
        refine lv_iconst (v := (-1 : Int32)) hx hb dX7_breath_46 (by decide) ?_
        obtain rfl := Option.some.inj hr
        exact kret _ _ dX7_breath_47
    · have hr := ite_p hr c4
      refine lv_bipush (v := (-3 : Int32)) hx hb dX7_breath_19 (by decide) ?_
      obtain rfl := Option.some.inj hr
      exact kret _ _ dX7_breath_21
  · have hr := ite_p hr c2
    refine lv_bipush (v := (-2 : Int32)) hx hb dX7_breath_8 (by decide) ?_
    obtain rfl := Option.some.inj hr
    exact kret _ _ dX7_breath_10

def lp_X7_region_136 (mo_wide : Int32) (mo_high : Int32) (mo_acts : Int32) (a_neighbours : Nat → Int64) (a_blackAt : Nat → Int64) (a_whiteAt : Nat → Int64) (a0 : Int32) (a2 : Int32) (q11 : Int64) : Nat → Int32 → Int64 → Option (Int32)
  | 0, _, _ => none
  | nF + 1, v17, v18 =>
    if v18 = (0 : Int64) then (
      some (v17)
    )
    else (
      (f_X7_stones mo_acts a_blackAt a_whiteAt a0).bind fun q20 =>
      (f_X7_spread mo_wide mo_high a_neighbours (v18 &&& (-v18)) q20).bind fun q21 =>
      nm (v18 &&& (q21 ^^^ (-1 : Int64))) fun x22 =>
      if a2 = (2 : Int32) then (
        nm (v17 + (1 : Int32)) fun x24 =>
        lp_X7_region_136 mo_wide mo_high mo_acts a_neighbours a_blackAt a_whiteAt a0 a2 q11 nF x24 x22
      )
      else (
        (f_X7_isVital mo_wide mo_high mo_acts a_neighbours a_blackAt a_whiteAt q11 q21).bind fun q25 =>
        if q25 = 0 then (
          nm (v17 + (0 : Int32)) fun x27 =>
          lp_X7_region_136 mo_wide mo_high mo_acts a_neighbours a_blackAt a_whiteAt a0 a2 q11 nF x27 x22
        )
        else (
          nm (v17 + (1 : Int32)) fun x28 =>
          lp_X7_region_136 mo_wide mo_high mo_acts a_neighbours a_blackAt a_whiteAt a0 a2 q11 nF x28 x22
        )
      )
    )

def f_X7_region (mo_wide : Int32) (mo_high : Int32) (mo_acts : Int32) (a_neighbours : Nat → Int64) (a_blackAt : Nat → Int64) (a_whiteAt : Nat → Int64) (a0 : Int32) (a1 : Int32) (a2 : Int32) : Option (Int32) :=
  (f_X7_in a0 (1 : Int32) (2 : Int32)).bind fun q1 =>
  if q1 = 0 then (
    some ((-2 : Int32))
  )
  else (
    (f_X7_isCrossing mo_wide mo_high a1).bind fun q3 =>
    if q3 = 0 then (
      some ((-2 : Int32))
    )
    else (
      (f_X7_in a2 (0 : Int32) (4 : Int32)).bind fun q5 =>
      if q5 = 0 then (
        some ((-2 : Int32))
      )
      else (
        (f_X7_atOf mo_acts a_blackAt a_whiteAt a1).bind fun q7 =>
        if q7 = a0 then (
          some ((-3 : Int32))
        )
        else (
          (f_X7_all mo_wide mo_high).bind fun q9 =>
          (f_X7_stones mo_acts a_blackAt a_whiteAt a0).bind fun q10 =>
          (f_X7_spread mo_wide mo_high a_neighbours (jshl (1 : Int64) a1) (q9 &&& (q10 ^^^ (-1 : Int64)))).bind fun q11 =>
          if (2 : Int32) ≤ a2 then (
            if a2 = (4 : Int32) then (
              (f_X7_least q11 (0 : Int32)).bind fun q29 =>
              some (q29)
            )
            else (
              (f_X7_around mo_wide mo_high a_neighbours q11).bind fun q14 =>
              (f_X7_stones mo_acts a_blackAt a_whiteAt a0).bind fun q15 =>
              nm (q14 &&& q15) fun x16 =>
              lp_X7_region_136 mo_wide mo_high mo_acts a_neighbours a_blackAt a_whiteAt a0 a2 q11 FU (0 : Int32) x16
            )
          )
          else (
            nm (fun (u30 : Int64) =>
            (f_X7_many u30).bind fun q32 =>
            some (q32)
            ) fun K31 =>
            if a2 = 0 then (
              K31 q11
            )
            else (
              if (mo_acts < 0 ∨ 130 ≤ mo_acts.toNatClampNeg) then none else
              if (mo_acts < 0 ∨ 130 ≤ mo_acts.toNatClampNeg) then none else
              (f_X7_free mo_wide mo_high (a_blackAt mo_acts.toNatClampNeg) (a_whiteAt mo_acts.toNatClampNeg)).bind fun q36 =>
              K31 (q11 &&& q36)
            )
          )
        )
      )
    )
  )

abbrev rm_X7_region : Room := { frames := 5, cells := 0, slots := 0, locals := 110 }
set_option maxHeartbeats 4000000 in
set_option maxRecDepth 100000 in
theorem c_X7_region (l : Launch) (dC : Nat → ClassId) (dI : Nat → Nat → Nat) (ad : Nat → Nat) (cA : Nat → ClassId) (mo_wide mo_high mo_law mo_acts : Int32) (mo_newBlack mo_newWhite : Int64) (mo_taken mo_triesMany mo_isSpent mo_found : Int32) (a_neighbours : Nat → Int64) (a_act : Nat → Int32) (a_blackAt a_whiteAt : Nat → Int64) (a_moveAt a_takenBlack a_takenWhite : Nat → Int32) (a_chaseBlack a_chaseWhite a_aheadBlack a_aheadWhite : Nat → Int64) (a_hasAhead : Nat → Int32) (a_breathsLeft a_laidBlack a_laidWhite a_answersLeft : Nat → Int64) (a_firstAnswer a_answering a_next : Nat → Int32) (a0 : Int32) (a1 : Int32) (a2 : Int32) (q : Int32) (hr : f_X7_region mo_wide mo_high mo_acts a_neighbours a_blackAt a_whiteAt a0 a1 a2 = some q) : Met l yX7_region wsX7_region rm_X7_region (PrP (dC, dI) (wd_X7 ad cA mo_wide mo_high mo_law mo_acts mo_newBlack mo_newWhite mo_taken mo_triesMany mo_isSpent mo_found a_neighbours a_act a_blackAt a_whiteAt a_moveAt a_takenBlack a_takenWhite a_chaseBlack a_chaseWhite a_aheadBlack a_aheadWhite a_hasAhead a_breathsLeft a_laidBlack a_laidWhite a_answersLeft a_firstAnswer a_answering a_next) (td_X7 cA) [.ref (ad 0), .int a0, .int a1, .int a2]) (vp_Si (fun x => x = q)) 0 0 (fun _ => False) := by
  refine mkP_i (cc := cX7_region) (nL := 11) (by decide) rfl (Nat.le_of_ble_eq_true rfl) ?_
  intro p e R s m args below meth c H Q ls hRf hRl S hN hP hK hl kret
  have hl : lv_has ls 11 [(0, .ref (ad 0)), (1, .int a0), (2, .int a1), (3, .int a2)] := hl
  obtain ⟨hx, hb, hml, hown, hts⟩ := S
  have hown : s.vm.findClass RX7 = some m.cls := hown
  have S : CallFix p m c cX7_region 11 s args wsX7_region RX7 := ⟨hx, hb, hml, hown, hts⟩
  have hk105 := hts (.constantLong RX7 105 (-1 : Int64)) (by decide +kernel)
  have huX7 : ∀ w ∈ u_ws RX7 TX7 29, w ∈ wsX7_region := by decide +kernel
  have hf24 := hts (.fieldLink RX7 24 "EyeBoardModel" "blackAt" "[J") (by decide +kernel)
  have hf86 := hts (.fieldLink RX7 86 "EyeBoardModel" "acts" "I") (by decide +kernel)
  have hf27 := hts (.fieldLink RX7 27 "EyeBoardModel" "whiteAt" "[J") (by decide +kernel)
  unfold f_X7_region at hr
  refine lv_iload_n hx hb dX7_region_0 rfl (lv_at hl 1 rfl) ?_
  refine lv_iconst (v := (1 : Int32)) hx hb dX7_region_1 (by decide) ?_
  refine lv_iconst (v := (2 : Int32)) hx hb dX7_region_2 (by decide) ?_
  obtain ⟨q1, hq1, hr⟩ := bd_use hr
  refine pcS_i (As := [.int a0, .int (1 : Int32), .int (2 : Int32)]) (rest := []) S (c_X7_in l dC dI a0 (1 : Int32) (2 : Int32) q1 hq1) (va_cwS 3 hts gX7_region_X7_in rfl rfl rfl (by decide +kernel) ⟨Nat.le_trans (m := rm_X7_region.frames) (by decide) hRf, Nat.le_trans (m := rm_X7_region.locals) (by decide) hRl⟩) hN hP hK ⟨Nat.zero_le _, Nat.zero_le _⟩ rfl hl.1 rfl (Nat.le_of_ble_eq_true rfl) dX7_region_3 ?_
  refine lv_if_eq (tgt := 26) hx hb dX7_region_6 (by decide) (fun c2 => ?_) (fun c2 => ?_)
  · have hr := ite_p hr c2
    refine lv_bipush (v := (-2 : Int32)) hx hb dX7_region_26 (by decide) ?_
    obtain rfl := Option.some.inj hr
    exact kret _ _ dX7_region_28
  · have hr := ite_n hr c2
    refine lv_aload_n hx hb dX7_region_9 rfl (lv_at hl 0 rfl) ?_
    refine lv_iload_n hx hb dX7_region_10 rfl (lv_at hl 2 rfl) ?_
    obtain ⟨q3, hq3, hr⟩ := bd_use hr
    refine pcV_i (As := [.int a1]) (rest := []) S (c_X7_isCrossing l dC dI ad cA mo_wide mo_high mo_law mo_acts mo_newBlack mo_newWhite mo_taken mo_triesMany mo_isSpent mo_found a_neighbours a_act a_blackAt a_whiteAt a_moveAt a_takenBlack a_takenWhite a_chaseBlack a_chaseWhite a_aheadBlack a_aheadWhite a_hasAhead a_breathsLeft a_laidBlack a_laidWhite a_answersLeft a_firstAnswer a_answering a_next a1 q3 hq3) (cwV 1 hts gX7_region_X7_isCrossing rfl rfl rfl (by decide +kernel) ⟨Nat.le_trans (m := rm_X7_region.frames) (by decide) hRf, Nat.le_trans (m := rm_X7_region.locals) (by decide) hRl⟩) hN hP hK ⟨Nat.zero_le _, Nat.zero_le _⟩ [0, 1, 2, 3, 4, 5, 6, 7, 8, 9, 10, 11, 12, 13, 14, 15, 16, 17, 18, 19] rfl [0, 1, 2, 3, 4, 5, 6, 7, 8, 9, 10, 11, 12, 13, 14, 15, 16, 17, 18] rfl 0 7 rfl rfl rfl hl.1 rfl (Nat.le_of_ble_eq_true rfl) dX7_region_11 ?_
    refine lv_if_eq (tgt := 26) hx hb dX7_region_14 (by decide) (fun c4 => ?_) (fun c4 => ?_)
    · have hr := ite_p hr c4
      refine lv_bipush (v := (-2 : Int32)) hx hb dX7_region_26 (by decide) ?_
      obtain rfl := Option.some.inj hr
      exact kret _ _ dX7_region_28
    · have hr := ite_n hr c4
      refine lv_iload_n hx hb dX7_region_17 rfl (lv_at hl 3 rfl) ?_
      refine lv_iconst (v := (0 : Int32)) hx hb dX7_region_18 (by decide) ?_
      refine lv_iconst (v := (4 : Int32)) hx hb dX7_region_19 (by decide) ?_
      obtain ⟨q5, hq5, hr⟩ := bd_use hr
      refine pcS_i (As := [.int a2, .int (0 : Int32), .int (4 : Int32)]) (rest := []) S (c_X7_in l dC dI a2 (0 : Int32) (4 : Int32) q5 hq5) (va_cwS 3 hts gX7_region_X7_in rfl rfl rfl (by decide +kernel) ⟨Nat.le_trans (m := rm_X7_region.frames) (by decide) hRf, Nat.le_trans (m := rm_X7_region.locals) (by decide) hRl⟩) hN hP hK ⟨Nat.zero_le _, Nat.zero_le _⟩ rfl hl.1 rfl (Nat.le_of_ble_eq_true rfl) dX7_region_20 ?_
      refine lv_if_ne (tgt := 29) hx hb dX7_region_23 (by decide) (fun c6 => ?_) (fun c6 => ?_)
      · have hr := ite_n hr c6
        refine lv_aload_n hx hb dX7_region_29 rfl (lv_at hl 0 rfl) ?_
        refine lv_iload_n hx hb dX7_region_30 rfl (lv_at hl 2 rfl) ?_
        obtain ⟨q7, hq7, hr⟩ := bd_use hr
        refine pcV_i (As := [.int a1]) (rest := []) S (c_X7_atOf l dC dI ad cA mo_wide mo_high mo_law mo_acts mo_newBlack mo_newWhite mo_taken mo_triesMany mo_isSpent mo_found a_neighbours a_act a_blackAt a_whiteAt a_moveAt a_takenBlack a_takenWhite a_chaseBlack a_chaseWhite a_aheadBlack a_aheadWhite a_hasAhead a_breathsLeft a_laidBlack a_laidWhite a_answersLeft a_firstAnswer a_answering a_next a1 q7 hq7) (cwV 1 hts gX7_region_X7_atOf rfl rfl rfl (by decide +kernel) ⟨Nat.le_trans (m := rm_X7_region.frames) (by decide) hRf, Nat.le_trans (m := rm_X7_region.locals) (by decide) hRl⟩) hN hP hK ⟨Nat.zero_le _, Nat.zero_le _⟩ [0, 1, 2, 3, 4, 5, 6, 7, 8, 9, 10, 11, 12, 13, 14, 15, 16, 17, 18, 19] rfl [0, 1, 2, 3, 4, 5, 6, 7, 8, 9, 10, 11, 12, 13, 14, 15, 16, 17, 18] rfl 0 7 rfl rfl rfl hl.1 rfl (Nat.le_of_ble_eq_true rfl) dX7_region_31 ?_
        refine lv_iload_n hx hb dX7_region_34 rfl (lv_at hl 1 rfl) ?_
        refine lv_icmp_ne (tgt := 41) hx hb dX7_region_35 (by decide) (fun c8 => ?_) (fun c8 => ?_)
        · have hr := ite_n hr c8
          refine lv_aload_n hx hb dX7_region_41 rfl (lv_at hl 0 rfl) ?_
          refine lv_lconst (v := (1 : Int64)) hx hb dX7_region_42 (by decide) ?_
          refine lv_iload_n hx hb dX7_region_43 rfl (lv_at hl 2 rfl) ?_
          refine lv_lshl (v := jshl (1 : Int64) a1) hx hb dX7_region_44 rfl ?_
          refine lv_aload_n hx hb dX7_region_45 rfl (lv_at hl 0 rfl) ?_
          obtain ⟨q9, hq9, hr⟩ := bd_use hr
          refine pcV_l (As := []) (rest := [.long (jshl (1 : Int64) a1), .ref (ad 0)]) S (c_X7_all l dC dI ad cA mo_wide mo_high mo_law mo_acts mo_newBlack mo_newWhite mo_taken mo_triesMany mo_isSpent mo_found a_neighbours a_act a_blackAt a_whiteAt a_moveAt a_takenBlack a_takenWhite a_chaseBlack a_chaseWhite a_aheadBlack a_aheadWhite a_hasAhead a_breathsLeft a_laidBlack a_laidWhite a_answersLeft a_firstAnswer a_answering a_next q9 hq9) (cwV 0 hts gX7_region_X7_all rfl rfl rfl (by decide +kernel) ⟨Nat.le_trans (m := rm_X7_region.frames) (by decide) hRf, Nat.le_trans (m := rm_X7_region.locals) (by decide) hRl⟩) hN hP hK ⟨Nat.zero_le _, Nat.zero_le _⟩ [0, 1, 2, 3, 4, 5, 6, 7, 8, 9, 10, 11, 12, 13, 14, 15, 16, 17, 18, 19] rfl [0, 1, 2, 3, 4, 5, 6, 7, 8, 9, 10, 11, 12, 13, 14, 15, 16, 17, 18] rfl 0 7 rfl rfl rfl hl.1 rfl (Nat.le_of_ble_eq_true rfl) dX7_region_46 ?_
          refine lv_aload_n hx hb dX7_region_49 rfl (lv_at hl 0 rfl) ?_
          refine lv_iload_n hx hb dX7_region_50 rfl (lv_at hl 1 rfl) ?_
          obtain ⟨q10, hq10, hr⟩ := bd_use hr
          refine pcV_l (As := [.int a0]) (rest := [.long q9, .long (jshl (1 : Int64) a1), .ref (ad 0)]) S (c_X7_stones l dC dI ad cA mo_wide mo_high mo_law mo_acts mo_newBlack mo_newWhite mo_taken mo_triesMany mo_isSpent mo_found a_neighbours a_act a_blackAt a_whiteAt a_moveAt a_takenBlack a_takenWhite a_chaseBlack a_chaseWhite a_aheadBlack a_aheadWhite a_hasAhead a_breathsLeft a_laidBlack a_laidWhite a_answersLeft a_firstAnswer a_answering a_next a0 q10 hq10) (cwV 1 hts gX7_region_X7_stones rfl rfl rfl (by decide +kernel) ⟨Nat.le_trans (m := rm_X7_region.frames) (by decide) hRf, Nat.le_trans (m := rm_X7_region.locals) (by decide) hRl⟩) hN hP hK ⟨Nat.zero_le _, Nat.zero_le _⟩ [0, 1, 2, 3, 4, 5, 6, 7, 8, 9, 10, 11, 12, 13, 14, 15, 16, 17, 18, 19] rfl [0, 1, 2, 3, 4, 5, 6, 7, 8, 9, 10, 11, 12, 13, 14, 15, 16, 17, 18] rfl 0 7 rfl rfl rfl hl.1 rfl (Nat.le_of_ble_eq_true rfl) dX7_region_51 ?_
          refine W.ldc2 (v := (-1 : Int64)) hx hb hown hk105 rfl dX7_region_54 ?_
          refine W.eq (g2 := F0 m 57 ls [.long (-1 : Int64), .long q10, .long q9, .long (jshl (1 : Int64) a1), .ref (ad 0)]) rfl ?_
          refine lv_lxor hx hb dX7_region_57 ?_
          refine lv_land hx hb dX7_region_58 ?_
          obtain ⟨q11, hq11, hr⟩ := bd_use hr
          refine pcV_l (As := [.long (jshl (1 : Int64) a1), .long (q9 &&& (q10 ^^^ (-1 : Int64)))]) (rest := []) S (c_X7_spread l dC dI ad cA mo_wide mo_high mo_law mo_acts mo_newBlack mo_newWhite mo_taken mo_triesMany mo_isSpent mo_found a_neighbours a_act a_blackAt a_whiteAt a_moveAt a_takenBlack a_takenWhite a_chaseBlack a_chaseWhite a_aheadBlack a_aheadWhite a_hasAhead a_breathsLeft a_laidBlack a_laidWhite a_answersLeft a_firstAnswer a_answering a_next (jshl (1 : Int64) a1) (q9 &&& (q10 ^^^ (-1 : Int64))) q11 hq11) (cwV 2 hts gX7_region_X7_spread rfl rfl rfl (by decide +kernel) ⟨Nat.le_trans (m := rm_X7_region.frames) (by decide) hRf, Nat.le_trans (m := rm_X7_region.locals) (by decide) hRl⟩) hN hP hK ⟨Nat.zero_le _, Nat.zero_le _⟩ [0, 1, 2, 3, 4, 5, 6, 7, 8, 9, 10, 11, 12, 13, 14, 15, 16, 17, 18, 19] rfl [0, 1, 2, 3, 4, 5, 6, 7, 8, 9, 10, 11, 12, 13, 14, 15, 16, 17, 18] rfl 0 7 rfl rfl rfl hl.1 rfl (Nat.le_of_ble_eq_true rfl) dX7_region_59 ?_
          refine lv_lstore (lv' := [(4, .long q11), (0, .ref (ad 0)), (1, .int a0), (2, .int a1), (3, .int a2)]) hx hb dX7_region_62 hl (by decide) rfl (fun ls hl => ?_)
          refine lv_iload_n hx hb dX7_region_64 rfl (lv_at hl 4 rfl) ?_
          refine lv_iconst (v := (2 : Int32)) hx hb dX7_region_65 (by decide) ?_
          refine lv_icmp_ge (tgt := 107) hx hb dX7_region_66 (by decide) (fun c12 => ?_) (fun c12 => ?_)
          · have hr := ite_p hr c12
            refine lv_iload_n hx hb dX7_region_107 rfl (lv_at hl 4 rfl) ?_
            refine lv_iconst (v := (4 : Int32)) hx hb dX7_region_108 (by decide) ?_
            refine lv_icmp_ne (tgt := 119) hx hb dX7_region_109 (by decide) (fun c13 => ?_) (fun c13 => ?_)
            · have hr := ite_n hr c13
              refine lv_iconst (v := (0 : Int32)) hx hb dX7_region_119 (by decide) ?_
              refine lv_istore (lv' := [(6, .int (0 : Int32)), (4, .long q11), (0, .ref (ad 0)), (1, .int a0), (2, .int a1), (3, .int a2)]) hx hb dX7_region_120 hl (by decide) rfl (fun ls hl => ?_)
              refine lv_aload_n hx hb dX7_region_122 rfl (lv_at hl 2 rfl) ?_
              refine lv_lload hx hb dX7_region_123 (lv_at hl 1 rfl) ?_
              obtain ⟨q14, hq14, hr⟩ := bd_use hr
              refine pcV_l (As := [.long q11]) (rest := []) S (c_X7_around l dC dI ad cA mo_wide mo_high mo_law mo_acts mo_newBlack mo_newWhite mo_taken mo_triesMany mo_isSpent mo_found a_neighbours a_act a_blackAt a_whiteAt a_moveAt a_takenBlack a_takenWhite a_chaseBlack a_chaseWhite a_aheadBlack a_aheadWhite a_hasAhead a_breathsLeft a_laidBlack a_laidWhite a_answersLeft a_firstAnswer a_answering a_next q11 q14 hq14) (cwV 1 hts gX7_region_X7_around rfl rfl rfl (by decide +kernel) ⟨Nat.le_trans (m := rm_X7_region.frames) (by decide) hRf, Nat.le_trans (m := rm_X7_region.locals) (by decide) hRl⟩) hN hP hK ⟨Nat.zero_le _, Nat.zero_le _⟩ [0, 1, 2, 3, 4, 5, 6, 7, 8, 9, 10, 11, 12, 13, 14, 15, 16, 17, 18, 19] rfl [0, 1, 2, 3, 4, 5, 6, 7, 8, 9, 10, 11, 12, 13, 14, 15, 16, 17, 18] rfl 0 7 rfl rfl rfl hl.1 rfl (Nat.le_of_ble_eq_true rfl) dX7_region_125 ?_
              refine lv_aload_n hx hb dX7_region_128 rfl (lv_at hl 2 rfl) ?_
              refine lv_iload_n hx hb dX7_region_129 rfl (lv_at hl 3 rfl) ?_
              obtain ⟨q15, hq15, hr⟩ := bd_use hr
              refine pcV_l (As := [.int a0]) (rest := [.long q14]) S (c_X7_stones l dC dI ad cA mo_wide mo_high mo_law mo_acts mo_newBlack mo_newWhite mo_taken mo_triesMany mo_isSpent mo_found a_neighbours a_act a_blackAt a_whiteAt a_moveAt a_takenBlack a_takenWhite a_chaseBlack a_chaseWhite a_aheadBlack a_aheadWhite a_hasAhead a_breathsLeft a_laidBlack a_laidWhite a_answersLeft a_firstAnswer a_answering a_next a0 q15 hq15) (cwV 1 hts gX7_region_X7_stones rfl rfl rfl (by decide +kernel) ⟨Nat.le_trans (m := rm_X7_region.frames) (by decide) hRf, Nat.le_trans (m := rm_X7_region.locals) (by decide) hRl⟩) hN hP hK ⟨Nat.zero_le _, Nat.zero_le _⟩ [0, 1, 2, 3, 4, 5, 6, 7, 8, 9, 10, 11, 12, 13, 14, 15, 16, 17, 18, 19] rfl [0, 1, 2, 3, 4, 5, 6, 7, 8, 9, 10, 11, 12, 13, 14, 15, 16, 17, 18] rfl 0 7 rfl rfl rfl hl.1 rfl (Nat.le_of_ble_eq_true rfl) dX7_region_130 ?_
              refine lv_land hx hb dX7_region_133 ?_
              refine lv_topl (fun x16 ex16 => ?_)
              have hr := nm_use hr ex16
              refine lv_lstore (lv' := [(7, .long x16), (6, .int (0 : Int32)), (4, .long q11), (0, .ref (ad 0)), (1, .int a0), (2, .int a1), (3, .int a2)]) hx hb dX7_region_134 hl (by decide) rfl (fun ls hl => ?_)
              have llp_X7_region_136 : ∀ (nF : Nat) (v17 : Int32) (v18 : Int64) , lp_X7_region_136 mo_wide mo_high mo_acts a_neighbours a_blackAt a_whiteAt a0 a2 q11 nF v17 v18 = some q → ∀ (ls : Array Slot), lv_has ls 11 [(0, .ref (ad 0)), (1, .int a0), (3, .int a2), (4, .long q11), (6, .int v17), (7, .long v18)] → W p l e R s m args below meth c H [] 0 0 Q (F0 m 136 ls []) := by
                intro nF
                induction nF with
                | zero => intro v17 v18 hr; exact absurd hr (by simp [lp_X7_region_136])
                | succ nF ih =>
                  intro v17 v18 hr ls hl
                  rw [lp_X7_region_136] at hr
                  refine lv_lload hx hb dX7_region_136 (lv_at hl 5 rfl) ?_
                  refine lv_lconst (v := (0 : Int64)) hx hb dX7_region_138 (by decide) ?_
                  refine W.lcmp hx hb dX7_region_139 ?_
                  refine lv_if_eq (tgt := 200) hx hb dX7_region_140 (by decide) (fun c19 => ?_) (fun c19 => ?_)
                  · have c19 := cmp_t c19
                    have hr := ite_p hr c19
                    refine lv_iload hx hb dX7_region_200 (lv_at hl 4 rfl) ?_
                    obtain rfl := Option.some.inj hr
                    exact kret _ _ dX7_region_202
                  · have c19 := cmp_f c19
                    have hr := ite_n hr c19
                    refine lv_aload_n hx hb dX7_region_143 rfl (lv_at hl 0 rfl) ?_
                    refine lv_lload hx hb dX7_region_144 (lv_at hl 5 rfl) ?_
                    refine lv_lload hx hb dX7_region_146 (lv_at hl 5 rfl) ?_
                    refine lv_lneg hx hb dX7_region_148 ?_
                    refine lv_land hx hb dX7_region_149 ?_
                    refine lv_aload_n hx hb dX7_region_150 rfl (lv_at hl 0 rfl) ?_
                    refine lv_iload_n hx hb dX7_region_151 rfl (lv_at hl 1 rfl) ?_
                    obtain ⟨q20, hq20, hr⟩ := bd_use hr
                    refine pcV_l (As := [.int a0]) (rest := [.long (v18 &&& (-v18)), .ref (ad 0)]) S (c_X7_stones l dC dI ad cA mo_wide mo_high mo_law mo_acts mo_newBlack mo_newWhite mo_taken mo_triesMany mo_isSpent mo_found a_neighbours a_act a_blackAt a_whiteAt a_moveAt a_takenBlack a_takenWhite a_chaseBlack a_chaseWhite a_aheadBlack a_aheadWhite a_hasAhead a_breathsLeft a_laidBlack a_laidWhite a_answersLeft a_firstAnswer a_answering a_next a0 q20 hq20) (cwV 1 hts gX7_region_X7_stones rfl rfl rfl (by decide +kernel) ⟨Nat.le_trans (m := rm_X7_region.frames) (by decide) hRf, Nat.le_trans (m := rm_X7_region.locals) (by decide) hRl⟩) hN hP hK ⟨Nat.zero_le _, Nat.zero_le _⟩ [0, 1, 2, 3, 4, 5, 6, 7, 8, 9, 10, 11, 12, 13, 14, 15, 16, 17, 18, 19] rfl [0, 1, 2, 3, 4, 5, 6, 7, 8, 9, 10, 11, 12, 13, 14, 15, 16, 17, 18] rfl 0 7 rfl rfl rfl hl.1 rfl (Nat.le_of_ble_eq_true rfl) dX7_region_152 ?_
                    obtain ⟨q21, hq21, hr⟩ := bd_use hr
                    refine pcV_l (As := [.long (v18 &&& (-v18)), .long q20]) (rest := []) S (c_X7_spread l dC dI ad cA mo_wide mo_high mo_law mo_acts mo_newBlack mo_newWhite mo_taken mo_triesMany mo_isSpent mo_found a_neighbours a_act a_blackAt a_whiteAt a_moveAt a_takenBlack a_takenWhite a_chaseBlack a_chaseWhite a_aheadBlack a_aheadWhite a_hasAhead a_breathsLeft a_laidBlack a_laidWhite a_answersLeft a_firstAnswer a_answering a_next (v18 &&& (-v18)) q20 q21 hq21) (cwV 2 hts gX7_region_X7_spread rfl rfl rfl (by decide +kernel) ⟨Nat.le_trans (m := rm_X7_region.frames) (by decide) hRf, Nat.le_trans (m := rm_X7_region.locals) (by decide) hRl⟩) hN hP hK ⟨Nat.zero_le _, Nat.zero_le _⟩ [0, 1, 2, 3, 4, 5, 6, 7, 8, 9, 10, 11, 12, 13, 14, 15, 16, 17, 18, 19] rfl [0, 1, 2, 3, 4, 5, 6, 7, 8, 9, 10, 11, 12, 13, 14, 15, 16, 17, 18] rfl 0 7 rfl rfl rfl hl.1 rfl (Nat.le_of_ble_eq_true rfl) dX7_region_155 ?_
                    refine lv_lstore (lv' := [(9, .long q21), (0, .ref (ad 0)), (1, .int a0), (3, .int a2), (4, .long q11), (6, .int v17), (7, .long v18)]) hx hb dX7_region_158 hl (by decide) rfl (fun ls hl => ?_)
                    refine lv_lload hx hb dX7_region_160 (lv_at hl 6 rfl) ?_
                    refine lv_lload hx hb dX7_region_162 (lv_at hl 0 rfl) ?_
                    refine W.ldc2 (v := (-1 : Int64)) hx hb hown hk105 rfl dX7_region_164 ?_
                    refine W.eq (g2 := F0 m 167 ls [.long (-1 : Int64), .long q21, .long v18]) rfl ?_
                    refine lv_lxor hx hb dX7_region_167 ?_
                    refine lv_land hx hb dX7_region_168 ?_
                    refine lv_topl (fun x22 ex22 => ?_)
                    have hr := nm_use hr ex22
                    refine lv_lstore (lv' := [(7, .long x22), (9, .long q21), (0, .ref (ad 0)), (1, .int a0), (3, .int a2), (4, .long q11), (6, .int v17)]) hx hb dX7_region_169 hl (by decide) rfl (fun ls hl => ?_)
                    refine lv_iload hx hb dX7_region_171 (lv_at hl 6 rfl) ?_
                    refine lv_iload_n hx hb dX7_region_173 rfl (lv_at hl 4 rfl) ?_
                    refine lv_iconst (v := (2 : Int32)) hx hb dX7_region_174 (by decide) ?_
                    refine lv_icmp_eq (tgt := 189) hx hb dX7_region_175 (by decide) (fun c23 => ?_) (fun c23 => ?_)
                    · have hr := ite_p hr c23
                      refine lv_iconst (v := (1 : Int32)) hx hb dX7_region_189 (by decide) ?_
                      refine lv_goto (tgt := 194) hx hb dX7_region_190 (by decide) ?_
                      refine lv_iadd hx hb dX7_region_194 ?_
                      refine lv_topi (fun x24 ex24 => ?_)
                      have hr := nm_use hr ex24
                      refine lv_istore (lv' := [(6, .int x24), (7, .long x22), (9, .long q21), (0, .ref (ad 0)), (1, .int a0), (3, .int a2), (4, .long q11)]) hx hb dX7_region_195 hl (by decide) rfl (fun ls hl => ?_)
                      refine lv_goto (tgt := 136) hx hb dX7_region_197 (by decide) ?_
                      exact ih x24 x22 hr ls (lv_sub hl [3, 4, 5, 6, 0, 1] rfl)
                    · have hr := ite_n hr c23
                      refine lv_aload_n hx hb dX7_region_178 rfl (lv_at hl 2 rfl) ?_
                      refine lv_lload hx hb dX7_region_179 (lv_at hl 5 rfl) ?_
                      refine lv_lload hx hb dX7_region_181 (lv_at hl 1 rfl) ?_
                      obtain ⟨q25, hq25, hr⟩ := bd_use hr
                      refine pcV_i (As := [.long q11, .long q21]) (rest := [.int v17]) S (c_X7_isVital l dC dI ad cA mo_wide mo_high mo_law mo_acts mo_newBlack mo_newWhite mo_taken mo_triesMany mo_isSpent mo_found a_neighbours a_act a_blackAt a_whiteAt a_moveAt a_takenBlack a_takenWhite a_chaseBlack a_chaseWhite a_aheadBlack a_aheadWhite a_hasAhead a_breathsLeft a_laidBlack a_laidWhite a_answersLeft a_firstAnswer a_answering a_next q11 q21 q25 hq25) (cwV 2 hts gX7_region_X7_isVital rfl rfl rfl (by decide +kernel) ⟨Nat.le_trans (m := rm_X7_region.frames) (by decide) hRf, Nat.le_trans (m := rm_X7_region.locals) (by decide) hRl⟩) hN hP hK ⟨Nat.zero_le _, Nat.zero_le _⟩ [0, 1, 2, 3, 4, 5, 6, 7, 8, 9, 10, 11, 12, 13, 14, 15, 16, 17, 18, 19] rfl [0, 1, 2, 3, 4, 5, 6, 7, 8, 9, 10, 11, 12, 13, 14, 15, 16, 17, 18] rfl 0 7 rfl rfl rfl hl.1 rfl (Nat.le_of_ble_eq_true rfl) dX7_region_183 ?_
                      refine lv_if_eq (tgt := 193) hx hb dX7_region_186 (by decide) (fun c26 => ?_) (fun c26 => ?_)
                      · have hr := ite_p hr c26
                        refine lv_iconst (v := (0 : Int32)) hx hb dX7_region_193 (by decide) ?_
                        refine lv_iadd hx hb dX7_region_194 ?_
                        refine lv_topi (fun x27 ex27 => ?_)
                        have hr := nm_use hr ex27
                        refine lv_istore (lv' := [(6, .int x27), (7, .long x22), (9, .long q21), (0, .ref (ad 0)), (1, .int a0), (3, .int a2), (4, .long q11)]) hx hb dX7_region_195 hl (by decide) rfl (fun ls hl => ?_)
                        refine lv_goto (tgt := 136) hx hb dX7_region_197 (by decide) ?_
                        exact ih x27 x22 hr ls (lv_sub hl [3, 4, 5, 6, 0, 1] rfl)
                      · have hr := ite_n hr c26
                        refine lv_iconst (v := (1 : Int32)) hx hb dX7_region_189 (by decide) ?_
                        refine lv_goto (tgt := 194) hx hb dX7_region_190 (by decide) ?_
                        refine lv_iadd hx hb dX7_region_194 ?_
                        refine lv_topi (fun x28 ex28 => ?_)
                        have hr := nm_use hr ex28
                        refine lv_istore (lv' := [(6, .int x28), (7, .long x22), (9, .long q21), (0, .ref (ad 0)), (1, .int a0), (3, .int a2), (4, .long q11)]) hx hb dX7_region_195 hl (by decide) rfl (fun ls hl => ?_)
                        refine lv_goto (tgt := 136) hx hb dX7_region_197 (by decide) ?_
                        exact ih x28 x22 hr ls (lv_sub hl [3, 4, 5, 6, 0, 1] rfl)
              exact llp_X7_region_136 FU (0 : Int32) x16 hr ls (lv_sub hl [3, 4, 6, 2, 1, 0] rfl)
            · have hr := ite_p hr c13
              refine lv_lload hx hb dX7_region_112 (lv_at hl 0 rfl) ?_
              refine lv_iconst (v := (0 : Int32)) hx hb dX7_region_114 (by decide) ?_
              obtain ⟨q29, hq29, hr⟩ := bd_use hr
              refine pcS_i (As := [.long q11, .int (0 : Int32)]) (rest := []) S (c_X7_least l dC dI q11 (0 : Int32) q29 hq29) (va_cwS 2 hts gX7_region_X7_least rfl rfl rfl (by decide +kernel) ⟨Nat.le_trans (m := rm_X7_region.frames) (by decide) hRf, Nat.le_trans (m := rm_X7_region.locals) (by decide) hRl⟩) hN hP hK ⟨Nat.zero_le _, Nat.zero_le _⟩ rfl hl.1 rfl (Nat.le_of_ble_eq_true rfl) dX7_region_115 ?_
              obtain rfl := Option.some.inj hr
              exact kret _ _ dX7_region_118
          · have hr := ite_n hr c12
            refine lv_iload_n hx hb dX7_region_69 rfl (lv_at hl 4 rfl) ?_
            obtain ⟨K31, eK31, hr⟩ := nm_ex hr
            have kK31 : ∀ (u30 : Int64) , K31 u30 = some q → ∀ (ls : Array Slot), lv_has ls 11 [] → W p l e R s m args below meth c H [] 0 0 Q (F0 m 103 ls [.long u30]) := by
              intro u30 hr ls hl
              rw [eK31] at hr
              obtain ⟨q32, hq32, hr⟩ := bd_use hr
              refine pcS_i (As := [.long u30]) (rest := []) S (c_X7_many l dC dI u30 q32 hq32) (va_cwS 1 hts gX7_region_X7_many rfl rfl rfl (by decide +kernel) ⟨Nat.le_trans (m := rm_X7_region.frames) (by decide) hRf, Nat.le_trans (m := rm_X7_region.locals) (by decide) hRl⟩) hN hP hK ⟨Nat.zero_le _, Nat.zero_le _⟩ rfl hl.1 rfl (Nat.le_of_ble_eq_true rfl) dX7_region_103 ?_
              obtain rfl := Option.some.inj hr
              exact kret _ _ dX7_region_106
            refine lv_if_ne (tgt := 78) hx hb dX7_region_70 (by decide) (fun c33 => ?_) (fun c33 => ?_)
            · have hr := ite_n hr c33
              refine lv_lload hx hb dX7_region_78 (lv_at hl 0 rfl) ?_
              refine lv_aload_n hx hb dX7_region_80 rfl (lv_at hl 1 rfl) ?_
              refine lv_aload_n hx hb dX7_region_81 rfl (lv_at hl 1 rfl) ?_
              refine va_get (D := (dC, dI)) (ci := 7) (v := .ref (ad 3)) (C := RX7) (T := TX7) (N := 29) hx hb hts huX7 hown hK hP 0 rfl rfl 6 (by decide) hf24 (fun _ h9 => h9) rfl dX7_region_82 ?_
              refine lv_aload_n hx hb dX7_region_85 rfl (lv_at hl 1 rfl) ?_
              refine va_get (D := (dC, dI)) (ci := 7) (v := .int mo_acts) (C := RX7) (T := TX7) (N := 29) hx hb hts huX7 hown hK hP 0 rfl rfl 4 (by decide) hf86 (fun _ h9 => h9) rfl dX7_region_86 ?_
              obtain ⟨hi34, hr⟩ := ite_g hr
              refine va_lald hx hb hK hP 3 2 rfl rfl hi34 dX7_region_89 ?_
              refine lv_aload_n hx hb dX7_region_90 rfl (lv_at hl 1 rfl) ?_
              refine va_get (D := (dC, dI)) (ci := 7) (v := .ref (ad 4)) (C := RX7) (T := TX7) (N := 29) hx hb hts huX7 hown hK hP 0 rfl rfl 7 (by decide) hf27 (fun _ h9 => h9) rfl dX7_region_91 ?_
              refine lv_aload_n hx hb dX7_region_94 rfl (lv_at hl 1 rfl) ?_
              refine va_get (D := (dC, dI)) (ci := 7) (v := .int mo_acts) (C := RX7) (T := TX7) (N := 29) hx hb hts huX7 hown hK hP 0 rfl rfl 4 (by decide) hf86 (fun _ h9 => h9) rfl dX7_region_95 ?_
              obtain ⟨hi35, hr⟩ := ite_g hr
              refine va_lald hx hb hK hP 4 3 rfl rfl hi35 dX7_region_98 ?_
              obtain ⟨q36, hq36, hr⟩ := bd_use hr
              refine pcV_l (As := [.long (a_blackAt mo_acts.toNatClampNeg), .long (a_whiteAt mo_acts.toNatClampNeg)]) (rest := [.long q11]) S (c_X7_free l dC dI ad cA mo_wide mo_high mo_law mo_acts mo_newBlack mo_newWhite mo_taken mo_triesMany mo_isSpent mo_found a_neighbours a_act a_blackAt a_whiteAt a_moveAt a_takenBlack a_takenWhite a_chaseBlack a_chaseWhite a_aheadBlack a_aheadWhite a_hasAhead a_breathsLeft a_laidBlack a_laidWhite a_answersLeft a_firstAnswer a_answering a_next (a_blackAt mo_acts.toNatClampNeg) (a_whiteAt mo_acts.toNatClampNeg) q36 hq36) (cwV 2 hts gX7_region_X7_free rfl rfl rfl (by decide +kernel) ⟨Nat.le_trans (m := rm_X7_region.frames) (by decide) hRf, Nat.le_trans (m := rm_X7_region.locals) (by decide) hRl⟩) hN hP hK ⟨Nat.zero_le _, Nat.zero_le _⟩ [0, 1, 2, 3, 4, 5, 6, 7, 8, 9, 10, 11, 12, 13, 14, 15, 16, 17, 18, 19] rfl [0, 1, 2, 3, 4, 5, 6, 7, 8, 9, 10, 11, 12, 13, 14, 15, 16, 17, 18] rfl 0 7 rfl rfl rfl hl.1 rfl (Nat.le_of_ble_eq_true rfl) dX7_region_99 ?_
              refine lv_land hx hb dX7_region_102 ?_
              exact kK31 (q11 &&& q36) hr ls (lv_sub hl [] rfl)
            · have hr := ite_p hr c33
              refine lv_lload hx hb dX7_region_73 (lv_at hl 0 rfl) ?_
              refine lv_goto (tgt := 103) hx hb dX7_region_75 (by decide) ?_
              exact kK31 q11 hr ls (lv_sub hl [] rfl)
        · have hr := ite_p hr c8
          refine lv_bipush (v := (-3 : Int32)) hx hb dX7_region_38 (by decide) ?_
          obtain rfl := Option.some.inj hr
          exact kret _ _ dX7_region_40
      · have hr := ite_p hr c6
        refine lv_bipush (v := (-2 : Int32)) hx hb dX7_region_26 (by decide) ?_
        obtain rfl := Option.some.inj hr
        exact kret _ _ dX7_region_28

