def f_X7_in  (a0 : Int32) (a1 : Int32) (a2 : Int32) : Option (Int32) :=
  if a0 < a1 then (
    some ((0 : Int32))
  )
  else (
    if a2 < a0 then (
      some ((0 : Int32))
    )
    else (
      some ((1 : Int32))
    )
  )

abbrev rm_X7_in : Room := { frames := 0, cells := 0, slots := 0, locals := 0 }
set_option maxHeartbeats 4000000 in
set_option maxRecDepth 100000 in
theorem c_X7_in (l : Launch) (dC : Nat → ClassId) (dI : Nat → Nat → Nat)  (a0 : Int32) (a1 : Int32) (a2 : Int32) (q : Int32) (hr : f_X7_in  a0 a1 a2 = some q) : Met l yX7_in wsX7_in rm_X7_in (PrP (dC, dI) [] [] [.int a0, .int a1, .int a2]) (vp_Si (fun x => x = q)) 0 0 (fun _ => False) := by
  refine mkP_z (cc := cX7_in) (nL := 3) (by decide) rfl (Nat.le_of_ble_eq_true rfl) ?_
  intro p e R s m args below meth c H Q ls hRf hRl S hN hP hK hl kret
  have hl : lv_has ls 3 [(0, .int a0), (1, .int a1), (2, .int a2)] := hl
  obtain ⟨hx, hb, hml, hown, hts⟩ := S
  have hown : s.vm.findClass RX7 = some m.cls := hown
  have S : CallFix p m c cX7_in 3 s args wsX7_in RX7 := ⟨hx, hb, hml, hown, hts⟩
  unfold f_X7_in at hr
  refine lv_iload_n hx hb dX7_in_0 rfl (lv_at hl 0 rfl) ?_
  refine lv_iload_n hx hb dX7_in_1 rfl (lv_at hl 1 rfl) ?_
  refine lv_icmp_lt (tgt := 14) hx hb dX7_in_2 (by decide) (fun c1 => ?_) (fun c1 => ?_)
  · have hr := ite_p hr c1
    refine lv_iconst (v := (0 : Int32)) hx hb dX7_in_14 (by decide) ?_
    obtain rfl := Option.some.inj hr
    exact kret _ _ dX7_in_15 nar_0
  · have hr := ite_n hr c1
    refine lv_iload_n hx hb dX7_in_5 rfl (lv_at hl 0 rfl) ?_
    refine lv_iload_n hx hb dX7_in_6 rfl (lv_at hl 2 rfl) ?_
    refine lv_icmp_gt (tgt := 14) hx hb dX7_in_7 (by decide) (fun c2 => ?_) (fun c2 => ?_)
    · have hr := ite_p hr c2
      refine lv_iconst (v := (0 : Int32)) hx hb dX7_in_14 (by decide) ?_
      obtain rfl := Option.some.inj hr
      exact kret _ _ dX7_in_15 nar_0
    · have hr := ite_n hr c2
      refine lv_iconst (v := (1 : Int32)) hx hb dX7_in_10 (by decide) ?_
      refine lv_goto (tgt := 15) hx hb dX7_in_11 (by decide) ?_
      obtain rfl := Option.some.inj hr
      exact kret _ _ dX7_in_15 nar_1

def lp_X7_lays_58 (a_blackAt : Nat → Int64) (a_whiteAt : Nat → Int64) (a_moveAt : Nat → Int32) (a_takenBlack : Nat → Int32) (a_takenWhite : Nat → Int32) (a0 : Int32) (a1 : Int32) (a2 : Int32) : Nat → Int32 → (Nat → Int64) → Option (Int32 × Int32 × Int32 × Int32 × (Nat → Int64) × (Nat → Int64) × (Nat → Int64) × (Nat → Int32) × (Nat → Int32) × (Nat → Int32))
  | 0, _, _ => none
  | nF + 1, v6, w7 =>
    if a0 * a1 ≤ v6 then (
      some (a0, a1, a2, (0 : Int32), w7, vp_updL a_blackAt (0 : Int32).toNatClampNeg (0 : Int64), vp_updL a_whiteAt (0 : Int32).toNatClampNeg (0 : Int64), upd a_moveAt (0 : Int32).toNatClampNeg (1 : Int32), upd a_takenBlack (0 : Int32).toNatClampNeg (0 : Int32), upd a_takenWhite (0 : Int32).toNatClampNeg (0 : Int32))
    )
    else (
      if a0 = 0 then none else
      nm (fun (u10 : Int64) =>
      nm ((0 : Int64) ||| u10) fun x12 =>
      if a0 = 0 then none else
      nm (fun (u14 : Int64) =>
      nm (x12 ||| u14) fun x16 =>
      nm (fun (u17 : Int64) =>
      nm (x16 ||| u17) fun x19 =>
      nm (fun (u20 : Int64) =>
      nm (x19 ||| u20) fun x22 =>
      if (v6 < 0 ∨ 49 ≤ v6.toNatClampNeg) then none else
      nm (v6 + 1) fun x24 =>
      lp_X7_lays_58 a_blackAt a_whiteAt a_moveAt a_takenBlack a_takenWhite a0 a1 a2 nF x24 (vp_updL w7 v6.toNatClampNeg x22)
      ) fun K21 =>
      if a0 * (a1 - (1 : Int32)) ≤ v6 then (
        K21 (0 : Int64)
      )
      else (
        K21 (jshl (1 : Int64) (v6 + a0))
      )
      ) fun K18 =>
      if v6 < a0 then (
        K18 (0 : Int64)
      )
      else (
        K18 (jshl (1 : Int64) (v6 - a0))
      )
      ) fun K15 =>
      if a0 - (1 : Int32) ≤ jrem v6 a0 then (
        K15 (0 : Int64)
      )
      else (
        K15 (jshl (1 : Int64) (v6 + (1 : Int32)))
      )
      ) fun K11 =>
      if jrem v6 a0 ≤ 0 then (
        K11 (0 : Int64)
      )
      else (
        K11 (jshl (1 : Int64) (v6 - (1 : Int32)))
      )
    )

def f_X7_lays (mo_wide : Int32) (mo_high : Int32) (mo_law : Int32) (mo_acts : Int32) (a_neighbours : Nat → Int64) (a_blackAt : Nat → Int64) (a_whiteAt : Nat → Int64) (a_moveAt : Nat → Int32) (a_takenBlack : Nat → Int32) (a_takenWhite : Nat → Int32) (a0 : Int32) (a1 : Int32) (a2 : Int32) : Option (Int32 × Int32 × Int32 × Int32 × (Nat → Int64) × (Nat → Int64) × (Nat → Int64) × (Nat → Int32) × (Nat → Int32) × (Nat → Int32)) :=
  if ((0 : Int32) < 0 ∨ 130 ≤ (0 : Int32).toNatClampNeg) then none else
  if ((0 : Int32) < 0 ∨ 130 ≤ (0 : Int32).toNatClampNeg) then none else
  if ((0 : Int32) < 0 ∨ 130 ≤ (0 : Int32).toNatClampNeg) then none else
  if ((0 : Int32) < 0 ∨ 121 ≤ (0 : Int32).toNatClampNeg) then none else
  if ((0 : Int32) < 0 ∨ 121 ≤ (0 : Int32).toNatClampNeg) then none else
  lp_X7_lays_58 a_blackAt a_whiteAt a_moveAt a_takenBlack a_takenWhite a0 a1 a2 FU (0 : Int32) a_neighbours

abbrev rm_X7_lays : Room := { frames := 0, cells := 0, slots := 0, locals := 0 }
set_option maxHeartbeats 4000000 in
set_option maxRecDepth 100000 in
theorem c_X7_lays (l : Launch) (dC : Nat → ClassId) (dI : Nat → Nat → Nat) (ad : Nat → Nat) (cA : Nat → ClassId) (mo_wide mo_high mo_law mo_acts : Int32) (mo_newBlack mo_newWhite : Int64) (mo_taken mo_triesMany mo_isSpent mo_found : Int32) (a_neighbours : Nat → Int64) (a_act : Nat → Int32) (a_blackAt a_whiteAt : Nat → Int64) (a_moveAt a_takenBlack a_takenWhite : Nat → Int32) (a_chaseBlack a_chaseWhite a_aheadBlack a_aheadWhite : Nat → Int64) (a_hasAhead : Nat → Int32) (a_breathsLeft a_laidBlack a_laidWhite a_answersLeft : Nat → Int64) (a_firstAnswer a_answering a_next : Nat → Int32) (sz : Nat) (a0 : Int32) (a1 : Int32) (a2 : Int32) (q : Int32 × Int32 × Int32 × Int32 × (Nat → Int64) × (Nat → Int64) × (Nat → Int64) × (Nat → Int32) × (Nat → Int32) × (Nat → Int32)) (hr : f_X7_lays mo_wide mo_high mo_law mo_acts a_neighbours a_blackAt a_whiteAt a_moveAt a_takenBlack a_takenWhite a0 a1 a2 = some q) : Met l yX7_lays wsX7_lays rm_X7_lays (PrI (dC, dI) (wd_X7 ad cA mo_wide mo_high mo_law mo_acts mo_newBlack mo_newWhite mo_taken mo_triesMany mo_isSpent mo_found a_neighbours a_act a_blackAt a_whiteAt a_moveAt a_takenBlack a_takenWhite a_chaseBlack a_chaseWhite a_aheadBlack a_aheadWhite a_hasAhead a_breathsLeft a_laidBlack a_laidWhite a_answersLeft a_firstAnswer a_answering a_next) (td_X7 cA) sz [.ref (ad 0), .int a0, .int a1, .int a2]) (QIv (dC, dI) (wd_X7 ad cA mo_wide mo_high mo_law mo_acts mo_newBlack mo_newWhite mo_taken mo_triesMany mo_isSpent mo_found a_neighbours a_act a_blackAt a_whiteAt a_moveAt a_takenBlack a_takenWhite a_chaseBlack a_chaseWhite a_aheadBlack a_aheadWhite a_hasAhead a_breathsLeft a_laidBlack a_laidWhite a_answersLeft a_firstAnswer a_answering a_next) (td_X7 cA) sz (wd_X7 ad cA q.1 q.2.1 q.2.2.1 q.2.2.2.1 mo_newBlack mo_newWhite mo_taken mo_triesMany mo_isSpent mo_found q.2.2.2.2.1 a_act q.2.2.2.2.2.1 q.2.2.2.2.2.2.1 q.2.2.2.2.2.2.2.1 q.2.2.2.2.2.2.2.2.1 q.2.2.2.2.2.2.2.2.2 a_chaseBlack a_chaseWhite a_aheadBlack a_aheadWhite a_hasAhead a_breathsLeft a_laidBlack a_laidWhite a_answersLeft a_firstAnswer a_answering a_next)) 0 0 (va_A (wd_X7 ad cA mo_wide mo_high mo_law mo_acts mo_newBlack mo_newWhite mo_taken mo_triesMany mo_isSpent mo_found a_neighbours a_act a_blackAt a_whiteAt a_moveAt a_takenBlack a_takenWhite a_chaseBlack a_chaseWhite a_aheadBlack a_aheadWhite a_hasAhead a_breathsLeft a_laidBlack a_laidWhite a_answersLeft a_firstAnswer a_answering a_next) sz) := by
  refine mkI_v (cc := cX7_lays) (nL := 7) (by decide) rfl (Nat.le_of_ble_eq_true rfl) ?_
  intro p e R s m args below meth c H0 H locs A Q ls hRf hRl S hN hP hK hD hA hS hl kret
  have hl : lv_has ls 7 [(0, .ref (ad 0)), (1, .int a0), (2, .int a1), (3, .int a2)] := hl
  obtain ⟨hx, hb, hml, hown, hts⟩ := S
  have hown : s.vm.findClass RX7 = some m.cls := hown
  have S : CallFix p m c cX7_lays 7 s args wsX7_lays RX7 := ⟨hx, hb, hml, hown, hts⟩
  have huX7 : ∀ w ∈ u_ws RX7 TX7 29, w ∈ wsX7_lays := by decide +kernel
  have hf7 := hts (.fieldLink RX7 7 "EyeBoardModel" "wide" "I") (by decide +kernel)
  have hf13 := hts (.fieldLink RX7 13 "EyeBoardModel" "high" "I") (by decide +kernel)
  have hf83 := hts (.fieldLink RX7 83 "EyeBoardModel" "law" "I") (by decide +kernel)
  have hf86 := hts (.fieldLink RX7 86 "EyeBoardModel" "acts" "I") (by decide +kernel)
  have hf24 := hts (.fieldLink RX7 24 "EyeBoardModel" "blackAt" "[J") (by decide +kernel)
  have hf27 := hts (.fieldLink RX7 27 "EyeBoardModel" "whiteAt" "[J") (by decide +kernel)
  have hf30 := hts (.fieldLink RX7 30 "EyeBoardModel" "moveAt" "[I") (by decide +kernel)
  have hf33 := hts (.fieldLink RX7 33 "EyeBoardModel" "takenBlack" "[I") (by decide +kernel)
  have hf36 := hts (.fieldLink RX7 36 "EyeBoardModel" "takenWhite" "[I") (by decide +kernel)
  have hf16 := hts (.fieldLink RX7 16 "EyeBoardModel" "neighbours" "[J") (by decide +kernel)
  unfold f_X7_lays at hr
  refine lv_aload_n hx hb dX7_lays_0 rfl (lv_at hl 0 rfl) ?_
  refine lv_iload_n hx hb dX7_lays_1 rfl (lv_at hl 1 rfl) ?_
  refine va_put (D := (dC, dI)) (ci := 7) (v := .int a0) (ty := .int) (C := RX7) (T := TX7) (N := 29) hx hb hts huX7 tyX7 tyX7_ok nmX7 hown hK hP hD hS 0 rfl rfl 0 (by decide) hf7 (fun _ h9 => h9) rfl (by decide +kernel) rfl rfl (Nat.le_of_ble_eq_true rfl) dX7_lays_2 (fun H locs hP hD hS => ?_)
  have hP : va_P (dC, dI) vwCl (wd_X7 ad cA a0 mo_high mo_law mo_acts mo_newBlack mo_newWhite mo_taken mo_triesMany mo_isSpent mo_found a_neighbours a_act a_blackAt a_whiteAt a_moveAt a_takenBlack a_takenWhite a_chaseBlack a_chaseWhite a_aheadBlack a_aheadWhite a_hasAhead a_breathsLeft a_laidBlack a_laidWhite a_answersLeft a_firstAnswer a_answering a_next) H := hP
  have hD : va_D A (wd_X7 ad cA a0 mo_high mo_law mo_acts mo_newBlack mo_newWhite mo_taken mo_triesMany mo_isSpent mo_found a_neighbours a_act a_blackAt a_whiteAt a_moveAt a_takenBlack a_takenWhite a_chaseBlack a_chaseWhite a_aheadBlack a_aheadWhite a_hasAhead a_breathsLeft a_laidBlack a_laidWhite a_answersLeft a_firstAnswer a_answering a_next) := hD
  refine lv_aload_n hx hb dX7_lays_5 rfl (lv_at hl 0 rfl) ?_
  refine lv_iload_n hx hb dX7_lays_6 rfl (lv_at hl 2 rfl) ?_
  refine va_put (D := (dC, dI)) (ci := 7) (v := .int a1) (ty := .int) (C := RX7) (T := TX7) (N := 29) hx hb hts huX7 tyX7 tyX7_ok nmX7 hown hK hP hD hS 0 rfl rfl 1 (by decide) hf13 (fun _ h9 => h9) rfl (by decide +kernel) rfl rfl (Nat.le_of_ble_eq_true rfl) dX7_lays_7 (fun H locs hP hD hS => ?_)
  have hP : va_P (dC, dI) vwCl (wd_X7 ad cA a0 a1 mo_law mo_acts mo_newBlack mo_newWhite mo_taken mo_triesMany mo_isSpent mo_found a_neighbours a_act a_blackAt a_whiteAt a_moveAt a_takenBlack a_takenWhite a_chaseBlack a_chaseWhite a_aheadBlack a_aheadWhite a_hasAhead a_breathsLeft a_laidBlack a_laidWhite a_answersLeft a_firstAnswer a_answering a_next) H := hP
  have hD : va_D A (wd_X7 ad cA a0 a1 mo_law mo_acts mo_newBlack mo_newWhite mo_taken mo_triesMany mo_isSpent mo_found a_neighbours a_act a_blackAt a_whiteAt a_moveAt a_takenBlack a_takenWhite a_chaseBlack a_chaseWhite a_aheadBlack a_aheadWhite a_hasAhead a_breathsLeft a_laidBlack a_laidWhite a_answersLeft a_firstAnswer a_answering a_next) := hD
  refine lv_aload_n hx hb dX7_lays_10 rfl (lv_at hl 0 rfl) ?_
  refine lv_iload_n hx hb dX7_lays_11 rfl (lv_at hl 3 rfl) ?_
  refine va_put (D := (dC, dI)) (ci := 7) (v := .int a2) (ty := .int) (C := RX7) (T := TX7) (N := 29) hx hb hts huX7 tyX7 tyX7_ok nmX7 hown hK hP hD hS 0 rfl rfl 2 (by decide) hf83 (fun _ h9 => h9) rfl (by decide +kernel) rfl rfl (Nat.le_of_ble_eq_true rfl) dX7_lays_12 (fun H locs hP hD hS => ?_)
  have hP : va_P (dC, dI) vwCl (wd_X7 ad cA a0 a1 a2 mo_acts mo_newBlack mo_newWhite mo_taken mo_triesMany mo_isSpent mo_found a_neighbours a_act a_blackAt a_whiteAt a_moveAt a_takenBlack a_takenWhite a_chaseBlack a_chaseWhite a_aheadBlack a_aheadWhite a_hasAhead a_breathsLeft a_laidBlack a_laidWhite a_answersLeft a_firstAnswer a_answering a_next) H := hP
  have hD : va_D A (wd_X7 ad cA a0 a1 a2 mo_acts mo_newBlack mo_newWhite mo_taken mo_triesMany mo_isSpent mo_found a_neighbours a_act a_blackAt a_whiteAt a_moveAt a_takenBlack a_takenWhite a_chaseBlack a_chaseWhite a_aheadBlack a_aheadWhite a_hasAhead a_breathsLeft a_laidBlack a_laidWhite a_answersLeft a_firstAnswer a_answering a_next) := hD
  refine lv_aload_n hx hb dX7_lays_15 rfl (lv_at hl 0 rfl) ?_
  refine lv_iconst (v := (0 : Int32)) hx hb dX7_lays_16 (by decide) ?_
  refine va_put (D := (dC, dI)) (ci := 7) (v := .int (0 : Int32)) (ty := .int) (C := RX7) (T := TX7) (N := 29) hx hb hts huX7 tyX7 tyX7_ok nmX7 hown hK hP hD hS 0 rfl rfl 4 (by decide) hf86 (fun _ h9 => h9) rfl (by decide +kernel) rfl rfl (Nat.le_of_ble_eq_true rfl) dX7_lays_17 (fun H locs hP hD hS => ?_)
  have hP : va_P (dC, dI) vwCl (wd_X7 ad cA a0 a1 a2 (0 : Int32) mo_newBlack mo_newWhite mo_taken mo_triesMany mo_isSpent mo_found a_neighbours a_act a_blackAt a_whiteAt a_moveAt a_takenBlack a_takenWhite a_chaseBlack a_chaseWhite a_aheadBlack a_aheadWhite a_hasAhead a_breathsLeft a_laidBlack a_laidWhite a_answersLeft a_firstAnswer a_answering a_next) H := hP
  have hD : va_D A (wd_X7 ad cA a0 a1 a2 (0 : Int32) mo_newBlack mo_newWhite mo_taken mo_triesMany mo_isSpent mo_found a_neighbours a_act a_blackAt a_whiteAt a_moveAt a_takenBlack a_takenWhite a_chaseBlack a_chaseWhite a_aheadBlack a_aheadWhite a_hasAhead a_breathsLeft a_laidBlack a_laidWhite a_answersLeft a_firstAnswer a_answering a_next) := hD
  refine lv_aload_n hx hb dX7_lays_20 rfl (lv_at hl 0 rfl) ?_
  refine va_get (D := (dC, dI)) (ci := 7) (v := .ref (ad 3)) (C := RX7) (T := TX7) (N := 29) hx hb hts huX7 hown hK hP 0 rfl rfl 6 (by decide) hf24 (fun _ h9 => h9) rfl dX7_lays_21 ?_
  refine lv_iconst (v := (0 : Int32)) hx hb dX7_lays_24 (by decide) ?_
  refine lv_lconst (v := (0 : Int64)) hx hb dX7_lays_25 (by decide) ?_
  obtain ⟨hi1, hr⟩ := ite_g hr
  refine va_last hx hb hK hP hD hS 3 2 rfl rfl hi1 dX7_lays_26 (fun H locs hP hD hS => ?_)
  have hP : va_P (dC, dI) vwCl (wd_X7 ad cA a0 a1 a2 (0 : Int32) mo_newBlack mo_newWhite mo_taken mo_triesMany mo_isSpent mo_found a_neighbours a_act (vp_updL a_blackAt (0 : Int32).toNatClampNeg (0 : Int64)) a_whiteAt a_moveAt a_takenBlack a_takenWhite a_chaseBlack a_chaseWhite a_aheadBlack a_aheadWhite a_hasAhead a_breathsLeft a_laidBlack a_laidWhite a_answersLeft a_firstAnswer a_answering a_next) H := hP
  have hD : va_D A (wd_X7 ad cA a0 a1 a2 (0 : Int32) mo_newBlack mo_newWhite mo_taken mo_triesMany mo_isSpent mo_found a_neighbours a_act (vp_updL a_blackAt (0 : Int32).toNatClampNeg (0 : Int64)) a_whiteAt a_moveAt a_takenBlack a_takenWhite a_chaseBlack a_chaseWhite a_aheadBlack a_aheadWhite a_hasAhead a_breathsLeft a_laidBlack a_laidWhite a_answersLeft a_firstAnswer a_answering a_next) := hD
  refine lv_aload_n hx hb dX7_lays_27 rfl (lv_at hl 0 rfl) ?_
  refine va_get (D := (dC, dI)) (ci := 7) (v := .ref (ad 4)) (C := RX7) (T := TX7) (N := 29) hx hb hts huX7 hown hK hP 0 rfl rfl 7 (by decide) hf27 (fun _ h9 => h9) rfl dX7_lays_28 ?_
  refine lv_iconst (v := (0 : Int32)) hx hb dX7_lays_31 (by decide) ?_
  refine lv_lconst (v := (0 : Int64)) hx hb dX7_lays_32 (by decide) ?_
  obtain ⟨hi2, hr⟩ := ite_g hr
  refine va_last hx hb hK hP hD hS 4 3 rfl rfl hi2 dX7_lays_33 (fun H locs hP hD hS => ?_)
  have hP : va_P (dC, dI) vwCl (wd_X7 ad cA a0 a1 a2 (0 : Int32) mo_newBlack mo_newWhite mo_taken mo_triesMany mo_isSpent mo_found a_neighbours a_act (vp_updL a_blackAt (0 : Int32).toNatClampNeg (0 : Int64)) (vp_updL a_whiteAt (0 : Int32).toNatClampNeg (0 : Int64)) a_moveAt a_takenBlack a_takenWhite a_chaseBlack a_chaseWhite a_aheadBlack a_aheadWhite a_hasAhead a_breathsLeft a_laidBlack a_laidWhite a_answersLeft a_firstAnswer a_answering a_next) H := hP
  have hD : va_D A (wd_X7 ad cA a0 a1 a2 (0 : Int32) mo_newBlack mo_newWhite mo_taken mo_triesMany mo_isSpent mo_found a_neighbours a_act (vp_updL a_blackAt (0 : Int32).toNatClampNeg (0 : Int64)) (vp_updL a_whiteAt (0 : Int32).toNatClampNeg (0 : Int64)) a_moveAt a_takenBlack a_takenWhite a_chaseBlack a_chaseWhite a_aheadBlack a_aheadWhite a_hasAhead a_breathsLeft a_laidBlack a_laidWhite a_answersLeft a_firstAnswer a_answering a_next) := hD
  refine lv_aload_n hx hb dX7_lays_34 rfl (lv_at hl 0 rfl) ?_
  refine va_get (D := (dC, dI)) (ci := 7) (v := .ref (ad 5)) (C := RX7) (T := TX7) (N := 29) hx hb hts huX7 hown hK hP 0 rfl rfl 8 (by decide) hf30 (fun _ h9 => h9) rfl dX7_lays_35 ?_
  refine lv_iconst (v := (0 : Int32)) hx hb dX7_lays_38 (by decide) ?_
  refine lv_iconst (v := (1 : Int32)) hx hb dX7_lays_39 (by decide) ?_
  obtain ⟨hi3, hr⟩ := ite_g hr
  refine va_iast hx hb hK hP hD hS 5 4 rfl rfl hi3 dX7_lays_40 (fun H locs hP hD hS => ?_)
  have hP : va_P (dC, dI) vwCl (wd_X7 ad cA a0 a1 a2 (0 : Int32) mo_newBlack mo_newWhite mo_taken mo_triesMany mo_isSpent mo_found a_neighbours a_act (vp_updL a_blackAt (0 : Int32).toNatClampNeg (0 : Int64)) (vp_updL a_whiteAt (0 : Int32).toNatClampNeg (0 : Int64)) (upd a_moveAt (0 : Int32).toNatClampNeg (1 : Int32)) a_takenBlack a_takenWhite a_chaseBlack a_chaseWhite a_aheadBlack a_aheadWhite a_hasAhead a_breathsLeft a_laidBlack a_laidWhite a_answersLeft a_firstAnswer a_answering a_next) H := hP
  have hD : va_D A (wd_X7 ad cA a0 a1 a2 (0 : Int32) mo_newBlack mo_newWhite mo_taken mo_triesMany mo_isSpent mo_found a_neighbours a_act (vp_updL a_blackAt (0 : Int32).toNatClampNeg (0 : Int64)) (vp_updL a_whiteAt (0 : Int32).toNatClampNeg (0 : Int64)) (upd a_moveAt (0 : Int32).toNatClampNeg (1 : Int32)) a_takenBlack a_takenWhite a_chaseBlack a_chaseWhite a_aheadBlack a_aheadWhite a_hasAhead a_breathsLeft a_laidBlack a_laidWhite a_answersLeft a_firstAnswer a_answering a_next) := hD
  refine lv_aload_n hx hb dX7_lays_41 rfl (lv_at hl 0 rfl) ?_
  refine va_get (D := (dC, dI)) (ci := 7) (v := .ref (ad 6)) (C := RX7) (T := TX7) (N := 29) hx hb hts huX7 hown hK hP 0 rfl rfl 9 (by decide) hf33 (fun _ h9 => h9) rfl dX7_lays_42 ?_
  refine lv_iconst (v := (0 : Int32)) hx hb dX7_lays_45 (by decide) ?_
  refine lv_iconst (v := (0 : Int32)) hx hb dX7_lays_46 (by decide) ?_
  obtain ⟨hi4, hr⟩ := ite_g hr
  refine va_iast hx hb hK hP hD hS 6 5 rfl rfl hi4 dX7_lays_47 (fun H locs hP hD hS => ?_)
  have hP : va_P (dC, dI) vwCl (wd_X7 ad cA a0 a1 a2 (0 : Int32) mo_newBlack mo_newWhite mo_taken mo_triesMany mo_isSpent mo_found a_neighbours a_act (vp_updL a_blackAt (0 : Int32).toNatClampNeg (0 : Int64)) (vp_updL a_whiteAt (0 : Int32).toNatClampNeg (0 : Int64)) (upd a_moveAt (0 : Int32).toNatClampNeg (1 : Int32)) (upd a_takenBlack (0 : Int32).toNatClampNeg (0 : Int32)) a_takenWhite a_chaseBlack a_chaseWhite a_aheadBlack a_aheadWhite a_hasAhead a_breathsLeft a_laidBlack a_laidWhite a_answersLeft a_firstAnswer a_answering a_next) H := hP
  have hD : va_D A (wd_X7 ad cA a0 a1 a2 (0 : Int32) mo_newBlack mo_newWhite mo_taken mo_triesMany mo_isSpent mo_found a_neighbours a_act (vp_updL a_blackAt (0 : Int32).toNatClampNeg (0 : Int64)) (vp_updL a_whiteAt (0 : Int32).toNatClampNeg (0 : Int64)) (upd a_moveAt (0 : Int32).toNatClampNeg (1 : Int32)) (upd a_takenBlack (0 : Int32).toNatClampNeg (0 : Int32)) a_takenWhite a_chaseBlack a_chaseWhite a_aheadBlack a_aheadWhite a_hasAhead a_breathsLeft a_laidBlack a_laidWhite a_answersLeft a_firstAnswer a_answering a_next) := hD
  refine lv_aload_n hx hb dX7_lays_48 rfl (lv_at hl 0 rfl) ?_
  refine va_get (D := (dC, dI)) (ci := 7) (v := .ref (ad 7)) (C := RX7) (T := TX7) (N := 29) hx hb hts huX7 hown hK hP 0 rfl rfl 10 (by decide) hf36 (fun _ h9 => h9) rfl dX7_lays_49 ?_
  refine lv_iconst (v := (0 : Int32)) hx hb dX7_lays_52 (by decide) ?_
  refine lv_iconst (v := (0 : Int32)) hx hb dX7_lays_53 (by decide) ?_
  obtain ⟨hi5, hr⟩ := ite_g hr
  refine va_iast hx hb hK hP hD hS 7 6 rfl rfl hi5 dX7_lays_54 (fun H locs hP hD hS => ?_)
  have hP : va_P (dC, dI) vwCl (wd_X7 ad cA a0 a1 a2 (0 : Int32) mo_newBlack mo_newWhite mo_taken mo_triesMany mo_isSpent mo_found a_neighbours a_act (vp_updL a_blackAt (0 : Int32).toNatClampNeg (0 : Int64)) (vp_updL a_whiteAt (0 : Int32).toNatClampNeg (0 : Int64)) (upd a_moveAt (0 : Int32).toNatClampNeg (1 : Int32)) (upd a_takenBlack (0 : Int32).toNatClampNeg (0 : Int32)) (upd a_takenWhite (0 : Int32).toNatClampNeg (0 : Int32)) a_chaseBlack a_chaseWhite a_aheadBlack a_aheadWhite a_hasAhead a_breathsLeft a_laidBlack a_laidWhite a_answersLeft a_firstAnswer a_answering a_next) H := hP
  have hD : va_D A (wd_X7 ad cA a0 a1 a2 (0 : Int32) mo_newBlack mo_newWhite mo_taken mo_triesMany mo_isSpent mo_found a_neighbours a_act (vp_updL a_blackAt (0 : Int32).toNatClampNeg (0 : Int64)) (vp_updL a_whiteAt (0 : Int32).toNatClampNeg (0 : Int64)) (upd a_moveAt (0 : Int32).toNatClampNeg (1 : Int32)) (upd a_takenBlack (0 : Int32).toNatClampNeg (0 : Int32)) (upd a_takenWhite (0 : Int32).toNatClampNeg (0 : Int32)) a_chaseBlack a_chaseWhite a_aheadBlack a_aheadWhite a_hasAhead a_breathsLeft a_laidBlack a_laidWhite a_answersLeft a_firstAnswer a_answering a_next) := hD
  refine lv_iconst (v := (0 : Int32)) hx hb dX7_lays_55 (by decide) ?_
  refine lv_istore (lv' := [(4, .int (0 : Int32)), (0, .ref (ad 0)), (1, .int a0), (2, .int a1), (3, .int a2)]) hx hb dX7_lays_56 hl (by decide) rfl (fun ls hl => ?_)
  have llp_X7_lays_58 : ∀ (nF : Nat) (v6 : Int32) (w7 : Nat → Int64) (H : Heap) (locs : List Loc), lp_X7_lays_58 a_blackAt a_whiteAt a_moveAt a_takenBlack a_takenWhite a0 a1 a2 nF v6 w7 = some q → va_P (dC, dI) vwCl (wd_X7 ad cA a0 a1 a2 (0 : Int32) mo_newBlack mo_newWhite mo_taken mo_triesMany mo_isSpent mo_found w7 a_act (vp_updL a_blackAt (0 : Int32).toNatClampNeg (0 : Int64)) (vp_updL a_whiteAt (0 : Int32).toNatClampNeg (0 : Int64)) (upd a_moveAt (0 : Int32).toNatClampNeg (1 : Int32)) (upd a_takenBlack (0 : Int32).toNatClampNeg (0 : Int32)) (upd a_takenWhite (0 : Int32).toNatClampNeg (0 : Int32)) a_chaseBlack a_chaseWhite a_aheadBlack a_aheadWhite a_hasAhead a_breathsLeft a_laidBlack a_laidWhite a_answersLeft a_firstAnswer a_answering a_next) H → va_D A (wd_X7 ad cA a0 a1 a2 (0 : Int32) mo_newBlack mo_newWhite mo_taken mo_triesMany mo_isSpent mo_found w7 a_act (vp_updL a_blackAt (0 : Int32).toNatClampNeg (0 : Int64)) (vp_updL a_whiteAt (0 : Int32).toNatClampNeg (0 : Int64)) (upd a_moveAt (0 : Int32).toNatClampNeg (1 : Int32)) (upd a_takenBlack (0 : Int32).toNatClampNeg (0 : Int32)) (upd a_takenWhite (0 : Int32).toNatClampNeg (0 : Int32)) a_chaseBlack a_chaseWhite a_aheadBlack a_aheadWhite a_hasAhead a_breathsLeft a_laidBlack a_laidWhite a_answersLeft a_firstAnswer a_answering a_next) → va_S A H0 H locs → ∀ (ls : Array Slot), lv_has ls 7 [(0, .ref (ad 0)), (1, .int a0), (2, .int a1), (4, .int v6)] → W p l e R s m args below meth c H locs 0 0 Q (F0 m 58 ls []) := by
    intro nF
    induction nF with
    | zero => intro v6 w7 H locs hr; exact absurd hr (by simp [lp_X7_lays_58])
    | succ nF ih =>
      intro v6 w7 H locs hr hP hD hS ls hl
      rw [lp_X7_lays_58] at hr
      refine lv_iload hx hb dX7_lays_58 (lv_at hl 3 rfl) ?_
      refine lv_iload_n hx hb dX7_lays_60 rfl (lv_at hl 1 rfl) ?_
      refine lv_iload_n hx hb dX7_lays_61 rfl (lv_at hl 2 rfl) ?_
      refine lv_imul hx hb dX7_lays_62 ?_
      refine lv_icmp_ge (tgt := 177) hx hb dX7_lays_63 (by decide) (fun c8 => ?_) (fun c8 => ?_)
      · have hr := ite_p hr c8
        obtain rfl := Option.some.inj hr
        exact kret _ _ _ _ dX7_lays_177 hP hD hS
      · have hr := ite_n hr c8
        refine lv_lconst (v := (0 : Int64)) hx hb dX7_lays_66 (by decide) ?_
        refine lv_lstore (lv' := [(5, .long (0 : Int64)), (0, .ref (ad 0)), (1, .int a0), (2, .int a1), (4, .int v6)]) hx hb dX7_lays_67 hl (by decide) rfl (fun ls hl => ?_)
        refine lv_lload hx hb dX7_lays_69 (lv_at hl 0 rfl) ?_
        refine lv_iload hx hb dX7_lays_71 (lv_at hl 4 rfl) ?_
        refine lv_iload_n hx hb dX7_lays_73 rfl (lv_at hl 2 rfl) ?_
        obtain ⟨hz9, hr⟩ := ite_g hr
        refine lv_irem hx hb dX7_lays_74 hz9 ?_
        obtain ⟨K11, eK11, hr⟩ := nm_ex hr
        have kK11 : ∀ (u10 : Int64) (H : Heap) (locs : List Loc) , K11 u10 = some q → va_P (dC, dI) vwCl (wd_X7 ad cA a0 a1 a2 (0 : Int32) mo_newBlack mo_newWhite mo_taken mo_triesMany mo_isSpent mo_found w7 a_act (vp_updL a_blackAt (0 : Int32).toNatClampNeg (0 : Int64)) (vp_updL a_whiteAt (0 : Int32).toNatClampNeg (0 : Int64)) (upd a_moveAt (0 : Int32).toNatClampNeg (1 : Int32)) (upd a_takenBlack (0 : Int32).toNatClampNeg (0 : Int32)) (upd a_takenWhite (0 : Int32).toNatClampNeg (0 : Int32)) a_chaseBlack a_chaseWhite a_aheadBlack a_aheadWhite a_hasAhead a_breathsLeft a_laidBlack a_laidWhite a_answersLeft a_firstAnswer a_answering a_next) H → va_D A (wd_X7 ad cA a0 a1 a2 (0 : Int32) mo_newBlack mo_newWhite mo_taken mo_triesMany mo_isSpent mo_found w7 a_act (vp_updL a_blackAt (0 : Int32).toNatClampNeg (0 : Int64)) (vp_updL a_whiteAt (0 : Int32).toNatClampNeg (0 : Int64)) (upd a_moveAt (0 : Int32).toNatClampNeg (1 : Int32)) (upd a_takenBlack (0 : Int32).toNatClampNeg (0 : Int32)) (upd a_takenWhite (0 : Int32).toNatClampNeg (0 : Int32)) a_chaseBlack a_chaseWhite a_aheadBlack a_aheadWhite a_hasAhead a_breathsLeft a_laidBlack a_laidWhite a_answersLeft a_firstAnswer a_answering a_next) → va_S A H0 H locs → ∀ (ls : Array Slot), lv_has ls 7 [(0, .ref (ad 0)), (1, .int a0), (2, .int a1), (4, .int v6)] → W p l e R s m args below meth c H locs 0 0 Q (F0 m 88 ls [.long u10, .long (0 : Int64)]) := by
          intro u10 H locs hr hP hD hS ls hl
          rw [eK11] at hr
          refine lv_lor hx hb dX7_lays_88 ?_
          refine lv_topl (fun x12 ex12 => ?_)
          have hr := nm_use hr ex12
          refine lv_lstore (lv' := [(5, .long x12), (0, .ref (ad 0)), (1, .int a0), (2, .int a1), (4, .int v6)]) hx hb dX7_lays_89 hl (by decide) rfl (fun ls hl => ?_)
          refine lv_lload hx hb dX7_lays_91 (lv_at hl 0 rfl) ?_
          refine lv_iload hx hb dX7_lays_93 (lv_at hl 4 rfl) ?_
          refine lv_iload_n hx hb dX7_lays_95 rfl (lv_at hl 2 rfl) ?_
          obtain ⟨hz13, hr⟩ := ite_g hr
          refine lv_irem hx hb dX7_lays_96 hz13 ?_
          refine lv_iload_n hx hb dX7_lays_97 rfl (lv_at hl 2 rfl) ?_
          refine lv_iconst (v := (1 : Int32)) hx hb dX7_lays_98 (by decide) ?_
          refine lv_isub hx hb dX7_lays_99 ?_
          obtain ⟨K15, eK15, hr⟩ := nm_ex hr
          have kK15 : ∀ (u14 : Int64) (H : Heap) (locs : List Loc) , K15 u14 = some q → va_P (dC, dI) vwCl (wd_X7 ad cA a0 a1 a2 (0 : Int32) mo_newBlack mo_newWhite mo_taken mo_triesMany mo_isSpent mo_found w7 a_act (vp_updL a_blackAt (0 : Int32).toNatClampNeg (0 : Int64)) (vp_updL a_whiteAt (0 : Int32).toNatClampNeg (0 : Int64)) (upd a_moveAt (0 : Int32).toNatClampNeg (1 : Int32)) (upd a_takenBlack (0 : Int32).toNatClampNeg (0 : Int32)) (upd a_takenWhite (0 : Int32).toNatClampNeg (0 : Int32)) a_chaseBlack a_chaseWhite a_aheadBlack a_aheadWhite a_hasAhead a_breathsLeft a_laidBlack a_laidWhite a_answersLeft a_firstAnswer a_answering a_next) H → va_D A (wd_X7 ad cA a0 a1 a2 (0 : Int32) mo_newBlack mo_newWhite mo_taken mo_triesMany mo_isSpent mo_found w7 a_act (vp_updL a_blackAt (0 : Int32).toNatClampNeg (0 : Int64)) (vp_updL a_whiteAt (0 : Int32).toNatClampNeg (0 : Int64)) (upd a_moveAt (0 : Int32).toNatClampNeg (1 : Int32)) (upd a_takenBlack (0 : Int32).toNatClampNeg (0 : Int32)) (upd a_takenWhite (0 : Int32).toNatClampNeg (0 : Int32)) a_chaseBlack a_chaseWhite a_aheadBlack a_aheadWhite a_hasAhead a_breathsLeft a_laidBlack a_laidWhite a_answersLeft a_firstAnswer a_answering a_next) → va_S A H0 H locs → ∀ (ls : Array Slot), lv_has ls 7 [(0, .ref (ad 0)), (1, .int a0), (2, .int a1), (4, .int v6)] → W p l e R s m args below meth c H locs 0 0 Q (F0 m 113 ls [.long u14, .long x12]) := by
            intro u14 H locs hr hP hD hS ls hl
            rw [eK15] at hr
            refine lv_lor hx hb dX7_lays_113 ?_
            refine lv_topl (fun x16 ex16 => ?_)
            have hr := nm_use hr ex16
            refine lv_lstore (lv' := [(5, .long x16), (0, .ref (ad 0)), (1, .int a0), (2, .int a1), (4, .int v6)]) hx hb dX7_lays_114 hl (by decide) rfl (fun ls hl => ?_)
            refine lv_lload hx hb dX7_lays_116 (lv_at hl 0 rfl) ?_
            refine lv_iload hx hb dX7_lays_118 (lv_at hl 4 rfl) ?_
            refine lv_iload_n hx hb dX7_lays_120 rfl (lv_at hl 2 rfl) ?_
            obtain ⟨K18, eK18, hr⟩ := nm_ex hr
            have kK18 : ∀ (u17 : Int64) (H : Heap) (locs : List Loc) , K18 u17 = some q → va_P (dC, dI) vwCl (wd_X7 ad cA a0 a1 a2 (0 : Int32) mo_newBlack mo_newWhite mo_taken mo_triesMany mo_isSpent mo_found w7 a_act (vp_updL a_blackAt (0 : Int32).toNatClampNeg (0 : Int64)) (vp_updL a_whiteAt (0 : Int32).toNatClampNeg (0 : Int64)) (upd a_moveAt (0 : Int32).toNatClampNeg (1 : Int32)) (upd a_takenBlack (0 : Int32).toNatClampNeg (0 : Int32)) (upd a_takenWhite (0 : Int32).toNatClampNeg (0 : Int32)) a_chaseBlack a_chaseWhite a_aheadBlack a_aheadWhite a_hasAhead a_breathsLeft a_laidBlack a_laidWhite a_answersLeft a_firstAnswer a_answering a_next) H → va_D A (wd_X7 ad cA a0 a1 a2 (0 : Int32) mo_newBlack mo_newWhite mo_taken mo_triesMany mo_isSpent mo_found w7 a_act (vp_updL a_blackAt (0 : Int32).toNatClampNeg (0 : Int64)) (vp_updL a_whiteAt (0 : Int32).toNatClampNeg (0 : Int64)) (upd a_moveAt (0 : Int32).toNatClampNeg (1 : Int32)) (upd a_takenBlack (0 : Int32).toNatClampNeg (0 : Int32)) (upd a_takenWhite (0 : Int32).toNatClampNeg (0 : Int32)) a_chaseBlack a_chaseWhite a_aheadBlack a_aheadWhite a_hasAhead a_breathsLeft a_laidBlack a_laidWhite a_answersLeft a_firstAnswer a_answering a_next) → va_S A H0 H locs → ∀ (ls : Array Slot), lv_has ls 7 [(0, .ref (ad 0)), (1, .int a0), (2, .int a1), (4, .int v6)] → W p l e R s m args below meth c H locs 0 0 Q (F0 m 134 ls [.long u17, .long x16]) := by
              intro u17 H locs hr hP hD hS ls hl
              rw [eK18] at hr
              refine lv_lor hx hb dX7_lays_134 ?_
              refine lv_topl (fun x19 ex19 => ?_)
              have hr := nm_use hr ex19
              refine lv_lstore (lv' := [(5, .long x19), (0, .ref (ad 0)), (1, .int a0), (2, .int a1), (4, .int v6)]) hx hb dX7_lays_135 hl (by decide) rfl (fun ls hl => ?_)
              refine lv_lload hx hb dX7_lays_137 (lv_at hl 0 rfl) ?_
              refine lv_iload hx hb dX7_lays_139 (lv_at hl 4 rfl) ?_
              refine lv_iload_n hx hb dX7_lays_141 rfl (lv_at hl 2 rfl) ?_
              refine lv_iload_n hx hb dX7_lays_142 rfl (lv_at hl 3 rfl) ?_
              refine lv_iconst (v := (1 : Int32)) hx hb dX7_lays_143 (by decide) ?_
              refine lv_isub hx hb dX7_lays_144 ?_
              refine lv_imul hx hb dX7_lays_145 ?_
              obtain ⟨K21, eK21, hr⟩ := nm_ex hr
              have kK21 : ∀ (u20 : Int64) (H : Heap) (locs : List Loc) , K21 u20 = some q → va_P (dC, dI) vwCl (wd_X7 ad cA a0 a1 a2 (0 : Int32) mo_newBlack mo_newWhite mo_taken mo_triesMany mo_isSpent mo_found w7 a_act (vp_updL a_blackAt (0 : Int32).toNatClampNeg (0 : Int64)) (vp_updL a_whiteAt (0 : Int32).toNatClampNeg (0 : Int64)) (upd a_moveAt (0 : Int32).toNatClampNeg (1 : Int32)) (upd a_takenBlack (0 : Int32).toNatClampNeg (0 : Int32)) (upd a_takenWhite (0 : Int32).toNatClampNeg (0 : Int32)) a_chaseBlack a_chaseWhite a_aheadBlack a_aheadWhite a_hasAhead a_breathsLeft a_laidBlack a_laidWhite a_answersLeft a_firstAnswer a_answering a_next) H → va_D A (wd_X7 ad cA a0 a1 a2 (0 : Int32) mo_newBlack mo_newWhite mo_taken mo_triesMany mo_isSpent mo_found w7 a_act (vp_updL a_blackAt (0 : Int32).toNatClampNeg (0 : Int64)) (vp_updL a_whiteAt (0 : Int32).toNatClampNeg (0 : Int64)) (upd a_moveAt (0 : Int32).toNatClampNeg (1 : Int32)) (upd a_takenBlack (0 : Int32).toNatClampNeg (0 : Int32)) (upd a_takenWhite (0 : Int32).toNatClampNeg (0 : Int32)) a_chaseBlack a_chaseWhite a_aheadBlack a_aheadWhite a_hasAhead a_breathsLeft a_laidBlack a_laidWhite a_answersLeft a_firstAnswer a_answering a_next) → va_S A H0 H locs → ∀ (ls : Array Slot), lv_has ls 7 [(0, .ref (ad 0)), (1, .int a0), (2, .int a1), (4, .int v6)] → W p l e R s m args below meth c H locs 0 0 Q (F0 m 159 ls [.long u20, .long x19]) := by
                intro u20 H locs hr hP hD hS ls hl
                rw [eK21] at hr
                refine lv_lor hx hb dX7_lays_159 ?_
                refine lv_topl (fun x22 ex22 => ?_)
                have hr := nm_use hr ex22
                refine lv_lstore (lv' := [(5, .long x22), (0, .ref (ad 0)), (1, .int a0), (2, .int a1), (4, .int v6)]) hx hb dX7_lays_160 hl (by decide) rfl (fun ls hl => ?_)
                refine lv_aload_n hx hb dX7_lays_162 rfl (lv_at hl 1 rfl) ?_
                refine va_get (D := (dC, dI)) (ci := 7) (v := .ref (ad 1)) (C := RX7) (T := TX7) (N := 29) hx hb hts huX7 hown hK hP 0 rfl rfl 3 (by decide) hf16 (fun _ h9 => h9) rfl dX7_lays_163 ?_
                refine lv_iload hx hb dX7_lays_166 (lv_at hl 4 rfl) ?_
                refine lv_lload hx hb dX7_lays_168 (lv_at hl 0 rfl) ?_
                obtain ⟨hi23, hr⟩ := ite_g hr
                refine va_last hx hb hK hP hD hS 1 0 rfl rfl hi23 dX7_lays_170 (fun H locs hP hD hS => ?_)
                have hP : va_P (dC, dI) vwCl (wd_X7 ad cA a0 a1 a2 (0 : Int32) mo_newBlack mo_newWhite mo_taken mo_triesMany mo_isSpent mo_found (vp_updL w7 v6.toNatClampNeg x22) a_act (vp_updL a_blackAt (0 : Int32).toNatClampNeg (0 : Int64)) (vp_updL a_whiteAt (0 : Int32).toNatClampNeg (0 : Int64)) (upd a_moveAt (0 : Int32).toNatClampNeg (1 : Int32)) (upd a_takenBlack (0 : Int32).toNatClampNeg (0 : Int32)) (upd a_takenWhite (0 : Int32).toNatClampNeg (0 : Int32)) a_chaseBlack a_chaseWhite a_aheadBlack a_aheadWhite a_hasAhead a_breathsLeft a_laidBlack a_laidWhite a_answersLeft a_firstAnswer a_answering a_next) H := hP
                have hD : va_D A (wd_X7 ad cA a0 a1 a2 (0 : Int32) mo_newBlack mo_newWhite mo_taken mo_triesMany mo_isSpent mo_found (vp_updL w7 v6.toNatClampNeg x22) a_act (vp_updL a_blackAt (0 : Int32).toNatClampNeg (0 : Int64)) (vp_updL a_whiteAt (0 : Int32).toNatClampNeg (0 : Int64)) (upd a_moveAt (0 : Int32).toNatClampNeg (1 : Int32)) (upd a_takenBlack (0 : Int32).toNatClampNeg (0 : Int32)) (upd a_takenWhite (0 : Int32).toNatClampNeg (0 : Int32)) a_chaseBlack a_chaseWhite a_aheadBlack a_aheadWhite a_hasAhead a_breathsLeft a_laidBlack a_laidWhite a_answersLeft a_firstAnswer a_answering a_next) := hD
                obtain ⟨x24, ex24, hr⟩ := nm_ex hr
                refine lv_iinc (v := x24) (lv' := [(4, .int x24), (5, .long x22), (0, .ref (ad 0)), (1, .int a0), (2, .int a1)]) hx hb dX7_lays_171 hl (k := 4) rfl (by rw [ex24]; rfl) (by decide) rfl (fun ls hl => ?_)
                refine lv_goto (tgt := 58) hx hb dX7_lays_174 (by decide) ?_
                exact ih x24 (vp_updL w7 v6.toNatClampNeg x22) _ _ hr hP hD hS ls (lv_sub hl [2, 3, 4, 0] rfl)
              refine lv_icmp_ge (tgt := 158) hx hb dX7_lays_146 (by decide) (fun c25 => ?_) (fun c25 => ?_)
              · have hr := ite_p hr c25
                refine lv_lconst (v := (0 : Int64)) hx hb dX7_lays_158 (by decide) ?_
                exact kK21 (0 : Int64) _ _ hr hP hD hS ls (lv_sub hl [1, 2, 3, 4] rfl)
              · have hr := ite_n hr c25
                refine lv_lconst (v := (1 : Int64)) hx hb dX7_lays_149 (by decide) ?_
                refine lv_iload hx hb dX7_lays_150 (lv_at hl 4 rfl) ?_
                refine lv_iload_n hx hb dX7_lays_152 rfl (lv_at hl 2 rfl) ?_
                refine lv_iadd hx hb dX7_lays_153 ?_
                refine lv_lshl (v := jshl (1 : Int64) (v6 + a0)) hx hb dX7_lays_154 rfl ?_
                refine lv_goto (tgt := 159) hx hb dX7_lays_155 (by decide) ?_
                exact kK21 (jshl (1 : Int64) (v6 + a0)) _ _ hr hP hD hS ls (lv_sub hl [1, 2, 3, 4] rfl)
            refine lv_icmp_lt (tgt := 133) hx hb dX7_lays_121 (by decide) (fun c26 => ?_) (fun c26 => ?_)
            · have hr := ite_p hr c26
              refine lv_lconst (v := (0 : Int64)) hx hb dX7_lays_133 (by decide) ?_
              exact kK18 (0 : Int64) _ _ hr hP hD hS ls (lv_sub hl [1, 2, 3, 4] rfl)
            · have hr := ite_n hr c26
              refine lv_lconst (v := (1 : Int64)) hx hb dX7_lays_124 (by decide) ?_
              refine lv_iload hx hb dX7_lays_125 (lv_at hl 4 rfl) ?_
              refine lv_iload_n hx hb dX7_lays_127 rfl (lv_at hl 2 rfl) ?_
              refine lv_isub hx hb dX7_lays_128 ?_
              refine lv_lshl (v := jshl (1 : Int64) (v6 - a0)) hx hb dX7_lays_129 rfl ?_
              refine lv_goto (tgt := 134) hx hb dX7_lays_130 (by decide) ?_
              exact kK18 (jshl (1 : Int64) (v6 - a0)) _ _ hr hP hD hS ls (lv_sub hl [1, 2, 3, 4] rfl)
          refine lv_icmp_ge (tgt := 112) hx hb dX7_lays_100 (by decide) (fun c27 => ?_) (fun c27 => ?_)
          · have hr := ite_p hr c27
            refine lv_lconst (v := (0 : Int64)) hx hb dX7_lays_112 (by decide) ?_
            exact kK15 (0 : Int64) _ _ hr hP hD hS ls (lv_sub hl [1, 2, 3, 4] rfl)
          · have hr := ite_n hr c27
            refine lv_lconst (v := (1 : Int64)) hx hb dX7_lays_103 (by decide) ?_
            refine lv_iload hx hb dX7_lays_104 (lv_at hl 4 rfl) ?_
            refine lv_iconst (v := (1 : Int32)) hx hb dX7_lays_106 (by decide) ?_
            refine lv_iadd hx hb dX7_lays_107 ?_
            refine lv_lshl (v := jshl (1 : Int64) (v6 + (1 : Int32))) hx hb dX7_lays_108 rfl ?_
            refine lv_goto (tgt := 113) hx hb dX7_lays_109 (by decide) ?_
            exact kK15 (jshl (1 : Int64) (v6 + (1 : Int32))) _ _ hr hP hD hS ls (lv_sub hl [1, 2, 3, 4] rfl)
        refine lv_if_le (tgt := 87) hx hb dX7_lays_75 (by decide) (fun c28 => ?_) (fun c28 => ?_)
        · have hr := ite_p hr c28
          refine lv_lconst (v := (0 : Int64)) hx hb dX7_lays_87 (by decide) ?_
          exact kK11 (0 : Int64) _ _ hr hP hD hS ls (lv_sub hl [1, 2, 3, 4] rfl)
        · have hr := ite_n hr c28
          refine lv_lconst (v := (1 : Int64)) hx hb dX7_lays_78 (by decide) ?_
          refine lv_iload hx hb dX7_lays_79 (lv_at hl 4 rfl) ?_
          refine lv_iconst (v := (1 : Int32)) hx hb dX7_lays_81 (by decide) ?_
          refine lv_isub hx hb dX7_lays_82 ?_
          refine lv_lshl (v := jshl (1 : Int64) (v6 - (1 : Int32))) hx hb dX7_lays_83 rfl ?_
          refine lv_goto (tgt := 88) hx hb dX7_lays_84 (by decide) ?_
          exact kK11 (jshl (1 : Int64) (v6 - (1 : Int32))) _ _ hr hP hD hS ls (lv_sub hl [1, 2, 3, 4] rfl)
  exact llp_X7_lays_58 FU (0 : Int32) a_neighbours _ _ hr hP hD hS ls (lv_sub hl [1, 2, 3, 0] rfl)

def f_X7_size (mo_wide : Int32) (mo_high : Int32)  : Option (Int32) :=
  some (mo_wide * mo_high)

abbrev rm_X7_size : Room := { frames := 0, cells := 0, slots := 0, locals := 0 }
set_option maxHeartbeats 4000000 in
set_option maxRecDepth 100000 in
theorem c_X7_size (l : Launch) (dC : Nat → ClassId) (dI : Nat → Nat → Nat) (ad : Nat → Nat) (cA : Nat → ClassId) (mo_wide mo_high mo_law mo_acts : Int32) (mo_newBlack mo_newWhite : Int64) (mo_taken mo_triesMany mo_isSpent mo_found : Int32) (a_neighbours : Nat → Int64) (a_act : Nat → Int32) (a_blackAt a_whiteAt : Nat → Int64) (a_moveAt a_takenBlack a_takenWhite : Nat → Int32) (a_chaseBlack a_chaseWhite a_aheadBlack a_aheadWhite : Nat → Int64) (a_hasAhead : Nat → Int32) (a_breathsLeft a_laidBlack a_laidWhite a_answersLeft : Nat → Int64) (a_firstAnswer a_answering a_next : Nat → Int32)  (q : Int32) (hr : f_X7_size mo_wide mo_high  = some q) : Met l yX7_size wsX7_size rm_X7_size (PrP (dC, dI) (wd_X7 ad cA mo_wide mo_high mo_law mo_acts mo_newBlack mo_newWhite mo_taken mo_triesMany mo_isSpent mo_found a_neighbours a_act a_blackAt a_whiteAt a_moveAt a_takenBlack a_takenWhite a_chaseBlack a_chaseWhite a_aheadBlack a_aheadWhite a_hasAhead a_breathsLeft a_laidBlack a_laidWhite a_answersLeft a_firstAnswer a_answering a_next) (td_X7 cA) [.ref (ad 0)]) (vp_Si (fun x => x = q)) 0 0 (fun _ => False) := by
  refine mkP_i (cc := cX7_size) (nL := 1) (by decide) rfl (Nat.le_of_ble_eq_true rfl) ?_
  intro p e R s m args below meth c H Q ls hRf hRl S hN hP hK hl kret
  have hl : lv_has ls 1 [(0, .ref (ad 0))] := hl
  obtain ⟨hx, hb, hml, hown, hts⟩ := S
  have hown : s.vm.findClass RX7 = some m.cls := hown
  have S : CallFix p m c cX7_size 1 s args wsX7_size RX7 := ⟨hx, hb, hml, hown, hts⟩
  have huX7 : ∀ w ∈ u_ws RX7 TX7 29, w ∈ wsX7_size := by decide +kernel
  have hf7 := hts (.fieldLink RX7 7 "EyeBoardModel" "wide" "I") (by decide +kernel)
  have hf13 := hts (.fieldLink RX7 13 "EyeBoardModel" "high" "I") (by decide +kernel)
  unfold f_X7_size at hr
  refine lv_aload_n hx hb dX7_size_0 rfl (lv_at hl 0 rfl) ?_
  refine va_get (D := (dC, dI)) (ci := 7) (v := .int mo_wide) (C := RX7) (T := TX7) (N := 29) hx hb hts huX7 hown hK hP 0 rfl rfl 0 (by decide) hf7 (fun _ h9 => h9) rfl dX7_size_1 ?_
  refine lv_aload_n hx hb dX7_size_4 rfl (lv_at hl 0 rfl) ?_
  refine va_get (D := (dC, dI)) (ci := 7) (v := .int mo_high) (C := RX7) (T := TX7) (N := 29) hx hb hts huX7 hown hK hP 0 rfl rfl 1 (by decide) hf13 (fun _ h9 => h9) rfl dX7_size_5 ?_
  refine lv_imul hx hb dX7_size_8 ?_
  obtain rfl := Option.some.inj hr
  exact kret _ _ dX7_size_9

def f_X7_isCrossing (mo_wide : Int32) (mo_high : Int32) (a0 : Int32) : Option (Int32) :=
  (f_X7_size mo_wide mo_high).bind fun q1 =>
  (f_X7_in a0 (0 : Int32) (q1 - (1 : Int32))).bind fun q2 =>
  if ¬ (q2 = 0 ∨ q2 = 1) then none else
  some (q2)

abbrev rm_X7_isCrossing : Room := { frames := 1, cells := 0, slots := 0, locals := 22 }
set_option maxHeartbeats 4000000 in
set_option maxRecDepth 100000 in
theorem c_X7_isCrossing (l : Launch) (dC : Nat → ClassId) (dI : Nat → Nat → Nat) (ad : Nat → Nat) (cA : Nat → ClassId) (mo_wide mo_high mo_law mo_acts : Int32) (mo_newBlack mo_newWhite : Int64) (mo_taken mo_triesMany mo_isSpent mo_found : Int32) (a_neighbours : Nat → Int64) (a_act : Nat → Int32) (a_blackAt a_whiteAt : Nat → Int64) (a_moveAt a_takenBlack a_takenWhite : Nat → Int32) (a_chaseBlack a_chaseWhite a_aheadBlack a_aheadWhite : Nat → Int64) (a_hasAhead : Nat → Int32) (a_breathsLeft a_laidBlack a_laidWhite a_answersLeft : Nat → Int64) (a_firstAnswer a_answering a_next : Nat → Int32) (a0 : Int32) (q : Int32) (hr : f_X7_isCrossing mo_wide mo_high a0 = some q) : Met l yX7_isCrossing wsX7_isCrossing rm_X7_isCrossing (PrP (dC, dI) (wd_X7 ad cA mo_wide mo_high mo_law mo_acts mo_newBlack mo_newWhite mo_taken mo_triesMany mo_isSpent mo_found a_neighbours a_act a_blackAt a_whiteAt a_moveAt a_takenBlack a_takenWhite a_chaseBlack a_chaseWhite a_aheadBlack a_aheadWhite a_hasAhead a_breathsLeft a_laidBlack a_laidWhite a_answersLeft a_firstAnswer a_answering a_next) (td_X7 cA) [.ref (ad 0), .int a0]) (vp_Si (fun x => x = q)) 0 0 (fun _ => False) := by
  refine mkP_z (cc := cX7_isCrossing) (nL := 2) (by decide) rfl (Nat.le_of_ble_eq_true rfl) ?_
  intro p e R s m args below meth c H Q ls hRf hRl S hN hP hK hl kret
  have hl : lv_has ls 2 [(0, .ref (ad 0)), (1, .int a0)] := hl
  obtain ⟨hx, hb, hml, hown, hts⟩ := S
  have hown : s.vm.findClass RX7 = some m.cls := hown
  have S : CallFix p m c cX7_isCrossing 2 s args wsX7_isCrossing RX7 := ⟨hx, hb, hml, hown, hts⟩
  unfold f_X7_isCrossing at hr
  refine lv_iload_n hx hb dX7_isCrossing_0 rfl (lv_at hl 1 rfl) ?_
  refine lv_iconst (v := (0 : Int32)) hx hb dX7_isCrossing_1 (by decide) ?_
  refine lv_aload_n hx hb dX7_isCrossing_2 rfl (lv_at hl 0 rfl) ?_
  obtain ⟨q1, hq1, hr⟩ := bd_use hr
  refine pcV_i (As := []) (rest := [.int (0 : Int32), .int a0]) S (c_X7_size l dC dI ad cA mo_wide mo_high mo_law mo_acts mo_newBlack mo_newWhite mo_taken mo_triesMany mo_isSpent mo_found a_neighbours a_act a_blackAt a_whiteAt a_moveAt a_takenBlack a_takenWhite a_chaseBlack a_chaseWhite a_aheadBlack a_aheadWhite a_hasAhead a_breathsLeft a_laidBlack a_laidWhite a_answersLeft a_firstAnswer a_answering a_next q1 hq1) (cwV 0 hts gX7_isCrossing_X7_size rfl rfl rfl (by decide +kernel) ⟨Nat.le_trans (m := rm_X7_isCrossing.frames) (by decide) hRf, Nat.le_trans (m := rm_X7_isCrossing.locals) (by decide) hRl⟩) hN hP hK ⟨Nat.zero_le _, Nat.zero_le _⟩ [0, 1, 2, 3, 4, 5, 6, 7, 8, 9, 10, 11, 12, 13, 14, 15, 16, 17, 18, 19] rfl [0, 1, 2, 3, 4, 5, 6, 7, 8, 9, 10, 11, 12, 13, 14, 15, 16, 17, 18] rfl 0 7 rfl rfl rfl hl.1 rfl (Nat.le_of_ble_eq_true rfl) dX7_isCrossing_3 ?_
  refine lv_iconst (v := (1 : Int32)) hx hb dX7_isCrossing_6 (by decide) ?_
  refine lv_isub hx hb dX7_isCrossing_7 ?_
  obtain ⟨q2, hq2, hr⟩ := bd_use hr
  refine pcS_i (As := [.int a0, .int (0 : Int32), .int (q1 - (1 : Int32))]) (rest := []) S (c_X7_in l dC dI a0 (0 : Int32) (q1 - (1 : Int32)) q2 hq2) (va_cwS 3 hts gX7_isCrossing_X7_in rfl rfl rfl (by decide +kernel) ⟨Nat.le_trans (m := rm_X7_isCrossing.frames) (by decide) hRf, Nat.le_trans (m := rm_X7_isCrossing.locals) (by decide) hRl⟩) hN hP hK ⟨Nat.zero_le _, Nat.zero_le _⟩ rfl hl.1 rfl (Nat.le_of_ble_eq_true rfl) dX7_isCrossing_8 ?_
  obtain ⟨hz3, hr⟩ := ite_g hr
  obtain rfl := Option.some.inj hr
  exact kret _ _ dX7_isCrossing_11 (nar_z hz3)

def lp_X7_many_4  : Nat → Int32 → Int64 → Option (Int32)
  | 0, _, _ => none
  | nF + 1, v1, v2 =>
    if v2 = (0 : Int64) then (
      some (v1)
    )
    else (
      nm (v1 + 1) fun x4 =>
      nm (v2 &&& (v2 - (1 : Int64))) fun x5 =>
      lp_X7_many_4  nF x4 x5
    )

def f_X7_many  (a0 : Int64) : Option (Int32) :=
  lp_X7_many_4  FU (0 : Int32) a0

abbrev rm_X7_many : Room := { frames := 0, cells := 0, slots := 0, locals := 0 }
set_option maxHeartbeats 4000000 in
set_option maxRecDepth 100000 in
theorem c_X7_many (l : Launch) (dC : Nat → ClassId) (dI : Nat → Nat → Nat)  (a0 : Int64) (q : Int32) (hr : f_X7_many  a0 = some q) : Met l yX7_many wsX7_many rm_X7_many (PrP (dC, dI) [] [] [.long a0]) (vp_Si (fun x => x = q)) 0 0 (fun _ => False) := by
  refine mkP_i (cc := cX7_many) (nL := 5) (by decide) rfl (Nat.le_of_ble_eq_true rfl) ?_
  intro p e R s m args below meth c H Q ls hRf hRl S hN hP hK hl kret
  have hl : lv_has ls 5 [(0, .long a0)] := hl
  obtain ⟨hx, hb, hml, hown, hts⟩ := S
  have hown : s.vm.findClass RX7 = some m.cls := hown
  have S : CallFix p m c cX7_many 5 s args wsX7_many RX7 := ⟨hx, hb, hml, hown, hts⟩
  unfold f_X7_many at hr
  refine lv_iconst (v := (0 : Int32)) hx hb dX7_many_0 (by decide) ?_
  refine lv_istore_n (lv' := [(2, .int (0 : Int32)), (0, .long a0)]) hx hb dX7_many_1 rfl hl (by decide) rfl (fun ls hl => ?_)
  refine lv_lload_n hx hb dX7_many_2 rfl (lv_at hl 1 rfl) ?_
  refine lv_lstore_n (lv' := [(3, .long a0), (2, .int (0 : Int32)), (0, .long a0)]) hx hb dX7_many_3 rfl hl (by decide) rfl (fun ls hl => ?_)
  have llp_X7_many_4 : ∀ (nF : Nat) (v1 : Int32) (v2 : Int64) , lp_X7_many_4  nF v1 v2 = some q → ∀ (ls : Array Slot), lv_has ls 5 [(2, .int v1), (3, .long v2)] → W p l e R s m args below meth c H [] 0 0 Q (F0 m 4 ls []) := by
    intro nF
    induction nF with
    | zero => intro v1 v2 hr; exact absurd hr (by simp [lp_X7_many_4])
    | succ nF ih =>
      intro v1 v2 hr ls hl
      rw [lp_X7_many_4] at hr
      refine lv_lload_n hx hb dX7_many_4 rfl (lv_at hl 1 rfl) ?_
      refine lv_lconst (v := (0 : Int64)) hx hb dX7_many_5 (by decide) ?_
      refine W.lcmp hx hb dX7_many_6 ?_
      refine lv_if_eq (tgt := 22) hx hb dX7_many_7 (by decide) (fun c3 => ?_) (fun c3 => ?_)
      · have c3 := cmp_t c3
        have hr := ite_p hr c3
        refine lv_iload_n hx hb dX7_many_22 rfl (lv_at hl 0 rfl) ?_
        obtain rfl := Option.some.inj hr
        exact kret _ _ dX7_many_23
      · have c3 := cmp_f c3
        have hr := ite_n hr c3
        obtain ⟨x4, ex4, hr⟩ := nm_ex hr
        refine lv_iinc (v := x4) (lv' := [(2, .int x4), (3, .long v2)]) hx hb dX7_many_10 hl (k := 0) rfl (by rw [ex4]; rfl) (by decide) rfl (fun ls hl => ?_)
        refine lv_lload_n hx hb dX7_many_13 rfl (lv_at hl 1 rfl) ?_
        refine lv_lload_n hx hb dX7_many_14 rfl (lv_at hl 1 rfl) ?_
        refine lv_lconst (v := (1 : Int64)) hx hb dX7_many_15 (by decide) ?_
        refine lv_lsub hx hb dX7_many_16 ?_
        refine lv_land hx hb dX7_many_17 ?_
        refine lv_topl (fun x5 ex5 => ?_)
        have hr := nm_use hr ex5
        refine lv_lstore_n (lv' := [(3, .long x5), (2, .int x4)]) hx hb dX7_many_18 rfl hl (by decide) rfl (fun ls hl => ?_)
        refine lv_goto (tgt := 4) hx hb dX7_many_19 (by decide) ?_
        exact ih x4 x5 hr ls (lv_sub hl [1, 0] rfl)
  exact llp_X7_many_4 FU (0 : Int32) a0 hr ls (lv_sub hl [1, 0] rfl)

def lp_X7_least_2 (a0 : Int64) : Nat → Int32 → Option (Int32)
  | 0, _ => none
  | nF + 1, v1 =>
    if (49 : Int32) ≤ v1 then (
      some ((-1 : Int32))
    )
    else (
      if (jshr a0 v1) &&& (1 : Int64) = (1 : Int64) then (
        some (v1)
      )
      else (
        nm (v1 + 1) fun x4 =>
        lp_X7_least_2 a0 nF x4
      )
    )

def f_X7_least  (a0 : Int64) (a1 : Int32) : Option (Int32) :=
  lp_X7_least_2 a0 FU a1

abbrev rm_X7_least : Room := { frames := 0, cells := 0, slots := 0, locals := 0 }
set_option maxHeartbeats 4000000 in
set_option maxRecDepth 100000 in
theorem c_X7_least (l : Launch) (dC : Nat → ClassId) (dI : Nat → Nat → Nat)  (a0 : Int64) (a1 : Int32) (q : Int32) (hr : f_X7_least  a0 a1 = some q) : Met l yX7_least wsX7_least rm_X7_least (PrP (dC, dI) [] [] [.long a0, .int a1]) (vp_Si (fun x => x = q)) 0 0 (fun _ => False) := by
  refine mkP_i (cc := cX7_least) (nL := 4) (by decide) rfl (Nat.le_of_ble_eq_true rfl) ?_
  intro p e R s m args below meth c H Q ls hRf hRl S hN hP hK hl kret
  have hl : lv_has ls 4 [(0, .long a0), (2, .int a1)] := hl
  obtain ⟨hx, hb, hml, hown, hts⟩ := S
  have hown : s.vm.findClass RX7 = some m.cls := hown
  have S : CallFix p m c cX7_least 4 s args wsX7_least RX7 := ⟨hx, hb, hml, hown, hts⟩
  unfold f_X7_least at hr
  refine lv_iload_n hx hb dX7_least_0 rfl (lv_at hl 1 rfl) ?_
  refine lv_istore_n (lv' := [(3, .int a1), (0, .long a0), (2, .int a1)]) hx hb dX7_least_1 rfl hl (by decide) rfl (fun ls hl => ?_)
  have llp_X7_least_2 : ∀ (nF : Nat) (v1 : Int32) , lp_X7_least_2 a0 nF v1 = some q → ∀ (ls : Array Slot), lv_has ls 4 [(0, .long a0), (3, .int v1)] → W p l e R s m args below meth c H [] 0 0 Q (F0 m 2 ls []) := by
    intro nF
    induction nF with
    | zero => intro v1 hr; exact absurd hr (by simp [lp_X7_least_2])
    | succ nF ih =>
      intro v1 hr ls hl
      rw [lp_X7_least_2] at hr
      refine lv_iload_n hx hb dX7_least_2 rfl (lv_at hl 1 rfl) ?_
      refine lv_bipush (v := (49 : Int32)) hx hb dX7_least_3 (by decide) ?_
      refine lv_icmp_ge (tgt := 26) hx hb dX7_least_5 (by decide) (fun c2 => ?_) (fun c2 => ?_)
      · have hr := ite_p hr c2
        refine lv_iconst (v := (-1 : Int32)) hx hb dX7_least_26 (by decide) ?_
        obtain rfl := Option.some.inj hr
        exact kret _ _ dX7_least_27
      · have hr := ite_n hr c2
        refine lv_lload_n hx hb dX7_least_8 rfl (lv_at hl 0 rfl) ?_
        refine lv_iload_n hx hb dX7_least_9 rfl (lv_at hl 1 rfl) ?_
        refine lv_lshr (v := jshr a0 v1) hx hb dX7_least_10 rfl ?_
        refine lv_lconst (v := (1 : Int64)) hx hb dX7_least_11 (by decide) ?_
        refine lv_land hx hb dX7_least_12 ?_
        refine lv_lconst (v := (1 : Int64)) hx hb dX7_least_13 (by decide) ?_
        refine W.lcmp hx hb dX7_least_14 ?_
        refine lv_if_ne (tgt := 20) hx hb dX7_least_15 (by decide) (fun c3 => ?_) (fun c3 => ?_)
        · have c3 := cmp_f c3
          have hr := ite_n hr c3
          obtain ⟨x4, ex4, hr⟩ := nm_ex hr
          refine lv_iinc (v := x4) (lv' := [(3, .int x4), (0, .long a0)]) hx hb dX7_least_20 hl (k := 1) rfl (by rw [ex4]; rfl) (by decide) rfl (fun ls hl => ?_)
          refine lv_goto (tgt := 2) hx hb dX7_least_23 (by decide) ?_
          exact ih x4 hr ls (lv_sub hl [1, 0] rfl)
        · have c3 := cmp_t c3
          have hr := ite_p hr c3
          refine lv_iload_n hx hb dX7_least_18 rfl (lv_at hl 1 rfl) ?_
          obtain rfl := Option.some.inj hr
          exact kret _ _ dX7_least_19
  exact llp_X7_least_2 FU a1 hr ls (lv_sub hl [1, 0] rfl)

def lp_X7_around_5 (mo_wide : Int32) (mo_high : Int32) (a_neighbours : Nat → Int64) (a0 : Int64) : Nat → Int64 → Int32 → Option (Int64)
  | 0, _, _ => none
  | nF + 1, v1, v2 =>
    (f_X7_size mo_wide mo_high).bind fun q3 =>
    if q3 ≤ v2 then (
      some (v1)
    )
    else (
      if (jshr a0 v2) &&& (1 : Int64) = (1 : Int64) then (
        if (v2 < 0 ∨ 49 ≤ v2.toNatClampNeg) then none else
        nm (v1 ||| (a_neighbours v2.toNatClampNeg)) fun x9 =>
        nm (v2 + 1) fun x10 =>
        lp_X7_around_5 mo_wide mo_high a_neighbours a0 nF x9 x10
      )
      else (
        nm (v1 ||| (0 : Int64)) fun x6 =>
        nm (v2 + 1) fun x7 =>
        lp_X7_around_5 mo_wide mo_high a_neighbours a0 nF x6 x7
      )
    )

def f_X7_around (mo_wide : Int32) (mo_high : Int32) (a_neighbours : Nat → Int64) (a0 : Int64) : Option (Int64) :=
  lp_X7_around_5 mo_wide mo_high a_neighbours a0 FU (0 : Int64) (0 : Int32)

abbrev rm_X7_around : Room := { frames := 1, cells := 0, slots := 0, locals := 20 }
set_option maxHeartbeats 4000000 in
set_option maxRecDepth 100000 in
theorem c_X7_around (l : Launch) (dC : Nat → ClassId) (dI : Nat → Nat → Nat) (ad : Nat → Nat) (cA : Nat → ClassId) (mo_wide mo_high mo_law mo_acts : Int32) (mo_newBlack mo_newWhite : Int64) (mo_taken mo_triesMany mo_isSpent mo_found : Int32) (a_neighbours : Nat → Int64) (a_act : Nat → Int32) (a_blackAt a_whiteAt : Nat → Int64) (a_moveAt a_takenBlack a_takenWhite : Nat → Int32) (a_chaseBlack a_chaseWhite a_aheadBlack a_aheadWhite : Nat → Int64) (a_hasAhead : Nat → Int32) (a_breathsLeft a_laidBlack a_laidWhite a_answersLeft : Nat → Int64) (a_firstAnswer a_answering a_next : Nat → Int32) (a0 : Int64) (q : Int64) (hr : f_X7_around mo_wide mo_high a_neighbours a0 = some q) : Met l yX7_around wsX7_around rm_X7_around (PrP (dC, dI) (wd_X7 ad cA mo_wide mo_high mo_law mo_acts mo_newBlack mo_newWhite mo_taken mo_triesMany mo_isSpent mo_found a_neighbours a_act a_blackAt a_whiteAt a_moveAt a_takenBlack a_takenWhite a_chaseBlack a_chaseWhite a_aheadBlack a_aheadWhite a_hasAhead a_breathsLeft a_laidBlack a_laidWhite a_answersLeft a_firstAnswer a_answering a_next) (td_X7 cA) [.ref (ad 0), .long a0]) (vp_Sl (fun x => x = q)) 0 0 (fun _ => False) := by
  refine mkP_l (cc := cX7_around) (nL := 6) (by decide) rfl (Nat.le_of_ble_eq_true rfl) ?_
  intro p e R s m args below meth c H Q ls hRf hRl S hN hP hK hl kret
  have hl : lv_has ls 6 [(0, .ref (ad 0)), (1, .long a0)] := hl
  obtain ⟨hx, hb, hml, hown, hts⟩ := S
  have hown : s.vm.findClass RX7 = some m.cls := hown
  have S : CallFix p m c cX7_around 6 s args wsX7_around RX7 := ⟨hx, hb, hml, hown, hts⟩
  have huX7 : ∀ w ∈ u_ws RX7 TX7 29, w ∈ wsX7_around := by decide +kernel
  have hf16 := hts (.fieldLink RX7 16 "EyeBoardModel" "neighbours" "[J") (by decide +kernel)
  unfold f_X7_around at hr
  refine lv_lconst (v := (0 : Int64)) hx hb dX7_around_0 (by decide) ?_
  refine lv_lstore_n (lv' := [(3, .long (0 : Int64)), (0, .ref (ad 0)), (1, .long a0)]) hx hb dX7_around_1 rfl hl (by decide) rfl (fun ls hl => ?_)
  refine lv_iconst (v := (0 : Int32)) hx hb dX7_around_2 (by decide) ?_
  refine lv_istore (lv' := [(5, .int (0 : Int32)), (3, .long (0 : Int64)), (0, .ref (ad 0)), (1, .long a0)]) hx hb dX7_around_3 hl (by decide) rfl (fun ls hl => ?_)
  have llp_X7_around_5 : ∀ (nF : Nat) (v1 : Int64) (v2 : Int32) , lp_X7_around_5 mo_wide mo_high a_neighbours a0 nF v1 v2 = some q → ∀ (ls : Array Slot), lv_has ls 6 [(0, .ref (ad 0)), (1, .long a0), (3, .long v1), (5, .int v2)] → W p l e R s m args below meth c H [] 0 0 Q (F0 m 5 ls []) := by
    intro nF
    induction nF with
    | zero => intro v1 v2 hr; exact absurd hr (by simp [lp_X7_around_5])
    | succ nF ih =>
      intro v1 v2 hr ls hl
      rw [lp_X7_around_5] at hr
      refine lv_iload hx hb dX7_around_5 (lv_at hl 3 rfl) ?_
      refine lv_aload_n hx hb dX7_around_7 rfl (lv_at hl 0 rfl) ?_
      obtain ⟨q3, hq3, hr⟩ := bd_use hr
      refine pcV_i (As := []) (rest := [.int v2]) S (c_X7_size l dC dI ad cA mo_wide mo_high mo_law mo_acts mo_newBlack mo_newWhite mo_taken mo_triesMany mo_isSpent mo_found a_neighbours a_act a_blackAt a_whiteAt a_moveAt a_takenBlack a_takenWhite a_chaseBlack a_chaseWhite a_aheadBlack a_aheadWhite a_hasAhead a_breathsLeft a_laidBlack a_laidWhite a_answersLeft a_firstAnswer a_answering a_next q3 hq3) (cwV 0 hts gX7_around_X7_size rfl rfl rfl (by decide +kernel) ⟨Nat.le_trans (m := rm_X7_around.frames) (by decide) hRf, Nat.le_trans (m := rm_X7_around.locals) (by decide) hRl⟩) hN hP hK ⟨Nat.zero_le _, Nat.zero_le _⟩ [0, 1, 2, 3, 4, 5, 6, 7, 8, 9, 10, 11, 12, 13, 14, 15, 16, 17, 18, 19] rfl [0, 1, 2, 3, 4, 5, 6, 7, 8, 9, 10, 11, 12, 13, 14, 15, 16, 17, 18] rfl 0 7 rfl rfl rfl hl.1 rfl (Nat.le_of_ble_eq_true rfl) dX7_around_8 ?_
      refine lv_icmp_ge (tgt := 45) hx hb dX7_around_11 (by decide) (fun c4 => ?_) (fun c4 => ?_)
      · have hr := ite_p hr c4
        refine lv_lload_n hx hb dX7_around_45 rfl (lv_at hl 2 rfl) ?_
        obtain rfl := Option.some.inj hr
        exact kret _ _ dX7_around_46
      · have hr := ite_n hr c4
        refine lv_lload_n hx hb dX7_around_14 rfl (lv_at hl 2 rfl) ?_
        refine lv_lload_n hx hb dX7_around_15 rfl (lv_at hl 1 rfl) ?_
        refine lv_iload hx hb dX7_around_16 (lv_at hl 3 rfl) ?_
        refine lv_lshr (v := jshr a0 v2) hx hb dX7_around_18 rfl ?_
        refine lv_lconst (v := (1 : Int64)) hx hb dX7_around_19 (by decide) ?_
        refine lv_land hx hb dX7_around_20 ?_
        refine lv_lconst (v := (1 : Int64)) hx hb dX7_around_21 (by decide) ?_
        refine W.lcmp hx hb dX7_around_22 ?_
        refine lv_if_ne (tgt := 36) hx hb dX7_around_23 (by decide) (fun c5 => ?_) (fun c5 => ?_)
        · have c5 := cmp_f c5
          have hr := ite_n hr c5
          refine lv_lconst (v := (0 : Int64)) hx hb dX7_around_36 (by decide) ?_
          refine lv_lor hx hb dX7_around_37 ?_
          refine lv_topl (fun x6 ex6 => ?_)
          have hr := nm_use hr ex6
          refine lv_lstore_n (lv' := [(3, .long x6), (0, .ref (ad 0)), (1, .long a0), (5, .int v2)]) hx hb dX7_around_38 rfl hl (by decide) rfl (fun ls hl => ?_)
          obtain ⟨x7, ex7, hr⟩ := nm_ex hr
          refine lv_iinc (v := x7) (lv' := [(5, .int x7), (3, .long x6), (0, .ref (ad 0)), (1, .long a0)]) hx hb dX7_around_39 hl (k := 3) rfl (by rw [ex7]; rfl) (by decide) rfl (fun ls hl => ?_)
          refine lv_goto (tgt := 5) hx hb dX7_around_42 (by decide) ?_
          exact ih x6 x7 hr ls (lv_sub hl [2, 3, 1, 0] rfl)
        · have c5 := cmp_t c5
          have hr := ite_p hr c5
          refine lv_aload_n hx hb dX7_around_26 rfl (lv_at hl 0 rfl) ?_
          refine va_get (D := (dC, dI)) (ci := 7) (v := .ref (ad 1)) (C := RX7) (T := TX7) (N := 29) hx hb hts huX7 hown hK hP 0 rfl rfl 3 (by decide) hf16 (fun _ h9 => h9) rfl dX7_around_27 ?_
          refine lv_iload hx hb dX7_around_30 (lv_at hl 3 rfl) ?_
          obtain ⟨hi8, hr⟩ := ite_g hr
          refine va_lald hx hb hK hP 1 0 rfl rfl hi8 dX7_around_32 ?_
          refine lv_goto (tgt := 37) hx hb dX7_around_33 (by decide) ?_
          refine lv_lor hx hb dX7_around_37 ?_
          refine lv_topl (fun x9 ex9 => ?_)
          have hr := nm_use hr ex9
          refine lv_lstore_n (lv' := [(3, .long x9), (0, .ref (ad 0)), (1, .long a0), (5, .int v2)]) hx hb dX7_around_38 rfl hl (by decide) rfl (fun ls hl => ?_)
          obtain ⟨x10, ex10, hr⟩ := nm_ex hr
          refine lv_iinc (v := x10) (lv' := [(5, .int x10), (3, .long x9), (0, .ref (ad 0)), (1, .long a0)]) hx hb dX7_around_39 hl (k := 3) rfl (by rw [ex10]; rfl) (by decide) rfl (fun ls hl => ?_)
          refine lv_goto (tgt := 5) hx hb dX7_around_42 (by decide) ?_
          exact ih x9 x10 hr ls (lv_sub hl [2, 3, 1, 0] rfl)
  exact llp_X7_around_5 FU (0 : Int64) (0 : Int32) hr ls (lv_sub hl [2, 3, 1, 0] rfl)

def lp_X7_spread_8 (mo_wide : Int32) (mo_high : Int32) (a_neighbours : Nat → Int64) (a1 : Int64) : Nat → Int64 → Int64 → Option (Int64)
  | 0, _, _ => none
  | nF + 1, v2, v3 =>
    if v3 = v2 then (
      some (v2)
    )
    else (
      (f_X7_around mo_wide mo_high a_neighbours v2).bind fun q5 =>
      nm (v2 ||| (q5 &&& a1)) fun x6 =>
      lp_X7_spread_8 mo_wide mo_high a_neighbours a1 nF x6 v2
    )

def f_X7_spread (mo_wide : Int32) (mo_high : Int32) (a_neighbours : Nat → Int64) (a0 : Int64) (a1 : Int64) : Option (Int64) :=
  nm (a0 &&& a1) fun x1 =>
  lp_X7_spread_8 mo_wide mo_high a_neighbours a1 FU x1 (0 : Int64)

abbrev rm_X7_spread : Room := { frames := 2, cells := 0, slots := 0, locals := 45 }
set_option maxHeartbeats 4000000 in
set_option maxRecDepth 100000 in
theorem c_X7_spread (l : Launch) (dC : Nat → ClassId) (dI : Nat → Nat → Nat) (ad : Nat → Nat) (cA : Nat → ClassId) (mo_wide mo_high mo_law mo_acts : Int32) (mo_newBlack mo_newWhite : Int64) (mo_taken mo_triesMany mo_isSpent mo_found : Int32) (a_neighbours : Nat → Int64) (a_act : Nat → Int32) (a_blackAt a_whiteAt : Nat → Int64) (a_moveAt a_takenBlack a_takenWhite : Nat → Int32) (a_chaseBlack a_chaseWhite a_aheadBlack a_aheadWhite : Nat → Int64) (a_hasAhead : Nat → Int32) (a_breathsLeft a_laidBlack a_laidWhite a_answersLeft : Nat → Int64) (a_firstAnswer a_answering a_next : Nat → Int32) (a0 : Int64) (a1 : Int64) (q : Int64) (hr : f_X7_spread mo_wide mo_high a_neighbours a0 a1 = some q) : Met l yX7_spread wsX7_spread rm_X7_spread (PrP (dC, dI) (wd_X7 ad cA mo_wide mo_high mo_law mo_acts mo_newBlack mo_newWhite mo_taken mo_triesMany mo_isSpent mo_found a_neighbours a_act a_blackAt a_whiteAt a_moveAt a_takenBlack a_takenWhite a_chaseBlack a_chaseWhite a_aheadBlack a_aheadWhite a_hasAhead a_breathsLeft a_laidBlack a_laidWhite a_answersLeft a_firstAnswer a_answering a_next) (td_X7 cA) [.ref (ad 0), .long a0, .long a1]) (vp_Sl (fun x => x = q)) 0 0 (fun _ => False) := by
  refine mkP_l (cc := cX7_spread) (nL := 9) (by decide) rfl (Nat.le_of_ble_eq_true rfl) ?_
  intro p e R s m args below meth c H Q ls hRf hRl S hN hP hK hl kret
  have hl : lv_has ls 9 [(0, .ref (ad 0)), (1, .long a0), (3, .long a1)] := hl
  obtain ⟨hx, hb, hml, hown, hts⟩ := S
  have hown : s.vm.findClass RX7 = some m.cls := hown
  have S : CallFix p m c cX7_spread 9 s args wsX7_spread RX7 := ⟨hx, hb, hml, hown, hts⟩
  unfold f_X7_spread at hr
  refine lv_lload_n hx hb dX7_spread_0 rfl (lv_at hl 1 rfl) ?_
  refine lv_lload_n hx hb dX7_spread_1 rfl (lv_at hl 2 rfl) ?_
  refine lv_land hx hb dX7_spread_2 ?_
  refine lv_topl (fun x1 ex1 => ?_)
  have hr := nm_use hr ex1
  refine lv_lstore (lv' := [(5, .long x1), (0, .ref (ad 0)), (1, .long a0), (3, .long a1)]) hx hb dX7_spread_3 hl (by decide) rfl (fun ls hl => ?_)
  refine lv_lconst (v := (0 : Int64)) hx hb dX7_spread_5 (by decide) ?_
  refine lv_lstore (lv' := [(7, .long (0 : Int64)), (5, .long x1), (0, .ref (ad 0)), (1, .long a0), (3, .long a1)]) hx hb dX7_spread_6 hl (by decide) rfl (fun ls hl => ?_)
  have llp_X7_spread_8 : ∀ (nF : Nat) (v2 : Int64) (v3 : Int64) , lp_X7_spread_8 mo_wide mo_high a_neighbours a1 nF v2 v3 = some q → ∀ (ls : Array Slot), lv_has ls 9 [(0, .ref (ad 0)), (3, .long a1), (5, .long v2), (7, .long v3)] → W p l e R s m args below meth c H [] 0 0 Q (F0 m 8 ls []) := by
    intro nF
    induction nF with
    | zero => intro v2 v3 hr; exact absurd hr (by simp [lp_X7_spread_8])
    | succ nF ih =>
      intro v2 v3 hr ls hl
      rw [lp_X7_spread_8] at hr
      refine lv_lload hx hb dX7_spread_8 (lv_at hl 3 rfl) ?_
      refine lv_lload hx hb dX7_spread_10 (lv_at hl 2 rfl) ?_
      refine W.lcmp hx hb dX7_spread_12 ?_
      refine lv_if_eq (tgt := 36) hx hb dX7_spread_13 (by decide) (fun c4 => ?_) (fun c4 => ?_)
      · have c4 := cmp_t c4
        have hr := ite_p hr c4
        refine lv_lload hx hb dX7_spread_36 (lv_at hl 2 rfl) ?_
        obtain rfl := Option.some.inj hr
        exact kret _ _ dX7_spread_38
      · have c4 := cmp_f c4
        have hr := ite_n hr c4
        refine lv_lload hx hb dX7_spread_16 (lv_at hl 2 rfl) ?_
        refine lv_lstore (lv' := [(7, .long v2), (0, .ref (ad 0)), (3, .long a1), (5, .long v2)]) hx hb dX7_spread_18 hl (by decide) rfl (fun ls hl => ?_)
        refine lv_lload hx hb dX7_spread_20 (lv_at hl 3 rfl) ?_
        refine lv_aload_n hx hb dX7_spread_22 rfl (lv_at hl 1 rfl) ?_
        refine lv_lload hx hb dX7_spread_23 (lv_at hl 3 rfl) ?_
        obtain ⟨q5, hq5, hr⟩ := bd_use hr
        refine pcV_l (As := [.long v2]) (rest := [.long v2]) S (c_X7_around l dC dI ad cA mo_wide mo_high mo_law mo_acts mo_newBlack mo_newWhite mo_taken mo_triesMany mo_isSpent mo_found a_neighbours a_act a_blackAt a_whiteAt a_moveAt a_takenBlack a_takenWhite a_chaseBlack a_chaseWhite a_aheadBlack a_aheadWhite a_hasAhead a_breathsLeft a_laidBlack a_laidWhite a_answersLeft a_firstAnswer a_answering a_next v2 q5 hq5) (cwV 1 hts gX7_spread_X7_around rfl rfl rfl (by decide +kernel) ⟨Nat.le_trans (m := rm_X7_spread.frames) (by decide) hRf, Nat.le_trans (m := rm_X7_spread.locals) (by decide) hRl⟩) hN hP hK ⟨Nat.zero_le _, Nat.zero_le _⟩ [0, 1, 2, 3, 4, 5, 6, 7, 8, 9, 10, 11, 12, 13, 14, 15, 16, 17, 18, 19] rfl [0, 1, 2, 3, 4, 5, 6, 7, 8, 9, 10, 11, 12, 13, 14, 15, 16, 17, 18] rfl 0 7 rfl rfl rfl hl.1 rfl (Nat.le_of_ble_eq_true rfl) dX7_spread_25 ?_
        refine lv_lload_n hx hb dX7_spread_28 rfl (lv_at hl 2 rfl) ?_
        refine lv_land hx hb dX7_spread_29 ?_
        refine lv_lor hx hb dX7_spread_30 ?_
        refine lv_topl (fun x6 ex6 => ?_)
        have hr := nm_use hr ex6
        refine lv_lstore (lv' := [(5, .long x6), (7, .long v2), (0, .ref (ad 0)), (3, .long a1)]) hx hb dX7_spread_31 hl (by decide) rfl (fun ls hl => ?_)
        refine lv_goto (tgt := 8) hx hb dX7_spread_33 (by decide) ?_
        exact ih x6 v2 hr ls (lv_sub hl [2, 3, 0, 1] rfl)
  exact llp_X7_spread_8 FU x1 (0 : Int64) hr ls (lv_sub hl [2, 4, 1, 0] rfl)

def f_X7_all (mo_wide : Int32) (mo_high : Int32)  : Option (Int64) :=
  (f_X7_size mo_wide mo_high).bind fun q1 =>
  some ((jshl (1 : Int64) q1) - (1 : Int64))

abbrev rm_X7_all : Room := { frames := 1, cells := 0, slots := 0, locals := 20 }
set_option maxHeartbeats 4000000 in
set_option maxRecDepth 100000 in
theorem c_X7_all (l : Launch) (dC : Nat → ClassId) (dI : Nat → Nat → Nat) (ad : Nat → Nat) (cA : Nat → ClassId) (mo_wide mo_high mo_law mo_acts : Int32) (mo_newBlack mo_newWhite : Int64) (mo_taken mo_triesMany mo_isSpent mo_found : Int32) (a_neighbours : Nat → Int64) (a_act : Nat → Int32) (a_blackAt a_whiteAt : Nat → Int64) (a_moveAt a_takenBlack a_takenWhite : Nat → Int32) (a_chaseBlack a_chaseWhite a_aheadBlack a_aheadWhite : Nat → Int64) (a_hasAhead : Nat → Int32) (a_breathsLeft a_laidBlack a_laidWhite a_answersLeft : Nat → Int64) (a_firstAnswer a_answering a_next : Nat → Int32)  (q : Int64) (hr : f_X7_all mo_wide mo_high  = some q) : Met l yX7_all wsX7_all rm_X7_all (PrP (dC, dI) (wd_X7 ad cA mo_wide mo_high mo_law mo_acts mo_newBlack mo_newWhite mo_taken mo_triesMany mo_isSpent mo_found a_neighbours a_act a_blackAt a_whiteAt a_moveAt a_takenBlack a_takenWhite a_chaseBlack a_chaseWhite a_aheadBlack a_aheadWhite a_hasAhead a_breathsLeft a_laidBlack a_laidWhite a_answersLeft a_firstAnswer a_answering a_next) (td_X7 cA) [.ref (ad 0)]) (vp_Sl (fun x => x = q)) 0 0 (fun _ => False) := by
  refine mkP_l (cc := cX7_all) (nL := 1) (by decide) rfl (Nat.le_of_ble_eq_true rfl) ?_
  intro p e R s m args below meth c H Q ls hRf hRl S hN hP hK hl kret
  have hl : lv_has ls 1 [(0, .ref (ad 0))] := hl
  obtain ⟨hx, hb, hml, hown, hts⟩ := S
  have hown : s.vm.findClass RX7 = some m.cls := hown
  have S : CallFix p m c cX7_all 1 s args wsX7_all RX7 := ⟨hx, hb, hml, hown, hts⟩
  unfold f_X7_all at hr
  refine lv_lconst (v := (1 : Int64)) hx hb dX7_all_0 (by decide) ?_
  refine lv_aload_n hx hb dX7_all_1 rfl (lv_at hl 0 rfl) ?_
  obtain ⟨q1, hq1, hr⟩ := bd_use hr
  refine pcV_i (As := []) (rest := [.long (1 : Int64)]) S (c_X7_size l dC dI ad cA mo_wide mo_high mo_law mo_acts mo_newBlack mo_newWhite mo_taken mo_triesMany mo_isSpent mo_found a_neighbours a_act a_blackAt a_whiteAt a_moveAt a_takenBlack a_takenWhite a_chaseBlack a_chaseWhite a_aheadBlack a_aheadWhite a_hasAhead a_breathsLeft a_laidBlack a_laidWhite a_answersLeft a_firstAnswer a_answering a_next q1 hq1) (cwV 0 hts gX7_all_X7_size rfl rfl rfl (by decide +kernel) ⟨Nat.le_trans (m := rm_X7_all.frames) (by decide) hRf, Nat.le_trans (m := rm_X7_all.locals) (by decide) hRl⟩) hN hP hK ⟨Nat.zero_le _, Nat.zero_le _⟩ [0, 1, 2, 3, 4, 5, 6, 7, 8, 9, 10, 11, 12, 13, 14, 15, 16, 17, 18, 19] rfl [0, 1, 2, 3, 4, 5, 6, 7, 8, 9, 10, 11, 12, 13, 14, 15, 16, 17, 18] rfl 0 7 rfl rfl rfl hl.1 rfl (Nat.le_of_ble_eq_true rfl) dX7_all_2 ?_
  refine lv_lshl (v := jshl (1 : Int64) q1) hx hb dX7_all_5 rfl ?_
  refine lv_lconst (v := (1 : Int64)) hx hb dX7_all_6 (by decide) ?_
  refine lv_lsub hx hb dX7_all_7 ?_
  obtain rfl := Option.some.inj hr
  exact kret _ _ dX7_all_8

def f_X7_free (mo_wide : Int32) (mo_high : Int32) (a0 : Int64) (a1 : Int64) : Option (Int64) :=
  (f_X7_all mo_wide mo_high).bind fun q1 =>
  some ((q1 &&& (a0 ^^^ (-1 : Int64))) &&& (a1 ^^^ (-1 : Int64)))

abbrev rm_X7_free : Room := { frames := 2, cells := 0, slots := 0, locals := 40 }
set_option maxHeartbeats 4000000 in
set_option maxRecDepth 100000 in
theorem c_X7_free (l : Launch) (dC : Nat → ClassId) (dI : Nat → Nat → Nat) (ad : Nat → Nat) (cA : Nat → ClassId) (mo_wide mo_high mo_law mo_acts : Int32) (mo_newBlack mo_newWhite : Int64) (mo_taken mo_triesMany mo_isSpent mo_found : Int32) (a_neighbours : Nat → Int64) (a_act : Nat → Int32) (a_blackAt a_whiteAt : Nat → Int64) (a_moveAt a_takenBlack a_takenWhite : Nat → Int32) (a_chaseBlack a_chaseWhite a_aheadBlack a_aheadWhite : Nat → Int64) (a_hasAhead : Nat → Int32) (a_breathsLeft a_laidBlack a_laidWhite a_answersLeft : Nat → Int64) (a_firstAnswer a_answering a_next : Nat → Int32) (a0 : Int64) (a1 : Int64) (q : Int64) (hr : f_X7_free mo_wide mo_high a0 a1 = some q) : Met l yX7_free wsX7_free rm_X7_free (PrP (dC, dI) (wd_X7 ad cA mo_wide mo_high mo_law mo_acts mo_newBlack mo_newWhite mo_taken mo_triesMany mo_isSpent mo_found a_neighbours a_act a_blackAt a_whiteAt a_moveAt a_takenBlack a_takenWhite a_chaseBlack a_chaseWhite a_aheadBlack a_aheadWhite a_hasAhead a_breathsLeft a_laidBlack a_laidWhite a_answersLeft a_firstAnswer a_answering a_next) (td_X7 cA) [.ref (ad 0), .long a0, .long a1]) (vp_Sl (fun x => x = q)) 0 0 (fun _ => False) := by
  refine mkP_l (cc := cX7_free) (nL := 5) (by decide) rfl (Nat.le_of_ble_eq_true rfl) ?_
  intro p e R s m args below meth c H Q ls hRf hRl S hN hP hK hl kret
  have hl : lv_has ls 5 [(0, .ref (ad 0)), (1, .long a0), (3, .long a1)] := hl
  obtain ⟨hx, hb, hml, hown, hts⟩ := S
  have hown : s.vm.findClass RX7 = some m.cls := hown
  have S : CallFix p m c cX7_free 5 s args wsX7_free RX7 := ⟨hx, hb, hml, hown, hts⟩
  have hk105 := hts (.constantLong RX7 105 (-1 : Int64)) (by decide +kernel)
  unfold f_X7_free at hr
  refine lv_aload_n hx hb dX7_free_0 rfl (lv_at hl 0 rfl) ?_
  obtain ⟨q1, hq1, hr⟩ := bd_use hr
  refine pcV_l (As := []) (rest := []) S (c_X7_all l dC dI ad cA mo_wide mo_high mo_law mo_acts mo_newBlack mo_newWhite mo_taken mo_triesMany mo_isSpent mo_found a_neighbours a_act a_blackAt a_whiteAt a_moveAt a_takenBlack a_takenWhite a_chaseBlack a_chaseWhite a_aheadBlack a_aheadWhite a_hasAhead a_breathsLeft a_laidBlack a_laidWhite a_answersLeft a_firstAnswer a_answering a_next q1 hq1) (cwV 0 hts gX7_free_X7_all rfl rfl rfl (by decide +kernel) ⟨Nat.le_trans (m := rm_X7_free.frames) (by decide) hRf, Nat.le_trans (m := rm_X7_free.locals) (by decide) hRl⟩) hN hP hK ⟨Nat.zero_le _, Nat.zero_le _⟩ [0, 1, 2, 3, 4, 5, 6, 7, 8, 9, 10, 11, 12, 13, 14, 15, 16, 17, 18, 19] rfl [0, 1, 2, 3, 4, 5, 6, 7, 8, 9, 10, 11, 12, 13, 14, 15, 16, 17, 18] rfl 0 7 rfl rfl rfl hl.1 rfl (Nat.le_of_ble_eq_true rfl) dX7_free_1 ?_
  refine lv_lload_n hx hb dX7_free_4 rfl (lv_at hl 1 rfl) ?_
  refine W.ldc2 (v := (-1 : Int64)) hx hb hown hk105 rfl dX7_free_5 ?_
  refine W.eq (g2 := F0 m 8 ls [.long (-1 : Int64), .long a0, .long q1]) rfl ?_
  refine lv_lxor hx hb dX7_free_8 ?_
  refine lv_land hx hb dX7_free_9 ?_
  refine lv_lload_n hx hb dX7_free_10 rfl (lv_at hl 2 rfl) ?_
  refine W.ldc2 (v := (-1 : Int64)) hx hb hown hk105 rfl dX7_free_11 ?_
  refine W.eq (g2 := F0 m 14 ls [.long (-1 : Int64), .long a1, .long (q1 &&& (a0 ^^^ (-1 : Int64)))]) rfl ?_
  refine lv_lxor hx hb dX7_free_14 ?_
  refine lv_land hx hb dX7_free_15 ?_
  obtain rfl := Option.some.inj hr
  exact kret _ _ dX7_free_16

def f_X7_other  (a0 : Int32) : Option (Int32) :=
  some ((3 : Int32) - a0)

abbrev rm_X7_other : Room := { frames := 0, cells := 0, slots := 0, locals := 0 }
set_option maxHeartbeats 4000000 in
set_option maxRecDepth 100000 in
theorem c_X7_other (l : Launch) (dC : Nat → ClassId) (dI : Nat → Nat → Nat)  (a0 : Int32) (q : Int32) (hr : f_X7_other  a0 = some q) : Met l yX7_other wsX7_other rm_X7_other (PrP (dC, dI) [] [] [.int a0]) (vp_Si (fun x => x = q)) 0 0 (fun _ => False) := by
  refine mkP_i (cc := cX7_other) (nL := 1) (by decide) rfl (Nat.le_of_ble_eq_true rfl) ?_
  intro p e R s m args below meth c H Q ls hRf hRl S hN hP hK hl kret
  have hl : lv_has ls 1 [(0, .int a0)] := hl
  obtain ⟨hx, hb, hml, hown, hts⟩ := S
  have hown : s.vm.findClass RX7 = some m.cls := hown
  have S : CallFix p m c cX7_other 1 s args wsX7_other RX7 := ⟨hx, hb, hml, hown, hts⟩
  unfold f_X7_other at hr
  refine lv_iconst (v := (3 : Int32)) hx hb dX7_other_0 (by decide) ?_
  refine lv_iload_n hx hb dX7_other_1 rfl (lv_at hl 0 rfl) ?_
  refine lv_isub hx hb dX7_other_2 ?_
  obtain rfl := Option.some.inj hr
  exact kret _ _ dX7_other_3

def lp_X7_laid_67 (mo_wide : Int32) (mo_high : Int32) (a_neighbours : Nat → Int64) (a3 : Int32) (x5 : Int64) (u6 : Int64) (K11 : Int64 → Option (Int32 × Int64 × Int64 × Int32)) : Nat → Int64 → Int32 → Option (Int32 × Int64 × Int64 × Int32)
  | 0, _, _ => none
  | nF + 1, v24, v25 =>
    if v25 = (-1 : Int32) then (
      K11 v24
    )
    else (
      (f_X7_spread mo_wide mo_high a_neighbours (jshl (1 : Int64) v25) u6).bind fun q27 =>
      (f_X7_around mo_wide mo_high a_neighbours q27).bind fun q28 =>
      (f_X7_all mo_wide mo_high).bind fun q29 =>
      nm (fun (u30 : Int64) =>
      nm (v24 ||| u30) fun x32 =>
      if (a3 < 0 ∨ 49 ≤ a3.toNatClampNeg) then none else
      (f_X7_least ((a_neighbours a3.toNatClampNeg) &&& u6) (v25 + (1 : Int32))).bind fun q34 =>
      lp_X7_laid_67 mo_wide mo_high a_neighbours a3 x5 u6 K11 nF x32 q34
      ) fun K31 =>
      if ((q28 &&& q29) &&& (x5 ^^^ (-1 : Int64))) &&& (u6 ^^^ (-1 : Int64)) = (0 : Int64) then (
        K31 q27
      )
      else (
        K31 (0 : Int64)
      )
    )

def f_X7_laid (mo_wide : Int32) (mo_high : Int32) (mo_newBlack : Int64) (mo_newWhite : Int64) (mo_taken : Int32) (a_neighbours : Nat → Int64) (a0 : Int64) (a1 : Int64) (a2 : Int32) (a3 : Int32) : Option (Int32 × Int64 × Int64 × Int32) :=
  nm (jshl (1 : Int64) a3) fun x1 =>
  if (a0 ||| a1) &&& x1 = (0 : Int64) then (
    nm (fun (u3 : Int64) =>
    nm (u3 ||| x1) fun x5 =>
    nm (fun (u6 : Int64) =>
    if (a3 < 0 ∨ 49 ≤ a3.toNatClampNeg) then none else
    (f_X7_least ((a_neighbours a3.toNatClampNeg) &&& u6) (0 : Int32)).bind fun q9 =>
    nm (fun (v10 : Int64) =>
    nm (u6 &&& (v10 ^^^ (-1 : Int64))) fun x12 =>
    (f_X7_many v10).bind fun q13 =>
    nm (fun (u14 : Int64) =>
    nm (fun (u16 : Int64) =>
    (f_X7_spread mo_wide mo_high a_neighbours x1 x5).bind fun q18 =>
    (f_X7_around mo_wide mo_high a_neighbours q18).bind fun q19 =>
    (f_X7_free mo_wide mo_high u14 u16).bind fun q20 =>
    if q19 &&& q20 = (0 : Int64) then (
      some ((2 : Int32), u14, u16, q13)
    )
    else (
      some ((0 : Int32), u14, u16, q13)
    )
    ) fun K17 =>
    if a2 = (1 : Int32) then (
      K17 x12
    )
    else (
      K17 x5
    )
    ) fun K15 =>
    if a2 = (1 : Int32) then (
      K15 x5
    )
    else (
      K15 x12
    )
    ) fun K11 =>
    lp_X7_laid_67 mo_wide mo_high a_neighbours a3 x5 u6 K11 FU (0 : Int64) q9
    ) fun K7 =>
    if a2 = (1 : Int32) then (
      K7 a1
    )
    else (
      K7 a0
    )
    ) fun K4 =>
    if a2 = (1 : Int32) then (
      K4 a0
    )
    else (
      K4 a1
    )
  )
  else (
    some ((1 : Int32), mo_newBlack, mo_newWhite, mo_taken)
  )

abbrev rm_X7_laid : Room := { frames := 3, cells := 0, slots := 0, locals := 73 }
set_option maxHeartbeats 4000000 in
set_option maxRecDepth 100000 in
theorem c_X7_laid (l : Launch) (dC : Nat → ClassId) (dI : Nat → Nat → Nat) (ad : Nat → Nat) (cA : Nat → ClassId) (mo_wide mo_high mo_law mo_acts : Int32) (mo_newBlack mo_newWhite : Int64) (mo_taken mo_triesMany mo_isSpent mo_found : Int32) (a_neighbours : Nat → Int64) (a_act : Nat → Int32) (a_blackAt a_whiteAt : Nat → Int64) (a_moveAt a_takenBlack a_takenWhite : Nat → Int32) (a_chaseBlack a_chaseWhite a_aheadBlack a_aheadWhite : Nat → Int64) (a_hasAhead : Nat → Int32) (a_breathsLeft a_laidBlack a_laidWhite a_answersLeft : Nat → Int64) (a_firstAnswer a_answering a_next : Nat → Int32) (sz : Nat) (a0 : Int64) (a1 : Int64) (a2 : Int32) (a3 : Int32) (q : Int32 × Int64 × Int64 × Int32) (hr : f_X7_laid mo_wide mo_high mo_newBlack mo_newWhite mo_taken a_neighbours a0 a1 a2 a3 = some q) : Met l yX7_laid wsX7_laid rm_X7_laid (PrI (dC, dI) (wd_X7 ad cA mo_wide mo_high mo_law mo_acts mo_newBlack mo_newWhite mo_taken mo_triesMany mo_isSpent mo_found a_neighbours a_act a_blackAt a_whiteAt a_moveAt a_takenBlack a_takenWhite a_chaseBlack a_chaseWhite a_aheadBlack a_aheadWhite a_hasAhead a_breathsLeft a_laidBlack a_laidWhite a_answersLeft a_firstAnswer a_answering a_next) (td_X7 cA) sz [.ref (ad 0), .long a0, .long a1, .int a2, .int a3]) (QIi (dC, dI) (wd_X7 ad cA mo_wide mo_high mo_law mo_acts mo_newBlack mo_newWhite mo_taken mo_triesMany mo_isSpent mo_found a_neighbours a_act a_blackAt a_whiteAt a_moveAt a_takenBlack a_takenWhite a_chaseBlack a_chaseWhite a_aheadBlack a_aheadWhite a_hasAhead a_breathsLeft a_laidBlack a_laidWhite a_answersLeft a_firstAnswer a_answering a_next) (td_X7 cA) sz q.1 (wd_X7 ad cA mo_wide mo_high mo_law mo_acts q.2.1 q.2.2.1 q.2.2.2 mo_triesMany mo_isSpent mo_found a_neighbours a_act a_blackAt a_whiteAt a_moveAt a_takenBlack a_takenWhite a_chaseBlack a_chaseWhite a_aheadBlack a_aheadWhite a_hasAhead a_breathsLeft a_laidBlack a_laidWhite a_answersLeft a_firstAnswer a_answering a_next)) 0 0 (va_A (wd_X7 ad cA mo_wide mo_high mo_law mo_acts mo_newBlack mo_newWhite mo_taken mo_triesMany mo_isSpent mo_found a_neighbours a_act a_blackAt a_whiteAt a_moveAt a_takenBlack a_takenWhite a_chaseBlack a_chaseWhite a_aheadBlack a_aheadWhite a_hasAhead a_breathsLeft a_laidBlack a_laidWhite a_answersLeft a_firstAnswer a_answering a_next) sz) := by
  refine mkI_i (cc := cX7_laid) (nL := 18) (by decide) rfl (Nat.le_of_ble_eq_true rfl) ?_
  intro p e R s m args below meth c H0 H locs A Q ls hRf hRl S hN hP hK hD hA hS hl kret
  have hl : lv_has ls 18 [(0, .ref (ad 0)), (1, .long a0), (3, .long a1), (5, .int a2), (6, .int a3)] := hl
  obtain ⟨hx, hb, hml, hown, hts⟩ := S
  have hown : s.vm.findClass RX7 = some m.cls := hown
  have S : CallFix p m c cX7_laid 18 s args wsX7_laid RX7 := ⟨hx, hb, hml, hown, hts⟩
  have huX7 : ∀ w ∈ u_ws RX7 TX7 29, w ∈ wsX7_laid := by decide +kernel
  have hf16 := hts (.fieldLink RX7 16 "EyeBoardModel" "neighbours" "[J") (by decide +kernel)
  have hk105 := hts (.constantLong RX7 105 (-1 : Int64)) (by decide +kernel)
  have hf119 := hts (.fieldLink RX7 119 "EyeBoardModel" "taken" "I") (by decide +kernel)
  have hf122 := hts (.fieldLink RX7 122 "EyeBoardModel" "newBlack" "J") (by decide +kernel)
  have hf126 := hts (.fieldLink RX7 126 "EyeBoardModel" "newWhite" "J") (by decide +kernel)
  unfold f_X7_laid at hr
  refine lv_lconst (v := (1 : Int64)) hx hb dX7_laid_0 (by decide) ?_
  refine lv_iload hx hb dX7_laid_1 (lv_at hl 4 rfl) ?_
  refine lv_lshl (v := jshl (1 : Int64) a3) hx hb dX7_laid_3 rfl ?_
  refine lv_topl (fun x1 ex1 => ?_)
  have hr := nm_use hr ex1
  refine lv_lstore (lv' := [(7, .long x1), (0, .ref (ad 0)), (1, .long a0), (3, .long a1), (5, .int a2), (6, .int a3)]) hx hb dX7_laid_4 hl (by decide) rfl (fun ls hl => ?_)
  refine lv_lload_n hx hb dX7_laid_6 rfl (lv_at hl 2 rfl) ?_
  refine lv_lload_n hx hb dX7_laid_7 rfl (lv_at hl 3 rfl) ?_
  refine lv_lor hx hb dX7_laid_8 ?_
  refine lv_lload hx hb dX7_laid_9 (lv_at hl 0 rfl) ?_
  refine lv_land hx hb dX7_laid_11 ?_
  refine lv_lconst (v := (0 : Int64)) hx hb dX7_laid_12 (by decide) ?_
  refine W.lcmp hx hb dX7_laid_13 ?_
  refine lv_if_eq (tgt := 19) hx hb dX7_laid_14 (by decide) (fun c2 => ?_) (fun c2 => ?_)
  · have c2 := cmp_t c2
    have hr := ite_p hr c2
    refine lv_iload hx hb dX7_laid_19 (lv_at hl 4 rfl) ?_
    refine lv_iconst (v := (1 : Int32)) hx hb dX7_laid_21 (by decide) ?_
    obtain ⟨K4, eK4, hr⟩ := nm_ex hr
    have kK4 : ∀ (u3 : Int64) (H : Heap) (locs : List Loc) , K4 u3 = some q → va_P (dC, dI) vwCl (wd_X7 ad cA mo_wide mo_high mo_law mo_acts mo_newBlack mo_newWhite mo_taken mo_triesMany mo_isSpent mo_found a_neighbours a_act a_blackAt a_whiteAt a_moveAt a_takenBlack a_takenWhite a_chaseBlack a_chaseWhite a_aheadBlack a_aheadWhite a_hasAhead a_breathsLeft a_laidBlack a_laidWhite a_answersLeft a_firstAnswer a_answering a_next) H → va_D A (wd_X7 ad cA mo_wide mo_high mo_law mo_acts mo_newBlack mo_newWhite mo_taken mo_triesMany mo_isSpent mo_found a_neighbours a_act a_blackAt a_whiteAt a_moveAt a_takenBlack a_takenWhite a_chaseBlack a_chaseWhite a_aheadBlack a_aheadWhite a_hasAhead a_breathsLeft a_laidBlack a_laidWhite a_answersLeft a_firstAnswer a_answering a_next) → va_S A H0 H locs → ∀ (ls : Array Slot), lv_has ls 18 [(0, .ref (ad 0)), (1, .long a0), (3, .long a1), (5, .int a2), (6, .int a3), (7, .long x1)] → W p l e R s m args below meth c H locs 0 0 Q (F0 m 30 ls [.long u3]) := by
      intro u3 H locs hr hP hD hS ls hl
      rw [eK4] at hr
      refine lv_lload hx hb dX7_laid_30 (lv_at hl 5 rfl) ?_
      refine lv_lor hx hb dX7_laid_32 ?_
      refine lv_topl (fun x5 ex5 => ?_)
      have hr := nm_use hr ex5
      refine lv_lstore (lv' := [(9, .long x5), (0, .ref (ad 0)), (1, .long a0), (3, .long a1), (5, .int a2), (6, .int a3), (7, .long x1)]) hx hb dX7_laid_33 hl (by decide) rfl (fun ls hl => ?_)
      refine lv_iload hx hb dX7_laid_35 (lv_at hl 4 rfl) ?_
      refine lv_iconst (v := (1 : Int32)) hx hb dX7_laid_37 (by decide) ?_
      obtain ⟨K7, eK7, hr⟩ := nm_ex hr
      have kK7 : ∀ (u6 : Int64) (H : Heap) (locs : List Loc) , K7 u6 = some q → va_P (dC, dI) vwCl (wd_X7 ad cA mo_wide mo_high mo_law mo_acts mo_newBlack mo_newWhite mo_taken mo_triesMany mo_isSpent mo_found a_neighbours a_act a_blackAt a_whiteAt a_moveAt a_takenBlack a_takenWhite a_chaseBlack a_chaseWhite a_aheadBlack a_aheadWhite a_hasAhead a_breathsLeft a_laidBlack a_laidWhite a_answersLeft a_firstAnswer a_answering a_next) H → va_D A (wd_X7 ad cA mo_wide mo_high mo_law mo_acts mo_newBlack mo_newWhite mo_taken mo_triesMany mo_isSpent mo_found a_neighbours a_act a_blackAt a_whiteAt a_moveAt a_takenBlack a_takenWhite a_chaseBlack a_chaseWhite a_aheadBlack a_aheadWhite a_hasAhead a_breathsLeft a_laidBlack a_laidWhite a_answersLeft a_firstAnswer a_answering a_next) → va_S A H0 H locs → ∀ (ls : Array Slot), lv_has ls 18 [(0, .ref (ad 0)), (5, .int a2), (6, .int a3), (7, .long x1), (9, .long x5)] → W p l e R s m args below meth c H locs 0 0 Q (F0 m 46 ls [.long u6]) := by
        intro u6 H locs hr hP hD hS ls hl
        rw [eK7] at hr
        refine lv_lstore (lv' := [(11, .long u6), (0, .ref (ad 0)), (5, .int a2), (6, .int a3), (7, .long x1), (9, .long x5)]) hx hb dX7_laid_46 hl (by decide) rfl (fun ls hl => ?_)
        refine lv_lconst (v := (0 : Int64)) hx hb dX7_laid_48 (by decide) ?_
        refine lv_lstore (lv' := [(13, .long (0 : Int64)), (11, .long u6), (0, .ref (ad 0)), (5, .int a2), (6, .int a3), (7, .long x1), (9, .long x5)]) hx hb dX7_laid_49 hl (by decide) rfl (fun ls hl => ?_)
        refine lv_aload_n hx hb dX7_laid_51 rfl (lv_at hl 2 rfl) ?_
        refine va_get (D := (dC, dI)) (ci := 7) (v := .ref (ad 1)) (C := RX7) (T := TX7) (N := 29) hx hb hts huX7 hown hK hP 0 rfl rfl 3 (by decide) hf16 (fun _ h9 => h9) rfl dX7_laid_52 ?_
        refine lv_iload hx hb dX7_laid_55 (lv_at hl 4 rfl) ?_
        obtain ⟨hi8, hr⟩ := ite_g hr
        refine va_lald hx hb hK hP 1 0 rfl rfl hi8 dX7_laid_57 ?_
        refine lv_lload hx hb dX7_laid_58 (lv_at hl 1 rfl) ?_
        refine lv_land hx hb dX7_laid_60 ?_
        refine lv_iconst (v := (0 : Int32)) hx hb dX7_laid_61 (by decide) ?_
        obtain ⟨q9, hq9, hr⟩ := bd_use hr
        refine pcS_i (As := [.long ((a_neighbours a3.toNatClampNeg) &&& u6), .int (0 : Int32)]) (rest := []) S (c_X7_least l dC dI ((a_neighbours a3.toNatClampNeg) &&& u6) (0 : Int32) q9 hq9) (va_cwS 2 hts gX7_laid_X7_least rfl rfl rfl (by decide +kernel) ⟨Nat.le_trans (m := rm_X7_laid.frames) (by decide) hRf, Nat.le_trans (m := rm_X7_laid.locals) (by decide) hRl⟩) hN hP hK ⟨Nat.zero_le _, Nat.zero_le _⟩ rfl hl.1 rfl (Nat.le_of_ble_eq_true rfl) dX7_laid_62 ?_
        refine lv_istore (lv' := [(15, .int q9), (13, .long (0 : Int64)), (11, .long u6), (0, .ref (ad 0)), (5, .int a2), (6, .int a3), (7, .long x1), (9, .long x5)]) hx hb dX7_laid_65 hl (by decide) rfl (fun ls hl => ?_)
        obtain ⟨K11, eK11, hr⟩ := nm_ex hr
        have kK11 : ∀ (v10 : Int64) (H : Heap) (locs : List Loc) , K11 v10 = some q → va_P (dC, dI) vwCl (wd_X7 ad cA mo_wide mo_high mo_law mo_acts mo_newBlack mo_newWhite mo_taken mo_triesMany mo_isSpent mo_found a_neighbours a_act a_blackAt a_whiteAt a_moveAt a_takenBlack a_takenWhite a_chaseBlack a_chaseWhite a_aheadBlack a_aheadWhite a_hasAhead a_breathsLeft a_laidBlack a_laidWhite a_answersLeft a_firstAnswer a_answering a_next) H → va_D A (wd_X7 ad cA mo_wide mo_high mo_law mo_acts mo_newBlack mo_newWhite mo_taken mo_triesMany mo_isSpent mo_found a_neighbours a_act a_blackAt a_whiteAt a_moveAt a_takenBlack a_takenWhite a_chaseBlack a_chaseWhite a_aheadBlack a_aheadWhite a_hasAhead a_breathsLeft a_laidBlack a_laidWhite a_answersLeft a_firstAnswer a_answering a_next) → va_S A H0 H locs → ∀ (ls : Array Slot), lv_has ls 18 [(0, .ref (ad 0)), (5, .int a2), (7, .long x1), (9, .long x5), (11, .long u6), (13, .long v10)] → W p l e R s m args below meth c H locs 0 0 Q (F0 m 148 ls []) := by
          intro v10 H locs hr hP hD hS ls hl
          rw [eK11] at hr
          refine lv_lload hx hb dX7_laid_148 (lv_at hl 4 rfl) ?_
          refine lv_lload hx hb dX7_laid_150 (lv_at hl 5 rfl) ?_
          refine W.ldc2 (v := (-1 : Int64)) hx hb hown hk105 rfl dX7_laid_152 ?_
          refine W.eq (g2 := F0 m 155 ls [.long (-1 : Int64), .long v10, .long u6]) rfl ?_
          refine lv_lxor hx hb dX7_laid_155 ?_
          refine lv_land hx hb dX7_laid_156 ?_
          refine lv_topl (fun x12 ex12 => ?_)
          have hr := nm_use hr ex12
          refine lv_lstore (lv' := [(11, .long x12), (0, .ref (ad 0)), (5, .int a2), (7, .long x1), (9, .long x5), (13, .long v10)]) hx hb dX7_laid_157 hl (by decide) rfl (fun ls hl => ?_)
          refine lv_aload_n hx hb dX7_laid_159 rfl (lv_at hl 1 rfl) ?_
          refine lv_lload hx hb dX7_laid_160 (lv_at hl 5 rfl) ?_
          obtain ⟨q13, hq13, hr⟩ := bd_use hr
          refine pcS_i (As := [.long v10]) (rest := [.ref (ad 0)]) S (c_X7_many l dC dI v10 q13 hq13) (va_cwS 1 hts gX7_laid_X7_many rfl rfl rfl (by decide +kernel) ⟨Nat.le_trans (m := rm_X7_laid.frames) (by decide) hRf, Nat.le_trans (m := rm_X7_laid.locals) (by decide) hRl⟩) hN hP hK ⟨Nat.zero_le _, Nat.zero_le _⟩ rfl hl.1 rfl (Nat.le_of_ble_eq_true rfl) dX7_laid_162 ?_
          refine va_put (D := (dC, dI)) (ci := 7) (v := .int q13) (ty := .int) (C := RX7) (T := TX7) (N := 29) hx hb hts huX7 tyX7 tyX7_ok nmX7 hown hK hP hD hS 0 rfl rfl 13 (by decide) hf119 (fun _ h9 => h9) rfl (by decide +kernel) rfl rfl (Nat.le_of_ble_eq_true rfl) dX7_laid_165 (fun H locs hP hD hS => ?_)
          have hP : va_P (dC, dI) vwCl (wd_X7 ad cA mo_wide mo_high mo_law mo_acts mo_newBlack mo_newWhite q13 mo_triesMany mo_isSpent mo_found a_neighbours a_act a_blackAt a_whiteAt a_moveAt a_takenBlack a_takenWhite a_chaseBlack a_chaseWhite a_aheadBlack a_aheadWhite a_hasAhead a_breathsLeft a_laidBlack a_laidWhite a_answersLeft a_firstAnswer a_answering a_next) H := hP
          have hD : va_D A (wd_X7 ad cA mo_wide mo_high mo_law mo_acts mo_newBlack mo_newWhite q13 mo_triesMany mo_isSpent mo_found a_neighbours a_act a_blackAt a_whiteAt a_moveAt a_takenBlack a_takenWhite a_chaseBlack a_chaseWhite a_aheadBlack a_aheadWhite a_hasAhead a_breathsLeft a_laidBlack a_laidWhite a_answersLeft a_firstAnswer a_answering a_next) := hD
          refine lv_aload_n hx hb dX7_laid_168 rfl (lv_at hl 1 rfl) ?_
          refine lv_iload hx hb dX7_laid_169 (lv_at hl 2 rfl) ?_
          refine lv_iconst (v := (1 : Int32)) hx hb dX7_laid_171 (by decide) ?_
          obtain ⟨K15, eK15, hr⟩ := nm_ex hr
          have kK15 : ∀ (u14 : Int64) (H : Heap) (locs : List Loc) , K15 u14 = some q → va_P (dC, dI) vwCl (wd_X7 ad cA mo_wide mo_high mo_law mo_acts mo_newBlack mo_newWhite q13 mo_triesMany mo_isSpent mo_found a_neighbours a_act a_blackAt a_whiteAt a_moveAt a_takenBlack a_takenWhite a_chaseBlack a_chaseWhite a_aheadBlack a_aheadWhite a_hasAhead a_breathsLeft a_laidBlack a_laidWhite a_answersLeft a_firstAnswer a_answering a_next) H → va_D A (wd_X7 ad cA mo_wide mo_high mo_law mo_acts mo_newBlack mo_newWhite q13 mo_triesMany mo_isSpent mo_found a_neighbours a_act a_blackAt a_whiteAt a_moveAt a_takenBlack a_takenWhite a_chaseBlack a_chaseWhite a_aheadBlack a_aheadWhite a_hasAhead a_breathsLeft a_laidBlack a_laidWhite a_answersLeft a_firstAnswer a_answering a_next) → va_S A H0 H locs → ∀ (ls : Array Slot), lv_has ls 18 [(0, .ref (ad 0)), (5, .int a2), (7, .long x1), (9, .long x5), (11, .long x12)] → W p l e R s m args below meth c H locs 0 0 Q (F0 m 182 ls [.long u14, .ref (ad 0)]) := by
            intro u14 H locs hr hP hD hS ls hl
            rw [eK15] at hr
            refine va_put (D := (dC, dI)) (ci := 7) (v := .long u14) (ty := .long) (C := RX7) (T := TX7) (N := 29) hx hb hts huX7 tyX7 tyX7_ok nmX7 hown hK hP hD hS 0 rfl rfl 11 (by decide) hf122 (fun _ h9 => h9) rfl (by decide +kernel) rfl rfl (Nat.le_of_ble_eq_true rfl) dX7_laid_182 (fun H locs hP hD hS => ?_)
            have hP : va_P (dC, dI) vwCl (wd_X7 ad cA mo_wide mo_high mo_law mo_acts u14 mo_newWhite q13 mo_triesMany mo_isSpent mo_found a_neighbours a_act a_blackAt a_whiteAt a_moveAt a_takenBlack a_takenWhite a_chaseBlack a_chaseWhite a_aheadBlack a_aheadWhite a_hasAhead a_breathsLeft a_laidBlack a_laidWhite a_answersLeft a_firstAnswer a_answering a_next) H := hP
            have hD : va_D A (wd_X7 ad cA mo_wide mo_high mo_law mo_acts u14 mo_newWhite q13 mo_triesMany mo_isSpent mo_found a_neighbours a_act a_blackAt a_whiteAt a_moveAt a_takenBlack a_takenWhite a_chaseBlack a_chaseWhite a_aheadBlack a_aheadWhite a_hasAhead a_breathsLeft a_laidBlack a_laidWhite a_answersLeft a_firstAnswer a_answering a_next) := hD
            refine lv_aload_n hx hb dX7_laid_185 rfl (lv_at hl 0 rfl) ?_
            refine lv_iload hx hb dX7_laid_186 (lv_at hl 1 rfl) ?_
            refine lv_iconst (v := (1 : Int32)) hx hb dX7_laid_188 (by decide) ?_
            obtain ⟨K17, eK17, hr⟩ := nm_ex hr
            have kK17 : ∀ (u16 : Int64) (H : Heap) (locs : List Loc) , K17 u16 = some q → va_P (dC, dI) vwCl (wd_X7 ad cA mo_wide mo_high mo_law mo_acts u14 mo_newWhite q13 mo_triesMany mo_isSpent mo_found a_neighbours a_act a_blackAt a_whiteAt a_moveAt a_takenBlack a_takenWhite a_chaseBlack a_chaseWhite a_aheadBlack a_aheadWhite a_hasAhead a_breathsLeft a_laidBlack a_laidWhite a_answersLeft a_firstAnswer a_answering a_next) H → va_D A (wd_X7 ad cA mo_wide mo_high mo_law mo_acts u14 mo_newWhite q13 mo_triesMany mo_isSpent mo_found a_neighbours a_act a_blackAt a_whiteAt a_moveAt a_takenBlack a_takenWhite a_chaseBlack a_chaseWhite a_aheadBlack a_aheadWhite a_hasAhead a_breathsLeft a_laidBlack a_laidWhite a_answersLeft a_firstAnswer a_answering a_next) → va_S A H0 H locs → ∀ (ls : Array Slot), lv_has ls 18 [(0, .ref (ad 0)), (7, .long x1), (9, .long x5)] → W p l e R s m args below meth c H locs 0 0 Q (F0 m 199 ls [.long u16, .ref (ad 0)]) := by
              intro u16 H locs hr hP hD hS ls hl
              rw [eK17] at hr
              refine va_put (D := (dC, dI)) (ci := 7) (v := .long u16) (ty := .long) (C := RX7) (T := TX7) (N := 29) hx hb hts huX7 tyX7 tyX7_ok nmX7 hown hK hP hD hS 0 rfl rfl 12 (by decide) hf126 (fun _ h9 => h9) rfl (by decide +kernel) rfl rfl (Nat.le_of_ble_eq_true rfl) dX7_laid_199 (fun H locs hP hD hS => ?_)
              have hP : va_P (dC, dI) vwCl (wd_X7 ad cA mo_wide mo_high mo_law mo_acts u14 u16 q13 mo_triesMany mo_isSpent mo_found a_neighbours a_act a_blackAt a_whiteAt a_moveAt a_takenBlack a_takenWhite a_chaseBlack a_chaseWhite a_aheadBlack a_aheadWhite a_hasAhead a_breathsLeft a_laidBlack a_laidWhite a_answersLeft a_firstAnswer a_answering a_next) H := hP
              have hD : va_D A (wd_X7 ad cA mo_wide mo_high mo_law mo_acts u14 u16 q13 mo_triesMany mo_isSpent mo_found a_neighbours a_act a_blackAt a_whiteAt a_moveAt a_takenBlack a_takenWhite a_chaseBlack a_chaseWhite a_aheadBlack a_aheadWhite a_hasAhead a_breathsLeft a_laidBlack a_laidWhite a_answersLeft a_firstAnswer a_answering a_next) := hD
              refine lv_aload_n hx hb dX7_laid_202 rfl (lv_at hl 0 rfl) ?_
              refine lv_lload hx hb dX7_laid_203 (lv_at hl 1 rfl) ?_
              refine lv_lload hx hb dX7_laid_205 (lv_at hl 2 rfl) ?_
              obtain ⟨q18, hq18, hr⟩ := bd_use hr
              refine pcV_l (As := [.long x1, .long x5]) (rest := []) S (c_X7_spread l dC dI ad cA mo_wide mo_high mo_law mo_acts u14 u16 q13 mo_triesMany mo_isSpent mo_found a_neighbours a_act a_blackAt a_whiteAt a_moveAt a_takenBlack a_takenWhite a_chaseBlack a_chaseWhite a_aheadBlack a_aheadWhite a_hasAhead a_breathsLeft a_laidBlack a_laidWhite a_answersLeft a_firstAnswer a_answering a_next x1 x5 q18 hq18) (cwV 2 hts gX7_laid_X7_spread rfl rfl rfl (by decide +kernel) ⟨Nat.le_trans (m := rm_X7_laid.frames) (by decide) hRf, Nat.le_trans (m := rm_X7_laid.locals) (by decide) hRl⟩) hN hP hK ⟨Nat.zero_le _, Nat.zero_le _⟩ [0, 1, 2, 3, 4, 5, 6, 7, 8, 9, 10, 11, 12, 13, 14, 15, 16, 17, 18, 19] rfl [0, 1, 2, 3, 4, 5, 6, 7, 8, 9, 10, 11, 12, 13, 14, 15, 16, 17, 18] rfl 0 7 rfl rfl rfl hl.1 rfl (Nat.le_of_ble_eq_true rfl) dX7_laid_207 ?_
              refine lv_lstore (lv' := [(15, .long q18), (0, .ref (ad 0)), (7, .long x1), (9, .long x5)]) hx hb dX7_laid_210 hl (by decide) rfl (fun ls hl => ?_)
              refine lv_aload_n hx hb dX7_laid_212 rfl (lv_at hl 1 rfl) ?_
              refine lv_lload hx hb dX7_laid_213 (lv_at hl 0 rfl) ?_
              obtain ⟨q19, hq19, hr⟩ := bd_use hr
              refine pcV_l (As := [.long q18]) (rest := []) S (c_X7_around l dC dI ad cA mo_wide mo_high mo_law mo_acts u14 u16 q13 mo_triesMany mo_isSpent mo_found a_neighbours a_act a_blackAt a_whiteAt a_moveAt a_takenBlack a_takenWhite a_chaseBlack a_chaseWhite a_aheadBlack a_aheadWhite a_hasAhead a_breathsLeft a_laidBlack a_laidWhite a_answersLeft a_firstAnswer a_answering a_next q18 q19 hq19) (cwV 1 hts gX7_laid_X7_around rfl rfl rfl (by decide +kernel) ⟨Nat.le_trans (m := rm_X7_laid.frames) (by decide) hRf, Nat.le_trans (m := rm_X7_laid.locals) (by decide) hRl⟩) hN hP hK ⟨Nat.zero_le _, Nat.zero_le _⟩ [0, 1, 2, 3, 4, 5, 6, 7, 8, 9, 10, 11, 12, 13, 14, 15, 16, 17, 18, 19] rfl [0, 1, 2, 3, 4, 5, 6, 7, 8, 9, 10, 11, 12, 13, 14, 15, 16, 17, 18] rfl 0 7 rfl rfl rfl hl.1 rfl (Nat.le_of_ble_eq_true rfl) dX7_laid_215 ?_
              refine lv_aload_n hx hb dX7_laid_218 rfl (lv_at hl 1 rfl) ?_
              refine lv_aload_n hx hb dX7_laid_219 rfl (lv_at hl 1 rfl) ?_
              refine va_get (D := (dC, dI)) (ci := 7) (v := .long u14) (C := RX7) (T := TX7) (N := 29) hx hb hts huX7 hown hK hP 0 rfl rfl 11 (by decide) hf122 (fun _ h9 => h9) rfl dX7_laid_220 ?_
              refine lv_aload_n hx hb dX7_laid_223 rfl (lv_at hl 1 rfl) ?_
              refine va_get (D := (dC, dI)) (ci := 7) (v := .long u16) (C := RX7) (T := TX7) (N := 29) hx hb hts huX7 hown hK hP 0 rfl rfl 12 (by decide) hf126 (fun _ h9 => h9) rfl dX7_laid_224 ?_
              obtain ⟨q20, hq20, hr⟩ := bd_use hr
              refine pcV_l (As := [.long u14, .long u16]) (rest := [.long q19]) S (c_X7_free l dC dI ad cA mo_wide mo_high mo_law mo_acts u14 u16 q13 mo_triesMany mo_isSpent mo_found a_neighbours a_act a_blackAt a_whiteAt a_moveAt a_takenBlack a_takenWhite a_chaseBlack a_chaseWhite a_aheadBlack a_aheadWhite a_hasAhead a_breathsLeft a_laidBlack a_laidWhite a_answersLeft a_firstAnswer a_answering a_next u14 u16 q20 hq20) (cwV 2 hts gX7_laid_X7_free rfl rfl rfl (by decide +kernel) ⟨Nat.le_trans (m := rm_X7_laid.frames) (by decide) hRf, Nat.le_trans (m := rm_X7_laid.locals) (by decide) hRl⟩) hN hP hK ⟨Nat.zero_le _, Nat.zero_le _⟩ [0, 1, 2, 3, 4, 5, 6, 7, 8, 9, 10, 11, 12, 13, 14, 15, 16, 17, 18, 19] rfl [0, 1, 2, 3, 4, 5, 6, 7, 8, 9, 10, 11, 12, 13, 14, 15, 16, 17, 18] rfl 0 7 rfl rfl rfl hl.1 rfl (Nat.le_of_ble_eq_true rfl) dX7_laid_227 ?_
              refine lv_land hx hb dX7_laid_230 ?_
              refine lv_lconst (v := (0 : Int64)) hx hb dX7_laid_231 (by decide) ?_
              refine W.lcmp hx hb dX7_laid_232 ?_
              refine lv_if_ne (tgt := 240) hx hb dX7_laid_233 (by decide) (fun c21 => ?_) (fun c21 => ?_)
              · have c21 := cmp_f c21
                have hr := ite_n hr c21
                refine lv_iconst (v := (0 : Int32)) hx hb dX7_laid_240 (by decide) ?_
                obtain rfl := Option.some.inj hr
                exact kret _ _ _ _ dX7_laid_241 hP hD hS
              · have c21 := cmp_t c21
                have hr := ite_p hr c21
                refine lv_iconst (v := (2 : Int32)) hx hb dX7_laid_236 (by decide) ?_
                refine lv_goto (tgt := 241) hx hb dX7_laid_237 (by decide) ?_
                obtain rfl := Option.some.inj hr
                exact kret _ _ _ _ dX7_laid_241 hP hD hS
            refine lv_icmp_ne (tgt := 197) hx hb dX7_laid_189 (by decide) (fun c22 => ?_) (fun c22 => ?_)
            · have hr := ite_n hr c22
              refine lv_lload hx hb dX7_laid_197 (lv_at hl 3 rfl) ?_
              exact kK17 x5 _ _ hr hP hD hS ls (lv_sub hl [0, 2, 3] rfl)
            · have hr := ite_p hr c22
              refine lv_lload hx hb dX7_laid_192 (lv_at hl 4 rfl) ?_
              refine lv_goto (tgt := 199) hx hb dX7_laid_194 (by decide) ?_
              exact kK17 x12 _ _ hr hP hD hS ls (lv_sub hl [0, 2, 3] rfl)
          refine lv_icmp_ne (tgt := 180) hx hb dX7_laid_172 (by decide) (fun c23 => ?_) (fun c23 => ?_)
          · have hr := ite_n hr c23
            refine lv_lload hx hb dX7_laid_180 (lv_at hl 0 rfl) ?_
            exact kK15 x12 _ _ hr hP hD hS ls (lv_sub hl [1, 2, 3, 4, 0] rfl)
          · have hr := ite_p hr c23
            refine lv_lload hx hb dX7_laid_175 (lv_at hl 4 rfl) ?_
            refine lv_goto (tgt := 182) hx hb dX7_laid_177 (by decide) ?_
            exact kK15 x5 _ _ hr hP hD hS ls (lv_sub hl [1, 2, 3, 4, 0] rfl)
        have llp_X7_laid_67 : ∀ (nF : Nat) (v24 : Int64) (v25 : Int32) (H : Heap) (locs : List Loc), lp_X7_laid_67 mo_wide mo_high a_neighbours a3 x5 u6 K11 nF v24 v25 = some q → va_P (dC, dI) vwCl (wd_X7 ad cA mo_wide mo_high mo_law mo_acts mo_newBlack mo_newWhite mo_taken mo_triesMany mo_isSpent mo_found a_neighbours a_act a_blackAt a_whiteAt a_moveAt a_takenBlack a_takenWhite a_chaseBlack a_chaseWhite a_aheadBlack a_aheadWhite a_hasAhead a_breathsLeft a_laidBlack a_laidWhite a_answersLeft a_firstAnswer a_answering a_next) H → va_D A (wd_X7 ad cA mo_wide mo_high mo_law mo_acts mo_newBlack mo_newWhite mo_taken mo_triesMany mo_isSpent mo_found a_neighbours a_act a_blackAt a_whiteAt a_moveAt a_takenBlack a_takenWhite a_chaseBlack a_chaseWhite a_aheadBlack a_aheadWhite a_hasAhead a_breathsLeft a_laidBlack a_laidWhite a_answersLeft a_firstAnswer a_answering a_next) → va_S A H0 H locs → ∀ (ls : Array Slot), lv_has ls 18 [(0, .ref (ad 0)), (5, .int a2), (6, .int a3), (7, .long x1), (9, .long x5), (11, .long u6), (13, .long v24), (15, .int v25)] → W p l e R s m args below meth c H locs 0 0 Q (F0 m 67 ls []) := by
          intro nF
          induction nF with
          | zero => intro v24 v25 H locs hr; exact absurd hr (by simp [lp_X7_laid_67])
          | succ nF ih =>
            intro v24 v25 H locs hr hP hD hS ls hl
            rw [lp_X7_laid_67] at hr
            refine lv_iload hx hb dX7_laid_67 (lv_at hl 7 rfl) ?_
            refine lv_iconst (v := (-1 : Int32)) hx hb dX7_laid_69 (by decide) ?_
            refine lv_icmp_eq (tgt := 148) hx hb dX7_laid_70 (by decide) (fun c26 => ?_) (fun c26 => ?_)
            · have hr := ite_p hr c26
              exact kK11 v24 _ _ hr hP hD hS ls (lv_sub hl [0, 1, 3, 4, 5, 6] rfl)
            · have hr := ite_n hr c26
              refine lv_aload_n hx hb dX7_laid_73 rfl (lv_at hl 0 rfl) ?_
              refine lv_lconst (v := (1 : Int64)) hx hb dX7_laid_74 (by decide) ?_
              refine lv_iload hx hb dX7_laid_75 (lv_at hl 7 rfl) ?_
              refine lv_lshl (v := jshl (1 : Int64) v25) hx hb dX7_laid_77 rfl ?_
              refine lv_lload hx hb dX7_laid_78 (lv_at hl 5 rfl) ?_
              obtain ⟨q27, hq27, hr⟩ := bd_use hr
              refine pcV_l (As := [.long (jshl (1 : Int64) v25), .long u6]) (rest := []) S (c_X7_spread l dC dI ad cA mo_wide mo_high mo_law mo_acts mo_newBlack mo_newWhite mo_taken mo_triesMany mo_isSpent mo_found a_neighbours a_act a_blackAt a_whiteAt a_moveAt a_takenBlack a_takenWhite a_chaseBlack a_chaseWhite a_aheadBlack a_aheadWhite a_hasAhead a_breathsLeft a_laidBlack a_laidWhite a_answersLeft a_firstAnswer a_answering a_next (jshl (1 : Int64) v25) u6 q27 hq27) (cwV 2 hts gX7_laid_X7_spread rfl rfl rfl (by decide +kernel) ⟨Nat.le_trans (m := rm_X7_laid.frames) (by decide) hRf, Nat.le_trans (m := rm_X7_laid.locals) (by decide) hRl⟩) hN hP hK ⟨Nat.zero_le _, Nat.zero_le _⟩ [0, 1, 2, 3, 4, 5, 6, 7, 8, 9, 10, 11, 12, 13, 14, 15, 16, 17, 18, 19] rfl [0, 1, 2, 3, 4, 5, 6, 7, 8, 9, 10, 11, 12, 13, 14, 15, 16, 17, 18] rfl 0 7 rfl rfl rfl hl.1 rfl (Nat.le_of_ble_eq_true rfl) dX7_laid_80 ?_
              refine lv_lstore (lv' := [(16, .long q27), (0, .ref (ad 0)), (5, .int a2), (6, .int a3), (7, .long x1), (9, .long x5), (11, .long u6), (13, .long v24), (15, .int v25)]) hx hb dX7_laid_83 hl (by decide) rfl (fun ls hl => ?_)
              refine lv_lload hx hb dX7_laid_85 (lv_at hl 7 rfl) ?_
              refine lv_aload_n hx hb dX7_laid_87 rfl (lv_at hl 1 rfl) ?_
              refine lv_lload hx hb dX7_laid_88 (lv_at hl 0 rfl) ?_
              obtain ⟨q28, hq28, hr⟩ := bd_use hr
              refine pcV_l (As := [.long q27]) (rest := [.long v24]) S (c_X7_around l dC dI ad cA mo_wide mo_high mo_law mo_acts mo_newBlack mo_newWhite mo_taken mo_triesMany mo_isSpent mo_found a_neighbours a_act a_blackAt a_whiteAt a_moveAt a_takenBlack a_takenWhite a_chaseBlack a_chaseWhite a_aheadBlack a_aheadWhite a_hasAhead a_breathsLeft a_laidBlack a_laidWhite a_answersLeft a_firstAnswer a_answering a_next q27 q28 hq28) (cwV 1 hts gX7_laid_X7_around rfl rfl rfl (by decide +kernel) ⟨Nat.le_trans (m := rm_X7_laid.frames) (by decide) hRf, Nat.le_trans (m := rm_X7_laid.locals) (by decide) hRl⟩) hN hP hK ⟨Nat.zero_le _, Nat.zero_le _⟩ [0, 1, 2, 3, 4, 5, 6, 7, 8, 9, 10, 11, 12, 13, 14, 15, 16, 17, 18, 19] rfl [0, 1, 2, 3, 4, 5, 6, 7, 8, 9, 10, 11, 12, 13, 14, 15, 16, 17, 18] rfl 0 7 rfl rfl rfl hl.1 rfl (Nat.le_of_ble_eq_true rfl) dX7_laid_90 ?_
              refine lv_aload_n hx hb dX7_laid_93 rfl (lv_at hl 1 rfl) ?_
              obtain ⟨q29, hq29, hr⟩ := bd_use hr
              refine pcV_l (As := []) (rest := [.long q28, .long v24]) S (c_X7_all l dC dI ad cA mo_wide mo_high mo_law mo_acts mo_newBlack mo_newWhite mo_taken mo_triesMany mo_isSpent mo_found a_neighbours a_act a_blackAt a_whiteAt a_moveAt a_takenBlack a_takenWhite a_chaseBlack a_chaseWhite a_aheadBlack a_aheadWhite a_hasAhead a_breathsLeft a_laidBlack a_laidWhite a_answersLeft a_firstAnswer a_answering a_next q29 hq29) (cwV 0 hts gX7_laid_X7_all rfl rfl rfl (by decide +kernel) ⟨Nat.le_trans (m := rm_X7_laid.frames) (by decide) hRf, Nat.le_trans (m := rm_X7_laid.locals) (by decide) hRl⟩) hN hP hK ⟨Nat.zero_le _, Nat.zero_le _⟩ [0, 1, 2, 3, 4, 5, 6, 7, 8, 9, 10, 11, 12, 13, 14, 15, 16, 17, 18, 19] rfl [0, 1, 2, 3, 4, 5, 6, 7, 8, 9, 10, 11, 12, 13, 14, 15, 16, 17, 18] rfl 0 7 rfl rfl rfl hl.1 rfl (Nat.le_of_ble_eq_true rfl) dX7_laid_94 ?_
              refine lv_land hx hb dX7_laid_97 ?_
              refine lv_lload hx hb dX7_laid_98 (lv_at hl 5 rfl) ?_
              refine W.ldc2 (v := (-1 : Int64)) hx hb hown hk105 rfl dX7_laid_100 ?_
              refine W.eq (g2 := F0 m 103 ls [.long (-1 : Int64), .long x5, .long (q28 &&& q29), .long v24]) rfl ?_
              refine lv_lxor hx hb dX7_laid_103 ?_
              refine lv_land hx hb dX7_laid_104 ?_
              refine lv_lload hx hb dX7_laid_105 (lv_at hl 6 rfl) ?_
              refine W.ldc2 (v := (-1 : Int64)) hx hb hown hk105 rfl dX7_laid_107 ?_
              refine W.eq (g2 := F0 m 110 ls [.long (-1 : Int64), .long u6, .long ((q28 &&& q29) &&& (x5 ^^^ (-1 : Int64))), .long v24]) rfl ?_
              refine lv_lxor hx hb dX7_laid_110 ?_
              refine lv_land hx hb dX7_laid_111 ?_
              refine lv_lconst (v := (0 : Int64)) hx hb dX7_laid_112 (by decide) ?_
              refine W.lcmp hx hb dX7_laid_113 ?_
              obtain ⟨K31, eK31, hr⟩ := nm_ex hr
              have kK31 : ∀ (u30 : Int64) (H : Heap) (locs : List Loc) , K31 u30 = some q → va_P (dC, dI) vwCl (wd_X7 ad cA mo_wide mo_high mo_law mo_acts mo_newBlack mo_newWhite mo_taken mo_triesMany mo_isSpent mo_found a_neighbours a_act a_blackAt a_whiteAt a_moveAt a_takenBlack a_takenWhite a_chaseBlack a_chaseWhite a_aheadBlack a_aheadWhite a_hasAhead a_breathsLeft a_laidBlack a_laidWhite a_answersLeft a_firstAnswer a_answering a_next) H → va_D A (wd_X7 ad cA mo_wide mo_high mo_law mo_acts mo_newBlack mo_newWhite mo_taken mo_triesMany mo_isSpent mo_found a_neighbours a_act a_blackAt a_whiteAt a_moveAt a_takenBlack a_takenWhite a_chaseBlack a_chaseWhite a_aheadBlack a_aheadWhite a_hasAhead a_breathsLeft a_laidBlack a_laidWhite a_answersLeft a_firstAnswer a_answering a_next) → va_S A H0 H locs → ∀ (ls : Array Slot), lv_has ls 18 [(0, .ref (ad 0)), (5, .int a2), (6, .int a3), (7, .long x1), (9, .long x5), (11, .long u6), (15, .int v25)] → W p l e R s m args below meth c H locs 0 0 Q (F0 m 123 ls [.long u30, .long v24]) := by
                intro u30 H locs hr hP hD hS ls hl
                rw [eK31] at hr
                refine lv_lor hx hb dX7_laid_123 ?_
                refine lv_topl (fun x32 ex32 => ?_)
                have hr := nm_use hr ex32
                refine lv_lstore (lv' := [(13, .long x32), (0, .ref (ad 0)), (5, .int a2), (6, .int a3), (7, .long x1), (9, .long x5), (11, .long u6), (15, .int v25)]) hx hb dX7_laid_124 hl (by decide) rfl (fun ls hl => ?_)
                refine lv_aload_n hx hb dX7_laid_126 rfl (lv_at hl 1 rfl) ?_
                refine va_get (D := (dC, dI)) (ci := 7) (v := .ref (ad 1)) (C := RX7) (T := TX7) (N := 29) hx hb hts huX7 hown hK hP 0 rfl rfl 3 (by decide) hf16 (fun _ h9 => h9) rfl dX7_laid_127 ?_
                refine lv_iload hx hb dX7_laid_130 (lv_at hl 3 rfl) ?_
                obtain ⟨hi33, hr⟩ := ite_g hr
                refine va_lald hx hb hK hP 1 0 rfl rfl hi33 dX7_laid_132 ?_
                refine lv_lload hx hb dX7_laid_133 (lv_at hl 6 rfl) ?_
                refine lv_land hx hb dX7_laid_135 ?_
                refine lv_iload hx hb dX7_laid_136 (lv_at hl 7 rfl) ?_
                refine lv_iconst (v := (1 : Int32)) hx hb dX7_laid_138 (by decide) ?_
                refine lv_iadd hx hb dX7_laid_139 ?_
                obtain ⟨q34, hq34, hr⟩ := bd_use hr
                refine pcS_i (As := [.long ((a_neighbours a3.toNatClampNeg) &&& u6), .int (v25 + (1 : Int32))]) (rest := []) S (c_X7_least l dC dI ((a_neighbours a3.toNatClampNeg) &&& u6) (v25 + (1 : Int32)) q34 hq34) (va_cwS 2 hts gX7_laid_X7_least rfl rfl rfl (by decide +kernel) ⟨Nat.le_trans (m := rm_X7_laid.frames) (by decide) hRf, Nat.le_trans (m := rm_X7_laid.locals) (by decide) hRl⟩) hN hP hK ⟨Nat.zero_le _, Nat.zero_le _⟩ rfl hl.1 rfl (Nat.le_of_ble_eq_true rfl) dX7_laid_140 ?_
                refine lv_istore (lv' := [(15, .int q34), (13, .long x32), (0, .ref (ad 0)), (5, .int a2), (6, .int a3), (7, .long x1), (9, .long x5), (11, .long u6)]) hx hb dX7_laid_143 hl (by decide) rfl (fun ls hl => ?_)
                refine lv_goto (tgt := 67) hx hb dX7_laid_145 (by decide) ?_
                exact ih x32 q34 _ _ hr hP hD hS ls (lv_sub hl [2, 3, 4, 5, 6, 7, 1, 0] rfl)
              refine lv_if_ne (tgt := 122) hx hb dX7_laid_114 (by decide) (fun c35 => ?_) (fun c35 => ?_)
              · have c35 := cmp_f c35
                have hr := ite_n hr c35
                refine lv_lconst (v := (0 : Int64)) hx hb dX7_laid_122 (by decide) ?_
                exact kK31 (0 : Int64) _ _ hr hP hD hS ls (lv_sub hl [1, 2, 3, 4, 5, 6, 8] rfl)
              · have c35 := cmp_t c35
                have hr := ite_p hr c35
                refine lv_lload hx hb dX7_laid_117 (lv_at hl 0 rfl) ?_
                refine lv_goto (tgt := 123) hx hb dX7_laid_119 (by decide) ?_
                exact kK31 q27 _ _ hr hP hD hS ls (lv_sub hl [1, 2, 3, 4, 5, 6, 8] rfl)
        exact llp_X7_laid_67 FU (0 : Int64) q9 _ _ hr hP hD hS ls (lv_sub hl [3, 4, 5, 6, 7, 2, 1, 0] rfl)
      refine lv_icmp_ne (tgt := 45) hx hb dX7_laid_38 (by decide) (fun c36 => ?_) (fun c36 => ?_)
      · have hr := ite_n hr c36
        refine lv_lload_n hx hb dX7_laid_45 rfl (lv_at hl 2 rfl) ?_
        exact kK7 a0 _ _ hr hP hD hS ls (lv_sub hl [1, 4, 5, 6, 0] rfl)
      · have hr := ite_p hr c36
        refine lv_lload_n hx hb dX7_laid_41 rfl (lv_at hl 3 rfl) ?_
        refine lv_goto (tgt := 46) hx hb dX7_laid_42 (by decide) ?_
        exact kK7 a1 _ _ hr hP hD hS ls (lv_sub hl [1, 4, 5, 6, 0] rfl)
    refine lv_icmp_ne (tgt := 29) hx hb dX7_laid_22 (by decide) (fun c37 => ?_) (fun c37 => ?_)
    · have hr := ite_n hr c37
      refine lv_lload_n hx hb dX7_laid_29 rfl (lv_at hl 3 rfl) ?_
      exact kK4 a1 _ _ hr hP hD hS ls (lv_sub hl [1, 2, 3, 4, 5, 0] rfl)
    · have hr := ite_p hr c37
      refine lv_lload_n hx hb dX7_laid_25 rfl (lv_at hl 2 rfl) ?_
      refine lv_goto (tgt := 30) hx hb dX7_laid_26 (by decide) ?_
      exact kK4 a0 _ _ hr hP hD hS ls (lv_sub hl [1, 2, 3, 4, 5, 0] rfl)
  · have c2 := cmp_f c2
    have hr := ite_n hr c2
    refine lv_iconst (v := (1 : Int32)) hx hb dX7_laid_17 (by decide) ?_
    obtain rfl := Option.some.inj hr
    exact kret _ _ _ _ dX7_laid_18 hP hD hS

def lp_X7_isAgainst_51 (mo_law : Int32) (mo_newBlack : Int64) (mo_newWhite : Int64) (a_blackAt : Nat → Int64) (a_whiteAt : Nat → Int64) (a_moveAt : Nat → Int32) (a0 : Int32) (a1 : Int32) : Nat → Int32 → Option (Int32)
  | 0, _ => none
  | nF + 1, v2 =>
    if a0 < v2 then (
      some ((0 : Int32))
    )
    else (
      if (v2 < 0 ∨ 130 ≤ v2.toNatClampNeg) then none else
      if a_blackAt v2.toNatClampNeg = mo_newBlack then (
        if (v2 < 0 ∨ 130 ≤ v2.toNatClampNeg) then none else
        if a_whiteAt v2.toNatClampNeg = mo_newWhite then (
          if mo_law = (1 : Int32) then (
            some ((1 : Int32))
          )
          else (
            if (v2 < 0 ∨ 130 ≤ v2.toNatClampNeg) then none else
            (f_X7_other a1).bind fun q12 =>
            if a_moveAt v2.toNatClampNeg = q12 then (
              some ((1 : Int32))
            )
            else (
              nm (v2 + 1) fun x14 =>
              lp_X7_isAgainst_51 mo_law mo_newBlack mo_newWhite a_blackAt a_whiteAt a_moveAt a0 a1 nF x14
            )
          )
        )
        else (
          nm (v2 + 1) fun x9 =>
          lp_X7_isAgainst_51 mo_law mo_newBlack mo_newWhite a_blackAt a_whiteAt a_moveAt a0 a1 nF x9
        )
      )
      else (
        nm (v2 + 1) fun x6 =>
        lp_X7_isAgainst_51 mo_law mo_newBlack mo_newWhite a_blackAt a_whiteAt a_moveAt a0 a1 nF x6
      )
    )

def f_X7_isAgainst (mo_law : Int32) (mo_newBlack : Int64) (mo_newWhite : Int64) (a_blackAt : Nat → Int64) (a_whiteAt : Nat → Int64) (a_moveAt : Nat → Int32) (a0 : Int32) (a1 : Int32) : Option (Int32) :=
  if mo_law = 0 then (
    if a0 ≤ 0 then (
      some ((0 : Int32))
    )
    else (
      if (a0 - (1 : Int32) < 0 ∨ 130 ≤ (a0 - (1 : Int32)).toNatClampNeg) then none else
      if a_blackAt (a0 - (1 : Int32)).toNatClampNeg = mo_newBlack then (
        if (a0 - (1 : Int32) < 0 ∨ 130 ≤ (a0 - (1 : Int32)).toNatClampNeg) then none else
        if a_whiteAt (a0 - (1 : Int32)).toNatClampNeg = mo_newWhite then (
          some ((1 : Int32))
        )
        else (
          some ((0 : Int32))
        )
      )
      else (
        some ((0 : Int32))
      )
    )
  )
  else (
    lp_X7_isAgainst_51 mo_law mo_newBlack mo_newWhite a_blackAt a_whiteAt a_moveAt a0 a1 FU (0 : Int32)
  )

abbrev rm_X7_isAgainst : Room := { frames := 1, cells := 0, slots := 0, locals := 20 }
set_option maxHeartbeats 4000000 in
set_option maxRecDepth 100000 in
theorem c_X7_isAgainst (l : Launch) (dC : Nat → ClassId) (dI : Nat → Nat → Nat) (ad : Nat → Nat) (cA : Nat → ClassId) (mo_wide mo_high mo_law mo_acts : Int32) (mo_newBlack mo_newWhite : Int64) (mo_taken mo_triesMany mo_isSpent mo_found : Int32) (a_neighbours : Nat → Int64) (a_act : Nat → Int32) (a_blackAt a_whiteAt : Nat → Int64) (a_moveAt a_takenBlack a_takenWhite : Nat → Int32) (a_chaseBlack a_chaseWhite a_aheadBlack a_aheadWhite : Nat → Int64) (a_hasAhead : Nat → Int32) (a_breathsLeft a_laidBlack a_laidWhite a_answersLeft : Nat → Int64) (a_firstAnswer a_answering a_next : Nat → Int32) (a0 : Int32) (a1 : Int32) (q : Int32) (hr : f_X7_isAgainst mo_law mo_newBlack mo_newWhite a_blackAt a_whiteAt a_moveAt a0 a1 = some q) : Met l yX7_isAgainst wsX7_isAgainst rm_X7_isAgainst (PrP (dC, dI) (wd_X7 ad cA mo_wide mo_high mo_law mo_acts mo_newBlack mo_newWhite mo_taken mo_triesMany mo_isSpent mo_found a_neighbours a_act a_blackAt a_whiteAt a_moveAt a_takenBlack a_takenWhite a_chaseBlack a_chaseWhite a_aheadBlack a_aheadWhite a_hasAhead a_breathsLeft a_laidBlack a_laidWhite a_answersLeft a_firstAnswer a_answering a_next) (td_X7 cA) [.ref (ad 0), .int a0, .int a1]) (vp_Si (fun x => x = q)) 0 0 (fun _ => False) := by
  refine mkP_z (cc := cX7_isAgainst) (nL := 4) (by decide) rfl (Nat.le_of_ble_eq_true rfl) ?_
  intro p e R s m args below meth c H Q ls hRf hRl S hN hP hK hl kret
  have hl : lv_has ls 4 [(0, .ref (ad 0)), (1, .int a0), (2, .int a1)] := hl
  obtain ⟨hx, hb, hml, hown, hts⟩ := S
  have hown : s.vm.findClass RX7 = some m.cls := hown
  have S : CallFix p m c cX7_isAgainst 4 s args wsX7_isAgainst RX7 := ⟨hx, hb, hml, hown, hts⟩
  have huX7 : ∀ w ∈ u_ws RX7 TX7 29, w ∈ wsX7_isAgainst := by decide +kernel
  have hf83 := hts (.fieldLink RX7 83 "EyeBoardModel" "law" "I") (by decide +kernel)
  have hf24 := hts (.fieldLink RX7 24 "EyeBoardModel" "blackAt" "[J") (by decide +kernel)
  have hf122 := hts (.fieldLink RX7 122 "EyeBoardModel" "newBlack" "J") (by decide +kernel)
  have hf27 := hts (.fieldLink RX7 27 "EyeBoardModel" "whiteAt" "[J") (by decide +kernel)
  have hf126 := hts (.fieldLink RX7 126 "EyeBoardModel" "newWhite" "J") (by decide +kernel)
  have hf30 := hts (.fieldLink RX7 30 "EyeBoardModel" "moveAt" "[I") (by decide +kernel)
  unfold f_X7_isAgainst at hr
  refine lv_aload_n hx hb dX7_isAgainst_0 rfl (lv_at hl 0 rfl) ?_
  refine va_get (D := (dC, dI)) (ci := 7) (v := .int mo_law) (C := RX7) (T := TX7) (N := 29) hx hb hts huX7 hown hK hP 0 rfl rfl 2 (by decide) hf83 (fun _ h9 => h9) rfl dX7_isAgainst_1 ?_
  refine lv_if_ne (tgt := 49) hx hb dX7_isAgainst_4 (by decide) (fun c1 => ?_) (fun c1 => ?_)
  · have hr := ite_n hr c1
    refine lv_iconst (v := (0 : Int32)) hx hb dX7_isAgainst_49 (by decide) ?_
    refine lv_istore_n (lv' := [(3, .int (0 : Int32)), (0, .ref (ad 0)), (1, .int a0), (2, .int a1)]) hx hb dX7_isAgainst_50 rfl hl (by decide) rfl (fun ls hl => ?_)
    have llp_X7_isAgainst_51 : ∀ (nF : Nat) (v2 : Int32) , lp_X7_isAgainst_51 mo_law mo_newBlack mo_newWhite a_blackAt a_whiteAt a_moveAt a0 a1 nF v2 = some q → ∀ (ls : Array Slot), lv_has ls 4 [(0, .ref (ad 0)), (1, .int a0), (2, .int a1), (3, .int v2)] → W p l e R s m args below meth c H [] 0 0 Q (F0 m 51 ls []) := by
      intro nF
      induction nF with
      | zero => intro v2 hr; exact absurd hr (by simp [lp_X7_isAgainst_51])
      | succ nF ih =>
        intro v2 hr ls hl
        rw [lp_X7_isAgainst_51] at hr
        refine lv_iload_n hx hb dX7_isAgainst_51 rfl (lv_at hl 3 rfl) ?_
        refine lv_iload_n hx hb dX7_isAgainst_52 rfl (lv_at hl 1 rfl) ?_
        refine lv_icmp_gt (tgt := 113) hx hb dX7_isAgainst_53 (by decide) (fun c3 => ?_) (fun c3 => ?_)
        · have hr := ite_p hr c3
          refine lv_iconst (v := (0 : Int32)) hx hb dX7_isAgainst_113 (by decide) ?_
          obtain rfl := Option.some.inj hr
          exact kret _ _ dX7_isAgainst_114 nar_0
        · have hr := ite_n hr c3
          refine lv_aload_n hx hb dX7_isAgainst_56 rfl (lv_at hl 0 rfl) ?_
          refine va_get (D := (dC, dI)) (ci := 7) (v := .ref (ad 3)) (C := RX7) (T := TX7) (N := 29) hx hb hts huX7 hown hK hP 0 rfl rfl 6 (by decide) hf24 (fun _ h9 => h9) rfl dX7_isAgainst_57 ?_
          refine lv_iload_n hx hb dX7_isAgainst_60 rfl (lv_at hl 3 rfl) ?_
          obtain ⟨hi4, hr⟩ := ite_g hr
          refine va_lald hx hb hK hP 3 2 rfl rfl hi4 dX7_isAgainst_61 ?_
          refine lv_aload_n hx hb dX7_isAgainst_62 rfl (lv_at hl 0 rfl) ?_
          refine va_get (D := (dC, dI)) (ci := 7) (v := .long mo_newBlack) (C := RX7) (T := TX7) (N := 29) hx hb hts huX7 hown hK hP 0 rfl rfl 11 (by decide) hf122 (fun _ h9 => h9) rfl dX7_isAgainst_63 ?_
          refine W.lcmp hx hb dX7_isAgainst_66 ?_
          refine lv_if_ne (tgt := 107) hx hb dX7_isAgainst_67 (by decide) (fun c5 => ?_) (fun c5 => ?_)
          · have c5 := cmp_f c5
            have hr := ite_n hr c5
            obtain ⟨x6, ex6, hr⟩ := nm_ex hr
            refine lv_iinc (v := x6) (lv' := [(3, .int x6), (0, .ref (ad 0)), (1, .int a0), (2, .int a1)]) hx hb dX7_isAgainst_107 hl (k := 3) rfl (by rw [ex6]; rfl) (by decide) rfl (fun ls hl => ?_)
            refine lv_goto (tgt := 51) hx hb dX7_isAgainst_110 (by decide) ?_
            exact ih x6 hr ls (lv_sub hl [1, 2, 3, 0] rfl)
          · have c5 := cmp_t c5
            have hr := ite_p hr c5
            refine lv_aload_n hx hb dX7_isAgainst_70 rfl (lv_at hl 0 rfl) ?_
            refine va_get (D := (dC, dI)) (ci := 7) (v := .ref (ad 4)) (C := RX7) (T := TX7) (N := 29) hx hb hts huX7 hown hK hP 0 rfl rfl 7 (by decide) hf27 (fun _ h9 => h9) rfl dX7_isAgainst_71 ?_
            refine lv_iload_n hx hb dX7_isAgainst_74 rfl (lv_at hl 3 rfl) ?_
            obtain ⟨hi7, hr⟩ := ite_g hr
            refine va_lald hx hb hK hP 4 3 rfl rfl hi7 dX7_isAgainst_75 ?_
            refine lv_aload_n hx hb dX7_isAgainst_76 rfl (lv_at hl 0 rfl) ?_
            refine va_get (D := (dC, dI)) (ci := 7) (v := .long mo_newWhite) (C := RX7) (T := TX7) (N := 29) hx hb hts huX7 hown hK hP 0 rfl rfl 12 (by decide) hf126 (fun _ h9 => h9) rfl dX7_isAgainst_77 ?_
            refine W.lcmp hx hb dX7_isAgainst_80 ?_
            refine lv_if_ne (tgt := 107) hx hb dX7_isAgainst_81 (by decide) (fun c8 => ?_) (fun c8 => ?_)
            · have c8 := cmp_f c8
              have hr := ite_n hr c8
              obtain ⟨x9, ex9, hr⟩ := nm_ex hr
              refine lv_iinc (v := x9) (lv' := [(3, .int x9), (0, .ref (ad 0)), (1, .int a0), (2, .int a1)]) hx hb dX7_isAgainst_107 hl (k := 3) rfl (by rw [ex9]; rfl) (by decide) rfl (fun ls hl => ?_)
              refine lv_goto (tgt := 51) hx hb dX7_isAgainst_110 (by decide) ?_
              exact ih x9 hr ls (lv_sub hl [1, 2, 3, 0] rfl)
            · have c8 := cmp_t c8
              have hr := ite_p hr c8
              refine lv_aload_n hx hb dX7_isAgainst_84 rfl (lv_at hl 0 rfl) ?_
              refine va_get (D := (dC, dI)) (ci := 7) (v := .int mo_law) (C := RX7) (T := TX7) (N := 29) hx hb hts huX7 hown hK hP 0 rfl rfl 2 (by decide) hf83 (fun _ h9 => h9) rfl dX7_isAgainst_85 ?_
              refine lv_iconst (v := (1 : Int32)) hx hb dX7_isAgainst_88 (by decide) ?_
              refine lv_icmp_eq (tgt := 105) hx hb dX7_isAgainst_89 (by decide) (fun c10 => ?_) (fun c10 => ?_)
              · have hr := ite_p hr c10
                refine lv_iconst (v := (1 : Int32)) hx hb dX7_isAgainst_105 (by decide) ?_
                obtain rfl := Option.some.inj hr
                exact kret _ _ dX7_isAgainst_106 nar_1
              · have hr := ite_n hr c10
                refine lv_aload_n hx hb dX7_isAgainst_92 rfl (lv_at hl 0 rfl) ?_
                refine va_get (D := (dC, dI)) (ci := 7) (v := .ref (ad 5)) (C := RX7) (T := TX7) (N := 29) hx hb hts huX7 hown hK hP 0 rfl rfl 8 (by decide) hf30 (fun _ h9 => h9) rfl dX7_isAgainst_93 ?_
                refine lv_iload_n hx hb dX7_isAgainst_96 rfl (lv_at hl 3 rfl) ?_
                obtain ⟨hi11, hr⟩ := ite_g hr
                refine va_iald hx hb hK hP 5 4 rfl rfl hi11 dX7_isAgainst_97 ?_
                refine lv_iload_n hx hb dX7_isAgainst_98 rfl (lv_at hl 2 rfl) ?_
                obtain ⟨q12, hq12, hr⟩ := bd_use hr
                refine pcS_i (As := [.int a1]) (rest := [.int (a_moveAt v2.toNatClampNeg)]) S (c_X7_other l dC dI a1 q12 hq12) (va_cwS 1 hts gX7_isAgainst_X7_other rfl rfl rfl (by decide +kernel) ⟨Nat.le_trans (m := rm_X7_isAgainst.frames) (by decide) hRf, Nat.le_trans (m := rm_X7_isAgainst.locals) (by decide) hRl⟩) hN hP hK ⟨Nat.zero_le _, Nat.zero_le _⟩ rfl hl.1 rfl (Nat.le_of_ble_eq_true rfl) dX7_isAgainst_99 ?_
                refine lv_icmp_ne (tgt := 107) hx hb dX7_isAgainst_102 (by decide) (fun c13 => ?_) (fun c13 => ?_)
                · have hr := ite_n hr c13
                  obtain ⟨x14, ex14, hr⟩ := nm_ex hr
                  refine lv_iinc (v := x14) (lv' := [(3, .int x14), (0, .ref (ad 0)), (1, .int a0), (2, .int a1)]) hx hb dX7_isAgainst_107 hl (k := 3) rfl (by rw [ex14]; rfl) (by decide) rfl (fun ls hl => ?_)
                  refine lv_goto (tgt := 51) hx hb dX7_isAgainst_110 (by decide) ?_
                  exact ih x14 hr ls (lv_sub hl [1, 2, 3, 0] rfl)
                · have hr := ite_p hr c13
                  refine lv_iconst (v := (1 : Int32)) hx hb dX7_isAgainst_105 (by decide) ?_
                  obtain rfl := Option.some.inj hr
                  exact kret _ _ dX7_isAgainst_106 nar_1
    exact llp_X7_isAgainst_51 FU (0 : Int32) hr ls (lv_sub hl [1, 2, 3, 0] rfl)
  · have hr := ite_p hr c1
    refine lv_iload_n hx hb dX7_isAgainst_7 rfl (lv_at hl 1 rfl) ?_
    refine lv_if_le (tgt := 47) hx hb dX7_isAgainst_8 (by decide) (fun c15 => ?_) (fun c15 => ?_)
    · have hr := ite_p hr c15
      refine lv_iconst (v := (0 : Int32)) hx hb dX7_isAgainst_47 (by decide) ?_
      obtain rfl := Option.some.inj hr
      exact kret _ _ dX7_isAgainst_48 nar_0
    · have hr := ite_n hr c15
      refine lv_aload_n hx hb dX7_isAgainst_11 rfl (lv_at hl 0 rfl) ?_
      refine va_get (D := (dC, dI)) (ci := 7) (v := .ref (ad 3)) (C := RX7) (T := TX7) (N := 29) hx hb hts huX7 hown hK hP 0 rfl rfl 6 (by decide) hf24 (fun _ h9 => h9) rfl dX7_isAgainst_12 ?_
      refine lv_iload_n hx hb dX7_isAgainst_15 rfl (lv_at hl 1 rfl) ?_
      refine lv_iconst (v := (1 : Int32)) hx hb dX7_isAgainst_16 (by decide) ?_
      refine lv_isub hx hb dX7_isAgainst_17 ?_
      obtain ⟨hi16, hr⟩ := ite_g hr
      refine va_lald hx hb hK hP 3 2 rfl rfl hi16 dX7_isAgainst_18 ?_
      refine lv_aload_n hx hb dX7_isAgainst_19 rfl (lv_at hl 0 rfl) ?_
      refine va_get (D := (dC, dI)) (ci := 7) (v := .long mo_newBlack) (C := RX7) (T := TX7) (N := 29) hx hb hts huX7 hown hK hP 0 rfl rfl 11 (by decide) hf122 (fun _ h9 => h9) rfl dX7_isAgainst_20 ?_
      refine W.lcmp hx hb dX7_isAgainst_23 ?_
      refine lv_if_ne (tgt := 47) hx hb dX7_isAgainst_24 (by decide) (fun c17 => ?_) (fun c17 => ?_)
      · have c17 := cmp_f c17
        have hr := ite_n hr c17
        refine lv_iconst (v := (0 : Int32)) hx hb dX7_isAgainst_47 (by decide) ?_
        obtain rfl := Option.some.inj hr
        exact kret _ _ dX7_isAgainst_48 nar_0
      · have c17 := cmp_t c17
        have hr := ite_p hr c17
        refine lv_aload_n hx hb dX7_isAgainst_27 rfl (lv_at hl 0 rfl) ?_
        refine va_get (D := (dC, dI)) (ci := 7) (v := .ref (ad 4)) (C := RX7) (T := TX7) (N := 29) hx hb hts huX7 hown hK hP 0 rfl rfl 7 (by decide) hf27 (fun _ h9 => h9) rfl dX7_isAgainst_28 ?_
        refine lv_iload_n hx hb dX7_isAgainst_31 rfl (lv_at hl 1 rfl) ?_
        refine lv_iconst (v := (1 : Int32)) hx hb dX7_isAgainst_32 (by decide) ?_
        refine lv_isub hx hb dX7_isAgainst_33 ?_
        obtain ⟨hi18, hr⟩ := ite_g hr
        refine va_lald hx hb hK hP 4 3 rfl rfl hi18 dX7_isAgainst_34 ?_
        refine lv_aload_n hx hb dX7_isAgainst_35 rfl (lv_at hl 0 rfl) ?_
        refine va_get (D := (dC, dI)) (ci := 7) (v := .long mo_newWhite) (C := RX7) (T := TX7) (N := 29) hx hb hts huX7 hown hK hP 0 rfl rfl 12 (by decide) hf126 (fun _ h9 => h9) rfl dX7_isAgainst_36 ?_
        refine W.lcmp hx hb dX7_isAgainst_39 ?_
        refine lv_if_ne (tgt := 47) hx hb dX7_isAgainst_40 (by decide) (fun c19 => ?_) (fun c19 => ?_)
        · have c19 := cmp_f c19
          have hr := ite_n hr c19
          refine lv_iconst (v := (0 : Int32)) hx hb dX7_isAgainst_47 (by decide) ?_
          obtain rfl := Option.some.inj hr
          exact kret _ _ dX7_isAgainst_48 nar_0
        · have c19 := cmp_t c19
          have hr := ite_p hr c19
          refine lv_iconst (v := (1 : Int32)) hx hb dX7_isAgainst_43 (by decide) ?_
          refine lv_goto (tgt := 48) hx hb dX7_isAgainst_44 (by decide) ?_
          obtain rfl := Option.some.inj hr
          exact kret _ _ dX7_isAgainst_48 nar_1

