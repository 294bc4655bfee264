def f_X7_standing (mo_wide : Int32) (mo_high : Int32) (mo_acts : Int32) (a_neighbours : Nat → Int64) (a_blackAt : Nat → Int64) (a_whiteAt : Nat → Int64) (a0 : Int32) : Option (Int32) :=
  (f_X7_in a0 (1 : Int32) (2 : Int32)).bind fun q1 =>
  if q1 = 0 then (
    some ((-2 : Int32))
  )
  else (
    (f_X7_stand mo_wide mo_high mo_acts a_neighbours a_blackAt a_whiteAt a0).bind fun q3 =>
    (f_X7_many q3).bind fun q4 =>
    some (q4)
  )

abbrev rm_X7_standing : Room := { frames := 7, cells := 0, slots := 0, locals := 169 }
set_option maxHeartbeats 4000000 in
set_option maxRecDepth 100000 in
theorem c_X7_standing (l : Launch) (dC : Nat → ClassId) (dI : Nat → Nat → Nat) (ad : Nat → Nat) (cA : Nat → ClassId) (mo_wide mo_high mo_law mo_acts : Int32) (mo_newBlack mo_newWhite : Int64) (mo_taken mo_triesMany mo_isSpent mo_found : Int32) (a_neighbours : Nat → Int64) (a_act : Nat → Int32) (a_blackAt a_whiteAt : Nat → Int64) (a_moveAt a_takenBlack a_takenWhite : Nat → Int32) (a_chaseBlack a_chaseWhite a_aheadBlack a_aheadWhite : Nat → Int64) (a_hasAhead : Nat → Int32) (a_breathsLeft a_laidBlack a_laidWhite a_answersLeft : Nat → Int64) (a_firstAnswer a_answering a_next : Nat → Int32) (a0 : Int32) (q : Int32) (hr : f_X7_standing mo_wide mo_high mo_acts a_neighbours a_blackAt a_whiteAt a0 = some q) : Met l yX7_standing wsX7_standing rm_X7_standing (PrP (dC, dI) (wd_X7 ad cA mo_wide mo_high mo_law mo_acts mo_newBlack mo_newWhite mo_taken mo_triesMany mo_isSpent mo_found a_neighbours a_act a_blackAt a_whiteAt a_moveAt a_takenBlack a_takenWhite a_chaseBlack a_chaseWhite a_aheadBlack a_aheadWhite a_hasAhead a_breathsLeft a_laidBlack a_laidWhite a_answersLeft a_firstAnswer a_answering a_next) (td_X7 cA) [.ref (ad 0), .int a0]) (vp_Si (fun x => x = q)) 0 0 (fun _ => False) := by
  refine mkP_i (cc := cX7_standing) (nL := 2) (by decide) rfl (Nat.le_of_ble_eq_true rfl) ?_
  intro p e R s m args below meth c H Q ls hRf hRl S hN hP hK hl kret
  have hl : lv_has ls 2 [(0, .ref (ad 0)), (1, .int a0)] := hl
  obtain ⟨hx, hb, hml, hown, hts⟩ := S
  have hown : s.vm.findClass RX7 = some m.cls := hown
  have S : CallFix p m c cX7_standing 2 s args wsX7_standing RX7 := ⟨hx, hb, hml, hown, hts⟩
  unfold f_X7_standing at hr
  refine lv_iload_n hx hb dX7_standing_0 rfl (lv_at hl 1 rfl) ?_
  refine lv_iconst (v := (1 : Int32)) hx hb dX7_standing_1 (by decide) ?_
  refine lv_iconst (v := (2 : Int32)) hx hb dX7_standing_2 (by decide) ?_
  obtain ⟨q1, hq1, hr⟩ := bd_use hr
  refine pcS_i (As := [.int a0, .int (1 : Int32), .int (2 : Int32)]) (rest := []) S (c_X7_in l dC dI a0 (1 : Int32) (2 : Int32) q1 hq1) (va_cwS 3 hts gX7_standing_X7_in rfl rfl rfl (by decide +kernel) ⟨Nat.le_trans (m := rm_X7_standing.frames) (by decide) hRf, Nat.le_trans (m := rm_X7_standing.locals) (by decide) hRl⟩) hN hP hK ⟨Nat.zero_le _, Nat.zero_le _⟩ rfl hl.1 rfl (Nat.le_of_ble_eq_true rfl) dX7_standing_3 ?_
  refine lv_if_eq (tgt := 20) hx hb dX7_standing_6 (by decide) (fun c2 => ?_) (fun c2 => ?_)
  · have hr := ite_p hr c2
    refine lv_bipush (v := (-2 : Int32)) hx hb dX7_standing_20 (by decide) ?_
    obtain rfl := Option.some.inj hr
    exact kret _ _ dX7_standing_22
  · have hr := ite_n hr c2
    refine lv_aload_n hx hb dX7_standing_9 rfl (lv_at hl 0 rfl) ?_
    refine lv_iload_n hx hb dX7_standing_10 rfl (lv_at hl 1 rfl) ?_
    obtain ⟨q3, hq3, hr⟩ := bd_use hr
    refine pcV_l (As := [.int a0]) (rest := []) S (c_X7_stand l dC dI ad cA mo_wide mo_high mo_law mo_acts mo_newBlack mo_newWhite mo_taken mo_triesMany mo_isSpent mo_found a_neighbours a_act a_blackAt a_whiteAt a_moveAt a_takenBlack a_takenWhite a_chaseBlack a_chaseWhite a_aheadBlack a_aheadWhite a_hasAhead a_breathsLeft a_laidBlack a_laidWhite a_answersLeft a_firstAnswer a_answering a_next a0 q3 hq3) (cwV 1 hts gX7_standing_X7_stand rfl rfl rfl (by decide +kernel) ⟨Nat.le_trans (m := rm_X7_standing.frames) (by decide) hRf, Nat.le_trans (m := rm_X7_standing.locals) (by decide) hRl⟩) hN hP hK ⟨Nat.zero_le _, Nat.zero_le _⟩ [0, 1, 2, 3, 4, 5, 6, 7, 8, 9, 10, 11, 12, 13, 14, 15, 16, 17, 18, 19] rfl [0, 1, 2, 3, 4, 5, 6, 7, 8, 9, 10, 11, 12, 13, 14, 15, 16, 17, 18] rfl 0 7 rfl rfl rfl hl.1 rfl (Nat.le_of_ble_eq_true rfl) dX7_standing_11 ?_
    obtain ⟨q4, hq4, hr⟩ := bd_use hr
    refine pcS_i (As := [.long q3]) (rest := []) S (c_X7_many l dC dI q3 q4 hq4) (va_cwS 1 hts gX7_standing_X7_many rfl rfl rfl (by decide +kernel) ⟨Nat.le_trans (m := rm_X7_standing.frames) (by decide) hRf, Nat.le_trans (m := rm_X7_standing.locals) (by decide) hRl⟩) hN hP hK ⟨Nat.zero_le _, Nat.zero_le _⟩ rfl hl.1 rfl (Nat.le_of_ble_eq_true rfl) dX7_standing_14 ?_
    refine lv_goto (tgt := 22) hx hb dX7_standing_17 (by decide) ?_
    obtain rfl := Option.some.inj hr
    exact kret _ _ dX7_standing_22

def f_X7_counts (mo_triesMany : Int32) (mo_isSpent : Int32)  : Option (Int32 × Int32) :=
  if mo_triesMany = (600 : Int32) then (
    some (mo_triesMany, (1 : Int32))
  )
  else (
    nm (mo_triesMany + (1 : Int32)) fun x2 =>
    some (x2, mo_isSpent)
  )

abbrev rm_X7_counts : Room := { frames := 0, cells := 0, slots := 0, locals := 0 }
set_option maxHeartbeats 4000000 in
set_option maxRecDepth 100000 in
theorem c_X7_counts (l : Launch) (dC : Nat → ClassId) (dI : Nat → Nat → Nat) (ad : Nat → Nat) (cA : Nat → ClassId) (mo_wide mo_high mo_law mo_acts : Int32) (mo_newBlack mo_newWhite : Int64) (mo_taken mo_triesMany mo_isSpent mo_found : Int32) (a_neighbours : Nat → Int64) (a_act : Nat → Int32) (a_blackAt a_whiteAt : Nat → Int64) (a_moveAt a_takenBlack a_takenWhite : Nat → Int32) (a_chaseBlack a_chaseWhite a_aheadBlack a_aheadWhite : Nat → Int64) (a_hasAhead : Nat → Int32) (a_breathsLeft a_laidBlack a_laidWhite a_answersLeft : Nat → Int64) (a_firstAnswer a_answering a_next : Nat → Int32) (sz : Nat)  (q : Int32 × Int32) (hr : f_X7_counts mo_triesMany mo_isSpent  = some q) : Met l yX7_counts wsX7_counts rm_X7_counts (PrI (dC, dI) (wd_X7 ad cA mo_wide mo_high mo_law mo_acts mo_newBlack mo_newWhite mo_taken mo_triesMany mo_isSpent mo_found a_neighbours a_act a_blackAt a_whiteAt a_moveAt a_takenBlack a_takenWhite a_chaseBlack a_chaseWhite a_aheadBlack a_aheadWhite a_hasAhead a_breathsLeft a_laidBlack a_laidWhite a_answersLeft a_firstAnswer a_answering a_next) (td_X7 cA) sz [.ref (ad 0)]) (QIv (dC, dI) (wd_X7 ad cA mo_wide mo_high mo_law mo_acts mo_newBlack mo_newWhite mo_taken mo_triesMany mo_isSpent mo_found a_neighbours a_act a_blackAt a_whiteAt a_moveAt a_takenBlack a_takenWhite a_chaseBlack a_chaseWhite a_aheadBlack a_aheadWhite a_hasAhead a_breathsLeft a_laidBlack a_laidWhite a_answersLeft a_firstAnswer a_answering a_next) (td_X7 cA) sz (wd_X7 ad cA mo_wide mo_high mo_law mo_acts mo_newBlack mo_newWhite mo_taken q.1 q.2 mo_found a_neighbours a_act a_blackAt a_whiteAt a_moveAt a_takenBlack a_takenWhite a_chaseBlack a_chaseWhite a_aheadBlack a_aheadWhite a_hasAhead a_breathsLeft a_laidBlack a_laidWhite a_answersLeft a_firstAnswer a_answering a_next)) 0 0 (va_A (wd_X7 ad cA mo_wide mo_high mo_law mo_acts mo_newBlack mo_newWhite mo_taken mo_triesMany mo_isSpent mo_found a_neighbours a_act a_blackAt a_whiteAt a_moveAt a_takenBlack a_takenWhite a_chaseBlack a_chaseWhite a_aheadBlack a_aheadWhite a_hasAhead a_breathsLeft a_laidBlack a_laidWhite a_answersLeft a_firstAnswer a_answering a_next) sz) := by
  refine mkI_v (cc := cX7_counts) (nL := 1) (by decide) rfl (Nat.le_of_ble_eq_true rfl) ?_
  intro p e R s m args below meth c H0 H locs A Q ls hRf hRl S hN hP hK hD hA hS hl kret
  have hl : lv_has ls 1 [(0, .ref (ad 0))] := hl
  obtain ⟨hx, hb, hml, hown, hts⟩ := S
  have hown : s.vm.findClass RX7 = some m.cls := hown
  have S : CallFix p m c cX7_counts 1 s args wsX7_counts RX7 := ⟨hx, hb, hml, hown, hts⟩
  have huX7 : ∀ w ∈ u_ws RX7 TX7 29, w ∈ wsX7_counts := by decide +kernel
  have hf183 := hts (.fieldLink RX7 183 "EyeBoardModel" "triesMany" "I") (by decide +kernel)
  have hf186 := hts (.fieldLink RX7 186 "EyeBoardModel" "isSpent" "Z") (by decide +kernel)
  unfold f_X7_counts at hr
  refine lv_aload_n hx hb dX7_counts_0 rfl (lv_at hl 0 rfl) ?_
  refine va_get (D := (dC, dI)) (ci := 7) (v := .int mo_triesMany) (C := RX7) (T := TX7) (N := 29) hx hb hts huX7 hown hK hP 0 rfl rfl 14 (by decide) hf183 (fun _ h9 => h9) rfl dX7_counts_1 ?_
  refine lv_sipush (v := (600 : Int32)) hx hb dX7_counts_4 (by decide) ?_
  refine lv_icmp_ne (tgt := 18) hx hb dX7_counts_7 (by decide) (fun c1 => ?_) (fun c1 => ?_)
  · have hr := ite_n hr c1
    refine lv_aload_n hx hb dX7_counts_18 rfl (lv_at hl 0 rfl) ?_
    refine lv_dup hx hb dX7_counts_19 rfl ?_
    refine va_get (D := (dC, dI)) (ci := 7) (v := .int mo_triesMany) (C := RX7) (T := TX7) (N := 29) hx hb hts huX7 hown hK hP 0 rfl rfl 14 (by decide) hf183 (fun _ h9 => h9) rfl dX7_counts_20 ?_
    refine lv_iconst (v := (1 : Int32)) hx hb dX7_counts_23 (by decide) ?_
    refine lv_iadd hx hb dX7_counts_24 ?_
    refine lv_topi (fun x2 ex2 => ?_)
    have hr := nm_use hr ex2
    refine va_put (D := (dC, dI)) (ci := 7) (v := .int x2) (ty := .int) (C := RX7) (T := TX7) (N := 29) hx hb hts huX7 tyX7 tyX7_ok nmX7 hown hK hP hD hS 0 rfl rfl 14 (by decide) hf183 (fun _ h9 => h9) rfl (by decide +kernel) rfl rfl (Nat.le_of_ble_eq_true rfl) dX7_counts_25 (fun H locs hP hD hS => ?_)
    have hP : va_P (dC, dI) vwCl (wd_X7 ad cA mo_wide mo_high mo_law mo_acts mo_newBlack mo_newWhite mo_taken x2 mo_isSpent mo_found a_neighbours a_act a_blackAt a_whiteAt a_moveAt a_takenBlack a_takenWhite a_chaseBlack a_chaseWhite a_aheadBlack a_aheadWhite a_hasAhead a_breathsLeft a_laidBlack a_laidWhite a_answersLeft a_firstAnswer a_answering a_next) H := hP
    have hD : va_D A (wd_X7 ad cA mo_wide mo_high mo_law mo_acts mo_newBlack mo_newWhite mo_taken x2 mo_isSpent mo_found a_neighbours a_act a_blackAt a_whiteAt a_moveAt a_takenBlack a_takenWhite a_chaseBlack a_chaseWhite a_aheadBlack a_aheadWhite a_hasAhead a_breathsLeft a_laidBlack a_laidWhite a_answersLeft a_firstAnswer a_answering a_next) := hD
    obtain rfl := Option.some.inj hr
    exact kret _ _ _ _ dX7_counts_28 hP hD hS
  · have hr := ite_p hr c1
    refine lv_aload_n hx hb dX7_counts_10 rfl (lv_at hl 0 rfl) ?_
    refine lv_iconst (v := (1 : Int32)) hx hb dX7_counts_11 (by decide) ?_
    refine va_put (D := (dC, dI)) (ci := 7) (v := .int (1 : Int32)) (ty := .boolean) (C := RX7) (T := TX7) (N := 29) hx hb hts huX7 tyX7 tyX7_ok nmX7 hown hK hP hD hS 0 rfl rfl 15 (by decide) hf186 (fun _ h9 => h9) rfl (by decide +kernel) rfl rfl (Nat.le_of_ble_eq_true rfl) dX7_counts_12 (fun H locs hP hD hS => ?_)
    have hP : va_P (dC, dI) vwCl (wd_X7 ad cA mo_wide mo_high mo_law mo_acts mo_newBlack mo_newWhite mo_taken mo_triesMany (1 : Int32) mo_found a_neighbours a_act a_blackAt a_whiteAt a_moveAt a_takenBlack a_takenWhite a_chaseBlack a_chaseWhite a_aheadBlack a_aheadWhite a_hasAhead a_breathsLeft a_laidBlack a_laidWhite a_answersLeft a_firstAnswer a_answering a_next) H := hP
    have hD : va_D A (wd_X7 ad cA mo_wide mo_high mo_law mo_acts mo_newBlack mo_newWhite mo_taken mo_triesMany (1 : Int32) mo_found a_neighbours a_act a_blackAt a_whiteAt a_moveAt a_takenBlack a_takenWhite a_chaseBlack a_chaseWhite a_aheadBlack a_aheadWhite a_hasAhead a_breathsLeft a_laidBlack a_laidWhite a_answersLeft a_firstAnswer a_answering a_next) := hD
    refine lv_goto (tgt := 28) hx hb dX7_counts_15 (by decide) ?_
    obtain rfl := Option.some.inj hr
    exact kret _ _ _ _ dX7_counts_28 hP hD hS

def f_X7_chaseBreaths (mo_wide : Int32) (mo_high : Int32) (a_neighbours : Nat → Int64) (a0 : Int64) (a1 : Int64) (a2 : Int32) (a3 : Int32) : Option (Int64) :=
  nm (fun (u1 : Int64) =>
  (f_X7_spread mo_wide mo_high a_neighbours (jshl (1 : Int64) a3) u1).bind fun q3 =>
  (f_X7_around mo_wide mo_high a_neighbours q3).bind fun q4 =>
  (f_X7_free mo_wide mo_high a0 a1).bind fun q5 =>
  some (q4 &&& q5)
  ) fun K2 =>
  if a2 = (1 : Int32) then (
    K2 a0
  )
  else (
    K2 a1
  )

abbrev rm_X7_chaseBreaths : Room := { frames := 3, cells := 0, slots := 0, locals := 73 }
set_option maxHeartbeats 4000000 in
set_option maxRecDepth 100000 in
theorem c_X7_chaseBreaths (l : Launch) (dC : Nat → ClassId) (dI : Nat → Nat → Nat) (ad : Nat → Nat) (cA : Nat → ClassId) (mo_wide mo_high mo_law mo_acts : Int32) (mo_newBlack mo_newWhite : Int64) (mo_taken mo_triesMany mo_isSpent mo_found : Int32) (a_neighbours : Nat → Int64) (a_act : Nat → Int32) (a_blackAt a_whiteAt : Nat → Int64) (a_moveAt a_takenBlack a_takenWhite : Nat → Int32) (a_chaseBlack a_chaseWhite a_aheadBlack a_aheadWhite : Nat → Int64) (a_hasAhead : Nat → Int32) (a_breathsLeft a_laidBlack a_laidWhite a_answersLeft : Nat → Int64) (a_firstAnswer a_answering a_next : Nat → Int32) (a0 : Int64) (a1 : Int64) (a2 : Int32) (a3 : Int32) (q : Int64) (hr : f_X7_chaseBreaths mo_wide mo_high a_neighbours a0 a1 a2 a3 = some q) : Met l yX7_chaseBreaths wsX7_chaseBreaths rm_X7_chaseBreaths (PrP (dC, dI) (wd_X7 ad cA mo_wide mo_high mo_law mo_acts mo_newBlack mo_newWhite mo_taken mo_triesMany mo_isSpent mo_found a_neighbours a_act a_blackAt a_whiteAt a_moveAt a_takenBlack a_takenWhite a_chaseBlack a_chaseWhite a_aheadBlack a_aheadWhite a_hasAhead a_breathsLeft a_laidBlack a_laidWhite a_answersLeft a_firstAnswer a_answering a_next) (td_X7 cA) [.ref (ad 0), .long a0, .long a1, .int a2, .int a3]) (vp_Sl (fun x => x = q)) 0 0 (fun _ => False) := by
  refine mkP_l (cc := cX7_chaseBreaths) (nL := 7) (by decide) rfl (Nat.le_of_ble_eq_true rfl) ?_
  intro p e R s m args below meth c H Q ls hRf hRl S hN hP hK hl kret
  have hl : lv_has ls 7 [(0, .ref (ad 0)), (1, .long a0), (3, .long a1), (5, .int a2), (6, .int a3)] := hl
  obtain ⟨hx, hb, hml, hown, hts⟩ := S
  have hown : s.vm.findClass RX7 = some m.cls := hown
  have S : CallFix p m c cX7_chaseBreaths 7 s args wsX7_chaseBreaths RX7 := ⟨hx, hb, hml, hown, hts⟩
  unfold f_X7_chaseBreaths at hr
  refine lv_aload_n hx hb dX7_chaseBreaths_0 rfl (lv_at hl 0 rfl) ?_
  refine lv_aload_n hx hb dX7_chaseBreaths_1 rfl (lv_at hl 0 rfl) ?_
  refine lv_lconst (v := (1 : Int64)) hx hb dX7_chaseBreaths_2 (by decide) ?_
  refine lv_iload hx hb dX7_chaseBreaths_3 (lv_at hl 4 rfl) ?_
  refine lv_lshl (v := jshl (1 : Int64) a3) hx hb dX7_chaseBreaths_5 rfl ?_
  refine lv_iload hx hb dX7_chaseBreaths_6 (lv_at hl 3 rfl) ?_
  refine lv_iconst (v := (1 : Int32)) hx hb dX7_chaseBreaths_8 (by decide) ?_
  obtain ⟨K2, eK2, hr⟩ := nm_ex hr
  have kK2 : ∀ (u1 : Int64) , K2 u1 = some q → ∀ (ls : Array Slot), lv_has ls 7 [(0, .ref (ad 0)), (1, .long a0), (3, .long a1)] → W p l e R s m args below meth c H [] 0 0 Q (F0 m 17 ls [.long u1, .long (jshl (1 : Int64) a3), .ref (ad 0), .ref (ad 0)]) := by
    intro u1 hr ls hl
    rw [eK2] at hr
    obtain ⟨q3, hq3, hr⟩ := bd_use hr
    refine pcV_l (As := [.long (jshl (1 : Int64) a3), .long u1]) (rest := [.ref (ad 0)]) S (c_X7_spread l dC dI ad cA mo_wide mo_high mo_law mo_acts mo_newBlack mo_newWhite mo_taken mo_triesMany mo_isSpent mo_found a_neighbours a_act a_blackAt a_whiteAt a_moveAt a_takenBlack a_takenWhite a_chaseBlack a_chaseWhite a_aheadBlack a_aheadWhite a_hasAhead a_breathsLeft a_laidBlack a_laidWhite a_answersLeft a_firstAnswer a_answering a_next (jshl (1 : Int64) a3) u1 q3 hq3) (cwV 2 hts gX7_chaseBreaths_X7_spread rfl rfl rfl (by decide +kernel) ⟨Nat.le_trans (m := rm_X7_chaseBreaths.frames) (by decide) hRf, Nat.le_trans (m := rm_X7_chaseBreaths.locals) (by decide) hRl⟩) hN hP hK ⟨Nat.zero_le _, Nat.zero_le _⟩ [0, 1, 2, 3, 4, 5, 6, 7, 8, 9, 10, 11, 12, 13, 14, 15, 16, 17, 18, 19] rfl [0, 1, 2, 3, 4, 5, 6, 7, 8, 9, 10, 11, 12, 13, 14, 15, 16, 17, 18] rfl 0 7 rfl rfl rfl hl.1 rfl (Nat.le_of_ble_eq_true rfl) dX7_chaseBreaths_17 ?_
    obtain ⟨q4, hq4, hr⟩ := bd_use hr
    refine pcV_l (As := [.long q3]) (rest := []) S (c_X7_around l dC dI ad cA mo_wide mo_high mo_law mo_acts mo_newBlack mo_newWhite mo_taken mo_triesMany mo_isSpent mo_found a_neighbours a_act a_blackAt a_whiteAt a_moveAt a_takenBlack a_takenWhite a_chaseBlack a_chaseWhite a_aheadBlack a_aheadWhite a_hasAhead a_breathsLeft a_laidBlack a_laidWhite a_answersLeft a_firstAnswer a_answering a_next q3 q4 hq4) (cwV 1 hts gX7_chaseBreaths_X7_around rfl rfl rfl (by decide +kernel) ⟨Nat.le_trans (m := rm_X7_chaseBreaths.frames) (by decide) hRf, Nat.le_trans (m := rm_X7_chaseBreaths.locals) (by decide) hRl⟩) hN hP hK ⟨Nat.zero_le _, Nat.zero_le _⟩ [0, 1, 2, 3, 4, 5, 6, 7, 8, 9, 10, 11, 12, 13, 14, 15, 16, 17, 18, 19] rfl [0, 1, 2, 3, 4, 5, 6, 7, 8, 9, 10, 11, 12, 13, 14, 15, 16, 17, 18] rfl 0 7 rfl rfl rfl hl.1 rfl (Nat.le_of_ble_eq_true rfl) dX7_chaseBreaths_20 ?_
    refine lv_aload_n hx hb dX7_chaseBreaths_23 rfl (lv_at hl 0 rfl) ?_
    refine lv_lload_n hx hb dX7_chaseBreaths_24 rfl (lv_at hl 1 rfl) ?_
    refine lv_lload_n hx hb dX7_chaseBreaths_25 rfl (lv_at hl 2 rfl) ?_
    obtain ⟨q5, hq5, hr⟩ := bd_use hr
    refine pcV_l (As := [.long a0, .long a1]) (rest := [.long q4]) S (c_X7_free l dC dI ad cA mo_wide mo_high mo_law mo_acts mo_newBlack mo_newWhite mo_taken mo_triesMany mo_isSpent mo_found a_neighbours a_act a_blackAt a_whiteAt a_moveAt a_takenBlack a_takenWhite a_chaseBlack a_chaseWhite a_aheadBlack a_aheadWhite a_hasAhead a_breathsLeft a_laidBlack a_laidWhite a_answersLeft a_firstAnswer a_answering a_next a0 a1 q5 hq5) (cwV 2 hts gX7_chaseBreaths_X7_free rfl rfl rfl (by decide +kernel) ⟨Nat.le_trans (m := rm_X7_chaseBreaths.frames) (by decide) hRf, Nat.le_trans (m := rm_X7_chaseBreaths.locals) (by decide) hRl⟩) hN hP hK ⟨Nat.zero_le _, Nat.zero_le _⟩ [0, 1, 2, 3, 4, 5, 6, 7, 8, 9, 10, 11, 12, 13, 14, 15, 16, 17, 18, 19] rfl [0, 1, 2, 3, 4, 5, 6, 7, 8, 9, 10, 11, 12, 13, 14, 15, 16, 17, 18] rfl 0 7 rfl rfl rfl hl.1 rfl (Nat.le_of_ble_eq_true rfl) dX7_chaseBreaths_26 ?_
    refine lv_land hx hb dX7_chaseBreaths_29 ?_
    obtain rfl := Option.some.inj hr
    exact kret _ _ dX7_chaseBreaths_30
  refine lv_icmp_ne (tgt := 16) hx hb dX7_chaseBreaths_9 (by decide) (fun c6 => ?_) (fun c6 => ?_)
  · have hr := ite_n hr c6
    refine lv_lload_n hx hb dX7_chaseBreaths_16 rfl (lv_at hl 2 rfl) ?_
    exact kK2 a1 hr ls (lv_sub hl [0, 1, 2] rfl)
  · have hr := ite_p hr c6
    refine lv_lload_n hx hb dX7_chaseBreaths_12 rfl (lv_at hl 1 rfl) ?_
    refine lv_goto (tgt := 17) hx hb dX7_chaseBreaths_13 (by decide) ?_
    exact kK2 a0 hr ls (lv_sub hl [0, 1, 2] rfl)

def f_X7_isAt (mo_newBlack : Int64) (mo_newWhite : Int64) (a0 : Int64) (a1 : Int64) : Option (Int32) :=
  if mo_newBlack = a0 then (
    if mo_newWhite = a1 then (
      some ((1 : Int32))
    )
    else (
      some ((0 : Int32))
    )
  )
  else (
    some ((0 : Int32))
  )

abbrev rm_X7_isAt : Room := { frames := 0, cells := 0, slots := 0, locals := 0 }
set_option maxHeartbeats 4000000 in
set_option maxRecDepth 100000 in
theorem c_X7_isAt (l : Launch) (dC : Nat → ClassId) (dI : Nat → Nat → Nat) (ad : Nat → Nat) (cA : Nat → ClassId) (mo_wide mo_high mo_law mo_acts : Int32) (mo_newBlack mo_newWhite : Int64) (mo_taken mo_triesMany mo_isSpent mo_found : Int32) (a_neighbours : Nat → Int64) (a_act : Nat → Int32) (a_blackAt a_whiteAt : Nat → Int64) (a_moveAt a_takenBlack a_takenWhite : Nat → Int32) (a_chaseBlack a_chaseWhite a_aheadBlack a_aheadWhite : Nat → Int64) (a_hasAhead : Nat → Int32) (a_breathsLeft a_laidBlack a_laidWhite a_answersLeft : Nat → Int64) (a_firstAnswer a_answering a_next : Nat → Int32) (a0 : Int64) (a1 : Int64) (q : Int32) (hr : f_X7_isAt mo_newBlack mo_newWhite a0 a1 = some q) : Met l yX7_isAt wsX7_isAt rm_X7_isAt (PrP (dC, dI) (wd_X7 ad cA mo_wide mo_high mo_law mo_acts mo_newBlack mo_newWhite mo_taken mo_triesMany mo_isSpent mo_found a_neighbours a_act a_blackAt a_whiteAt a_moveAt a_takenBlack a_takenWhite a_chaseBlack a_chaseWhite a_aheadBlack a_aheadWhite a_hasAhead a_breathsLeft a_laidBlack a_laidWhite a_answersLeft a_firstAnswer a_answering a_next) (td_X7 cA) [.ref (ad 0), .long a0, .long a1]) (vp_Si (fun x => x = q)) 0 0 (fun _ => False) := by
  refine mkP_z (cc := cX7_isAt) (nL := 5) (by decide) rfl (Nat.le_of_ble_eq_true rfl) ?_
  intro p e R s m args below meth c H Q ls hRf hRl S hN hP hK hl kret
  have hl : lv_has ls 5 [(0, .ref (ad 0)), (1, .long a0), (3, .long a1)] := hl
  obtain ⟨hx, hb, hml, hown, hts⟩ := S
  have hown : s.vm.findClass RX7 = some m.cls := hown
  have S : CallFix p m c cX7_isAt 5 s args wsX7_isAt RX7 := ⟨hx, hb, hml, hown, hts⟩
  have huX7 : ∀ w ∈ u_ws RX7 TX7 29, w ∈ wsX7_isAt := by decide +kernel
  have hf122 := hts (.fieldLink RX7 122 "EyeBoardModel" "newBlack" "J") (by decide +kernel)
  have hf126 := hts (.fieldLink RX7 126 "EyeBoardModel" "newWhite" "J") (by decide +kernel)
  unfold f_X7_isAt at hr
  refine lv_aload_n hx hb dX7_isAt_0 rfl (lv_at hl 0 rfl) ?_
  refine va_get (D := (dC, dI)) (ci := 7) (v := .long mo_newBlack) (C := RX7) (T := TX7) (N := 29) hx hb hts huX7 hown hK hP 0 rfl rfl 11 (by decide) hf122 (fun _ h9 => h9) rfl dX7_isAt_1 ?_
  refine lv_lload_n hx hb dX7_isAt_4 rfl (lv_at hl 1 rfl) ?_
  refine W.lcmp hx hb dX7_isAt_5 ?_
  refine lv_if_ne (tgt := 22) hx hb dX7_isAt_6 (by decide) (fun c1 => ?_) (fun c1 => ?_)
  · have c1 := cmp_f c1
    have hr := ite_n hr c1
    refine lv_iconst (v := (0 : Int32)) hx hb dX7_isAt_22 (by decide) ?_
    obtain rfl := Option.some.inj hr
    exact kret _ _ dX7_isAt_23 nar_0
  · have c1 := cmp_t c1
    have hr := ite_p hr c1
    refine lv_aload_n hx hb dX7_isAt_9 rfl (lv_at hl 0 rfl) ?_
    refine va_get (D := (dC, dI)) (ci := 7) (v := .long mo_newWhite) (C := RX7) (T := TX7) (N := 29) hx hb hts huX7 hown hK hP 0 rfl rfl 12 (by decide) hf126 (fun _ h9 => h9) rfl dX7_isAt_10 ?_
    refine lv_lload_n hx hb dX7_isAt_13 rfl (lv_at hl 2 rfl) ?_
    refine W.lcmp hx hb dX7_isAt_14 ?_
    refine lv_if_ne (tgt := 22) hx hb dX7_isAt_15 (by decide) (fun c2 => ?_) (fun c2 => ?_)
    · have c2 := cmp_f c2
      have hr := ite_n hr c2
      refine lv_iconst (v := (0 : Int32)) hx hb dX7_isAt_22 (by decide) ?_
      obtain rfl := Option.some.inj hr
      exact kret _ _ dX7_isAt_23 nar_0
    · have c2 := cmp_t c2
      have hr := ite_p hr c2
      refine lv_iconst (v := (1 : Int32)) hx hb dX7_isAt_18 (by decide) ?_
      refine lv_goto (tgt := 23) hx hb dX7_isAt_19 (by decide) ?_
      obtain rfl := Option.some.inj hr
      exact kret _ _ dX7_isAt_23 nar_1

def f_X7_comes (mo_wide : Int32) (mo_high : Int32) (a_neighbours : Nat → Int64) (a_chaseBlack : Nat → Int64) (a_chaseWhite : Nat → Int64) (a_breathsLeft : Nat → Int64) (a_answering : Nat → Int32) (a0 : Int32) (a1 : Int64) (a2 : Int64) (a3 : Int32) (a4 : Int32) : Option ((Nat → Int64) × (Nat → Int64) × (Nat → Int64) × (Nat → Int32)) :=
  if (a0 < 0 ∨ 21 ≤ a0.toNatClampNeg) then none else
  if (a0 < 0 ∨ 21 ≤ a0.toNatClampNeg) then none else
  (f_X7_chaseBreaths mo_wide mo_high a_neighbours a1 a2 a3 a4).bind fun q3 =>
  if (a0 < 0 ∨ 21 ≤ a0.toNatClampNeg) then none else
  if (a0 < 0 ∨ 21 ≤ a0.toNatClampNeg) then none else
  some (vp_updL a_chaseBlack a0.toNatClampNeg a1, vp_updL a_chaseWhite a0.toNatClampNeg a2, vp_updL a_breathsLeft a0.toNatClampNeg q3, upd a_answering a0.toNatClampNeg (vp_nar .boolean (0 : Int32)))

abbrev rm_X7_comes : Room := { frames := 4, cells := 0, slots := 0, locals := 99 }
set_option maxHeartbeats 4000000 in
set_option maxRecDepth 100000 in
theorem c_X7_comes (l : Launch) (dC : Nat → ClassId) (dI : Nat → Nat → Nat) (ad : Nat → Nat) (cA : Nat → ClassId) (mo_wide mo_high mo_law mo_acts : Int32) (mo_newBlack mo_newWhite : Int64) (mo_taken mo_triesMany mo_isSpent mo_found : Int32) (a_neighbours : Nat → Int64) (a_act : Nat → Int32) (a_blackAt a_whiteAt : Nat → Int64) (a_moveAt a_takenBlack a_takenWhite : Nat → Int32) (a_chaseBlack a_chaseWhite a_aheadBlack a_aheadWhite : Nat → Int64) (a_hasAhead : Nat → Int32) (a_breathsLeft a_laidBlack a_laidWhite a_answersLeft : Nat → Int64) (a_firstAnswer a_answering a_next : Nat → Int32) (sz : Nat) (a0 : Int32) (a1 : Int64) (a2 : Int64) (a3 : Int32) (a4 : Int32) (q : (Nat → Int64) × (Nat → Int64) × (Nat → Int64) × (Nat → Int32)) (hr : f_X7_comes mo_wide mo_high a_neighbours a_chaseBlack a_chaseWhite a_breathsLeft a_answering a0 a1 a2 a3 a4 = some q) : Met l yX7_comes wsX7_comes rm_X7_comes (PrI (dC, dI) (wd_X7 ad cA mo_wide mo_high mo_law mo_acts mo_newBlack mo_newWhite mo_taken mo_triesMany mo_isSpent mo_found a_neighbours a_act a_blackAt a_whiteAt a_moveAt a_takenBlack a_takenWhite a_chaseBlack a_chaseWhite a_aheadBlack a_aheadWhite a_hasAhead a_breathsLeft a_laidBlack a_laidWhite a_answersLeft a_firstAnswer a_answering a_next) (td_X7 cA) sz [.ref (ad 0), .int a0, .long a1, .long a2, .int a3, .int a4]) (QIv (dC, dI) (wd_X7 ad cA mo_wide mo_high mo_law mo_acts mo_newBlack mo_newWhite mo_taken mo_triesMany mo_isSpent mo_found a_neighbours a_act a_blackAt a_whiteAt a_moveAt a_takenBlack a_takenWhite a_chaseBlack a_chaseWhite a_aheadBlack a_aheadWhite a_hasAhead a_breathsLeft a_laidBlack a_laidWhite a_answersLeft a_firstAnswer a_answering a_next) (td_X7 cA) sz (wd_X7 ad cA mo_wide mo_high mo_law mo_acts mo_newBlack mo_newWhite mo_taken mo_triesMany mo_isSpent mo_found a_neighbours a_act a_blackAt a_whiteAt a_moveAt a_takenBlack a_takenWhite q.1 q.2.1 a_aheadBlack a_aheadWhite a_hasAhead q.2.2.1 a_laidBlack a_laidWhite a_answersLeft a_firstAnswer q.2.2.2 a_next)) 0 0 (va_A (wd_X7 ad cA mo_wide mo_high mo_law mo_acts mo_newBlack mo_newWhite mo_taken mo_triesMany mo_isSpent mo_found a_neighbours a_act a_blackAt a_whiteAt a_moveAt a_takenBlack a_takenWhite a_chaseBlack a_chaseWhite a_aheadBlack a_aheadWhite a_hasAhead a_breathsLeft a_laidBlack a_laidWhite a_answersLeft a_firstAnswer a_answering a_next) sz) := by
  refine mkI_v (cc := cX7_comes) (nL := 8) (by decide) rfl (Nat.le_of_ble_eq_true rfl) ?_
  intro p e R s m args below meth c H0 H locs A Q ls hRf hRl S hN hP hK hD hA hS hl kret
  have hl : lv_has ls 8 [(0, .ref (ad 0)), (1, .int a0), (2, .long a1), (4, .long a2), (6, .int a3), (7, .int a4)] := hl
  obtain ⟨hx, hb, hml, hown, hts⟩ := S
  have hown : s.vm.findClass RX7 = some m.cls := hown
  have S : CallFix p m c cX7_comes 8 s args wsX7_comes RX7 := ⟨hx, hb, hml, hown, hts⟩
  have huX7 : ∀ w ∈ u_ws RX7 TX7 29, w ∈ wsX7_comes := by decide +kernel
  have hf39 := hts (.fieldLink RX7 39 "EyeBoardModel" "chaseBlack" "[J") (by decide +kernel)
  have hf42 := hts (.fieldLink RX7 42 "EyeBoardModel" "chaseWhite" "[J") (by decide +kernel)
  have hf55 := hts (.fieldLink RX7 55 "EyeBoardModel" "breathsLeft" "[J") (by decide +kernel)
  have hf70 := hts (.fieldLink RX7 70 "EyeBoardModel" "answering" "[Z") (by decide +kernel)
  unfold f_X7_comes at hr
  refine lv_aload_n hx hb dX7_comes_0 rfl (lv_at hl 0 rfl) ?_
  refine va_get (D := (dC, dI)) (ci := 7) (v := .ref (ad 8)) (C := RX7) (T := TX7) (N := 29) hx hb hts huX7 hown hK hP 0 rfl rfl 16 (by decide) hf39 (fun _ h9 => h9) rfl dX7_comes_1 ?_
  refine lv_iload_n hx hb dX7_comes_4 rfl (lv_at hl 1 rfl) ?_
  refine lv_lload_n hx hb dX7_comes_5 rfl (lv_at hl 2 rfl) ?_
  obtain ⟨hi1, hr⟩ := ite_g hr
  refine va_last hx hb hK hP hD hS 8 7 rfl rfl hi1 dX7_comes_6 (fun H locs hP hD hS => ?_)
  have hP : va_P (dC, dI) vwCl (wd_X7 ad cA mo_wide mo_high mo_law mo_acts mo_newBlack mo_newWhite mo_taken mo_triesMany mo_isSpent mo_found a_neighbours a_act a_blackAt a_whiteAt a_moveAt a_takenBlack a_takenWhite (vp_updL a_chaseBlack a0.toNatClampNeg a1) a_chaseWhite a_aheadBlack a_aheadWhite a_hasAhead a_breathsLeft a_laidBlack a_laidWhite a_answersLeft a_firstAnswer a_answering a_next) H := hP
  have hD : va_D A (wd_X7 ad cA mo_wide mo_high mo_law mo_acts mo_newBlack mo_newWhite mo_taken mo_triesMany mo_isSpent mo_found a_neighbours a_act a_blackAt a_whiteAt a_moveAt a_takenBlack a_takenWhite (vp_updL a_chaseBlack a0.toNatClampNeg a1) a_chaseWhite a_aheadBlack a_aheadWhite a_hasAhead a_breathsLeft a_laidBlack a_laidWhite a_answersLeft a_firstAnswer a_answering a_next) := hD
  refine lv_aload_n hx hb dX7_comes_7 rfl (lv_at hl 0 rfl) ?_
  refine va_get (D := (dC, dI)) (ci := 7) (v := .ref (ad 9)) (C := RX7) (T := TX7) (N := 29) hx hb hts huX7 hown hK hP 0 rfl rfl 17 (by decide) hf42 (fun _ h9 => h9) rfl dX7_comes_8 ?_
  refine lv_iload_n hx hb dX7_comes_11 rfl (lv_at hl 1 rfl) ?_
  refine lv_lload hx hb dX7_comes_12 (lv_at hl 3 rfl) ?_
  obtain ⟨hi2, hr⟩ := ite_g hr
  refine va_last hx hb hK hP hD hS 9 8 rfl rfl hi2 dX7_comes_14 (fun H locs hP hD hS => ?_)
  have hP : va_P (dC, dI) vwCl (wd_X7 ad cA mo_wide mo_high mo_law mo_acts mo_newBlack mo_newWhite mo_taken mo_triesMany mo_isSpent mo_found a_neighbours a_act a_blackAt a_whiteAt a_moveAt a_takenBlack a_takenWhite (vp_updL a_chaseBlack a0.toNatClampNeg a1) (vp_updL a_chaseWhite a0.toNatClampNeg a2) a_aheadBlack a_aheadWhite a_hasAhead a_breathsLeft a_laidBlack a_laidWhite a_answersLeft a_firstAnswer a_answering a_next) H := hP
  have hD : va_D A (wd_X7 ad cA mo_wide mo_high mo_law mo_acts mo_newBlack mo_newWhite mo_taken mo_triesMany mo_isSpent mo_found a_neighbours a_act a_blackAt a_whiteAt a_moveAt a_takenBlack a_takenWhite (vp_updL a_chaseBlack a0.toNatClampNeg a1) (vp_updL a_chaseWhite a0.toNatClampNeg a2) a_aheadBlack a_aheadWhite a_hasAhead a_breathsLeft a_laidBlack a_laidWhite a_answersLeft a_firstAnswer a_answering a_next) := hD
  refine lv_aload_n hx hb dX7_comes_15 rfl (lv_at hl 0 rfl) ?_
  refine va_get (D := (dC, dI)) (ci := 7) (v := .ref (ad 13)) (C := RX7) (T := TX7) (N := 29) hx hb hts huX7 hown hK hP 0 rfl rfl 21 (by decide) hf55 (fun _ h9 => h9) rfl dX7_comes_16 ?_
  refine lv_iload_n hx hb dX7_comes_19 rfl (lv_at hl 1 rfl) ?_
  refine lv_aload_n hx hb dX7_comes_20 rfl (lv_at hl 0 rfl) ?_
  refine lv_lload_n hx hb dX7_comes_21 rfl (lv_at hl 2 rfl) ?_
  refine lv_lload hx hb dX7_comes_22 (lv_at hl 3 rfl) ?_
  refine lv_iload hx hb dX7_comes_24 (lv_at hl 4 rfl) ?_
  refine lv_iload hx hb dX7_comes_26 (lv_at hl 5 rfl) ?_
  obtain ⟨q3, hq3, hr⟩ := bd_use hr
  refine pcV_l (As := [.long a1, .long a2, .int a3, .int a4]) (rest := [.int a0, .ref (ad 13)]) S (c_X7_chaseBreaths l dC dI ad cA mo_wide mo_high mo_law mo_acts mo_newBlack mo_newWhite mo_taken mo_triesMany mo_isSpent mo_found a_neighbours a_act a_blackAt a_whiteAt a_moveAt a_takenBlack a_takenWhite (vp_updL a_chaseBlack a0.toNatClampNeg a1) (vp_updL a_chaseWhite a0.toNatClampNeg a2) a_aheadBlack a_aheadWhite a_hasAhead a_breathsLeft a_laidBlack a_laidWhite a_answersLeft a_firstAnswer a_answering a_next a1 a2 a3 a4 q3 hq3) (cwV 4 hts gX7_comes_X7_chaseBreaths rfl rfl rfl (by decide +kernel) ⟨Nat.le_trans (m := rm_X7_comes.frames) (by decide) hRf, Nat.le_trans (m := rm_X7_comes.locals) (by decide) hRl⟩) hN hP hK ⟨Nat.zero_le _, Nat.zero_le _⟩ [0, 1, 2, 3, 4, 5, 6, 7, 8, 9, 10, 11, 12, 13, 14, 15, 16, 17, 18, 19] rfl [0, 1, 2, 3, 4, 5, 6, 7, 8, 9, 10, 11, 12, 13, 14, 15, 16, 17, 18] rfl 0 7 rfl rfl rfl hl.1 rfl (Nat.le_of_ble_eq_true rfl) dX7_comes_28 ?_
  obtain ⟨hi4, hr⟩ := ite_g hr
  refine va_last hx hb hK hP hD hS 13 12 rfl rfl hi4 dX7_comes_31 (fun H locs hP hD hS => ?_)
  have hP : va_P (dC, dI) vwCl (wd_X7 ad cA mo_wide mo_high mo_law mo_acts mo_newBlack mo_newWhite mo_taken mo_triesMany mo_isSpent mo_found a_neighbours a_act a_blackAt a_whiteAt a_moveAt a_takenBlack a_takenWhite (vp_updL a_chaseBlack a0.toNatClampNeg a1) (vp_updL a_chaseWhite a0.toNatClampNeg a2) a_aheadBlack a_aheadWhite a_hasAhead (vp_updL a_breathsLeft a0.toNatClampNeg q3) a_laidBlack a_laidWhite a_answersLeft a_firstAnswer a_answering a_next) H := hP
  have hD : va_D A (wd_X7 ad cA mo_wide mo_high mo_law mo_acts mo_newBlack mo_newWhite mo_taken mo_triesMany mo_isSpent mo_found a_neighbours a_act a_blackAt a_whiteAt a_moveAt a_takenBlack a_takenWhite (vp_updL a_chaseBlack a0.toNatClampNeg a1) (vp_updL a_chaseWhite a0.toNatClampNeg a2) a_aheadBlack a_aheadWhite a_hasAhead (vp_updL a_breathsLeft a0.toNatClampNeg q3) a_laidBlack a_laidWhite a_answersLeft a_firstAnswer a_answering a_next) := hD
  refine lv_aload_n hx hb dX7_comes_32 rfl (lv_at hl 0 rfl) ?_
  refine va_get (D := (dC, dI)) (ci := 7) (v := .ref (ad 18)) (C := RX7) (T := TX7) (N := 29) hx hb hts huX7 hown hK hP 0 rfl rfl 26 (by decide) hf70 (fun _ h9 => h9) rfl dX7_comes_33 ?_
  refine lv_iload_n hx hb dX7_comes_36 rfl (lv_at hl 1 rfl) ?_
  refine lv_iconst (v := (0 : Int32)) hx hb dX7_comes_37 (by decide) ?_
  obtain ⟨hi5, hr⟩ := ite_g hr
  refine va_zast hx hb hK hP hD hS 18 17 rfl rfl hi5 dX7_comes_38 (fun H locs hP hD hS => ?_)
  have hP : va_P (dC, dI) vwCl (wd_X7 ad cA mo_wide mo_high mo_law mo_acts mo_newBlack mo_newWhite mo_taken mo_triesMany mo_isSpent mo_found a_neighbours a_act a_blackAt a_whiteAt a_moveAt a_takenBlack a_takenWhite (vp_updL a_chaseBlack a0.toNatClampNeg a1) (vp_updL a_chaseWhite a0.toNatClampNeg a2) a_aheadBlack a_aheadWhite a_hasAhead (vp_updL a_breathsLeft a0.toNatClampNeg q3) a_laidBlack a_laidWhite a_answersLeft a_firstAnswer (upd a_answering a0.toNatClampNeg (vp_nar .boolean (0 : Int32))) a_next) H := hP
  have hD : va_D A (wd_X7 ad cA mo_wide mo_high mo_law mo_acts mo_newBlack mo_newWhite mo_taken mo_triesMany mo_isSpent mo_found a_neighbours a_act a_blackAt a_whiteAt a_moveAt a_takenBlack a_takenWhite (vp_updL a_chaseBlack a0.toNatClampNeg a1) (vp_updL a_chaseWhite a0.toNatClampNeg a2) a_aheadBlack a_aheadWhite a_hasAhead (vp_updL a_breathsLeft a0.toNatClampNeg q3) a_laidBlack a_laidWhite a_answersLeft a_firstAnswer (upd a_answering a0.toNatClampNeg (vp_nar .boolean (0 : Int32))) a_next) := hD
  obtain rfl := Option.some.inj hr
  exact kret _ _ _ _ dX7_comes_39 hP hD hS

def f_X7_mayChase (mo_wide : Int32) (mo_high : Int32) (mo_newBlack : Int64) (mo_newWhite : Int64) (mo_taken : Int32) (a_neighbours : Nat → Int64) (a_chaseBlack : Nat → Int64) (a_chaseWhite : Nat → Int64) (a_aheadBlack : Nat → Int64) (a_aheadWhite : Nat → Int64) (a_hasAhead : Nat → Int32) (a0 : Int32) (a1 : Int32) (a2 : Int32) : Option (Int32 × Int64 × Int64 × Int32) :=
  if (a0 < 0 ∨ 21 ≤ a0.toNatClampNeg) then none else
  if (a0 < 0 ∨ 21 ≤ a0.toNatClampNeg) then none else
  (f_X7_other a1).bind fun q3 =>
  (f_X7_laid mo_wide mo_high mo_newBlack mo_newWhite mo_taken a_neighbours (a_chaseBlack a0.toNatClampNeg) (a_chaseWhite a0.toNatClampNeg) q3 a2).bind fun q4 =>
  if q4.1 = 0 then (
    if (a0 < 0 ∨ 21 ≤ a0.toNatClampNeg) then none else
    if a_hasAhead a0.toNatClampNeg = 0 then (
      some ((1 : Int32), q4.2.1, q4.2.2.1, q4.2.2.2)
    )
    else (
      if (a0 < 0 ∨ 21 ≤ a0.toNatClampNeg) then none else
      if (a0 < 0 ∨ 21 ≤ a0.toNatClampNeg) then none else
      (f_X7_isAt q4.2.1 q4.2.2.1 (a_aheadBlack a0.toNatClampNeg) (a_aheadWhite a0.toNatClampNeg)).bind fun q10 =>
      if q10 = 0 then (
        some ((1 : Int32), q4.2.1, q4.2.2.1, q4.2.2.2)
      )
      else (
        some ((0 : Int32), q4.2.1, q4.2.2.1, q4.2.2.2)
      )
    )
  )
  else (
    some ((0 : Int32), q4.2.1, q4.2.2.1, q4.2.2.2)
  )

abbrev rm_X7_mayChase : Room := { frames := 4, cells := 0, slots := 0, locals := 110 }
set_option maxHeartbeats 4000000 in
set_option maxRecDepth 100000 in
theorem c_X7_mayChase (l : Launch) (dC : Nat → ClassId) (dI : Nat → Nat → Nat) (ad : Nat → Nat) (cA : Nat → ClassId) (mo_wide mo_high mo_law mo_acts : Int32) (mo_newBlack mo_newWhite : Int64) (mo_taken mo_triesMany mo_isSpent mo_found : Int32) (a_neighbours : Nat → Int64) (a_act : Nat → Int32) (a_blackAt a_whiteAt : Nat → Int64) (a_moveAt a_takenBlack a_takenWhite : Nat → Int32) (a_chaseBlack a_chaseWhite a_aheadBlack a_aheadWhite : Nat → Int64) (a_hasAhead : Nat → Int32) (a_breathsLeft a_laidBlack a_laidWhite a_answersLeft : Nat → Int64) (a_firstAnswer a_answering a_next : Nat → Int32) (sz : Nat) (a0 : Int32) (a1 : Int32) (a2 : Int32) (q : Int32 × Int64 × Int64 × Int32) (hr : f_X7_mayChase mo_wide mo_high mo_newBlack mo_newWhite mo_taken a_neighbours a_chaseBlack a_chaseWhite a_aheadBlack a_aheadWhite a_hasAhead a0 a1 a2 = some q) : Met l yX7_mayChase wsX7_mayChase rm_X7_mayChase (PrI (dC, dI) (wd_X7 ad cA mo_wide mo_high mo_law mo_acts mo_newBlack mo_newWhite mo_taken mo_triesMany mo_isSpent mo_found a_neighbours a_act a_blackAt a_whiteAt a_moveAt a_takenBlack a_takenWhite a_chaseBlack a_chaseWhite a_aheadBlack a_aheadWhite a_hasAhead a_breathsLeft a_laidBlack a_laidWhite a_answersLeft a_firstAnswer a_answering a_next) (td_X7 cA) sz [.ref (ad 0), .int a0, .int a1, .int a2]) (QIi (dC, dI) (wd_X7 ad cA mo_wide mo_high mo_law mo_acts mo_newBlack mo_newWhite mo_taken mo_triesMany mo_isSpent mo_found a_neighbours a_act a_blackAt a_whiteAt a_moveAt a_takenBlack a_takenWhite a_chaseBlack a_chaseWhite a_aheadBlack a_aheadWhite a_hasAhead a_breathsLeft a_laidBlack a_laidWhite a_answersLeft a_firstAnswer a_answering a_next) (td_X7 cA) sz q.1 (wd_X7 ad cA mo_wide mo_high mo_law mo_acts q.2.1 q.2.2.1 q.2.2.2 mo_triesMany mo_isSpent mo_found a_neighbours a_act a_blackAt a_whiteAt a_moveAt a_takenBlack a_takenWhite a_chaseBlack a_chaseWhite a_aheadBlack a_aheadWhite a_hasAhead a_breathsLeft a_laidBlack a_laidWhite a_answersLeft a_firstAnswer a_answering a_next)) 0 0 (va_A (wd_X7 ad cA mo_wide mo_high mo_law mo_acts mo_newBlack mo_newWhite mo_taken mo_triesMany mo_isSpent mo_found a_neighbours a_act a_blackAt a_whiteAt a_moveAt a_takenBlack a_takenWhite a_chaseBlack a_chaseWhite a_aheadBlack a_aheadWhite a_hasAhead a_breathsLeft a_laidBlack a_laidWhite a_answersLeft a_firstAnswer a_answering a_next) sz) := by
  refine mkI_z (cc := cX7_mayChase) (nL := 4) (by decide) rfl (Nat.le_of_ble_eq_true rfl) ?_
  intro p e R s m args below meth c H0 H locs A Q ls hRf hRl S hN hP hK hD hA hS hl kret
  have hl : lv_has ls 4 [(0, .ref (ad 0)), (1, .int a0), (2, .int a1), (3, .int a2)] := hl
  obtain ⟨hx, hb, hml, hown, hts⟩ := S
  have hown : s.vm.findClass RX7 = some m.cls := hown
  have S : CallFix p m c cX7_mayChase 4 s args wsX7_mayChase RX7 := ⟨hx, hb, hml, hown, hts⟩
  have huX7 : ∀ w ∈ u_ws RX7 TX7 29, w ∈ wsX7_mayChase := by decide +kernel
  have hf39 := hts (.fieldLink RX7 39 "EyeBoardModel" "chaseBlack" "[J") (by decide +kernel)
  have hf42 := hts (.fieldLink RX7 42 "EyeBoardModel" "chaseWhite" "[J") (by decide +kernel)
  have hf51 := hts (.fieldLink RX7 51 "EyeBoardModel" "hasAhead" "[Z") (by decide +kernel)
  have hf45 := hts (.fieldLink RX7 45 "EyeBoardModel" "aheadBlack" "[J") (by decide +kernel)
  have hf48 := hts (.fieldLink RX7 48 "EyeBoardModel" "aheadWhite" "[J") (by decide +kernel)
  unfold f_X7_mayChase at hr
  refine lv_aload_n hx hb dX7_mayChase_0 rfl (lv_at hl 0 rfl) ?_
  refine lv_aload_n hx hb dX7_mayChase_1 rfl (lv_at hl 0 rfl) ?_
  refine va_get (D := (dC, dI)) (ci := 7) (v := .ref (ad 8)) (C := RX7) (T := TX7) (N := 29) hx hb hts huX7 hown hK hP 0 rfl rfl 16 (by decide) hf39 (fun _ h9 => h9) rfl dX7_mayChase_2 ?_
  refine lv_iload_n hx hb dX7_mayChase_5 rfl (lv_at hl 1 rfl) ?_
  obtain ⟨hi1, hr⟩ := ite_g hr
  refine va_lald hx hb hK hP 8 7 rfl rfl hi1 dX7_mayChase_6 ?_
  refine lv_aload_n hx hb dX7_mayChase_7 rfl (lv_at hl 0 rfl) ?_
  refine va_get (D := (dC, dI)) (ci := 7) (v := .ref (ad 9)) (C := RX7) (T := TX7) (N := 29) hx hb hts huX7 hown hK hP 0 rfl rfl 17 (by decide) hf42 (fun _ h9 => h9) rfl dX7_mayChase_8 ?_
  refine lv_iload_n hx hb dX7_mayChase_11 rfl (lv_at hl 1 rfl) ?_
  obtain ⟨hi2, hr⟩ := ite_g hr
  refine va_lald hx hb hK hP 9 8 rfl rfl hi2 dX7_mayChase_12 ?_
  refine lv_iload_n hx hb dX7_mayChase_13 rfl (lv_at hl 2 rfl) ?_
  obtain ⟨q3, hq3, hr⟩ := bd_use hr
  refine pcS_i (As := [.int a1]) (rest := [.long (a_chaseWhite a0.toNatClampNeg), .long (a_chaseBlack a0.toNatClampNeg), .ref (ad 0)]) S (c_X7_other l dC dI a1 q3 hq3) (va_cwS 1 hts gX7_mayChase_X7_other rfl rfl rfl (by decide +kernel) ⟨Nat.le_trans (m := rm_X7_mayChase.frames) (by decide) hRf, Nat.le_trans (m := rm_X7_mayChase.locals) (by decide) hRl⟩) hN hP hK ⟨Nat.zero_le _, Nat.zero_le _⟩ rfl hl.1 rfl (Nat.le_of_ble_eq_true rfl) dX7_mayChase_14 ?_
  refine lv_iload_n hx hb dX7_mayChase_17 rfl (lv_at hl 3 rfl) ?_
  obtain ⟨q4, hq4, hr⟩ := bd_use hr
  refine icV_i (As := [.long (a_chaseBlack a0.toNatClampNeg), .long (a_chaseWhite a0.toNatClampNeg), .int q3, .int a2]) (rest := []) (ws2 := (wd_X7 ad cA mo_wide mo_high mo_law mo_acts q4.2.1 q4.2.2.1 q4.2.2.2 mo_triesMany mo_isSpent mo_found a_neighbours a_act a_blackAt a_whiteAt a_moveAt a_takenBlack a_takenWhite a_chaseBlack a_chaseWhite a_aheadBlack a_aheadWhite a_hasAhead a_breathsLeft a_laidBlack a_laidWhite a_answersLeft a_firstAnswer a_answering a_next)) S (c_X7_laid l dC dI ad cA mo_wide mo_high mo_law mo_acts mo_newBlack mo_newWhite mo_taken mo_triesMany mo_isSpent mo_found a_neighbours a_act a_blackAt a_whiteAt a_moveAt a_takenBlack a_takenWhite a_chaseBlack a_chaseWhite a_aheadBlack a_aheadWhite a_hasAhead a_breathsLeft a_laidBlack a_laidWhite a_answersLeft a_firstAnswer a_answering a_next H.size (a_chaseBlack a0.toNatClampNeg) (a_chaseWhite a0.toNatClampNeg) q3 a2 q4 hq4) (cwV 4 hts gX7_mayChase_X7_laid rfl rfl rfl (by decide +kernel) ⟨Nat.le_trans (m := rm_X7_mayChase.frames) (by decide) hRf, Nat.le_trans (m := rm_X7_mayChase.locals) (by decide) hRl⟩) hN hP hK hD hS hA ⟨Nat.zero_le _, Nat.zero_le _⟩ [0, 1, 2, 3, 4, 5, 6, 7, 8, 9, 10, 11, 12, 13, 14, 15, 16, 17, 18, 19] [] [0, 1, 2, 3, 4, 5, 6, 7, 8, 9, 10, 11, 12, 13, 14, 15, 16, 17, 18, 19] rfl rfl rfl rfl rfl (by decide) rfl rfl rfl [0, 1, 2, 3, 4, 5, 6, 7, 8, 9, 10, 11, 12, 13, 14, 15, 16, 17, 18] rfl 0 7 rfl rfl rfl hl.1 rfl (Nat.le_of_ble_eq_true rfl) dX7_mayChase_18 (fun H locs hP hD hS => ?_)
  refine lv_if_ne (tgt := 56) hx hb dX7_mayChase_21 (by decide) (fun c5 => ?_) (fun c5 => ?_)
  · have hr := ite_n hr c5
    refine lv_iconst (v := (0 : Int32)) hx hb dX7_mayChase_56 (by decide) ?_
    obtain rfl := Option.some.inj hr
    exact kret _ _ _ _ dX7_mayChase_57 hP hD hS nar_0
  · have hr := ite_p hr c5
    refine lv_aload_n hx hb dX7_mayChase_24 rfl (lv_at hl 0 rfl) ?_
    refine va_get (D := (dC, dI)) (ci := 7) (v := .ref (ad 12)) (C := RX7) (T := TX7) (N := 29) hx hb hts huX7 hown hK hP 0 rfl rfl 20 (by decide) hf51 (fun _ h9 => h9) rfl dX7_mayChase_25 ?_
    refine lv_iload_n hx hb dX7_mayChase_28 rfl (lv_at hl 1 rfl) ?_
    obtain ⟨hi6, hr⟩ := ite_g hr
    refine va_zald hx hb hK hP 12 11 rfl rfl hi6 dX7_mayChase_29 ?_
    refine lv_if_eq (tgt := 52) hx hb dX7_mayChase_30 (by decide) (fun c7 => ?_) (fun c7 => ?_)
    · have hr := ite_p hr c7
      refine lv_iconst (v := (1 : Int32)) hx hb dX7_mayChase_52 (by decide) ?_
      refine lv_goto (tgt := 57) hx hb dX7_mayChase_53 (by decide) ?_
      obtain rfl := Option.some.inj hr
      exact kret _ _ _ _ dX7_mayChase_57 hP hD hS nar_1
    · have hr := ite_n hr c7
      refine lv_aload_n hx hb dX7_mayChase_33 rfl (lv_at hl 0 rfl) ?_
      refine lv_aload_n hx hb dX7_mayChase_34 rfl (lv_at hl 0 rfl) ?_
      refine va_get (D := (dC, dI)) (ci := 7) (v := .ref (ad 10)) (C := RX7) (T := TX7) (N := 29) hx hb hts huX7 hown hK hP 0 rfl rfl 18 (by decide) hf45 (fun _ h9 => h9) rfl dX7_mayChase_35 ?_
      refine lv_iload_n hx hb dX7_mayChase_38 rfl (lv_at hl 1 rfl) ?_
      obtain ⟨hi8, hr⟩ := ite_g hr
      refine va_lald hx hb hK hP 10 9 rfl rfl hi8 dX7_mayChase_39 ?_
      refine lv_aload_n hx hb dX7_mayChase_40 rfl (lv_at hl 0 rfl) ?_
      refine va_get (D := (dC, dI)) (ci := 7) (v := .ref (ad 11)) (C := RX7) (T := TX7) (N := 29) hx hb hts huX7 hown hK hP 0 rfl rfl 19 (by decide) hf48 (fun _ h9 => h9) rfl dX7_mayChase_41 ?_
      refine lv_iload_n hx hb dX7_mayChase_44 rfl (lv_at hl 1 rfl) ?_
      obtain ⟨hi9, hr⟩ := ite_g hr
      refine va_lald hx hb hK hP 11 10 rfl rfl hi9 dX7_mayChase_45 ?_
      obtain ⟨q10, hq10, hr⟩ := bd_use hr
      refine pcV_i (As := [.long (a_aheadBlack a0.toNatClampNeg), .long (a_aheadWhite a0.toNatClampNeg)]) (rest := []) S (c_X7_isAt l dC dI ad cA mo_wide mo_high mo_law mo_acts q4.2.1 q4.2.2.1 q4.2.2.2 mo_triesMany mo_isSpent mo_found a_neighbours a_act a_blackAt a_whiteAt a_moveAt a_takenBlack a_takenWhite a_chaseBlack a_chaseWhite a_aheadBlack a_aheadWhite a_hasAhead a_breathsLeft a_laidBlack a_laidWhite a_answersLeft a_firstAnswer a_answering a_next (a_aheadBlack a0.toNatClampNeg) (a_aheadWhite a0.toNatClampNeg) q10 hq10) (cwV 2 hts gX7_mayChase_X7_isAt rfl rfl rfl (by decide +kernel) ⟨Nat.le_trans (m := rm_X7_mayChase.frames) (by decide) hRf, Nat.le_trans (m := rm_X7_mayChase.locals) (by decide) hRl⟩) hN hP hK ⟨Nat.zero_le _, Nat.zero_le _⟩ [0, 1, 2, 3, 4, 5, 6, 7, 8, 9, 10, 11, 12, 13, 14, 15, 16, 17, 18, 19] rfl [0, 1, 2, 3, 4, 5, 6, 7, 8, 9, 10, 11, 12, 13, 14, 15, 16, 17, 18] rfl 0 7 rfl rfl rfl hl.1 rfl (Nat.le_of_ble_eq_true rfl) dX7_mayChase_46 ?_
      refine lv_if_ne (tgt := 56) hx hb dX7_mayChase_49 (by decide) (fun c11 => ?_) (fun c11 => ?_)
      · have hr := ite_n hr c11
        refine lv_iconst (v := (0 : Int32)) hx hb dX7_mayChase_56 (by decide) ?_
        obtain rfl := Option.some.inj hr
        exact kret _ _ _ _ dX7_mayChase_57 hP hD hS nar_0
      · have hr := ite_p hr c11
        refine lv_iconst (v := (1 : Int32)) hx hb dX7_mayChase_52 (by decide) ?_
        refine lv_goto (tgt := 57) hx hb dX7_mayChase_53 (by decide) ?_
        obtain rfl := Option.some.inj hr
        exact kret _ _ _ _ dX7_mayChase_57 hP hD hS nar_1

def lp_X7_findAnswers_103 (mo_wide : Int32) (mo_high : Int32) (a_neighbours : Nat → Int64) (a_firstAnswer : Nat → Int32) (a_answering : Nat → Int32) (a0 : Int32) (x2 : Int64) (x4 : Int64) (u7 : Int64) (q13 : Int32) : Nat → Int64 → (Nat → Int64) → Option ((Nat → Int64) × (Nat → Int32) × (Nat → Int32))
  | 0, _, _ => none
  | nF + 1, v18, w19 =>
    if v18 = (0 : Int64) then (
      if (a0 < 0 ∨ 21 ≤ a0.toNatClampNeg) then none else
      some (w19, upd a_firstAnswer a0.toNatClampNeg q13, upd a_answering a0.toNatClampNeg (vp_nar .boolean (1 : Int32)))
    )
    else (
      (f_X7_spread mo_wide mo_high a_neighbours (v18 &&& (-v18)) u7).bind fun q22 =>
      nm (v18 &&& (q22 ^^^ (-1 : Int64))) fun x23 =>
      (f_X7_around mo_wide mo_high a_neighbours q22).bind fun q24 =>
      (f_X7_free mo_wide mo_high x2 x4).bind fun q25 =>
      nm (q24 &&& q25) fun x26 =>
      if (a0 < 0 ∨ 21 ≤ a0.toNatClampNeg) then none else
      (f_X7_many x26).bind fun q28 =>
      if q28 = (1 : Int32) then (
        nm ((w19 a0.toNatClampNeg) ||| x26) fun x32 =>
        if (a0 < 0 ∨ 21 ≤ a0.toNatClampNeg) then none else
        lp_X7_findAnswers_103 mo_wide mo_high a_neighbours a_firstAnswer a_answering a0 x2 x4 u7 q13 nF x23 (vp_updL w19 a0.toNatClampNeg x32)
      )
      else (
        nm ((w19 a0.toNatClampNeg) ||| (0 : Int64)) fun x30 =>
        if (a0 < 0 ∨ 21 ≤ a0.toNatClampNeg) then none else
        lp_X7_findAnswers_103 mo_wide mo_high a_neighbours a_firstAnswer a_answering a0 x2 x4 u7 q13 nF x23 (vp_updL w19 a0.toNatClampNeg x30)
      )
    )

def f_X7_findAnswers (mo_wide : Int32) (mo_high : Int32) (a_neighbours : Nat → Int64) (a_laidBlack : Nat → Int64) (a_laidWhite : Nat → Int64) (a_answersLeft : Nat → Int64) (a_firstAnswer : Nat → Int32) (a_answering : Nat → Int32) (a0 : Int32) (a1 : Int32) (a2 : Int32) : Option ((Nat → Int64) × (Nat → Int32) × (Nat → Int32)) :=
  if (a0 < 0 ∨ 21 ≤ a0.toNatClampNeg) then none else
  nm (a_laidBlack a0.toNatClampNeg) fun x2 =>
  if (a0 < 0 ∨ 21 ≤ a0.toNatClampNeg) then none else
  nm (a_laidWhite a0.toNatClampNeg) fun x4 =>
  nm (fun (u5 : Int64) =>
  nm (fun (u7 : Int64) =>
  (f_X7_spread mo_wide mo_high a_neighbours (jshl (1 : Int64) a2) u5).bind fun q9 =>
  (f_X7_around mo_wide mo_high a_neighbours q9).bind fun q10 =>
  (f_X7_free mo_wide mo_high x2 x4).bind fun q11 =>
  nm (q10 &&& q11) fun x12 =>
  (f_X7_least x12 (0 : Int32)).bind fun q13 =>
  if (a0 < 0 ∨ 21 ≤ a0.toNatClampNeg) then none else
  if (a0 < 0 ∨ 21 ≤ a0.toNatClampNeg) then none else
  (f_X7_around mo_wide mo_high a_neighbours q9).bind fun q16 =>
  nm (q16 &&& u7) fun x17 =>
  lp_X7_findAnswers_103 mo_wide mo_high a_neighbours a_firstAnswer a_answering a0 x2 x4 u7 q13 FU x17 (vp_updL a_answersLeft a0.toNatClampNeg x12)
  ) fun K8 =>
  if a1 = (1 : Int32) then (
    K8 x4
  )
  else (
    K8 x2
  )
  ) fun K6 =>
  if a1 = (1 : Int32) then (
    K6 x2
  )
  else (
    K6 x4
  )

abbrev rm_X7_findAnswers : Room := { frames := 3, cells := 0, slots := 0, locals := 73 }
set_option maxHeartbeats 4000000 in
set_option maxRecDepth 100000 in
theorem c_X7_findAnswers (l : Launch) (dC : Nat → ClassId) (dI : Nat → Nat → Nat) (ad : Nat → Nat) (cA : Nat → ClassId) (mo_wide mo_high mo_law mo_acts : Int32) (mo_newBlack mo_newWhite : Int64) (mo_taken mo_triesMany mo_isSpent mo_found : Int32) (a_neighbours : Nat → Int64) (a_act : Nat → Int32) (a_blackAt a_whiteAt : Nat → Int64) (a_moveAt a_takenBlack a_takenWhite : Nat → Int32) (a_chaseBlack a_chaseWhite a_aheadBlack a_aheadWhite : Nat → Int64) (a_hasAhead : Nat → Int32) (a_breathsLeft a_laidBlack a_laidWhite a_answersLeft : Nat → Int64) (a_firstAnswer a_answering a_next : Nat → Int32) (sz : Nat) (a0 : Int32) (a1 : Int32) (a2 : Int32) (q : (Nat → Int64) × (Nat → Int32) × (Nat → Int32)) (hr : f_X7_findAnswers mo_wide mo_high a_neighbours a_laidBlack a_laidWhite a_answersLeft a_firstAnswer a_answering a0 a1 a2 = some q) : Met l yX7_findAnswers wsX7_findAnswers rm_X7_findAnswers (PrI (dC, dI) (wd_X7 ad cA mo_wide mo_high mo_law mo_acts mo_newBlack mo_newWhite mo_taken mo_triesMany mo_isSpent mo_found a_neighbours a_act a_blackAt a_whiteAt a_moveAt a_takenBlack a_takenWhite a_chaseBlack a_chaseWhite a_aheadBlack a_aheadWhite a_hasAhead a_breathsLeft a_laidBlack a_laidWhite a_answersLeft a_firstAnswer a_answering a_next) (td_X7 cA) sz [.ref (ad 0), .int a0, .int a1, .int a2]) (QIv (dC, dI) (wd_X7 ad cA mo_wide mo_high mo_law mo_acts mo_newBlack mo_newWhite mo_taken mo_triesMany mo_isSpent mo_found a_neighbours a_act a_blackAt a_whiteAt a_moveAt a_takenBlack a_takenWhite a_chaseBlack a_chaseWhite a_aheadBlack a_aheadWhite a_hasAhead a_breathsLeft a_laidBlack a_laidWhite a_answersLeft a_firstAnswer a_answering a_next) (td_X7 cA) sz (wd_X7 ad cA mo_wide mo_high mo_law mo_acts mo_newBlack mo_newWhite mo_taken mo_triesMany mo_isSpent mo_found a_neighbours a_act a_blackAt a_whiteAt a_moveAt a_takenBlack a_takenWhite a_chaseBlack a_chaseWhite a_aheadBlack a_aheadWhite a_hasAhead a_breathsLeft a_laidBlack a_laidWhite q.1 q.2.1 q.2.2 a_next)) 0 0 (va_A (wd_X7 ad cA mo_wide mo_high mo_law mo_acts mo_newBlack mo_newWhite mo_taken mo_triesMany mo_isSpent mo_found a_neighbours a_act a_blackAt a_whiteAt a_moveAt a_takenBlack a_takenWhite a_chaseBlack a_chaseWhite a_aheadBlack a_aheadWhite a_hasAhead a_breathsLeft a_laidBlack a_laidWhite a_answersLeft a_firstAnswer a_answering a_next) sz) := by
  refine mkI_v (cc := cX7_findAnswers) (nL := 22) (by decide) rfl (Nat.le_of_ble_eq_true rfl) ?_
  intro p e R s m args below meth c H0 H locs A Q ls hRf hRl S hN hP hK hD hA hS hl kret
  have hl : lv_has ls 22 [(0, .ref (ad 0)), (1, .int a0), (2, .int a1), (3, .int a2)] := hl
  obtain ⟨hx, hb, hml, hown, hts⟩ := S
  have hown : s.vm.findClass RX7 = some m.cls := hown
  have S : CallFix p m c cX7_findAnswers 22 s args wsX7_findAnswers RX7 := ⟨hx, hb, hml, hown, hts⟩
  have huX7 : ∀ w ∈ u_ws RX7 TX7 29, w ∈ wsX7_findAnswers := by decide +kernel
  have hf58 := hts (.fieldLink RX7 58 "EyeBoardModel" "laidBlack" "[J") (by decide +kernel)
  have hf61 := hts (.fieldLink RX7 61 "EyeBoardModel" "laidWhite" "[J") (by decide +kernel)
  have hf67 := hts (.fieldLink RX7 67 "EyeBoardModel" "firstAnswer" "[I") (by decide +kernel)
  have hf64 := hts (.fieldLink RX7 64 "EyeBoardModel" "answersLeft" "[J") (by decide +kernel)
  have hf70 := hts (.fieldLink RX7 70 "EyeBoardModel" "answering" "[Z") (by decide +kernel)
  have hk105 := hts (.constantLong RX7 105 (-1 : Int64)) (by decide +kernel)
  unfold f_X7_findAnswers at hr
  refine lv_aload_n hx hb dX7_findAnswers_0 rfl (lv_at hl 0 rfl) ?_
  refine va_get (D := (dC, dI)) (ci := 7) (v := .ref (ad 14)) (C := RX7) (T := TX7) (N := 29) hx hb hts huX7 hown hK hP 0 rfl rfl 22 (by decide) hf58 (fun _ h9 => h9) rfl dX7_findAnswers_1 ?_
  refine lv_iload_n hx hb dX7_findAnswers_4 rfl (lv_at hl 1 rfl) ?_
  obtain ⟨hi1, hr⟩ := ite_g hr
  refine va_lald hx hb hK hP 14 13 rfl rfl hi1 dX7_findAnswers_5 ?_
  refine lv_topl (fun x2 ex2 => ?_)
  have hr := nm_use hr ex2
  refine lv_lstore (lv' := [(4, .long x2), (0, .ref (ad 0)), (1, .int a0), (2, .int a1), (3, .int a2)]) hx hb dX7_findAnswers_6 hl (by decide) rfl (fun ls hl => ?_)
  refine lv_aload_n hx hb dX7_findAnswers_8 rfl (lv_at hl 1 rfl) ?_
  refine va_get (D := (dC, dI)) (ci := 7) (v := .ref (ad 15)) (C := RX7) (T := TX7) (N := 29) hx hb hts huX7 hown hK hP 0 rfl rfl 23 (by decide) hf61 (fun _ h9 => h9) rfl dX7_findAnswers_9 ?_
  refine lv_iload_n hx hb dX7_findAnswers_12 rfl (lv_at hl 2 rfl) ?_
  obtain ⟨hi3, hr⟩ := ite_g hr
  refine va_lald hx hb hK hP 15 14 rfl rfl hi3 dX7_findAnswers_13 ?_
  refine lv_topl (fun x4 ex4 => ?_)
  have hr := nm_use hr ex4
  refine lv_lstore (lv' := [(6, .long x4), (4, .long x2), (0, .ref (ad 0)), (1, .int a0), (2, .int a1), (3, .int a2)]) hx hb dX7_findAnswers_14 hl (by decide) rfl (fun ls hl => ?_)
  refine lv_iload_n hx hb dX7_findAnswers_16 rfl (lv_at hl 4 rfl) ?_
  refine lv_iconst (v := (1 : Int32)) hx hb dX7_findAnswers_17 (by decide) ?_
  obtain ⟨K6, eK6, hr⟩ := nm_ex hr
  have kK6 : ∀ (u5 : Int64) (H : Heap) (locs : List Loc) , K6 u5 = some q → va_P (dC, dI) vwCl (wd_X7 ad cA mo_wide mo_high mo_law mo_acts mo_newBlack mo_newWhite mo_taken mo_triesMany mo_isSpent mo_found a_neighbours a_act a_blackAt a_whiteAt a_moveAt a_takenBlack a_takenWhite a_chaseBlack a_chaseWhite a_aheadBlack a_aheadWhite a_hasAhead a_breathsLeft a_laidBlack a_laidWhite a_answersLeft a_firstAnswer a_answering a_next) H → va_D A (wd_X7 ad cA mo_wide mo_high mo_law mo_acts mo_newBlack mo_newWhite mo_taken mo_triesMany mo_isSpent mo_found a_neighbours a_act a_blackAt a_whiteAt a_moveAt a_takenBlack a_takenWhite a_chaseBlack a_chaseWhite a_aheadBlack a_aheadWhite a_hasAhead a_breathsLeft a_laidBlack a_laidWhite a_answersLeft a_firstAnswer a_answering a_next) → va_S A H0 H locs → ∀ (ls : Array Slot), lv_has ls 22 [(0, .ref (ad 0)), (1, .int a0), (2, .int a1), (3, .int a2), (4, .long x2), (6, .long x4)] → W p l e R s m args below meth c H locs 0 0 Q (F0 m 28 ls [.long u5]) := by
    intro u5 H locs hr hP hD hS ls hl
    rw [eK6] at hr
    refine lv_lstore (lv' := [(8, .long u5), (0, .ref (ad 0)), (1, .int a0), (2, .int a1), (3, .int a2), (4, .long x2), (6, .long x4)]) hx hb dX7_findAnswers_28 hl (by decide) rfl (fun ls hl => ?_)
    refine lv_iload_n hx hb dX7_findAnswers_30 rfl (lv_at hl 3 rfl) ?_
    refine lv_iconst (v := (1 : Int32)) hx hb dX7_findAnswers_31 (by decide) ?_
    obtain ⟨K8, eK8, hr⟩ := nm_ex hr
    have kK8 : ∀ (u7 : Int64) (H : Heap) (locs : List Loc) , K8 u7 = some q → va_P (dC, dI) vwCl (wd_X7 ad cA mo_wide mo_high mo_law mo_acts mo_newBlack mo_newWhite mo_taken mo_triesMany mo_isSpent mo_found a_neighbours a_act a_blackAt a_whiteAt a_moveAt a_takenBlack a_takenWhite a_chaseBlack a_chaseWhite a_aheadBlack a_aheadWhite a_hasAhead a_breathsLeft a_laidBlack a_laidWhite a_answersLeft a_firstAnswer a_answering a_next) H → va_D A (wd_X7 ad cA mo_wide mo_high mo_law mo_acts mo_newBlack mo_newWhite mo_taken mo_triesMany mo_isSpent mo_found a_neighbours a_act a_blackAt a_whiteAt a_moveAt a_takenBlack a_takenWhite a_chaseBlack a_chaseWhite a_aheadBlack a_aheadWhite a_hasAhead a_breathsLeft a_laidBlack a_laidWhite a_answersLeft a_firstAnswer a_answering a_next) → va_S A H0 H locs → ∀ (ls : Array Slot), lv_has ls 22 [(0, .ref (ad 0)), (1, .int a0), (3, .int a2), (4, .long x2), (6, .long x4), (8, .long u5)] → W p l e R s m args below meth c H locs 0 0 Q (F0 m 42 ls [.long u7]) := by
      intro u7 H locs hr hP hD hS ls hl
      rw [eK8] at hr
      refine lv_lstore (lv' := [(10, .long u7), (0, .ref (ad 0)), (1, .int a0), (3, .int a2), (4, .long x2), (6, .long x4), (8, .long u5)]) hx hb dX7_findAnswers_42 hl (by decide) rfl (fun ls hl => ?_)
      refine lv_aload_n hx hb dX7_findAnswers_44 rfl (lv_at hl 1 rfl) ?_
      refine lv_lconst (v := (1 : Int64)) hx hb dX7_findAnswers_45 (by decide) ?_
      refine lv_iload_n hx hb dX7_findAnswers_46 rfl (lv_at hl 3 rfl) ?_
      refine lv_lshl (v := jshl (1 : Int64) a2) hx hb dX7_findAnswers_47 rfl ?_
      refine lv_lload hx hb dX7_findAnswers_48 (lv_at hl 6 rfl) ?_
      obtain ⟨q9, hq9, hr⟩ := bd_use hr
      refine pcV_l (As := [.long (jshl (1 : Int64) a2), .long u5]) (rest := []) S (c_X7_spread l dC dI ad cA mo_wide mo_high mo_law mo_acts mo_newBlack mo_newWhite mo_taken mo_triesMany mo_isSpent mo_found a_neighbours a_act a_blackAt a_whiteAt a_moveAt a_takenBlack a_takenWhite a_chaseBlack a_chaseWhite a_aheadBlack a_aheadWhite a_hasAhead a_breathsLeft a_laidBlack a_laidWhite a_answersLeft a_firstAnswer a_answering a_next (jshl (1 : Int64) a2) u5 q9 hq9) (cwV 2 hts gX7_findAnswers_X7_spread rfl rfl rfl (by decide +kernel) ⟨Nat.le_trans (m := rm_X7_findAnswers.frames) (by decide) hRf, Nat.le_trans (m := rm_X7_findAnswers.locals) (by decide) hRl⟩) hN hP hK ⟨Nat.zero_le _, Nat.zero_le _⟩ [0, 1, 2, 3, 4, 5, 6, 7, 8, 9, 10, 11, 12, 13, 14, 15, 16, 17, 18, 19] rfl [0, 1, 2, 3, 4, 5, 6, 7, 8, 9, 10, 11, 12, 13, 14, 15, 16, 17, 18] rfl 0 7 rfl rfl rfl hl.1 rfl (Nat.le_of_ble_eq_true rfl) dX7_findAnswers_50 ?_
      refine lv_lstore (lv' := [(12, .long q9), (10, .long u7), (0, .ref (ad 0)), (1, .int a0), (3, .int a2), (4, .long x2), (6, .long x4), (8, .long u5)]) hx hb dX7_findAnswers_53 hl (by decide) rfl (fun ls hl => ?_)
      refine lv_aload_n hx hb dX7_findAnswers_55 rfl (lv_at hl 2 rfl) ?_
      refine lv_lload hx hb dX7_findAnswers_56 (lv_at hl 0 rfl) ?_
      obtain ⟨q10, hq10, hr⟩ := bd_use hr
      refine pcV_l (As := [.long q9]) (rest := []) S (c_X7_around l dC dI ad cA mo_wide mo_high mo_law mo_acts mo_newBlack mo_newWhite mo_taken mo_triesMany mo_isSpent mo_found a_neighbours a_act a_blackAt a_whiteAt a_moveAt a_takenBlack a_takenWhite a_chaseBlack a_chaseWhite a_aheadBlack a_aheadWhite a_hasAhead a_breathsLeft a_laidBlack a_laidWhite a_answersLeft a_firstAnswer a_answering a_next q9 q10 hq10) (cwV 1 hts gX7_findAnswers_X7_around rfl rfl rfl (by decide +kernel) ⟨Nat.le_trans (m := rm_X7_findAnswers.frames) (by decide) hRf, Nat.le_trans (m := rm_X7_findAnswers.locals) (by decide) hRl⟩) hN hP hK ⟨Nat.zero_le _, Nat.zero_le _⟩ [0, 1, 2, 3, 4, 5, 6, 7, 8, 9, 10, 11, 12, 13, 14, 15, 16, 17, 18, 19] rfl [0, 1, 2, 3, 4, 5, 6, 7, 8, 9, 10, 11, 12, 13, 14, 15, 16, 17, 18] rfl 0 7 rfl rfl rfl hl.1 rfl (Nat.le_of_ble_eq_true rfl) dX7_findAnswers_58 ?_
      refine lv_aload_n hx hb dX7_findAnswers_61 rfl (lv_at hl 2 rfl) ?_
      refine lv_lload hx hb dX7_findAnswers_62 (lv_at hl 5 rfl) ?_
      refine lv_lload hx hb dX7_findAnswers_64 (lv_at hl 6 rfl) ?_
      obtain ⟨q11, hq11, hr⟩ := bd_use hr
      refine pcV_l (As := [.long x2, .long x4]) (rest := [.long q10]) S (c_X7_free l dC dI ad cA mo_wide mo_high mo_law mo_acts mo_newBlack mo_newWhite mo_taken mo_triesMany mo_isSpent mo_found a_neighbours a_act a_blackAt a_whiteAt a_moveAt a_takenBlack a_takenWhite a_chaseBlack a_chaseWhite a_aheadBlack a_aheadWhite a_hasAhead a_breathsLeft a_laidBlack a_laidWhite a_answersLeft a_firstAnswer a_answering a_next x2 x4 q11 hq11) (cwV 2 hts gX7_findAnswers_X7_free rfl rfl rfl (by decide +kernel) ⟨Nat.le_trans (m := rm_X7_findAnswers.frames) (by decide) hRf, Nat.le_trans (m := rm_X7_findAnswers.locals) (by decide) hRl⟩) hN hP hK ⟨Nat.zero_le _, Nat.zero_le _⟩ [0, 1, 2, 3, 4, 5, 6, 7, 8, 9, 10, 11, 12, 13, 14, 15, 16, 17, 18, 19] rfl [0, 1, 2, 3, 4, 5, 6, 7, 8, 9, 10, 11, 12, 13, 14, 15, 16, 17, 18] rfl 0 7 rfl rfl rfl hl.1 rfl (Nat.le_of_ble_eq_true rfl) dX7_findAnswers_66 ?_
      refine lv_land hx hb dX7_findAnswers_69 ?_
      refine lv_topl (fun x12 ex12 => ?_)
      have hr := nm_use hr ex12
      refine lv_lstore (lv' := [(14, .long x12), (12, .long q9), (10, .long u7), (0, .ref (ad 0)), (1, .int a0), (3, .int a2), (4, .long x2), (6, .long x4), (8, .long u5)]) hx hb dX7_findAnswers_70 hl (by decide) rfl (fun ls hl => ?_)
      refine lv_aload_n hx hb dX7_findAnswers_72 rfl (lv_at hl 3 rfl) ?_
      refine va_get (D := (dC, dI)) (ci := 7) (v := .ref (ad 17)) (C := RX7) (T := TX7) (N := 29) hx hb hts huX7 hown hK hP 0 rfl rfl 25 (by decide) hf67 (fun _ h9 => h9) rfl dX7_findAnswers_73 ?_
      refine lv_iload_n hx hb dX7_findAnswers_76 rfl (lv_at hl 4 rfl) ?_
      refine lv_lload hx hb dX7_findAnswers_77 (lv_at hl 0 rfl) ?_
      refine lv_iconst (v := (0 : Int32)) hx hb dX7_findAnswers_79 (by decide) ?_
      obtain ⟨q13, hq13, hr⟩ := bd_use hr
      refine pcS_i (As := [.long x12, .int (0 : Int32)]) (rest := [.int a0, .ref (ad 17)]) S (c_X7_least l dC dI x12 (0 : Int32) q13 hq13) (va_cwS 2 hts gX7_findAnswers_X7_least rfl rfl rfl (by decide +kernel) ⟨Nat.le_trans (m := rm_X7_findAnswers.frames) (by decide) hRf, Nat.le_trans (m := rm_X7_findAnswers.locals) (by decide) hRl⟩) hN hP hK ⟨Nat.zero_le _, Nat.zero_le _⟩ rfl hl.1 rfl (Nat.le_of_ble_eq_true rfl) dX7_findAnswers_80 ?_
      obtain ⟨hi14, hr⟩ := ite_g hr
      refine va_iast hx hb hK hP hD hS 17 16 rfl rfl hi14 dX7_findAnswers_83 (fun H locs hP hD hS => ?_)
      have hP : va_P (dC, dI) vwCl (wd_X7 ad cA mo_wide mo_high mo_law mo_acts mo_newBlack mo_newWhite mo_taken mo_triesMany mo_isSpent mo_found a_neighbours a_act a_blackAt a_whiteAt a_moveAt a_takenBlack a_takenWhite a_chaseBlack a_chaseWhite a_aheadBlack a_aheadWhite a_hasAhead a_breathsLeft a_laidBlack a_laidWhite a_answersLeft (upd a_firstAnswer a0.toNatClampNeg q13) a_answering a_next) H := hP
      have hD : va_D A (wd_X7 ad cA mo_wide mo_high mo_law mo_acts mo_newBlack mo_newWhite mo_taken mo_triesMany mo_isSpent mo_found a_neighbours a_act a_blackAt a_whiteAt a_moveAt a_takenBlack a_takenWhite a_chaseBlack a_chaseWhite a_aheadBlack a_aheadWhite a_hasAhead a_breathsLeft a_laidBlack a_laidWhite a_answersLeft (upd a_firstAnswer a0.toNatClampNeg q13) a_answering a_next) := hD
      refine lv_aload_n hx hb dX7_findAnswers_84 rfl (lv_at hl 3 rfl) ?_
      refine va_get (D := (dC, dI)) (ci := 7) (v := .ref (ad 16)) (C := RX7) (T := TX7) (N := 29) hx hb hts huX7 hown hK hP 0 rfl rfl 24 (by decide) hf64 (fun _ h9 => h9) rfl dX7_findAnswers_85 ?_
      refine lv_iload_n hx hb dX7_findAnswers_88 rfl (lv_at hl 4 rfl) ?_
      refine lv_lload hx hb dX7_findAnswers_89 (lv_at hl 0 rfl) ?_
      obtain ⟨hi15, hr⟩ := ite_g hr
      refine va_last hx hb hK hP hD hS 16 15 rfl rfl hi15 dX7_findAnswers_91 (fun H locs hP hD hS => ?_)
      have hP : va_P (dC, dI) vwCl (wd_X7 ad cA mo_wide mo_high mo_law mo_acts mo_newBlack mo_newWhite mo_taken mo_triesMany mo_isSpent mo_found a_neighbours a_act a_blackAt a_whiteAt a_moveAt a_takenBlack a_takenWhite a_chaseBlack a_chaseWhite a_aheadBlack a_aheadWhite a_hasAhead a_breathsLeft a_laidBlack a_laidWhite (vp_updL a_answersLeft a0.toNatClampNeg x12) (upd a_firstAnswer a0.toNatClampNeg q13) a_answering a_next) H := hP
      have hD : va_D A (wd_X7 ad cA mo_wide mo_high mo_law mo_acts mo_newBlack mo_newWhite mo_taken mo_triesMany mo_isSpent mo_found a_neighbours a_act a_blackAt a_whiteAt a_moveAt a_takenBlack a_takenWhite a_chaseBlack a_chaseWhite a_aheadBlack a_aheadWhite a_hasAhead a_breathsLeft a_laidBlack a_laidWhite (vp_updL a_answersLeft a0.toNatClampNeg x12) (upd a_firstAnswer a0.toNatClampNeg q13) a_answering a_next) := hD
      refine lv_aload_n hx hb dX7_findAnswers_92 rfl (lv_at hl 3 rfl) ?_
      refine lv_lload hx hb dX7_findAnswers_93 (lv_at hl 1 rfl) ?_
      obtain ⟨q16, hq16, hr⟩ := bd_use hr
      refine pcV_l (As := [.long q9]) (rest := []) S (c_X7_around l dC dI ad cA mo_wide mo_high mo_law mo_acts mo_newBlack mo_newWhite mo_taken mo_triesMany mo_isSpent mo_found a_neighbours a_act a_blackAt a_whiteAt a_moveAt a_takenBlack a_takenWhite a_chaseBlack a_chaseWhite a_aheadBlack a_aheadWhite a_hasAhead a_breathsLeft a_laidBlack a_laidWhite (vp_updL a_answersLeft a0.toNatClampNeg x12) (upd a_firstAnswer a0.toNatClampNeg q13) a_answering a_next q9 q16 hq16) (cwV 1 hts gX7_findAnswers_X7_around rfl rfl rfl (by decide +kernel) ⟨Nat.le_trans (m := rm_X7_findAnswers.frames) (by decide) hRf, Nat.le_trans (m := rm_X7_findAnswers.locals) (by decide) hRl⟩) hN hP hK ⟨Nat.zero_le _, Nat.zero_le _⟩ [0, 1, 2, 3, 4, 5, 6, 7, 8, 9, 10, 11, 12, 13, 14, 15, 16, 17, 18, 19] rfl [0, 1, 2, 3, 4, 5, 6, 7, 8, 9, 10, 11, 12, 13, 14, 15, 16, 17, 18] rfl 0 7 rfl rfl rfl hl.1 rfl (Nat.le_of_ble_eq_true rfl) dX7_findAnswers_95 ?_
      refine lv_lload hx hb dX7_findAnswers_98 (lv_at hl 2 rfl) ?_
      refine lv_land hx hb dX7_findAnswers_100 ?_
      refine lv_topl (fun x17 ex17 => ?_)
      have hr := nm_use hr ex17
      refine lv_lstore (lv' := [(16, .long x17), (14, .long x12), (12, .long q9), (10, .long u7), (0, .ref (ad 0)), (1, .int a0), (3, .int a2), (4, .long x2), (6, .long x4), (8, .long u5)]) hx hb dX7_findAnswers_101 hl (by decide) rfl (fun ls hl => ?_)
      have llp_X7_findAnswers_103 : ∀ (nF : Nat) (v18 : Int64) (w19 : Nat → Int64) (H : Heap) (locs : List Loc), lp_X7_findAnswers_103 mo_wide mo_high a_neighbours a_firstAnswer a_answering a0 x2 x4 u7 q13 nF v18 w19 = some q → va_P (dC, dI) vwCl (wd_X7 ad cA mo_wide mo_high mo_law mo_acts mo_newBlack mo_newWhite mo_taken mo_triesMany mo_isSpent mo_found a_neighbours a_act a_blackAt a_whiteAt a_moveAt a_takenBlack a_takenWhite a_chaseBlack a_chaseWhite a_aheadBlack a_aheadWhite a_hasAhead a_breathsLeft a_laidBlack a_laidWhite w19 (upd a_firstAnswer a0.toNatClampNeg q13) a_answering a_next) H → va_D A (wd_X7 ad cA mo_wide mo_high mo_law mo_acts mo_newBlack mo_newWhite mo_taken mo_triesMany mo_isSpent mo_found a_neighbours a_act a_blackAt a_whiteAt a_moveAt a_takenBlack a_takenWhite a_chaseBlack a_chaseWhite a_aheadBlack a_aheadWhite a_hasAhead a_breathsLeft a_laidBlack a_laidWhite w19 (upd a_firstAnswer a0.toNatClampNeg q13) a_answering a_next) → va_S A H0 H locs → ∀ (ls : Array Slot), lv_has ls 22 [(0, .ref (ad 0)), (1, .int a0), (4, .long x2), (6, .long x4), (10, .long u7), (16, .long v18)] → W p l e R s m args below meth c H locs 0 0 Q (F0 m 103 ls []) := by
        intro nF
        induction nF with
        | zero => intro v18 w19 H locs hr; exact absurd hr (by simp [lp_X7_findAnswers_103])
        | succ nF ih =>
          intro v18 w19 H locs hr hP hD hS ls hl
          rw [lp_X7_findAnswers_103] at hr
          refine lv_lload hx hb dX7_findAnswers_103 (lv_at hl 5 rfl) ?_
          refine lv_lconst (v := (0 : Int64)) hx hb dX7_findAnswers_105 (by decide) ?_
          refine W.lcmp hx hb dX7_findAnswers_106 ?_
          refine lv_if_eq (tgt := 179) hx hb dX7_findAnswers_107 (by decide) (fun c20 => ?_) (fun c20 => ?_)
          · have c20 := cmp_t c20
            have hr := ite_p hr c20
            refine lv_aload_n hx hb dX7_findAnswers_179 rfl (lv_at hl 0 rfl) ?_
            refine va_get (D := (dC, dI)) (ci := 7) (v := .ref (ad 18)) (C := RX7) (T := TX7) (N := 29) hx hb hts huX7 hown hK hP 0 rfl rfl 26 (by decide) hf70 (fun _ h9 => h9) rfl dX7_findAnswers_180 ?_
            refine lv_iload_n hx hb dX7_findAnswers_183 rfl (lv_at hl 1 rfl) ?_
            refine lv_iconst (v := (1 : Int32)) hx hb dX7_findAnswers_184 (by decide) ?_
            obtain ⟨hi21, hr⟩ := ite_g hr
            refine va_zast hx hb hK hP hD hS 18 17 rfl rfl hi21 dX7_findAnswers_185 (fun H locs hP hD hS => ?_)
            have hP : va_P (dC, dI) vwCl (wd_X7 ad cA mo_wide mo_high mo_law mo_acts mo_newBlack mo_newWhite mo_taken mo_triesMany mo_isSpent mo_found a_neighbours a_act a_blackAt a_whiteAt a_moveAt a_takenBlack a_takenWhite a_chaseBlack a_chaseWhite a_aheadBlack a_aheadWhite a_hasAhead a_breathsLeft a_laidBlack a_laidWhite w19 (upd a_firstAnswer a0.toNatClampNeg q13) (upd a_answering a0.toNatClampNeg (vp_nar .boolean (1 : Int32))) a_next) H := hP
            have hD : va_D A (wd_X7 ad cA mo_wide mo_high mo_law mo_acts mo_newBlack mo_newWhite mo_taken mo_triesMany mo_isSpent mo_found a_neighbours a_act a_blackAt a_whiteAt a_moveAt a_takenBlack a_takenWhite a_chaseBlack a_chaseWhite a_aheadBlack a_aheadWhite a_hasAhead a_breathsLeft a_laidBlack a_laidWhite w19 (upd a_firstAnswer a0.toNatClampNeg q13) (upd a_answering a0.toNatClampNeg (vp_nar .boolean (1 : Int32))) a_next) := hD
            obtain rfl := Option.some.inj hr
            exact kret _ _ _ _ dX7_findAnswers_186 hP hD hS
          · have c20 := cmp_f c20
            have hr := ite_n hr c20
            refine lv_aload_n hx hb dX7_findAnswers_110 rfl (lv_at hl 0 rfl) ?_
            refine lv_lload hx hb dX7_findAnswers_111 (lv_at hl 5 rfl) ?_
            refine lv_lload hx hb dX7_findAnswers_113 (lv_at hl 5 rfl) ?_
            refine lv_lneg hx hb dX7_findAnswers_115 ?_
            refine lv_land hx hb dX7_findAnswers_116 ?_
            refine lv_lload hx hb dX7_findAnswers_117 (lv_at hl 4 rfl) ?_
            obtain ⟨q22, hq22, hr⟩ := bd_use hr
            refine pcV_l (As := [.long (v18 &&& (-v18)), .long u7]) (rest := []) S (c_X7_spread l dC dI ad cA mo_wide mo_high mo_law mo_acts mo_newBlack mo_newWhite mo_taken mo_triesMany mo_isSpent mo_found a_neighbours a_act a_blackAt a_whiteAt a_moveAt a_takenBlack a_takenWhite a_chaseBlack a_chaseWhite a_aheadBlack a_aheadWhite a_hasAhead a_breathsLeft a_laidBlack a_laidWhite w19 (upd a_firstAnswer a0.toNatClampNeg q13) a_answering a_next (v18 &&& (-v18)) u7 q22 hq22) (cwV 2 hts gX7_findAnswers_X7_spread rfl rfl rfl (by decide +kernel) ⟨Nat.le_trans (m := rm_X7_findAnswers.frames) (by decide) hRf, Nat.le_trans (m := rm_X7_findAnswers.locals) (by decide) hRl⟩) hN hP hK ⟨Nat.zero_le _, Nat.zero_le _⟩ [0, 1, 2, 3, 4, 5, 6, 7, 8, 9, 10, 11, 12, 13, 14, 15, 16, 17, 18, 19] rfl [0, 1, 2, 3, 4, 5, 6, 7, 8, 9, 10, 11, 12, 13, 14, 15, 16, 17, 18] rfl 0 7 rfl rfl rfl hl.1 rfl (Nat.le_of_ble_eq_true rfl) dX7_findAnswers_119 ?_
            refine lv_lstore (lv' := [(18, .long q22), (0, .ref (ad 0)), (1, .int a0), (4, .long x2), (6, .long x4), (10, .long u7), (16, .long v18)]) hx hb dX7_findAnswers_122 hl (by decide) rfl (fun ls hl => ?_)
            refine lv_lload hx hb dX7_findAnswers_124 (lv_at hl 6 rfl) ?_
            refine lv_lload hx hb dX7_findAnswers_126 (lv_at hl 0 rfl) ?_
            refine W.ldc2 (v := (-1 : Int64)) hx hb hown hk105 rfl dX7_findAnswers_128 ?_
            refine W.eq (g2 := F0 m 131 ls [.long (-1 : Int64), .long q22, .long v18]) rfl ?_
            refine lv_lxor hx hb dX7_findAnswers_131 ?_
            refine lv_land hx hb dX7_findAnswers_132 ?_
            refine lv_topl (fun x23 ex23 => ?_)
            have hr := nm_use hr ex23
            refine lv_lstore (lv' := [(16, .long x23), (18, .long q22), (0, .ref (ad 0)), (1, .int a0), (4, .long x2), (6, .long x4), (10, .long u7)]) hx hb dX7_findAnswers_133 hl (by decide) rfl (fun ls hl => ?_)
            refine lv_aload_n hx hb dX7_findAnswers_135 rfl (lv_at hl 2 rfl) ?_
            refine lv_lload hx hb dX7_findAnswers_136 (lv_at hl 1 rfl) ?_
            obtain ⟨q24, hq24, hr⟩ := bd_use hr
            refine pcV_l (As := [.long q22]) (rest := []) S (c_X7_around l dC dI ad cA mo_wide mo_high mo_law mo_acts mo_newBlack mo_newWhite mo_taken mo_triesMany mo_isSpent mo_found a_neighbours a_act a_blackAt a_whiteAt a_moveAt a_takenBlack a_takenWhite a_chaseBlack a_chaseWhite a_aheadBlack a_aheadWhite a_hasAhead a_breathsLeft a_laidBlack a_laidWhite w19 (upd a_firstAnswer a0.toNatClampNeg q13) a_answering a_next q22 q24 hq24) (cwV 1 hts gX7_findAnswers_X7_around rfl rfl rfl (by decide +kernel) ⟨Nat.le_trans (m := rm_X7_findAnswers.frames) (by decide) hRf, Nat.le_trans (m := rm_X7_findAnswers.locals) (by decide) hRl⟩) hN hP hK ⟨Nat.zero_le _, Nat.zero_le _⟩ [0, 1, 2, 3, 4, 5, 6, 7, 8, 9, 10, 11, 12, 13, 14, 15, 16, 17, 18, 19] rfl [0, 1, 2, 3, 4, 5, 6, 7, 8, 9, 10, 11, 12, 13, 14, 15, 16, 17, 18] rfl 0 7 rfl rfl rfl hl.1 rfl (Nat.le_of_ble_eq_true rfl) dX7_findAnswers_138 ?_
            refine lv_aload_n hx hb dX7_findAnswers_141 rfl (lv_at hl 2 rfl) ?_
            refine lv_lload hx hb dX7_findAnswers_142 (lv_at hl 4 rfl) ?_
            refine lv_lload hx hb dX7_findAnswers_144 (lv_at hl 5 rfl) ?_
            obtain ⟨q25, hq25, hr⟩ := bd_use hr
            refine pcV_l (As := [.long x2, .long x4]) (rest := [.long q24]) S (c_X7_free l dC dI ad cA mo_wide mo_high mo_law mo_acts mo_newBlack mo_newWhite mo_taken mo_triesMany mo_isSpent mo_found a_neighbours a_act a_blackAt a_whiteAt a_moveAt a_takenBlack a_takenWhite a_chaseBlack a_chaseWhite a_aheadBlack a_aheadWhite a_hasAhead a_breathsLeft a_laidBlack a_laidWhite w19 (upd a_firstAnswer a0.toNatClampNeg q13) a_answering a_next x2 x4 q25 hq25) (cwV 2 hts gX7_findAnswers_X7_free rfl rfl rfl (by decide +kernel) ⟨Nat.le_trans (m := rm_X7_findAnswers.frames) (by decide) hRf, Nat.le_trans (m := rm_X7_findAnswers.locals) (by decide) hRl⟩) hN hP hK ⟨Nat.zero_le _, Nat.zero_le _⟩ [0, 1, 2, 3, 4, 5, 6, 7, 8, 9, 10, 11, 12, 13, 14, 15, 16, 17, 18, 19] rfl [0, 1, 2, 3, 4, 5, 6, 7, 8, 9, 10, 11, 12, 13, 14, 15, 16, 17, 18] rfl 0 7 rfl rfl rfl hl.1 rfl (Nat.le_of_ble_eq_true rfl) dX7_findAnswers_146 ?_
            refine lv_land hx hb dX7_findAnswers_149 ?_
            refine lv_topl (fun x26 ex26 => ?_)
            have hr := nm_use hr ex26
            refine lv_lstore (lv' := [(20, .long x26), (16, .long x23), (18, .long q22), (0, .ref (ad 0)), (1, .int a0), (4, .long x2), (6, .long x4), (10, .long u7)]) hx hb dX7_findAnswers_150 hl (by decide) rfl (fun ls hl => ?_)
            refine lv_aload_n hx hb dX7_findAnswers_152 rfl (lv_at hl 3 rfl) ?_
            refine va_get (D := (dC, dI)) (ci := 7) (v := .ref (ad 16)) (C := RX7) (T := TX7) (N := 29) hx hb hts huX7 hown hK hP 0 rfl rfl 24 (by decide) hf64 (fun _ h9 => h9) rfl dX7_findAnswers_153 ?_
            refine lv_iload_n hx hb dX7_findAnswers_156 rfl (lv_at hl 4 rfl) ?_
            refine lv_dup2_11 hx hb dX7_findAnswers_157 rfl rfl ?_
            obtain ⟨hi27, hr⟩ := ite_g hr
            refine va_lald hx hb hK hP 16 15 rfl rfl hi27 dX7_findAnswers_158 ?_
            refine lv_lload hx hb dX7_findAnswers_159 (lv_at hl 0 rfl) ?_
            obtain ⟨q28, hq28, hr⟩ := bd_use hr
            refine pcS_i (As := [.long x26]) (rest := [.long (w19 a0.toNatClampNeg), .int a0, .ref (ad 16)]) S (c_X7_many l dC dI x26 q28 hq28) (va_cwS 1 hts gX7_findAnswers_X7_many rfl rfl rfl (by decide +kernel) ⟨Nat.le_trans (m := rm_X7_findAnswers.frames) (by decide) hRf, Nat.le_trans (m := rm_X7_findAnswers.locals) (by decide) hRl⟩) hN hP hK ⟨Nat.zero_le _, Nat.zero_le _⟩ rfl hl.1 rfl (Nat.le_of_ble_eq_true rfl) dX7_findAnswers_161 ?_
            refine lv_iconst (v := (1 : Int32)) hx hb dX7_findAnswers_164 (by decide) ?_
            refine lv_icmp_ne (tgt := 173) hx hb dX7_findAnswers_165 (by decide) (fun c29 => ?_) (fun c29 => ?_)
            · have hr := ite_n hr c29
              refine lv_lconst (v := (0 : Int64)) hx hb dX7_findAnswers_173 (by decide) ?_
              refine lv_lor hx hb dX7_findAnswers_174 ?_
              refine lv_topl (fun x30 ex30 => ?_)
              have hr := nm_use hr ex30
              obtain ⟨hi31, hr⟩ := ite_g hr
              refine va_last hx hb hK hP hD hS 16 15 rfl rfl hi31 dX7_findAnswers_175 (fun H locs hP hD hS => ?_)
              have hP : va_P (dC, dI) vwCl (wd_X7 ad cA mo_wide mo_high mo_law mo_acts mo_newBlack mo_newWhite mo_taken mo_triesMany mo_isSpent mo_found a_neighbours a_act a_blackAt a_whiteAt a_moveAt a_takenBlack a_takenWhite a_chaseBlack a_chaseWhite a_aheadBlack a_aheadWhite a_hasAhead a_breathsLeft a_laidBlack a_laidWhite (vp_updL w19 a0.toNatClampNeg x30) (upd a_firstAnswer a0.toNatClampNeg q13) a_answering a_next) H := hP
              have hD : va_D A (wd_X7 ad cA mo_wide mo_high mo_law mo_acts mo_newBlack mo_newWhite mo_taken mo_triesMany mo_isSpent mo_found a_neighbours a_act a_blackAt a_whiteAt a_moveAt a_takenBlack a_takenWhite a_chaseBlack a_chaseWhite a_aheadBlack a_aheadWhite a_hasAhead a_breathsLeft a_laidBlack a_laidWhite (vp_updL w19 a0.toNatClampNeg x30) (upd a_firstAnswer a0.toNatClampNeg q13) a_answering a_next) := hD
              refine lv_goto (tgt := 103) hx hb dX7_findAnswers_176 (by decide) ?_
              exact ih x23 (vp_updL w19 a0.toNatClampNeg x30) _ _ hr hP hD hS ls (lv_sub hl [3, 4, 5, 6, 7, 1] rfl)
            · have hr := ite_p hr c29
              refine lv_lload hx hb dX7_findAnswers_168 (lv_at hl 0 rfl) ?_
              refine lv_goto (tgt := 174) hx hb dX7_findAnswers_170 (by decide) ?_
              refine lv_lor hx hb dX7_findAnswers_174 ?_
              refine lv_topl (fun x32 ex32 => ?_)
              have hr := nm_use hr ex32
              obtain ⟨hi33, hr⟩ := ite_g hr
              refine va_last hx hb hK hP hD hS 16 15 rfl rfl hi33 dX7_findAnswers_175 (fun H locs hP hD hS => ?_)
              have hP : va_P (dC, dI) vwCl (wd_X7 ad cA mo_wide mo_high mo_law mo_acts mo_newBlack mo_newWhite mo_taken mo_triesMany mo_isSpent mo_found a_neighbours a_act a_blackAt a_whiteAt a_moveAt a_takenBlack a_takenWhite a_chaseBlack a_chaseWhite a_aheadBlack a_aheadWhite a_hasAhead a_breathsLeft a_laidBlack a_laidWhite (vp_updL w19 a0.toNatClampNeg x32) (upd a_firstAnswer a0.toNatClampNeg q13) a_answering a_next) H := hP
              have hD : va_D A (wd_X7 ad cA mo_wide mo_high mo_law mo_acts mo_newBlack mo_newWhite mo_taken mo_triesMany mo_isSpent mo_found a_neighbours a_act a_blackAt a_whiteAt a_moveAt a_takenBlack a_takenWhite a_chaseBlack a_chaseWhite a_aheadBlack a_aheadWhite a_hasAhead a_breathsLeft a_laidBlack a_laidWhite (vp_updL w19 a0.toNatClampNeg x32) (upd a_firstAnswer a0.toNatClampNeg q13) a_answering a_next) := hD
              refine lv_goto (tgt := 103) hx hb dX7_findAnswers_176 (by decide) ?_
              exact ih x23 (vp_updL w19 a0.toNatClampNeg x32) _ _ hr hP hD hS ls (lv_sub hl [3, 4, 5, 6, 7, 1] rfl)
      exact llp_X7_findAnswers_103 FU x17 (vp_updL a_answersLeft a0.toNatClampNeg x12) _ _ hr hP hD hS ls (lv_sub hl [4, 5, 7, 8, 3, 0] rfl)
    refine lv_icmp_ne (tgt := 40) hx hb dX7_findAnswers_32 (by decide) (fun c34 => ?_) (fun c34 => ?_)
    · have hr := ite_n hr c34
      refine lv_lload hx hb dX7_findAnswers_40 (lv_at hl 5 rfl) ?_
      exact kK8 x2 _ _ hr hP hD hS ls (lv_sub hl [1, 2, 4, 5, 6, 0] rfl)
    · have hr := ite_p hr c34
      refine lv_lload hx hb dX7_findAnswers_35 (lv_at hl 6 rfl) ?_
      refine lv_goto (tgt := 42) hx hb dX7_findAnswers_37 (by decide) ?_
      exact kK8 x4 _ _ hr hP hD hS ls (lv_sub hl [1, 2, 4, 5, 6, 0] rfl)
  refine lv_icmp_ne (tgt := 26) hx hb dX7_findAnswers_18 (by decide) (fun c35 => ?_) (fun c35 => ?_)
  · have hr := ite_n hr c35
    refine lv_lload hx hb dX7_findAnswers_26 (lv_at hl 0 rfl) ?_
    exact kK6 x4 _ _ hr hP hD hS ls (lv_sub hl [2, 3, 4, 5, 1, 0] rfl)
  · have hr := ite_p hr c35
    refine lv_lload hx hb dX7_findAnswers_21 (lv_at hl 1 rfl) ?_
    refine lv_goto (tgt := 28) hx hb dX7_findAnswers_23 (by decide) ?_
    exact kK6 x2 _ _ hr hP hD hS ls (lv_sub hl [2, 3, 4, 5, 1, 0] rfl)

def f_X7_nextAnswer (a_answersLeft : Nat → Int64) (a_firstAnswer : Nat → Int32) (a0 : Int32) : Option (Int32 × (Nat → Int64) × (Nat → Int32)) :=
  if (a0 < 0 ∨ 21 ≤ a0.toNatClampNeg) then none else
  nm (fun (u2 : Int32) =>
  if (a0 < 0 ∨ 21 ≤ a0.toNatClampNeg) then none else
  if (a0 < 0 ∨ 21 ≤ a0.toNatClampNeg) then none else
  if u2 = (-1 : Int32) then (
    nm ((a_answersLeft a0.toNatClampNeg) &&& (-1 : Int64)) fun x9 =>
    if (a0 < 0 ∨ 21 ≤ a0.toNatClampNeg) then none else
    some (u2, vp_updL a_answersLeft a0.toNatClampNeg x9, upd a_firstAnswer a0.toNatClampNeg (-1 : Int32))
  )
  else (
    nm ((a_answersLeft a0.toNatClampNeg) &&& ((jshl (1 : Int64) u2) ^^^ (-1 : Int64))) fun x7 =>
    if (a0 < 0 ∨ 21 ≤ a0.toNatClampNeg) then none else
    some (u2, vp_updL a_answersLeft a0.toNatClampNeg x7, upd a_firstAnswer a0.toNatClampNeg (-1 : Int32))
  )
  ) fun K3 =>
  if a_firstAnswer a0.toNatClampNeg = (-1 : Int32) then (
    if (a0 < 0 ∨ 21 ≤ a0.toNatClampNeg) then none else
    (f_X7_least (a_answersLeft a0.toNatClampNeg) (0 : Int32)).bind fun q13 =>
    K3 q13
  )
  else (
    if (a0 < 0 ∨ 21 ≤ a0.toNatClampNeg) then none else
    K3 (a_firstAnswer a0.toNatClampNeg)
  )

abbrev rm_X7_nextAnswer : Room := { frames := 1, cells := 0, slots := 0, locals := 23 }
set_option maxHeartbeats 4000000 in
set_option maxRecDepth 100000 in
theorem c_X7_nextAnswer (l : Launch) (dC : Nat → ClassId) (dI : Nat → Nat → Nat) (ad : Nat → Nat) (cA : Nat → ClassId) (mo_wide mo_high mo_law mo_acts : Int32) (mo_newBlack mo_newWhite : Int64) (mo_taken mo_triesMany mo_isSpent mo_found : Int32) (a_neighbours : Nat → Int64) (a_act : Nat → Int32) (a_blackAt a_whiteAt : Nat → Int64) (a_moveAt a_takenBlack a_takenWhite : Nat → Int32) (a_chaseBlack a_chaseWhite a_aheadBlack a_aheadWhite : Nat → Int64) (a_hasAhead : Nat → Int32) (a_breathsLeft a_laidBlack a_laidWhite a_answersLeft : Nat → Int64) (a_firstAnswer a_answering a_next : Nat → Int32) (sz : Nat) (a0 : Int32) (q : Int32 × (Nat → Int64) × (Nat → Int32)) (hr : f_X7_nextAnswer a_answersLeft a_firstAnswer a0 = some q) : Met l yX7_nextAnswer wsX7_nextAnswer rm_X7_nextAnswer (PrI (dC, dI) (wd_X7 ad cA mo_wide mo_high mo_law mo_acts mo_newBlack mo_newWhite mo_taken mo_triesMany mo_isSpent mo_found a_neighbours a_act a_blackAt a_whiteAt a_moveAt a_takenBlack a_takenWhite a_chaseBlack a_chaseWhite a_aheadBlack a_aheadWhite a_hasAhead a_breathsLeft a_laidBlack a_laidWhite a_answersLeft a_firstAnswer a_answering a_next) (td_X7 cA) sz [.ref (ad 0), .int a0]) (QIi (dC, dI) (wd_X7 ad cA mo_wide mo_high mo_law mo_acts mo_newBlack mo_newWhite mo_taken mo_triesMany mo_isSpent mo_found a_neighbours a_act a_blackAt a_whiteAt a_moveAt a_takenBlack a_takenWhite a_chaseBlack a_chaseWhite a_aheadBlack a_aheadWhite a_hasAhead a_breathsLeft a_laidBlack a_laidWhite a_answersLeft a_firstAnswer a_answering a_next) (td_X7 cA) sz q.1 (wd_X7 ad cA mo_wide mo_high mo_law mo_acts mo_newBlack mo_newWhite mo_taken mo_triesMany mo_isSpent mo_found a_neighbours a_act a_blackAt a_whiteAt a_moveAt a_takenBlack a_takenWhite a_chaseBlack a_chaseWhite a_aheadBlack a_aheadWhite a_hasAhead a_breathsLeft a_laidBlack a_laidWhite q.2.1 q.2.2 a_answering a_next)) 0 0 (va_A (wd_X7 ad cA mo_wide mo_high mo_law mo_acts mo_newBlack mo_newWhite mo_taken mo_triesMany mo_isSpent mo_found a_neighbours a_act a_blackAt a_whiteAt a_moveAt a_takenBlack a_takenWhite a_chaseBlack a_chaseWhite a_aheadBlack a_aheadWhite a_hasAhead a_breathsLeft a_laidBlack a_laidWhite a_answersLeft a_firstAnswer a_answering a_next) sz) := by
  refine mkI_i (cc := cX7_nextAnswer) (nL := 3) (by decide) rfl (Nat.le_of_ble_eq_true rfl) ?_
  intro p e R s m args below meth c H0 H locs A Q ls hRf hRl S hN hP hK hD hA hS hl kret
  have hl : lv_has ls 3 [(0, .ref (ad 0)), (1, .int a0)] := hl
  obtain ⟨hx, hb, hml, hown, hts⟩ := S
  have hown : s.vm.findClass RX7 = some m.cls := hown
  have S : CallFix p m c cX7_nextAnswer 3 s args wsX7_nextAnswer RX7 := ⟨hx, hb, hml, hown, hts⟩
  have huX7 : ∀ w ∈ u_ws RX7 TX7 29, w ∈ wsX7_nextAnswer := by decide +kernel
  have hf67 := hts (.fieldLink RX7 67 "EyeBoardModel" "firstAnswer" "[I") (by decide +kernel)
  have hf64 := hts (.fieldLink RX7 64 "EyeBoardModel" "answersLeft" "[J") (by decide +kernel)
  have hk105 := hts (.constantLong RX7 105 (-1 : Int64)) (by decide +kernel)
  unfold f_X7_nextAnswer at hr
  refine lv_aload_n hx hb dX7_nextAnswer_0 rfl (lv_at hl 0 rfl) ?_
  refine va_get (D := (dC, dI)) (ci := 7) (v := .ref (ad 17)) (C := RX7) (T := TX7) (N := 29) hx hb hts huX7 hown hK hP 0 rfl rfl 25 (by decide) hf67 (fun _ h9 => h9) rfl dX7_nextAnswer_1 ?_
  refine lv_iload_n hx hb dX7_nextAnswer_4 rfl (lv_at hl 1 rfl) ?_
  obtain ⟨hi1, hr⟩ := ite_g hr
  refine va_iald hx hb hK hP 17 16 rfl rfl hi1 dX7_nextAnswer_5 ?_
  refine lv_iconst (v := (-1 : Int32)) hx hb dX7_nextAnswer_6 (by decide) ?_
  obtain ⟨K3, eK3, hr⟩ := nm_ex hr
  have kK3 : ∀ (u2 : Int32) (H : Heap) (locs : List Loc) , K3 u2 = some q → va_P (dC, dI) vwCl (wd_X7 ad cA mo_wide mo_high mo_law mo_acts mo_newBlack mo_newWhite mo_taken mo_triesMany mo_isSpent mo_found a_neighbours a_act a_blackAt a_whiteAt a_moveAt a_takenBlack a_takenWhite a_chaseBlack a_chaseWhite a_aheadBlack a_aheadWhite a_hasAhead a_breathsLeft a_laidBlack a_laidWhite a_answersLeft a_firstAnswer a_answering a_next) H → va_D A (wd_X7 ad cA mo_wide mo_high mo_law mo_acts mo_newBlack mo_newWhite mo_taken mo_triesMany mo_isSpent mo_found a_neighbours a_act a_blackAt a_whiteAt a_moveAt a_takenBlack a_takenWhite a_chaseBlack a_chaseWhite a_aheadBlack a_aheadWhite a_hasAhead a_breathsLeft a_laidBlack a_laidWhite a_answersLeft a_firstAnswer a_answering a_next) → va_S A H0 H locs → ∀ (ls : Array Slot), lv_has ls 3 [(0, .ref (ad 0)), (1, .int a0)] → W p l e R s m args below meth c H locs 0 0 Q (F0 m 29 ls [.int u2]) := by
    intro u2 H locs hr hP hD hS ls hl
    rw [eK3] at hr
    refine lv_istore_n (lv' := [(2, .int u2), (0, .ref (ad 0)), (1, .int a0)]) hx hb dX7_nextAnswer_29 rfl hl (by decide) rfl (fun ls hl => ?_)
    refine lv_aload_n hx hb dX7_nextAnswer_30 rfl (lv_at hl 1 rfl) ?_
    refine va_get (D := (dC, dI)) (ci := 7) (v := .ref (ad 17)) (C := RX7) (T := TX7) (N := 29) hx hb hts huX7 hown hK hP 0 rfl rfl 25 (by decide) hf67 (fun _ h9 => h9) rfl dX7_nextAnswer_31 ?_
    refine lv_iload_n hx hb dX7_nextAnswer_34 rfl (lv_at hl 2 rfl) ?_
    refine lv_iconst (v := (-1 : Int32)) hx hb dX7_nextAnswer_35 (by decide) ?_
    obtain ⟨hi4, hr⟩ := ite_g hr
    refine va_iast hx hb hK hP hD hS 17 16 rfl rfl hi4 dX7_nextAnswer_36 (fun H locs hP hD hS => ?_)
    have hP : va_P (dC, dI) vwCl (wd_X7 ad cA mo_wide mo_high mo_law mo_acts mo_newBlack mo_newWhite mo_taken mo_triesMany mo_isSpent mo_found a_neighbours a_act a_blackAt a_whiteAt a_moveAt a_takenBlack a_takenWhite a_chaseBlack a_chaseWhite a_aheadBlack a_aheadWhite a_hasAhead a_breathsLeft a_laidBlack a_laidWhite a_answersLeft (upd a_firstAnswer a0.toNatClampNeg (-1 : Int32)) a_answering a_next) H := hP
    have hD : va_D A (wd_X7 ad cA mo_wide mo_high mo_law mo_acts mo_newBlack mo_newWhite mo_taken mo_triesMany mo_isSpent mo_found a_neighbours a_act a_blackAt a_whiteAt a_moveAt a_takenBlack a_takenWhite a_chaseBlack a_chaseWhite a_aheadBlack a_aheadWhite a_hasAhead a_breathsLeft a_laidBlack a_laidWhite a_answersLeft (upd a_firstAnswer a0.toNatClampNeg (-1 : Int32)) a_answering a_next) := hD
    refine lv_aload_n hx hb dX7_nextAnswer_37 rfl (lv_at hl 1 rfl) ?_
    refine va_get (D := (dC, dI)) (ci := 7) (v := .ref (ad 16)) (C := RX7) (T := TX7) (N := 29) hx hb hts huX7 hown hK hP 0 rfl rfl 24 (by decide) hf64 (fun _ h9 => h9) rfl dX7_nextAnswer_38 ?_
    refine lv_iload_n hx hb dX7_nextAnswer_41 rfl (lv_at hl 2 rfl) ?_
    refine lv_dup2_11 hx hb dX7_nextAnswer_42 rfl rfl ?_
    obtain ⟨hi5, hr⟩ := ite_g hr
    refine va_lald hx hb hK hP 16 15 rfl rfl hi5 dX7_nextAnswer_43 ?_
    refine lv_iload_n hx hb dX7_nextAnswer_44 rfl (lv_at hl 0 rfl) ?_
    refine lv_iconst (v := (-1 : Int32)) hx hb dX7_nextAnswer_45 (by decide) ?_
    refine lv_icmp_ne (tgt := 55) hx hb dX7_nextAnswer_46 (by decide) (fun c6 => ?_) (fun c6 => ?_)
    · have hr := ite_n hr c6
      refine lv_lconst (v := (1 : Int64)) hx hb dX7_nextAnswer_55 (by decide) ?_
      refine lv_iload_n hx hb dX7_nextAnswer_56 rfl (lv_at hl 0 rfl) ?_
      refine lv_lshl (v := jshl (1 : Int64) u2) hx hb dX7_nextAnswer_57 rfl ?_
      refine W.ldc2 (v := (-1 : Int64)) hx hb hown hk105 rfl dX7_nextAnswer_58 ?_
      refine W.eq (g2 := F0 m 61 ls [.long (-1 : Int64), .long (jshl (1 : Int64) u2), .long (a_answersLeft a0.toNatClampNeg), .int a0, .ref (ad 16)]) rfl ?_
      refine lv_lxor hx hb dX7_nextAnswer_61 ?_
      refine lv_land hx hb dX7_nextAnswer_62 ?_
      refine lv_topl (fun x7 ex7 => ?_)
      have hr := nm_use hr ex7
      obtain ⟨hi8, hr⟩ := ite_g hr
      refine va_last hx hb hK hP hD hS 16 15 rfl rfl hi8 dX7_nextAnswer_63 (fun H locs hP hD hS => ?_)
      have hP : va_P (dC, dI) vwCl (wd_X7 ad cA mo_wide mo_high mo_law mo_acts mo_newBlack mo_newWhite mo_taken mo_triesMany mo_isSpent mo_found a_neighbours a_act a_blackAt a_whiteAt a_moveAt a_takenBlack a_takenWhite a_chaseBlack a_chaseWhite a_aheadBlack a_aheadWhite a_hasAhead a_breathsLeft a_laidBlack a_laidWhite (vp_updL a_answersLeft a0.toNatClampNeg x7) (upd a_firstAnswer a0.toNatClampNeg (-1 : Int32)) a_answering a_next) H := hP
      have hD : va_D A (wd_X7 ad cA mo_wide mo_high mo_law mo_acts mo_newBlack mo_newWhite mo_taken mo_triesMany mo_isSpent mo_found a_neighbours a_act a_blackAt a_whiteAt a_moveAt a_takenBlack a_takenWhite a_chaseBlack a_chaseWhite a_aheadBlack a_aheadWhite a_hasAhead a_breathsLeft a_laidBlack a_laidWhite (vp_updL a_answersLeft a0.toNatClampNeg x7) (upd a_firstAnswer a0.toNatClampNeg (-1 : Int32)) a_answering a_next) := hD
      refine lv_iload_n hx hb dX7_nextAnswer_64 rfl (lv_at hl 0 rfl) ?_
      obtain rfl := Option.some.inj hr
      exact kret _ _ _ _ dX7_nextAnswer_65 hP hD hS
    · have hr := ite_p hr c6
      refine W.ldc2 (v := (-1 : Int64)) hx hb hown hk105 rfl dX7_nextAnswer_49 ?_
      refine W.eq (g2 := F0 m 52 ls [.long (-1 : Int64), .long (a_answersLeft a0.toNatClampNeg), .int a0, .ref (ad 16)]) rfl ?_
      refine lv_goto (tgt := 62) hx hb dX7_nextAnswer_52 (by decide) ?_
      refine lv_land hx hb dX7_nextAnswer_62 ?_
      refine lv_topl (fun x9 ex9 => ?_)
      have hr := nm_use hr ex9
      obtain ⟨hi10, hr⟩ := ite_g hr
      refine va_last hx hb hK hP hD hS 16 15 rfl rfl hi10 dX7_nextAnswer_63 (fun H locs hP hD hS => ?_)
      have hP : va_P (dC, dI) vwCl (wd_X7 ad cA mo_wide mo_high mo_law mo_acts mo_newBlack mo_newWhite mo_taken mo_triesMany mo_isSpent mo_found a_neighbours a_act a_blackAt a_whiteAt a_moveAt a_takenBlack a_takenWhite a_chaseBlack a_chaseWhite a_aheadBlack a_aheadWhite a_hasAhead a_breathsLeft a_laidBlack a_laidWhite (vp_updL a_answersLeft a0.toNatClampNeg x9) (upd a_firstAnswer a0.toNatClampNeg (-1 : Int32)) a_answering a_next) H := hP
      have hD : va_D A (wd_X7 ad cA mo_wide mo_high mo_law mo_acts mo_newBlack mo_newWhite mo_taken mo_triesMany mo_isSpent mo_found a_neighbours a_act a_blackAt a_whiteAt a_moveAt a_takenBlack a_takenWhite a_chaseBlack a_chaseWhite a_aheadBlack a_aheadWhite a_hasAhead a_breathsLeft a_laidBlack a_laidWhite (vp_updL a_answersLeft a0.toNatClampNeg x9) (upd a_firstAnswer a0.toNatClampNeg (-1 : Int32)) a_answering a_next) := hD
      refine lv_iload_n hx hb dX7_nextAnswer_64 rfl (lv_at hl 0 rfl) ?_
      obtain rfl := Option.some.inj hr
      exact kret _ _ _ _ dX7_nextAnswer_65 hP hD hS
  refine lv_icmp_eq (tgt := 19) hx hb dX7_nextAnswer_7 (by decide) (fun c11 => ?_) (fun c11 => ?_)
  · have hr := ite_p hr c11
    refine lv_aload_n hx hb dX7_nextAnswer_19 rfl (lv_at hl 0 rfl) ?_
    refine va_get (D := (dC, dI)) (ci := 7) (v := .ref (ad 16)) (C := RX7) (T := TX7) (N := 29) hx hb hts huX7 hown hK hP 0 rfl rfl 24 (by decide) hf64 (fun _ h9 => h9) rfl dX7_nextAnswer_20 ?_
    refine lv_iload_n hx hb dX7_nextAnswer_23 rfl (lv_at hl 1 rfl) ?_
    obtain ⟨hi12, hr⟩ := ite_g hr
    refine va_lald hx hb hK hP 16 15 rfl rfl hi12 dX7_nextAnswer_24 ?_
    refine lv_iconst (v := (0 : Int32)) hx hb dX7_nextAnswer_25 (by decide) ?_
    obtain ⟨q13, hq13, hr⟩ := bd_use hr
    refine pcS_i (As := [.long (a_answersLeft a0.toNatClampNeg), .int (0 : Int32)]) (rest := []) S (c_X7_least l dC dI (a_answersLeft a0.toNatClampNeg) (0 : Int32) q13 hq13) (va_cwS 2 hts gX7_nextAnswer_X7_least rfl rfl rfl (by decide +kernel) ⟨Nat.le_trans (m := rm_X7_nextAnswer.frames) (by decide) hRf, Nat.le_trans (m := rm_X7_nextAnswer.locals) (by decide) hRl⟩) hN hP hK ⟨Nat.zero_le _, Nat.zero_le _⟩ rfl hl.1 rfl (Nat.le_of_ble_eq_true rfl) dX7_nextAnswer_26 ?_
    exact kK3 q13 _ _ hr hP hD hS ls (lv_sub hl [0, 1] rfl)
  · have hr := ite_n hr c11
    refine lv_aload_n hx hb dX7_nextAnswer_10 rfl (lv_at hl 0 rfl) ?_
    refine va_get (D := (dC, dI)) (ci := 7) (v := .ref (ad 17)) (C := RX7) (T := TX7) (N := 29) hx hb hts huX7 hown hK hP 0 rfl rfl 25 (by decide) hf67 (fun _ h9 => h9) rfl dX7_nextAnswer_11 ?_
    refine lv_iload_n hx hb dX7_nextAnswer_14 rfl (lv_at hl 1 rfl) ?_
    obtain ⟨hi14, hr⟩ := ite_g hr
    refine va_iald hx hb hK hP 17 16 rfl rfl hi14 dX7_nextAnswer_15 ?_
    refine lv_goto (tgt := 29) hx hb dX7_nextAnswer_16 (by decide) ?_
    exact kK3 (a_firstAnswer a0.toNatClampNeg) _ _ hr hP hD hS ls (lv_sub hl [0, 1] rfl)

def f_X7_mayAnswer (mo_wide : Int32) (mo_high : Int32) (mo_newBlack : Int64) (mo_newWhite : Int64) (mo_taken : Int32) (a_neighbours : Nat → Int64) (a_chaseBlack : Nat → Int64) (a_chaseWhite : Nat → Int64) (a_laidBlack : Nat → Int64) (a_laidWhite : Nat → Int64) (a0 : Int32) (a1 : Int32) (a2 : Int32) : Option (Int32 × Int64 × Int64 × Int32) :=
  if (a0 < 0 ∨ 21 ≤ a0.toNatClampNeg) then none else
  if (a0 < 0 ∨ 21 ≤ a0.toNatClampNeg) then none else
  (f_X7_laid mo_wide mo_high mo_newBlack mo_newWhite mo_taken a_neighbours (a_laidBlack a0.toNatClampNeg) (a_laidWhite a0.toNatClampNeg) a1 a2).bind fun q3 =>
  if q3.1 = 0 then (
    if (a0 < 0 ∨ 21 ≤ a0.toNatClampNeg) then none else
    if (a0 < 0 ∨ 21 ≤ a0.toNatClampNeg) then none else
    (f_X7_isAt q3.2.1 q3.2.2.1 (a_chaseBlack a0.toNatClampNeg) (a_chaseWhite a0.toNatClampNeg)).bind fun q7 =>
    if q7 = 0 then (
      some ((1 : Int32), q3.2.1, q3.2.2.1, q3.2.2.2)
    )
    else (
      some ((0 : Int32), q3.2.1, q3.2.2.1, q3.2.2.2)
    )
  )
  else (
    some ((0 : Int32), q3.2.1, q3.2.2.1, q3.2.2.2)
  )

abbrev rm_X7_mayAnswer : Room := { frames := 4, cells := 0, slots := 0, locals := 110 }
set_option maxHeartbeats 4000000 in
set_option maxRecDepth 100000 in
theorem c_X7_mayAnswer (l : Launch) (dC : Nat → ClassId) (dI : Nat → Nat → Nat) (ad : Nat → Nat) (cA : Nat → ClassId) (mo_wide mo_high mo_law mo_acts : Int32) (mo_newBlack mo_newWhite : Int64) (mo_taken mo_triesMany mo_isSpent mo_found : Int32) (a_neighbours : Nat → Int64) (a_act : Nat → Int32) (a_blackAt a_whiteAt : Nat → Int64) (a_moveAt a_takenBlack a_takenWhite : Nat → Int32) (a_chaseBlack a_chaseWhite a_aheadBlack a_aheadWhite : Nat → Int64) (a_hasAhead : Nat → Int32) (a_breathsLeft a_laidBlack a_laidWhite a_answersLeft : Nat → Int64) (a_firstAnswer a_answering a_next : Nat → Int32) (sz : Nat) (a0 : Int32) (a1 : Int32) (a2 : Int32) (q : Int32 × Int64 × Int64 × Int32) (hr : f_X7_mayAnswer mo_wide mo_high mo_newBlack mo_newWhite mo_taken a_neighbours a_chaseBlack a_chaseWhite a_laidBlack a_laidWhite a0 a1 a2 = some q) : Met l yX7_mayAnswer wsX7_mayAnswer rm_X7_mayAnswer (PrI (dC, dI) (wd_X7 ad cA mo_wide mo_high mo_law mo_acts mo_newBlack mo_newWhite mo_taken mo_triesMany mo_isSpent mo_found a_neighbours a_act a_blackAt a_whiteAt a_moveAt a_takenBlack a_takenWhite a_chaseBlack a_chaseWhite a_aheadBlack a_aheadWhite a_hasAhead a_breathsLeft a_laidBlack a_laidWhite a_answersLeft a_firstAnswer a_answering a_next) (td_X7 cA) sz [.ref (ad 0), .int a0, .int a1, .int a2]) (QIi (dC, dI) (wd_X7 ad cA mo_wide mo_high mo_law mo_acts mo_newBlack mo_newWhite mo_taken mo_triesMany mo_isSpent mo_found a_neighbours a_act a_blackAt a_whiteAt a_moveAt a_takenBlack a_takenWhite a_chaseBlack a_chaseWhite a_aheadBlack a_aheadWhite a_hasAhead a_breathsLeft a_laidBlack a_laidWhite a_answersLeft a_firstAnswer a_answering a_next) (td_X7 cA) sz q.1 (wd_X7 ad cA mo_wide mo_high mo_law mo_acts q.2.1 q.2.2.1 q.2.2.2 mo_triesMany mo_isSpent mo_found a_neighbours a_act a_blackAt a_whiteAt a_moveAt a_takenBlack a_takenWhite a_chaseBlack a_chaseWhite a_aheadBlack a_aheadWhite a_hasAhead a_breathsLeft a_laidBlack a_laidWhite a_answersLeft a_firstAnswer a_answering a_next)) 0 0 (va_A (wd_X7 ad cA mo_wide mo_high mo_law mo_acts mo_newBlack mo_newWhite mo_taken mo_triesMany mo_isSpent mo_found a_neighbours a_act a_blackAt a_whiteAt a_moveAt a_takenBlack a_takenWhite a_chaseBlack a_chaseWhite a_aheadBlack a_aheadWhite a_hasAhead a_breathsLeft a_laidBlack a_laidWhite a_answersLeft a_firstAnswer a_answering a_next) sz) := by
  refine mkI_z (cc := cX7_mayAnswer) (nL := 4) (by decide) rfl (Nat.le_of_ble_eq_true rfl) ?_
  intro p e R s m args below meth c H0 H locs A Q ls hRf hRl S hN hP hK hD hA hS hl kret
  have hl : lv_has ls 4 [(0, .ref (ad 0)), (1, .int a0), (2, .int a1), (3, .int a2)] := hl
  obtain ⟨hx, hb, hml, hown, hts⟩ := S
  have hown : s.vm.findClass RX7 = some m.cls := hown
  have S : CallFix p m c cX7_mayAnswer 4 s args wsX7_mayAnswer RX7 := ⟨hx, hb, hml, hown, hts⟩
  have huX7 : ∀ w ∈ u_ws RX7 TX7 29, w ∈ wsX7_mayAnswer := by decide +kernel
  have hf58 := hts (.fieldLink RX7 58 "EyeBoardModel" "laidBlack" "[J") (by decide +kernel)
  have hf61 := hts (.fieldLink RX7 61 "EyeBoardModel" "laidWhite" "[J") (by decide +kernel)
  have hf39 := hts (.fieldLink RX7 39 "EyeBoardModel" "chaseBlack" "[J") (by decide +kernel)
  have hf42 := hts (.fieldLink RX7 42 "EyeBoardModel" "chaseWhite" "[J") (by decide +kernel)
  unfold f_X7_mayAnswer at hr
  refine lv_aload_n hx hb dX7_mayAnswer_0 rfl (lv_at hl 0 rfl) ?_
  refine lv_aload_n hx hb dX7_mayAnswer_1 rfl (lv_at hl 0 rfl) ?_
  refine va_get (D := (dC, dI)) (ci := 7) (v := .ref (ad 14)) (C := RX7) (T := TX7) (N := 29) hx hb hts huX7 hown hK hP 0 rfl rfl 22 (by decide) hf58 (fun _ h9 => h9) rfl dX7_mayAnswer_2 ?_
  refine lv_iload_n hx hb dX7_mayAnswer_5 rfl (lv_at hl 1 rfl) ?_
  obtain ⟨hi1, hr⟩ := ite_g hr
  refine va_lald hx hb hK hP 14 13 rfl rfl hi1 dX7_mayAnswer_6 ?_
  refine lv_aload_n hx hb dX7_mayAnswer_7 rfl (lv_at hl 0 rfl) ?_
  refine va_get (D := (dC, dI)) (ci := 7) (v := .ref (ad 15)) (C := RX7) (T := TX7) (N := 29) hx hb hts huX7 hown hK hP 0 rfl rfl 23 (by decide) hf61 (fun _ h9 => h9) rfl dX7_mayAnswer_8 ?_
  refine lv_iload_n hx hb dX7_mayAnswer_11 rfl (lv_at hl 1 rfl) ?_
  obtain ⟨hi2, hr⟩ := ite_g hr
  refine va_lald hx hb hK hP 15 14 rfl rfl hi2 dX7_mayAnswer_12 ?_
  refine lv_iload_n hx hb dX7_mayAnswer_13 rfl (lv_at hl 2 rfl) ?_
  refine lv_iload_n hx hb dX7_mayAnswer_14 rfl (lv_at hl 3 rfl) ?_
  obtain ⟨q3, hq3, hr⟩ := bd_use hr
  refine icV_i (As := [.long (a_laidBlack a0.toNatClampNeg), .long (a_laidWhite a0.toNatClampNeg), .int a1, .int a2]) (rest := []) (ws2 := (wd_X7 ad cA mo_wide mo_high mo_law mo_acts q3.2.1 q3.2.2.1 q3.2.2.2 mo_triesMany mo_isSpent mo_found a_neighbours a_act a_blackAt a_whiteAt a_moveAt a_takenBlack a_takenWhite a_chaseBlack a_chaseWhite a_aheadBlack a_aheadWhite a_hasAhead a_breathsLeft a_laidBlack a_laidWhite a_answersLeft a_firstAnswer a_answering a_next)) S (c_X7_laid l dC dI ad cA mo_wide mo_high mo_law mo_acts mo_newBlack mo_newWhite mo_taken mo_triesMany mo_isSpent mo_found a_neighbours a_act a_blackAt a_whiteAt a_moveAt a_takenBlack a_takenWhite a_chaseBlack a_chaseWhite a_aheadBlack a_aheadWhite a_hasAhead a_breathsLeft a_laidBlack a_laidWhite a_answersLeft a_firstAnswer a_answering a_next H.size (a_laidBlack a0.toNatClampNeg) (a_laidWhite a0.toNatClampNeg) a1 a2 q3 hq3) (cwV 4 hts gX7_mayAnswer_X7_laid rfl rfl rfl (by decide +kernel) ⟨Nat.le_trans (m := rm_X7_mayAnswer.frames) (by decide) hRf, Nat.le_trans (m := rm_X7_mayAnswer.locals) (by decide) hRl⟩) hN hP hK hD hS hA ⟨Nat.zero_le _, Nat.zero_le _⟩ [0, 1, 2, 3, 4, 5, 6, 7, 8, 9, 10, 11, 12, 13, 14, 15, 16, 17, 18, 19] [] [0, 1, 2, 3, 4, 5, 6, 7, 8, 9, 10, 11, 12, 13, 14, 15, 16, 17, 18, 19] rfl rfl rfl rfl rfl (by decide) rfl rfl rfl [0, 1, 2, 3, 4, 5, 6, 7, 8, 9, 10, 11, 12, 13, 14, 15, 16, 17, 18] rfl 0 7 rfl rfl rfl hl.1 rfl (Nat.le_of_ble_eq_true rfl) dX7_mayAnswer_15 (fun H locs hP hD hS => ?_)
  refine lv_if_ne (tgt := 44) hx hb dX7_mayAnswer_18 (by decide) (fun c4 => ?_) (fun c4 => ?_)
  · have hr := ite_n hr c4
    refine lv_iconst (v := (0 : Int32)) hx hb dX7_mayAnswer_44 (by decide) ?_
    obtain rfl := Option.some.inj hr
    exact kret _ _ _ _ dX7_mayAnswer_45 hP hD hS nar_0
  · have hr := ite_p hr c4
    refine lv_aload_n hx hb dX7_mayAnswer_21 rfl (lv_at hl 0 rfl) ?_
    refine lv_aload_n hx hb dX7_mayAnswer_22 rfl (lv_at hl 0 rfl) ?_
    refine va_get (D := (dC, dI)) (ci := 7) (v := .ref (ad 8)) (C := RX7) (T := TX7) (N := 29) hx hb hts huX7 hown hK hP 0 rfl rfl 16 (by decide) hf39 (fun _ h9 => h9) rfl dX7_mayAnswer_23 ?_
    refine lv_iload_n hx hb dX7_mayAnswer_26 rfl (lv_at hl 1 rfl) ?_
    obtain ⟨hi5, hr⟩ := ite_g hr
    refine va_lald hx hb hK hP 8 7 rfl rfl hi5 dX7_mayAnswer_27 ?_
    refine lv_aload_n hx hb dX7_mayAnswer_28 rfl (lv_at hl 0 rfl) ?_
    refine va_get (D := (dC, dI)) (ci := 7) (v := .ref (ad 9)) (C := RX7) (T := TX7) (N := 29) hx hb hts huX7 hown hK hP 0 rfl rfl 17 (by decide) hf42 (fun _ h9 => h9) rfl dX7_mayAnswer_29 ?_
    refine lv_iload_n hx hb dX7_mayAnswer_32 rfl (lv_at hl 1 rfl) ?_
    obtain ⟨hi6, hr⟩ := ite_g hr
    refine va_lald hx hb hK hP 9 8 rfl rfl hi6 dX7_mayAnswer_33 ?_
    obtain ⟨q7, hq7, hr⟩ := bd_use hr
    refine pcV_i (As := [.long (a_chaseBlack a0.toNatClampNeg), .long (a_chaseWhite a0.toNatClampNeg)]) (rest := []) S (c_X7_isAt l dC dI ad cA mo_wide mo_high mo_law mo_acts q3.2.1 q3.2.2.1 q3.2.2.2 mo_triesMany mo_isSpent mo_found a_neighbours a_act a_blackAt a_whiteAt a_moveAt a_takenBlack a_takenWhite a_chaseBlack a_chaseWhite a_aheadBlack a_aheadWhite a_hasAhead a_breathsLeft a_laidBlack a_laidWhite a_answersLeft a_firstAnswer a_answering a_next (a_chaseBlack a0.toNatClampNeg) (a_chaseWhite a0.toNatClampNeg) q7 hq7) (cwV 2 hts gX7_mayAnswer_X7_isAt rfl rfl rfl (by decide +kernel) ⟨Nat.le_trans (m := rm_X7_mayAnswer.frames) (by decide) hRf, Nat.le_trans (m := rm_X7_mayAnswer.locals) (by decide) hRl⟩) hN hP hK ⟨Nat.zero_le _, Nat.zero_le _⟩ [0, 1, 2, 3, 4, 5, 6, 7, 8, 9, 10, 11, 12, 13, 14, 15, 16, 17, 18, 19] rfl [0, 1, 2, 3, 4, 5, 6, 7, 8, 9, 10, 11, 12, 13, 14, 15, 16, 17, 18] rfl 0 7 rfl rfl rfl hl.1 rfl (Nat.le_of_ble_eq_true rfl) dX7_mayAnswer_34 ?_
    refine lv_if_ne (tgt := 44) hx hb dX7_mayAnswer_37 (by decide) (fun c8 => ?_) (fun c8 => ?_)
    · have hr := ite_n hr c8
      refine lv_iconst (v := (0 : Int32)) hx hb dX7_mayAnswer_44 (by decide) ?_
      obtain rfl := Option.some.inj hr
      exact kret _ _ _ _ dX7_mayAnswer_45 hP hD hS nar_0
    · have hr := ite_p hr c8
      refine lv_iconst (v := (1 : Int32)) hx hb dX7_mayAnswer_40 (by decide) ?_
      refine lv_goto (tgt := 45) hx hb dX7_mayAnswer_41 (by decide) ?_
      obtain rfl := Option.some.inj hr
      exact kret _ _ _ _ dX7_mayAnswer_45 hP hD hS nar_1

