def lp_X7_isCaught_41 (mo_wide : Int32) (mo_high : Int32) (a_neighbours : Nat → Int64) (a0 : Int32) (a1 : Int32) (a2 : Int32) : Nat → Int32 → Int32 → Int32 → Int64 → Int64 → Int32 → Int32 → Int32 → (Nat → Int64) → (Nat → Int64) → (Nat → Int64) → (Nat → Int64) → (Nat → Int32) → (Nat → Int64) → (Nat → Int64) → (Nat → Int64) → (Nat → Int64) → (Nat → Int32) → (Nat → Int32) → Option (Int32 × Int64 × Int64 × Int32 × Int32 × Int32 × (Nat → Int64) × (Nat → Int64) × (Nat → Int64) × (Nat → Int64) × (Nat → Int32) × (Nat → Int64) × (Nat → Int64) × (Nat → Int64) × (Nat → Int64) × (Nat → Int32) × (Nat → Int32))
  | 0, _, _, _, _, _, _, _, _, _, _, _, _, _, _, _, _, _, _, _ => none
  | nF + 1, v5, v6, v7, w8, w9, w10, w11, w12, w13, w14, w15, w16, w17, w18, w19, w20, w21, w22, w23 =>
    if v5 < 0 then (
      if ¬ (v7 = 0 ∨ v7 = 1) then none else
      some (v7, w8, w9, w10, w11, w12, w13, w14, w15, w16, w17, w18, w19, w20, w21, w22, w23)
    )
    else (
      if w12 = 0 then (
        nm (fun (v28 : Int32) (v29 : Int32) (w30 : Nat → Int32) =>
        if (v5 < 0 ∨ 21 ≤ v5.toNatClampNeg) then none else
        if w30 v5.toNatClampNeg = 0 then (
          if (v5 < 0 ∨ 21 ≤ v5.toNatClampNeg) then none else
          (f_X7_least (w18 v5.toNatClampNeg) (0 : Int32)).bind fun q35 =>
          if q35 = (-1 : Int32) then (
            nm (v5 + (-1)) fun x51 =>
            lp_X7_isCaught_41 mo_wide mo_high a_neighbours a0 a1 a2 nF x51 v28 (0 : Int32) w8 w9 w10 w11 w12 w13 w14 w15 w16 w17 w18 w19 w20 w21 w22 w30
          )
          else (
            if (v5 < 0 ∨ 21 ≤ v5.toNatClampNeg) then none else
            nm ((w18 v5.toNatClampNeg) &&& ((jshl (1 : Int64) q35) ^^^ (-1 : Int64))) fun x38 =>
            if (v5 < 0 ∨ 21 ≤ v5.toNatClampNeg) then none else
            (f_X7_mayChase mo_wide mo_high w8 w9 w10 a_neighbours w13 w14 w15 w16 w17 v5 a0 q35).bind fun q40 =>
            if q40.1 = 0 then (
              lp_X7_isCaught_41 mo_wide mo_high a_neighbours a0 a1 a2 nF v5 v28 v29 q40.2.1 q40.2.2.1 q40.2.2.2 w11 w12 w13 w14 w15 w16 w17 (vp_updL w18 v5.toNatClampNeg x38) w19 w20 w21 w22 w30
            )
            else (
              (f_X7_counts w11 w12).bind fun q42 =>
              nm (q40.2.1) fun x43 =>
              if (v5 < 0 ∨ 21 ≤ v5.toNatClampNeg) then none else
              nm (q40.2.2.1) fun x45 =>
              if (v5 < 0 ∨ 21 ≤ v5.toNatClampNeg) then none else
              (f_X7_chaseBreaths mo_wide mo_high a_neighbours q40.2.1 q40.2.2.1 a0 a1).bind fun q47 =>
              (f_X7_many q47).bind fun q48 =>
              if q48 = (1 : Int32) then (
                (f_X7_findAnswers mo_wide mo_high a_neighbours (vp_updL w19 v5.toNatClampNeg x43) (vp_updL w20 v5.toNatClampNeg x45) w21 w22 w30 v5 a0 a1).bind fun q50 =>
                lp_X7_isCaught_41 mo_wide mo_high a_neighbours a0 a1 a2 nF v5 v28 (1 : Int32) q40.2.1 q40.2.2.1 q40.2.2.2 q42.1 q42.2 w13 w14 w15 w16 w17 (vp_updL w18 v5.toNatClampNeg x38) (vp_updL w19 v5.toNatClampNeg x43) (vp_updL w20 v5.toNatClampNeg x45) q50.1 q50.2.1 q50.2.2
              )
              else (
                lp_X7_isCaught_41 mo_wide mo_high a_neighbours a0 a1 a2 nF v5 v28 v29 q40.2.1 q40.2.2.1 q40.2.2.2 q42.1 q42.2 w13 w14 w15 w16 w17 (vp_updL w18 v5.toNatClampNeg x38) (vp_updL w19 v5.toNatClampNeg x43) (vp_updL w20 v5.toNatClampNeg x45) w21 w22 w30
              )
            )
          )
        )
        else (
          (f_X7_nextAnswer w21 w22 v5).bind fun q52 =>
          nm (q52.1) fun x53 =>
          if x53 = (-1 : Int32) then (
            nm (v5 + (-1)) fun x67 =>
            lp_X7_isCaught_41 mo_wide mo_high a_neighbours a0 a1 a2 nF x67 v28 (1 : Int32) w8 w9 w10 w11 w12 w13 w14 w15 w16 w17 w18 w19 w20 q52.2.1 q52.2.2 w30
          )
          else (
            (f_X7_mayAnswer mo_wide mo_high w8 w9 w10 a_neighbours w13 w14 w19 w20 v5 a0 x53).bind fun q55 =>
            if q55.1 = 0 then (
              lp_X7_isCaught_41 mo_wide mo_high a_neighbours a0 a1 a2 nF v5 v28 (1 : Int32) q55.2.1 q55.2.2.1 q55.2.2.2 w11 w12 w13 w14 w15 w16 w17 w18 w19 w20 q52.2.1 q52.2.2 w30
            )
            else (
              (f_X7_counts w11 w12).bind fun q57 =>
              if (v5 < 0 ∨ 21 ≤ v5.toNatClampNeg) then none else
              nm (w19 v5.toNatClampNeg) fun x59 =>
              if (v5 + (1 : Int32) < 0 ∨ 21 ≤ (v5 + (1 : Int32)).toNatClampNeg) then none else
              if (v5 < 0 ∨ 21 ≤ v5.toNatClampNeg) then none else
              nm (w20 v5.toNatClampNeg) fun x62 =>
              if (v5 + (1 : Int32) < 0 ∨ 21 ≤ (v5 + (1 : Int32)).toNatClampNeg) then none else
              if (v5 + (1 : Int32) < 0 ∨ 21 ≤ (v5 + (1 : Int32)).toNatClampNeg) then none else
              (f_X7_comes mo_wide mo_high a_neighbours w13 w14 w18 w30 (v5 + (1 : Int32)) q55.2.1 q55.2.2.1 a0 a1).bind fun q65 =>
              nm (v5 + 1) fun x66 =>
              lp_X7_isCaught_41 mo_wide mo_high a_neighbours a0 a1 a2 nF x66 (1 : Int32) v29 q55.2.1 q55.2.2.1 q55.2.2.2 q57.1 q57.2 q65.1 q65.2.1 (vp_updL w15 (v5 + (1 : Int32)).toNatClampNeg x59) (vp_updL w16 (v5 + (1 : Int32)).toNatClampNeg x62) (upd w17 (v5 + (1 : Int32)).toNatClampNeg (vp_nar .boolean (1 : Int32))) q65.2.2.1 w19 w20 q52.2.1 q52.2.2 q65.2.2.2
            )
          )
        )
        ) fun K31 =>
        if v6 = 0 then (
          if (v5 < 0 ∨ 21 ≤ v5.toNatClampNeg) then none else
          if w23 v5.toNatClampNeg = 0 then (
            K31 v6 v7 w23
          )
          else (
            if v7 = 0 then (
              if (v5 < 0 ∨ 21 ≤ v5.toNatClampNeg) then none else
              K31 v6 v7 (upd w23 v5.toNatClampNeg (vp_nar .boolean (0 : Int32)))
            )
            else (
              K31 v6 v7 w23
            )
          )
        )
        else (
          if (v5 < 0 ∨ 21 ≤ v5.toNatClampNeg) then none else
          (f_X7_many (w18 v5.toNatClampNeg)).bind fun q74 =>
          if q74 = (1 : Int32) then (
            nm (fun (w80 : Int64) (w81 : Int64) (w82 : Int32) (u83 : Int32) =>
            if u83 = 0 then (
              nm (v5 + (-1)) fun x86 =>
              lp_X7_isCaught_41 mo_wide mo_high a_neighbours a0 a1 a2 nF x86 (0 : Int32) u83 w80 w81 w82 w11 w12 w13 w14 w15 w16 w17 w18 w19 w20 w21 w22 w23
            )
            else (
              (f_X7_counts w11 w12).bind fun q87 =>
              nm (v5 + (-1)) fun x88 =>
              lp_X7_isCaught_41 mo_wide mo_high a_neighbours a0 a1 a2 nF x88 (0 : Int32) u83 w80 w81 w82 q87.1 q87.2 w13 w14 w15 w16 w17 w18 w19 w20 w21 w22 w23
            )
            ) fun K84 =>
            if a2 - v5 < (1 : Int32) then (
              K84 w8 w9 w10 (0 : Int32)
            )
            else (
              if (v5 < 0 ∨ 21 ≤ v5.toNatClampNeg) then none else
              (f_X7_least (w18 v5.toNatClampNeg) (0 : Int32)).bind fun q91 =>
              (f_X7_mayChase mo_wide mo_high w8 w9 w10 a_neighbours w13 w14 w15 w16 w17 v5 a0 q91).bind fun q92 =>
              if q92.1 = 0 then (
                K84 q92.2.1 q92.2.2.1 q92.2.2.2 (0 : Int32)
              )
              else (
                K84 q92.2.1 q92.2.2.1 q92.2.2.2 (1 : Int32)
              )
            )
          )
          else (
            if q74 = (2 : Int32) then (
              if (2 : Int32) ≤ a2 - v5 then (
                K31 (0 : Int32) (0 : Int32) w23
              )
              else (
                nm (v5 + (-1)) fun x79 =>
                lp_X7_isCaught_41 mo_wide mo_high a_neighbours a0 a1 a2 nF x79 (0 : Int32) (0 : Int32) w8 w9 w10 w11 w12 w13 w14 w15 w16 w17 w18 w19 w20 w21 w22 w23
              )
            )
            else (
              nm (v5 + (-1)) fun x77 =>
              lp_X7_isCaught_41 mo_wide mo_high a_neighbours a0 a1 a2 nF x77 (0 : Int32) (0 : Int32) w8 w9 w10 w11 w12 w13 w14 w15 w16 w17 w18 w19 w20 w21 w22 w23
            )
          )
        )
      )
      else (
        if ¬ (v7 = 0 ∨ v7 = 1) then none else
        some (v7, w8, w9, w10, w11, w12, w13, w14, w15, w16, w17, w18, w19, w20, w21, w22, w23)
      )
    )

def f_X7_isCaught (mo_wide : Int32) (mo_high : Int32) (mo_acts : Int32) (mo_newBlack : Int64) (mo_newWhite : Int64) (mo_taken : Int32) (mo_triesMany : Int32) (mo_isSpent : Int32) (a_neighbours : Nat → Int64) (a_blackAt : Nat → Int64) (a_whiteAt : Nat → Int64) (a_chaseBlack : Nat → Int64) (a_chaseWhite : Nat → Int64) (a_aheadBlack : Nat → Int64) (a_aheadWhite : Nat → Int64) (a_hasAhead : Nat → Int32) (a_breathsLeft : Nat → Int64) (a_laidBlack : Nat → Int64) (a_laidWhite : Nat → Int64) (a_answersLeft : Nat → Int64) (a_firstAnswer : Nat → Int32) (a_answering : Nat → Int32) (a0 : Int32) (a1 : Int32) (a2 : Int32) : Option (Int32 × Int64 × Int64 × Int32 × Int32 × Int32 × (Nat → Int64) × (Nat → Int64) × (Nat → Int64) × (Nat → Int64) × (Nat → Int32) × (Nat → Int64) × (Nat → Int64) × (Nat → Int64) × (Nat → Int64) × (Nat → Int32) × (Nat → Int32)) :=
  if ((0 : Int32) < 0 ∨ 21 ≤ (0 : Int32).toNatClampNeg) then none else
  if (mo_acts < 0 ∨ 130 ≤ mo_acts.toNatClampNeg) then none else
  if (mo_acts < 0 ∨ 130 ≤ mo_acts.toNatClampNeg) then none else
  (f_X7_comes mo_wide mo_high a_neighbours a_chaseBlack a_chaseWhite a_breathsLeft a_answering (0 : Int32) (a_blackAt mo_acts.toNatClampNeg) (a_whiteAt mo_acts.toNatClampNeg) a0 a1).bind fun q4 =>
  lp_X7_isCaught_41 mo_wide mo_high a_neighbours a0 a1 a2 FU (0 : Int32) (1 : Int32) (0 : Int32) mo_newBlack mo_newWhite mo_taken mo_triesMany mo_isSpent q4.1 q4.2.1 a_aheadBlack a_aheadWhite (upd a_hasAhead (0 : Int32).toNatClampNeg (vp_nar .boolean (0 : Int32))) q4.2.2.1 a_laidBlack a_laidWhite a_answersLeft a_firstAnswer q4.2.2.2

abbrev rm_X7_isCaught : Room := { frames := 5, cells := 0, slots := 0, locals := 133 }
set_option maxHeartbeats 4000000 in
set_option maxRecDepth 100000 in
theorem c_X7_isCaught (l : Launch) (dC : Nat → ClassId) (dI : Nat → Nat → Nat) (ad : Nat → Nat) (cA : Nat → ClassId) (mo_wide mo_high mo_law mo_acts : Int32) (mo_newBlack mo_newWhite : Int64) (mo_taken mo_triesMany mo_isSpent mo_found : Int32) (a_neighbours : Nat → Int64) (a_act : Nat → Int32) (a_blackAt a_whiteAt : Nat → Int64) (a_moveAt a_takenBlack a_takenWhite : Nat → Int32) (a_chaseBlack a_chaseWhite a_aheadBlack a_aheadWhite : Nat → Int64) (a_hasAhead : Nat → Int32) (a_breathsLeft a_laidBlack a_laidWhite a_answersLeft : Nat → Int64) (a_firstAnswer a_answering a_next : Nat → Int32) (sz : Nat) (a0 : Int32) (a1 : Int32) (a2 : Int32) (q : Int32 × Int64 × Int64 × Int32 × Int32 × Int32 × (Nat → Int64) × (Nat → Int64) × (Nat → Int64) × (Nat → Int64) × (Nat → Int32) × (Nat → Int64) × (Nat → Int64) × (Nat → Int64) × (Nat → Int64) × (Nat → Int32) × (Nat → Int32)) (hr : f_X7_isCaught mo_wide mo_high mo_acts mo_newBlack mo_newWhite mo_taken mo_triesMany mo_isSpent a_neighbours a_blackAt a_whiteAt a_chaseBlack a_chaseWhite a_aheadBlack a_aheadWhite a_hasAhead a_breathsLeft a_laidBlack a_laidWhite a_answersLeft a_firstAnswer a_answering a0 a1 a2 = some q) : Met l yX7_isCaught wsX7_isCaught rm_X7_isCaught (PrI (dC, dI) (wd_X7 ad cA mo_wide mo_high mo_law mo_acts mo_newBlack mo_newWhite mo_taken mo_triesMany mo_isSpent mo_found a_neighbours a_act a_blackAt a_whiteAt a_moveAt a_takenBlack a_takenWhite a_chaseBlack a_chaseWhite a_aheadBlack a_aheadWhite a_hasAhead a_breathsLeft a_laidBlack a_laidWhite a_answersLeft a_firstAnswer a_answering a_next) (td_X7 cA) sz [.ref (ad 0), .int a0, .int a1, .int a2]) (QIi (dC, dI) (wd_X7 ad cA mo_wide mo_high mo_law mo_acts mo_newBlack mo_newWhite mo_taken mo_triesMany mo_isSpent mo_found a_neighbours a_act a_blackAt a_whiteAt a_moveAt a_takenBlack a_takenWhite a_chaseBlack a_chaseWhite a_aheadBlack a_aheadWhite a_hasAhead a_breathsLeft a_laidBlack a_laidWhite a_answersLeft a_firstAnswer a_answering a_next) (td_X7 cA) sz q.1 (wd_X7 ad cA mo_wide mo_high mo_law mo_acts q.2.1 q.2.2.1 q.2.2.2.1 q.2.2.2.2.1 q.2.2.2.2.2.1 mo_found a_neighbours a_act a_blackAt a_whiteAt a_moveAt a_takenBlack a_takenWhite q.2.2.2.2.2.2.1 q.2.2.2.2.2.2.2.1 q.2.2.2.2.2.2.2.2.1 q.2.2.2.2.2.2.2.2.2.1 q.2.2.2.2.2.2.2.2.2.2.1 q.2.2.2.2.2.2.2.2.2.2.2.1 q.2.2.2.2.2.2.2.2.2.2.2.2.1 q.2.2.2.2.2.2.2.2.2.2.2.2.2.1 q.2.2.2.2.2.2.2.2.2.2.2.2.2.2.1 q.2.2.2.2.2.2.2.2.2.2.2.2.2.2.2.1 q.2.2.2.2.2.2.2.2.2.2.2.2.2.2.2.2 a_next)) 0 0 (va_A (wd_X7 ad cA mo_wide mo_high mo_law mo_acts mo_newBlack mo_newWhite mo_taken mo_triesMany mo_isSpent mo_found a_neighbours a_act a_blackAt a_whiteAt a_moveAt a_takenBlack a_takenWhite a_chaseBlack a_chaseWhite a_aheadBlack a_aheadWhite a_hasAhead a_breathsLeft a_laidBlack a_laidWhite a_answersLeft a_firstAnswer a_answering a_next) sz) := by
  refine mkI_z (cc := cX7_isCaught) (nL := 8) (by decide) rfl (Nat.le_of_ble_eq_true rfl) ?_
  intro p e R s m args below meth c H0 H locs A Q ls hRf hRl S hN hP hK hD hA hS hl kret
  have hl : lv_has ls 8 [(0, .ref (ad 0)), (1, .int a0), (2, .int a1), (3, .int a2)] := hl
  obtain ⟨hx, hb, hml, hown, hts⟩ := S
  have hown : s.vm.findClass RX7 = some m.cls := hown
  have S : CallFix p m c cX7_isCaught 8 s args wsX7_isCaught RX7 := ⟨hx, hb, hml, hown, hts⟩
  have huX7 : ∀ w ∈ u_ws RX7 TX7 29, w ∈ wsX7_isCaught := by decide +kernel
  have hf51 := hts (.fieldLink RX7 51 "EyeBoardModel" "hasAhead" "[Z") (by decide +kernel)
  have hf24 := hts (.fieldLink RX7 24 "EyeBoardModel" "blackAt" "[J") (by decide +kernel)
  have hf86 := hts (.fieldLink RX7 86 "EyeBoardModel" "acts" "I") (by decide +kernel)
  have hf27 := hts (.fieldLink RX7 27 "EyeBoardModel" "whiteAt" "[J") (by decide +kernel)
  have hf186 := hts (.fieldLink RX7 186 "EyeBoardModel" "isSpent" "Z") (by decide +kernel)
  have hf70 := hts (.fieldLink RX7 70 "EyeBoardModel" "answering" "[Z") (by decide +kernel)
  have hf55 := hts (.fieldLink RX7 55 "EyeBoardModel" "breathsLeft" "[J") (by decide +kernel)
  have hk105 := hts (.constantLong RX7 105 (-1 : Int64)) (by decide +kernel)
  have hf58 := hts (.fieldLink RX7 58 "EyeBoardModel" "laidBlack" "[J") (by decide +kernel)
  have hf122 := hts (.fieldLink RX7 122 "EyeBoardModel" "newBlack" "J") (by decide +kernel)
  have hf61 := hts (.fieldLink RX7 61 "EyeBoardModel" "laidWhite" "[J") (by decide +kernel)
  have hf126 := hts (.fieldLink RX7 126 "EyeBoardModel" "newWhite" "J") (by decide +kernel)
  have hf45 := hts (.fieldLink RX7 45 "EyeBoardModel" "aheadBlack" "[J") (by decide +kernel)
  have hf48 := hts (.fieldLink RX7 48 "EyeBoardModel" "aheadWhite" "[J") (by decide +kernel)
  unfold f_X7_isCaught at hr
  refine lv_iconst (v := (0 : Int32)) hx hb dX7_isCaught_0 (by decide) ?_
  refine lv_istore (lv' := [(4, .int (0 : Int32)), (0, .ref (ad 0)), (1, .int a0), (2, .int a1), (3, .int a2)]) hx hb dX7_isCaught_1 hl (by decide) rfl (fun ls hl => ?_)
  refine lv_aload_n hx hb dX7_isCaught_3 rfl (lv_at hl 1 rfl) ?_
  refine va_get (D := (dC, dI)) (ci := 7) (v := .ref (ad 12)) (C := RX7) (T := TX7) (N := 29) hx hb hts huX7 hown hK hP 0 rfl rfl 20 (by decide) hf51 (fun _ h9 => h9) rfl dX7_isCaught_4 ?_
  refine lv_iconst (v := (0 : Int32)) hx hb dX7_isCaught_7 (by decide) ?_
  refine lv_iconst (v := (0 : Int32)) hx hb dX7_isCaught_8 (by decide) ?_
  obtain ⟨hi1, hr⟩ := ite_g hr
  refine va_zast hx hb hK hP hD hS 12 11 rfl rfl hi1 dX7_isCaught_9 (fun H locs hP hD hS => ?_)
  have hP : va_P (dC, dI) vwCl (wd_X7 ad cA mo_wide mo_high mo_law mo_acts mo_newBlack mo_newWhite mo_taken mo_triesMany mo_isSpent mo_found a_neighbours a_act a_blackAt a_whiteAt a_moveAt a_takenBlack a_takenWhite a_chaseBlack a_chaseWhite a_aheadBlack a_aheadWhite (upd a_hasAhead (0 : Int32).toNatClampNeg (vp_nar .boolean (0 : Int32))) a_breathsLeft a_laidBlack a_laidWhite a_answersLeft a_firstAnswer a_answering a_next) H := hP
  have hD : va_D A (wd_X7 ad cA mo_wide mo_high mo_law mo_acts mo_newBlack mo_newWhite mo_taken mo_triesMany mo_isSpent mo_found a_neighbours a_act a_blackAt a_whiteAt a_moveAt a_takenBlack a_takenWhite a_chaseBlack a_chaseWhite a_aheadBlack a_aheadWhite (upd a_hasAhead (0 : Int32).toNatClampNeg (vp_nar .boolean (0 : Int32))) a_breathsLeft a_laidBlack a_laidWhite a_answersLeft a_firstAnswer a_answering a_next) := hD
  refine lv_aload_n hx hb dX7_isCaught_10 rfl (lv_at hl 1 rfl) ?_
  refine lv_iconst (v := (0 : Int32)) hx hb dX7_isCaught_11 (by decide) ?_
  refine lv_aload_n hx hb dX7_isCaught_12 rfl (lv_at hl 1 rfl) ?_
  refine va_get (D := (dC, dI)) (ci := 7) (v := .ref (ad 3)) (C := RX7) (T := TX7) (N := 29) hx hb hts huX7 hown hK hP 0 rfl rfl 6 (by decide) hf24 (fun _ h9 => h9) rfl dX7_isCaught_13 ?_
  refine lv_aload_n hx hb dX7_isCaught_16 rfl (lv_at hl 1 rfl) ?_
  refine va_get (D := (dC, dI)) (ci := 7) (v := .int mo_acts) (C := RX7) (T := TX7) (N := 29) hx hb hts huX7 hown hK hP 0 rfl rfl 4 (by decide) hf86 (fun _ h9 => h9) rfl dX7_isCaught_17 ?_
  obtain ⟨hi2, hr⟩ := ite_g hr
  refine va_lald hx hb hK hP 3 2 rfl rfl hi2 dX7_isCaught_20 ?_
  refine lv_aload_n hx hb dX7_isCaught_21 rfl (lv_at hl 1 rfl) ?_
  refine va_get (D := (dC, dI)) (ci := 7) (v := .ref (ad 4)) (C := RX7) (T := TX7) (N := 29) hx hb hts huX7 hown hK hP 0 rfl rfl 7 (by decide) hf27 (fun _ h9 => h9) rfl dX7_isCaught_22 ?_
  refine lv_aload_n hx hb dX7_isCaught_25 rfl (lv_at hl 1 rfl) ?_
  refine va_get (D := (dC, dI)) (ci := 7) (v := .int mo_acts) (C := RX7) (T := TX7) (N := 29) hx hb hts huX7 hown hK hP 0 rfl rfl 4 (by decide) hf86 (fun _ h9 => h9) rfl dX7_isCaught_26 ?_
  obtain ⟨hi3, hr⟩ := ite_g hr
  refine va_lald hx hb hK hP 4 3 rfl rfl hi3 dX7_isCaught_29 ?_
  refine lv_iload_n hx hb dX7_isCaught_30 rfl (lv_at hl 2 rfl) ?_
  refine lv_iload_n hx hb dX7_isCaught_31 rfl (lv_at hl 3 rfl) ?_
  obtain ⟨q4, hq4, hr⟩ := bd_use hr
  refine icV_v (As := [.int (0 : Int32), .long (a_blackAt mo_acts.toNatClampNeg), .long (a_whiteAt mo_acts.toNatClampNeg), .int a0, .int a1]) (rest := []) (ws2 := (wd_X7 ad cA mo_wide mo_high mo_law mo_acts mo_newBlack mo_newWhite mo_taken mo_triesMany mo_isSpent mo_found a_neighbours a_act a_blackAt a_whiteAt a_moveAt a_takenBlack a_takenWhite q4.1 q4.2.1 a_aheadBlack a_aheadWhite (upd a_hasAhead (0 : Int32).toNatClampNeg (vp_nar .boolean (0 : Int32))) q4.2.2.1 a_laidBlack a_laidWhite a_answersLeft a_firstAnswer q4.2.2.2 a_next)) S (c_X7_comes l dC dI ad cA mo_wide mo_high mo_law mo_acts mo_newBlack mo_newWhite mo_taken mo_triesMany mo_isSpent mo_found a_neighbours a_act a_blackAt a_whiteAt a_moveAt a_takenBlack a_takenWhite a_chaseBlack a_chaseWhite a_aheadBlack a_aheadWhite (upd a_hasAhead (0 : Int32).toNatClampNeg (vp_nar .boolean (0 : Int32))) a_breathsLeft a_laidBlack a_laidWhite a_answersLeft a_firstAnswer a_answering a_next H.size (0 : Int32) (a_blackAt mo_acts.toNatClampNeg) (a_whiteAt mo_acts.toNatClampNeg) a0 a1 q4 hq4) (cwV 5 hts gX7_isCaught_X7_comes rfl rfl rfl (by decide +kernel) ⟨Nat.le_trans (m := rm_X7_isCaught.frames) (by decide) hRf, Nat.le_trans (m := rm_X7_isCaught.locals) (by decide) hRl⟩) hN hP hK hD hS hA ⟨Nat.zero_le _, Nat.zero_le _⟩ [0, 1, 2, 3, 4, 5, 6, 7, 8, 9, 10, 11, 12, 13, 14, 15, 16, 17, 18, 19] [] [0, 1, 2, 3, 4, 5, 6, 7, 8, 9, 10, 11, 12, 13, 14, 15, 16, 17, 18, 19] rfl rfl rfl rfl rfl (by decide) rfl rfl rfl [0, 1, 2, 3, 4, 5, 6, 7, 8, 9, 10, 11, 12, 13, 14, 15, 16, 17, 18] rfl 0 7 rfl rfl rfl hl.1 rfl (Nat.le_of_ble_eq_true rfl) dX7_isCaught_32 (fun H locs hP hD hS => ?_)
  refine lv_iconst (v := (1 : Int32)) hx hb dX7_isCaught_35 (by decide) ?_
  refine lv_istore (lv' := [(5, .int (1 : Int32)), (4, .int (0 : Int32)), (0, .ref (ad 0)), (1, .int a0), (2, .int a1), (3, .int a2)]) hx hb dX7_isCaught_36 hl (by decide) rfl (fun ls hl => ?_)
  refine lv_iconst (v := (0 : Int32)) hx hb dX7_isCaught_38 (by decide) ?_
  refine lv_istore (lv' := [(6, .int (0 : Int32)), (5, .int (1 : Int32)), (4, .int (0 : Int32)), (0, .ref (ad 0)), (1, .int a0), (2, .int a1), (3, .int a2)]) hx hb dX7_isCaught_39 hl (by decide) rfl (fun ls hl => ?_)
  have llp_X7_isCaught_41 : ∀ (nF : Nat) (v5 : Int32) (v6 : Int32) (v7 : Int32) (w8 : Int64) (w9 : Int64) (w10 : Int32) (w11 : Int32) (w12 : Int32) (w13 : Nat → Int64) (w14 : Nat → Int64) (w15 : Nat → Int64) (w16 : Nat → Int64) (w17 : Nat → Int32) (w18 : Nat → Int64) (w19 : Nat → Int64) (w20 : Nat → Int64) (w21 : Nat → Int64) (w22 : Nat → Int32) (w23 : Nat → Int32) (H : Heap) (locs : List Loc), lp_X7_isCaught_41 mo_wide mo_high a_neighbours a0 a1 a2 nF v5 v6 v7 w8 w9 w10 w11 w12 w13 w14 w15 w16 w17 w18 w19 w20 w21 w22 w23 = some q → va_P (dC, dI) vwCl (wd_X7 ad cA mo_wide mo_high mo_law mo_acts w8 w9 w10 w11 w12 mo_found a_neighbours a_act a_blackAt a_whiteAt a_moveAt a_takenBlack a_takenWhite w13 w14 w15 w16 w17 w18 w19 w20 w21 w22 w23 a_next) H → va_D A (wd_X7 ad cA mo_wide mo_high mo_law mo_acts w8 w9 w10 w11 w12 mo_found a_neighbours a_act a_blackAt a_whiteAt a_moveAt a_takenBlack a_takenWhite w13 w14 w15 w16 w17 w18 w19 w20 w21 w22 w23 a_next) → va_S A H0 H locs → ∀ (ls : Array Slot), lv_has ls 8 [(0, .ref (ad 0)), (1, .int a0), (2, .int a1), (3, .int a2), (4, .int v5), (5, .int v6), (6, .int v7)] → W p l e R s m args below meth c H locs 0 0 Q (F0 m 41 ls []) := by
    intro nF
    induction nF with
    | zero => intro v5 v6 v7 w8 w9 w10 w11 w12 w13 w14 w15 w16 w17 w18 w19 w20 w21 w22 w23 H locs hr; exact absurd hr (by simp [lp_X7_isCaught_41])
    | succ nF ih =>
      intro v5 v6 v7 w8 w9 w10 w11 w12 w13 w14 w15 w16 w17 w18 w19 w20 w21 w22 w23 H locs hr hP hD hS ls hl
      rw [lp_X7_isCaught_41] at hr
      refine lv_iload hx hb dX7_isCaught_41 (lv_at hl 4 rfl) ?_
      refine lv_if_lt (tgt := 425) hx hb dX7_isCaught_43 (by decide) (fun c24 => ?_) (fun c24 => ?_)
      · have hr := ite_p hr c24
        refine lv_iload hx hb dX7_isCaught_425 (lv_at hl 6 rfl) ?_
        obtain ⟨hz25, hr⟩ := ite_g hr
        obtain rfl := Option.some.inj hr
        exact kret _ _ _ _ dX7_isCaught_427 hP hD hS (nar_z hz25)
      · have hr := ite_n hr c24
        refine lv_aload_n hx hb dX7_isCaught_46 rfl (lv_at hl 0 rfl) ?_
        refine va_get (D := (dC, dI)) (ci := 7) (v := .int w12) (C := RX7) (T := TX7) (N := 29) hx hb hts huX7 hown hK hP 0 rfl rfl 15 (by decide) hf186 (fun _ h9 => h9) rfl dX7_isCaught_47 ?_
        refine lv_if_ne (tgt := 425) hx hb dX7_isCaught_50 (by decide) (fun c26 => ?_) (fun c26 => ?_)
        · have hr := ite_n hr c26
          refine lv_iload hx hb dX7_isCaught_425 (lv_at hl 6 rfl) ?_
          obtain ⟨hz27, hr⟩ := ite_g hr
          obtain rfl := Option.some.inj hr
          exact kret _ _ _ _ dX7_isCaught_427 hP hD hS (nar_z hz27)
        · have hr := ite_p hr c26
          refine lv_iload hx hb dX7_isCaught_53 (lv_at hl 5 rfl) ?_
          obtain ⟨K31, eK31, hr⟩ := nm_ex hr
          have kK31 : ∀ (v28 : Int32) (v29 : Int32) (w30 : Nat → Int32) (H : Heap) (locs : List Loc) , K31 v28 v29 w30 = some q → va_P (dC, dI) vwCl (wd_X7 ad cA mo_wide mo_high mo_law mo_acts w8 w9 w10 w11 w12 mo_found a_neighbours a_act a_blackAt a_whiteAt a_moveAt a_takenBlack a_takenWhite w13 w14 w15 w16 w17 w18 w19 w20 w21 w22 w30 a_next) H → va_D A (wd_X7 ad cA mo_wide mo_high mo_law mo_acts w8 w9 w10 w11 w12 mo_found a_neighbours a_act a_blackAt a_whiteAt a_moveAt a_takenBlack a_takenWhite w13 w14 w15 w16 w17 w18 w19 w20 w21 w22 w30 a_next) → va_S A H0 H locs → ∀ (ls : Array Slot), lv_has ls 8 [(0, .ref (ad 0)), (1, .int a0), (2, .int a1), (3, .int a2), (4, .int v5), (5, .int v28), (6, .int v29)] → W p l e R s m args below meth c H locs 0 0 Q (F0 m 182 ls []) := by
            intro v28 v29 w30 H locs hr hP hD hS ls hl
            rw [eK31] at hr
            refine lv_aload_n hx hb dX7_isCaught_182 rfl (lv_at hl 0 rfl) ?_
            refine va_get (D := (dC, dI)) (ci := 7) (v := .ref (ad 18)) (C := RX7) (T := TX7) (N := 29) hx hb hts huX7 hown hK hP 0 rfl rfl 26 (by decide) hf70 (fun _ h9 => h9) rfl dX7_isCaught_183 ?_
            refine lv_iload hx hb dX7_isCaught_186 (lv_at hl 4 rfl) ?_
            obtain ⟨hi32, hr⟩ := ite_g hr
            refine va_zald hx hb hK hP 18 17 rfl rfl hi32 dX7_isCaught_188 ?_
            refine lv_if_eq (tgt := 306) hx hb dX7_isCaught_189 (by decide) (fun c33 => ?_) (fun c33 => ?_)
            · have hr := ite_p hr c33
              refine lv_aload_n hx hb dX7_isCaught_306 rfl (lv_at hl 0 rfl) ?_
              refine va_get (D := (dC, dI)) (ci := 7) (v := .ref (ad 13)) (C := RX7) (T := TX7) (N := 29) hx hb hts huX7 hown hK hP 0 rfl rfl 21 (by decide) hf55 (fun _ h9 => h9) rfl dX7_isCaught_307 ?_
              refine lv_iload hx hb dX7_isCaught_310 (lv_at hl 4 rfl) ?_
              obtain ⟨hi34, hr⟩ := ite_g hr
              refine va_lald hx hb hK hP 13 12 rfl rfl hi34 dX7_isCaught_312 ?_
              refine lv_iconst (v := (0 : Int32)) hx hb dX7_isCaught_313 (by decide) ?_
              obtain ⟨q35, hq35, hr⟩ := bd_use hr
              refine pcS_i (As := [.long (w18 v5.toNatClampNeg), .int (0 : Int32)]) (rest := []) S (c_X7_least l dC dI (w18 v5.toNatClampNeg) (0 : Int32) q35 hq35) (va_cwS 2 hts gX7_isCaught_X7_least rfl rfl rfl (by decide +kernel) ⟨Nat.le_trans (m := rm_X7_isCaught.frames) (by decide) hRf, Nat.le_trans (m := rm_X7_isCaught.locals) (by decide) hRl⟩) hN hP hK ⟨Nat.zero_le _, Nat.zero_le _⟩ rfl hl.1 rfl (Nat.le_of_ble_eq_true rfl) dX7_isCaught_314 ?_
              refine lv_istore (lv' := [(7, .int q35), (0, .ref (ad 0)), (1, .int a0), (2, .int a1), (3, .int a2), (4, .int v5), (5, .int v28), (6, .int v29)]) hx hb dX7_isCaught_317 hl (by decide) rfl (fun ls hl => ?_)
              refine lv_iload hx hb dX7_isCaught_319 (lv_at hl 0 rfl) ?_
              refine lv_iconst (v := (-1 : Int32)) hx hb dX7_isCaught_321 (by decide) ?_
              refine lv_icmp_ne (tgt := 334) hx hb dX7_isCaught_322 (by decide) (fun c36 => ?_) (fun c36 => ?_)
              · have hr := ite_n hr c36
                refine lv_aload_n hx hb dX7_isCaught_334 rfl (lv_at hl 1 rfl) ?_
                refine va_get (D := (dC, dI)) (ci := 7) (v := .ref (ad 13)) (C := RX7) (T := TX7) (N := 29) hx hb hts huX7 hown hK hP 0 rfl rfl 21 (by decide) hf55 (fun _ h9 => h9) rfl dX7_isCaught_335 ?_
                refine lv_iload hx hb dX7_isCaught_338 (lv_at hl 5 rfl) ?_
                refine lv_dup2_11 hx hb dX7_isCaught_340 rfl rfl ?_
                obtain ⟨hi37, hr⟩ := ite_g hr
                refine va_lald hx hb hK hP 13 12 rfl rfl hi37 dX7_isCaught_341 ?_
                refine lv_lconst (v := (1 : Int64)) hx hb dX7_isCaught_342 (by decide) ?_
                refine lv_iload hx hb dX7_isCaught_343 (lv_at hl 0 rfl) ?_
                refine lv_lshl (v := jshl (1 : Int64) q35) hx hb dX7_isCaught_345 rfl ?_
                refine W.ldc2 (v := (-1 : Int64)) hx hb hown hk105 rfl dX7_isCaught_346 ?_
                refine W.eq (g2 := F0 m 349 ls [.long (-1 : Int64), .long (jshl (1 : Int64) q35), .long (w18 v5.toNatClampNeg), .int v5, .ref (ad 13)]) rfl ?_
                refine lv_lxor hx hb dX7_isCaught_349 ?_
                refine lv_land hx hb dX7_isCaught_350 ?_
                refine lv_topl (fun x38 ex38 => ?_)
                have hr := nm_use hr ex38
                obtain ⟨hi39, hr⟩ := ite_g hr
                refine va_last hx hb hK hP hD hS 13 12 rfl rfl hi39 dX7_isCaught_351 (fun H locs hP hD hS => ?_)
                have hP : va_P (dC, dI) vwCl (wd_X7 ad cA mo_wide mo_high mo_law mo_acts w8 w9 w10 w11 w12 mo_found a_neighbours a_act a_blackAt a_whiteAt a_moveAt a_takenBlack a_takenWhite w13 w14 w15 w16 w17 (vp_updL w18 v5.toNatClampNeg x38) w19 w20 w21 w22 w30 a_next) H := hP
                have hD : va_D A (wd_X7 ad cA mo_wide mo_high mo_law mo_acts w8 w9 w10 w11 w12 mo_found a_neighbours a_act a_blackAt a_whiteAt a_moveAt a_takenBlack a_takenWhite w13 w14 w15 w16 w17 (vp_updL w18 v5.toNatClampNeg x38) w19 w20 w21 w22 w30 a_next) := hD
                refine lv_aload_n hx hb dX7_isCaught_352 rfl (lv_at hl 1 rfl) ?_
                refine lv_iload hx hb dX7_isCaught_353 (lv_at hl 5 rfl) ?_
                refine lv_iload_n hx hb dX7_isCaught_355 rfl (lv_at hl 2 rfl) ?_
                refine lv_iload hx hb dX7_isCaught_356 (lv_at hl 0 rfl) ?_
                obtain ⟨q40, hq40, hr⟩ := bd_use hr
                refine icV_i (As := [.int v5, .int a0, .int q35]) (rest := []) (ws2 := (wd_X7 ad cA mo_wide mo_high mo_law mo_acts q40.2.1 q40.2.2.1 q40.2.2.2 w11 w12 mo_found a_neighbours a_act a_blackAt a_whiteAt a_moveAt a_takenBlack a_takenWhite w13 w14 w15 w16 w17 (vp_updL w18 v5.toNatClampNeg x38) w19 w20 w21 w22 w30 a_next)) S (c_X7_mayChase l dC dI ad cA mo_wide mo_high mo_law mo_acts w8 w9 w10 w11 w12 mo_found a_neighbours a_act a_blackAt a_whiteAt a_moveAt a_takenBlack a_takenWhite w13 w14 w15 w16 w17 (vp_updL w18 v5.toNatClampNeg x38) w19 w20 w21 w22 w30 a_next H.size v5 a0 q35 q40 hq40) (cwV 3 hts gX7_isCaught_X7_mayChase rfl rfl rfl (by decide +kernel) ⟨Nat.le_trans (m := rm_X7_isCaught.frames) (by decide) hRf, Nat.le_trans (m := rm_X7_isCaught.locals) (by decide) hRl⟩) hN hP hK hD hS hA ⟨Nat.zero_le _, Nat.zero_le _⟩ [0, 1, 2, 3, 4, 5, 6, 7, 8, 9, 10, 11, 12, 13, 14, 15, 16, 17, 18, 19] [] [0, 1, 2, 3, 4, 5, 6, 7, 8, 9, 10, 11, 12, 13, 14, 15, 16, 17, 18, 19] rfl rfl rfl rfl rfl (by decide) rfl rfl rfl [0, 1, 2, 3, 4, 5, 6, 7, 8, 9, 10, 11, 12, 13, 14, 15, 16, 17, 18] rfl 0 7 rfl rfl rfl hl.1 rfl (Nat.le_of_ble_eq_true rfl) dX7_isCaught_358 (fun H locs hP hD hS => ?_)
                refine lv_if_eq (tgt := 422) hx hb dX7_isCaught_361 (by decide) (fun c41 => ?_) (fun c41 => ?_)
                · have hr := ite_p hr c41
                  refine lv_goto (tgt := 41) hx hb dX7_isCaught_422 (by decide) ?_
                  exact ih v5 v28 v29 q40.2.1 q40.2.2.1 q40.2.2.2 w11 w12 w13 w14 w15 w16 w17 (vp_updL w18 v5.toNatClampNeg x38) w19 w20 w21 w22 w30 _ _ hr hP hD hS ls (lv_sub hl [1, 2, 3, 4, 5, 6, 7] rfl)
                · have hr := ite_n hr c41
                  refine lv_aload_n hx hb dX7_isCaught_364 rfl (lv_at hl 1 rfl) ?_
                  obtain ⟨q42, hq42, hr⟩ := bd_use hr
                  refine icV_v (As := []) (rest := []) (ws2 := (wd_X7 ad cA mo_wide mo_high mo_law mo_acts q40.2.1 q40.2.2.1 q40.2.2.2 q42.1 q42.2 mo_found a_neighbours a_act a_blackAt a_whiteAt a_moveAt a_takenBlack a_takenWhite w13 w14 w15 w16 w17 (vp_updL w18 v5.toNatClampNeg x38) w19 w20 w21 w22 w30 a_next)) S (c_X7_counts l dC dI ad cA mo_wide mo_high mo_law mo_acts q40.2.1 q40.2.2.1 q40.2.2.2 w11 w12 mo_found a_neighbours a_act a_blackAt a_whiteAt a_moveAt a_takenBlack a_takenWhite w13 w14 w15 w16 w17 (vp_updL w18 v5.toNatClampNeg x38) w19 w20 w21 w22 w30 a_next H.size q42 hq42) (cwV 0 hts gX7_isCaught_X7_counts rfl rfl rfl (by decide +kernel) ⟨Nat.le_trans (m := rm_X7_isCaught.frames) (by decide) hRf, Nat.le_trans (m := rm_X7_isCaught.locals) (by decide) hRl⟩) hN hP hK hD hS hA ⟨Nat.zero_le _, Nat.zero_le _⟩ [0, 1, 2, 3, 4, 5, 6, 7, 8, 9, 10, 11, 12, 13, 14, 15, 16, 17, 18, 19] [] [0, 1, 2, 3, 4, 5, 6, 7, 8, 9, 10, 11, 12, 13, 14, 15, 16, 17, 18, 19] rfl rfl rfl rfl rfl (by decide) rfl rfl rfl [0, 1, 2, 3, 4, 5, 6, 7, 8, 9, 10, 11, 12, 13, 14, 15, 16, 17, 18] rfl 0 7 rfl rfl rfl hl.1 rfl (Nat.le_of_ble_eq_true rfl) dX7_isCaught_365 (fun H locs hP hD hS => ?_)
                  refine lv_aload_n hx hb dX7_isCaught_368 rfl (lv_at hl 1 rfl) ?_
                  refine va_get (D := (dC, dI)) (ci := 7) (v := .ref (ad 14)) (C := RX7) (T := TX7) (N := 29) hx hb hts huX7 hown hK hP 0 rfl rfl 22 (by decide) hf58 (fun _ h9 => h9) rfl dX7_isCaught_369 ?_
                  refine lv_iload hx hb dX7_isCaught_372 (lv_at hl 5 rfl) ?_
                  refine lv_aload_n hx hb dX7_isCaught_374 rfl (lv_at hl 1 rfl) ?_
                  refine va_get (D := (dC, dI)) (ci := 7) (v := .long q40.2.1) (C := RX7) (T := TX7) (N := 29) hx hb hts huX7 hown hK hP 0 rfl rfl 11 (by decide) hf122 (fun _ h9 => h9) rfl dX7_isCaught_375 ?_
                  refine lv_topl (fun x43 ex43 => ?_)
                  have hr := nm_use hr ex43
                  obtain ⟨hi44, hr⟩ := ite_g hr
                  refine va_last hx hb hK hP hD hS 14 13 rfl rfl hi44 dX7_isCaught_378 (fun H locs hP hD hS => ?_)
                  have hP : va_P (dC, dI) vwCl (wd_X7 ad cA mo_wide mo_high mo_law mo_acts q40.2.1 q40.2.2.1 q40.2.2.2 q42.1 q42.2 mo_found a_neighbours a_act a_blackAt a_whiteAt a_moveAt a_takenBlack a_takenWhite w13 w14 w15 w16 w17 (vp_updL w18 v5.toNatClampNeg x38) (vp_updL w19 v5.toNatClampNeg x43) w20 w21 w22 w30 a_next) H := hP
                  have hD : va_D A (wd_X7 ad cA mo_wide mo_high mo_law mo_acts q40.2.1 q40.2.2.1 q40.2.2.2 q42.1 q42.2 mo_found a_neighbours a_act a_blackAt a_whiteAt a_moveAt a_takenBlack a_takenWhite w13 w14 w15 w16 w17 (vp_updL w18 v5.toNatClampNeg x38) (vp_updL w19 v5.toNatClampNeg x43) w20 w21 w22 w30 a_next) := hD
                  refine lv_aload_n hx hb dX7_isCaught_379 rfl (lv_at hl 1 rfl) ?_
                  refine va_get (D := (dC, dI)) (ci := 7) (v := .ref (ad 15)) (C := RX7) (T := TX7) (N := 29) hx hb hts huX7 hown hK hP 0 rfl rfl 23 (by decide) hf61 (fun _ h9 => h9) rfl dX7_isCaught_380 ?_
                  refine lv_iload hx hb dX7_isCaught_383 (lv_at hl 5 rfl) ?_
                  refine lv_aload_n hx hb dX7_isCaught_385 rfl (lv_at hl 1 rfl) ?_
                  refine va_get (D := (dC, dI)) (ci := 7) (v := .long q40.2.2.1) (C := RX7) (T := TX7) (N := 29) hx hb hts huX7 hown hK hP 0 rfl rfl 12 (by decide) hf126 (fun _ h9 => h9) rfl dX7_isCaught_386 ?_
                  refine lv_topl (fun x45 ex45 => ?_)
                  have hr := nm_use hr ex45
                  obtain ⟨hi46, hr⟩ := ite_g hr
                  refine va_last hx hb hK hP hD hS 15 14 rfl rfl hi46 dX7_isCaught_389 (fun H locs hP hD hS => ?_)
                  have hP : va_P (dC, dI) vwCl (wd_X7 ad cA mo_wide mo_high mo_law mo_acts q40.2.1 q40.2.2.1 q40.2.2.2 q42.1 q42.2 mo_found a_neighbours a_act a_blackAt a_whiteAt a_moveAt a_takenBlack a_takenWhite w13 w14 w15 w16 w17 (vp_updL w18 v5.toNatClampNeg x38) (vp_updL w19 v5.toNatClampNeg x43) (vp_updL w20 v5.toNatClampNeg x45) w21 w22 w30 a_next) H := hP
                  have hD : va_D A (wd_X7 ad cA mo_wide mo_high mo_law mo_acts q40.2.1 q40.2.2.1 q40.2.2.2 q42.1 q42.2 mo_found a_neighbours a_act a_blackAt a_whiteAt a_moveAt a_takenBlack a_takenWhite w13 w14 w15 w16 w17 (vp_updL w18 v5.toNatClampNeg x38) (vp_updL w19 v5.toNatClampNeg x43) (vp_updL w20 v5.toNatClampNeg x45) w21 w22 w30 a_next) := hD
                  refine lv_aload_n hx hb dX7_isCaught_390 rfl (lv_at hl 1 rfl) ?_
                  refine lv_aload_n hx hb dX7_isCaught_391 rfl (lv_at hl 1 rfl) ?_
                  refine va_get (D := (dC, dI)) (ci := 7) (v := .long q40.2.1) (C := RX7) (T := TX7) (N := 29) hx hb hts huX7 hown hK hP 0 rfl rfl 11 (by decide) hf122 (fun _ h9 => h9) rfl dX7_isCaught_392 ?_
                  refine lv_aload_n hx hb dX7_isCaught_395 rfl (lv_at hl 1 rfl) ?_
                  refine va_get (D := (dC, dI)) (ci := 7) (v := .long q40.2.2.1) (C := RX7) (T := TX7) (N := 29) hx hb hts huX7 hown hK hP 0 rfl rfl 12 (by decide) hf126 (fun _ h9 => h9) rfl dX7_isCaught_396 ?_
                  refine lv_iload_n hx hb dX7_isCaught_399 rfl (lv_at hl 2 rfl) ?_
                  refine lv_iload_n hx hb dX7_isCaught_400 rfl (lv_at hl 3 rfl) ?_
                  obtain ⟨q47, hq47, hr⟩ := bd_use hr
                  refine pcV_l (As := [.long q40.2.1, .long q40.2.2.1, .int a0, .int a1]) (rest := []) S (c_X7_chaseBreaths l dC dI ad cA mo_wide mo_high mo_law mo_acts q40.2.1 q40.2.2.1 q40.2.2.2 q42.1 q42.2 mo_found a_neighbours a_act a_blackAt a_whiteAt a_moveAt a_takenBlack a_takenWhite w13 w14 w15 w16 w17 (vp_updL w18 v5.toNatClampNeg x38) (vp_updL w19 v5.toNatClampNeg x43) (vp_updL w20 v5.toNatClampNeg x45) w21 w22 w30 a_next q40.2.1 q40.2.2.1 a0 a1 q47 hq47) (cwV 4 hts gX7_isCaught_X7_chaseBreaths rfl rfl rfl (by decide +kernel) ⟨Nat.le_trans (m := rm_X7_isCaught.frames) (by decide) hRf, Nat.le_trans (m := rm_X7_isCaught.locals) (by decide) hRl⟩) hN hP hK ⟨Nat.zero_le _, Nat.zero_le _⟩ [0, 1, 2, 3, 4, 5, 6, 7, 8, 9, 10, 11, 12, 13, 14, 15, 16, 17, 18, 19] rfl [0, 1, 2, 3, 4, 5, 6, 7, 8, 9, 10, 11, 12, 13, 14, 15, 16, 17, 18] rfl 0 7 rfl rfl rfl hl.1 rfl (Nat.le_of_ble_eq_true rfl) dX7_isCaught_401 ?_
                  obtain ⟨q48, hq48, hr⟩ := bd_use hr
                  refine pcS_i (As := [.long q47]) (rest := []) S (c_X7_many l dC dI q47 q48 hq48) (va_cwS 1 hts gX7_isCaught_X7_many rfl rfl rfl (by decide +kernel) ⟨Nat.le_trans (m := rm_X7_isCaught.frames) (by decide) hRf, Nat.le_trans (m := rm_X7_isCaught.locals) (by decide) hRl⟩) hN hP hK ⟨Nat.zero_le _, Nat.zero_le _⟩ rfl hl.1 rfl (Nat.le_of_ble_eq_true rfl) dX7_isCaught_404 ?_
                  refine lv_iconst (v := (1 : Int32)) hx hb dX7_isCaught_407 (by decide) ?_
                  refine lv_icmp_ne (tgt := 422) hx hb dX7_isCaught_408 (by decide) (fun c49 => ?_) (fun c49 => ?_)
                  · have hr := ite_n hr c49
                    refine lv_goto (tgt := 41) hx hb dX7_isCaught_422 (by decide) ?_
                    exact ih v5 v28 v29 q40.2.1 q40.2.2.1 q40.2.2.2 q42.1 q42.2 w13 w14 w15 w16 w17 (vp_updL w18 v5.toNatClampNeg x38) (vp_updL w19 v5.toNatClampNeg x43) (vp_updL w20 v5.toNatClampNeg x45) w21 w22 w30 _ _ hr hP hD hS ls (lv_sub hl [1, 2, 3, 4, 5, 6, 7] rfl)
                  · have hr := ite_p hr c49
                    refine lv_aload_n hx hb dX7_isCaught_411 rfl (lv_at hl 1 rfl) ?_
                    refine lv_iload hx hb dX7_isCaught_412 (lv_at hl 5 rfl) ?_
                    refine lv_iload_n hx hb dX7_isCaught_414 rfl (lv_at hl 2 rfl) ?_
                    refine lv_iload_n hx hb dX7_isCaught_415 rfl (lv_at hl 3 rfl) ?_
                    obtain ⟨q50, hq50, hr⟩ := bd_use hr
                    refine icV_v (As := [.int v5, .int a0, .int a1]) (rest := []) (ws2 := (wd_X7 ad cA mo_wide mo_high mo_law mo_acts q40.2.1 q40.2.2.1 q40.2.2.2 q42.1 q42.2 mo_found a_neighbours a_act a_blackAt a_whiteAt a_moveAt a_takenBlack a_takenWhite w13 w14 w15 w16 w17 (vp_updL w18 v5.toNatClampNeg x38) (vp_updL w19 v5.toNatClampNeg x43) (vp_updL w20 v5.toNatClampNeg x45) q50.1 q50.2.1 q50.2.2 a_next)) S (c_X7_findAnswers l dC dI ad cA mo_wide mo_high mo_law mo_acts q40.2.1 q40.2.2.1 q40.2.2.2 q42.1 q42.2 mo_found a_neighbours a_act a_blackAt a_whiteAt a_moveAt a_takenBlack a_takenWhite w13 w14 w15 w16 w17 (vp_updL w18 v5.toNatClampNeg x38) (vp_updL w19 v5.toNatClampNeg x43) (vp_updL w20 v5.toNatClampNeg x45) w21 w22 w30 a_next H.size v5 a0 a1 q50 hq50) (cwV 3 hts gX7_isCaught_X7_findAnswers rfl rfl rfl (by decide +kernel) ⟨Nat.le_trans (m := rm_X7_isCaught.frames) (by decide) hRf, Nat.le_trans (m := rm_X7_isCaught.locals) (by decide) hRl⟩) hN hP hK hD hS hA ⟨Nat.zero_le _, Nat.zero_le _⟩ [0, 1, 2, 3, 4, 5, 6, 7, 8, 9, 10, 11, 12, 13, 14, 15, 16, 17, 18, 19] [] [0, 1, 2, 3, 4, 5, 6, 7, 8, 9, 10, 11, 12, 13, 14, 15, 16, 17, 18, 19] rfl rfl rfl rfl rfl (by decide) rfl rfl rfl [0, 1, 2, 3, 4, 5, 6, 7, 8, 9, 10, 11, 12, 13, 14, 15, 16, 17, 18] rfl 0 7 rfl rfl rfl hl.1 rfl (Nat.le_of_ble_eq_true rfl) dX7_isCaught_416 (fun H locs hP hD hS => ?_)
                    refine lv_iconst (v := (1 : Int32)) hx hb dX7_isCaught_419 (by decide) ?_
                    refine lv_istore (lv' := [(6, .int (1 : Int32)), (7, .int q35), (0, .ref (ad 0)), (1, .int a0), (2, .int a1), (3, .int a2), (4, .int v5), (5, .int v28)]) hx hb dX7_isCaught_420 hl (by decide) rfl (fun ls hl => ?_)
                    refine lv_goto (tgt := 41) hx hb dX7_isCaught_422 (by decide) ?_
                    exact ih v5 v28 (1 : Int32) q40.2.1 q40.2.2.1 q40.2.2.2 q42.1 q42.2 w13 w14 w15 w16 w17 (vp_updL w18 v5.toNatClampNeg x38) (vp_updL w19 v5.toNatClampNeg x43) (vp_updL w20 v5.toNatClampNeg x45) q50.1 q50.2.1 q50.2.2 _ _ hr hP hD hS ls (lv_sub hl [2, 3, 4, 5, 6, 7, 0] rfl)
              · have hr := ite_p hr c36
                refine lv_iconst (v := (0 : Int32)) hx hb dX7_isCaught_325 (by decide) ?_
                refine lv_istore (lv' := [(6, .int (0 : Int32)), (7, .int q35), (0, .ref (ad 0)), (1, .int a0), (2, .int a1), (3, .int a2), (4, .int v5), (5, .int v28)]) hx hb dX7_isCaught_326 hl (by decide) rfl (fun ls hl => ?_)
                obtain ⟨x51, ex51, hr⟩ := nm_ex hr
                refine lv_iinc (v := x51) (lv' := [(4, .int x51), (6, .int (0 : Int32)), (7, .int q35), (0, .ref (ad 0)), (1, .int a0), (2, .int a1), (3, .int a2), (5, .int v28)]) hx hb dX7_isCaught_328 hl (k := 6) rfl (by rw [ex51]; rfl) (by decide) rfl (fun ls hl => ?_)
                refine lv_goto (tgt := 422) hx hb dX7_isCaught_331 (by decide) ?_
                refine lv_goto (tgt := 41) hx hb dX7_isCaught_422 (by decide) ?_
                exact ih x51 v28 (0 : Int32) w8 w9 w10 w11 w12 w13 w14 w15 w16 w17 w18 w19 w20 w21 w22 w30 _ _ hr hP hD hS ls (lv_sub hl [3, 4, 5, 6, 0, 7, 1] rfl)
            · have hr := ite_n hr c33
              refine lv_aload_n hx hb dX7_isCaught_192 rfl (lv_at hl 0 rfl) ?_
              refine lv_iload hx hb dX7_isCaught_193 (lv_at hl 4 rfl) ?_
              obtain ⟨q52, hq52, hr⟩ := bd_use hr
              refine icV_i (As := [.int v5]) (rest := []) (ws2 := (wd_X7 ad cA mo_wide mo_high mo_law mo_acts w8 w9 w10 w11 w12 mo_found a_neighbours a_act a_blackAt a_whiteAt a_moveAt a_takenBlack a_takenWhite w13 w14 w15 w16 w17 w18 w19 w20 q52.2.1 q52.2.2 w30 a_next)) S (c_X7_nextAnswer l dC dI ad cA mo_wide mo_high mo_law mo_acts w8 w9 w10 w11 w12 mo_found a_neighbours a_act a_blackAt a_whiteAt a_moveAt a_takenBlack a_takenWhite w13 w14 w15 w16 w17 w18 w19 w20 w21 w22 w30 a_next H.size v5 q52 hq52) (cwV 1 hts gX7_isCaught_X7_nextAnswer rfl rfl rfl (by decide +kernel) ⟨Nat.le_trans (m := rm_X7_isCaught.frames) (by decide) hRf, Nat.le_trans (m := rm_X7_isCaught.locals) (by decide) hRl⟩) hN hP hK hD hS hA ⟨Nat.zero_le _, Nat.zero_le _⟩ [0, 1, 2, 3, 4, 5, 6, 7, 8, 9, 10, 11, 12, 13, 14, 15, 16, 17, 18, 19] [] [0, 1, 2, 3, 4, 5, 6, 7, 8, 9, 10, 11, 12, 13, 14, 15, 16, 17, 18, 19] rfl rfl rfl rfl rfl (by decide) rfl rfl rfl [0, 1, 2, 3, 4, 5, 6, 7, 8, 9, 10, 11, 12, 13, 14, 15, 16, 17, 18] rfl 0 7 rfl rfl rfl hl.1 rfl (Nat.le_of_ble_eq_true rfl) dX7_isCaught_195 (fun H locs hP hD hS => ?_)
              refine lv_topi (fun x53 ex53 => ?_)
              have hr := nm_use hr ex53
              refine lv_istore (lv' := [(7, .int x53), (0, .ref (ad 0)), (1, .int a0), (2, .int a1), (3, .int a2), (4, .int v5), (5, .int v28), (6, .int v29)]) hx hb dX7_isCaught_198 hl (by decide) rfl (fun ls hl => ?_)
              refine lv_iload hx hb dX7_isCaught_200 (lv_at hl 0 rfl) ?_
              refine lv_iconst (v := (-1 : Int32)) hx hb dX7_isCaught_202 (by decide) ?_
              refine lv_icmp_ne (tgt := 215) hx hb dX7_isCaught_203 (by decide) (fun c54 => ?_) (fun c54 => ?_)
              · have hr := ite_n hr c54
                refine lv_aload_n hx hb dX7_isCaught_215 rfl (lv_at hl 1 rfl) ?_
                refine lv_iload hx hb dX7_isCaught_216 (lv_at hl 5 rfl) ?_
                refine lv_iload_n hx hb dX7_isCaught_218 rfl (lv_at hl 2 rfl) ?_
                refine lv_iload hx hb dX7_isCaught_219 (lv_at hl 0 rfl) ?_
                obtain ⟨q55, hq55, hr⟩ := bd_use hr
                refine icV_i (As := [.int v5, .int a0, .int x53]) (rest := []) (ws2 := (wd_X7 ad cA mo_wide mo_high mo_law mo_acts q55.2.1 q55.2.2.1 q55.2.2.2 w11 w12 mo_found a_neighbours a_act a_blackAt a_whiteAt a_moveAt a_takenBlack a_takenWhite w13 w14 w15 w16 w17 w18 w19 w20 q52.2.1 q52.2.2 w30 a_next)) S (c_X7_mayAnswer l dC dI ad cA mo_wide mo_high mo_law mo_acts w8 w9 w10 w11 w12 mo_found a_neighbours a_act a_blackAt a_whiteAt a_moveAt a_takenBlack a_takenWhite w13 w14 w15 w16 w17 w18 w19 w20 q52.2.1 q52.2.2 w30 a_next H.size v5 a0 x53 q55 hq55) (cwV 3 hts gX7_isCaught_X7_mayAnswer rfl rfl rfl (by decide +kernel) ⟨Nat.le_trans (m := rm_X7_isCaught.frames) (by decide) hRf, Nat.le_trans (m := rm_X7_isCaught.locals) (by decide) hRl⟩) hN hP hK hD hS hA ⟨Nat.zero_le _, Nat.zero_le _⟩ [0, 1, 2, 3, 4, 5, 6, 7, 8, 9, 10, 11, 12, 13, 14, 15, 16, 17, 18, 19] [] [0, 1, 2, 3, 4, 5, 6, 7, 8, 9, 10, 11, 12, 13, 14, 15, 16, 17, 18, 19] rfl rfl rfl rfl rfl (by decide) rfl rfl rfl [0, 1, 2, 3, 4, 5, 6, 7, 8, 9, 10, 11, 12, 13, 14, 15, 16, 17, 18] rfl 0 7 rfl rfl rfl hl.1 rfl (Nat.le_of_ble_eq_true rfl) dX7_isCaught_221 (fun H locs hP hD hS => ?_)
                refine lv_if_eq (tgt := 300) hx hb dX7_isCaught_224 (by decide) (fun c56 => ?_) (fun c56 => ?_)
                · have hr := ite_p hr c56
                  refine lv_iconst (v := (1 : Int32)) hx hb dX7_isCaught_300 (by decide) ?_
                  refine lv_istore (lv' := [(6, .int (1 : Int32)), (7, .int x53), (0, .ref (ad 0)), (1, .int a0), (2, .int a1), (3, .int a2), (4, .int v5), (5, .int v28)]) hx hb dX7_isCaught_301 hl (by decide) rfl (fun ls hl => ?_)
                  refine lv_goto (tgt := 41) hx hb dX7_isCaught_303 (by decide) ?_
                  exact ih v5 v28 (1 : Int32) q55.2.1 q55.2.2.1 q55.2.2.2 w11 w12 w13 w14 w15 w16 w17 w18 w19 w20 q52.2.1 q52.2.2 w30 _ _ hr hP hD hS ls (lv_sub hl [2, 3, 4, 5, 6, 7, 0] rfl)
                · have hr := ite_n hr c56
                  refine lv_aload_n hx hb dX7_isCaught_227 rfl (lv_at hl 1 rfl) ?_
                  obtain ⟨q57, hq57, hr⟩ := bd_use hr
                  refine icV_v (As := []) (rest := []) (ws2 := (wd_X7 ad cA mo_wide mo_high mo_law mo_acts q55.2.1 q55.2.2.1 q55.2.2.2 q57.1 q57.2 mo_found a_neighbours a_act a_blackAt a_whiteAt a_moveAt a_takenBlack a_takenWhite w13 w14 w15 w16 w17 w18 w19 w20 q52.2.1 q52.2.2 w30 a_next)) S (c_X7_counts l dC dI ad cA mo_wide mo_high mo_law mo_acts q55.2.1 q55.2.2.1 q55.2.2.2 w11 w12 mo_found a_neighbours a_act a_blackAt a_whiteAt a_moveAt a_takenBlack a_takenWhite w13 w14 w15 w16 w17 w18 w19 w20 q52.2.1 q52.2.2 w30 a_next H.size q57 hq57) (cwV 0 hts gX7_isCaught_X7_counts rfl rfl rfl (by decide +kernel) ⟨Nat.le_trans (m := rm_X7_isCaught.frames) (by decide) hRf, Nat.le_trans (m := rm_X7_isCaught.locals) (by decide) hRl⟩) hN hP hK hD hS hA ⟨Nat.zero_le _, Nat.zero_le _⟩ [0, 1, 2, 3, 4, 5, 6, 7, 8, 9, 10, 11, 12, 13, 14, 15, 16, 17, 18, 19] [] [0, 1, 2, 3, 4, 5, 6, 7, 8, 9, 10, 11, 12, 13, 14, 15, 16, 17, 18, 19] rfl rfl rfl rfl rfl (by decide) rfl rfl rfl [0, 1, 2, 3, 4, 5, 6, 7, 8, 9, 10, 11, 12, 13, 14, 15, 16, 17, 18] rfl 0 7 rfl rfl rfl hl.1 rfl (Nat.le_of_ble_eq_true rfl) dX7_isCaught_228 (fun H locs hP hD hS => ?_)
                  refine lv_aload_n hx hb dX7_isCaught_231 rfl (lv_at hl 1 rfl) ?_
                  refine va_get (D := (dC, dI)) (ci := 7) (v := .ref (ad 10)) (C := RX7) (T := TX7) (N := 29) hx hb hts huX7 hown hK hP 0 rfl rfl 18 (by decide) hf45 (fun _ h9 => h9) rfl dX7_isCaught_232 ?_
                  refine lv_iload hx hb dX7_isCaught_235 (lv_at hl 5 rfl) ?_
                  refine lv_iconst (v := (1 : Int32)) hx hb dX7_isCaught_237 (by decide) ?_
                  refine lv_iadd hx hb dX7_isCaught_238 ?_
                  refine lv_aload_n hx hb dX7_isCaught_239 rfl (lv_at hl 1 rfl) ?_
                  refine va_get (D := (dC, dI)) (ci := 7) (v := .ref (ad 14)) (C := RX7) (T := TX7) (N := 29) hx hb hts huX7 hown hK hP 0 rfl rfl 22 (by decide) hf58 (fun _ h9 => h9) rfl dX7_isCaught_240 ?_
                  refine lv_iload hx hb dX7_isCaught_243 (lv_at hl 5 rfl) ?_
                  obtain ⟨hi58, hr⟩ := ite_g hr
                  refine va_lald hx hb hK hP 14 13 rfl rfl hi58 dX7_isCaught_245 ?_
                  refine lv_topl (fun x59 ex59 => ?_)
                  have hr := nm_use hr ex59
                  obtain ⟨hi60, hr⟩ := ite_g hr
                  refine va_last hx hb hK hP hD hS 10 9 rfl rfl hi60 dX7_isCaught_246 (fun H locs hP hD hS => ?_)
                  have hP : va_P (dC, dI) vwCl (wd_X7 ad cA mo_wide mo_high mo_law mo_acts q55.2.1 q55.2.2.1 q55.2.2.2 q57.1 q57.2 mo_found a_neighbours a_act a_blackAt a_whiteAt a_moveAt a_takenBlack a_takenWhite w13 w14 (vp_updL w15 (v5 + (1 : Int32)).toNatClampNeg x59) w16 w17 w18 w19 w20 q52.2.1 q52.2.2 w30 a_next) H := hP
                  have hD : va_D A (wd_X7 ad cA mo_wide mo_high mo_law mo_acts q55.2.1 q55.2.2.1 q55.2.2.2 q57.1 q57.2 mo_found a_neighbours a_act a_blackAt a_whiteAt a_moveAt a_takenBlack a_takenWhite w13 w14 (vp_updL w15 (v5 + (1 : Int32)).toNatClampNeg x59) w16 w17 w18 w19 w20 q52.2.1 q52.2.2 w30 a_next) := hD
                  refine lv_aload_n hx hb dX7_isCaught_247 rfl (lv_at hl 1 rfl) ?_
                  refine va_get (D := (dC, dI)) (ci := 7) (v := .ref (ad 11)) (C := RX7) (T := TX7) (N := 29) hx hb hts huX7 hown hK hP 0 rfl rfl 19 (by decide) hf48 (fun _ h9 => h9) rfl dX7_isCaught_248 ?_
                  refine lv_iload hx hb dX7_isCaught_251 (lv_at hl 5 rfl) ?_
                  refine lv_iconst (v := (1 : Int32)) hx hb dX7_isCaught_253 (by decide) ?_
                  refine lv_iadd hx hb dX7_isCaught_254 ?_
                  refine lv_aload_n hx hb dX7_isCaught_255 rfl (lv_at hl 1 rfl) ?_
                  refine va_get (D := (dC, dI)) (ci := 7) (v := .ref (ad 15)) (C := RX7) (T := TX7) (N := 29) hx hb hts huX7 hown hK hP 0 rfl rfl 23 (by decide) hf61 (fun _ h9 => h9) rfl dX7_isCaught_256 ?_
                  refine lv_iload hx hb dX7_isCaught_259 (lv_at hl 5 rfl) ?_
                  obtain ⟨hi61, hr⟩ := ite_g hr
                  refine va_lald hx hb hK hP 15 14 rfl rfl hi61 dX7_isCaught_261 ?_
                  refine lv_topl (fun x62 ex62 => ?_)
                  have hr := nm_use hr ex62
                  obtain ⟨hi63, hr⟩ := ite_g hr
                  refine va_last hx hb hK hP hD hS 11 10 rfl rfl hi63 dX7_isCaught_262 (fun H locs hP hD hS => ?_)
                  have hP : va_P (dC, dI) vwCl (wd_X7 ad cA mo_wide mo_high mo_law mo_acts q55.2.1 q55.2.2.1 q55.2.2.2 q57.1 q57.2 mo_found a_neighbours a_act a_blackAt a_whiteAt a_moveAt a_takenBlack a_takenWhite w13 w14 (vp_updL w15 (v5 + (1 : Int32)).toNatClampNeg x59) (vp_updL w16 (v5 + (1 : Int32)).toNatClampNeg x62) w17 w18 w19 w20 q52.2.1 q52.2.2 w30 a_next) H := hP
                  have hD : va_D A (wd_X7 ad cA mo_wide mo_high mo_law mo_acts q55.2.1 q55.2.2.1 q55.2.2.2 q57.1 q57.2 mo_found a_neighbours a_act a_blackAt a_whiteAt a_moveAt a_takenBlack a_takenWhite w13 w14 (vp_updL w15 (v5 + (1 : Int32)).toNatClampNeg x59) (vp_updL w16 (v5 + (1 : Int32)).toNatClampNeg x62) w17 w18 w19 w20 q52.2.1 q52.2.2 w30 a_next) := hD
                  refine lv_aload_n hx hb dX7_isCaught_263 rfl (lv_at hl 1 rfl) ?_
                  refine va_get (D := (dC, dI)) (ci := 7) (v := .ref (ad 12)) (C := RX7) (T := TX7) (N := 29) hx hb hts huX7 hown hK hP 0 rfl rfl 20 (by decide) hf51 (fun _ h9 => h9) rfl dX7_isCaught_264 ?_
                  refine lv_iload hx hb dX7_isCaught_267 (lv_at hl 5 rfl) ?_
                  refine lv_iconst (v := (1 : Int32)) hx hb dX7_isCaught_269 (by decide) ?_
                  refine lv_iadd hx hb dX7_isCaught_270 ?_
                  refine lv_iconst (v := (1 : Int32)) hx hb dX7_isCaught_271 (by decide) ?_
                  obtain ⟨hi64, hr⟩ := ite_g hr
                  refine va_zast hx hb hK hP hD hS 12 11 rfl rfl hi64 dX7_isCaught_272 (fun H locs hP hD hS => ?_)
                  have hP : va_P (dC, dI) vwCl (wd_X7 ad cA mo_wide mo_high mo_law mo_acts q55.2.1 q55.2.2.1 q55.2.2.2 q57.1 q57.2 mo_found a_neighbours a_act a_blackAt a_whiteAt a_moveAt a_takenBlack a_takenWhite w13 w14 (vp_updL w15 (v5 + (1 : Int32)).toNatClampNeg x59) (vp_updL w16 (v5 + (1 : Int32)).toNatClampNeg x62) (upd w17 (v5 + (1 : Int32)).toNatClampNeg (vp_nar .boolean (1 : Int32))) w18 w19 w20 q52.2.1 q52.2.2 w30 a_next) H := hP
                  have hD : va_D A (wd_X7 ad cA mo_wide mo_high mo_law mo_acts q55.2.1 q55.2.2.1 q55.2.2.2 q57.1 q57.2 mo_found a_neighbours a_act a_blackAt a_whiteAt a_moveAt a_takenBlack a_takenWhite w13 w14 (vp_updL w15 (v5 + (1 : Int32)).toNatClampNeg x59) (vp_updL w16 (v5 + (1 : Int32)).toNatClampNeg x62) (upd w17 (v5 + (1 : Int32)).toNatClampNeg (vp_nar .boolean (1 : Int32))) w18 w19 w20 q52.2.1 q52.2.2 w30 a_next) := hD
                  refine lv_aload_n hx hb dX7_isCaught_273 rfl (lv_at hl 1 rfl) ?_
                  refine lv_iload hx hb dX7_isCaught_274 (lv_at hl 5 rfl) ?_
                  refine lv_iconst (v := (1 : Int32)) hx hb dX7_isCaught_276 (by decide) ?_
                  refine lv_iadd hx hb dX7_isCaught_277 ?_
                  refine lv_aload_n hx hb dX7_isCaught_278 rfl (lv_at hl 1 rfl) ?_
                  refine va_get (D := (dC, dI)) (ci := 7) (v := .long q55.2.1) (C := RX7) (T := TX7) (N := 29) hx hb hts huX7 hown hK hP 0 rfl rfl 11 (by decide) hf122 (fun _ h9 => h9) rfl dX7_isCaught_279 ?_
                  refine lv_aload_n hx hb dX7_isCaught_282 rfl (lv_at hl 1 rfl) ?_
                  refine va_get (D := (dC, dI)) (ci := 7) (v := .long q55.2.2.1) (C := RX7) (T := TX7) (N := 29) hx hb hts huX7 hown hK hP 0 rfl rfl 12 (by decide) hf126 (fun _ h9 => h9) rfl dX7_isCaught_283 ?_
                  refine lv_iload_n hx hb dX7_isCaught_286 rfl (lv_at hl 2 rfl) ?_
                  refine lv_iload_n hx hb dX7_isCaught_287 rfl (lv_at hl 3 rfl) ?_
                  obtain ⟨q65, hq65, hr⟩ := bd_use hr
                  refine icV_v (As := [.int (v5 + (1 : Int32)), .long q55.2.1, .long q55.2.2.1, .int a0, .int a1]) (rest := []) (ws2 := (wd_X7 ad cA mo_wide mo_high mo_law mo_acts q55.2.1 q55.2.2.1 q55.2.2.2 q57.1 q57.2 mo_found a_neighbours a_act a_blackAt a_whiteAt a_moveAt a_takenBlack a_takenWhite q65.1 q65.2.1 (vp_updL w15 (v5 + (1 : Int32)).toNatClampNeg x59) (vp_updL w16 (v5 + (1 : Int32)).toNatClampNeg x62) (upd w17 (v5 + (1 : Int32)).toNatClampNeg (vp_nar .boolean (1 : Int32))) q65.2.2.1 w19 w20 q52.2.1 q52.2.2 q65.2.2.2 a_next)) S (c_X7_comes l dC dI ad cA mo_wide mo_high mo_law mo_acts q55.2.1 q55.2.2.1 q55.2.2.2 q57.1 q57.2 mo_found a_neighbours a_act a_blackAt a_whiteAt a_moveAt a_takenBlack a_takenWhite w13 w14 (vp_updL w15 (v5 + (1 : Int32)).toNatClampNeg x59) (vp_updL w16 (v5 + (1 : Int32)).toNatClampNeg x62) (upd w17 (v5 + (1 : Int32)).toNatClampNeg (vp_nar .boolean (1 : Int32))) w18 w19 w20 q52.2.1 q52.2.2 w30 a_next H.size (v5 + (1 : Int32)) q55.2.1 q55.2.2.1 a0 a1 q65 hq65) (cwV 5 hts gX7_isCaught_X7_comes rfl rfl rfl (by decide +kernel) ⟨Nat.le_trans (m := rm_X7_isCaught.frames) (by decide) hRf, Nat.le_trans (m := rm_X7_isCaught.locals) (by decide) hRl⟩) hN hP hK hD hS hA ⟨Nat.zero_le _, Nat.zero_le _⟩ [0, 1, 2, 3, 4, 5, 6, 7, 8, 9, 10, 11, 12, 13, 14, 15, 16, 17, 18, 19] [] [0, 1, 2, 3, 4, 5, 6, 7, 8, 9, 10, 11, 12, 13, 14, 15, 16, 17, 18, 19] rfl rfl rfl rfl rfl (by decide) rfl rfl rfl [0, 1, 2, 3, 4, 5, 6, 7, 8, 9, 10, 11, 12, 13, 14, 15, 16, 17, 18] rfl 0 7 rfl rfl rfl hl.1 rfl (Nat.le_of_ble_eq_true rfl) dX7_isCaught_288 (fun H locs hP hD hS => ?_)
                  obtain ⟨x66, ex66, hr⟩ := nm_ex hr
                  refine lv_iinc (v := x66) (lv' := [(4, .int x66), (7, .int x53), (0, .ref (ad 0)), (1, .int a0), (2, .int a1), (3, .int a2), (5, .int v28), (6, .int v29)]) hx hb dX7_isCaught_291 hl (k := 5) rfl (by rw [ex66]; rfl) (by decide) rfl (fun ls hl => ?_)
                  refine lv_iconst (v := (1 : Int32)) hx hb dX7_isCaught_294 (by decide) ?_
                  refine lv_istore (lv' := [(5, .int (1 : Int32)), (4, .int x66), (7, .int x53), (0, .ref (ad 0)), (1, .int a0), (2, .int a1), (3, .int a2), (6, .int v29)]) hx hb dX7_isCaught_295 hl (by decide) rfl (fun ls hl => ?_)
                  refine lv_goto (tgt := 303) hx hb dX7_isCaught_297 (by decide) ?_
                  refine lv_goto (tgt := 41) hx hb dX7_isCaught_303 (by decide) ?_
                  exact ih x66 (1 : Int32) v29 q55.2.1 q55.2.2.1 q55.2.2.2 q57.1 q57.2 q65.1 q65.2.1 (vp_updL w15 (v5 + (1 : Int32)).toNatClampNeg x59) (vp_updL w16 (v5 + (1 : Int32)).toNatClampNeg x62) (upd w17 (v5 + (1 : Int32)).toNatClampNeg (vp_nar .boolean (1 : Int32))) q65.2.2.1 w19 w20 q52.2.1 q52.2.2 q65.2.2.2 _ _ hr hP hD hS ls (lv_sub hl [3, 4, 5, 6, 1, 0, 7] rfl)
              · have hr := ite_p hr c54
                refine lv_iconst (v := (1 : Int32)) hx hb dX7_isCaught_206 (by decide) ?_
                refine lv_istore (lv' := [(6, .int (1 : Int32)), (7, .int x53), (0, .ref (ad 0)), (1, .int a0), (2, .int a1), (3, .int a2), (4, .int v5), (5, .int v28)]) hx hb dX7_isCaught_207 hl (by decide) rfl (fun ls hl => ?_)
                obtain ⟨x67, ex67, hr⟩ := nm_ex hr
                refine lv_iinc (v := x67) (lv' := [(4, .int x67), (6, .int (1 : Int32)), (7, .int x53), (0, .ref (ad 0)), (1, .int a0), (2, .int a1), (3, .int a2), (5, .int v28)]) hx hb dX7_isCaught_209 hl (k := 6) rfl (by rw [ex67]; rfl) (by decide) rfl (fun ls hl => ?_)
                refine lv_goto (tgt := 303) hx hb dX7_isCaught_212 (by decide) ?_
                refine lv_goto (tgt := 41) hx hb dX7_isCaught_303 (by decide) ?_
                exact ih x67 v28 (1 : Int32) w8 w9 w10 w11 w12 w13 w14 w15 w16 w17 w18 w19 w20 q52.2.1 q52.2.2 w30 _ _ hr hP hD hS ls (lv_sub hl [3, 4, 5, 6, 0, 7, 1] rfl)
          refine lv_if_eq (tgt := 159) hx hb dX7_isCaught_55 (by decide) (fun c68 => ?_) (fun c68 => ?_)
          · have hr := ite_p hr c68
            refine lv_aload_n hx hb dX7_isCaught_159 rfl (lv_at hl 0 rfl) ?_
            refine va_get (D := (dC, dI)) (ci := 7) (v := .ref (ad 18)) (C := RX7) (T := TX7) (N := 29) hx hb hts huX7 hown hK hP 0 rfl rfl 26 (by decide) hf70 (fun _ h9 => h9) rfl dX7_isCaught_160 ?_
            refine lv_iload hx hb dX7_isCaught_163 (lv_at hl 4 rfl) ?_
            obtain ⟨hi69, hr⟩ := ite_g hr
            refine va_zald hx hb hK hP 18 17 rfl rfl hi69 dX7_isCaught_165 ?_
            refine lv_if_eq (tgt := 182) hx hb dX7_isCaught_166 (by decide) (fun c70 => ?_) (fun c70 => ?_)
            · have hr := ite_p hr c70
              exact kK31 v6 v7 w23 _ _ hr hP hD hS ls (lv_sub hl [0, 1, 2, 3, 4, 5, 6] rfl)
            · have hr := ite_n hr c70
              refine lv_iload hx hb dX7_isCaught_169 (lv_at hl 6 rfl) ?_
              refine lv_if_ne (tgt := 182) hx hb dX7_isCaught_171 (by decide) (fun c71 => ?_) (fun c71 => ?_)
              · have hr := ite_n hr c71
                exact kK31 v6 v7 w23 _ _ hr hP hD hS ls (lv_sub hl [0, 1, 2, 3, 4, 5, 6] rfl)
              · have hr := ite_p hr c71
                refine lv_aload_n hx hb dX7_isCaught_174 rfl (lv_at hl 0 rfl) ?_
                refine va_get (D := (dC, dI)) (ci := 7) (v := .ref (ad 18)) (C := RX7) (T := TX7) (N := 29) hx hb hts huX7 hown hK hP 0 rfl rfl 26 (by decide) hf70 (fun _ h9 => h9) rfl dX7_isCaught_175 ?_
                refine lv_iload hx hb dX7_isCaught_178 (lv_at hl 4 rfl) ?_
                refine lv_iconst (v := (0 : Int32)) hx hb dX7_isCaught_180 (by decide) ?_
                obtain ⟨hi72, hr⟩ := ite_g hr
                refine va_zast hx hb hK hP hD hS 18 17 rfl rfl hi72 dX7_isCaught_181 (fun H locs hP hD hS => ?_)
                have hP : va_P (dC, dI) vwCl (wd_X7 ad cA mo_wide mo_high mo_law mo_acts w8 w9 w10 w11 w12 mo_found a_neighbours a_act a_blackAt a_whiteAt a_moveAt a_takenBlack a_takenWhite w13 w14 w15 w16 w17 w18 w19 w20 w21 w22 (upd w23 v5.toNatClampNeg (vp_nar .boolean (0 : Int32))) a_next) H := hP
                have hD : va_D A (wd_X7 ad cA mo_wide mo_high mo_law mo_acts w8 w9 w10 w11 w12 mo_found a_neighbours a_act a_blackAt a_whiteAt a_moveAt a_takenBlack a_takenWhite w13 w14 w15 w16 w17 w18 w19 w20 w21 w22 (upd w23 v5.toNatClampNeg (vp_nar .boolean (0 : Int32))) a_next) := hD
                exact kK31 v6 v7 (upd w23 v5.toNatClampNeg (vp_nar .boolean (0 : Int32))) _ _ hr hP hD hS ls (lv_sub hl [0, 1, 2, 3, 4, 5, 6] rfl)
          · have hr := ite_n hr c68
            refine lv_aload_n hx hb dX7_isCaught_58 rfl (lv_at hl 0 rfl) ?_
            refine va_get (D := (dC, dI)) (ci := 7) (v := .ref (ad 13)) (C := RX7) (T := TX7) (N := 29) hx hb hts huX7 hown hK hP 0 rfl rfl 21 (by decide) hf55 (fun _ h9 => h9) rfl dX7_isCaught_59 ?_
            refine lv_iload hx hb dX7_isCaught_62 (lv_at hl 4 rfl) ?_
            obtain ⟨hi73, hr⟩ := ite_g hr
            refine va_lald hx hb hK hP 13 12 rfl rfl hi73 dX7_isCaught_64 ?_
            obtain ⟨q74, hq74, hr⟩ := bd_use hr
            refine pcS_i (As := [.long (w18 v5.toNatClampNeg)]) (rest := []) S (c_X7_many l dC dI (w18 v5.toNatClampNeg) q74 hq74) (va_cwS 1 hts gX7_isCaught_X7_many rfl rfl rfl (by decide +kernel) ⟨Nat.le_trans (m := rm_X7_isCaught.frames) (by decide) hRf, Nat.le_trans (m := rm_X7_isCaught.locals) (by decide) hRl⟩) hN hP hK ⟨Nat.zero_le _, Nat.zero_le _⟩ rfl hl.1 rfl (Nat.le_of_ble_eq_true rfl) dX7_isCaught_65 ?_
            refine lv_istore (lv' := [(7, .int q74), (0, .ref (ad 0)), (1, .int a0), (2, .int a1), (3, .int a2), (4, .int v5), (5, .int v6), (6, .int v7)]) hx hb dX7_isCaught_68 hl (by decide) rfl (fun ls hl => ?_)
            refine lv_iconst (v := (0 : Int32)) hx hb dX7_isCaught_70 (by decide) ?_
            refine lv_istore (lv' := [(5, .int (0 : Int32)), (7, .int q74), (0, .ref (ad 0)), (1, .int a0), (2, .int a1), (3, .int a2), (4, .int v5), (6, .int v7)]) hx hb dX7_isCaught_71 hl (by decide) rfl (fun ls hl => ?_)
            refine lv_iload hx hb dX7_isCaught_73 (lv_at hl 1 rfl) ?_
            refine lv_iconst (v := (1 : Int32)) hx hb dX7_isCaught_75 (by decide) ?_
            refine lv_icmp_ne (tgt := 130) hx hb dX7_isCaught_76 (by decide) (fun c75 => ?_) (fun c75 => ?_)
            · have hr := ite_n hr c75
              refine lv_iload hx hb dX7_isCaught_130 (lv_at hl 1 rfl) ?_
              refine lv_iconst (v := (2 : Int32)) hx hb dX7_isCaught_132 (by decide) ?_
              refine lv_icmp_ne (tgt := 144) hx hb dX7_isCaught_133 (by decide) (fun c76 => ?_) (fun c76 => ?_)
              · have hr := ite_n hr c76
                refine lv_iconst (v := (0 : Int32)) hx hb dX7_isCaught_144 (by decide) ?_
                refine lv_istore (lv' := [(6, .int (0 : Int32)), (5, .int (0 : Int32)), (7, .int q74), (0, .ref (ad 0)), (1, .int a0), (2, .int a1), (3, .int a2), (4, .int v5)]) hx hb dX7_isCaught_145 hl (by decide) rfl (fun ls hl => ?_)
                obtain ⟨x77, ex77, hr⟩ := nm_ex hr
                refine lv_iinc (v := x77) (lv' := [(4, .int x77), (6, .int (0 : Int32)), (5, .int (0 : Int32)), (7, .int q74), (0, .ref (ad 0)), (1, .int a0), (2, .int a1), (3, .int a2)]) hx hb dX7_isCaught_147 hl (k := 7) rfl (by rw [ex77]; rfl) (by decide) rfl (fun ls hl => ?_)
                refine lv_goto (tgt := 41) hx hb dX7_isCaught_150 (by decide) ?_
                exact ih x77 (0 : Int32) (0 : Int32) w8 w9 w10 w11 w12 w13 w14 w15 w16 w17 w18 w19 w20 w21 w22 w23 _ _ hr hP hD hS ls (lv_sub hl [4, 5, 6, 7, 0, 2, 1] rfl)
              · have hr := ite_p hr c76
                refine lv_iload_n hx hb dX7_isCaught_136 rfl (lv_at hl 5 rfl) ?_
                refine lv_iload hx hb dX7_isCaught_137 (lv_at hl 6 rfl) ?_
                refine lv_isub hx hb dX7_isCaught_139 ?_
                refine lv_iconst (v := (2 : Int32)) hx hb dX7_isCaught_140 (by decide) ?_
                refine lv_icmp_ge (tgt := 153) hx hb dX7_isCaught_141 (by decide) (fun c78 => ?_) (fun c78 => ?_)
                · have hr := ite_p hr c78
                  refine lv_iconst (v := (0 : Int32)) hx hb dX7_isCaught_153 (by decide) ?_
                  refine lv_istore (lv' := [(6, .int (0 : Int32)), (5, .int (0 : Int32)), (7, .int q74), (0, .ref (ad 0)), (1, .int a0), (2, .int a1), (3, .int a2), (4, .int v5)]) hx hb dX7_isCaught_154 hl (by decide) rfl (fun ls hl => ?_)
                  refine lv_goto (tgt := 182) hx hb dX7_isCaught_156 (by decide) ?_
                  exact kK31 (0 : Int32) (0 : Int32) w23 _ _ hr hP hD hS ls (lv_sub hl [3, 4, 5, 6, 7, 1, 0] rfl)
                · have hr := ite_n hr c78
                  refine lv_iconst (v := (0 : Int32)) hx hb dX7_isCaught_144 (by decide) ?_
                  refine lv_istore (lv' := [(6, .int (0 : Int32)), (5, .int (0 : Int32)), (7, .int q74), (0, .ref (ad 0)), (1, .int a0), (2, .int a1), (3, .int a2), (4, .int v5)]) hx hb dX7_isCaught_145 hl (by decide) rfl (fun ls hl => ?_)
                  obtain ⟨x79, ex79, hr⟩ := nm_ex hr
                  refine lv_iinc (v := x79) (lv' := [(4, .int x79), (6, .int (0 : Int32)), (5, .int (0 : Int32)), (7, .int q74), (0, .ref (ad 0)), (1, .int a0), (2, .int a1), (3, .int a2)]) hx hb dX7_isCaught_147 hl (k := 7) rfl (by rw [ex79]; rfl) (by decide) rfl (fun ls hl => ?_)
                  refine lv_goto (tgt := 41) hx hb dX7_isCaught_150 (by decide) ?_
                  exact ih x79 (0 : Int32) (0 : Int32) w8 w9 w10 w11 w12 w13 w14 w15 w16 w17 w18 w19 w20 w21 w22 w23 _ _ hr hP hD hS ls (lv_sub hl [4, 5, 6, 7, 0, 2, 1] rfl)
            · have hr := ite_p hr c75
              refine lv_iload_n hx hb dX7_isCaught_79 rfl (lv_at hl 5 rfl) ?_
              refine lv_iload hx hb dX7_isCaught_80 (lv_at hl 6 rfl) ?_
              refine lv_isub hx hb dX7_isCaught_82 ?_
              refine lv_iconst (v := (1 : Int32)) hx hb dX7_isCaught_83 (by decide) ?_
              obtain ⟨K84, eK84, hr⟩ := nm_ex hr
              have kK84 : ∀ (w80 : Int64) (w81 : Int64) (w82 : Int32) (u83 : Int32) (H : Heap) (locs : List Loc) , K84 w80 w81 w82 u83 = some q → va_P (dC, dI) vwCl (wd_X7 ad cA mo_wide mo_high mo_law mo_acts w80 w81 w82 w11 w12 mo_found a_neighbours a_act a_blackAt a_whiteAt a_moveAt a_takenBlack a_takenWhite w13 w14 w15 w16 w17 w18 w19 w20 w21 w22 w23 a_next) H → va_D A (wd_X7 ad cA mo_wide mo_high mo_law mo_acts w80 w81 w82 w11 w12 mo_found a_neighbours a_act a_blackAt a_whiteAt a_moveAt a_takenBlack a_takenWhite w13 w14 w15 w16 w17 w18 w19 w20 w21 w22 w23 a_next) → va_S A H0 H locs → ∀ (ls : Array Slot), lv_has ls 8 [(0, .ref (ad 0)), (1, .int a0), (2, .int a1), (3, .int a2), (4, .int v5), (5, .int (0 : Int32))] → W p l e R s m args below meth c H locs 0 0 Q (F0 m 113 ls [.int u83]) := by
                intro w80 w81 w82 u83 H locs hr hP hD hS ls hl
                rw [eK84] at hr
                refine lv_istore (lv' := [(6, .int u83), (0, .ref (ad 0)), (1, .int a0), (2, .int a1), (3, .int a2), (4, .int v5), (5, .int (0 : Int32))]) hx hb dX7_isCaught_113 hl (by decide) rfl (fun ls hl => ?_)
                refine lv_iload hx hb dX7_isCaught_115 (lv_at hl 0 rfl) ?_
                refine lv_if_eq (tgt := 124) hx hb dX7_isCaught_117 (by decide) (fun c85 => ?_) (fun c85 => ?_)
                · have hr := ite_p hr c85
                  obtain ⟨x86, ex86, hr⟩ := nm_ex hr
                  refine lv_iinc (v := x86) (lv' := [(4, .int x86), (6, .int u83), (0, .ref (ad 0)), (1, .int a0), (2, .int a1), (3, .int a2), (5, .int (0 : Int32))]) hx hb dX7_isCaught_124 hl (k := 5) rfl (by rw [ex86]; rfl) (by decide) rfl (fun ls hl => ?_)
                  refine lv_goto (tgt := 41) hx hb dX7_isCaught_127 (by decide) ?_
                  exact ih x86 (0 : Int32) u83 w80 w81 w82 w11 w12 w13 w14 w15 w16 w17 w18 w19 w20 w21 w22 w23 _ _ hr hP hD hS ls (lv_sub hl [2, 3, 4, 5, 0, 6, 1] rfl)
                · have hr := ite_n hr c85
                  refine lv_aload_n hx hb dX7_isCaught_120 rfl (lv_at hl 1 rfl) ?_
                  obtain ⟨q87, hq87, hr⟩ := bd_use hr
                  refine icV_v (As := []) (rest := []) (ws2 := (wd_X7 ad cA mo_wide mo_high mo_law mo_acts w80 w81 w82 q87.1 q87.2 mo_found a_neighbours a_act a_blackAt a_whiteAt a_moveAt a_takenBlack a_takenWhite w13 w14 w15 w16 w17 w18 w19 w20 w21 w22 w23 a_next)) S (c_X7_counts l dC dI ad cA mo_wide mo_high mo_law mo_acts w80 w81 w82 w11 w12 mo_found a_neighbours a_act a_blackAt a_whiteAt a_moveAt a_takenBlack a_takenWhite w13 w14 w15 w16 w17 w18 w19 w20 w21 w22 w23 a_next H.size q87 hq87) (cwV 0 hts gX7_isCaught_X7_counts rfl rfl rfl (by decide +kernel) ⟨Nat.le_trans (m := rm_X7_isCaught.frames) (by decide) hRf, Nat.le_trans (m := rm_X7_isCaught.locals) (by decide) hRl⟩) hN hP hK hD hS hA ⟨Nat.zero_le _, Nat.zero_le _⟩ [0, 1, 2, 3, 4, 5, 6, 7, 8, 9, 10, 11, 12, 13, 14, 15, 16, 17, 18, 19] [] [0, 1, 2, 3, 4, 5, 6, 7, 8, 9, 10, 11, 12, 13, 14, 15, 16, 17, 18, 19] rfl rfl rfl rfl rfl (by decide) rfl rfl rfl [0, 1, 2, 3, 4, 5, 6, 7, 8, 9, 10, 11, 12, 13, 14, 15, 16, 17, 18] rfl 0 7 rfl rfl rfl hl.1 rfl (Nat.le_of_ble_eq_true rfl) dX7_isCaught_121 (fun H locs hP hD hS => ?_)
                  obtain ⟨x88, ex88, hr⟩ := nm_ex hr
                  refine lv_iinc (v := x88) (lv' := [(4, .int x88), (6, .int u83), (0, .ref (ad 0)), (1, .int a0), (2, .int a1), (3, .int a2), (5, .int (0 : Int32))]) hx hb dX7_isCaught_124 hl (k := 5) rfl (by rw [ex88]; rfl) (by decide) rfl (fun ls hl => ?_)
                  refine lv_goto (tgt := 41) hx hb dX7_isCaught_127 (by decide) ?_
                  exact ih x88 (0 : Int32) u83 w80 w81 w82 q87.1 q87.2 w13 w14 w15 w16 w17 w18 w19 w20 w21 w22 w23 _ _ hr hP hD hS ls (lv_sub hl [2, 3, 4, 5, 0, 6, 1] rfl)
              refine lv_icmp_lt (tgt := 112) hx hb dX7_isCaught_84 (by decide) (fun c89 => ?_) (fun c89 => ?_)
              · have hr := ite_p hr c89
                refine lv_iconst (v := (0 : Int32)) hx hb dX7_isCaught_112 (by decide) ?_
                exact kK84 w8 w9 w10 (0 : Int32) _ _ hr hP hD hS ls (lv_sub hl [2, 3, 4, 5, 6, 0] rfl)
              · have hr := ite_n hr c89
                refine lv_aload_n hx hb dX7_isCaught_87 rfl (lv_at hl 2 rfl) ?_
                refine lv_iload hx hb dX7_isCaught_88 (lv_at hl 6 rfl) ?_
                refine lv_iload_n hx hb dX7_isCaught_90 rfl (lv_at hl 3 rfl) ?_
                refine lv_aload_n hx hb dX7_isCaught_91 rfl (lv_at hl 2 rfl) ?_
                refine va_get (D := (dC, dI)) (ci := 7) (v := .ref (ad 13)) (C := RX7) (T := TX7) (N := 29) hx hb hts huX7 hown hK hP 0 rfl rfl 21 (by decide) hf55 (fun _ h9 => h9) rfl dX7_isCaught_92 ?_
                refine lv_iload hx hb dX7_isCaught_95 (lv_at hl 6 rfl) ?_
                obtain ⟨hi90, hr⟩ := ite_g hr
                refine va_lald hx hb hK hP 13 12 rfl rfl hi90 dX7_isCaught_97 ?_
                refine lv_iconst (v := (0 : Int32)) hx hb dX7_isCaught_98 (by decide) ?_
                obtain ⟨q91, hq91, hr⟩ := bd_use hr
                refine pcS_i (As := [.long (w18 v5.toNatClampNeg), .int (0 : Int32)]) (rest := [.int a0, .int v5, .ref (ad 0)]) S (c_X7_least l dC dI (w18 v5.toNatClampNeg) (0 : Int32) q91 hq91) (va_cwS 2 hts gX7_isCaught_X7_least rfl rfl rfl (by decide +kernel) ⟨Nat.le_trans (m := rm_X7_isCaught.frames) (by decide) hRf, Nat.le_trans (m := rm_X7_isCaught.locals) (by decide) hRl⟩) hN hP hK ⟨Nat.zero_le _, Nat.zero_le _⟩ rfl hl.1 rfl (Nat.le_of_ble_eq_true rfl) dX7_isCaught_99 ?_
                obtain ⟨q92, hq92, hr⟩ := bd_use hr
                refine icV_i (As := [.int v5, .int a0, .int q91]) (rest := []) (ws2 := (wd_X7 ad cA mo_wide mo_high mo_law mo_acts q92.2.1 q92.2.2.1 q92.2.2.2 w11 w12 mo_found a_neighbours a_act a_blackAt a_whiteAt a_moveAt a_takenBlack a_takenWhite w13 w14 w15 w16 w17 w18 w19 w20 w21 w22 w23 a_next)) S (c_X7_mayChase l dC dI ad cA mo_wide mo_high mo_law mo_acts w8 w9 w10 w11 w12 mo_found a_neighbours a_act a_blackAt a_whiteAt a_moveAt a_takenBlack a_takenWhite w13 w14 w15 w16 w17 w18 w19 w20 w21 w22 w23 a_next H.size v5 a0 q91 q92 hq92) (cwV 3 hts gX7_isCaught_X7_mayChase rfl rfl rfl (by decide +kernel) ⟨Nat.le_trans (m := rm_X7_isCaught.frames) (by decide) hRf, Nat.le_trans (m := rm_X7_isCaught.locals) (by decide) hRl⟩) hN hP hK hD hS hA ⟨Nat.zero_le _, Nat.zero_le _⟩ [0, 1, 2, 3, 4, 5, 6, 7, 8, 9, 10, 11, 12, 13, 14, 15, 16, 17, 18, 19] [] [0, 1, 2, 3, 4, 5, 6, 7, 8, 9, 10, 11, 12, 13, 14, 15, 16, 17, 18, 19] rfl rfl rfl rfl rfl (by decide) rfl rfl rfl [0, 1, 2, 3, 4, 5, 6, 7, 8, 9, 10, 11, 12, 13, 14, 15, 16, 17, 18] rfl 0 7 rfl rfl rfl hl.1 rfl (Nat.le_of_ble_eq_true rfl) dX7_isCaught_102 (fun H locs hP hD hS => ?_)
                refine lv_if_eq (tgt := 112) hx hb dX7_isCaught_105 (by decide) (fun c93 => ?_) (fun c93 => ?_)
                · have hr := ite_p hr c93
                  refine lv_iconst (v := (0 : Int32)) hx hb dX7_isCaught_112 (by decide) ?_
                  exact kK84 q92.2.1 q92.2.2.1 q92.2.2.2 (0 : Int32) _ _ hr hP hD hS ls (lv_sub hl [2, 3, 4, 5, 6, 0] rfl)
                · have hr := ite_n hr c93
                  refine lv_iconst (v := (1 : Int32)) hx hb dX7_isCaught_108 (by decide) ?_
                  refine lv_goto (tgt := 113) hx hb dX7_isCaught_109 (by decide) ?_
                  exact kK84 q92.2.1 q92.2.2.1 q92.2.2.2 (1 : Int32) _ _ hr hP hD hS ls (lv_sub hl [2, 3, 4, 5, 6, 0] rfl)
  exact llp_X7_isCaught_41 FU (0 : Int32) (1 : Int32) (0 : Int32) mo_newBlack mo_newWhite mo_taken mo_triesMany mo_isSpent q4.1 q4.2.1 a_aheadBlack a_aheadWhite (upd a_hasAhead (0 : Int32).toNatClampNeg (vp_nar .boolean (0 : Int32))) q4.2.2.1 a_laidBlack a_laidWhite a_answersLeft a_firstAnswer q4.2.2.2 _ _ hr hP hD hS ls (lv_sub hl [3, 4, 5, 6, 2, 1, 0] rfl)

def f_X7_chase (mo_wide : Int32) (mo_high : Int32) (mo_acts : Int32) (mo_newBlack : Int64) (mo_newWhite : Int64) (mo_taken : Int32) (mo_triesMany : Int32) (mo_isSpent : Int32) (a_neighbours : Nat → Int64) (a_blackAt : Nat → Int64) (a_whiteAt : Nat → Int64) (a_chaseBlack : Nat → Int64) (a_chaseWhite : Nat → Int64) (a_aheadBlack : Nat → Int64) (a_aheadWhite : Nat → Int64) (a_hasAhead : Nat → Int32) (a_breathsLeft : Nat → Int64) (a_laidBlack : Nat → Int64) (a_laidWhite : Nat → Int64) (a_answersLeft : Nat → Int64) (a_firstAnswer : Nat → Int32) (a_answering : Nat → Int32) (a0 : Int32) (a1 : Int32) : Option (Int32 × Int64 × Int64 × Int32 × Int32 × Int32 × (Nat → Int64) × (Nat → Int64) × (Nat → Int64) × (Nat → Int64) × (Nat → Int32) × (Nat → Int64) × (Nat → Int64) × (Nat → Int64) × (Nat → Int64) × (Nat → Int32) × (Nat → Int32)) :=
  (f_X7_isCrossing mo_wide mo_high a0).bind fun q1 =>
  if q1 = 0 then (
    some ((-2 : Int32), mo_newBlack, mo_newWhite, mo_taken, mo_triesMany, mo_isSpent, a_chaseBlack, a_chaseWhite, a_aheadBlack, a_aheadWhite, a_hasAhead, a_breathsLeft, a_laidBlack, a_laidWhite, a_answersLeft, a_firstAnswer, a_answering)
  )
  else (
    (f_X7_in a1 (1 : Int32) (20 : Int32)).bind fun q3 =>
    if q3 = 0 then (
      some ((-2 : Int32), mo_newBlack, mo_newWhite, mo_taken, mo_triesMany, mo_isSpent, a_chaseBlack, a_chaseWhite, a_aheadBlack, a_aheadWhite, a_hasAhead, a_breathsLeft, a_laidBlack, a_laidWhite, a_answersLeft, a_firstAnswer, a_answering)
    )
    else (
      (f_X7_atOf mo_acts a_blackAt a_whiteAt a0).bind fun q5 =>
      if q5 = 0 then (
        some ((-3 : Int32), mo_newBlack, mo_newWhite, mo_taken, mo_triesMany, mo_isSpent, a_chaseBlack, a_chaseWhite, a_aheadBlack, a_aheadWhite, a_hasAhead, a_breathsLeft, a_laidBlack, a_laidWhite, a_answersLeft, a_firstAnswer, a_answering)
      )
      else (
        (f_X7_atOf mo_acts a_blackAt a_whiteAt a0).bind fun q7 =>
        (f_X7_isCaught mo_wide mo_high mo_acts mo_newBlack mo_newWhite mo_taken (0 : Int32) (0 : Int32) a_neighbours a_blackAt a_whiteAt a_chaseBlack a_chaseWhite a_aheadBlack a_aheadWhite a_hasAhead a_breathsLeft a_laidBlack a_laidWhite a_answersLeft a_firstAnswer a_answering q7 a0 a1).bind fun q8 =>
        nm (q8.1) fun x9 =>
        if q8.2.2.2.2.2.1 = 0 then (
          if x9 = 0 then (
            some ((0 : Int32), q8.2.1, q8.2.2.1, q8.2.2.2.1, q8.2.2.2.2.1, q8.2.2.2.2.2.1, q8.2.2.2.2.2.2.1, q8.2.2.2.2.2.2.2.1, q8.2.2.2.2.2.2.2.2.1, q8.2.2.2.2.2.2.2.2.2.1, q8.2.2.2.2.2.2.2.2.2.2.1, q8.2.2.2.2.2.2.2.2.2.2.2.1, q8.2.2.2.2.2.2.2.2.2.2.2.2.1, q8.2.2.2.2.2.2.2.2.2.2.2.2.2.1, q8.2.2.2.2.2.2.2.2.2.2.2.2.2.2.1, q8.2.2.2.2.2.2.2.2.2.2.2.2.2.2.2.1, q8.2.2.2.2.2.2.2.2.2.2.2.2.2.2.2.2)
          )
          else (
            some ((1 : Int32), q8.2.1, q8.2.2.1, q8.2.2.2.1, q8.2.2.2.2.1, q8.2.2.2.2.2.1, q8.2.2.2.2.2.2.1, q8.2.2.2.2.2.2.2.1, q8.2.2.2.2.2.2.2.2.1, q8.2.2.2.2.2.2.2.2.2.1, q8.2.2.2.2.2.2.2.2.2.2.1, q8.2.2.2.2.2.2.2.2.2.2.2.1, q8.2.2.2.2.2.2.2.2.2.2.2.2.1, q8.2.2.2.2.2.2.2.2.2.2.2.2.2.1, q8.2.2.2.2.2.2.2.2.2.2.2.2.2.2.1, q8.2.2.2.2.2.2.2.2.2.2.2.2.2.2.2.1, q8.2.2.2.2.2.2.2.2.2.2.2.2.2.2.2.2)
          )
        )
        else (
          some ((-5 : Int32), q8.2.1, q8.2.2.1, q8.2.2.2.1, q8.2.2.2.2.1, q8.2.2.2.2.2.1, q8.2.2.2.2.2.2.1, q8.2.2.2.2.2.2.2.1, q8.2.2.2.2.2.2.2.2.1, q8.2.2.2.2.2.2.2.2.2.1, q8.2.2.2.2.2.2.2.2.2.2.1, q8.2.2.2.2.2.2.2.2.2.2.2.1, q8.2.2.2.2.2.2.2.2.2.2.2.2.1, q8.2.2.2.2.2.2.2.2.2.2.2.2.2.1, q8.2.2.2.2.2.2.2.2.2.2.2.2.2.2.1, q8.2.2.2.2.2.2.2.2.2.2.2.2.2.2.2.1, q8.2.2.2.2.2.2.2.2.2.2.2.2.2.2.2.2)
        )
      )
    )
  )

abbrev rm_X7_chase : Room := { frames := 6, cells := 0, slots := 0, locals := 160 }
set_option maxHeartbeats 4000000 in
set_option maxRecDepth 100000 in
theorem c_X7_chase (l : Launch) (dC : Nat → ClassId) (dI : Nat → Nat → Nat) (ad : Nat → Nat) (cA : Nat → ClassId) (mo_wide mo_high mo_law mo_acts : Int32) (mo_newBlack mo_newWhite : Int64) (mo_taken mo_triesMany mo_isSpent mo_found : Int32) (a_neighbours : Nat → Int64) (a_act : Nat → Int32) (a_blackAt a_whiteAt : Nat → Int64) (a_moveAt a_takenBlack a_takenWhite : Nat → Int32) (a_chaseBlack a_chaseWhite a_aheadBlack a_aheadWhite : Nat → Int64) (a_hasAhead : Nat → Int32) (a_breathsLeft a_laidBlack a_laidWhite a_answersLeft : Nat → Int64) (a_firstAnswer a_answering a_next : Nat → Int32) (sz : Nat) (a0 : Int32) (a1 : Int32) (q : Int32 × Int64 × Int64 × Int32 × Int32 × Int32 × (Nat → Int64) × (Nat → Int64) × (Nat → Int64) × (Nat → Int64) × (Nat → Int32) × (Nat → Int64) × (Nat → Int64) × (Nat → Int64) × (Nat → Int64) × (Nat → Int32) × (Nat → Int32)) (hr : f_X7_chase mo_wide mo_high mo_acts mo_newBlack mo_newWhite mo_taken mo_triesMany mo_isSpent a_neighbours a_blackAt a_whiteAt a_chaseBlack a_chaseWhite a_aheadBlack a_aheadWhite a_hasAhead a_breathsLeft a_laidBlack a_laidWhite a_answersLeft a_firstAnswer a_answering a0 a1 = some q) : Met l yX7_chase wsX7_chase rm_X7_chase (PrI (dC, dI) (wd_X7 ad cA mo_wide mo_high mo_law mo_acts mo_newBlack mo_newWhite mo_taken mo_triesMany mo_isSpent mo_found a_neighbours a_act a_blackAt a_whiteAt a_moveAt a_takenBlack a_takenWhite a_chaseBlack a_chaseWhite a_aheadBlack a_aheadWhite a_hasAhead a_breathsLeft a_laidBlack a_laidWhite a_answersLeft a_firstAnswer a_answering a_next) (td_X7 cA) sz [.ref (ad 0), .int a0, .int a1]) (QIi (dC, dI) (wd_X7 ad cA mo_wide mo_high mo_law mo_acts mo_newBlack mo_newWhite mo_taken mo_triesMany mo_isSpent mo_found a_neighbours a_act a_blackAt a_whiteAt a_moveAt a_takenBlack a_takenWhite a_chaseBlack a_chaseWhite a_aheadBlack a_aheadWhite a_hasAhead a_breathsLeft a_laidBlack a_laidWhite a_answersLeft a_firstAnswer a_answering a_next) (td_X7 cA) sz q.1 (wd_X7 ad cA mo_wide mo_high mo_law mo_acts q.2.1 q.2.2.1 q.2.2.2.1 q.2.2.2.2.1 q.2.2.2.2.2.1 mo_found a_neighbours a_act a_blackAt a_whiteAt a_moveAt a_takenBlack a_takenWhite q.2.2.2.2.2.2.1 q.2.2.2.2.2.2.2.1 q.2.2.2.2.2.2.2.2.1 q.2.2.2.2.2.2.2.2.2.1 q.2.2.2.2.2.2.2.2.2.2.1 q.2.2.2.2.2.2.2.2.2.2.2.1 q.2.2.2.2.2.2.2.2.2.2.2.2.1 q.2.2.2.2.2.2.2.2.2.2.2.2.2.1 q.2.2.2.2.2.2.2.2.2.2.2.2.2.2.1 q.2.2.2.2.2.2.2.2.2.2.2.2.2.2.2.1 q.2.2.2.2.2.2.2.2.2.2.2.2.2.2.2.2 a_next)) 0 0 (va_A (wd_X7 ad cA mo_wide mo_high mo_law mo_acts mo_newBlack mo_newWhite mo_taken mo_triesMany mo_isSpent mo_found a_neighbours a_act a_blackAt a_whiteAt a_moveAt a_takenBlack a_takenWhite a_chaseBlack a_chaseWhite a_aheadBlack a_aheadWhite a_hasAhead a_breathsLeft a_laidBlack a_laidWhite a_answersLeft a_firstAnswer a_answering a_next) sz) := by
  refine mkI_i (cc := cX7_chase) (nL := 4) (by decide) rfl (Nat.le_of_ble_eq_true rfl) ?_
  intro p e R s m args below meth c H0 H locs A Q ls hRf hRl S hN hP hK hD hA hS hl kret
  have hl : lv_has ls 4 [(0, .ref (ad 0)), (1, .int a0), (2, .int a1)] := hl
  obtain ⟨hx, hb, hml, hown, hts⟩ := S
  have hown : s.vm.findClass RX7 = some m.cls := hown
  have S : CallFix p m c cX7_chase 4 s args wsX7_chase RX7 := ⟨hx, hb, hml, hown, hts⟩
  have huX7 : ∀ w ∈ u_ws RX7 TX7 29, w ∈ wsX7_chase := by decide +kernel
  have hf183 := hts (.fieldLink RX7 183 "EyeBoardModel" "triesMany" "I") (by decide +kernel)
  have hf186 := hts (.fieldLink RX7 186 "EyeBoardModel" "isSpent" "Z") (by decide +kernel)
  unfold f_X7_chase at hr
  refine lv_aload_n hx hb dX7_chase_0 rfl (lv_at hl 0 rfl) ?_
  refine lv_iload_n hx hb dX7_chase_1 rfl (lv_at hl 1 rfl) ?_
  obtain ⟨q1, hq1, hr⟩ := bd_use hr
  refine pcV_i (As := [.int a0]) (rest := []) S (c_X7_isCrossing l dC dI ad cA mo_wide mo_high mo_law mo_acts mo_newBlack mo_newWhite mo_taken mo_triesMany mo_isSpent mo_found a_neighbours a_act a_blackAt a_whiteAt a_moveAt a_takenBlack a_takenWhite a_chaseBlack a_chaseWhite a_aheadBlack a_aheadWhite a_hasAhead a_breathsLeft a_laidBlack a_laidWhite a_answersLeft a_firstAnswer a_answering a_next a0 q1 hq1) (cwV 1 hts gX7_chase_X7_isCrossing rfl rfl rfl (by decide +kernel) ⟨Nat.le_trans (m := rm_X7_chase.frames) (by decide) hRf, Nat.le_trans (m := rm_X7_chase.locals) (by decide) hRl⟩) hN hP hK ⟨Nat.zero_le _, Nat.zero_le _⟩ [0, 1, 2, 3, 4, 5, 6, 7, 8, 9, 10, 11, 12, 13, 14, 15, 16, 17, 18, 19] rfl [0, 1, 2, 3, 4, 5, 6, 7, 8, 9, 10, 11, 12, 13, 14, 15, 16, 17, 18] rfl 0 7 rfl rfl rfl hl.1 rfl (Nat.le_of_ble_eq_true rfl) dX7_chase_2 ?_
  refine lv_if_eq (tgt := 18) hx hb dX7_chase_5 (by decide) (fun c2 => ?_) (fun c2 => ?_)
  · have hr := ite_p hr c2
    refine lv_bipush (v := (-2 : Int32)) hx hb dX7_chase_18 (by decide) ?_
    obtain rfl := Option.some.inj hr
    exact kret _ _ _ _ dX7_chase_20 hP hD hS
  · have hr := ite_n hr c2
    refine lv_iload_n hx hb dX7_chase_8 rfl (lv_at hl 2 rfl) ?_
    refine lv_iconst (v := (1 : Int32)) hx hb dX7_chase_9 (by decide) ?_
    refine lv_bipush (v := (20 : Int32)) hx hb dX7_chase_10 (by decide) ?_
    obtain ⟨q3, hq3, hr⟩ := bd_use hr
    refine pcS_i (As := [.int a1, .int (1 : Int32), .int (20 : Int32)]) (rest := []) S (c_X7_in l dC dI a1 (1 : Int32) (20 : Int32) q3 hq3) (va_cwS 3 hts gX7_chase_X7_in rfl rfl rfl (by decide +kernel) ⟨Nat.le_trans (m := rm_X7_chase.frames) (by decide) hRf, Nat.le_trans (m := rm_X7_chase.locals) (by decide) hRl⟩) hN hP hK ⟨Nat.zero_le _, Nat.zero_le _⟩ rfl hl.1 rfl (Nat.le_of_ble_eq_true rfl) dX7_chase_12 ?_
    refine lv_if_ne (tgt := 21) hx hb dX7_chase_15 (by decide) (fun c4 => ?_) (fun c4 => ?_)
    · have hr := ite_n hr c4
      refine lv_aload_n hx hb dX7_chase_21 rfl (lv_at hl 0 rfl) ?_
      refine lv_iload_n hx hb dX7_chase_22 rfl (lv_at hl 1 rfl) ?_
      obtain ⟨q5, hq5, hr⟩ := bd_use hr
      refine pcV_i (As := [.int a0]) (rest := []) S (c_X7_atOf l dC dI ad cA mo_wide mo_high mo_law mo_acts mo_newBlack mo_newWhite mo_taken mo_triesMany mo_isSpent mo_found a_neighbours a_act a_blackAt a_whiteAt a_moveAt a_takenBlack a_takenWhite a_chaseBlack a_chaseWhite a_aheadBlack a_aheadWhite a_hasAhead a_breathsLeft a_laidBlack a_laidWhite a_answersLeft a_firstAnswer a_answering a_next a0 q5 hq5) (cwV 1 hts gX7_chase_X7_atOf rfl rfl rfl (by decide +kernel) ⟨Nat.le_trans (m := rm_X7_chase.frames) (by decide) hRf, Nat.le_trans (m := rm_X7_chase.locals) (by decide) hRl⟩) hN hP hK ⟨Nat.zero_le _, Nat.zero_le _⟩ [0, 1, 2, 3, 4, 5, 6, 7, 8, 9, 10, 11, 12, 13, 14, 15, 16, 17, 18, 19] rfl [0, 1, 2, 3, 4, 5, 6, 7, 8, 9, 10, 11, 12, 13, 14, 15, 16, 17, 18] rfl 0 7 rfl rfl rfl hl.1 rfl (Nat.le_of_ble_eq_true rfl) dX7_chase_23 ?_
      refine lv_if_ne (tgt := 32) hx hb dX7_chase_26 (by decide) (fun c6 => ?_) (fun c6 => ?_)
      · have hr := ite_n hr c6
        refine lv_aload_n hx hb dX7_chase_32 rfl (lv_at hl 0 rfl) ?_
        refine lv_iconst (v := (0 : Int32)) hx hb dX7_chase_33 (by decide) ?_
        refine va_put (D := (dC, dI)) (ci := 7) (v := .int (0 : Int32)) (ty := .int) (C := RX7) (T := TX7) (N := 29) hx hb hts huX7 tyX7 tyX7_ok nmX7 hown hK hP hD hS 0 rfl rfl 14 (by decide) hf183 (fun _ h9 => h9) rfl (by decide +kernel) rfl rfl (Nat.le_of_ble_eq_true rfl) dX7_chase_34 (fun H locs hP hD hS => ?_)
        have hP : va_P (dC, dI) vwCl (wd_X7 ad cA mo_wide mo_high mo_law mo_acts mo_newBlack mo_newWhite mo_taken (0 : Int32) mo_isSpent mo_found a_neighbours a_act a_blackAt a_whiteAt a_moveAt a_takenBlack a_takenWhite a_chaseBlack a_chaseWhite a_aheadBlack a_aheadWhite a_hasAhead a_breathsLeft a_laidBlack a_laidWhite a_answersLeft a_firstAnswer a_answering a_next) H := hP
        have hD : va_D A (wd_X7 ad cA mo_wide mo_high mo_law mo_acts mo_newBlack mo_newWhite mo_taken (0 : Int32) mo_isSpent mo_found a_neighbours a_act a_blackAt a_whiteAt a_moveAt a_takenBlack a_takenWhite a_chaseBlack a_chaseWhite a_aheadBlack a_aheadWhite a_hasAhead a_breathsLeft a_laidBlack a_laidWhite a_answersLeft a_firstAnswer a_answering a_next) := hD
        refine lv_aload_n hx hb dX7_chase_37 rfl (lv_at hl 0 rfl) ?_
        refine lv_iconst (v := (0 : Int32)) hx hb dX7_chase_38 (by decide) ?_
        refine va_put (D := (dC, dI)) (ci := 7) (v := .int (0 : Int32)) (ty := .boolean) (C := RX7) (T := TX7) (N := 29) hx hb hts huX7 tyX7 tyX7_ok nmX7 hown hK hP hD hS 0 rfl rfl 15 (by decide) hf186 (fun _ h9 => h9) rfl (by decide +kernel) rfl rfl (Nat.le_of_ble_eq_true rfl) dX7_chase_39 (fun H locs hP hD hS => ?_)
        have hP : va_P (dC, dI) vwCl (wd_X7 ad cA mo_wide mo_high mo_law mo_acts mo_newBlack mo_newWhite mo_taken (0 : Int32) (0 : Int32) mo_found a_neighbours a_act a_blackAt a_whiteAt a_moveAt a_takenBlack a_takenWhite a_chaseBlack a_chaseWhite a_aheadBlack a_aheadWhite a_hasAhead a_breathsLeft a_laidBlack a_laidWhite a_answersLeft a_firstAnswer a_answering a_next) H := hP
        have hD : va_D A (wd_X7 ad cA mo_wide mo_high mo_law mo_acts mo_newBlack mo_newWhite mo_taken (0 : Int32) (0 : Int32) mo_found a_neighbours a_act a_blackAt a_whiteAt a_moveAt a_takenBlack a_takenWhite a_chaseBlack a_chaseWhite a_aheadBlack a_aheadWhite a_hasAhead a_breathsLeft a_laidBlack a_laidWhite a_answersLeft a_firstAnswer a_answering a_next) := hD
        refine lv_aload_n hx hb dX7_chase_42 rfl (lv_at hl 0 rfl) ?_
        refine lv_aload_n hx hb dX7_chase_43 rfl (lv_at hl 0 rfl) ?_
        refine lv_iload_n hx hb dX7_chase_44 rfl (lv_at hl 1 rfl) ?_
        obtain ⟨q7, hq7, hr⟩ := bd_use hr
        refine pcV_i (As := [.int a0]) (rest := [.ref (ad 0)]) S (c_X7_atOf l dC dI ad cA mo_wide mo_high mo_law mo_acts mo_newBlack mo_newWhite mo_taken (0 : Int32) (0 : Int32) mo_found a_neighbours a_act a_blackAt a_whiteAt a_moveAt a_takenBlack a_takenWhite a_chaseBlack a_chaseWhite a_aheadBlack a_aheadWhite a_hasAhead a_breathsLeft a_laidBlack a_laidWhite a_answersLeft a_firstAnswer a_answering a_next a0 q7 hq7) (cwV 1 hts gX7_chase_X7_atOf rfl rfl rfl (by decide +kernel) ⟨Nat.le_trans (m := rm_X7_chase.frames) (by decide) hRf, Nat.le_trans (m := rm_X7_chase.locals) (by decide) hRl⟩) hN hP hK ⟨Nat.zero_le _, Nat.zero_le _⟩ [0, 1, 2, 3, 4, 5, 6, 7, 8, 9, 10, 11, 12, 13, 14, 15, 16, 17, 18, 19] rfl [0, 1, 2, 3, 4, 5, 6, 7, 8, 9, 10, 11, 12, 13, 14, 15, 16, 17, 18] rfl 0 7 rfl rfl rfl hl.1 rfl (Nat.le_of_ble_eq_true rfl) dX7_chase_45 ?_
        refine lv_iload_n hx hb dX7_chase_48 rfl (lv_at hl 1 rfl) ?_
        refine lv_iload_n hx hb dX7_chase_49 rfl (lv_at hl 2 rfl) ?_
        obtain ⟨q8, hq8, hr⟩ := bd_use hr
        refine icV_i (As := [.int q7, .int a0, .int a1]) (rest := []) (ws2 := (wd_X7 ad cA mo_wide mo_high mo_law mo_acts q8.2.1 q8.2.2.1 q8.2.2.2.1 q8.2.2.2.2.1 q8.2.2.2.2.2.1 mo_found a_neighbours a_act a_blackAt a_whiteAt a_moveAt a_takenBlack a_takenWhite q8.2.2.2.2.2.2.1 q8.2.2.2.2.2.2.2.1 q8.2.2.2.2.2.2.2.2.1 q8.2.2.2.2.2.2.2.2.2.1 q8.2.2.2.2.2.2.2.2.2.2.1 q8.2.2.2.2.2.2.2.2.2.2.2.1 q8.2.2.2.2.2.2.2.2.2.2.2.2.1 q8.2.2.2.2.2.2.2.2.2.2.2.2.2.1 q8.2.2.2.2.2.2.2.2.2.2.2.2.2.2.1 q8.2.2.2.2.2.2.2.2.2.2.2.2.2.2.2.1 q8.2.2.2.2.2.2.2.2.2.2.2.2.2.2.2.2 a_next)) S (c_X7_isCaught l dC dI ad cA mo_wide mo_high mo_law mo_acts mo_newBlack mo_newWhite mo_taken (0 : Int32) (0 : Int32) mo_found a_neighbours a_act a_blackAt a_whiteAt a_moveAt a_takenBlack a_takenWhite a_chaseBlack a_chaseWhite a_aheadBlack a_aheadWhite a_hasAhead a_breathsLeft a_laidBlack a_laidWhite a_answersLeft a_firstAnswer a_answering a_next H.size q7 a0 a1 q8 hq8) (cwV 3 hts gX7_chase_X7_isCaught rfl rfl rfl (by decide +kernel) ⟨Nat.le_trans (m := rm_X7_chase.frames) (by decide) hRf, Nat.le_trans (m := rm_X7_chase.locals) (by decide) hRl⟩) hN hP hK hD hS hA ⟨Nat.zero_le _, Nat.zero_le _⟩ [0, 1, 2, 3, 4, 5, 6, 7, 8, 9, 10, 11, 12, 13, 14, 15, 16, 17, 18, 19] [] [0, 1, 2, 3, 4, 5, 6, 7, 8, 9, 10, 11, 12, 13, 14, 15, 16, 17, 18, 19] rfl rfl rfl rfl rfl (by decide) rfl rfl rfl [0, 1, 2, 3, 4, 5, 6, 7, 8, 9, 10, 11, 12, 13, 14, 15, 16, 17, 18] rfl 0 7 rfl rfl rfl hl.1 rfl (Nat.le_of_ble_eq_true rfl) dX7_chase_50 (fun H locs hP hD hS => ?_)
        refine lv_topi (fun x9 ex9 => ?_)
        have hr := nm_use hr ex9
        refine lv_istore_n (lv' := [(3, .int x9), (0, .ref (ad 0)), (1, .int a0), (2, .int a1)]) hx hb dX7_chase_53 rfl hl (by decide) rfl (fun ls hl => ?_)
        refine lv_aload_n hx hb dX7_chase_54 rfl (lv_at hl 1 rfl) ?_
        refine va_get (D := (dC, dI)) (ci := 7) (v := .int q8.2.2.2.2.2.1) (C := RX7) (T := TX7) (N := 29) hx hb hts huX7 hown hK hP 0 rfl rfl 15 (by decide) hf186 (fun _ h9 => h9) rfl dX7_chase_55 ?_
        refine lv_if_eq (tgt := 66) hx hb dX7_chase_58 (by decide) (fun c10 => ?_) (fun c10 => ?_)
        · have hr := ite_p hr c10
          refine lv_iload_n hx hb dX7_chase_66 rfl (lv_at hl 0 rfl) ?_
          refine lv_if_eq (tgt := 74) hx hb dX7_chase_67 (by decide) (fun c11 => ?_) (fun c11 => ?_)
          · have hr := ite_p hr c11
            refine lv_iconst (v := (0 : Int32)) hx hb dX7_chase_74 (by decide) ?_
            obtain rfl := Option.some.inj hr
            exact kret _ _ _ _ dX7_chase_75 hP hD hS
          · have hr := ite_n hr c11
            refine lv_iconst (v := (1 : Int32)) hx hb dX7_chase_70 (by decide) ?_
            refine lv_goto (tgt := 75) hx hb dX7_chase_71 (by decide) ?_
            obtain rfl := Option.some.inj hr
            exact kret _ _ _ _ dX7_chase_75 hP hD hS
        · have hr := ite_n hr c10
          refine lv_bipush (v := (-5 : Int32)) hx hb dX7_chase_61 (by decide) ?_
          refine lv_goto (tgt := 75) hx hb dX7_chase_63 (by decide) ?_
          obtain rfl := Option.some.inj hr
          exact kret _ _ _ _ dX7_chase_75 hP hD hS
      · have hr := ite_p hr c6
        refine lv_bipush (v := (-3 : Int32)) hx hb dX7_chase_29 (by decide) ?_
        obtain rfl := Option.some.inj hr
        exact kret _ _ _ _ dX7_chase_31 hP hD hS
    · have hr := ite_p hr c4
      refine lv_bipush (v := (-2 : Int32)) hx hb dX7_chase_18 (by decide) ?_
      obtain rfl := Option.some.inj hr
      exact kret _ _ _ _ dX7_chase_20 hP hD hS

def f_X7_isGone (a_blackAt : Nat → Int64) (a_whiteAt : Nat → Int64) (a0 : Int32) (a1 : Int32) (a2 : Int32) : Option (Int32) :=
  nm (fun (u1 : Int64) =>
  if (jshr u1 a2) &&& (1 : Int64) = (0 : Int64) then (
    some ((1 : Int32))
  )
  else (
    some ((0 : Int32))
  )
  ) fun K2 =>
  if a1 = (1 : Int32) then (
    if (a0 < 0 ∨ 130 ≤ a0.toNatClampNeg) then none else
    K2 (a_blackAt a0.toNatClampNeg)
  )
  else (
    if (a0 < 0 ∨ 130 ≤ a0.toNatClampNeg) then none else
    K2 (a_whiteAt a0.toNatClampNeg)
  )

abbrev rm_X7_isGone : Room := { frames := 0, cells := 0, slots := 0, locals := 0 }
set_option maxHeartbeats 4000000 in
set_option maxRecDepth 100000 in
theorem c_X7_isGone (l : Launch) (dC : Nat → ClassId) (dI : Nat → Nat → Nat) (ad : Nat → Nat) (cA : Nat → ClassId) (mo_wide mo_high mo_law mo_acts : Int32) (mo_newBlack mo_newWhite : Int64) (mo_taken mo_triesMany mo_isSpent mo_found : Int32) (a_neighbours : Nat → Int64) (a_act : Nat → Int32) (a_blackAt a_whiteAt : Nat → Int64) (a_moveAt a_takenBlack a_takenWhite : Nat → Int32) (a_chaseBlack a_chaseWhite a_aheadBlack a_aheadWhite : Nat → Int64) (a_hasAhead : Nat → Int32) (a_breathsLeft a_laidBlack a_laidWhite a_answersLeft : Nat → Int64) (a_firstAnswer a_answering a_next : Nat → Int32) (a0 : Int32) (a1 : Int32) (a2 : Int32) (q : Int32) (hr : f_X7_isGone a_blackAt a_whiteAt a0 a1 a2 = some q) : Met l yX7_isGone wsX7_isGone rm_X7_isGone (PrP (dC, dI) (wd_X7 ad cA mo_wide mo_high mo_law mo_acts mo_newBlack mo_newWhite mo_taken mo_triesMany mo_isSpent mo_found a_neighbours a_act a_blackAt a_whiteAt a_moveAt a_takenBlack a_takenWhite a_chaseBlack a_chaseWhite a_aheadBlack a_aheadWhite a_hasAhead a_breathsLeft a_laidBlack a_laidWhite a_answersLeft a_firstAnswer a_answering a_next) (td_X7 cA) [.ref (ad 0), .int a0, .int a1, .int a2]) (vp_Si (fun x => x = q)) 0 0 (fun _ => False) := by
  refine mkP_z (cc := cX7_isGone) (nL := 4) (by decide) rfl (Nat.le_of_ble_eq_true rfl) ?_
  intro p e R s m args below meth c H Q ls hRf hRl S hN hP hK hl kret
  have hl : lv_has ls 4 [(0, .ref (ad 0)), (1, .int a0), (2, .int a1), (3, .int a2)] := hl
  obtain ⟨hx, hb, hml, hown, hts⟩ := S
  have hown : s.vm.findClass RX7 = some m.cls := hown
  have S : CallFix p m c cX7_isGone 4 s args wsX7_isGone RX7 := ⟨hx, hb, hml, hown, hts⟩
  have huX7 : ∀ w ∈ u_ws RX7 TX7 29, w ∈ wsX7_isGone := by decide +kernel
  have hf27 := hts (.fieldLink RX7 27 "EyeBoardModel" "whiteAt" "[J") (by decide +kernel)
  have hf24 := hts (.fieldLink RX7 24 "EyeBoardModel" "blackAt" "[J") (by decide +kernel)
  unfold f_X7_isGone at hr
  refine lv_iload_n hx hb dX7_isGone_0 rfl (lv_at hl 2 rfl) ?_
  refine lv_iconst (v := (1 : Int32)) hx hb dX7_isGone_1 (by decide) ?_
  obtain ⟨K2, eK2, hr⟩ := nm_ex hr
  have kK2 : ∀ (u1 : Int64) , K2 u1 = some q → ∀ (ls : Array Slot), lv_has ls 4 [(3, .int a2)] → W p l e R s m args below meth c H [] 0 0 Q (F0 m 20 ls [.long u1]) := by
    intro u1 hr ls hl
    rw [eK2] at hr
    refine lv_iload_n hx hb dX7_isGone_20 rfl (lv_at hl 0 rfl) ?_
    refine lv_lshr (v := jshr u1 a2) hx hb dX7_isGone_21 rfl ?_
    refine lv_lconst (v := (1 : Int64)) hx hb dX7_isGone_22 (by decide) ?_
    refine lv_land hx hb dX7_isGone_23 ?_
    refine lv_lconst (v := (0 : Int64)) hx hb dX7_isGone_24 (by decide) ?_
    refine W.lcmp hx hb dX7_isGone_25 ?_
    refine lv_if_ne (tgt := 33) hx hb dX7_isGone_26 (by decide) (fun c3 => ?_) (fun c3 => ?_)
    · have c3 := cmp_f c3
      have hr := ite_n hr c3
      refine lv_iconst (v := (0 : Int32)) hx hb dX7_isGone_33 (by decide) ?_
      obtain rfl := Option.some.inj hr
      exact kret _ _ dX7_isGone_34 nar_0
    · have c3 := cmp_t c3
      have hr := ite_p hr c3
      refine lv_iconst (v := (1 : Int32)) hx hb dX7_isGone_29 (by decide) ?_
      refine lv_goto (tgt := 34) hx hb dX7_isGone_30 (by decide) ?_
      obtain rfl := Option.some.inj hr
      exact kret _ _ dX7_isGone_34 nar_1
  refine lv_icmp_ne (tgt := 14) hx hb dX7_isGone_2 (by decide) (fun c4 => ?_) (fun c4 => ?_)
  · have hr := ite_n hr c4
    refine lv_aload_n hx hb dX7_isGone_14 rfl (lv_at hl 0 rfl) ?_
    refine va_get (D := (dC, dI)) (ci := 7) (v := .ref (ad 4)) (C := RX7) (T := TX7) (N := 29) hx hb hts huX7 hown hK hP 0 rfl rfl 7 (by decide) hf27 (fun _ h9 => h9) rfl dX7_isGone_15 ?_
    refine lv_iload_n hx hb dX7_isGone_18 rfl (lv_at hl 1 rfl) ?_
    obtain ⟨hi5, hr⟩ := ite_g hr
    refine va_lald hx hb hK hP 4 3 rfl rfl hi5 dX7_isGone_19 ?_
    exact kK2 (a_whiteAt a0.toNatClampNeg) hr ls (lv_sub hl [3] rfl)
  · have hr := ite_p hr c4
    refine lv_aload_n hx hb dX7_isGone_5 rfl (lv_at hl 0 rfl) ?_
    refine va_get (D := (dC, dI)) (ci := 7) (v := .ref (ad 3)) (C := RX7) (T := TX7) (N := 29) hx hb hts huX7 hown hK hP 0 rfl rfl 6 (by decide) hf24 (fun _ h9 => h9) rfl dX7_isGone_6 ?_
    refine lv_iload_n hx hb dX7_isGone_9 rfl (lv_at hl 1 rfl) ?_
    obtain ⟨hi6, hr⟩ := ite_g hr
    refine va_lald hx hb hK hP 3 2 rfl rfl hi6 dX7_isGone_10 ?_
    refine lv_goto (tgt := 20) hx hb dX7_isGone_11 (by decide) ?_
    exact kK2 (a_blackAt a0.toNatClampNeg) hr ls (lv_sub hl [3] rfl)

