def lp_X7_isTaken_16 (mo_wide : Int32) (mo_high : Int32) (mo_law : Int32) (mo_acts : Int32) (a_neighbours : Nat → Int64) (a0 : Int32) (a1 : Int32) (a2 : Int32) : Nat → Int32 → Int32 → Int32 → Int64 → Int64 → Int32 → Int32 → Int32 → (Nat → Int64) → (Nat → Int64) → (Nat → Int32) → (Nat → Int32) → Option (Int32 × Int64 × Int64 × Int32 × Int32 × Int32 × (Nat → Int64) × (Nat → Int64) × (Nat → Int32) × (Nat → Int32))
  | 0, _, _, _, _, _, _, _, _, _, _, _, _ => none
  | nF + 1, v2, v3, v4, w5, w6, w7, w8, w9, w10, w11, w12, w13 =>
    if v2 < 0 then (
      if ¬ (v4 = 0 ∨ v4 = 1) then none else
      some (v4, w5, w6, w7, w8, w9, w10, w11, w12, w13)
    )
    else (
      if w9 = 0 then (
        nm (mo_acts + v2) fun x18 =>
        if (x18 < 0 ∨ 130 ≤ x18.toNatClampNeg) then none else
        nm (fun (u20 : Int32) =>
        nm (fun (u22 : Int32) =>
        nm (if u22 = 0 then (
          if u20 = 0 then (
            nm (v2 + (-1)) fun x27 =>
            lp_X7_isTaken_16 mo_wide mo_high mo_law mo_acts a_neighbours a0 a1 a2 nF x27 (1 : Int32) (0 : Int32) w5 w6 w7 w8 w9 w10 w11 w12 w13
          )
          else (
            if a2 ≤ v2 then (
              nm (v2 + (-1)) fun x29 =>
              lp_X7_isTaken_16 mo_wide mo_high mo_law mo_acts a_neighbours a0 a1 a2 nF x29 (1 : Int32) (0 : Int32) w5 w6 w7 w8 w9 w10 w11 w12 w13
            )
            else (
              nm (v2 + (-1)) fun x30 =>
              lp_X7_isTaken_16 mo_wide mo_high mo_law mo_acts a_neighbours a0 a1 a2 nF x30 (1 : Int32) (1 : Int32) w5 w6 w7 w8 w9 w10 w11 w12 w13
            )
          )
        )
        else (
          nm (v2 + (-1)) fun x31 =>
          lp_X7_isTaken_16 mo_wide mo_high mo_law mo_acts a_neighbours a0 a1 a2 nF x31 (1 : Int32) v4 w5 w6 w7 w8 w9 w10 w11 w12 w13
        )
        ) fun K24 =>
        if u22 = 0 then (
          if (v2 < 0 ∨ 7 ≤ v2.toNatClampNeg) then none else
          (f_X7_size mo_wide mo_high).bind fun q34 =>
          if q34 < w13 v2.toNatClampNeg then (
            K24
          )
          else (
            if v2 = a2 then (
              K24
            )
            else (
              if (v2 < 0 ∨ 7 ≤ v2.toNatClampNeg) then none else
              nm (w13 v2.toNatClampNeg) fun x38 =>
              if (v2 < 0 ∨ 7 ≤ v2.toNatClampNeg) then none else
              nm ((w13 v2.toNatClampNeg) + (1 : Int32)) fun x40 =>
              if (v2 < 0 ∨ 7 ≤ v2.toNatClampNeg) then none else
              (f_X7_size mo_wide mo_high).bind fun q42 =>
              nm (fun (u43 : Int32) =>
              nm (fun (w45 : Int64) (w46 : Int64) (w47 : Int32) =>
              (f_X7_counts w8 w9).bind fun q49 =>
              nm (fun (u50 : Int64) =>
              if (x18 + (1 : Int32) < 0 ∨ 130 ≤ (x18 + (1 : Int32)).toNatClampNeg) then none else
              nm (fun (u53 : Int64) =>
              if (x18 + (1 : Int32) < 0 ∨ 130 ≤ (x18 + (1 : Int32)).toNatClampNeg) then none else
              if (x18 < 0 ∨ 130 ≤ x18.toNatClampNeg) then none else
              (f_X7_other (w12 x18.toNatClampNeg)).bind fun q57 =>
              if (x18 + (1 : Int32) < 0 ∨ 130 ≤ (x18 + (1 : Int32)).toNatClampNeg) then none else
              (f_X7_isGone (vp_updL w10 (x18 + (1 : Int32)).toNatClampNeg u50) (vp_updL w11 (x18 + (1 : Int32)).toNatClampNeg u53) (x18 + (1 : Int32)) a0 a1).bind fun q59 =>
              if q59 = 0 then (
                nm (v2 + 1) fun x61 =>
                if (x61 < 0 ∨ 7 ≤ x61.toNatClampNeg) then none else
                lp_X7_isTaken_16 mo_wide mo_high mo_law mo_acts a_neighbours a0 a1 a2 nF x61 (0 : Int32) v4 w45 w46 w47 q49.1 q49.2 (vp_updL w10 (x18 + (1 : Int32)).toNatClampNeg u50) (vp_updL w11 (x18 + (1 : Int32)).toNatClampNeg u53) (upd w12 (x18 + (1 : Int32)).toNatClampNeg q57) (upd (upd w13 v2.toNatClampNeg x40) x61.toNatClampNeg (0 : Int32))
              )
              else (
                lp_X7_isTaken_16 mo_wide mo_high mo_law mo_acts a_neighbours a0 a1 a2 nF v2 (1 : Int32) (1 : Int32) w45 w46 w47 q49.1 q49.2 (vp_updL w10 (x18 + (1 : Int32)).toNatClampNeg u50) (vp_updL w11 (x18 + (1 : Int32)).toNatClampNeg u53) (upd w12 (x18 + (1 : Int32)).toNatClampNeg q57) (upd w13 v2.toNatClampNeg x40)
              )
              ) fun K54 =>
              if u43 = 0 then (
                K54 w46
              )
              else (
                if (x18 < 0 ∨ 130 ≤ x18.toNatClampNeg) then none else
                K54 (w11 x18.toNatClampNeg)
              )
              ) fun K51 =>
              if u43 = 0 then (
                K51 w45
              )
              else (
                if (x18 < 0 ∨ 130 ≤ x18.toNatClampNeg) then none else
                K51 (w10 x18.toNatClampNeg)
              )
              ) fun K48 =>
              if u43 = 0 then (
                if (x18 < 0 ∨ 130 ≤ x18.toNatClampNeg) then none else
                (f_X7_reason mo_wide mo_high mo_law w5 w6 w7 a_neighbours w10 w11 w12 x18 (w12 x18.toNatClampNeg) x38).bind fun q69 =>
                if q69.1 = 0 then (
                  K48 q69.2.1 q69.2.2.1 q69.2.2.2
                )
                else (
                  lp_X7_isTaken_16 mo_wide mo_high mo_law mo_acts a_neighbours a0 a1 a2 nF v2 (0 : Int32) v4 q69.2.1 q69.2.2.1 q69.2.2.2 w8 w9 w10 w11 w12 (upd w13 v2.toNatClampNeg x40)
                )
              )
              else (
                K48 w5 w6 w7
              )
              ) fun K44 =>
              if x38 = q42 then (
                K44 (1 : Int32)
              )
              else (
                K44 (0 : Int32)
              )
            )
          )
        )
        else (
          K24
        )
        ) fun K23 =>
        if v3 = 0 then (
          K23 (0 : Int32)
        )
        else (
          if v4 = u20 then (
            K23 (0 : Int32)
          )
          else (
            K23 (1 : Int32)
          )
        )
        ) fun K21 =>
        if w12 x18.toNatClampNeg = a0 then (
          K21 (1 : Int32)
        )
        else (
          K21 (0 : Int32)
        )
      )
      else (
        if ¬ (v4 = 0 ∨ v4 = 1) then none else
        some (v4, w5, w6, w7, w8, w9, w10, w11, w12, w13)
      )
    )

def f_X7_isTaken (mo_wide : Int32) (mo_high : Int32) (mo_law : Int32) (mo_acts : Int32) (mo_newBlack : Int64) (mo_newWhite : Int64) (mo_taken : Int32) (mo_triesMany : Int32) (mo_isSpent : Int32) (a_neighbours : Nat → Int64) (a_blackAt : Nat → Int64) (a_whiteAt : Nat → Int64) (a_moveAt : Nat → Int32) (a_next : Nat → Int32) (a0 : Int32) (a1 : Int32) (a2 : Int32) : Option (Int32 × Int64 × Int64 × Int32 × Int32 × Int32 × (Nat → Int64) × (Nat → Int64) × (Nat → Int32) × (Nat → Int32)) :=
  if ((0 : Int32) < 0 ∨ 7 ≤ (0 : Int32).toNatClampNeg) then none else
  lp_X7_isTaken_16 mo_wide mo_high mo_law mo_acts a_neighbours a0 a1 a2 FU (0 : Int32) (0 : Int32) (0 : Int32) mo_newBlack mo_newWhite mo_taken mo_triesMany mo_isSpent a_blackAt a_whiteAt a_moveAt (upd a_next (0 : Int32).toNatClampNeg (0 : Int32))

abbrev rm_X7_isTaken : Room := { frames := 5, cells := 0, slots := 0, locals := 134 }
set_option maxHeartbeats 4000000 in
set_option maxRecDepth 100000 in
theorem c_X7_isTaken (l : Launch) (dC : Nat → ClassId) (dI : Nat → Nat → Nat) (ad : Nat → Nat) (cA : Nat → ClassId) (mo_wide mo_high mo_law mo_acts : Int32) (mo_newBlack mo_newWhite : Int64) (mo_taken mo_triesMany mo_isSpent mo_found : Int32) (a_neighbours : Nat → Int64) (a_act : Nat → Int32) (a_blackAt a_whiteAt : Nat → Int64) (a_moveAt a_takenBlack a_takenWhite : Nat → Int32) (a_chaseBlack a_chaseWhite a_aheadBlack a_aheadWhite : Nat → Int64) (a_hasAhead : Nat → Int32) (a_breathsLeft a_laidBlack a_laidWhite a_answersLeft : Nat → Int64) (a_firstAnswer a_answering a_next : Nat → Int32) (sz : Nat) (a0 : Int32) (a1 : Int32) (a2 : Int32) (q : Int32 × Int64 × Int64 × Int32 × Int32 × Int32 × (Nat → Int64) × (Nat → Int64) × (Nat → Int32) × (Nat → Int32)) (hr : f_X7_isTaken mo_wide mo_high mo_law mo_acts mo_newBlack mo_newWhite mo_taken mo_triesMany mo_isSpent a_neighbours a_blackAt a_whiteAt a_moveAt a_next a0 a1 a2 = some q) : Met l yX7_isTaken wsX7_isTaken rm_X7_isTaken (PrI (dC, dI) (wd_X7 ad cA mo_wide mo_high mo_law mo_acts mo_newBlack mo_newWhite mo_taken mo_triesMany mo_isSpent mo_found a_neighbours a_act a_blackAt a_whiteAt a_moveAt a_takenBlack a_takenWhite a_chaseBlack a_chaseWhite a_aheadBlack a_aheadWhite a_hasAhead a_breathsLeft a_laidBlack a_laidWhite a_answersLeft a_firstAnswer a_answering a_next) (td_X7 cA) sz [.ref (ad 0), .int a0, .int a1, .int a2]) (QIi (dC, dI) (wd_X7 ad cA mo_wide mo_high mo_law mo_acts mo_newBlack mo_newWhite mo_taken mo_triesMany mo_isSpent mo_found a_neighbours a_act a_blackAt a_whiteAt a_moveAt a_takenBlack a_takenWhite a_chaseBlack a_chaseWhite a_aheadBlack a_aheadWhite a_hasAhead a_breathsLeft a_laidBlack a_laidWhite a_answersLeft a_firstAnswer a_answering a_next) (td_X7 cA) sz q.1 (wd_X7 ad cA mo_wide mo_high mo_law mo_acts q.2.1 q.2.2.1 q.2.2.2.1 q.2.2.2.2.1 q.2.2.2.2.2.1 mo_found a_neighbours a_act q.2.2.2.2.2.2.1 q.2.2.2.2.2.2.2.1 q.2.2.2.2.2.2.2.2.1 a_takenBlack a_takenWhite a_chaseBlack a_chaseWhite a_aheadBlack a_aheadWhite a_hasAhead a_breathsLeft a_laidBlack a_laidWhite a_answersLeft a_firstAnswer a_answering q.2.2.2.2.2.2.2.2.2)) 0 0 (va_A (wd_X7 ad cA mo_wide mo_high mo_law mo_acts mo_newBlack mo_newWhite mo_taken mo_triesMany mo_isSpent mo_found a_neighbours a_act a_blackAt a_whiteAt a_moveAt a_takenBlack a_takenWhite a_chaseBlack a_chaseWhite a_aheadBlack a_aheadWhite a_hasAhead a_breathsLeft a_laidBlack a_laidWhite a_answersLeft a_firstAnswer a_answering a_next) sz) := by
  refine mkI_z (cc := cX7_isTaken) (nL := 12) (by decide) rfl (Nat.le_of_ble_eq_true rfl) ?_
  intro p e R s m args below meth c H0 H locs A Q ls hRf hRl S hN hP hK hD hA hS hl kret
  have hl : lv_has ls 12 [(0, .ref (ad 0)), (1, .int a0), (2, .int a1), (3, .int a2)] := hl
  obtain ⟨hx, hb, hml, hown, hts⟩ := S
  have hown : s.vm.findClass RX7 = some m.cls := hown
  have S : CallFix p m c cX7_isTaken 12 s args wsX7_isTaken RX7 := ⟨hx, hb, hml, hown, hts⟩
  have huX7 : ∀ w ∈ u_ws RX7 TX7 29, w ∈ wsX7_isTaken := by decide +kernel
  have hf76 := hts (.fieldLink RX7 76 "EyeBoardModel" "next" "[I") (by decide +kernel)
  have hf186 := hts (.fieldLink RX7 186 "EyeBoardModel" "isSpent" "Z") (by decide +kernel)
  have hf86 := hts (.fieldLink RX7 86 "EyeBoardModel" "acts" "I") (by decide +kernel)
  have hf30 := hts (.fieldLink RX7 30 "EyeBoardModel" "moveAt" "[I") (by decide +kernel)
  have hf24 := hts (.fieldLink RX7 24 "EyeBoardModel" "blackAt" "[J") (by decide +kernel)
  have hf27 := hts (.fieldLink RX7 27 "EyeBoardModel" "whiteAt" "[J") (by decide +kernel)
  have hf126 := hts (.fieldLink RX7 126 "EyeBoardModel" "newWhite" "J") (by decide +kernel)
  have hf122 := hts (.fieldLink RX7 122 "EyeBoardModel" "newBlack" "J") (by decide +kernel)
  unfold f_X7_isTaken at hr
  refine lv_iconst (v := (0 : Int32)) hx hb dX7_isTaken_0 (by decide) ?_
  refine lv_istore (lv' := [(4, .int (0 : Int32)), (0, .ref (ad 0)), (1, .int a0), (2, .int a1), (3, .int a2)]) hx hb dX7_isTaken_1 hl (by decide) rfl (fun ls hl => ?_)
  refine lv_aload_n hx hb dX7_isTaken_3 rfl (lv_at hl 1 rfl) ?_
  refine va_get (D := (dC, dI)) (ci := 7) (v := .ref (ad 19)) (C := RX7) (T := TX7) (N := 29) hx hb hts huX7 hown hK hP 0 rfl rfl 28 (by decide) hf76 (fun _ h9 => h9) rfl dX7_isTaken_4 ?_
  refine lv_iconst (v := (0 : Int32)) hx hb dX7_isTaken_7 (by decide) ?_
  refine lv_iconst (v := (0 : Int32)) hx hb dX7_isTaken_8 (by decide) ?_
  obtain ⟨hi1, hr⟩ := ite_g hr
  refine va_iast hx hb hK hP hD hS 19 18 rfl rfl hi1 dX7_isTaken_9 (fun H locs hP hD hS => ?_)
  have hP : va_P (dC, dI) vwCl (wd_X7 ad cA mo_wide mo_high mo_law mo_acts mo_newBlack mo_newWhite mo_taken mo_triesMany mo_isSpent mo_found a_neighbours a_act a_blackAt a_whiteAt a_moveAt a_takenBlack a_takenWhite a_chaseBlack a_chaseWhite a_aheadBlack a_aheadWhite a_hasAhead a_breathsLeft a_laidBlack a_laidWhite a_answersLeft a_firstAnswer a_answering (upd a_next (0 : Int32).toNatClampNeg (0 : Int32))) H := hP
  have hD : va_D A (wd_X7 ad cA mo_wide mo_high mo_law mo_acts mo_newBlack mo_newWhite mo_taken mo_triesMany mo_isSpent mo_found a_neighbours a_act a_blackAt a_whiteAt a_moveAt a_takenBlack a_takenWhite a_chaseBlack a_chaseWhite a_aheadBlack a_aheadWhite a_hasAhead a_breathsLeft a_laidBlack a_laidWhite a_answersLeft a_firstAnswer a_answering (upd a_next (0 : Int32).toNatClampNeg (0 : Int32))) := hD
  refine lv_iconst (v := (0 : Int32)) hx hb dX7_isTaken_10 (by decide) ?_
  refine lv_istore (lv' := [(5, .int (0 : Int32)), (4, .int (0 : Int32)), (0, .ref (ad 0)), (1, .int a0), (2, .int a1), (3, .int a2)]) hx hb dX7_isTaken_11 hl (by decide) rfl (fun ls hl => ?_)
  refine lv_iconst (v := (0 : Int32)) hx hb dX7_isTaken_13 (by decide) ?_
  refine lv_istore (lv' := [(6, .int (0 : Int32)), (5, .int (0 : Int32)), (4, .int (0 : Int32)), (0, .ref (ad 0)), (1, .int a0), (2, .int a1), (3, .int a2)]) hx hb dX7_isTaken_14 hl (by decide) rfl (fun ls hl => ?_)
  have llp_X7_isTaken_16 : ∀ (nF : Nat) (v2 : Int32) (v3 : Int32) (v4 : Int32) (w5 : Int64) (w6 : Int64) (w7 : Int32) (w8 : Int32) (w9 : Int32) (w10 : Nat → Int64) (w11 : Nat → Int64) (w12 : Nat → Int32) (w13 : Nat → Int32) (H : Heap) (locs : List Loc), lp_X7_isTaken_16 mo_wide mo_high mo_law mo_acts a_neighbours a0 a1 a2 nF v2 v3 v4 w5 w6 w7 w8 w9 w10 w11 w12 w13 = some q → va_P (dC, dI) vwCl (wd_X7 ad cA mo_wide mo_high mo_law mo_acts w5 w6 w7 w8 w9 mo_found a_neighbours a_act w10 w11 w12 a_takenBlack a_takenWhite a_chaseBlack a_chaseWhite a_aheadBlack a_aheadWhite a_hasAhead a_breathsLeft a_laidBlack a_laidWhite a_answersLeft a_firstAnswer a_answering w13) H → va_D A (wd_X7 ad cA mo_wide mo_high mo_law mo_acts w5 w6 w7 w8 w9 mo_found a_neighbours a_act w10 w11 w12 a_takenBlack a_takenWhite a_chaseBlack a_chaseWhite a_aheadBlack a_aheadWhite a_hasAhead a_breathsLeft a_laidBlack a_laidWhite a_answersLeft a_firstAnswer a_answering w13) → va_S A H0 H locs → ∀ (ls : Array Slot), lv_has ls 12 [(0, .ref (ad 0)), (1, .int a0), (2, .int a1), (3, .int a2), (4, .int v2), (5, .int v3), (6, .int v4)] → W p l e R s m args below meth c H locs 0 0 Q (F0 m 16 ls []) := by
    intro nF
    induction nF with
    | zero => intro v2 v3 v4 w5 w6 w7 w8 w9 w10 w11 w12 w13 H locs hr; exact absurd hr (by simp [lp_X7_isTaken_16])
    | succ nF ih =>
      intro v2 v3 v4 w5 w6 w7 w8 w9 w10 w11 w12 w13 H locs hr hP hD hS ls hl
      rw [lp_X7_isTaken_16] at hr
      refine lv_iload hx hb dX7_isTaken_16 (lv_at hl 4 rfl) ?_
      refine lv_if_lt (tgt := 313) hx hb dX7_isTaken_18 (by decide) (fun c14 => ?_) (fun c14 => ?_)
      · have hr := ite_p hr c14
        refine lv_iload hx hb dX7_isTaken_313 (lv_at hl 6 rfl) ?_
        obtain ⟨hz15, hr⟩ := ite_g hr
        obtain rfl := Option.some.inj hr
        exact kret _ _ _ _ dX7_isTaken_315 hP hD hS (nar_z hz15)
      · have hr := ite_n hr c14
        refine lv_aload_n hx hb dX7_isTaken_21 rfl (lv_at hl 0 rfl) ?_
        refine va_get (D := (dC, dI)) (ci := 7) (v := .int w9) (C := RX7) (T := TX7) (N := 29) hx hb hts huX7 hown hK hP 0 rfl rfl 15 (by decide) hf186 (fun _ h9 => h9) rfl dX7_isTaken_22 ?_
        refine lv_if_ne (tgt := 313) hx hb dX7_isTaken_25 (by decide) (fun c16 => ?_) (fun c16 => ?_)
        · have hr := ite_n hr c16
          refine lv_iload hx hb dX7_isTaken_313 (lv_at hl 6 rfl) ?_
          obtain ⟨hz17, hr⟩ := ite_g hr
          obtain rfl := Option.some.inj hr
          exact kret _ _ _ _ dX7_isTaken_315 hP hD hS (nar_z hz17)
        · have hr := ite_p hr c16
          refine lv_aload_n hx hb dX7_isTaken_28 rfl (lv_at hl 0 rfl) ?_
          refine va_get (D := (dC, dI)) (ci := 7) (v := .int mo_acts) (C := RX7) (T := TX7) (N := 29) hx hb hts huX7 hown hK hP 0 rfl rfl 4 (by decide) hf86 (fun _ h9 => h9) rfl dX7_isTaken_29 ?_
          refine lv_iload hx hb dX7_isTaken_32 (lv_at hl 4 rfl) ?_
          refine lv_iadd hx hb dX7_isTaken_34 ?_
          refine lv_topi (fun x18 ex18 => ?_)
          have hr := nm_use hr ex18
          refine lv_istore (lv' := [(7, .int x18), (0, .ref (ad 0)), (1, .int a0), (2, .int a1), (3, .int a2), (4, .int v2), (5, .int v3), (6, .int v4)]) hx hb dX7_isTaken_35 hl (by decide) rfl (fun ls hl => ?_)
          refine lv_aload_n hx hb dX7_isTaken_37 rfl (lv_at hl 1 rfl) ?_
          refine va_get (D := (dC, dI)) (ci := 7) (v := .ref (ad 5)) (C := RX7) (T := TX7) (N := 29) hx hb hts huX7 hown hK hP 0 rfl rfl 8 (by decide) hf30 (fun _ h9 => h9) rfl dX7_isTaken_38 ?_
          refine lv_iload hx hb dX7_isTaken_41 (lv_at hl 0 rfl) ?_
          obtain ⟨hi19, hr⟩ := ite_g hr
          refine va_iald hx hb hK hP 5 4 rfl rfl hi19 dX7_isTaken_43 ?_
          refine lv_iload_n hx hb dX7_isTaken_44 rfl (lv_at hl 2 rfl) ?_
          obtain ⟨K21, eK21, hr⟩ := nm_ex hr
          have kK21 : ∀ (u20 : Int32) (H : Heap) (locs : List Loc) , K21 u20 = some q → va_P (dC, dI) vwCl (wd_X7 ad cA mo_wide mo_high mo_law mo_acts w5 w6 w7 w8 w9 mo_found a_neighbours a_act w10 w11 w12 a_takenBlack a_takenWhite a_chaseBlack a_chaseWhite a_aheadBlack a_aheadWhite a_hasAhead a_breathsLeft a_laidBlack a_laidWhite a_answersLeft a_firstAnswer a_answering w13) H → va_D A (wd_X7 ad cA mo_wide mo_high mo_law mo_acts w5 w6 w7 w8 w9 mo_found a_neighbours a_act w10 w11 w12 a_takenBlack a_takenWhite a_chaseBlack a_chaseWhite a_aheadBlack a_aheadWhite a_hasAhead a_breathsLeft a_laidBlack a_laidWhite a_answersLeft a_firstAnswer a_answering w13) → va_S A H0 H locs → ∀ (ls : Array Slot), lv_has ls 12 [(0, .ref (ad 0)), (1, .int a0), (2, .int a1), (3, .int a2), (4, .int v2), (5, .int v3), (6, .int v4), (7, .int x18)] → W p l e R s m args below meth c H locs 0 0 Q (F0 m 53 ls [.int u20]) := by
            intro u20 H locs hr hP hD hS ls hl
            rw [eK21] at hr
            refine lv_istore (lv' := [(8, .int u20), (0, .ref (ad 0)), (1, .int a0), (2, .int a1), (3, .int a2), (4, .int v2), (5, .int v3), (6, .int v4), (7, .int x18)]) hx hb dX7_isTaken_53 hl (by decide) rfl (fun ls hl => ?_)
            refine lv_iload hx hb dX7_isTaken_55 (lv_at hl 6 rfl) ?_
            obtain ⟨K23, eK23, hr⟩ := nm_ex hr
            have kK23 : ∀ (u22 : Int32) (H : Heap) (locs : List Loc) , K23 u22 = some q → va_P (dC, dI) vwCl (wd_X7 ad cA mo_wide mo_high mo_law mo_acts w5 w6 w7 w8 w9 mo_found a_neighbours a_act w10 w11 w12 a_takenBlack a_takenWhite a_chaseBlack a_chaseWhite a_aheadBlack a_aheadWhite a_hasAhead a_breathsLeft a_laidBlack a_laidWhite a_answersLeft a_firstAnswer a_answering w13) H → va_D A (wd_X7 ad cA mo_wide mo_high mo_law mo_acts w5 w6 w7 w8 w9 mo_found a_neighbours a_act w10 w11 w12 a_takenBlack a_takenWhite a_chaseBlack a_chaseWhite a_aheadBlack a_aheadWhite a_hasAhead a_breathsLeft a_laidBlack a_laidWhite a_answersLeft a_firstAnswer a_answering w13) → va_S A H0 H locs → ∀ (ls : Array Slot), lv_has ls 12 [(0, .ref (ad 0)), (1, .int a0), (2, .int a1), (3, .int a2), (4, .int v2), (6, .int v4), (7, .int x18), (8, .int u20)] → W p l e R s m args below meth c H locs 0 0 Q (F0 m 72 ls [.int u22]) := by
              intro u22 H locs hr hP hD hS ls hl
              rw [eK23] at hr
              refine lv_istore (lv' := [(9, .int u22), (0, .ref (ad 0)), (1, .int a0), (2, .int a1), (3, .int a2), (4, .int v2), (6, .int v4), (7, .int x18), (8, .int u20)]) hx hb dX7_isTaken_72 hl (by decide) rfl (fun ls hl => ?_)
              refine lv_iload hx hb dX7_isTaken_74 (lv_at hl 0 rfl) ?_
              obtain ⟨K24, eK24, hr⟩ := nm_ex hr
              have kK24 : ∀ (H : Heap) (locs : List Loc) , K24 = some q → va_P (dC, dI) vwCl (wd_X7 ad cA mo_wide mo_high mo_law mo_acts w5 w6 w7 w8 w9 mo_found a_neighbours a_act w10 w11 w12 a_takenBlack a_takenWhite a_chaseBlack a_chaseWhite a_aheadBlack a_aheadWhite a_hasAhead a_breathsLeft a_laidBlack a_laidWhite a_answersLeft a_firstAnswer a_answering w13) H → va_D A (wd_X7 ad cA mo_wide mo_high mo_law mo_acts w5 w6 w7 w8 w9 mo_found a_neighbours a_act w10 w11 w12 a_takenBlack a_takenWhite a_chaseBlack a_chaseWhite a_aheadBlack a_aheadWhite a_hasAhead a_breathsLeft a_laidBlack a_laidWhite a_answersLeft a_firstAnswer a_answering w13) → va_S A H0 H locs → ∀ (ls : Array Slot), lv_has ls 12 [(0, .ref (ad 0)), (1, .int a0), (2, .int a1), (3, .int a2), (4, .int v2), (6, .int v4), (8, .int u20), (9, .int u22)] → W p l e R s m args below meth c H locs 0 0 Q (F0 m 99 ls []) := by
                intro H locs hr hP hD hS ls hl
                rw [eK24] at hr
                refine lv_iload hx hb dX7_isTaken_99 (lv_at hl 7 rfl) ?_
                refine lv_if_eq (tgt := 109) hx hb dX7_isTaken_101 (by decide) (fun c25 => ?_) (fun c25 => ?_)
                · have hr := ite_p hr c25
                  refine lv_iload hx hb dX7_isTaken_109 (lv_at hl 6 rfl) ?_
                  refine lv_if_eq (tgt := 124) hx hb dX7_isTaken_111 (by decide) (fun c26 => ?_) (fun c26 => ?_)
                  · have hr := ite_p hr c26
                    refine lv_iconst (v := (0 : Int32)) hx hb dX7_isTaken_124 (by decide) ?_
                    refine lv_istore (lv' := [(6, .int (0 : Int32)), (0, .ref (ad 0)), (1, .int a0), (2, .int a1), (3, .int a2), (4, .int v2), (8, .int u20), (9, .int u22)]) hx hb dX7_isTaken_125 hl (by decide) rfl (fun ls hl => ?_)
                    obtain ⟨x27, ex27, hr⟩ := nm_ex hr
                    refine lv_iinc (v := x27) (lv' := [(4, .int x27), (6, .int (0 : Int32)), (0, .ref (ad 0)), (1, .int a0), (2, .int a1), (3, .int a2), (8, .int u20), (9, .int u22)]) hx hb dX7_isTaken_127 hl (k := 5) rfl (by rw [ex27]; rfl) (by decide) rfl (fun ls hl => ?_)
                    refine lv_iconst (v := (1 : Int32)) hx hb dX7_isTaken_130 (by decide) ?_
                    refine lv_istore (lv' := [(5, .int (1 : Int32)), (4, .int x27), (6, .int (0 : Int32)), (0, .ref (ad 0)), (1, .int a0), (2, .int a1), (3, .int a2), (8, .int u20), (9, .int u22)]) hx hb dX7_isTaken_131 hl (by decide) rfl (fun ls hl => ?_)
                    refine lv_goto (tgt := 16) hx hb dX7_isTaken_133 (by decide) ?_
                    exact ih x27 (1 : Int32) (0 : Int32) w5 w6 w7 w8 w9 w10 w11 w12 w13 _ _ hr hP hD hS ls (lv_sub hl [3, 4, 5, 6, 1, 0, 2] rfl)
                  · have hr := ite_n hr c26
                    refine lv_iload hx hb dX7_isTaken_114 (lv_at hl 4 rfl) ?_
                    refine lv_iload_n hx hb dX7_isTaken_116 rfl (lv_at hl 3 rfl) ?_
                    refine lv_icmp_ge (tgt := 124) hx hb dX7_isTaken_117 (by decide) (fun c28 => ?_) (fun c28 => ?_)
                    · have hr := ite_p hr c28
                      refine lv_iconst (v := (0 : Int32)) hx hb dX7_isTaken_124 (by decide) ?_
                      refine lv_istore (lv' := [(6, .int (0 : Int32)), (0, .ref (ad 0)), (1, .int a0), (2, .int a1), (3, .int a2), (4, .int v2), (8, .int u20), (9, .int u22)]) hx hb dX7_isTaken_125 hl (by decide) rfl (fun ls hl => ?_)
                      obtain ⟨x29, ex29, hr⟩ := nm_ex hr
                      refine lv_iinc (v := x29) (lv' := [(4, .int x29), (6, .int (0 : Int32)), (0, .ref (ad 0)), (1, .int a0), (2, .int a1), (3, .int a2), (8, .int u20), (9, .int u22)]) hx hb dX7_isTaken_127 hl (k := 5) rfl (by rw [ex29]; rfl) (by decide) rfl (fun ls hl => ?_)
                      refine lv_iconst (v := (1 : Int32)) hx hb dX7_isTaken_130 (by decide) ?_
                      refine lv_istore (lv' := [(5, .int (1 : Int32)), (4, .int x29), (6, .int (0 : Int32)), (0, .ref (ad 0)), (1, .int a0), (2, .int a1), (3, .int a2), (8, .int u20), (9, .int u22)]) hx hb dX7_isTaken_131 hl (by decide) rfl (fun ls hl => ?_)
                      refine lv_goto (tgt := 16) hx hb dX7_isTaken_133 (by decide) ?_
                      exact ih x29 (1 : Int32) (0 : Int32) w5 w6 w7 w8 w9 w10 w11 w12 w13 _ _ hr hP hD hS ls (lv_sub hl [3, 4, 5, 6, 1, 0, 2] rfl)
                    · have hr := ite_n hr c28
                      refine lv_iconst (v := (1 : Int32)) hx hb dX7_isTaken_120 (by decide) ?_
                      refine lv_goto (tgt := 125) hx hb dX7_isTaken_121 (by decide) ?_
                      refine lv_istore (lv' := [(6, .int (1 : Int32)), (0, .ref (ad 0)), (1, .int a0), (2, .int a1), (3, .int a2), (4, .int v2), (8, .int u20), (9, .int u22)]) hx hb dX7_isTaken_125 hl (by decide) rfl (fun ls hl => ?_)
                      obtain ⟨x30, ex30, hr⟩ := nm_ex hr
                      refine lv_iinc (v := x30) (lv' := [(4, .int x30), (6, .int (1 : Int32)), (0, .ref (ad 0)), (1, .int a0), (2, .int a1), (3, .int a2), (8, .int u20), (9, .int u22)]) hx hb dX7_isTaken_127 hl (k := 5) rfl (by rw [ex30]; rfl) (by decide) rfl (fun ls hl => ?_)
                      refine lv_iconst (v := (1 : Int32)) hx hb dX7_isTaken_130 (by decide) ?_
                      refine lv_istore (lv' := [(5, .int (1 : Int32)), (4, .int x30), (6, .int (1 : Int32)), (0, .ref (ad 0)), (1, .int a0), (2, .int a1), (3, .int a2), (8, .int u20), (9, .int u22)]) hx hb dX7_isTaken_131 hl (by decide) rfl (fun ls hl => ?_)
                      refine lv_goto (tgt := 16) hx hb dX7_isTaken_133 (by decide) ?_
                      exact ih x30 (1 : Int32) (1 : Int32) w5 w6 w7 w8 w9 w10 w11 w12 w13 _ _ hr hP hD hS ls (lv_sub hl [3, 4, 5, 6, 1, 0, 2] rfl)
                · have hr := ite_n hr c25
                  refine lv_iload hx hb dX7_isTaken_104 (lv_at hl 5 rfl) ?_
                  refine lv_goto (tgt := 125) hx hb dX7_isTaken_106 (by decide) ?_
                  refine lv_istore (lv' := [(6, .int v4), (0, .ref (ad 0)), (1, .int a0), (2, .int a1), (3, .int a2), (4, .int v2), (8, .int u20), (9, .int u22)]) hx hb dX7_isTaken_125 hl (by decide) rfl (fun ls hl => ?_)
                  obtain ⟨x31, ex31, hr⟩ := nm_ex hr
                  refine lv_iinc (v := x31) (lv' := [(4, .int x31), (6, .int v4), (0, .ref (ad 0)), (1, .int a0), (2, .int a1), (3, .int a2), (8, .int u20), (9, .int u22)]) hx hb dX7_isTaken_127 hl (k := 5) rfl (by rw [ex31]; rfl) (by decide) rfl (fun ls hl => ?_)
                  refine lv_iconst (v := (1 : Int32)) hx hb dX7_isTaken_130 (by decide) ?_
                  refine lv_istore (lv' := [(5, .int (1 : Int32)), (4, .int x31), (6, .int v4), (0, .ref (ad 0)), (1, .int a0), (2, .int a1), (3, .int a2), (8, .int u20), (9, .int u22)]) hx hb dX7_isTaken_131 hl (by decide) rfl (fun ls hl => ?_)
                  refine lv_goto (tgt := 16) hx hb dX7_isTaken_133 (by decide) ?_
                  exact ih x31 (1 : Int32) v4 w5 w6 w7 w8 w9 w10 w11 w12 w13 _ _ hr hP hD hS ls (lv_sub hl [3, 4, 5, 6, 1, 0, 2] rfl)
              refine lv_if_ne (tgt := 99) hx hb dX7_isTaken_76 (by decide) (fun c32 => ?_) (fun c32 => ?_)
              · have hr := ite_n hr c32
                exact kK24  _ _ hr hP hD hS ls (lv_sub hl [1, 2, 3, 4, 5, 6, 8, 0] rfl)
              · have hr := ite_p hr c32
                refine lv_aload_n hx hb dX7_isTaken_79 rfl (lv_at hl 1 rfl) ?_
                refine va_get (D := (dC, dI)) (ci := 7) (v := .ref (ad 19)) (C := RX7) (T := TX7) (N := 29) hx hb hts huX7 hown hK hP 0 rfl rfl 28 (by decide) hf76 (fun _ h9 => h9) rfl dX7_isTaken_80 ?_
                refine lv_iload hx hb dX7_isTaken_83 (lv_at hl 5 rfl) ?_
                obtain ⟨hi33, hr⟩ := ite_g hr
                refine va_iald hx hb hK hP 19 18 rfl rfl hi33 dX7_isTaken_85 ?_
                refine lv_aload_n hx hb dX7_isTaken_86 rfl (lv_at hl 1 rfl) ?_
                obtain ⟨q34, hq34, hr⟩ := bd_use hr
                refine pcV_i (As := []) (rest := [.int (w13 v2.toNatClampNeg)]) S (c_X7_size l dC dI ad cA mo_wide mo_high mo_law mo_acts w5 w6 w7 w8 w9 mo_found a_neighbours a_act w10 w11 w12 a_takenBlack a_takenWhite a_chaseBlack a_chaseWhite a_aheadBlack a_aheadWhite a_hasAhead a_breathsLeft a_laidBlack a_laidWhite a_answersLeft a_firstAnswer a_answering w13 q34 hq34) (cwV 0 hts gX7_isTaken_X7_size rfl rfl rfl (by decide +kernel) ⟨Nat.le_trans (m := rm_X7_isTaken.frames) (by decide) hRf, Nat.le_trans (m := rm_X7_isTaken.locals) (by decide) hRl⟩) hN hP hK ⟨Nat.zero_le _, Nat.zero_le _⟩ [0, 1, 2, 3, 4, 5, 6, 7, 8, 9, 10, 11, 12, 13, 14, 15, 16, 17, 18, 19] rfl [0, 1, 2, 3, 4, 5, 6, 7, 8, 9, 10, 11, 12, 13, 14, 15, 16, 17, 18] rfl 0 7 rfl rfl rfl hl.1 rfl (Nat.le_of_ble_eq_true rfl) dX7_isTaken_87 ?_
                refine lv_icmp_gt (tgt := 99) hx hb dX7_isTaken_90 (by decide) (fun c35 => ?_) (fun c35 => ?_)
                · have hr := ite_p hr c35
                  exact kK24  _ _ hr hP hD hS ls (lv_sub hl [1, 2, 3, 4, 5, 6, 8, 0] rfl)
                · have hr := ite_n hr c35
                  refine lv_iload hx hb dX7_isTaken_93 (lv_at hl 5 rfl) ?_
                  refine lv_iload_n hx hb dX7_isTaken_95 rfl (lv_at hl 4 rfl) ?_
                  refine lv_icmp_ne (tgt := 136) hx hb dX7_isTaken_96 (by decide) (fun c36 => ?_) (fun c36 => ?_)
                  · have hr := ite_n hr c36
                    refine lv_iconst (v := (0 : Int32)) hx hb dX7_isTaken_136 (by decide) ?_
                    refine lv_istore (lv' := [(5, .int (0 : Int32)), (9, .int u22), (0, .ref (ad 0)), (1, .int a0), (2, .int a1), (3, .int a2), (4, .int v2), (6, .int v4), (7, .int x18), (8, .int u20)]) hx hb dX7_isTaken_137 hl (by decide) rfl (fun ls hl => ?_)
                    refine lv_aload_n hx hb dX7_isTaken_139 rfl (lv_at hl 2 rfl) ?_
                    refine va_get (D := (dC, dI)) (ci := 7) (v := .ref (ad 19)) (C := RX7) (T := TX7) (N := 29) hx hb hts huX7 hown hK hP 0 rfl rfl 28 (by decide) hf76 (fun _ h9 => h9) rfl dX7_isTaken_140 ?_
                    refine lv_iload hx hb dX7_isTaken_143 (lv_at hl 6 rfl) ?_
                    obtain ⟨hi37, hr⟩ := ite_g hr
                    refine va_iald hx hb hK hP 19 18 rfl rfl hi37 dX7_isTaken_145 ?_
                    refine lv_topi (fun x38 ex38 => ?_)
                    have hr := nm_use hr ex38
                    refine lv_istore (lv' := [(10, .int x38), (5, .int (0 : Int32)), (9, .int u22), (0, .ref (ad 0)), (1, .int a0), (2, .int a1), (3, .int a2), (4, .int v2), (6, .int v4), (7, .int x18), (8, .int u20)]) hx hb dX7_isTaken_146 hl (by decide) rfl (fun ls hl => ?_)
                    refine lv_aload_n hx hb dX7_isTaken_148 rfl (lv_at hl 3 rfl) ?_
                    refine va_get (D := (dC, dI)) (ci := 7) (v := .ref (ad 19)) (C := RX7) (T := TX7) (N := 29) hx hb hts huX7 hown hK hP 0 rfl rfl 28 (by decide) hf76 (fun _ h9 => h9) rfl dX7_isTaken_149 ?_
                    refine lv_iload hx hb dX7_isTaken_152 (lv_at hl 7 rfl) ?_
                    refine lv_dup2_11 hx hb dX7_isTaken_154 rfl rfl ?_
                    obtain ⟨hi39, hr⟩ := ite_g hr
                    refine va_iald hx hb hK hP 19 18 rfl rfl hi39 dX7_isTaken_155 ?_
                    refine lv_iconst (v := (1 : Int32)) hx hb dX7_isTaken_156 (by decide) ?_
                    refine lv_iadd hx hb dX7_isTaken_157 ?_
                    refine lv_topi (fun x40 ex40 => ?_)
                    have hr := nm_use hr ex40
                    obtain ⟨hi41, hr⟩ := ite_g hr
                    refine va_iast hx hb hK hP hD hS 19 18 rfl rfl hi41 dX7_isTaken_158 (fun H locs hP hD hS => ?_)
                    have hP : va_P (dC, dI) vwCl (wd_X7 ad cA mo_wide mo_high mo_law mo_acts w5 w6 w7 w8 w9 mo_found a_neighbours a_act w10 w11 w12 a_takenBlack a_takenWhite a_chaseBlack a_chaseWhite a_aheadBlack a_aheadWhite a_hasAhead a_breathsLeft a_laidBlack a_laidWhite a_answersLeft a_firstAnswer a_answering (upd w13 v2.toNatClampNeg x40)) H := hP
                    have hD : va_D A (wd_X7 ad cA mo_wide mo_high mo_law mo_acts w5 w6 w7 w8 w9 mo_found a_neighbours a_act w10 w11 w12 a_takenBlack a_takenWhite a_chaseBlack a_chaseWhite a_aheadBlack a_aheadWhite a_hasAhead a_breathsLeft a_laidBlack a_laidWhite a_answersLeft a_firstAnswer a_answering (upd w13 v2.toNatClampNeg x40)) := hD
                    refine lv_iload hx hb dX7_isTaken_159 (lv_at hl 0 rfl) ?_
                    refine lv_aload_n hx hb dX7_isTaken_161 rfl (lv_at hl 3 rfl) ?_
                    obtain ⟨q42, hq42, hr⟩ := bd_use hr
                    refine pcV_i (As := []) (rest := [.int x38]) S (c_X7_size l dC dI ad cA mo_wide mo_high mo_law mo_acts w5 w6 w7 w8 w9 mo_found a_neighbours a_act w10 w11 w12 a_takenBlack a_takenWhite a_chaseBlack a_chaseWhite a_aheadBlack a_aheadWhite a_hasAhead a_breathsLeft a_laidBlack a_laidWhite a_answersLeft a_firstAnswer a_answering (upd w13 v2.toNatClampNeg x40) q42 hq42) (cwV 0 hts gX7_isTaken_X7_size rfl rfl rfl (by decide +kernel) ⟨Nat.le_trans (m := rm_X7_isTaken.frames) (by decide) hRf, Nat.le_trans (m := rm_X7_isTaken.locals) (by decide) hRl⟩) hN hP hK ⟨Nat.zero_le _, Nat.zero_le _⟩ [0, 1, 2, 3, 4, 5, 6, 7, 8, 9, 10, 11, 12, 13, 14, 15, 16, 17, 18, 19] rfl [0, 1, 2, 3, 4, 5, 6, 7, 8, 9, 10, 11, 12, 13, 14, 15, 16, 17, 18] rfl 0 7 rfl rfl rfl hl.1 rfl (Nat.le_of_ble_eq_true rfl) dX7_isTaken_162 ?_
                    obtain ⟨K44, eK44, hr⟩ := nm_ex hr
                    have kK44 : ∀ (u43 : Int32) (H : Heap) (locs : List Loc) , K44 u43 = some q → va_P (dC, dI) vwCl (wd_X7 ad cA mo_wide mo_high mo_law mo_acts w5 w6 w7 w8 w9 mo_found a_neighbours a_act w10 w11 w12 a_takenBlack a_takenWhite a_chaseBlack a_chaseWhite a_aheadBlack a_aheadWhite a_hasAhead a_breathsLeft a_laidBlack a_laidWhite a_answersLeft a_firstAnswer a_answering (upd w13 v2.toNatClampNeg x40)) H → va_D A (wd_X7 ad cA mo_wide mo_high mo_law mo_acts w5 w6 w7 w8 w9 mo_found a_neighbours a_act w10 w11 w12 a_takenBlack a_takenWhite a_chaseBlack a_chaseWhite a_aheadBlack a_aheadWhite a_hasAhead a_breathsLeft a_laidBlack a_laidWhite a_answersLeft a_firstAnswer a_answering (upd w13 v2.toNatClampNeg x40)) → va_S A H0 H locs → ∀ (ls : Array Slot), lv_has ls 12 [(0, .ref (ad 0)), (1, .int a0), (2, .int a1), (3, .int a2), (4, .int v2), (5, .int (0 : Int32)), (6, .int v4), (7, .int x18), (10, .int x38)] → W p l e R s m args below meth c H locs 0 0 Q (F0 m 173 ls [.int u43]) := by
                      intro u43 H locs hr hP hD hS ls hl
                      rw [eK44] at hr
                      refine lv_istore (lv' := [(11, .int u43), (0, .ref (ad 0)), (1, .int a0), (2, .int a1), (3, .int a2), (4, .int v2), (5, .int (0 : Int32)), (6, .int v4), (7, .int x18), (10, .int x38)]) hx hb dX7_isTaken_173 hl (by decide) rfl (fun ls hl => ?_)
                      refine lv_iload hx hb dX7_isTaken_175 (lv_at hl 0 rfl) ?_
                      obtain ⟨K48, eK48, hr⟩ := nm_ex hr
                      have kK48 : ∀ (w45 : Int64) (w46 : Int64) (w47 : Int32) (H : Heap) (locs : List Loc) , K48 w45 w46 w47 = some q → va_P (dC, dI) vwCl (wd_X7 ad cA mo_wide mo_high mo_law mo_acts w45 w46 w47 w8 w9 mo_found a_neighbours a_act w10 w11 w12 a_takenBlack a_takenWhite a_chaseBlack a_chaseWhite a_aheadBlack a_aheadWhite a_hasAhead a_breathsLeft a_laidBlack a_laidWhite a_answersLeft a_firstAnswer a_answering (upd w13 v2.toNatClampNeg x40)) H → va_D A (wd_X7 ad cA mo_wide mo_high mo_law mo_acts w45 w46 w47 w8 w9 mo_found a_neighbours a_act w10 w11 w12 a_takenBlack a_takenWhite a_chaseBlack a_chaseWhite a_aheadBlack a_aheadWhite a_hasAhead a_breathsLeft a_laidBlack a_laidWhite a_answersLeft a_firstAnswer a_answering (upd w13 v2.toNatClampNeg x40)) → va_S A H0 H locs → ∀ (ls : Array Slot), lv_has ls 12 [(0, .ref (ad 0)), (1, .int a0), (2, .int a1), (3, .int a2), (4, .int v2), (5, .int (0 : Int32)), (6, .int v4), (7, .int x18), (11, .int u43)] → W p l e R s m args below meth c H locs 0 0 Q (F0 m 198 ls []) := by
                        intro w45 w46 w47 H locs hr hP hD hS ls hl
                        rw [eK48] at hr
                        refine lv_aload_n hx hb dX7_isTaken_198 rfl (lv_at hl 0 rfl) ?_
                        obtain ⟨q49, hq49, hr⟩ := bd_use hr
                        refine icV_v (As := []) (rest := []) (ws2 := (wd_X7 ad cA mo_wide mo_high mo_law mo_acts w45 w46 w47 q49.1 q49.2 mo_found a_neighbours a_act w10 w11 w12 a_takenBlack a_takenWhite a_chaseBlack a_chaseWhite a_aheadBlack a_aheadWhite a_hasAhead a_breathsLeft a_laidBlack a_laidWhite a_answersLeft a_firstAnswer a_answering (upd w13 v2.toNatClampNeg x40))) S (c_X7_counts l dC dI ad cA mo_wide mo_high mo_law mo_acts w45 w46 w47 w8 w9 mo_found a_neighbours a_act w10 w11 w12 a_takenBlack a_takenWhite a_chaseBlack a_chaseWhite a_aheadBlack a_aheadWhite a_hasAhead a_breathsLeft a_laidBlack a_laidWhite a_answersLeft a_firstAnswer a_answering (upd w13 v2.toNatClampNeg x40) H.size q49 hq49) (cwV 0 hts gX7_isTaken_X7_counts rfl rfl rfl (by decide +kernel) ⟨Nat.le_trans (m := rm_X7_isTaken.frames) (by decide) hRf, Nat.le_trans (m := rm_X7_isTaken.locals) (by decide) hRl⟩) hN hP hK hD hS hA ⟨Nat.zero_le _, Nat.zero_le _⟩ [0, 1, 2, 3, 4, 5, 6, 7, 8, 9, 10, 11, 12, 13, 14, 15, 16, 17, 18, 19] [] [0, 1, 2, 3, 4, 5, 6, 7, 8, 9, 10, 11, 12, 13, 14, 15, 16, 17, 18, 19] rfl rfl rfl rfl rfl (by decide) rfl rfl rfl [0, 1, 2, 3, 4, 5, 6, 7, 8, 9, 10, 11, 12, 13, 14, 15, 16, 17, 18] rfl 0 7 rfl rfl rfl hl.1 rfl (Nat.le_of_ble_eq_true rfl) dX7_isTaken_199 (fun H locs hP hD hS => ?_)
                        refine lv_aload_n hx hb dX7_isTaken_202 rfl (lv_at hl 0 rfl) ?_
                        refine va_get (D := (dC, dI)) (ci := 7) (v := .ref (ad 3)) (C := RX7) (T := TX7) (N := 29) hx hb hts huX7 hown hK hP 0 rfl rfl 6 (by decide) hf24 (fun _ h9 => h9) rfl dX7_isTaken_203 ?_
                        refine lv_iload hx hb dX7_isTaken_206 (lv_at hl 7 rfl) ?_
                        refine lv_iconst (v := (1 : Int32)) hx hb dX7_isTaken_208 (by decide) ?_
                        refine lv_iadd hx hb dX7_isTaken_209 ?_
                        refine lv_iload hx hb dX7_isTaken_210 (lv_at hl 8 rfl) ?_
                        obtain ⟨K51, eK51, hr⟩ := nm_ex hr
                        have kK51 : ∀ (u50 : Int64) (H : Heap) (locs : List Loc) , K51 u50 = some q → va_P (dC, dI) vwCl (wd_X7 ad cA mo_wide mo_high mo_law mo_acts w45 w46 w47 q49.1 q49.2 mo_found a_neighbours a_act w10 w11 w12 a_takenBlack a_takenWhite a_chaseBlack a_chaseWhite a_aheadBlack a_aheadWhite a_hasAhead a_breathsLeft a_laidBlack a_laidWhite a_answersLeft a_firstAnswer a_answering (upd w13 v2.toNatClampNeg x40)) H → va_D A (wd_X7 ad cA mo_wide mo_high mo_law mo_acts w45 w46 w47 q49.1 q49.2 mo_found a_neighbours a_act w10 w11 w12 a_takenBlack a_takenWhite a_chaseBlack a_chaseWhite a_aheadBlack a_aheadWhite a_hasAhead a_breathsLeft a_laidBlack a_laidWhite a_answersLeft a_firstAnswer a_answering (upd w13 v2.toNatClampNeg x40)) → va_S A H0 H locs → ∀ (ls : Array Slot), lv_has ls 12 [(0, .ref (ad 0)), (1, .int a0), (2, .int a1), (3, .int a2), (4, .int v2), (5, .int (0 : Int32)), (6, .int v4), (7, .int x18), (11, .int u43)] → W p l e R s m args below meth c H locs 0 0 Q (F0 m 229 ls [.long u50, .int (x18 + (1 : Int32)), .ref (ad 3)]) := by
                          intro u50 H locs hr hP hD hS ls hl
                          rw [eK51] at hr
                          obtain ⟨hi52, hr⟩ := ite_g hr
                          refine va_last hx hb hK hP hD hS 3 2 rfl rfl hi52 dX7_isTaken_229 (fun H locs hP hD hS => ?_)
                          have hP : va_P (dC, dI) vwCl (wd_X7 ad cA mo_wide mo_high mo_law mo_acts w45 w46 w47 q49.1 q49.2 mo_found a_neighbours a_act (vp_updL w10 (x18 + (1 : Int32)).toNatClampNeg u50) w11 w12 a_takenBlack a_takenWhite a_chaseBlack a_chaseWhite a_aheadBlack a_aheadWhite a_hasAhead a_breathsLeft a_laidBlack a_laidWhite a_answersLeft a_firstAnswer a_answering (upd w13 v2.toNatClampNeg x40)) H := hP
                          have hD : va_D A (wd_X7 ad cA mo_wide mo_high mo_law mo_acts w45 w46 w47 q49.1 q49.2 mo_found a_neighbours a_act (vp_updL w10 (x18 + (1 : Int32)).toNatClampNeg u50) w11 w12 a_takenBlack a_takenWhite a_chaseBlack a_chaseWhite a_aheadBlack a_aheadWhite a_hasAhead a_breathsLeft a_laidBlack a_laidWhite a_answersLeft a_firstAnswer a_answering (upd w13 v2.toNatClampNeg x40)) := hD
                          refine lv_aload_n hx hb dX7_isTaken_230 rfl (lv_at hl 0 rfl) ?_
                          refine va_get (D := (dC, dI)) (ci := 7) (v := .ref (ad 4)) (C := RX7) (T := TX7) (N := 29) hx hb hts huX7 hown hK hP 0 rfl rfl 7 (by decide) hf27 (fun _ h9 => h9) rfl dX7_isTaken_231 ?_
                          refine lv_iload hx hb dX7_isTaken_234 (lv_at hl 7 rfl) ?_
                          refine lv_iconst (v := (1 : Int32)) hx hb dX7_isTaken_236 (by decide) ?_
                          refine lv_iadd hx hb dX7_isTaken_237 ?_
                          refine lv_iload hx hb dX7_isTaken_238 (lv_at hl 8 rfl) ?_
                          obtain ⟨K54, eK54, hr⟩ := nm_ex hr
                          have kK54 : ∀ (u53 : Int64) (H : Heap) (locs : List Loc) , K54 u53 = some q → va_P (dC, dI) vwCl (wd_X7 ad cA mo_wide mo_high mo_law mo_acts w45 w46 w47 q49.1 q49.2 mo_found a_neighbours a_act (vp_updL w10 (x18 + (1 : Int32)).toNatClampNeg u50) w11 w12 a_takenBlack a_takenWhite a_chaseBlack a_chaseWhite a_aheadBlack a_aheadWhite a_hasAhead a_breathsLeft a_laidBlack a_laidWhite a_answersLeft a_firstAnswer a_answering (upd w13 v2.toNatClampNeg x40)) H → va_D A (wd_X7 ad cA mo_wide mo_high mo_law mo_acts w45 w46 w47 q49.1 q49.2 mo_found a_neighbours a_act (vp_updL w10 (x18 + (1 : Int32)).toNatClampNeg u50) w11 w12 a_takenBlack a_takenWhite a_chaseBlack a_chaseWhite a_aheadBlack a_aheadWhite a_hasAhead a_breathsLeft a_laidBlack a_laidWhite a_answersLeft a_firstAnswer a_answering (upd w13 v2.toNatClampNeg x40)) → va_S A H0 H locs → ∀ (ls : Array Slot), lv_has ls 12 [(0, .ref (ad 0)), (1, .int a0), (2, .int a1), (3, .int a2), (4, .int v2), (5, .int (0 : Int32)), (6, .int v4), (7, .int x18)] → W p l e R s m args below meth c H locs 0 0 Q (F0 m 257 ls [.long u53, .int (x18 + (1 : Int32)), .ref (ad 4)]) := by
                            intro u53 H locs hr hP hD hS ls hl
                            rw [eK54] at hr
                            obtain ⟨hi55, hr⟩ := ite_g hr
                            refine va_last hx hb hK hP hD hS 4 3 rfl rfl hi55 dX7_isTaken_257 (fun H locs hP hD hS => ?_)
                            have hP : va_P (dC, dI) vwCl (wd_X7 ad cA mo_wide mo_high mo_law mo_acts w45 w46 w47 q49.1 q49.2 mo_found a_neighbours a_act (vp_updL w10 (x18 + (1 : Int32)).toNatClampNeg u50) (vp_updL w11 (x18 + (1 : Int32)).toNatClampNeg u53) w12 a_takenBlack a_takenWhite a_chaseBlack a_chaseWhite a_aheadBlack a_aheadWhite a_hasAhead a_breathsLeft a_laidBlack a_laidWhite a_answersLeft a_firstAnswer a_answering (upd w13 v2.toNatClampNeg x40)) H := hP
                            have hD : va_D A (wd_X7 ad cA mo_wide mo_high mo_law mo_acts w45 w46 w47 q49.1 q49.2 mo_found a_neighbours a_act (vp_updL w10 (x18 + (1 : Int32)).toNatClampNeg u50) (vp_updL w11 (x18 + (1 : Int32)).toNatClampNeg u53) w12 a_takenBlack a_takenWhite a_chaseBlack a_chaseWhite a_aheadBlack a_aheadWhite a_hasAhead a_breathsLeft a_laidBlack a_laidWhite a_answersLeft a_firstAnswer a_answering (upd w13 v2.toNatClampNeg x40)) := hD
                            refine lv_aload_n hx hb dX7_isTaken_258 rfl (lv_at hl 0 rfl) ?_
                            refine va_get (D := (dC, dI)) (ci := 7) (v := .ref (ad 5)) (C := RX7) (T := TX7) (N := 29) hx hb hts huX7 hown hK hP 0 rfl rfl 8 (by decide) hf30 (fun _ h9 => h9) rfl dX7_isTaken_259 ?_
                            refine lv_iload hx hb dX7_isTaken_262 (lv_at hl 7 rfl) ?_
                            refine lv_iconst (v := (1 : Int32)) hx hb dX7_isTaken_264 (by decide) ?_
                            refine lv_iadd hx hb dX7_isTaken_265 ?_
                            refine lv_aload_n hx hb dX7_isTaken_266 rfl (lv_at hl 0 rfl) ?_
                            refine va_get (D := (dC, dI)) (ci := 7) (v := .ref (ad 5)) (C := RX7) (T := TX7) (N := 29) hx hb hts huX7 hown hK hP 0 rfl rfl 8 (by decide) hf30 (fun _ h9 => h9) rfl dX7_isTaken_267 ?_
                            refine lv_iload hx hb dX7_isTaken_270 (lv_at hl 7 rfl) ?_
                            obtain ⟨hi56, hr⟩ := ite_g hr
                            refine va_iald hx hb hK hP 5 4 rfl rfl hi56 dX7_isTaken_272 ?_
                            obtain ⟨q57, hq57, hr⟩ := bd_use hr
                            refine pcS_i (As := [.int (w12 x18.toNatClampNeg)]) (rest := [.int (x18 + (1 : Int32)), .ref (ad 5)]) S (c_X7_other l dC dI (w12 x18.toNatClampNeg) q57 hq57) (va_cwS 1 hts gX7_isTaken_X7_other rfl rfl rfl (by decide +kernel) ⟨Nat.le_trans (m := rm_X7_isTaken.frames) (by decide) hRf, Nat.le_trans (m := rm_X7_isTaken.locals) (by decide) hRl⟩) hN hP hK ⟨Nat.zero_le _, Nat.zero_le _⟩ rfl hl.1 rfl (Nat.le_of_ble_eq_true rfl) dX7_isTaken_273 ?_
                            obtain ⟨hi58, hr⟩ := ite_g hr
                            refine va_iast hx hb hK hP hD hS 5 4 rfl rfl hi58 dX7_isTaken_276 (fun H locs hP hD hS => ?_)
                            have hP : va_P (dC, dI) vwCl (wd_X7 ad cA mo_wide mo_high mo_law mo_acts w45 w46 w47 q49.1 q49.2 mo_found a_neighbours a_act (vp_updL w10 (x18 + (1 : Int32)).toNatClampNeg u50) (vp_updL w11 (x18 + (1 : Int32)).toNatClampNeg u53) (upd w12 (x18 + (1 : Int32)).toNatClampNeg q57) a_takenBlack a_takenWhite a_chaseBlack a_chaseWhite a_aheadBlack a_aheadWhite a_hasAhead a_breathsLeft a_laidBlack a_laidWhite a_answersLeft a_firstAnswer a_answering (upd w13 v2.toNatClampNeg x40)) H := hP
                            have hD : va_D A (wd_X7 ad cA mo_wide mo_high mo_law mo_acts w45 w46 w47 q49.1 q49.2 mo_found a_neighbours a_act (vp_updL w10 (x18 + (1 : Int32)).toNatClampNeg u50) (vp_updL w11 (x18 + (1 : Int32)).toNatClampNeg u53) (upd w12 (x18 + (1 : Int32)).toNatClampNeg q57) a_takenBlack a_takenWhite a_chaseBlack a_chaseWhite a_aheadBlack a_aheadWhite a_hasAhead a_breathsLeft a_laidBlack a_laidWhite a_answersLeft a_firstAnswer a_answering (upd w13 v2.toNatClampNeg x40)) := hD
                            refine lv_aload_n hx hb dX7_isTaken_277 rfl (lv_at hl 0 rfl) ?_
                            refine lv_iload hx hb dX7_isTaken_278 (lv_at hl 7 rfl) ?_
                            refine lv_iconst (v := (1 : Int32)) hx hb dX7_isTaken_280 (by decide) ?_
                            refine lv_iadd hx hb dX7_isTaken_281 ?_
                            refine lv_iload_n hx hb dX7_isTaken_282 rfl (lv_at hl 1 rfl) ?_
                            refine lv_iload_n hx hb dX7_isTaken_283 rfl (lv_at hl 2 rfl) ?_
                            obtain ⟨q59, hq59, hr⟩ := bd_use hr
                            refine pcV_i (As := [.int (x18 + (1 : Int32)), .int a0, .int a1]) (rest := []) S (c_X7_isGone l dC dI ad cA mo_wide mo_high mo_law mo_acts w45 w46 w47 q49.1 q49.2 mo_found a_neighbours a_act (vp_updL w10 (x18 + (1 : Int32)).toNatClampNeg u50) (vp_updL w11 (x18 + (1 : Int32)).toNatClampNeg u53) (upd w12 (x18 + (1 : Int32)).toNatClampNeg q57) a_takenBlack a_takenWhite a_chaseBlack a_chaseWhite a_aheadBlack a_aheadWhite a_hasAhead a_breathsLeft a_laidBlack a_laidWhite a_answersLeft a_firstAnswer a_answering (upd w13 v2.toNatClampNeg x40) (x18 + (1 : Int32)) a0 a1 q59 hq59) (cwV 3 hts gX7_isTaken_X7_isGone rfl rfl rfl (by decide +kernel) ⟨Nat.le_trans (m := rm_X7_isTaken.frames) (by decide) hRf, Nat.le_trans (m := rm_X7_isTaken.locals) (by decide) hRl⟩) hN hP hK ⟨Nat.zero_le _, Nat.zero_le _⟩ [0, 1, 2, 3, 4, 5, 6, 7, 8, 9, 10, 11, 12, 13, 14, 15, 16, 17, 18, 19] rfl [0, 1, 2, 3, 4, 5, 6, 7, 8, 9, 10, 11, 12, 13, 14, 15, 16, 17, 18] rfl 0 7 rfl rfl rfl hl.1 rfl (Nat.le_of_ble_eq_true rfl) dX7_isTaken_284 ?_
                            refine lv_if_eq (tgt := 299) hx hb dX7_isTaken_287 (by decide) (fun c60 => ?_) (fun c60 => ?_)
                            · have hr := ite_p hr c60
                              obtain ⟨x61, ex61, hr⟩ := nm_ex hr
                              refine lv_iinc (v := x61) (lv' := [(4, .int x61), (0, .ref (ad 0)), (1, .int a0), (2, .int a1), (3, .int a2), (5, .int (0 : Int32)), (6, .int v4), (7, .int x18)]) hx hb dX7_isTaken_299 hl (k := 4) rfl (by rw [ex61]; rfl) (by decide) rfl (fun ls hl => ?_)
                              refine lv_aload_n hx hb dX7_isTaken_302 rfl (lv_at hl 1 rfl) ?_
                              refine va_get (D := (dC, dI)) (ci := 7) (v := .ref (ad 19)) (C := RX7) (T := TX7) (N := 29) hx hb hts huX7 hown hK hP 0 rfl rfl 28 (by decide) hf76 (fun _ h9 => h9) rfl dX7_isTaken_303 ?_
                              refine lv_iload hx hb dX7_isTaken_306 (lv_at hl 0 rfl) ?_
                              refine lv_iconst (v := (0 : Int32)) hx hb dX7_isTaken_308 (by decide) ?_
                              obtain ⟨hi62, hr⟩ := ite_g hr
                              refine va_iast hx hb hK hP hD hS 19 18 rfl rfl hi62 dX7_isTaken_309 (fun H locs hP hD hS => ?_)
                              have hP : va_P (dC, dI) vwCl (wd_X7 ad cA mo_wide mo_high mo_law mo_acts w45 w46 w47 q49.1 q49.2 mo_found a_neighbours a_act (vp_updL w10 (x18 + (1 : Int32)).toNatClampNeg u50) (vp_updL w11 (x18 + (1 : Int32)).toNatClampNeg u53) (upd w12 (x18 + (1 : Int32)).toNatClampNeg q57) a_takenBlack a_takenWhite a_chaseBlack a_chaseWhite a_aheadBlack a_aheadWhite a_hasAhead a_breathsLeft a_laidBlack a_laidWhite a_answersLeft a_firstAnswer a_answering (upd (upd w13 v2.toNatClampNeg x40) x61.toNatClampNeg (0 : Int32))) H := hP
                              have hD : va_D A (wd_X7 ad cA mo_wide mo_high mo_law mo_acts w45 w46 w47 q49.1 q49.2 mo_found a_neighbours a_act (vp_updL w10 (x18 + (1 : Int32)).toNatClampNeg u50) (vp_updL w11 (x18 + (1 : Int32)).toNatClampNeg u53) (upd w12 (x18 + (1 : Int32)).toNatClampNeg q57) a_takenBlack a_takenWhite a_chaseBlack a_chaseWhite a_aheadBlack a_aheadWhite a_hasAhead a_breathsLeft a_laidBlack a_laidWhite a_answersLeft a_firstAnswer a_answering (upd (upd w13 v2.toNatClampNeg x40) x61.toNatClampNeg (0 : Int32))) := hD
                              refine lv_goto (tgt := 16) hx hb dX7_isTaken_310 (by decide) ?_
                              exact ih x61 (0 : Int32) v4 w45 w46 w47 q49.1 q49.2 (vp_updL w10 (x18 + (1 : Int32)).toNatClampNeg u50) (vp_updL w11 (x18 + (1 : Int32)).toNatClampNeg u53) (upd w12 (x18 + (1 : Int32)).toNatClampNeg q57) (upd (upd w13 v2.toNatClampNeg x40) x61.toNatClampNeg (0 : Int32)) _ _ hr hP hD hS ls (lv_sub hl [1, 2, 3, 4, 0, 5, 6] rfl)
                            · have hr := ite_n hr c60
                              refine lv_iconst (v := (1 : Int32)) hx hb dX7_isTaken_290 (by decide) ?_
                              refine lv_istore (lv' := [(6, .int (1 : Int32)), (0, .ref (ad 0)), (1, .int a0), (2, .int a1), (3, .int a2), (4, .int v2), (5, .int (0 : Int32)), (7, .int x18)]) hx hb dX7_isTaken_291 hl (by decide) rfl (fun ls hl => ?_)
                              refine lv_iconst (v := (1 : Int32)) hx hb dX7_isTaken_293 (by decide) ?_
                              refine lv_istore (lv' := [(5, .int (1 : Int32)), (6, .int (1 : Int32)), (0, .ref (ad 0)), (1, .int a0), (2, .int a1), (3, .int a2), (4, .int v2), (7, .int x18)]) hx hb dX7_isTaken_294 hl (by decide) rfl (fun ls hl => ?_)
                              refine lv_goto (tgt := 310) hx hb dX7_isTaken_296 (by decide) ?_
                              refine lv_goto (tgt := 16) hx hb dX7_isTaken_310 (by decide) ?_
                              exact ih v2 (1 : Int32) (1 : Int32) w45 w46 w47 q49.1 q49.2 (vp_updL w10 (x18 + (1 : Int32)).toNatClampNeg u50) (vp_updL w11 (x18 + (1 : Int32)).toNatClampNeg u53) (upd w12 (x18 + (1 : Int32)).toNatClampNeg q57) (upd w13 v2.toNatClampNeg x40) _ _ hr hP hD hS ls (lv_sub hl [2, 3, 4, 5, 6, 0, 1] rfl)
                          refine lv_if_eq (tgt := 253) hx hb dX7_isTaken_240 (by decide) (fun c63 => ?_) (fun c63 => ?_)
                          · have hr := ite_p hr c63
                            refine lv_aload_n hx hb dX7_isTaken_253 rfl (lv_at hl 0 rfl) ?_
                            refine va_get (D := (dC, dI)) (ci := 7) (v := .long w46) (C := RX7) (T := TX7) (N := 29) hx hb hts huX7 hown hK hP 0 rfl rfl 12 (by decide) hf126 (fun _ h9 => h9) rfl dX7_isTaken_254 ?_
                            exact kK54 w46 _ _ hr hP hD hS ls (lv_sub hl [0, 1, 2, 3, 4, 5, 6, 7] rfl)
                          · have hr := ite_n hr c63
                            refine lv_aload_n hx hb dX7_isTaken_243 rfl (lv_at hl 0 rfl) ?_
                            refine va_get (D := (dC, dI)) (ci := 7) (v := .ref (ad 4)) (C := RX7) (T := TX7) (N := 29) hx hb hts huX7 hown hK hP 0 rfl rfl 7 (by decide) hf27 (fun _ h9 => h9) rfl dX7_isTaken_244 ?_
                            refine lv_iload hx hb dX7_isTaken_247 (lv_at hl 7 rfl) ?_
                            obtain ⟨hi64, hr⟩ := ite_g hr
                            refine va_lald hx hb hK hP 4 3 rfl rfl hi64 dX7_isTaken_249 ?_
                            refine lv_goto (tgt := 257) hx hb dX7_isTaken_250 (by decide) ?_
                            exact kK54 (w11 x18.toNatClampNeg) _ _ hr hP hD hS ls (lv_sub hl [0, 1, 2, 3, 4, 5, 6, 7] rfl)
                        refine lv_if_eq (tgt := 225) hx hb dX7_isTaken_212 (by decide) (fun c65 => ?_) (fun c65 => ?_)
                        · have hr := ite_p hr c65
                          refine lv_aload_n hx hb dX7_isTaken_225 rfl (lv_at hl 0 rfl) ?_
                          refine va_get (D := (dC, dI)) (ci := 7) (v := .long w45) (C := RX7) (T := TX7) (N := 29) hx hb hts huX7 hown hK hP 0 rfl rfl 11 (by decide) hf122 (fun _ h9 => h9) rfl dX7_isTaken_226 ?_
                          exact kK51 w45 _ _ hr hP hD hS ls (lv_sub hl [0, 1, 2, 3, 4, 5, 6, 7, 8] rfl)
                        · have hr := ite_n hr c65
                          refine lv_aload_n hx hb dX7_isTaken_215 rfl (lv_at hl 0 rfl) ?_
                          refine va_get (D := (dC, dI)) (ci := 7) (v := .ref (ad 3)) (C := RX7) (T := TX7) (N := 29) hx hb hts huX7 hown hK hP 0 rfl rfl 6 (by decide) hf24 (fun _ h9 => h9) rfl dX7_isTaken_216 ?_
                          refine lv_iload hx hb dX7_isTaken_219 (lv_at hl 7 rfl) ?_
                          obtain ⟨hi66, hr⟩ := ite_g hr
                          refine va_lald hx hb hK hP 3 2 rfl rfl hi66 dX7_isTaken_221 ?_
                          refine lv_goto (tgt := 229) hx hb dX7_isTaken_222 (by decide) ?_
                          exact kK51 (w10 x18.toNatClampNeg) _ _ hr hP hD hS ls (lv_sub hl [0, 1, 2, 3, 4, 5, 6, 7, 8] rfl)
                      refine lv_if_ne (tgt := 198) hx hb dX7_isTaken_177 (by decide) (fun c67 => ?_) (fun c67 => ?_)
                      · have hr := ite_n hr c67
                        exact kK48 w5 w6 w7 _ _ hr hP hD hS ls (lv_sub hl [1, 2, 3, 4, 5, 6, 7, 8, 0] rfl)
                      · have hr := ite_p hr c67
                        refine lv_aload_n hx hb dX7_isTaken_180 rfl (lv_at hl 1 rfl) ?_
                        refine lv_iload hx hb dX7_isTaken_181 (lv_at hl 8 rfl) ?_
                        refine lv_aload_n hx hb dX7_isTaken_183 rfl (lv_at hl 1 rfl) ?_
                        refine va_get (D := (dC, dI)) (ci := 7) (v := .ref (ad 5)) (C := RX7) (T := TX7) (N := 29) hx hb hts huX7 hown hK hP 0 rfl rfl 8 (by decide) hf30 (fun _ h9 => h9) rfl dX7_isTaken_184 ?_
                        refine lv_iload hx hb dX7_isTaken_187 (lv_at hl 8 rfl) ?_
                        obtain ⟨hi68, hr⟩ := ite_g hr
                        refine va_iald hx hb hK hP 5 4 rfl rfl hi68 dX7_isTaken_189 ?_
                        refine lv_iload hx hb dX7_isTaken_190 (lv_at hl 9 rfl) ?_
                        obtain ⟨q69, hq69, hr⟩ := bd_use hr
                        refine icV_i (As := [.int x18, .int (w12 x18.toNatClampNeg), .int x38]) (rest := []) (ws2 := (wd_X7 ad cA mo_wide mo_high mo_law mo_acts q69.2.1 q69.2.2.1 q69.2.2.2 w8 w9 mo_found a_neighbours a_act w10 w11 w12 a_takenBlack a_takenWhite a_chaseBlack a_chaseWhite a_aheadBlack a_aheadWhite a_hasAhead a_breathsLeft a_laidBlack a_laidWhite a_answersLeft a_firstAnswer a_answering (upd w13 v2.toNatClampNeg x40))) S (c_X7_reason l dC dI ad cA mo_wide mo_high mo_law mo_acts w5 w6 w7 w8 w9 mo_found a_neighbours a_act w10 w11 w12 a_takenBlack a_takenWhite a_chaseBlack a_chaseWhite a_aheadBlack a_aheadWhite a_hasAhead a_breathsLeft a_laidBlack a_laidWhite a_answersLeft a_firstAnswer a_answering (upd w13 v2.toNatClampNeg x40) H.size x18 (w12 x18.toNatClampNeg) x38 q69 hq69) (cwV 3 hts gX7_isTaken_X7_reason rfl rfl rfl (by decide +kernel) ⟨Nat.le_trans (m := rm_X7_isTaken.frames) (by decide) hRf, Nat.le_trans (m := rm_X7_isTaken.locals) (by decide) hRl⟩) hN hP hK hD hS hA ⟨Nat.zero_le _, Nat.zero_le _⟩ [0, 1, 2, 3, 4, 5, 6, 7, 8, 9, 10, 11, 12, 13, 14, 15, 16, 17, 18, 19] [] [0, 1, 2, 3, 4, 5, 6, 7, 8, 9, 10, 11, 12, 13, 14, 15, 16, 17, 18, 19] rfl rfl rfl rfl rfl (by decide) rfl rfl rfl [0, 1, 2, 3, 4, 5, 6, 7, 8, 9, 10, 11, 12, 13, 14, 15, 16, 17, 18] rfl 0 7 rfl rfl rfl hl.1 rfl (Nat.le_of_ble_eq_true rfl) dX7_isTaken_192 (fun H locs hP hD hS => ?_)
                        refine lv_if_ne (tgt := 310) hx hb dX7_isTaken_195 (by decide) (fun c70 => ?_) (fun c70 => ?_)
                        · have hr := ite_n hr c70
                          refine lv_goto (tgt := 16) hx hb dX7_isTaken_310 (by decide) ?_
                          exact ih v2 (0 : Int32) v4 q69.2.1 q69.2.2.1 q69.2.2.2 w8 w9 w10 w11 w12 (upd w13 v2.toNatClampNeg x40) _ _ hr hP hD hS ls (lv_sub hl [1, 2, 3, 4, 5, 6, 7] rfl)
                        · have hr := ite_p hr c70
                          exact kK48 q69.2.1 q69.2.2.1 q69.2.2.2 _ _ hr hP hD hS ls (lv_sub hl [1, 2, 3, 4, 5, 6, 7, 8, 0] rfl)
                    refine lv_icmp_ne (tgt := 172) hx hb dX7_isTaken_165 (by decide) (fun c71 => ?_) (fun c71 => ?_)
                    · have hr := ite_n hr c71
                      refine lv_iconst (v := (0 : Int32)) hx hb dX7_isTaken_172 (by decide) ?_
                      exact kK44 (0 : Int32) _ _ hr hP hD hS ls (lv_sub hl [3, 4, 5, 6, 7, 1, 8, 9, 0] rfl)
                    · have hr := ite_p hr c71
                      refine lv_iconst (v := (1 : Int32)) hx hb dX7_isTaken_168 (by decide) ?_
                      refine lv_goto (tgt := 173) hx hb dX7_isTaken_169 (by decide) ?_
                      exact kK44 (1 : Int32) _ _ hr hP hD hS ls (lv_sub hl [3, 4, 5, 6, 7, 1, 8, 9, 0] rfl)
                  · have hr := ite_p hr c36
                    exact kK24  _ _ hr hP hD hS ls (lv_sub hl [1, 2, 3, 4, 5, 6, 8, 0] rfl)
            refine lv_if_eq (tgt := 71) hx hb dX7_isTaken_57 (by decide) (fun c72 => ?_) (fun c72 => ?_)
            · have hr := ite_p hr c72
              refine lv_iconst (v := (0 : Int32)) hx hb dX7_isTaken_71 (by decide) ?_
              exact kK23 (0 : Int32) _ _ hr hP hD hS ls (lv_sub hl [1, 2, 3, 4, 5, 7, 8, 0] rfl)
            · have hr := ite_n hr c72
              refine lv_iload hx hb dX7_isTaken_60 (lv_at hl 7 rfl) ?_
              refine lv_iload hx hb dX7_isTaken_62 (lv_at hl 0 rfl) ?_
              refine lv_icmp_eq (tgt := 71) hx hb dX7_isTaken_64 (by decide) (fun c73 => ?_) (fun c73 => ?_)
              · have hr := ite_p hr c73
                refine lv_iconst (v := (0 : Int32)) hx hb dX7_isTaken_71 (by decide) ?_
                exact kK23 (0 : Int32) _ _ hr hP hD hS ls (lv_sub hl [1, 2, 3, 4, 5, 7, 8, 0] rfl)
              · have hr := ite_n hr c73
                refine lv_iconst (v := (1 : Int32)) hx hb dX7_isTaken_67 (by decide) ?_
                refine lv_goto (tgt := 72) hx hb dX7_isTaken_68 (by decide) ?_
                exact kK23 (1 : Int32) _ _ hr hP hD hS ls (lv_sub hl [1, 2, 3, 4, 5, 7, 8, 0] rfl)
          refine lv_icmp_ne (tgt := 52) hx hb dX7_isTaken_45 (by decide) (fun c74 => ?_) (fun c74 => ?_)
          · have hr := ite_n hr c74
            refine lv_iconst (v := (0 : Int32)) hx hb dX7_isTaken_52 (by decide) ?_
            exact kK21 (0 : Int32) _ _ hr hP hD hS ls (lv_sub hl [1, 2, 3, 4, 5, 6, 7, 0] rfl)
          · have hr := ite_p hr c74
            refine lv_iconst (v := (1 : Int32)) hx hb dX7_isTaken_48 (by decide) ?_
            refine lv_goto (tgt := 53) hx hb dX7_isTaken_49 (by decide) ?_
            exact kK21 (1 : Int32) _ _ hr hP hD hS ls (lv_sub hl [1, 2, 3, 4, 5, 6, 7, 0] rfl)
  exact llp_X7_isTaken_16 FU (0 : Int32) (0 : Int32) (0 : Int32) mo_newBlack mo_newWhite mo_taken mo_triesMany mo_isSpent a_blackAt a_whiteAt a_moveAt (upd a_next (0 : Int32).toNatClampNeg (0 : Int32)) _ _ hr hP hD hS ls (lv_sub hl [3, 4, 5, 6, 2, 1, 0] rfl)

def f_X7_fight (mo_wide : Int32) (mo_high : Int32) (mo_law : Int32) (mo_acts : Int32) (mo_newBlack : Int64) (mo_newWhite : Int64) (mo_taken : Int32) (mo_triesMany : Int32) (mo_isSpent : Int32) (mo_found : Int32) (a_neighbours : Nat → Int64) (a_blackAt : Nat → Int64) (a_whiteAt : Nat → Int64) (a_moveAt : Nat → Int32) (a_next : Nat → Int32) (a0 : Int32) (a1 : Int32) : Option (Int32 × Int64 × Int64 × Int32 × Int32 × Int32 × Int32 × (Nat → Int64) × (Nat → Int64) × (Nat → Int32) × (Nat → Int32)) :=
  (f_X7_isCrossing mo_wide mo_high a0).bind fun q1 =>
  if q1 = 0 then (
    some ((-2 : Int32), mo_newBlack, mo_newWhite, mo_taken, mo_triesMany, mo_isSpent, mo_found, a_blackAt, a_whiteAt, a_moveAt, a_next)
  )
  else (
    (f_X7_in a1 (1 : Int32) (6 : Int32)).bind fun q3 =>
    if q3 = 0 then (
      some ((-2 : Int32), mo_newBlack, mo_newWhite, mo_taken, mo_triesMany, mo_isSpent, mo_found, a_blackAt, a_whiteAt, a_moveAt, a_next)
    )
    else (
      (f_X7_atOf mo_acts a_blackAt a_whiteAt a0).bind fun q5 =>
      if q5 = 0 then (
        some ((-3 : Int32), mo_newBlack, mo_newWhite, mo_taken, mo_triesMany, mo_isSpent, mo_found, a_blackAt, a_whiteAt, a_moveAt, a_next)
      )
      else (
        (f_X7_isTaken mo_wide mo_high mo_law mo_acts mo_newBlack mo_newWhite mo_taken (0 : Int32) (0 : Int32) a_neighbours a_blackAt a_whiteAt a_moveAt a_next q5 a0 a1).bind fun q7 =>
        nm (q7.1) fun x8 =>
        if q7.2.2.2.2.2.1 = 0 then (
          nm (fun (u10 : Int32) =>
          if x8 = 0 then (
            some ((0 : Int32), q7.2.1, q7.2.2.1, q7.2.2.2.1, q7.2.2.2.2.1, q7.2.2.2.2.2.1, u10, q7.2.2.2.2.2.2.1, q7.2.2.2.2.2.2.2.1, q7.2.2.2.2.2.2.2.2.1, q7.2.2.2.2.2.2.2.2.2)
          )
          else (
            some ((1 : Int32), q7.2.1, q7.2.2.1, q7.2.2.2.1, q7.2.2.2.2.1, q7.2.2.2.2.2.1, u10, q7.2.2.2.2.2.2.1, q7.2.2.2.2.2.2.2.1, q7.2.2.2.2.2.2.2.2.1, q7.2.2.2.2.2.2.2.2.2)
          )
          ) fun K11 =>
          if x8 = 0 then (
            K11 mo_found
          )
          else (
            if (mo_acts < 0 ∨ 130 ≤ mo_acts.toNatClampNeg) then none else
            if q7.2.2.2.2.2.2.2.2.1 mo_acts.toNatClampNeg = q5 then (
              K11 mo_found
            )
            else (
              if ((0 : Int32) < 0 ∨ 7 ≤ (0 : Int32).toNatClampNeg) then none else
              K11 ((q7.2.2.2.2.2.2.2.2.2 (0 : Int32).toNatClampNeg) - (1 : Int32))
            )
          )
        )
        else (
          some ((-5 : Int32), q7.2.1, q7.2.2.1, q7.2.2.2.1, q7.2.2.2.2.1, q7.2.2.2.2.2.1, mo_found, q7.2.2.2.2.2.2.1, q7.2.2.2.2.2.2.2.1, q7.2.2.2.2.2.2.2.2.1, q7.2.2.2.2.2.2.2.2.2)
        )
      )
    )
  )

abbrev rm_X7_fight : Room := { frames := 6, cells := 0, slots := 0, locals := 165 }
set_option maxHeartbeats 4000000 in
set_option maxRecDepth 100000 in
theorem c_X7_fight (l : Launch) (dC : Nat → ClassId) (dI : Nat → Nat → Nat) (ad : Nat → Nat) (cA : Nat → ClassId) (mo_wide mo_high mo_law mo_acts : Int32) (mo_newBlack mo_newWhite : Int64) (mo_taken mo_triesMany mo_isSpent mo_found : Int32) (a_neighbours : Nat → Int64) (a_act : Nat → Int32) (a_blackAt a_whiteAt : Nat → Int64) (a_moveAt a_takenBlack a_takenWhite : Nat → Int32) (a_chaseBlack a_chaseWhite a_aheadBlack a_aheadWhite : Nat → Int64) (a_hasAhead : Nat → Int32) (a_breathsLeft a_laidBlack a_laidWhite a_answersLeft : Nat → Int64) (a_firstAnswer a_answering a_next : Nat → Int32) (sz : Nat) (a0 : Int32) (a1 : Int32) (q : Int32 × Int64 × Int64 × Int32 × Int32 × Int32 × Int32 × (Nat → Int64) × (Nat → Int64) × (Nat → Int32) × (Nat → Int32)) (hr : f_X7_fight mo_wide mo_high mo_law mo_acts mo_newBlack mo_newWhite mo_taken mo_triesMany mo_isSpent mo_found a_neighbours a_blackAt a_whiteAt a_moveAt a_next a0 a1 = some q) : Met l yX7_fight wsX7_fight rm_X7_fight (PrI (dC, dI) (wd_X7 ad cA mo_wide mo_high mo_law mo_acts mo_newBlack mo_newWhite mo_taken mo_triesMany mo_isSpent mo_found a_neighbours a_act a_blackAt a_whiteAt a_moveAt a_takenBlack a_takenWhite a_chaseBlack a_chaseWhite a_aheadBlack a_aheadWhite a_hasAhead a_breathsLeft a_laidBlack a_laidWhite a_answersLeft a_firstAnswer a_answering a_next) (td_X7 cA) sz [.ref (ad 0), .int a0, .int a1]) (QIi (dC, dI) (wd_X7 ad cA mo_wide mo_high mo_law mo_acts mo_newBlack mo_newWhite mo_taken mo_triesMany mo_isSpent mo_found a_neighbours a_act a_blackAt a_whiteAt a_moveAt a_takenBlack a_takenWhite a_chaseBlack a_chaseWhite a_aheadBlack a_aheadWhite a_hasAhead a_breathsLeft a_laidBlack a_laidWhite a_answersLeft a_firstAnswer a_answering a_next) (td_X7 cA) sz q.1 (wd_X7 ad cA mo_wide mo_high mo_law mo_acts q.2.1 q.2.2.1 q.2.2.2.1 q.2.2.2.2.1 q.2.2.2.2.2.1 q.2.2.2.2.2.2.1 a_neighbours a_act q.2.2.2.2.2.2.2.1 q.2.2.2.2.2.2.2.2.1 q.2.2.2.2.2.2.2.2.2.1 a_takenBlack a_takenWhite a_chaseBlack a_chaseWhite a_aheadBlack a_aheadWhite a_hasAhead a_breathsLeft a_laidBlack a_laidWhite a_answersLeft a_firstAnswer a_answering q.2.2.2.2.2.2.2.2.2.2)) 0 0 (va_A (wd_X7 ad cA mo_wide mo_high mo_law mo_acts mo_newBlack mo_newWhite mo_taken mo_triesMany mo_isSpent mo_found a_neighbours a_act a_blackAt a_whiteAt a_moveAt a_takenBlack a_takenWhite a_chaseBlack a_chaseWhite a_aheadBlack a_aheadWhite a_hasAhead a_breathsLeft a_laidBlack a_laidWhite a_answersLeft a_firstAnswer a_answering a_next) sz) := by
  refine mkI_i (cc := cX7_fight) (nL := 5) (by decide) rfl (Nat.le_of_ble_eq_true rfl) ?_
  intro p e R s m args below meth c H0 H locs A Q ls hRf hRl S hN hP hK hD hA hS hl kret
  have hl : lv_has ls 5 [(0, .ref (ad 0)), (1, .int a0), (2, .int a1)] := hl
  obtain ⟨hx, hb, hml, hown, hts⟩ := S
  have hown : s.vm.findClass RX7 = some m.cls := hown
  have S : CallFix p m c cX7_fight 5 s args wsX7_fight RX7 := ⟨hx, hb, hml, hown, hts⟩
  have huX7 : ∀ w ∈ u_ws RX7 TX7 29, w ∈ wsX7_fight := by decide +kernel
  have hf183 := hts (.fieldLink RX7 183 "EyeBoardModel" "triesMany" "I") (by decide +kernel)
  have hf186 := hts (.fieldLink RX7 186 "EyeBoardModel" "isSpent" "Z") (by decide +kernel)
  have hf73 := hts (.fieldLink RX7 73 "EyeBoardModel" "found" "I") (by decide +kernel)
  have hf30 := hts (.fieldLink RX7 30 "EyeBoardModel" "moveAt" "[I") (by decide +kernel)
  have hf86 := hts (.fieldLink RX7 86 "EyeBoardModel" "acts" "I") (by decide +kernel)
  have hf76 := hts (.fieldLink RX7 76 "EyeBoardModel" "next" "[I") (by decide +kernel)
  unfold f_X7_fight at hr
  refine lv_aload_n hx hb dX7_fight_0 rfl (lv_at hl 0 rfl) ?_
  refine lv_iload_n hx hb dX7_fight_1 rfl (lv_at hl 1 rfl) ?_
  obtain ⟨q1, hq1, hr⟩ := bd_use hr
  refine pcV_i (As := [.int a0]) (rest := []) S (c_X7_isCrossing l dC dI ad cA mo_wide mo_high mo_law mo_acts mo_newBlack mo_newWhite mo_taken mo_triesMany mo_isSpent mo_found a_neighbours a_act a_blackAt a_whiteAt a_moveAt a_takenBlack a_takenWhite a_chaseBlack a_chaseWhite a_aheadBlack a_aheadWhite a_hasAhead a_breathsLeft a_laidBlack a_laidWhite a_answersLeft a_firstAnswer a_answering a_next a0 q1 hq1) (cwV 1 hts gX7_fight_X7_isCrossing rfl rfl rfl (by decide +kernel) ⟨Nat.le_trans (m := rm_X7_fight.frames) (by decide) hRf, Nat.le_trans (m := rm_X7_fight.locals) (by decide) hRl⟩) hN hP hK ⟨Nat.zero_le _, Nat.zero_le _⟩ [0, 1, 2, 3, 4, 5, 6, 7, 8, 9, 10, 11, 12, 13, 14, 15, 16, 17, 18, 19] rfl [0, 1, 2, 3, 4, 5, 6, 7, 8, 9, 10, 11, 12, 13, 14, 15, 16, 17, 18] rfl 0 7 rfl rfl rfl hl.1 rfl (Nat.le_of_ble_eq_true rfl) dX7_fight_2 ?_
  refine lv_if_eq (tgt := 18) hx hb dX7_fight_5 (by decide) (fun c2 => ?_) (fun c2 => ?_)
  · have hr := ite_p hr c2
    refine lv_bipush (v := (-2 : Int32)) hx hb dX7_fight_18 (by decide) ?_
    obtain rfl := Option.some.inj hr
    exact kret _ _ _ _ dX7_fight_20 hP hD hS
  · have hr := ite_n hr c2
    refine lv_iload_n hx hb dX7_fight_8 rfl (lv_at hl 2 rfl) ?_
    refine lv_iconst (v := (1 : Int32)) hx hb dX7_fight_9 (by decide) ?_
    refine lv_bipush (v := (6 : Int32)) hx hb dX7_fight_10 (by decide) ?_
    obtain ⟨q3, hq3, hr⟩ := bd_use hr
    refine pcS_i (As := [.int a1, .int (1 : Int32), .int (6 : Int32)]) (rest := []) S (c_X7_in l dC dI a1 (1 : Int32) (6 : Int32) q3 hq3) (va_cwS 3 hts gX7_fight_X7_in rfl rfl rfl (by decide +kernel) ⟨Nat.le_trans (m := rm_X7_fight.frames) (by decide) hRf, Nat.le_trans (m := rm_X7_fight.locals) (by decide) hRl⟩) hN hP hK ⟨Nat.zero_le _, Nat.zero_le _⟩ rfl hl.1 rfl (Nat.le_of_ble_eq_true rfl) dX7_fight_12 ?_
    refine lv_if_ne (tgt := 21) hx hb dX7_fight_15 (by decide) (fun c4 => ?_) (fun c4 => ?_)
    · have hr := ite_n hr c4
      refine lv_aload_n hx hb dX7_fight_21 rfl (lv_at hl 0 rfl) ?_
      refine lv_iload_n hx hb dX7_fight_22 rfl (lv_at hl 1 rfl) ?_
      obtain ⟨q5, hq5, hr⟩ := bd_use hr
      refine pcV_i (As := [.int a0]) (rest := []) S (c_X7_atOf l dC dI ad cA mo_wide mo_high mo_law mo_acts mo_newBlack mo_newWhite mo_taken mo_triesMany mo_isSpent mo_found a_neighbours a_act a_blackAt a_whiteAt a_moveAt a_takenBlack a_takenWhite a_chaseBlack a_chaseWhite a_aheadBlack a_aheadWhite a_hasAhead a_breathsLeft a_laidBlack a_laidWhite a_answersLeft a_firstAnswer a_answering a_next a0 q5 hq5) (cwV 1 hts gX7_fight_X7_atOf rfl rfl rfl (by decide +kernel) ⟨Nat.le_trans (m := rm_X7_fight.frames) (by decide) hRf, Nat.le_trans (m := rm_X7_fight.locals) (by decide) hRl⟩) hN hP hK ⟨Nat.zero_le _, Nat.zero_le _⟩ [0, 1, 2, 3, 4, 5, 6, 7, 8, 9, 10, 11, 12, 13, 14, 15, 16, 17, 18, 19] rfl [0, 1, 2, 3, 4, 5, 6, 7, 8, 9, 10, 11, 12, 13, 14, 15, 16, 17, 18] rfl 0 7 rfl rfl rfl hl.1 rfl (Nat.le_of_ble_eq_true rfl) dX7_fight_23 ?_
      refine lv_istore_n (lv' := [(3, .int q5), (0, .ref (ad 0)), (1, .int a0), (2, .int a1)]) hx hb dX7_fight_26 rfl hl (by decide) rfl (fun ls hl => ?_)
      refine lv_iload_n hx hb dX7_fight_27 rfl (lv_at hl 0 rfl) ?_
      refine lv_if_ne (tgt := 34) hx hb dX7_fight_28 (by decide) (fun c6 => ?_) (fun c6 => ?_)
      · have hr := ite_n hr c6
        refine lv_aload_n hx hb dX7_fight_34 rfl (lv_at hl 1 rfl) ?_
        refine lv_iconst (v := (0 : Int32)) hx hb dX7_fight_35 (by decide) ?_
        refine va_put (D := (dC, dI)) (ci := 7) (v := .int (0 : Int32)) (ty := .int) (C := RX7) (T := TX7) (N := 29) hx hb hts huX7 tyX7 tyX7_ok nmX7 hown hK hP hD hS 0 rfl rfl 14 (by decide) hf183 (fun _ h9 => h9) rfl (by decide +kernel) rfl rfl (Nat.le_of_ble_eq_true rfl) dX7_fight_36 (fun H locs hP hD hS => ?_)
        have hP : va_P (dC, dI) vwCl (wd_X7 ad cA mo_wide mo_high mo_law mo_acts mo_newBlack mo_newWhite mo_taken (0 : Int32) mo_isSpent mo_found a_neighbours a_act a_blackAt a_whiteAt a_moveAt a_takenBlack a_takenWhite a_chaseBlack a_chaseWhite a_aheadBlack a_aheadWhite a_hasAhead a_breathsLeft a_laidBlack a_laidWhite a_answersLeft a_firstAnswer a_answering a_next) H := hP
        have hD : va_D A (wd_X7 ad cA mo_wide mo_high mo_law mo_acts mo_newBlack mo_newWhite mo_taken (0 : Int32) mo_isSpent mo_found a_neighbours a_act a_blackAt a_whiteAt a_moveAt a_takenBlack a_takenWhite a_chaseBlack a_chaseWhite a_aheadBlack a_aheadWhite a_hasAhead a_breathsLeft a_laidBlack a_laidWhite a_answersLeft a_firstAnswer a_answering a_next) := hD
        refine lv_aload_n hx hb dX7_fight_39 rfl (lv_at hl 1 rfl) ?_
        refine lv_iconst (v := (0 : Int32)) hx hb dX7_fight_40 (by decide) ?_
        refine va_put (D := (dC, dI)) (ci := 7) (v := .int (0 : Int32)) (ty := .boolean) (C := RX7) (T := TX7) (N := 29) hx hb hts huX7 tyX7 tyX7_ok nmX7 hown hK hP hD hS 0 rfl rfl 15 (by decide) hf186 (fun _ h9 => h9) rfl (by decide +kernel) rfl rfl (Nat.le_of_ble_eq_true rfl) dX7_fight_41 (fun H locs hP hD hS => ?_)
        have hP : va_P (dC, dI) vwCl (wd_X7 ad cA mo_wide mo_high mo_law mo_acts mo_newBlack mo_newWhite mo_taken (0 : Int32) (0 : Int32) mo_found a_neighbours a_act a_blackAt a_whiteAt a_moveAt a_takenBlack a_takenWhite a_chaseBlack a_chaseWhite a_aheadBlack a_aheadWhite a_hasAhead a_breathsLeft a_laidBlack a_laidWhite a_answersLeft a_firstAnswer a_answering a_next) H := hP
        have hD : va_D A (wd_X7 ad cA mo_wide mo_high mo_law mo_acts mo_newBlack mo_newWhite mo_taken (0 : Int32) (0 : Int32) mo_found a_neighbours a_act a_blackAt a_whiteAt a_moveAt a_takenBlack a_takenWhite a_chaseBlack a_chaseWhite a_aheadBlack a_aheadWhite a_hasAhead a_breathsLeft a_laidBlack a_laidWhite a_answersLeft a_firstAnswer a_answering a_next) := hD
        refine lv_aload_n hx hb dX7_fight_44 rfl (lv_at hl 1 rfl) ?_
        refine lv_iload_n hx hb dX7_fight_45 rfl (lv_at hl 0 rfl) ?_
        refine lv_iload_n hx hb dX7_fight_46 rfl (lv_at hl 2 rfl) ?_
        refine lv_iload_n hx hb dX7_fight_47 rfl (lv_at hl 3 rfl) ?_
        obtain ⟨q7, hq7, hr⟩ := bd_use hr
        refine icV_i (As := [.int q5, .int a0, .int a1]) (rest := []) (ws2 := (wd_X7 ad cA mo_wide mo_high mo_law mo_acts q7.2.1 q7.2.2.1 q7.2.2.2.1 q7.2.2.2.2.1 q7.2.2.2.2.2.1 mo_found a_neighbours a_act q7.2.2.2.2.2.2.1 q7.2.2.2.2.2.2.2.1 q7.2.2.2.2.2.2.2.2.1 a_takenBlack a_takenWhite a_chaseBlack a_chaseWhite a_aheadBlack a_aheadWhite a_hasAhead a_breathsLeft a_laidBlack a_laidWhite a_answersLeft a_firstAnswer a_answering q7.2.2.2.2.2.2.2.2.2)) S (c_X7_isTaken l dC dI ad cA mo_wide mo_high mo_law mo_acts mo_newBlack mo_newWhite mo_taken (0 : Int32) (0 : Int32) mo_found a_neighbours a_act a_blackAt a_whiteAt a_moveAt a_takenBlack a_takenWhite a_chaseBlack a_chaseWhite a_aheadBlack a_aheadWhite a_hasAhead a_breathsLeft a_laidBlack a_laidWhite a_answersLeft a_firstAnswer a_answering a_next H.size q5 a0 a1 q7 hq7) (cwV 3 hts gX7_fight_X7_isTaken rfl rfl rfl (by decide +kernel) ⟨Nat.le_trans (m := rm_X7_fight.frames) (by decide) hRf, Nat.le_trans (m := rm_X7_fight.locals) (by decide) hRl⟩) hN hP hK hD hS hA ⟨Nat.zero_le _, Nat.zero_le _⟩ [0, 1, 2, 3, 4, 5, 6, 7, 8, 9, 10, 11, 12, 13, 14, 15, 16, 17, 18, 19] [] [0, 1, 2, 3, 4, 5, 6, 7, 8, 9, 10, 11, 12, 13, 14, 15, 16, 17, 18, 19] rfl rfl rfl rfl rfl (by decide) rfl rfl rfl [0, 1, 2, 3, 4, 5, 6, 7, 8, 9, 10, 11, 12, 13, 14, 15, 16, 17, 18] rfl 0 7 rfl rfl rfl hl.1 rfl (Nat.le_of_ble_eq_true rfl) dX7_fight_48 (fun H locs hP hD hS => ?_)
        refine lv_topi (fun x8 ex8 => ?_)
        have hr := nm_use hr ex8
        refine lv_istore (lv' := [(4, .int x8), (3, .int q5), (0, .ref (ad 0)), (1, .int a0), (2, .int a1)]) hx hb dX7_fight_51 hl (by decide) rfl (fun ls hl => ?_)
        refine lv_aload_n hx hb dX7_fight_53 rfl (lv_at hl 2 rfl) ?_
        refine va_get (D := (dC, dI)) (ci := 7) (v := .int q7.2.2.2.2.2.1) (C := RX7) (T := TX7) (N := 29) hx hb hts huX7 hown hK hP 0 rfl rfl 15 (by decide) hf186 (fun _ h9 => h9) rfl dX7_fight_54 ?_
        refine lv_if_eq (tgt := 63) hx hb dX7_fight_57 (by decide) (fun c9 => ?_) (fun c9 => ?_)
        · have hr := ite_p hr c9
          refine lv_aload_n hx hb dX7_fight_63 rfl (lv_at hl 2 rfl) ?_
          refine lv_iload hx hb dX7_fight_64 (lv_at hl 0 rfl) ?_
          obtain ⟨K11, eK11, hr⟩ := nm_ex hr
          have kK11 : ∀ (u10 : Int32) (H : Heap) (locs : List Loc) , K11 u10 = some q → va_P (dC, dI) vwCl (wd_X7 ad cA mo_wide mo_high mo_law mo_acts q7.2.1 q7.2.2.1 q7.2.2.2.1 q7.2.2.2.2.1 q7.2.2.2.2.2.1 mo_found a_neighbours a_act q7.2.2.2.2.2.2.1 q7.2.2.2.2.2.2.2.1 q7.2.2.2.2.2.2.2.2.1 a_takenBlack a_takenWhite a_chaseBlack a_chaseWhite a_aheadBlack a_aheadWhite a_hasAhead a_breathsLeft a_laidBlack a_laidWhite a_answersLeft a_firstAnswer a_answering q7.2.2.2.2.2.2.2.2.2) H → va_D A (wd_X7 ad cA mo_wide mo_high mo_law mo_acts q7.2.1 q7.2.2.1 q7.2.2.2.1 q7.2.2.2.2.1 q7.2.2.2.2.2.1 mo_found a_neighbours a_act q7.2.2.2.2.2.2.1 q7.2.2.2.2.2.2.2.1 q7.2.2.2.2.2.2.2.2.1 a_takenBlack a_takenWhite a_chaseBlack a_chaseWhite a_aheadBlack a_aheadWhite a_hasAhead a_breathsLeft a_laidBlack a_laidWhite a_answersLeft a_firstAnswer a_answering q7.2.2.2.2.2.2.2.2.2) → va_S A H0 H locs → ∀ (ls : Array Slot), lv_has ls 5 [(4, .int x8)] → W p l e R s m args below meth c H locs 0 0 Q (F0 m 97 ls [.int u10, .ref (ad 0)]) := by
            intro u10 H locs hr hP hD hS ls hl
            rw [eK11] at hr
            refine va_put (D := (dC, dI)) (ci := 7) (v := .int u10) (ty := .int) (C := RX7) (T := TX7) (N := 29) hx hb hts huX7 tyX7 tyX7_ok nmX7 hown hK hP hD hS 0 rfl rfl 27 (by decide) hf73 (fun _ h9 => h9) rfl (by decide +kernel) rfl rfl (Nat.le_of_ble_eq_true rfl) dX7_fight_97 (fun H locs hP hD hS => ?_)
            have hP : va_P (dC, dI) vwCl (wd_X7 ad cA mo_wide mo_high mo_law mo_acts q7.2.1 q7.2.2.1 q7.2.2.2.1 q7.2.2.2.2.1 q7.2.2.2.2.2.1 u10 a_neighbours a_act q7.2.2.2.2.2.2.1 q7.2.2.2.2.2.2.2.1 q7.2.2.2.2.2.2.2.2.1 a_takenBlack a_takenWhite a_chaseBlack a_chaseWhite a_aheadBlack a_aheadWhite a_hasAhead a_breathsLeft a_laidBlack a_laidWhite a_answersLeft a_firstAnswer a_answering q7.2.2.2.2.2.2.2.2.2) H := hP
            have hD : va_D A (wd_X7 ad cA mo_wide mo_high mo_law mo_acts q7.2.1 q7.2.2.1 q7.2.2.2.1 q7.2.2.2.2.1 q7.2.2.2.2.2.1 u10 a_neighbours a_act q7.2.2.2.2.2.2.1 q7.2.2.2.2.2.2.2.1 q7.2.2.2.2.2.2.2.2.1 a_takenBlack a_takenWhite a_chaseBlack a_chaseWhite a_aheadBlack a_aheadWhite a_hasAhead a_breathsLeft a_laidBlack a_laidWhite a_answersLeft a_firstAnswer a_answering q7.2.2.2.2.2.2.2.2.2) := hD
            refine lv_iload hx hb dX7_fight_100 (lv_at hl 0 rfl) ?_
            refine lv_if_eq (tgt := 109) hx hb dX7_fight_102 (by decide) (fun c12 => ?_) (fun c12 => ?_)
            · have hr := ite_p hr c12
              refine lv_iconst (v := (0 : Int32)) hx hb dX7_fight_109 (by decide) ?_
              obtain rfl := Option.some.inj hr
              exact kret _ _ _ _ dX7_fight_110 hP hD hS
            · have hr := ite_n hr c12
              refine lv_iconst (v := (1 : Int32)) hx hb dX7_fight_105 (by decide) ?_
              refine lv_goto (tgt := 110) hx hb dX7_fight_106 (by decide) ?_
              obtain rfl := Option.some.inj hr
              exact kret _ _ _ _ dX7_fight_110 hP hD hS
          refine lv_if_eq (tgt := 93) hx hb dX7_fight_66 (by decide) (fun c13 => ?_) (fun c13 => ?_)
          · have hr := ite_p hr c13
            refine lv_aload_n hx hb dX7_fight_93 rfl (lv_at hl 2 rfl) ?_
            refine va_get (D := (dC, dI)) (ci := 7) (v := .int mo_found) (C := RX7) (T := TX7) (N := 29) hx hb hts huX7 hown hK hP 0 rfl rfl 27 (by decide) hf73 (fun _ h9 => h9) rfl dX7_fight_94 ?_
            exact kK11 mo_found _ _ hr hP hD hS ls (lv_sub hl [0] rfl)
          · have hr := ite_n hr c13
            refine lv_aload_n hx hb dX7_fight_69 rfl (lv_at hl 2 rfl) ?_
            refine va_get (D := (dC, dI)) (ci := 7) (v := .ref (ad 5)) (C := RX7) (T := TX7) (N := 29) hx hb hts huX7 hown hK hP 0 rfl rfl 8 (by decide) hf30 (fun _ h9 => h9) rfl dX7_fight_70 ?_
            refine lv_aload_n hx hb dX7_fight_73 rfl (lv_at hl 2 rfl) ?_
            refine va_get (D := (dC, dI)) (ci := 7) (v := .int mo_acts) (C := RX7) (T := TX7) (N := 29) hx hb hts huX7 hown hK hP 0 rfl rfl 4 (by decide) hf86 (fun _ h9 => h9) rfl dX7_fight_74 ?_
            obtain ⟨hi14, hr⟩ := ite_g hr
            refine va_iald hx hb hK hP 5 4 rfl rfl hi14 dX7_fight_77 ?_
            refine lv_iload_n hx hb dX7_fight_78 rfl (lv_at hl 1 rfl) ?_
            refine lv_icmp_eq (tgt := 93) hx hb dX7_fight_79 (by decide) (fun c15 => ?_) (fun c15 => ?_)
            · have hr := ite_p hr c15
              refine lv_aload_n hx hb dX7_fight_93 rfl (lv_at hl 2 rfl) ?_
              refine va_get (D := (dC, dI)) (ci := 7) (v := .int mo_found) (C := RX7) (T := TX7) (N := 29) hx hb hts huX7 hown hK hP 0 rfl rfl 27 (by decide) hf73 (fun _ h9 => h9) rfl dX7_fight_94 ?_
              exact kK11 mo_found _ _ hr hP hD hS ls (lv_sub hl [0] rfl)
            · have hr := ite_n hr c15
              refine lv_aload_n hx hb dX7_fight_82 rfl (lv_at hl 2 rfl) ?_
              refine va_get (D := (dC, dI)) (ci := 7) (v := .ref (ad 19)) (C := RX7) (T := TX7) (N := 29) hx hb hts huX7 hown hK hP 0 rfl rfl 28 (by decide) hf76 (fun _ h9 => h9) rfl dX7_fight_83 ?_
              refine lv_iconst (v := (0 : Int32)) hx hb dX7_fight_86 (by decide) ?_
              obtain ⟨hi16, hr⟩ := ite_g hr
              refine va_iald hx hb hK hP 19 18 rfl rfl hi16 dX7_fight_87 ?_
              refine lv_iconst (v := (1 : Int32)) hx hb dX7_fight_88 (by decide) ?_
              refine lv_isub hx hb dX7_fight_89 ?_
              refine lv_goto (tgt := 97) hx hb dX7_fight_90 (by decide) ?_
              exact kK11 ((q7.2.2.2.2.2.2.2.2.2 (0 : Int32).toNatClampNeg) - (1 : Int32)) _ _ hr hP hD hS ls (lv_sub hl [0] rfl)
        · have hr := ite_n hr c9
          refine lv_bipush (v := (-5 : Int32)) hx hb dX7_fight_60 (by decide) ?_
          obtain rfl := Option.some.inj hr
          exact kret _ _ _ _ dX7_fight_62 hP hD hS
      · have hr := ite_p hr c6
        refine lv_bipush (v := (-3 : Int32)) hx hb dX7_fight_31 (by decide) ?_
        obtain rfl := Option.some.inj hr
        exact kret _ _ _ _ dX7_fight_33 hP hD hS
    · have hr := ite_p hr c4
      refine lv_bipush (v := (-2 : Int32)) hx hb dX7_fight_18 (by decide) ?_
      obtain rfl := Option.some.inj hr
      exact kret _ _ _ _ dX7_fight_20 hP hD hS

def f_X7_tries (mo_triesMany : Int32)  : Option (Int32) :=
  some (mo_triesMany)

abbrev rm_X7_tries : Room := { frames := 0, cells := 0, slots := 0, locals := 0 }
set_option maxHeartbeats 4000000 in
set_option maxRecDepth 100000 in
theorem c_X7_tries (l : Launch) (dC : Nat → ClassId) (dI : Nat → Nat → Nat) (ad : Nat → Nat) (cA : Nat → ClassId) (mo_wide mo_high mo_law mo_acts : Int32) (mo_newBlack mo_newWhite : Int64) (mo_taken mo_triesMany mo_isSpent mo_found : Int32) (a_neighbours : Nat → Int64) (a_act : Nat → Int32) (a_blackAt a_whiteAt : Nat → Int64) (a_moveAt a_takenBlack a_takenWhite : Nat → Int32) (a_chaseBlack a_chaseWhite a_aheadBlack a_aheadWhite : Nat → Int64) (a_hasAhead : Nat → Int32) (a_breathsLeft a_laidBlack a_laidWhite a_answersLeft : Nat → Int64) (a_firstAnswer a_answering a_next : Nat → Int32)  (q : Int32) (hr : f_X7_tries mo_triesMany  = some q) : Met l yX7_tries wsX7_tries rm_X7_tries (PrP (dC, dI) (wd_X7 ad cA mo_wide mo_high mo_law mo_acts mo_newBlack mo_newWhite mo_taken mo_triesMany mo_isSpent mo_found a_neighbours a_act a_blackAt a_whiteAt a_moveAt a_takenBlack a_takenWhite a_chaseBlack a_chaseWhite a_aheadBlack a_aheadWhite a_hasAhead a_breathsLeft a_laidBlack a_laidWhite a_answersLeft a_firstAnswer a_answering a_next) (td_X7 cA) [.ref (ad 0)]) (vp_Si (fun x => x = q)) 0 0 (fun _ => False) := by
  refine mkP_i (cc := cX7_tries) (nL := 1) (by decide) rfl (Nat.le_of_ble_eq_true rfl) ?_
  intro p e R s m args below meth c H Q ls hRf hRl S hN hP hK hl kret
  have hl : lv_has ls 1 [(0, .ref (ad 0))] := hl
  obtain ⟨hx, hb, hml, hown, hts⟩ := S
  have hown : s.vm.findClass RX7 = some m.cls := hown
  have S : CallFix p m c cX7_tries 1 s args wsX7_tries RX7 := ⟨hx, hb, hml, hown, hts⟩
  have huX7 : ∀ w ∈ u_ws RX7 TX7 29, w ∈ wsX7_tries := by decide +kernel
  have hf183 := hts (.fieldLink RX7 183 "EyeBoardModel" "triesMany" "I") (by decide +kernel)
  unfold f_X7_tries at hr
  refine lv_aload_n hx hb dX7_tries_0 rfl (lv_at hl 0 rfl) ?_
  refine va_get (D := (dC, dI)) (ci := 7) (v := .int mo_triesMany) (C := RX7) (T := TX7) (N := 29) hx hb hts huX7 hown hK hP 0 rfl rfl 14 (by decide) hf183 (fun _ h9 => h9) rfl dX7_tries_1 ?_
  obtain rfl := Option.some.inj hr
  exact kret _ _ dX7_tries_4

def f_X7_first (mo_found : Int32)  : Option (Int32) :=
  some (mo_found)

abbrev rm_X7_first : Room := { frames := 0, cells := 0, slots := 0, locals := 0 }
set_option maxHeartbeats 4000000 in
set_option maxRecDepth 100000 in
theorem c_X7_first (l : Launch) (dC : Nat → ClassId) (dI : Nat → Nat → Nat) (ad : Nat → Nat) (cA : Nat → ClassId) (mo_wide mo_high mo_law mo_acts : Int32) (mo_newBlack mo_newWhite : Int64) (mo_taken mo_triesMany mo_isSpent mo_found : Int32) (a_neighbours : Nat → Int64) (a_act : Nat → Int32) (a_blackAt a_whiteAt : Nat → Int64) (a_moveAt a_takenBlack a_takenWhite : Nat → Int32) (a_chaseBlack a_chaseWhite a_aheadBlack a_aheadWhite : Nat → Int64) (a_hasAhead : Nat → Int32) (a_breathsLeft a_laidBlack a_laidWhite a_answersLeft : Nat → Int64) (a_firstAnswer a_answering a_next : Nat → Int32)  (q : Int32) (hr : f_X7_first mo_found  = some q) : Met l yX7_first wsX7_first rm_X7_first (PrP (dC, dI) (wd_X7 ad cA mo_wide mo_high mo_law mo_acts mo_newBlack mo_newWhite mo_taken mo_triesMany mo_isSpent mo_found a_neighbours a_act a_blackAt a_whiteAt a_moveAt a_takenBlack a_takenWhite a_chaseBlack a_chaseWhite a_aheadBlack a_aheadWhite a_hasAhead a_breathsLeft a_laidBlack a_laidWhite a_answersLeft a_firstAnswer a_answering a_next) (td_X7 cA) [.ref (ad 0)]) (vp_Si (fun x => x = q)) 0 0 (fun _ => False) := by
  refine mkP_i (cc := cX7_first) (nL := 1) (by decide) rfl (Nat.le_of_ble_eq_true rfl) ?_
  intro p e R s m args below meth c H Q ls hRf hRl S hN hP hK hl kret
  have hl : lv_has ls 1 [(0, .ref (ad 0))] := hl
  obtain ⟨hx, hb, hml, hown, hts⟩ := S
  have hown : s.vm.findClass RX7 = some m.cls := hown
  have S : CallFix p m c cX7_first 1 s args wsX7_first RX7 := ⟨hx, hb, hml, hown, hts⟩
  have huX7 : ∀ w ∈ u_ws RX7 TX7 29, w ∈ wsX7_first := by decide +kernel
  have hf73 := hts (.fieldLink RX7 73 "EyeBoardModel" "found" "I") (by decide +kernel)
  unfold f_X7_first at hr
  refine lv_aload_n hx hb dX7_first_0 rfl (lv_at hl 0 rfl) ?_
  refine va_get (D := (dC, dI)) (ci := 7) (v := .int mo_found) (C := RX7) (T := TX7) (N := 29) hx hb hts huX7 hown hK hP 0 rfl rfl 27 (by decide) hf73 (fun _ h9 => h9) rfl dX7_first_1 ?_
  obtain rfl := Option.some.inj hr
  exact kret _ _ dX7_first_4

def lp_X7_pointsOf_29 (mo_wide : Int32) (mo_high : Int32) (mo_acts : Int32) (a_neighbours : Nat → Int64) (a_blackAt : Nat → Int64) (a_whiteAt : Nat → Int64) (a0 : Int32) (q3 : Int64) (K5 : Int32 → Option (Int32)) : Nat → Int64 → Int32 → Option (Int32)
  | 0, _, _ => none
  | nF + 1, v12, v13 =>
    if v12 = (0 : Int64) then (
      K5 v13
    )
    else (
      (f_X7_spread mo_wide mo_high a_neighbours (v12 &&& (-v12)) q3).bind fun q15 =>
      nm (v12 &&& (q15 ^^^ (-1 : Int64))) fun x16 =>
      (f_X7_around mo_wide mo_high a_neighbours q15).bind fun q17 =>
      (f_X7_stones mo_acts a_blackAt a_whiteAt a0).bind fun q18 =>
      if q17 &&& q18 = (0 : Int64) then (
        nm (v13 + (0 : Int32)) fun x20 =>
        lp_X7_pointsOf_29 mo_wide mo_high mo_acts a_neighbours a_blackAt a_whiteAt a0 q3 K5 nF x16 x20
      )
      else (
        (f_X7_other a0).bind fun q21 =>
        (f_X7_stones mo_acts a_blackAt a_whiteAt q21).bind fun q22 =>
        if q17 &&& q22 = (0 : Int64) then (
          (f_X7_many q15).bind fun q25 =>
          nm (v13 + q25) fun x26 =>
          lp_X7_pointsOf_29 mo_wide mo_high mo_acts a_neighbours a_blackAt a_whiteAt a0 q3 K5 nF x16 x26
        )
        else (
          nm (v13 + (0 : Int32)) fun x24 =>
          lp_X7_pointsOf_29 mo_wide mo_high mo_acts a_neighbours a_blackAt a_whiteAt a0 q3 K5 nF x16 x24
        )
      )
    )

def f_X7_pointsOf (mo_wide : Int32) (mo_high : Int32) (mo_acts : Int32) (a_neighbours : Nat → Int64) (a_blackAt : Nat → Int64) (a_whiteAt : Nat → Int64) (a_takenBlack : Nat → Int32) (a_takenWhite : Nat → Int32) (a0 : Int32) (a1 : Int32) : Option (Int32) :=
  if (mo_acts < 0 ∨ 130 ≤ mo_acts.toNatClampNeg) then none else
  if (mo_acts < 0 ∨ 130 ≤ mo_acts.toNatClampNeg) then none else
  (f_X7_free mo_wide mo_high (a_blackAt mo_acts.toNatClampNeg) (a_whiteAt mo_acts.toNatClampNeg)).bind fun q3 =>
  nm (fun (v4 : Int32) =>
  if a1 = (1 : Int32) then (
    (f_X7_stones mo_acts a_blackAt a_whiteAt a0).bind fun q10 =>
    (f_X7_many q10).bind fun q11 =>
    some (v4 + q11)
  )
  else (
    if a0 = (1 : Int32) then (
      if (mo_acts < 0 ∨ 121 ≤ mo_acts.toNatClampNeg) then none else
      some (v4 + (a_takenWhite mo_acts.toNatClampNeg))
    )
    else (
      if (mo_acts < 0 ∨ 121 ≤ mo_acts.toNatClampNeg) then none else
      some (v4 + (a_takenBlack mo_acts.toNatClampNeg))
    )
  )
  ) fun K5 =>
  lp_X7_pointsOf_29 mo_wide mo_high mo_acts a_neighbours a_blackAt a_whiteAt a0 q3 K5 FU q3 (0 : Int32)

abbrev rm_X7_pointsOf : Room := { frames := 3, cells := 0, slots := 0, locals := 73 }
set_option maxHeartbeats 4000000 in
set_option maxRecDepth 100000 in
theorem c_X7_pointsOf (l : Launch) (dC : Nat → ClassId) (dI : Nat → Nat → Nat) (ad : Nat → Nat) (cA : Nat → ClassId) (mo_wide mo_high mo_law mo_acts : Int32) (mo_newBlack mo_newWhite : Int64) (mo_taken mo_triesMany mo_isSpent mo_found : Int32) (a_neighbours : Nat → Int64) (a_act : Nat → Int32) (a_blackAt a_whiteAt : Nat → Int64) (a_moveAt a_takenBlack a_takenWhite : Nat → Int32) (a_chaseBlack a_chaseWhite a_aheadBlack a_aheadWhite : Nat → Int64) (a_hasAhead : Nat → Int32) (a_breathsLeft a_laidBlack a_laidWhite a_answersLeft : Nat → Int64) (a_firstAnswer a_answering a_next : Nat → Int32) (a0 : Int32) (a1 : Int32) (q : Int32) (hr : f_X7_pointsOf mo_wide mo_high mo_acts a_neighbours a_blackAt a_whiteAt a_takenBlack a_takenWhite a0 a1 = some q) : Met l yX7_pointsOf wsX7_pointsOf rm_X7_pointsOf (PrP (dC, dI) (wd_X7 ad cA mo_wide mo_high mo_law mo_acts mo_newBlack mo_newWhite mo_taken mo_triesMany mo_isSpent mo_found a_neighbours a_act a_blackAt a_whiteAt a_moveAt a_takenBlack a_takenWhite a_chaseBlack a_chaseWhite a_aheadBlack a_aheadWhite a_hasAhead a_breathsLeft a_laidBlack a_laidWhite a_answersLeft a_firstAnswer a_answering a_next) (td_X7 cA) [.ref (ad 0), .int a0, .int a1]) (vp_Si (fun x => x = q)) 0 0 (fun _ => False) := by
  refine mkP_i (cc := cX7_pointsOf) (nL := 12) (by decide) rfl (Nat.le_of_ble_eq_true rfl) ?_
  intro p e R s m args below meth c H Q ls hRf hRl S hN hP hK hl kret
  have hl : lv_has ls 12 [(0, .ref (ad 0)), (1, .int a0), (2, .int a1)] := hl
  obtain ⟨hx, hb, hml, hown, hts⟩ := S
  have hown : s.vm.findClass RX7 = some m.cls := hown
  have S : CallFix p m c cX7_pointsOf 12 s args wsX7_pointsOf RX7 := ⟨hx, hb, hml, hown, hts⟩
  have huX7 : ∀ w ∈ u_ws RX7 TX7 29, w ∈ wsX7_pointsOf := by decide +kernel
  have hf24 := hts (.fieldLink RX7 24 "EyeBoardModel" "blackAt" "[J") (by decide +kernel)
  have hf86 := hts (.fieldLink RX7 86 "EyeBoardModel" "acts" "I") (by decide +kernel)
  have hf27 := hts (.fieldLink RX7 27 "EyeBoardModel" "whiteAt" "[J") (by decide +kernel)
  have hf33 := hts (.fieldLink RX7 33 "EyeBoardModel" "takenBlack" "[I") (by decide +kernel)
  have hf36 := hts (.fieldLink RX7 36 "EyeBoardModel" "takenWhite" "[I") (by decide +kernel)
  have hk105 := hts (.constantLong RX7 105 (-1 : Int64)) (by decide +kernel)
  unfold f_X7_pointsOf at hr
  refine lv_aload_n hx hb dX7_pointsOf_0 rfl (lv_at hl 0 rfl) ?_
  refine lv_aload_n hx hb dX7_pointsOf_1 rfl (lv_at hl 0 rfl) ?_
  refine va_get (D := (dC, dI)) (ci := 7) (v := .ref (ad 3)) (C := RX7) (T := TX7) (N := 29) hx hb hts huX7 hown hK hP 0 rfl rfl 6 (by decide) hf24 (fun _ h9 => h9) rfl dX7_pointsOf_2 ?_
  refine lv_aload_n hx hb dX7_pointsOf_5 rfl (lv_at hl 0 rfl) ?_
  refine va_get (D := (dC, dI)) (ci := 7) (v := .int mo_acts) (C := RX7) (T := TX7) (N := 29) hx hb hts huX7 hown hK hP 0 rfl rfl 4 (by decide) hf86 (fun _ h9 => h9) rfl dX7_pointsOf_6 ?_
  obtain ⟨hi1, hr⟩ := ite_g hr
  refine va_lald hx hb hK hP 3 2 rfl rfl hi1 dX7_pointsOf_9 ?_
  refine lv_aload_n hx hb dX7_pointsOf_10 rfl (lv_at hl 0 rfl) ?_
  refine va_get (D := (dC, dI)) (ci := 7) (v := .ref (ad 4)) (C := RX7) (T := TX7) (N := 29) hx hb hts huX7 hown hK hP 0 rfl rfl 7 (by decide) hf27 (fun _ h9 => h9) rfl dX7_pointsOf_11 ?_
  refine lv_aload_n hx hb dX7_pointsOf_14 rfl (lv_at hl 0 rfl) ?_
  refine va_get (D := (dC, dI)) (ci := 7) (v := .int mo_acts) (C := RX7) (T := TX7) (N := 29) hx hb hts huX7 hown hK hP 0 rfl rfl 4 (by decide) hf86 (fun _ h9 => h9) rfl dX7_pointsOf_15 ?_
  obtain ⟨hi2, hr⟩ := ite_g hr
  refine va_lald hx hb hK hP 4 3 rfl rfl hi2 dX7_pointsOf_18 ?_
  obtain ⟨q3, hq3, hr⟩ := bd_use hr
  refine pcV_l (As := [.long (a_blackAt mo_acts.toNatClampNeg), .long (a_whiteAt mo_acts.toNatClampNeg)]) (rest := []) S (c_X7_free l dC dI ad cA mo_wide mo_high mo_law mo_acts mo_newBlack mo_newWhite mo_taken mo_triesMany mo_isSpent mo_found a_neighbours a_act a_blackAt a_whiteAt a_moveAt a_takenBlack a_takenWhite a_chaseBlack a_chaseWhite a_aheadBlack a_aheadWhite a_hasAhead a_breathsLeft a_laidBlack a_laidWhite a_answersLeft a_firstAnswer a_answering a_next (a_blackAt mo_acts.toNatClampNeg) (a_whiteAt mo_acts.toNatClampNeg) q3 hq3) (cwV 2 hts gX7_pointsOf_X7_free rfl rfl rfl (by decide +kernel) ⟨Nat.le_trans (m := rm_X7_pointsOf.frames) (by decide) hRf, Nat.le_trans (m := rm_X7_pointsOf.locals) (by decide) hRl⟩) hN hP hK ⟨Nat.zero_le _, Nat.zero_le _⟩ [0, 1, 2, 3, 4, 5, 6, 7, 8, 9, 10, 11, 12, 13, 14, 15, 16, 17, 18, 19] rfl [0, 1, 2, 3, 4, 5, 6, 7, 8, 9, 10, 11, 12, 13, 14, 15, 16, 17, 18] rfl 0 7 rfl rfl rfl hl.1 rfl (Nat.le_of_ble_eq_true rfl) dX7_pointsOf_19 ?_
  refine lv_lstore_n (lv' := [(3, .long q3), (0, .ref (ad 0)), (1, .int a0), (2, .int a1)]) hx hb dX7_pointsOf_22 rfl hl (by decide) rfl (fun ls hl => ?_)
  refine lv_lload_n hx hb dX7_pointsOf_23 rfl (lv_at hl 0 rfl) ?_
  refine lv_lstore (lv' := [(5, .long q3), (3, .long q3), (0, .ref (ad 0)), (1, .int a0), (2, .int a1)]) hx hb dX7_pointsOf_24 hl (by decide) rfl (fun ls hl => ?_)
  refine lv_iconst (v := (0 : Int32)) hx hb dX7_pointsOf_26 (by decide) ?_
  refine lv_istore (lv' := [(7, .int (0 : Int32)), (5, .long q3), (3, .long q3), (0, .ref (ad 0)), (1, .int a0), (2, .int a1)]) hx hb dX7_pointsOf_27 hl (by decide) rfl (fun ls hl => ?_)
  obtain ⟨K5, eK5, hr⟩ := nm_ex hr
  have kK5 : ∀ (v4 : Int32) , K5 v4 = some q → ∀ (ls : Array Slot), lv_has ls 12 [(0, .ref (ad 0)), (1, .int a0), (2, .int a1), (7, .int v4)] → W p l e R s m args below meth c H [] 0 0 Q (F0 m 114 ls []) := by
    intro v4 hr ls hl
    rw [eK5] at hr
    refine lv_iload hx hb dX7_pointsOf_114 (lv_at hl 3 rfl) ?_
    refine lv_iload_n hx hb dX7_pointsOf_116 rfl (lv_at hl 2 rfl) ?_
    refine lv_iconst (v := (1 : Int32)) hx hb dX7_pointsOf_117 (by decide) ?_
    refine lv_icmp_ne (tgt := 132) hx hb dX7_pointsOf_118 (by decide) (fun c6 => ?_) (fun c6 => ?_)
    · have hr := ite_n hr c6
      refine lv_iload_n hx hb dX7_pointsOf_132 rfl (lv_at hl 1 rfl) ?_
      refine lv_iconst (v := (1 : Int32)) hx hb dX7_pointsOf_133 (by decide) ?_
      refine lv_icmp_ne (tgt := 149) hx hb dX7_pointsOf_134 (by decide) (fun c7 => ?_) (fun c7 => ?_)
      · have hr := ite_n hr c7
        refine lv_aload_n hx hb dX7_pointsOf_149 rfl (lv_at hl 0 rfl) ?_
        refine va_get (D := (dC, dI)) (ci := 7) (v := .ref (ad 6)) (C := RX7) (T := TX7) (N := 29) hx hb hts huX7 hown hK hP 0 rfl rfl 9 (by decide) hf33 (fun _ h9 => h9) rfl dX7_pointsOf_150 ?_
        refine lv_aload_n hx hb dX7_pointsOf_153 rfl (lv_at hl 0 rfl) ?_
        refine va_get (D := (dC, dI)) (ci := 7) (v := .int mo_acts) (C := RX7) (T := TX7) (N := 29) hx hb hts huX7 hown hK hP 0 rfl rfl 4 (by decide) hf86 (fun _ h9 => h9) rfl dX7_pointsOf_154 ?_
        obtain ⟨hi8, hr⟩ := ite_g hr
        refine va_iald hx hb hK hP 6 5 rfl rfl hi8 dX7_pointsOf_157 ?_
        refine lv_iadd hx hb dX7_pointsOf_158 ?_
        obtain rfl := Option.some.inj hr
        exact kret _ _ dX7_pointsOf_159
      · have hr := ite_p hr c7
        refine lv_aload_n hx hb dX7_pointsOf_137 rfl (lv_at hl 0 rfl) ?_
        refine va_get (D := (dC, dI)) (ci := 7) (v := .ref (ad 7)) (C := RX7) (T := TX7) (N := 29) hx hb hts huX7 hown hK hP 0 rfl rfl 10 (by decide) hf36 (fun _ h9 => h9) rfl dX7_pointsOf_138 ?_
        refine lv_aload_n hx hb dX7_pointsOf_141 rfl (lv_at hl 0 rfl) ?_
        refine va_get (D := (dC, dI)) (ci := 7) (v := .int mo_acts) (C := RX7) (T := TX7) (N := 29) hx hb hts huX7 hown hK hP 0 rfl rfl 4 (by decide) hf86 (fun _ h9 => h9) rfl dX7_pointsOf_142 ?_
        obtain ⟨hi9, hr⟩ := ite_g hr
        refine va_iald hx hb hK hP 7 6 rfl rfl hi9 dX7_pointsOf_145 ?_
        refine lv_goto (tgt := 158) hx hb dX7_pointsOf_146 (by decide) ?_
        refine lv_iadd hx hb dX7_pointsOf_158 ?_
        obtain rfl := Option.some.inj hr
        exact kret _ _ dX7_pointsOf_159
    · have hr := ite_p hr c6
      refine lv_aload_n hx hb dX7_pointsOf_121 rfl (lv_at hl 0 rfl) ?_
      refine lv_iload_n hx hb dX7_pointsOf_122 rfl (lv_at hl 1 rfl) ?_
      obtain ⟨q10, hq10, hr⟩ := bd_use hr
      refine pcV_l (As := [.int a0]) (rest := [.int v4]) S (c_X7_stones l dC dI ad cA mo_wide mo_high mo_law mo_acts mo_newBlack mo_newWhite mo_taken mo_triesMany mo_isSpent mo_found a_neighbours a_act a_blackAt a_whiteAt a_moveAt a_takenBlack a_takenWhite a_chaseBlack a_chaseWhite a_aheadBlack a_aheadWhite a_hasAhead a_breathsLeft a_laidBlack a_laidWhite a_answersLeft a_firstAnswer a_answering a_next a0 q10 hq10) (cwV 1 hts gX7_pointsOf_X7_stones rfl rfl rfl (by decide +kernel) ⟨Nat.le_trans (m := rm_X7_pointsOf.frames) (by decide) hRf, Nat.le_trans (m := rm_X7_pointsOf.locals) (by decide) hRl⟩) hN hP hK ⟨Nat.zero_le _, Nat.zero_le _⟩ [0, 1, 2, 3, 4, 5, 6, 7, 8, 9, 10, 11, 12, 13, 14, 15, 16, 17, 18, 19] rfl [0, 1, 2, 3, 4, 5, 6, 7, 8, 9, 10, 11, 12, 13, 14, 15, 16, 17, 18] rfl 0 7 rfl rfl rfl hl.1 rfl (Nat.le_of_ble_eq_true rfl) dX7_pointsOf_123 ?_
      obtain ⟨q11, hq11, hr⟩ := bd_use hr
      refine pcS_i (As := [.long q10]) (rest := [.int v4]) S (c_X7_many l dC dI q10 q11 hq11) (va_cwS 1 hts gX7_pointsOf_X7_many rfl rfl rfl (by decide +kernel) ⟨Nat.le_trans (m := rm_X7_pointsOf.frames) (by decide) hRf, Nat.le_trans (m := rm_X7_pointsOf.locals) (by decide) hRl⟩) hN hP hK ⟨Nat.zero_le _, Nat.zero_le _⟩ rfl hl.1 rfl (Nat.le_of_ble_eq_true rfl) dX7_pointsOf_126 ?_
      refine lv_goto (tgt := 158) hx hb dX7_pointsOf_129 (by decide) ?_
      refine lv_iadd hx hb dX7_pointsOf_158 ?_
      obtain rfl := Option.some.inj hr
      exact kret _ _ dX7_pointsOf_159
  have llp_X7_pointsOf_29 : ∀ (nF : Nat) (v12 : Int64) (v13 : Int32) , lp_X7_pointsOf_29 mo_wide mo_high mo_acts a_neighbours a_blackAt a_whiteAt a0 q3 K5 nF v12 v13 = some q → ∀ (ls : Array Slot), lv_has ls 12 [(0, .ref (ad 0)), (1, .int a0), (2, .int a1), (3, .long q3), (5, .long v12), (7, .int v13)] → W p l e R s m args below meth c H [] 0 0 Q (F0 m 29 ls []) := by
    intro nF
    induction nF with
    | zero => intro v12 v13 hr; exact absurd hr (by simp [lp_X7_pointsOf_29])
    | succ nF ih =>
      intro v12 v13 hr ls hl
      rw [lp_X7_pointsOf_29] at hr
      refine lv_lload hx hb dX7_pointsOf_29 (lv_at hl 4 rfl) ?_
      refine lv_lconst (v := (0 : Int64)) hx hb dX7_pointsOf_31 (by decide) ?_
      refine W.lcmp hx hb dX7_pointsOf_32 ?_
      refine lv_if_eq (tgt := 114) hx hb dX7_pointsOf_33 (by decide) (fun c14 => ?_) (fun c14 => ?_)
      · have c14 := cmp_t c14
        have hr := ite_p hr c14
        exact kK5 v13 hr ls (lv_sub hl [0, 1, 2, 5] rfl)
      · have c14 := cmp_f c14
        have hr := ite_n hr c14
        refine lv_aload_n hx hb dX7_pointsOf_36 rfl (lv_at hl 0 rfl) ?_
        refine lv_lload hx hb dX7_pointsOf_37 (lv_at hl 4 rfl) ?_
        refine lv_lload hx hb dX7_pointsOf_39 (lv_at hl 4 rfl) ?_
        refine lv_lneg hx hb dX7_pointsOf_41 ?_
        refine lv_land hx hb dX7_pointsOf_42 ?_
        refine lv_lload_n hx hb dX7_pointsOf_43 rfl (lv_at hl 3 rfl) ?_
        obtain ⟨q15, hq15, hr⟩ := bd_use hr
        refine pcV_l (As := [.long (v12 &&& (-v12)), .long q3]) (rest := []) S (c_X7_spread l dC dI ad cA mo_wide mo_high mo_law mo_acts mo_newBlack mo_newWhite mo_taken mo_triesMany mo_isSpent mo_found a_neighbours a_act a_blackAt a_whiteAt a_moveAt a_takenBlack a_takenWhite a_chaseBlack a_chaseWhite a_aheadBlack a_aheadWhite a_hasAhead a_breathsLeft a_laidBlack a_laidWhite a_answersLeft a_firstAnswer a_answering a_next (v12 &&& (-v12)) q3 q15 hq15) (cwV 2 hts gX7_pointsOf_X7_spread rfl rfl rfl (by decide +kernel) ⟨Nat.le_trans (m := rm_X7_pointsOf.frames) (by decide) hRf, Nat.le_trans (m := rm_X7_pointsOf.locals) (by decide) hRl⟩) hN hP hK ⟨Nat.zero_le _, Nat.zero_le _⟩ [0, 1, 2, 3, 4, 5, 6, 7, 8, 9, 10, 11, 12, 13, 14, 15, 16, 17, 18, 19] rfl [0, 1, 2, 3, 4, 5, 6, 7, 8, 9, 10, 11, 12, 13, 14, 15, 16, 17, 18] rfl 0 7 rfl rfl rfl hl.1 rfl (Nat.le_of_ble_eq_true rfl) dX7_pointsOf_44 ?_
        refine lv_lstore (lv' := [(8, .long q15), (0, .ref (ad 0)), (1, .int a0), (2, .int a1), (3, .long q3), (5, .long v12), (7, .int v13)]) hx hb dX7_pointsOf_47 hl (by decide) rfl (fun ls hl => ?_)
        refine lv_lload hx hb dX7_pointsOf_49 (lv_at hl 5 rfl) ?_
        refine lv_lload hx hb dX7_pointsOf_51 (lv_at hl 0 rfl) ?_
        refine W.ldc2 (v := (-1 : Int64)) hx hb hown hk105 rfl dX7_pointsOf_53 ?_
        refine W.eq (g2 := F0 m 56 ls [.long (-1 : Int64), .long q15, .long v12]) rfl ?_
        refine lv_lxor hx hb dX7_pointsOf_56 ?_
        refine lv_land hx hb dX7_pointsOf_57 ?_
        refine lv_topl (fun x16 ex16 => ?_)
        have hr := nm_use hr ex16
        refine lv_lstore (lv' := [(5, .long x16), (8, .long q15), (0, .ref (ad 0)), (1, .int a0), (2, .int a1), (3, .long q3), (7, .int v13)]) hx hb dX7_pointsOf_58 hl (by decide) rfl (fun ls hl => ?_)
        refine lv_aload_n hx hb dX7_pointsOf_60 rfl (lv_at hl 2 rfl) ?_
        refine lv_lload hx hb dX7_pointsOf_61 (lv_at hl 1 rfl) ?_
        obtain ⟨q17, hq17, hr⟩ := bd_use hr
        refine pcV_l (As := [.long q15]) (rest := []) S (c_X7_around l dC dI ad cA mo_wide mo_high mo_law mo_acts mo_newBlack mo_newWhite mo_taken mo_triesMany mo_isSpent mo_found a_neighbours a_act a_blackAt a_whiteAt a_moveAt a_takenBlack a_takenWhite a_chaseBlack a_chaseWhite a_aheadBlack a_aheadWhite a_hasAhead a_breathsLeft a_laidBlack a_laidWhite a_answersLeft a_firstAnswer a_answering a_next q15 q17 hq17) (cwV 1 hts gX7_pointsOf_X7_around rfl rfl rfl (by decide +kernel) ⟨Nat.le_trans (m := rm_X7_pointsOf.frames) (by decide) hRf, Nat.le_trans (m := rm_X7_pointsOf.locals) (by decide) hRl⟩) hN hP hK ⟨Nat.zero_le _, Nat.zero_le _⟩ [0, 1, 2, 3, 4, 5, 6, 7, 8, 9, 10, 11, 12, 13, 14, 15, 16, 17, 18, 19] rfl [0, 1, 2, 3, 4, 5, 6, 7, 8, 9, 10, 11, 12, 13, 14, 15, 16, 17, 18] rfl 0 7 rfl rfl rfl hl.1 rfl (Nat.le_of_ble_eq_true rfl) dX7_pointsOf_63 ?_
        refine lv_lstore (lv' := [(10, .long q17), (5, .long x16), (8, .long q15), (0, .ref (ad 0)), (1, .int a0), (2, .int a1), (3, .long q3), (7, .int v13)]) hx hb dX7_pointsOf_66 hl (by decide) rfl (fun ls hl => ?_)
        refine lv_iload hx hb dX7_pointsOf_68 (lv_at hl 7 rfl) ?_
        refine lv_lload hx hb dX7_pointsOf_70 (lv_at hl 0 rfl) ?_
        refine lv_aload_n hx hb dX7_pointsOf_72 rfl (lv_at hl 3 rfl) ?_
        refine lv_iload_n hx hb dX7_pointsOf_73 rfl (lv_at hl 4 rfl) ?_
        obtain ⟨q18, hq18, hr⟩ := bd_use hr
        refine pcV_l (As := [.int a0]) (rest := [.long q17, .int v13]) S (c_X7_stones l dC dI ad cA mo_wide mo_high mo_law mo_acts mo_newBlack mo_newWhite mo_taken mo_triesMany mo_isSpent mo_found a_neighbours a_act a_blackAt a_whiteAt a_moveAt a_takenBlack a_takenWhite a_chaseBlack a_chaseWhite a_aheadBlack a_aheadWhite a_hasAhead a_breathsLeft a_laidBlack a_laidWhite a_answersLeft a_firstAnswer a_answering a_next a0 q18 hq18) (cwV 1 hts gX7_pointsOf_X7_stones rfl rfl rfl (by decide +kernel) ⟨Nat.le_trans (m := rm_X7_pointsOf.frames) (by decide) hRf, Nat.le_trans (m := rm_X7_pointsOf.locals) (by decide) hRl⟩) hN hP hK ⟨Nat.zero_le _, Nat.zero_le _⟩ [0, 1, 2, 3, 4, 5, 6, 7, 8, 9, 10, 11, 12, 13, 14, 15, 16, 17, 18, 19] rfl [0, 1, 2, 3, 4, 5, 6, 7, 8, 9, 10, 11, 12, 13, 14, 15, 16, 17, 18] rfl 0 7 rfl rfl rfl hl.1 rfl (Nat.le_of_ble_eq_true rfl) dX7_pointsOf_74 ?_
        refine lv_land hx hb dX7_pointsOf_77 ?_
        refine lv_lconst (v := (0 : Int64)) hx hb dX7_pointsOf_78 (by decide) ?_
        refine W.lcmp hx hb dX7_pointsOf_79 ?_
        refine lv_if_eq (tgt := 107) hx hb dX7_pointsOf_80 (by decide) (fun c19 => ?_) (fun c19 => ?_)
        · have c19 := cmp_t c19
          have hr := ite_p hr c19
          refine lv_iconst (v := (0 : Int32)) hx hb dX7_pointsOf_107 (by decide) ?_
          refine lv_iadd hx hb dX7_pointsOf_108 ?_
          refine lv_topi (fun x20 ex20 => ?_)
          have hr := nm_use hr ex20
          refine lv_istore (lv' := [(7, .int x20), (10, .long q17), (5, .long x16), (8, .long q15), (0, .ref (ad 0)), (1, .int a0), (2, .int a1), (3, .long q3)]) hx hb dX7_pointsOf_109 hl (by decide) rfl (fun ls hl => ?_)
          refine lv_goto (tgt := 29) hx hb dX7_pointsOf_111 (by decide) ?_
          exact ih x16 x20 hr ls (lv_sub hl [4, 5, 6, 7, 2, 0] rfl)
        · have c19 := cmp_f c19
          have hr := ite_n hr c19
          refine lv_lload hx hb dX7_pointsOf_83 (lv_at hl 0 rfl) ?_
          refine lv_aload_n hx hb dX7_pointsOf_85 rfl (lv_at hl 3 rfl) ?_
          refine lv_iload_n hx hb dX7_pointsOf_86 rfl (lv_at hl 4 rfl) ?_
          obtain ⟨q21, hq21, hr⟩ := bd_use hr
          refine pcS_i (As := [.int a0]) (rest := [.ref (ad 0), .long q17, .int v13]) S (c_X7_other l dC dI a0 q21 hq21) (va_cwS 1 hts gX7_pointsOf_X7_other rfl rfl rfl (by decide +kernel) ⟨Nat.le_trans (m := rm_X7_pointsOf.frames) (by decide) hRf, Nat.le_trans (m := rm_X7_pointsOf.locals) (by decide) hRl⟩) hN hP hK ⟨Nat.zero_le _, Nat.zero_le _⟩ rfl hl.1 rfl (Nat.le_of_ble_eq_true rfl) dX7_pointsOf_87 ?_
          obtain ⟨q22, hq22, hr⟩ := bd_use hr
          refine pcV_l (As := [.int q21]) (rest := [.long q17, .int v13]) S (c_X7_stones l dC dI ad cA mo_wide mo_high mo_law mo_acts mo_newBlack mo_newWhite mo_taken mo_triesMany mo_isSpent mo_found a_neighbours a_act a_blackAt a_whiteAt a_moveAt a_takenBlack a_takenWhite a_chaseBlack a_chaseWhite a_aheadBlack a_aheadWhite a_hasAhead a_breathsLeft a_laidBlack a_laidWhite a_answersLeft a_firstAnswer a_answering a_next q21 q22 hq22) (cwV 1 hts gX7_pointsOf_X7_stones rfl rfl rfl (by decide +kernel) ⟨Nat.le_trans (m := rm_X7_pointsOf.frames) (by decide) hRf, Nat.le_trans (m := rm_X7_pointsOf.locals) (by decide) hRl⟩) hN hP hK ⟨Nat.zero_le _, Nat.zero_le _⟩ [0, 1, 2, 3, 4, 5, 6, 7, 8, 9, 10, 11, 12, 13, 14, 15, 16, 17, 18, 19] rfl [0, 1, 2, 3, 4, 5, 6, 7, 8, 9, 10, 11, 12, 13, 14, 15, 16, 17, 18] rfl 0 7 rfl rfl rfl hl.1 rfl (Nat.le_of_ble_eq_true rfl) dX7_pointsOf_90 ?_
          refine lv_land hx hb dX7_pointsOf_93 ?_
          refine lv_lconst (v := (0 : Int64)) hx hb dX7_pointsOf_94 (by decide) ?_
          refine W.lcmp hx hb dX7_pointsOf_95 ?_
          refine lv_if_ne (tgt := 107) hx hb dX7_pointsOf_96 (by decide) (fun c23 => ?_) (fun c23 => ?_)
          · have c23 := cmp_f c23
            have hr := ite_n hr c23
            refine lv_iconst (v := (0 : Int32)) hx hb dX7_pointsOf_107 (by decide) ?_
            refine lv_iadd hx hb dX7_pointsOf_108 ?_
            refine lv_topi (fun x24 ex24 => ?_)
            have hr := nm_use hr ex24
            refine lv_istore (lv' := [(7, .int x24), (10, .long q17), (5, .long x16), (8, .long q15), (0, .ref (ad 0)), (1, .int a0), (2, .int a1), (3, .long q3)]) hx hb dX7_pointsOf_109 hl (by decide) rfl (fun ls hl => ?_)
            refine lv_goto (tgt := 29) hx hb dX7_pointsOf_111 (by decide) ?_
            exact ih x16 x24 hr ls (lv_sub hl [4, 5, 6, 7, 2, 0] rfl)
          · have c23 := cmp_t c23
            have hr := ite_p hr c23
            refine lv_lload hx hb dX7_pointsOf_99 (lv_at hl 2 rfl) ?_
            obtain ⟨q25, hq25, hr⟩ := bd_use hr
            refine pcS_i (As := [.long q15]) (rest := [.int v13]) S (c_X7_many l dC dI q15 q25 hq25) (va_cwS 1 hts gX7_pointsOf_X7_many rfl rfl rfl (by decide +kernel) ⟨Nat.le_trans (m := rm_X7_pointsOf.frames) (by decide) hRf, Nat.le_trans (m := rm_X7_pointsOf.locals) (by decide) hRl⟩) hN hP hK ⟨Nat.zero_le _, Nat.zero_le _⟩ rfl hl.1 rfl (Nat.le_of_ble_eq_true rfl) dX7_pointsOf_101 ?_
            refine lv_goto (tgt := 108) hx hb dX7_pointsOf_104 (by decide) ?_
            refine lv_iadd hx hb dX7_pointsOf_108 ?_
            refine lv_topi (fun x26 ex26 => ?_)
            have hr := nm_use hr ex26
            refine lv_istore (lv' := [(7, .int x26), (10, .long q17), (5, .long x16), (8, .long q15), (0, .ref (ad 0)), (1, .int a0), (2, .int a1), (3, .long q3)]) hx hb dX7_pointsOf_109 hl (by decide) rfl (fun ls hl => ?_)
            refine lv_goto (tgt := 29) hx hb dX7_pointsOf_111 (by decide) ?_
            exact ih x16 x26 hr ls (lv_sub hl [4, 5, 6, 7, 2, 0] rfl)
  exact llp_X7_pointsOf_29 FU q3 (0 : Int32) hr ls (lv_sub hl [3, 4, 5, 2, 1, 0] rfl)

def f_X7_points (mo_wide : Int32) (mo_high : Int32) (mo_acts : Int32) (a_neighbours : Nat → Int64) (a_blackAt : Nat → Int64) (a_whiteAt : Nat → Int64) (a_takenBlack : Nat → Int32) (a_takenWhite : Nat → Int32) (a0 : Int32) (a1 : Int32) : Option (Int32) :=
  (f_X7_in a0 (1 : Int32) (2 : Int32)).bind fun q1 =>
  if q1 = 0 then (
    some ((-2 : Int32))
  )
  else (
    (f_X7_in a1 (0 : Int32) (1 : Int32)).bind fun q3 =>
    if q3 = 0 then (
      some ((-2 : Int32))
    )
    else (
      (f_X7_pointsOf mo_wide mo_high mo_acts a_neighbours a_blackAt a_whiteAt a_takenBlack a_takenWhite a0 a1).bind fun q5 =>
      some (q5)
    )
  )

abbrev rm_X7_points : Room := { frames := 4, cells := 0, slots := 0, locals := 104 }
set_option maxHeartbeats 4000000 in
set_option maxRecDepth 100000 in
theorem c_X7_points (l : Launch) (dC : Nat → ClassId) (dI : Nat → Nat → Nat) (ad : Nat → Nat) (cA : Nat → ClassId) (mo_wide mo_high mo_law mo_acts : Int32) (mo_newBlack mo_newWhite : Int64) (mo_taken mo_triesMany mo_isSpent mo_found : Int32) (a_neighbours : Nat → Int64) (a_act : Nat → Int32) (a_blackAt a_whiteAt : Nat → Int64) (a_moveAt a_takenBlack a_takenWhite : Nat → Int32) (a_chaseBlack a_chaseWhite a_aheadBlack a_aheadWhite : Nat → Int64) (a_hasAhead : Nat → Int32) (a_breathsLeft a_laidBlack a_laidWhite a_answersLeft : Nat → Int64) (a_firstAnswer a_answering a_next : Nat → Int32) (a0 : Int32) (a1 : Int32) (q : Int32) (hr : f_X7_points mo_wide mo_high mo_acts a_neighbours a_blackAt a_whiteAt a_takenBlack a_takenWhite a0 a1 = some q) : Met l yX7_points wsX7_points rm_X7_points (PrP (dC, dI) (wd_X7 ad cA mo_wide mo_high mo_law mo_acts mo_newBlack mo_newWhite mo_taken mo_triesMany mo_isSpent mo_found a_neighbours a_act a_blackAt a_whiteAt a_moveAt a_takenBlack a_takenWhite a_chaseBlack a_chaseWhite a_aheadBlack a_aheadWhite a_hasAhead a_breathsLeft a_laidBlack a_laidWhite a_answersLeft a_firstAnswer a_answering a_next) (td_X7 cA) [.ref (ad 0), .int a0, .int a1]) (vp_Si (fun x => x = q)) 0 0 (fun _ => False) := by
  refine mkP_i (cc := cX7_points) (nL := 3) (by decide) rfl (Nat.le_of_ble_eq_true rfl) ?_
  intro p e R s m args below meth c H Q ls hRf hRl S hN hP hK hl kret
  have hl : lv_has ls 3 [(0, .ref (ad 0)), (1, .int a0), (2, .int a1)] := hl
  obtain ⟨hx, hb, hml, hown, hts⟩ := S
  have hown : s.vm.findClass RX7 = some m.cls := hown
  have S : CallFix p m c cX7_points 3 s args wsX7_points RX7 := ⟨hx, hb, hml, hown, hts⟩
  unfold f_X7_points at hr
  refine lv_iload_n hx hb dX7_points_0 rfl (lv_at hl 1 rfl) ?_
  refine lv_iconst (v := (1 : Int32)) hx hb dX7_points_1 (by decide) ?_
  refine lv_iconst (v := (2 : Int32)) hx hb dX7_points_2 (by decide) ?_
  obtain ⟨q1, hq1, hr⟩ := bd_use hr
  refine pcS_i (As := [.int a0, .int (1 : Int32), .int (2 : Int32)]) (rest := []) S (c_X7_in l dC dI a0 (1 : Int32) (2 : Int32) q1 hq1) (va_cwS 3 hts gX7_points_X7_in rfl rfl rfl (by decide +kernel) ⟨Nat.le_trans (m := rm_X7_points.frames) (by decide) hRf, Nat.le_trans (m := rm_X7_points.locals) (by decide) hRl⟩) hN hP hK ⟨Nat.zero_le _, Nat.zero_le _⟩ rfl hl.1 rfl (Nat.le_of_ble_eq_true rfl) dX7_points_3 ?_
  refine lv_if_eq (tgt := 27) hx hb dX7_points_6 (by decide) (fun c2 => ?_) (fun c2 => ?_)
  · have hr := ite_p hr c2
    refine lv_bipush (v := (-2 : Int32)) hx hb dX7_points_27 (by decide) ?_
    obtain rfl := Option.some.inj hr
    exact kret _ _ dX7_points_29
  · have hr := ite_n hr c2
    refine lv_iload_n hx hb dX7_points_9 rfl (lv_at hl 2 rfl) ?_
    refine lv_iconst (v := (0 : Int32)) hx hb dX7_points_10 (by decide) ?_
    refine lv_iconst (v := (1 : Int32)) hx hb dX7_points_11 (by decide) ?_
    obtain ⟨q3, hq3, hr⟩ := bd_use hr
    refine pcS_i (As := [.int a1, .int (0 : Int32), .int (1 : Int32)]) (rest := []) S (c_X7_in l dC dI a1 (0 : Int32) (1 : Int32) q3 hq3) (va_cwS 3 hts gX7_points_X7_in rfl rfl rfl (by decide +kernel) ⟨Nat.le_trans (m := rm_X7_points.frames) (by decide) hRf, Nat.le_trans (m := rm_X7_points.locals) (by decide) hRl⟩) hN hP hK ⟨Nat.zero_le _, Nat.zero_le _⟩ rfl hl.1 rfl (Nat.le_of_ble_eq_true rfl) dX7_points_12 ?_
    refine lv_if_eq (tgt := 27) hx hb dX7_points_15 (by decide) (fun c4 => ?_) (fun c4 => ?_)
    · have hr := ite_p hr c4
      refine lv_bipush (v := (-2 : Int32)) hx hb dX7_points_27 (by decide) ?_
      obtain rfl := Option.some.inj hr
      exact kret _ _ dX7_points_29
    · have hr := ite_n hr c4
      refine lv_aload_n hx hb dX7_points_18 rfl (lv_at hl 0 rfl) ?_
      refine lv_iload_n hx hb dX7_points_19 rfl (lv_at hl 1 rfl) ?_
      refine lv_iload_n hx hb dX7_points_20 rfl (lv_at hl 2 rfl) ?_
      obtain ⟨q5, hq5, hr⟩ := bd_use hr
      refine pcV_i (As := [.int a0, .int a1]) (rest := []) S (c_X7_pointsOf l dC dI ad cA mo_wide mo_high mo_law mo_acts mo_newBlack mo_newWhite mo_taken mo_triesMany mo_isSpent mo_found a_neighbours a_act a_blackAt a_whiteAt a_moveAt a_takenBlack a_takenWhite a_chaseBlack a_chaseWhite a_aheadBlack a_aheadWhite a_hasAhead a_breathsLeft a_laidBlack a_laidWhite a_answersLeft a_firstAnswer a_answering a_next a0 a1 q5 hq5) (cwV 2 hts gX7_points_X7_pointsOf rfl rfl rfl (by decide +kernel) ⟨Nat.le_trans (m := rm_X7_points.frames) (by decide) hRf, Nat.le_trans (m := rm_X7_points.locals) (by decide) hRl⟩) hN hP hK ⟨Nat.zero_le _, Nat.zero_le _⟩ [0, 1, 2, 3, 4, 5, 6, 7, 8, 9, 10, 11, 12, 13, 14, 15, 16, 17, 18, 19] rfl [0, 1, 2, 3, 4, 5, 6, 7, 8, 9, 10, 11, 12, 13, 14, 15, 16, 17, 18] rfl 0 7 rfl rfl rfl hl.1 rfl (Nat.le_of_ble_eq_true rfl) dX7_points_21 ?_
      refine lv_goto (tgt := 29) hx hb dX7_points_24 (by decide) ?_
      obtain rfl := Option.some.inj hr
      exact kret _ _ dX7_points_29

def f_X7_count (mo_wide : Int32) (mo_high : Int32) (mo_law : Int32) (mo_acts : Int32) (a_act : Nat → Int32) (a_blackAt : Nat → Int64) (a_whiteAt : Nat → Int64) (a_moveAt : Nat → Int32) (a_takenBlack : Nat → Int32) (a_takenWhite : Nat → Int32) (a0 : Int32) : Option (Int32) :=
  if a0 = 0 then (
    some (mo_acts)
  )
  else (
  if a0 = 1 then (
    if (mo_acts < 0 ∨ 130 ≤ mo_acts.toNatClampNeg) then none else
    some (a_moveAt mo_acts.toNatClampNeg)
  )
  else (
  if a0 = 2 then (
    if (mo_acts < 0 ∨ 130 ≤ mo_acts.toNatClampNeg) then none else
    (f_X7_many (a_blackAt mo_acts.toNatClampNeg)).bind fun q6 =>
    some (q6)
  )
  else (
  if a0 = 3 then (
    if (mo_acts < 0 ∨ 130 ≤ mo_acts.toNatClampNeg) then none else
    (f_X7_many (a_whiteAt mo_acts.toNatClampNeg)).bind fun q9 =>
    some (q9)
  )
  else (
  if a0 = 4 then (
    if (mo_acts < 0 ∨ 121 ≤ mo_acts.toNatClampNeg) then none else
    some (a_takenBlack mo_acts.toNatClampNeg)
  )
  else (
  if a0 = 5 then (
    if (mo_acts < 0 ∨ 121 ≤ mo_acts.toNatClampNeg) then none else
    some (a_takenWhite mo_acts.toNatClampNeg)
  )
  else (
  if a0 = 6 then (
    (f_X7_passes mo_wide mo_high mo_acts a_act).bind fun q15 =>
    some (q15)
  )
  else (
  if a0 = 7 then (
    some (mo_wide)
  )
  else (
  if a0 = 8 then (
    some (mo_high)
  )
  else (
  if a0 = 9 then (
    some (mo_law)
  )
  else (
  some ((-2 : Int32))))))))))))

abbrev rm_X7_count : Room := { frames := 2, cells := 0, slots := 0, locals := 41 }
set_option maxHeartbeats 4000000 in
set_option maxRecDepth 100000 in
theorem c_X7_count (l : Launch) (dC : Nat → ClassId) (dI : Nat → Nat → Nat) (ad : Nat → Nat) (cA : Nat → ClassId) (mo_wide mo_high mo_law mo_acts : Int32) (mo_newBlack mo_newWhite : Int64) (mo_taken mo_triesMany mo_isSpent mo_found : Int32) (a_neighbours : Nat → Int64) (a_act : Nat → Int32) (a_blackAt a_whiteAt : Nat → Int64) (a_moveAt a_takenBlack a_takenWhite : Nat → Int32) (a_chaseBlack a_chaseWhite a_aheadBlack a_aheadWhite : Nat → Int64) (a_hasAhead : Nat → Int32) (a_breathsLeft a_laidBlack a_laidWhite a_answersLeft : Nat → Int64) (a_firstAnswer a_answering a_next : Nat → Int32) (a0 : Int32) (q : Int32) (hr : f_X7_count mo_wide mo_high mo_law mo_acts a_act a_blackAt a_whiteAt a_moveAt a_takenBlack a_takenWhite a0 = some q) : Met l yX7_count wsX7_count rm_X7_count (PrP (dC, dI) (wd_X7 ad cA mo_wide mo_high mo_law mo_acts mo_newBlack mo_newWhite mo_taken mo_triesMany mo_isSpent mo_found a_neighbours a_act a_blackAt a_whiteAt a_moveAt a_takenBlack a_takenWhite a_chaseBlack a_chaseWhite a_aheadBlack a_aheadWhite a_hasAhead a_breathsLeft a_laidBlack a_laidWhite a_answersLeft a_firstAnswer a_answering a_next) (td_X7 cA) [.ref (ad 0), .int a0]) (vp_Si (fun x => x = q)) 0 0 (fun _ => False) := by
  refine mkP_i (cc := cX7_count) (nL := 2) (by decide) rfl (Nat.le_of_ble_eq_true rfl) ?_
  intro p e R s m args below meth c H Q ls hRf hRl S hN hP hK hl kret
  have hl : lv_has ls 2 [(0, .ref (ad 0)), (1, .int a0)] := hl
  obtain ⟨hx, hb, hml, hown, hts⟩ := S
  have hown : s.vm.findClass RX7 = some m.cls := hown
  have S : CallFix p m c cX7_count 2 s args wsX7_count RX7 := ⟨hx, hb, hml, hown, hts⟩
  have huX7 : ∀ w ∈ u_ws RX7 TX7 29, w ∈ wsX7_count := by decide +kernel
  have hf86 := hts (.fieldLink RX7 86 "EyeBoardModel" "acts" "I") (by decide +kernel)
  have hf30 := hts (.fieldLink RX7 30 "EyeBoardModel" "moveAt" "[I") (by decide +kernel)
  have hf24 := hts (.fieldLink RX7 24 "EyeBoardModel" "blackAt" "[J") (by decide +kernel)
  have hf27 := hts (.fieldLink RX7 27 "EyeBoardModel" "whiteAt" "[J") (by decide +kernel)
  have hf33 := hts (.fieldLink RX7 33 "EyeBoardModel" "takenBlack" "[I") (by decide +kernel)
  have hf36 := hts (.fieldLink RX7 36 "EyeBoardModel" "takenWhite" "[I") (by decide +kernel)
  have hf7 := hts (.fieldLink RX7 7 "EyeBoardModel" "wide" "I") (by decide +kernel)
  have hf13 := hts (.fieldLink RX7 13 "EyeBoardModel" "high" "I") (by decide +kernel)
  have hf83 := hts (.fieldLink RX7 83 "EyeBoardModel" "law" "I") (by decide +kernel)
  unfold f_X7_count at hr
  refine lv_iload_n hx hb dX7_count_0 rfl (lv_at hl 1 rfl) ?_
  by_cases c1 : a0 = 0
  · have hr := ite_p hr c1
    refine lv_tableIn (off := 55) (tgt := 56) hx hb dX7_count_1 (by rw [c1]; decide) (by rw [c1]; decide) (by rw [c1]; rfl) (by decide) ?_
    refine lv_aload_n hx hb dX7_count_56 rfl (lv_at hl 0 rfl) ?_
    refine va_get (D := (dC, dI)) (ci := 7) (v := .int mo_acts) (C := RX7) (T := TX7) (N := 29) hx hb hts huX7 hown hK hP 0 rfl rfl 4 (by decide) hf86 (fun _ h9 => h9) rfl dX7_count_57 ?_
    obtain rfl := Option.some.inj hr
    exact kret _ _ dX7_count_60
  have hr := ite_n hr c1
  by_cases c2 : a0 = 1
  · have hr := ite_p hr c2
    refine lv_tableIn (off := 60) (tgt := 61) hx hb dX7_count_1 (by rw [c2]; decide) (by rw [c2]; decide) (by rw [c2]; rfl) (by decide) ?_
    refine lv_aload_n hx hb dX7_count_61 rfl (lv_at hl 0 rfl) ?_
    refine va_get (D := (dC, dI)) (ci := 7) (v := .ref (ad 5)) (C := RX7) (T := TX7) (N := 29) hx hb hts huX7 hown hK hP 0 rfl rfl 8 (by decide) hf30 (fun _ h9 => h9) rfl dX7_count_62 ?_
    refine lv_aload_n hx hb dX7_count_65 rfl (lv_at hl 0 rfl) ?_
    refine va_get (D := (dC, dI)) (ci := 7) (v := .int mo_acts) (C := RX7) (T := TX7) (N := 29) hx hb hts huX7 hown hK hP 0 rfl rfl 4 (by decide) hf86 (fun _ h9 => h9) rfl dX7_count_66 ?_
    obtain ⟨hi3, hr⟩ := ite_g hr
    refine va_iald hx hb hK hP 5 4 rfl rfl hi3 dX7_count_69 ?_
    obtain rfl := Option.some.inj hr
    exact kret _ _ dX7_count_70
  have hr := ite_n hr c2
  by_cases c4 : a0 = 2
  · have hr := ite_p hr c4
    refine lv_tableIn (off := 70) (tgt := 71) hx hb dX7_count_1 (by rw [c4]; decide) (by rw [c4]; decide) (by rw [c4]; rfl) (by decide) ?_
    refine lv_aload_n hx hb dX7_count_71 rfl (lv_at hl 0 rfl) ?_
    refine va_get (D := (dC, dI)) (ci := 7) (v := .ref (ad 3)) (C := RX7) (T := TX7) (N := 29) hx hb hts huX7 hown hK hP 0 rfl rfl 6 (by decide) hf24 (fun _ h9 => h9) rfl dX7_count_72 ?_
    refine lv_aload_n hx hb dX7_count_75 rfl (lv_at hl 0 rfl) ?_
    refine va_get (D := (dC, dI)) (ci := 7) (v := .int mo_acts) (C := RX7) (T := TX7) (N := 29) hx hb hts huX7 hown hK hP 0 rfl rfl 4 (by decide) hf86 (fun _ h9 => h9) rfl dX7_count_76 ?_
    obtain ⟨hi5, hr⟩ := ite_g hr
    refine va_lald hx hb hK hP 3 2 rfl rfl hi5 dX7_count_79 ?_
    obtain ⟨q6, hq6, hr⟩ := bd_use hr
    refine pcS_i (As := [.long (a_blackAt mo_acts.toNatClampNeg)]) (rest := []) S (c_X7_many l dC dI (a_blackAt mo_acts.toNatClampNeg) q6 hq6) (va_cwS 1 hts gX7_count_X7_many rfl rfl rfl (by decide +kernel) ⟨Nat.le_trans (m := rm_X7_count.frames) (by decide) hRf, Nat.le_trans (m := rm_X7_count.locals) (by decide) hRl⟩) hN hP hK ⟨Nat.zero_le _, Nat.zero_le _⟩ rfl hl.1 rfl (Nat.le_of_ble_eq_true rfl) dX7_count_80 ?_
    obtain rfl := Option.some.inj hr
    exact kret _ _ dX7_count_83
  have hr := ite_n hr c4
  by_cases c7 : a0 = 3
  · have hr := ite_p hr c7
    refine lv_tableIn (off := 83) (tgt := 84) hx hb dX7_count_1 (by rw [c7]; decide) (by rw [c7]; decide) (by rw [c7]; rfl) (by decide) ?_
    refine lv_aload_n hx hb dX7_count_84 rfl (lv_at hl 0 rfl) ?_
    refine va_get (D := (dC, dI)) (ci := 7) (v := .ref (ad 4)) (C := RX7) (T := TX7) (N := 29) hx hb hts huX7 hown hK hP 0 rfl rfl 7 (by decide) hf27 (fun _ h9 => h9) rfl dX7_count_85 ?_
    refine lv_aload_n hx hb dX7_count_88 rfl (lv_at hl 0 rfl) ?_
    refine va_get (D := (dC, dI)) (ci := 7) (v := .int mo_acts) (C := RX7) (T := TX7) (N := 29) hx hb hts huX7 hown hK hP 0 rfl rfl 4 (by decide) hf86 (fun _ h9 => h9) rfl dX7_count_89 ?_
    obtain ⟨hi8, hr⟩ := ite_g hr
    refine va_lald hx hb hK hP 4 3 rfl rfl hi8 dX7_count_92 ?_
    obtain ⟨q9, hq9, hr⟩ := bd_use hr
    refine pcS_i (As := [.long (a_whiteAt mo_acts.toNatClampNeg)]) (rest := []) S (c_X7_many l dC dI (a_whiteAt mo_acts.toNatClampNeg) q9 hq9) (va_cwS 1 hts gX7_count_X7_many rfl rfl rfl (by decide +kernel) ⟨Nat.le_trans (m := rm_X7_count.frames) (by decide) hRf, Nat.le_trans (m := rm_X7_count.locals) (by decide) hRl⟩) hN hP hK ⟨Nat.zero_le _, Nat.zero_le _⟩ rfl hl.1 rfl (Nat.le_of_ble_eq_true rfl) dX7_count_93 ?_
    obtain rfl := Option.some.inj hr
    exact kret _ _ dX7_count_96
  have hr := ite_n hr c7
  by_cases c10 : a0 = 4
  · have hr := ite_p hr c10
    refine lv_tableIn (off := 96) (tgt := 97) hx hb dX7_count_1 (by rw [c10]; decide) (by rw [c10]; decide) (by rw [c10]; rfl) (by decide) ?_
    refine lv_aload_n hx hb dX7_count_97 rfl (lv_at hl 0 rfl) ?_
    refine va_get (D := (dC, dI)) (ci := 7) (v := .ref (ad 6)) (C := RX7) (T := TX7) (N := 29) hx hb hts huX7 hown hK hP 0 rfl rfl 9 (by decide) hf33 (fun _ h9 => h9) rfl dX7_count_98 ?_
    refine lv_aload_n hx hb dX7_count_101 rfl (lv_at hl 0 rfl) ?_
    refine va_get (D := (dC, dI)) (ci := 7) (v := .int mo_acts) (C := RX7) (T := TX7) (N := 29) hx hb hts huX7 hown hK hP 0 rfl rfl 4 (by decide) hf86 (fun _ h9 => h9) rfl dX7_count_102 ?_
    obtain ⟨hi11, hr⟩ := ite_g hr
    refine va_iald hx hb hK hP 6 5 rfl rfl hi11 dX7_count_105 ?_
    obtain rfl := Option.some.inj hr
    exact kret _ _ dX7_count_106
  have hr := ite_n hr c10
  by_cases c12 : a0 = 5
  · have hr := ite_p hr c12
    refine lv_tableIn (off := 106) (tgt := 107) hx hb dX7_count_1 (by rw [c12]; decide) (by rw [c12]; decide) (by rw [c12]; rfl) (by decide) ?_
    refine lv_aload_n hx hb dX7_count_107 rfl (lv_at hl 0 rfl) ?_
    refine va_get (D := (dC, dI)) (ci := 7) (v := .ref (ad 7)) (C := RX7) (T := TX7) (N := 29) hx hb hts huX7 hown hK hP 0 rfl rfl 10 (by decide) hf36 (fun _ h9 => h9) rfl dX7_count_108 ?_
    refine lv_aload_n hx hb dX7_count_111 rfl (lv_at hl 0 rfl) ?_
    refine va_get (D := (dC, dI)) (ci := 7) (v := .int mo_acts) (C := RX7) (T := TX7) (N := 29) hx hb hts huX7 hown hK hP 0 rfl rfl 4 (by decide) hf86 (fun _ h9 => h9) rfl dX7_count_112 ?_
    obtain ⟨hi13, hr⟩ := ite_g hr
    refine va_iald hx hb hK hP 7 6 rfl rfl hi13 dX7_count_115 ?_
    obtain rfl := Option.some.inj hr
    exact kret _ _ dX7_count_116
  have hr := ite_n hr c12
  by_cases c14 : a0 = 6
  · have hr := ite_p hr c14
    refine lv_tableIn (off := 116) (tgt := 117) hx hb dX7_count_1 (by rw [c14]; decide) (by rw [c14]; decide) (by rw [c14]; rfl) (by decide) ?_
    refine lv_aload_n hx hb dX7_count_117 rfl (lv_at hl 0 rfl) ?_
    obtain ⟨q15, hq15, hr⟩ := bd_use hr
    refine pcV_i (As := []) (rest := []) S (c_X7_passes l dC dI ad cA mo_wide mo_high mo_law mo_acts mo_newBlack mo_newWhite mo_taken mo_triesMany mo_isSpent mo_found a_neighbours a_act a_blackAt a_whiteAt a_moveAt a_takenBlack a_takenWhite a_chaseBlack a_chaseWhite a_aheadBlack a_aheadWhite a_hasAhead a_breathsLeft a_laidBlack a_laidWhite a_answersLeft a_firstAnswer a_answering a_next q15 hq15) (cwV 0 hts gX7_count_X7_passes rfl rfl rfl (by decide +kernel) ⟨Nat.le_trans (m := rm_X7_count.frames) (by decide) hRf, Nat.le_trans (m := rm_X7_count.locals) (by decide) hRl⟩) hN hP hK ⟨Nat.zero_le _, Nat.zero_le _⟩ [0, 1, 2, 3, 4, 5, 6, 7, 8, 9, 10, 11, 12, 13, 14, 15, 16, 17, 18, 19] rfl [0, 1, 2, 3, 4, 5, 6, 7, 8, 9, 10, 11, 12, 13, 14, 15, 16, 17, 18] rfl 0 7 rfl rfl rfl hl.1 rfl (Nat.le_of_ble_eq_true rfl) dX7_count_118 ?_
    obtain rfl := Option.some.inj hr
    exact kret _ _ dX7_count_121
  have hr := ite_n hr c14
  by_cases c16 : a0 = 7
  · have hr := ite_p hr c16
    refine lv_tableIn (off := 121) (tgt := 122) hx hb dX7_count_1 (by rw [c16]; decide) (by rw [c16]; decide) (by rw [c16]; rfl) (by decide) ?_
    refine lv_aload_n hx hb dX7_count_122 rfl (lv_at hl 0 rfl) ?_
    refine va_get (D := (dC, dI)) (ci := 7) (v := .int mo_wide) (C := RX7) (T := TX7) (N := 29) hx hb hts huX7 hown hK hP 0 rfl rfl 0 (by decide) hf7 (fun _ h9 => h9) rfl dX7_count_123 ?_
    obtain rfl := Option.some.inj hr
    exact kret _ _ dX7_count_126
  have hr := ite_n hr c16
  by_cases c17 : a0 = 8
  · have hr := ite_p hr c17
    refine lv_tableIn (off := 126) (tgt := 127) hx hb dX7_count_1 (by rw [c17]; decide) (by rw [c17]; decide) (by rw [c17]; rfl) (by decide) ?_
    refine lv_aload_n hx hb dX7_count_127 rfl (lv_at hl 0 rfl) ?_
    refine va_get (D := (dC, dI)) (ci := 7) (v := .int mo_high) (C := RX7) (T := TX7) (N := 29) hx hb hts huX7 hown hK hP 0 rfl rfl 1 (by decide) hf13 (fun _ h9 => h9) rfl dX7_count_128 ?_
    obtain rfl := Option.some.inj hr
    exact kret _ _ dX7_count_131
  have hr := ite_n hr c17
  by_cases c18 : a0 = 9
  · have hr := ite_p hr c18
    refine lv_tableIn (off := 131) (tgt := 132) hx hb dX7_count_1 (by rw [c18]; decide) (by rw [c18]; decide) (by rw [c18]; rfl) (by decide) ?_
    refine lv_aload_n hx hb dX7_count_132 rfl (lv_at hl 0 rfl) ?_
    refine va_get (D := (dC, dI)) (ci := 7) (v := .int mo_law) (C := RX7) (T := TX7) (N := 29) hx hb hts huX7 hown hK hP 0 rfl rfl 2 (by decide) hf83 (fun _ h9 => h9) rfl dX7_count_133 ?_
    obtain rfl := Option.some.inj hr
    exact kret _ _ dX7_count_136
  have hr := ite_n hr c18
  have ht19 : a0.toInt < 0 ∨ 9 < a0.toInt := by
    have e0 : ¬ a0.toInt = 0 := tb_ne c1
    have e1 : ¬ a0.toInt = 1 := tb_ne c2
    have e2 : ¬ a0.toInt = 2 := tb_ne c4
    have e3 : ¬ a0.toInt = 3 := tb_ne c7
    have e4 : ¬ a0.toInt = 4 := tb_ne c10
    have e5 : ¬ a0.toInt = 5 := tb_ne c12
    have e6 : ¬ a0.toInt = 6 := tb_ne c14
    have e7 : ¬ a0.toInt = 7 := tb_ne c16
    have e8 : ¬ a0.toInt = 8 := tb_ne c17
    have e9 : ¬ a0.toInt = 9 := tb_ne c18
    omega
  refine lv_tableOut (tgt := 137) hx hb dX7_count_1 ht19 (by decide) ?_
  refine lv_bipush (v := (-2 : Int32)) hx hb dX7_count_137 (by decide) ?_
  obtain rfl := Option.some.inj hr
  exact kret _ _ dX7_count_139

