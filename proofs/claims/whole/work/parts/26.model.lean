def f_X7_act (mo_acts : Int32) (a_act : Nat → Int32) (a0 : Int32) : Option (Int32) :=
  (f_X7_in a0 (0 : Int32) (mo_acts - (1 : Int32))).bind fun q1 =>
  if q1 = 0 then (
    some ((-1 : Int32))
  )
  else (
    if (a0 < 0 ∨ 120 ≤ a0.toNatClampNeg) then none else
    some (a_act a0.toNatClampNeg)
  )

abbrev rm_X7_act : Room := { frames := 1, cells := 0, slots := 0, locals := 22 }
set_option maxHeartbeats 4000000 in
set_option maxRecDepth 100000 in
theorem c_X7_act (l : Launch) (dC : Nat → ClassId) (dI : Nat → Nat → Nat) (ad : Nat → Nat) (cA : Nat → ClassId) (mo_wide mo_high mo_law mo_acts : Int32) (mo_newBlack mo_newWhite : Int64) (mo_taken mo_triesMany mo_isSpent mo_found : Int32) (a_neighbours : Nat → Int64) (a_act : Nat → Int32) (a_blackAt a_whiteAt : Nat → Int64) (a_moveAt a_takenBlack a_takenWhite : Nat → Int32) (a_chaseBlack a_chaseWhite a_aheadBlack a_aheadWhite : Nat → Int64) (a_hasAhead : Nat → Int32) (a_breathsLeft a_laidBlack a_laidWhite a_answersLeft : Nat → Int64) (a_firstAnswer a_answering a_next : Nat → Int32) (a0 : Int32) (q : Int32) (hr : f_X7_act mo_acts a_act a0 = some q) : Met l yX7_act wsX7_act rm_X7_act (PrP (dC, dI) (wd_X7 ad cA mo_wide mo_high mo_law mo_acts mo_newBlack mo_newWhite mo_taken mo_triesMany mo_isSpent mo_found a_neighbours a_act a_blackAt a_whiteAt a_moveAt a_takenBlack a_takenWhite a_chaseBlack a_chaseWhite a_aheadBlack a_aheadWhite a_hasAhead a_breathsLeft a_laidBlack a_laidWhite a_answersLeft a_firstAnswer a_answering a_next) (td_X7 cA) [.ref (ad 0), .int a0]) (vp_Si (fun x => x = q)) 0 0 (fun _ => False) := by
  refine mkP_i (cc := cX7_act) (nL := 2) (by decide) rfl (Nat.le_of_ble_eq_true rfl) ?_
  intro p e R s m args below meth c H Q ls hRf hRl S hN hP hK hl kret
  have hl : lv_has ls 2 [(0, .ref (ad 0)), (1, .int a0)] := hl
  obtain ⟨hx, hb, hml, hown, hts⟩ := S
  have hown : s.vm.findClass RX7 = some m.cls := hown
  have S : CallFix p m c cX7_act 2 s args wsX7_act RX7 := ⟨hx, hb, hml, hown, hts⟩
  have huX7 : ∀ w ∈ u_ws RX7 TX7 29, w ∈ wsX7_act := by decide +kernel
  have hf86 := hts (.fieldLink RX7 86 "EyeBoardModel" "acts" "I") (by decide +kernel)
  have hf20 := hts (.fieldLink RX7 20 "EyeBoardModel" "act" "[I") (by decide +kernel)
  unfold f_X7_act at hr
  refine lv_iload_n hx hb dX7_act_0 rfl (lv_at hl 1 rfl) ?_
  refine lv_iconst (v := (0 : Int32)) hx hb dX7_act_1 (by decide) ?_
  refine lv_aload_n hx hb dX7_act_2 rfl (lv_at hl 0 rfl) ?_
  refine va_get (D := (dC, dI)) (ci := 7) (v := .int mo_acts) (C := RX7) (T := TX7) (N := 29) hx hb hts huX7 hown hK hP 0 rfl rfl 4 (by decide) hf86 (fun _ h9 => h9) rfl dX7_act_3 ?_
  refine lv_iconst (v := (1 : Int32)) hx hb dX7_act_6 (by decide) ?_
  refine lv_isub hx hb dX7_act_7 ?_
  obtain ⟨q1, hq1, hr⟩ := bd_use hr
  refine pcS_i (As := [.int a0, .int (0 : Int32), .int (mo_acts - (1 : Int32))]) (rest := []) S (c_X7_in l dC dI a0 (0 : Int32) (mo_acts - (1 : Int32)) q1 hq1) (va_cwS 3 hts gX7_act_X7_in rfl rfl rfl (by decide +kernel) ⟨Nat.le_trans (m := rm_X7_act.frames) (by decide) hRf, Nat.le_trans (m := rm_X7_act.locals) (by decide) hRl⟩) hN hP hK ⟨Nat.zero_le _, Nat.zero_le _⟩ rfl hl.1 rfl (Nat.le_of_ble_eq_true rfl) dX7_act_8 ?_
  refine lv_if_eq (tgt := 23) hx hb dX7_act_11 (by decide) (fun c2 => ?_) (fun c2 => ?_)
  · have hr := ite_p hr c2
    refine lv_iconst (v := (-1 : Int32)) hx hb dX7_act_23 (by decide) ?_
    obtain rfl := Option.some.inj hr
    exact kret _ _ dX7_act_24
  · have hr := ite_n hr c2
    refine lv_aload_n hx hb dX7_act_14 rfl (lv_at hl 0 rfl) ?_
    refine va_get (D := (dC, dI)) (ci := 7) (v := .ref (ad 2)) (C := RX7) (T := TX7) (N := 29) hx hb hts huX7 hown hK hP 0 rfl rfl 5 (by decide) hf20 (fun _ h9 => h9) rfl dX7_act_15 ?_
    refine lv_iload_n hx hb dX7_act_18 rfl (lv_at hl 1 rfl) ?_
    obtain ⟨hi3, hr⟩ := ite_g hr
    refine va_iald hx hb hK hP 2 1 rfl rfl hi3 dX7_act_19 ?_
    refine lv_goto (tgt := 24) hx hb dX7_act_20 (by decide) ?_
    obtain rfl := Option.some.inj hr
    exact kret _ _ dX7_act_24

def lp_X7_digest_62 (mo_acts : Int32) (a_act : Nat → Int32) : Nat → Int64 → Int32 → Option (Int64)
  | 0, _, _ => none
  | nF + 1, v5, v6 =>
    if mo_acts ≤ v6 then (
      some (v5)
    )
    else (
      if (v6 < 0 ∨ 120 ≤ v6.toNatClampNeg) then none else
      nm (((31 : Int64) * v5) + ((a_act v6.toNatClampNeg).toInt64)) fun x9 =>
      nm (v6 + 1) fun x10 =>
      lp_X7_digest_62 mo_acts a_act nF x9 x10
    )

def lp_X7_digest_33 (mo_wide : Int32) (mo_high : Int32) (mo_acts : Int32) (a_blackAt : Nat → Int64) (a_whiteAt : Nat → Int64) (K4 : Int64 → Option (Int64)) : Nat → Int64 → Int32 → Option (Int64)
  | 0, _, _ => none
  | nF + 1, v11, v12 =>
    (f_X7_size mo_wide mo_high).bind fun q13 =>
    if q13 ≤ v12 then (
      K4 v11
    )
    else (
      (f_X7_atOf mo_acts a_blackAt a_whiteAt v12).bind fun q15 =>
      nm (((31 : Int64) * v11) + q15.toInt64) fun x16 =>
      nm (v12 + 1) fun x17 =>
      lp_X7_digest_33 mo_wide mo_high mo_acts a_blackAt a_whiteAt K4 nF x16 x17
    )

def lp_X7_digest_6 (mo_wide : Int32) (mo_high : Int32) (mo_law : Int32) (mo_acts : Int32) (a_act : Nat → Int32) (a_blackAt : Nat → Int64) (a_whiteAt : Nat → Int64) (a_moveAt : Nat → Int32) (a_takenBlack : Nat → Int32) (a_takenWhite : Nat → Int32) (K2 : Int64 → Option (Int64)) : Nat → Int64 → Int32 → Option (Int64)
  | 0, _, _ => none
  | nF + 1, v18, v19 =>
    if (10 : Int32) ≤ v19 then (
      K2 v18
    )
    else (
      (f_X7_count mo_wide mo_high mo_law mo_acts a_act a_blackAt a_whiteAt a_moveAt a_takenBlack a_takenWhite v19).bind fun q21 =>
      nm (((31 : Int64) * v18) + q21.toInt64) fun x22 =>
      nm (v19 + 1) fun x23 =>
      lp_X7_digest_6 mo_wide mo_high mo_law mo_acts a_act a_blackAt a_whiteAt a_moveAt a_takenBlack a_takenWhite K2 nF x22 x23
    )

def f_X7_digest (mo_wide : Int32) (mo_high : Int32) (mo_law : Int32) (mo_acts : Int32) (a_act : Nat → Int32) (a_blackAt : Nat → Int64) (a_whiteAt : Nat → Int64) (a_moveAt : Nat → Int32) (a_takenBlack : Nat → Int32) (a_takenWhite : Nat → Int32)  : Option (Int64) :=
  nm (fun (v1 : Int64) =>
  nm (fun (v3 : Int64) =>
  lp_X7_digest_62 mo_acts a_act FU v3 (0 : Int32)
  ) fun K4 =>
  lp_X7_digest_33 mo_wide mo_high mo_acts a_blackAt a_whiteAt K4 FU v1 (0 : Int32)
  ) fun K2 =>
  lp_X7_digest_6 mo_wide mo_high mo_law mo_acts a_act a_blackAt a_whiteAt a_moveAt a_takenBlack a_takenWhite K2 FU (47 : Int64) (0 : Int32)

abbrev rm_X7_digest : Room := { frames := 3, cells := 0, slots := 0, locals := 62 }
set_option maxHeartbeats 4000000 in
set_option maxRecDepth 100000 in
theorem c_X7_digest (l : Launch) (dC : Nat → ClassId) (dI : Nat → Nat → Nat) (ad : Nat → Nat) (cA : Nat → ClassId) (mo_wide mo_high mo_law mo_acts : Int32) (mo_newBlack mo_newWhite : Int64) (mo_taken mo_triesMany mo_isSpent mo_found : Int32) (a_neighbours : Nat → Int64) (a_act : Nat → Int32) (a_blackAt a_whiteAt : Nat → Int64) (a_moveAt a_takenBlack a_takenWhite : Nat → Int32) (a_chaseBlack a_chaseWhite a_aheadBlack a_aheadWhite : Nat → Int64) (a_hasAhead : Nat → Int32) (a_breathsLeft a_laidBlack a_laidWhite a_answersLeft : Nat → Int64) (a_firstAnswer a_answering a_next : Nat → Int32)  (q : Int64) (hr : f_X7_digest mo_wide mo_high mo_law mo_acts a_act a_blackAt a_whiteAt a_moveAt a_takenBlack a_takenWhite  = some q) : Met l yX7_digest wsX7_digest rm_X7_digest (PrP (dC, dI) (wd_X7 ad cA mo_wide mo_high mo_law mo_acts mo_newBlack mo_newWhite mo_taken mo_triesMany mo_isSpent mo_found a_neighbours a_act a_blackAt a_whiteAt a_moveAt a_takenBlack a_takenWhite a_chaseBlack a_chaseWhite a_aheadBlack a_aheadWhite a_hasAhead a_breathsLeft a_laidBlack a_laidWhite a_answersLeft a_firstAnswer a_answering a_next) (td_X7 cA) [.ref (ad 0)]) (vp_Sl (fun x => x = q)) 0 0 (fun _ => False) := by
  refine mkP_l (cc := cX7_digest) (nL := 4) (by decide) rfl (Nat.le_of_ble_eq_true rfl) ?_
  intro p e R s m args below meth c H Q ls hRf hRl S hN hP hK hl kret
  have hl : lv_has ls 4 [(0, .ref (ad 0))] := hl
  obtain ⟨hx, hb, hml, hown, hts⟩ := S
  have hown : s.vm.findClass RX7 = some m.cls := hown
  have S : CallFix p m c cX7_digest 4 s args wsX7_digest RX7 := ⟨hx, hb, hml, hown, hts⟩
  have hk229 := hts (.constantLong RX7 229 (47 : Int64)) (by decide +kernel)
  have huX7 : ∀ w ∈ u_ws RX7 TX7 29, w ∈ wsX7_digest := by decide +kernel
  have hf86 := hts (.fieldLink RX7 86 "EyeBoardModel" "acts" "I") (by decide +kernel)
  have hk231 := hts (.constantLong RX7 231 (31 : Int64)) (by decide +kernel)
  have hf20 := hts (.fieldLink RX7 20 "EyeBoardModel" "act" "[I") (by decide +kernel)
  unfold f_X7_digest at hr
  refine W.ldc2 (v := (47 : Int64)) hx hb hown hk229 rfl dX7_digest_0 ?_
  refine W.eq (g2 := F0 m 3 ls [.long (47 : Int64)]) rfl ?_
  refine lv_lstore_n (lv' := [(1, .long (47 : Int64)), (0, .ref (ad 0))]) hx hb dX7_digest_3 rfl hl (by decide) rfl (fun ls hl => ?_)
  refine lv_iconst (v := (0 : Int32)) hx hb dX7_digest_4 (by decide) ?_
  refine lv_istore_n (lv' := [(3, .int (0 : Int32)), (1, .long (47 : Int64)), (0, .ref (ad 0))]) hx hb dX7_digest_5 rfl hl (by decide) rfl (fun ls hl => ?_)
  obtain ⟨K2, eK2, hr⟩ := nm_ex hr
  have kK2 : ∀ (v1 : Int64) , K2 v1 = some q → ∀ (ls : Array Slot), lv_has ls 4 [(0, .ref (ad 0)), (1, .long v1)] → W p l e R s m args below meth c H [] 0 0 Q (F0 m 31 ls []) := by
    intro v1 hr ls hl
    rw [eK2] at hr
    refine lv_iconst (v := (0 : Int32)) hx hb dX7_digest_31 (by decide) ?_
    refine lv_istore_n (lv' := [(3, .int (0 : Int32)), (0, .ref (ad 0)), (1, .long v1)]) hx hb dX7_digest_32 rfl hl (by decide) rfl (fun ls hl => ?_)
    obtain ⟨K4, eK4, hr⟩ := nm_ex hr
    have kK4 : ∀ (v3 : Int64) , K4 v3 = some q → ∀ (ls : Array Slot), lv_has ls 4 [(0, .ref (ad 0)), (1, .long v3)] → W p l e R s m args below meth c H [] 0 0 Q (F0 m 60 ls []) := by
      intro v3 hr ls hl
      rw [eK4] at hr
      refine lv_iconst (v := (0 : Int32)) hx hb dX7_digest_60 (by decide) ?_
      refine lv_istore_n (lv' := [(3, .int (0 : Int32)), (0, .ref (ad 0)), (1, .long v3)]) hx hb dX7_digest_61 rfl hl (by decide) rfl (fun ls hl => ?_)
      have llp_X7_digest_62 : ∀ (nF : Nat) (v5 : Int64) (v6 : Int32) , lp_X7_digest_62 mo_acts a_act nF v5 v6 = some q → ∀ (ls : Array Slot), lv_has ls 4 [(0, .ref (ad 0)), (1, .long v5), (3, .int v6)] → W p l e R s m args below meth c H [] 0 0 Q (F0 m 62 ls []) := by
        intro nF
        induction nF with
        | zero => intro v5 v6 hr; exact absurd hr (by simp [lp_X7_digest_62])
        | succ nF ih =>
          intro v5 v6 hr ls hl
          rw [lp_X7_digest_62] at hr
          refine lv_iload_n hx hb dX7_digest_62 rfl (lv_at hl 2 rfl) ?_
          refine lv_aload_n hx hb dX7_digest_63 rfl (lv_at hl 0 rfl) ?_
          refine va_get (D := (dC, dI)) (ci := 7) (v := .int mo_acts) (C := RX7) (T := TX7) (N := 29) hx hb hts huX7 hown hK hP 0 rfl rfl 4 (by decide) hf86 (fun _ h9 => h9) rfl dX7_digest_64 ?_
          refine lv_icmp_ge (tgt := 90) hx hb dX7_digest_67 (by decide) (fun c7 => ?_) (fun c7 => ?_)
          · have hr := ite_p hr c7
            refine lv_lload_n hx hb dX7_digest_90 rfl (lv_at hl 1 rfl) ?_
            obtain rfl := Option.some.inj hr
            exact kret _ _ dX7_digest_91
          · have hr := ite_n hr c7
            refine W.ldc2 (v := (31 : Int64)) hx hb hown hk231 rfl dX7_digest_70 ?_
            refine W.eq (g2 := F0 m 73 ls [.long (31 : Int64)]) rfl ?_
            refine lv_lload_n hx hb dX7_digest_73 rfl (lv_at hl 1 rfl) ?_
            refine lv_lmul hx hb dX7_digest_74 ?_
            refine lv_aload_n hx hb dX7_digest_75 rfl (lv_at hl 0 rfl) ?_
            refine va_get (D := (dC, dI)) (ci := 7) (v := .ref (ad 2)) (C := RX7) (T := TX7) (N := 29) hx hb hts huX7 hown hK hP 0 rfl rfl 5 (by decide) hf20 (fun _ h9 => h9) rfl dX7_digest_76 ?_
            refine lv_iload_n hx hb dX7_digest_79 rfl (lv_at hl 2 rfl) ?_
            obtain ⟨hi8, hr⟩ := ite_g hr
            refine va_iald hx hb hK hP 2 1 rfl rfl hi8 dX7_digest_80 ?_
            refine lv_i2l hx hb dX7_digest_81 rfl ?_
            refine lv_ladd hx hb dX7_digest_82 ?_
            refine lv_topl (fun x9 ex9 => ?_)
            have hr := nm_use hr ex9
            refine lv_lstore_n (lv' := [(1, .long x9), (0, .ref (ad 0)), (3, .int v6)]) hx hb dX7_digest_83 rfl hl (by decide) rfl (fun ls hl => ?_)
            obtain ⟨x10, ex10, hr⟩ := nm_ex hr
            refine lv_iinc (v := x10) (lv' := [(3, .int x10), (1, .long x9), (0, .ref (ad 0))]) hx hb dX7_digest_84 hl (k := 2) rfl (by rw [ex10]; rfl) (by decide) rfl (fun ls hl => ?_)
            refine lv_goto (tgt := 62) hx hb dX7_digest_87 (by decide) ?_
            exact ih x9 x10 hr ls (lv_sub hl [2, 1, 0] rfl)
      exact llp_X7_digest_62 FU v3 (0 : Int32) hr ls (lv_sub hl [1, 2, 0] rfl)
    have llp_X7_digest_33 : ∀ (nF : Nat) (v11 : Int64) (v12 : Int32) , lp_X7_digest_33 mo_wide mo_high mo_acts a_blackAt a_whiteAt K4 nF v11 v12 = some q → ∀ (ls : Array Slot), lv_has ls 4 [(0, .ref (ad 0)), (1, .long v11), (3, .int v12)] → W p l e R s m args below meth c H [] 0 0 Q (F0 m 33 ls []) := by
      intro nF
      induction nF with
      | zero => intro v11 v12 hr; exact absurd hr (by simp [lp_X7_digest_33])
      | succ nF ih =>
        intro v11 v12 hr ls hl
        rw [lp_X7_digest_33] at hr
        refine lv_iload_n hx hb dX7_digest_33 rfl (lv_at hl 2 rfl) ?_
        refine lv_aload_n hx hb dX7_digest_34 rfl (lv_at hl 0 rfl) ?_
        obtain ⟨q13, hq13, hr⟩ := bd_use hr
        refine pcV_i (As := []) (rest := [.int v12]) S (c_X7_size l dC dI ad cA mo_wide mo_high mo_law mo_acts mo_newBlack mo_newWhite mo_taken mo_triesMany mo_isSpent mo_found a_neighbours a_act a_blackAt a_whiteAt a_moveAt a_takenBlack a_takenWhite a_chaseBlack a_chaseWhite a_aheadBlack a_aheadWhite a_hasAhead a_breathsLeft a_laidBlack a_laidWhite a_answersLeft a_firstAnswer a_answering a_next q13 hq13) (cwV 0 hts gX7_digest_X7_size rfl rfl rfl (by decide +kernel) ⟨Nat.le_trans (m := rm_X7_digest.frames) (by decide) hRf, Nat.le_trans (m := rm_X7_digest.locals) (by decide) hRl⟩) hN hP hK ⟨Nat.zero_le _, Nat.zero_le _⟩ [0, 1, 2, 3, 4, 5, 6, 7, 8, 9, 10, 11, 12, 13, 14, 15, 16, 17, 18, 19] rfl [0, 1, 2, 3, 4, 5, 6, 7, 8, 9, 10, 11, 12, 13, 14, 15, 16, 17, 18] rfl 0 7 rfl rfl rfl hl.1 rfl (Nat.le_of_ble_eq_true rfl) dX7_digest_35 ?_
        refine lv_icmp_ge (tgt := 60) hx hb dX7_digest_38 (by decide) (fun c14 => ?_) (fun c14 => ?_)
        · have hr := ite_p hr c14
          exact kK4 v11 hr ls (lv_sub hl [0, 1] rfl)
        · have hr := ite_n hr c14
          refine W.ldc2 (v := (31 : Int64)) hx hb hown hk231 rfl dX7_digest_41 ?_
          refine W.eq (g2 := F0 m 44 ls [.long (31 : Int64)]) rfl ?_
          refine lv_lload_n hx hb dX7_digest_44 rfl (lv_at hl 1 rfl) ?_
          refine lv_lmul hx hb dX7_digest_45 ?_
          refine lv_aload_n hx hb dX7_digest_46 rfl (lv_at hl 0 rfl) ?_
          refine lv_iload_n hx hb dX7_digest_47 rfl (lv_at hl 2 rfl) ?_
          obtain ⟨q15, hq15, hr⟩ := bd_use hr
          refine pcV_i (As := [.int v12]) (rest := [.long ((31 : Int64) * v11)]) S (c_X7_atOf l dC dI ad cA mo_wide mo_high mo_law mo_acts mo_newBlack mo_newWhite mo_taken mo_triesMany mo_isSpent mo_found a_neighbours a_act a_blackAt a_whiteAt a_moveAt a_takenBlack a_takenWhite a_chaseBlack a_chaseWhite a_aheadBlack a_aheadWhite a_hasAhead a_breathsLeft a_laidBlack a_laidWhite a_answersLeft a_firstAnswer a_answering a_next v12 q15 hq15) (cwV 1 hts gX7_digest_X7_atOf rfl rfl rfl (by decide +kernel) ⟨Nat.le_trans (m := rm_X7_digest.frames) (by decide) hRf, Nat.le_trans (m := rm_X7_digest.locals) (by decide) hRl⟩) hN hP hK ⟨Nat.zero_le _, Nat.zero_le _⟩ [0, 1, 2, 3, 4, 5, 6, 7, 8, 9, 10, 11, 12, 13, 14, 15, 16, 17, 18, 19] rfl [0, 1, 2, 3, 4, 5, 6, 7, 8, 9, 10, 11, 12, 13, 14, 15, 16, 17, 18] rfl 0 7 rfl rfl rfl hl.1 rfl (Nat.le_of_ble_eq_true rfl) dX7_digest_48 ?_
          refine lv_i2l hx hb dX7_digest_51 rfl ?_
          refine lv_ladd hx hb dX7_digest_52 ?_
          refine lv_topl (fun x16 ex16 => ?_)
          have hr := nm_use hr ex16
          refine lv_lstore_n (lv' := [(1, .long x16), (0, .ref (ad 0)), (3, .int v12)]) hx hb dX7_digest_53 rfl hl (by decide) rfl (fun ls hl => ?_)
          obtain ⟨x17, ex17, hr⟩ := nm_ex hr
          refine lv_iinc (v := x17) (lv' := [(3, .int x17), (1, .long x16), (0, .ref (ad 0))]) hx hb dX7_digest_54 hl (k := 2) rfl (by rw [ex17]; rfl) (by decide) rfl (fun ls hl => ?_)
          refine lv_goto (tgt := 33) hx hb dX7_digest_57 (by decide) ?_
          exact ih x16 x17 hr ls (lv_sub hl [2, 1, 0] rfl)
    exact llp_X7_digest_33 FU v1 (0 : Int32) hr ls (lv_sub hl [1, 2, 0] rfl)
  have llp_X7_digest_6 : ∀ (nF : Nat) (v18 : Int64) (v19 : Int32) , lp_X7_digest_6 mo_wide mo_high mo_law mo_acts a_act a_blackAt a_whiteAt a_moveAt a_takenBlack a_takenWhite K2 nF v18 v19 = some q → ∀ (ls : Array Slot), lv_has ls 4 [(0, .ref (ad 0)), (1, .long v18), (3, .int v19)] → W p l e R s m args below meth c H [] 0 0 Q (F0 m 6 ls []) := by
    intro nF
    induction nF with
    | zero => intro v18 v19 hr; exact absurd hr (by simp [lp_X7_digest_6])
    | succ nF ih =>
      intro v18 v19 hr ls hl
      rw [lp_X7_digest_6] at hr
      refine lv_iload_n hx hb dX7_digest_6 rfl (lv_at hl 2 rfl) ?_
      refine lv_bipush (v := (10 : Int32)) hx hb dX7_digest_7 (by decide) ?_
      refine lv_icmp_ge (tgt := 31) hx hb dX7_digest_9 (by decide) (fun c20 => ?_) (fun c20 => ?_)
      · have hr := ite_p hr c20
        exact kK2 v18 hr ls (lv_sub hl [0, 1] rfl)
      · have hr := ite_n hr c20
        refine W.ldc2 (v := (31 : Int64)) hx hb hown hk231 rfl dX7_digest_12 ?_
        refine W.eq (g2 := F0 m 15 ls [.long (31 : Int64)]) rfl ?_
        refine lv_lload_n hx hb dX7_digest_15 rfl (lv_at hl 1 rfl) ?_
        refine lv_lmul hx hb dX7_digest_16 ?_
        refine lv_aload_n hx hb dX7_digest_17 rfl (lv_at hl 0 rfl) ?_
        refine lv_iload_n hx hb dX7_digest_18 rfl (lv_at hl 2 rfl) ?_
        obtain ⟨q21, hq21, hr⟩ := bd_use hr
        refine pcV_i (As := [.int v19]) (rest := [.long ((31 : Int64) * v18)]) S (c_X7_count l dC dI ad cA mo_wide mo_high mo_law mo_acts mo_newBlack mo_newWhite mo_taken mo_triesMany mo_isSpent mo_found a_neighbours a_act a_blackAt a_whiteAt a_moveAt a_takenBlack a_takenWhite a_chaseBlack a_chaseWhite a_aheadBlack a_aheadWhite a_hasAhead a_breathsLeft a_laidBlack a_laidWhite a_answersLeft a_firstAnswer a_answering a_next v19 q21 hq21) (cwV 1 hts gX7_digest_X7_count rfl rfl rfl (by decide +kernel) ⟨Nat.le_trans (m := rm_X7_digest.frames) (by decide) hRf, Nat.le_trans (m := rm_X7_digest.locals) (by decide) hRl⟩) hN hP hK ⟨Nat.zero_le _, Nat.zero_le _⟩ [0, 1, 2, 3, 4, 5, 6, 7, 8, 9, 10, 11, 12, 13, 14, 15, 16, 17, 18, 19] rfl [0, 1, 2, 3, 4, 5, 6, 7, 8, 9, 10, 11, 12, 13, 14, 15, 16, 17, 18] rfl 0 7 rfl rfl rfl hl.1 rfl (Nat.le_of_ble_eq_true rfl) dX7_digest_19 ?_
        refine lv_i2l hx hb dX7_digest_22 rfl ?_
        refine lv_ladd hx hb dX7_digest_23 ?_
        refine lv_topl (fun x22 ex22 => ?_)
        have hr := nm_use hr ex22
        refine lv_lstore_n (lv' := [(1, .long x22), (0, .ref (ad 0)), (3, .int v19)]) hx hb dX7_digest_24 rfl hl (by decide) rfl (fun ls hl => ?_)
        obtain ⟨x23, ex23, hr⟩ := nm_ex hr
        refine lv_iinc (v := x23) (lv' := [(3, .int x23), (1, .long x22), (0, .ref (ad 0))]) hx hb dX7_digest_25 hl (k := 2) rfl (by rw [ex23]; rfl) (by decide) rfl (fun ls hl => ?_)
        refine lv_goto (tgt := 6) hx hb dX7_digest_28 (by decide) ?_
        exact ih x22 x23 hr ls (lv_sub hl [2, 1, 0] rfl)
  exact llp_X7_digest_6 FU (47 : Int64) (0 : Int32) hr ls (lv_sub hl [2, 1, 0] rfl)

