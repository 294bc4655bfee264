def f_X3_isVital (g_width : Int32) (g_all : Int64) (g_notFirstColumn : Int64) (g_notLastColumn : Int64) (a0 : Int64) (a1 : Int64) (a2 : Int64) : Option (Int32) :=
  (f_X2_beside g_width g_all g_notFirstColumn g_notLastColumn a1).bind fun q1 =>
  if a0 &&& q1 = (0 : Int64) then (
    some ((0 : Int32))
  )
  else (
    if (a0 &&& a2) &&& (q1 ^^^ (-1 : Int64)) = (0 : Int64) then (
      some ((1 : Int32))
    )
    else (
      some ((0 : Int32))
    )
  )

abbrev rm_X3_isVital : Room := { frames := 1, cells := 0, slots := 0, locals := 24 }
set_option maxHeartbeats 4000000 in
set_option maxRecDepth 100000 in
theorem c_X3_isVital (l : Launch) (dC : Nat → ClassId) (dI : Nat → Nat → Nat) (h_life h_g : Nat) (g_width g_height g_size : Int32) (g_all g_notFirstColumn g_notLastColumn : Int64) (a0 : Int64) (a1 : Int64) (a2 : Int64) (q : Int32) (hr : f_X3_isVital g_width g_all g_notFirstColumn g_notLastColumn a0 a1 a2 = some q) : Met l yX3_isVital wsX3_isVital rm_X3_isVital (PrP (dC, dI) (wd_X3 h_life h_g g_width g_height g_size g_all g_notFirstColumn g_notLastColumn) (td_X3) [.ref h_life, .long a0, .long a1, .long a2]) (vp_Si (fun x => x = q)) 0 0 (fun _ => False) := by
  refine mkP_z (cc := cX3_isVital) (nL := 9) (by decide) rfl (Nat.le_of_ble_eq_true rfl) ?_
  intro p e R s m args below meth c H Q ls hRf hRl S hN hP hK hl kret
  have hl : lv_has ls 9 [(0, .ref h_life), (1, .long a0), (3, .long a1), (5, .long a2)] := hl
  obtain ⟨hx, hb, hml, hown, hts⟩ := S
  have hown : s.vm.findClass RX3 = some m.cls := hown
  have S : CallFix p m c cX3_isVital 9 s args wsX3_isVital RX3 := ⟨hx, hb, hml, hown, hts⟩
  have huX3 : ∀ w ∈ u_ws RX3 TX3 1, w ∈ wsX3_isVital := by decide +kernel
  have hf9 := hts (.fieldLink RX3 9 "EyeBoard$Life" "grid" "LEyeBoard$Grid;") (by decide +kernel)
  have hk21 := hts (.constantLong RX3 21 (-1 : Int64)) (by decide +kernel)
  unfold f_X3_isVital at hr
  refine lv_aload_n hx hb dX3_isVital_0 rfl (lv_at hl 0 rfl) ?_
  refine va_get (D := (dC, dI)) (ci := 3) (v := .ref h_g) (C := RX3) (T := TX3) (N := 1) hx hb hts huX3 hown hK hP 0 rfl rfl 0 (by decide) hf9 (fun _ h9 => h9) rfl dX3_isVital_1 ?_
  refine lv_lload_n hx hb dX3_isVital_4 rfl (lv_at hl 2 rfl) ?_
  obtain ⟨q1, hq1, hr⟩ := bd_use hr
  refine pcV_l (As := [.long a1]) (rest := []) S (c_X2_beside l dC dI h_g g_width g_height g_size g_all g_notFirstColumn g_notLastColumn a1 q1 hq1) (cwV 1 hts gX3_isVital_X2_beside rfl rfl rfl (by decide +kernel) ⟨Nat.le_trans (m := rm_X3_isVital.frames) (by decide) hRf, Nat.le_trans (m := rm_X3_isVital.locals) (by decide) hRl⟩) hN hP hK ⟨Nat.zero_le _, Nat.zero_le _⟩ [1] rfl [] rfl 1 2 rfl rfl rfl hl.1 rfl (Nat.le_of_ble_eq_true rfl) dX3_isVital_5 ?_
  refine lv_lstore (lv' := [(7, .long q1), (0, .ref h_life), (1, .long a0), (3, .long a1), (5, .long a2)]) hx hb dX3_isVital_8 hl (by decide) rfl (fun ls hl => ?_)
  refine lv_lload_n hx hb dX3_isVital_10 rfl (lv_at hl 2 rfl) ?_
  refine lv_lload hx hb dX3_isVital_11 (lv_at hl 0 rfl) ?_
  refine lv_land hx hb dX3_isVital_13 ?_
  refine lv_lconst (v := (0 : Int64)) hx hb dX3_isVital_14 (by decide) ?_
  refine W.lcmp hx hb dX3_isVital_15 ?_
  refine lv_if_eq (tgt := 39) hx hb dX3_isVital_16 (by decide) (fun c2 => ?_) (fun c2 => ?_)
  · have c2 := cmp_t c2
    have hr := ite_p hr c2
    refine lv_iconst (v := (0 : Int32)) hx hb dX3_isVital_39 (by decide) ?_
    obtain rfl := Option.some.inj hr
    exact kret _ _ dX3_isVital_40 nar_0
  · have c2 := cmp_f c2
    have hr := ite_n hr c2
    refine lv_lload_n hx hb dX3_isVital_19 rfl (lv_at hl 2 rfl) ?_
    refine lv_lload hx hb dX3_isVital_20 (lv_at hl 4 rfl) ?_
    refine lv_land hx hb dX3_isVital_22 ?_
    refine lv_lload hx hb dX3_isVital_23 (lv_at hl 0 rfl) ?_
    refine W.ldc2 (v := (-1 : Int64)) hx hb hown hk21 rfl dX3_isVital_25 ?_
    refine W.eq (g2 := F0 m 28 ls [.long (-1 : Int64), .long q1, .long (a0 &&& a2)]) rfl ?_
    refine lv_lxor hx hb dX3_isVital_28 ?_
    refine lv_land hx hb dX3_isVital_29 ?_
    refine lv_lconst (v := (0 : Int64)) hx hb dX3_isVital_30 (by decide) ?_
    refine W.lcmp hx hb dX3_isVital_31 ?_
    refine lv_if_ne (tgt := 39) hx hb dX3_isVital_32 (by decide) (fun c3 => ?_) (fun c3 => ?_)
    · have c3 := cmp_f c3
      have hr := ite_n hr c3
      refine lv_iconst (v := (0 : Int32)) hx hb dX3_isVital_39 (by decide) ?_
      obtain rfl := Option.some.inj hr
      exact kret _ _ dX3_isVital_40 nar_0
    · have c3 := cmp_t c3
      have hr := ite_p hr c3
      refine lv_iconst (v := (1 : Int32)) hx hb dX3_isVital_35 (by decide) ?_
      refine lv_goto (tgt := 40) hx hb dX3_isVital_36 (by decide) ?_
      obtain rfl := Option.some.inj hr
      exact kret _ _ dX3_isVital_40 nar_1

def lp_X3_vitalRegions_6 (g_width : Int32) (g_size : Int32) (g_all : Int64) (g_notFirstColumn : Int64) (g_notLastColumn : Int64) (a0 : Int64) (a1 : Int64) (a2 : Int64) : Nat → Int32 → Int32 → Option (Int32)
  | 0, _, _ => none
  | nF + 1, v1, v2 =>
    if g_size ≤ v2 then (
      some (v1)
    )
    else (
      (f_X2_partFrom g_width g_all g_notFirstColumn g_notLastColumn a1 v2).bind fun q4 =>
      (f_X3_isVital g_width g_all g_notFirstColumn g_notLastColumn q4 a0 a2).bind fun q5 =>
      if q5 = 0 then (
        nm (v1 + (0 : Int32)) fun x7 =>
        nm (v2 + 1) fun x8 =>
        lp_X3_vitalRegions_6 g_width g_size g_all g_notFirstColumn g_notLastColumn a0 a1 a2 nF x7 x8
      )
      else (
        nm (v1 + (1 : Int32)) fun x9 =>
        nm (v2 + 1) fun x10 =>
        lp_X3_vitalRegions_6 g_width g_size g_all g_notFirstColumn g_notLastColumn a0 a1 a2 nF x9 x10
      )
    )

def f_X3_vitalRegions (g_width : Int32) (g_size : Int32) (g_all : Int64) (g_notFirstColumn : Int64) (g_notLastColumn : Int64) (a0 : Int64) (a1 : Int64) (a2 : Int64) : Option (Int32) :=
  lp_X3_vitalRegions_6 g_width g_size g_all g_notFirstColumn g_notLastColumn a0 a1 a2 FU (0 : Int32) (0 : Int32)

abbrev rm_X3_vitalRegions : Room := { frames := 3, cells := 0, slots := 0, locals := 82 }
set_option maxHeartbeats 4000000 in
set_option maxRecDepth 100000 in
theorem c_X3_vitalRegions (l : Launch) (dC : Nat → ClassId) (dI : Nat → Nat → Nat) (h_life h_g : Nat) (g_width g_height g_size : Int32) (g_all g_notFirstColumn g_notLastColumn : Int64) (a0 : Int64) (a1 : Int64) (a2 : Int64) (q : Int32) (hr : f_X3_vitalRegions g_width g_size g_all g_notFirstColumn g_notLastColumn a0 a1 a2 = some q) : Met l yX3_vitalRegions wsX3_vitalRegions rm_X3_vitalRegions (PrP (dC, dI) (wd_X3 h_life h_g g_width g_height g_size g_all g_notFirstColumn g_notLastColumn) (td_X3) [.ref h_life, .long a0, .long a1, .long a2]) (vp_Si (fun x => x = q)) 0 0 (fun _ => False) := by
  refine mkP_i (cc := cX3_vitalRegions) (nL := 9) (by decide) rfl (Nat.le_of_ble_eq_true rfl) ?_
  intro p e R s m args below meth c H Q ls hRf hRl S hN hP hK hl kret
  have hl : lv_has ls 9 [(0, .ref h_life), (1, .long a0), (3, .long a1), (5, .long a2)] := hl
  obtain ⟨hx, hb, hml, hown, hts⟩ := S
  have hown : s.vm.findClass RX3 = some m.cls := hown
  have S : CallFix p m c cX3_vitalRegions 9 s args wsX3_vitalRegions RX3 := ⟨hx, hb, hml, hown, hts⟩
  have huX3 : ∀ w ∈ u_ws RX3 TX3 1, w ∈ wsX3_vitalRegions := by decide +kernel
  have hf9 := hts (.fieldLink RX3 9 "EyeBoard$Life" "grid" "LEyeBoard$Grid;") (by decide +kernel)
  have huX2 : ∀ w ∈ u_ws RX2 TX2 6, w ∈ wsX3_vitalRegions := by decide +kernel
  have hf23 := hts (.fieldLink RX3 23 "EyeBoard$Grid" "size" "I") (by decide +kernel)
  unfold f_X3_vitalRegions at hr
  refine lv_iconst (v := (0 : Int32)) hx hb dX3_vitalRegions_0 (by decide) ?_
  refine lv_istore (lv' := [(7, .int (0 : Int32)), (0, .ref h_life), (1, .long a0), (3, .long a1), (5, .long a2)]) hx hb dX3_vitalRegions_1 hl (by decide) rfl (fun ls hl => ?_)
  refine lv_iconst (v := (0 : Int32)) hx hb dX3_vitalRegions_3 (by decide) ?_
  refine lv_istore (lv' := [(8, .int (0 : Int32)), (7, .int (0 : Int32)), (0, .ref h_life), (1, .long a0), (3, .long a1), (5, .long a2)]) hx hb dX3_vitalRegions_4 hl (by decide) rfl (fun ls hl => ?_)
  have llp_X3_vitalRegions_6 : ∀ (nF : Nat) (v1 : Int32) (v2 : Int32) , lp_X3_vitalRegions_6 g_width g_size g_all g_notFirstColumn g_notLastColumn a0 a1 a2 nF v1 v2 = some q → ∀ (ls : Array Slot), lv_has ls 9 [(0, .ref h_life), (1, .long a0), (3, .long a1), (5, .long a2), (7, .int v1), (8, .int v2)] → W p l e R s m args below meth c H [] 0 0 Q (F0 m 6 ls []) := by
    intro nF
    induction nF with
    | zero => intro v1 v2 hr; exact absurd hr (by simp [lp_X3_vitalRegions_6])
    | succ nF ih =>
      intro v1 v2 hr ls hl
      rw [lp_X3_vitalRegions_6] at hr
      refine lv_iload hx hb dX3_vitalRegions_6 (lv_at hl 5 rfl) ?_
      refine lv_aload_n hx hb dX3_vitalRegions_8 rfl (lv_at hl 0 rfl) ?_
      refine va_get (D := (dC, dI)) (ci := 3) (v := .ref h_g) (C := RX3) (T := TX3) (N := 1) hx hb hts huX3 hown hK hP 0 rfl rfl 0 (by decide) hf9 (fun _ h9 => h9) rfl dX3_vitalRegions_9 ?_
      refine va_get (D := (dC, dI)) (ci := 2) (v := .int g_size) (C := RX2) (T := TX2) (N := 6) hx hb hts huX2 hown hK hP 1 rfl rfl 2 (by decide) hf23 (fun _ h9 => h9) rfl dX3_vitalRegions_12 ?_
      refine lv_icmp_ge (tgt := 54) hx hb dX3_vitalRegions_15 (by decide) (fun c3 => ?_) (fun c3 => ?_)
      · have hr := ite_p hr c3
        refine lv_iload hx hb dX3_vitalRegions_54 (lv_at hl 4 rfl) ?_
        obtain rfl := Option.some.inj hr
        exact kret _ _ dX3_vitalRegions_56
      · have hr := ite_n hr c3
        refine lv_iload hx hb dX3_vitalRegions_18 (lv_at hl 4 rfl) ?_
        refine lv_aload_n hx hb dX3_vitalRegions_20 rfl (lv_at hl 0 rfl) ?_
        refine lv_aload_n hx hb dX3_vitalRegions_21 rfl (lv_at hl 0 rfl) ?_
        refine va_get (D := (dC, dI)) (ci := 3) (v := .ref h_g) (C := RX3) (T := TX3) (N := 1) hx hb hts huX3 hown hK hP 0 rfl rfl 0 (by decide) hf9 (fun _ h9 => h9) rfl dX3_vitalRegions_22 ?_
        refine lv_lload_n hx hb dX3_vitalRegions_25 rfl (lv_at hl 2 rfl) ?_
        refine lv_iload hx hb dX3_vitalRegions_26 (lv_at hl 5 rfl) ?_
        obtain ⟨q4, hq4, hr⟩ := bd_use hr
        refine pcV_l (As := [.long a1, .int v2]) (rest := [.ref h_life, .int v1]) S (c_X2_partFrom l dC dI h_g g_width g_height g_size g_all g_notFirstColumn g_notLastColumn a1 v2 q4 hq4) (cwV 2 hts gX3_vitalRegions_X2_partFrom rfl rfl rfl (by decide +kernel) ⟨Nat.le_trans (m := rm_X3_vitalRegions.frames) (by decide) hRf, Nat.le_trans (m := rm_X3_vitalRegions.locals) (by decide) hRl⟩) hN hP hK ⟨Nat.zero_le _, Nat.zero_le _⟩ [1] rfl [] rfl 1 2 rfl rfl rfl hl.1 rfl (Nat.le_of_ble_eq_true rfl) dX3_vitalRegions_28 ?_
        refine lv_lload_n hx hb dX3_vitalRegions_31 rfl (lv_at hl 1 rfl) ?_
        refine lv_lload hx hb dX3_vitalRegions_32 (lv_at hl 3 rfl) ?_
        obtain ⟨q5, hq5, hr⟩ := bd_use hr
        refine pcV_i (As := [.long q4, .long a0, .long a2]) (rest := [.int v1]) S (c_X3_isVital l dC dI h_life h_g g_width g_height g_size g_all g_notFirstColumn g_notLastColumn q4 a0 a2 q5 hq5) (cwV 3 hts gX3_vitalRegions_X3_isVital rfl rfl rfl (by decide +kernel) ⟨Nat.le_trans (m := rm_X3_vitalRegions.frames) (by decide) hRf, Nat.le_trans (m := rm_X3_vitalRegions.locals) (by decide) hRl⟩) hN hP hK ⟨Nat.zero_le _, Nat.zero_le _⟩ [0, 1] rfl [] rfl 0 3 rfl rfl rfl hl.1 rfl (Nat.le_of_ble_eq_true rfl) dX3_vitalRegions_34 ?_
        refine lv_if_eq (tgt := 44) hx hb dX3_vitalRegions_37 (by decide) (fun c6 => ?_) (fun c6 => ?_)
        · have hr := ite_p hr c6
          refine lv_iconst (v := (0 : Int32)) hx hb dX3_vitalRegions_44 (by decide) ?_
          refine lv_iadd hx hb dX3_vitalRegions_45 ?_
          refine lv_topi (fun x7 ex7 => ?_)
          have hr := nm_use hr ex7
          refine lv_istore (lv' := [(7, .int x7), (0, .ref h_life), (1, .long a0), (3, .long a1), (5, .long a2), (8, .int v2)]) hx hb dX3_vitalRegions_46 hl (by decide) rfl (fun ls hl => ?_)
          obtain ⟨x8, ex8, hr⟩ := nm_ex hr
          refine lv_iinc (v := x8) (lv' := [(8, .int x8), (7, .int x7), (0, .ref h_life), (1, .long a0), (3, .long a1), (5, .long a2)]) hx hb dX3_vitalRegions_48 hl (k := 5) rfl (by rw [ex8]; rfl) (by decide) rfl (fun ls hl => ?_)
          refine lv_goto (tgt := 6) hx hb dX3_vitalRegions_51 (by decide) ?_
          exact ih x7 x8 hr ls (lv_sub hl [2, 3, 4, 5, 1, 0] rfl)
        · have hr := ite_n hr c6
          refine lv_iconst (v := (1 : Int32)) hx hb dX3_vitalRegions_40 (by decide) ?_
          refine lv_goto (tgt := 45) hx hb dX3_vitalRegions_41 (by decide) ?_
          refine lv_iadd hx hb dX3_vitalRegions_45 ?_
          refine lv_topi (fun x9 ex9 => ?_)
          have hr := nm_use hr ex9
          refine lv_istore (lv' := [(7, .int x9), (0, .ref h_life), (1, .long a0), (3, .long a1), (5, .long a2), (8, .int v2)]) hx hb dX3_vitalRegions_46 hl (by decide) rfl (fun ls hl => ?_)
          obtain ⟨x10, ex10, hr⟩ := nm_ex hr
          refine lv_iinc (v := x10) (lv' := [(8, .int x10), (7, .int x9), (0, .ref h_life), (1, .long a0), (3, .long a1), (5, .long a2)]) hx hb dX3_vitalRegions_48 hl (k := 5) rfl (by rw [ex10]; rfl) (by decide) rfl (fun ls hl => ?_)
          refine lv_goto (tgt := 6) hx hb dX3_vitalRegions_51 (by decide) ?_
          exact ih x9 x10 hr ls (lv_sub hl [2, 3, 4, 5, 1, 0] rfl)
  exact llp_X3_vitalRegions_6 FU (0 : Int32) (0 : Int32) hr ls (lv_sub hl [2, 3, 4, 5, 1, 0] rfl)

def lp_X3_groupsTouched_16 (g_width : Int32) (g_size : Int32) (g_all : Int64) (g_notFirstColumn : Int64) (g_notLastColumn : Int64) (a1 : Int64) (q1 : Int64) : Nat → Int32 → Int32 → Option (Int32)
  | 0, _, _ => none
  | nF + 1, v2, v3 =>
    if g_size ≤ v3 then (
      some (v2)
    )
    else (
      (f_X2_partFrom g_width g_all g_notFirstColumn g_notLastColumn a1 v3).bind fun q5 =>
      if q5 &&& q1 = (0 : Int64) then (
        nm (v2 + (0 : Int32)) fun x7 =>
        nm (v3 + 1) fun x8 =>
        lp_X3_groupsTouched_16 g_width g_size g_all g_notFirstColumn g_notLastColumn a1 q1 nF x7 x8
      )
      else (
        nm (v2 + (1 : Int32)) fun x9 =>
        nm (v3 + 1) fun x10 =>
        lp_X3_groupsTouched_16 g_width g_size g_all g_notFirstColumn g_notLastColumn a1 q1 nF x9 x10
      )
    )

def f_X3_groupsTouched (g_width : Int32) (g_size : Int32) (g_all : Int64) (g_notFirstColumn : Int64) (g_notLastColumn : Int64) (a0 : Int64) (a1 : Int64) : Option (Int32) :=
  (f_X2_beside g_width g_all g_notFirstColumn g_notLastColumn a0).bind fun q1 =>
  lp_X3_groupsTouched_16 g_width g_size g_all g_notFirstColumn g_notLastColumn a1 q1 FU (0 : Int32) (0 : Int32)

abbrev rm_X3_groupsTouched : Room := { frames := 3, cells := 0, slots := 0, locals := 82 }
set_option maxHeartbeats 4000000 in
set_option maxRecDepth 100000 in
theorem c_X3_groupsTouched (l : Launch) (dC : Nat → ClassId) (dI : Nat → Nat → Nat) (h_life h_g : Nat) (g_width g_height g_size : Int32) (g_all g_notFirstColumn g_notLastColumn : Int64) (a0 : Int64) (a1 : Int64) (q : Int32) (hr : f_X3_groupsTouched g_width g_size g_all g_notFirstColumn g_notLastColumn a0 a1 = some q) : Met l yX3_groupsTouched wsX3_groupsTouched rm_X3_groupsTouched (PrP (dC, dI) (wd_X3 h_life h_g g_width g_height g_size g_all g_notFirstColumn g_notLastColumn) (td_X3) [.ref h_life, .long a0, .long a1]) (vp_Si (fun x => x = q)) 0 0 (fun _ => False) := by
  refine mkP_i (cc := cX3_groupsTouched) (nL := 9) (by decide) rfl (Nat.le_of_ble_eq_true rfl) ?_
  intro p e R s m args below meth c H Q ls hRf hRl S hN hP hK hl kret
  have hl : lv_has ls 9 [(0, .ref h_life), (1, .long a0), (3, .long a1)] := hl
  obtain ⟨hx, hb, hml, hown, hts⟩ := S
  have hown : s.vm.findClass RX3 = some m.cls := hown
  have S : CallFix p m c cX3_groupsTouched 9 s args wsX3_groupsTouched RX3 := ⟨hx, hb, hml, hown, hts⟩
  have huX3 : ∀ w ∈ u_ws RX3 TX3 1, w ∈ wsX3_groupsTouched := by decide +kernel
  have hf9 := hts (.fieldLink RX3 9 "EyeBoard$Life" "grid" "LEyeBoard$Grid;") (by decide +kernel)
  have huX2 : ∀ w ∈ u_ws RX2 TX2 6, w ∈ wsX3_groupsTouched := by decide +kernel
  have hf23 := hts (.fieldLink RX3 23 "EyeBoard$Grid" "size" "I") (by decide +kernel)
  unfold f_X3_groupsTouched at hr
  refine lv_aload_n hx hb dX3_groupsTouched_0 rfl (lv_at hl 0 rfl) ?_
  refine va_get (D := (dC, dI)) (ci := 3) (v := .ref h_g) (C := RX3) (T := TX3) (N := 1) hx hb hts huX3 hown hK hP 0 rfl rfl 0 (by decide) hf9 (fun _ h9 => h9) rfl dX3_groupsTouched_1 ?_
  refine lv_lload_n hx hb dX3_groupsTouched_4 rfl (lv_at hl 1 rfl) ?_
  obtain ⟨q1, hq1, hr⟩ := bd_use hr
  refine pcV_l (As := [.long a0]) (rest := []) S (c_X2_beside l dC dI h_g g_width g_height g_size g_all g_notFirstColumn g_notLastColumn a0 q1 hq1) (cwV 1 hts gX3_groupsTouched_X2_beside rfl rfl rfl (by decide +kernel) ⟨Nat.le_trans (m := rm_X3_groupsTouched.frames) (by decide) hRf, Nat.le_trans (m := rm_X3_groupsTouched.locals) (by decide) hRl⟩) hN hP hK ⟨Nat.zero_le _, Nat.zero_le _⟩ [1] rfl [] rfl 1 2 rfl rfl rfl hl.1 rfl (Nat.le_of_ble_eq_true rfl) dX3_groupsTouched_5 ?_
  refine lv_lstore (lv' := [(5, .long q1), (0, .ref h_life), (1, .long a0), (3, .long a1)]) hx hb dX3_groupsTouched_8 hl (by decide) rfl (fun ls hl => ?_)
  refine lv_iconst (v := (0 : Int32)) hx hb dX3_groupsTouched_10 (by decide) ?_
  refine lv_istore (lv' := [(7, .int (0 : Int32)), (5, .long q1), (0, .ref h_life), (1, .long a0), (3, .long a1)]) hx hb dX3_groupsTouched_11 hl (by decide) rfl (fun ls hl => ?_)
  refine lv_iconst (v := (0 : Int32)) hx hb dX3_groupsTouched_13 (by decide) ?_
  refine lv_istore (lv' := [(8, .int (0 : Int32)), (7, .int (0 : Int32)), (5, .long q1), (0, .ref h_life), (1, .long a0), (3, .long a1)]) hx hb dX3_groupsTouched_14 hl (by decide) rfl (fun ls hl => ?_)
  have llp_X3_groupsTouched_16 : ∀ (nF : Nat) (v2 : Int32) (v3 : Int32) , lp_X3_groupsTouched_16 g_width g_size g_all g_notFirstColumn g_notLastColumn a1 q1 nF v2 v3 = some q → ∀ (ls : Array Slot), lv_has ls 9 [(0, .ref h_life), (3, .long a1), (5, .long q1), (7, .int v2), (8, .int v3)] → W p l e R s m args below meth c H [] 0 0 Q (F0 m 16 ls []) := by
    intro nF
    induction nF with
    | zero => intro v2 v3 hr; exact absurd hr (by simp [lp_X3_groupsTouched_16])
    | succ nF ih =>
      intro v2 v3 hr ls hl
      rw [lp_X3_groupsTouched_16] at hr
      refine lv_iload hx hb dX3_groupsTouched_16 (lv_at hl 4 rfl) ?_
      refine lv_aload_n hx hb dX3_groupsTouched_18 rfl (lv_at hl 0 rfl) ?_
      refine va_get (D := (dC, dI)) (ci := 3) (v := .ref h_g) (C := RX3) (T := TX3) (N := 1) hx hb hts huX3 hown hK hP 0 rfl rfl 0 (by decide) hf9 (fun _ h9 => h9) rfl dX3_groupsTouched_19 ?_
      refine va_get (D := (dC, dI)) (ci := 2) (v := .int g_size) (C := RX2) (T := TX2) (N := 6) hx hb hts huX2 hown hK hP 1 rfl rfl 2 (by decide) hf23 (fun _ h9 => h9) rfl dX3_groupsTouched_22 ?_
      refine lv_icmp_ge (tgt := 62) hx hb dX3_groupsTouched_25 (by decide) (fun c4 => ?_) (fun c4 => ?_)
      · have hr := ite_p hr c4
        refine lv_iload hx hb dX3_groupsTouched_62 (lv_at hl 3 rfl) ?_
        obtain rfl := Option.some.inj hr
        exact kret _ _ dX3_groupsTouched_64
      · have hr := ite_n hr c4
        refine lv_iload hx hb dX3_groupsTouched_28 (lv_at hl 3 rfl) ?_
        refine lv_aload_n hx hb dX3_groupsTouched_30 rfl (lv_at hl 0 rfl) ?_
        refine va_get (D := (dC, dI)) (ci := 3) (v := .ref h_g) (C := RX3) (T := TX3) (N := 1) hx hb hts huX3 hown hK hP 0 rfl rfl 0 (by decide) hf9 (fun _ h9 => h9) rfl dX3_groupsTouched_31 ?_
        refine lv_lload_n hx hb dX3_groupsTouched_34 rfl (lv_at hl 1 rfl) ?_
        refine lv_iload hx hb dX3_groupsTouched_35 (lv_at hl 4 rfl) ?_
        obtain ⟨q5, hq5, hr⟩ := bd_use hr
        refine pcV_l (As := [.long a1, .int v3]) (rest := [.int v2]) S (c_X2_partFrom l dC dI h_g g_width g_height g_size g_all g_notFirstColumn g_notLastColumn a1 v3 q5 hq5) (cwV 2 hts gX3_groupsTouched_X2_partFrom rfl rfl rfl (by decide +kernel) ⟨Nat.le_trans (m := rm_X3_groupsTouched.frames) (by decide) hRf, Nat.le_trans (m := rm_X3_groupsTouched.locals) (by decide) hRl⟩) hN hP hK ⟨Nat.zero_le _, Nat.zero_le _⟩ [1] rfl [] rfl 1 2 rfl rfl rfl hl.1 rfl (Nat.le_of_ble_eq_true rfl) dX3_groupsTouched_37 ?_
        refine lv_lload hx hb dX3_groupsTouched_40 (lv_at hl 2 rfl) ?_
        refine lv_land hx hb dX3_groupsTouched_42 ?_
        refine lv_lconst (v := (0 : Int64)) hx hb dX3_groupsTouched_43 (by decide) ?_
        refine W.lcmp hx hb dX3_groupsTouched_44 ?_
        refine lv_if_eq (tgt := 52) hx hb dX3_groupsTouched_45 (by decide) (fun c6 => ?_) (fun c6 => ?_)
        · have c6 := cmp_t c6
          have hr := ite_p hr c6
          refine lv_iconst (v := (0 : Int32)) hx hb dX3_groupsTouched_52 (by decide) ?_
          refine lv_iadd hx hb dX3_groupsTouched_53 ?_
          refine lv_topi (fun x7 ex7 => ?_)
          have hr := nm_use hr ex7
          refine lv_istore (lv' := [(7, .int x7), (0, .ref h_life), (3, .long a1), (5, .long q1), (8, .int v3)]) hx hb dX3_groupsTouched_54 hl (by decide) rfl (fun ls hl => ?_)
          obtain ⟨x8, ex8, hr⟩ := nm_ex hr
          refine lv_iinc (v := x8) (lv' := [(8, .int x8), (7, .int x7), (0, .ref h_life), (3, .long a1), (5, .long q1)]) hx hb dX3_groupsTouched_56 hl (k := 4) rfl (by rw [ex8]; rfl) (by decide) rfl (fun ls hl => ?_)
          refine lv_goto (tgt := 16) hx hb dX3_groupsTouched_59 (by decide) ?_
          exact ih x7 x8 hr ls (lv_sub hl [2, 3, 4, 1, 0] rfl)
        · have c6 := cmp_f c6
          have hr := ite_n hr c6
          refine lv_iconst (v := (1 : Int32)) hx hb dX3_groupsTouched_48 (by decide) ?_
          refine lv_goto (tgt := 53) hx hb dX3_groupsTouched_49 (by decide) ?_
          refine lv_iadd hx hb dX3_groupsTouched_53 ?_
          refine lv_topi (fun x9 ex9 => ?_)
          have hr := nm_use hr ex9
          refine lv_istore (lv' := [(7, .int x9), (0, .ref h_life), (3, .long a1), (5, .long q1), (8, .int v3)]) hx hb dX3_groupsTouched_54 hl (by decide) rfl (fun ls hl => ?_)
          obtain ⟨x10, ex10, hr⟩ := nm_ex hr
          refine lv_iinc (v := x10) (lv' := [(8, .int x10), (7, .int x9), (0, .ref h_life), (3, .long a1), (5, .long q1)]) hx hb dX3_groupsTouched_56 hl (k := 4) rfl (by rw [ex10]; rfl) (by decide) rfl (fun ls hl => ?_)
          refine lv_goto (tgt := 16) hx hb dX3_groupsTouched_59 (by decide) ?_
          exact ih x9 x10 hr ls (lv_sub hl [2, 3, 4, 1, 0] rfl)
  exact llp_X3_groupsTouched_16 FU (0 : Int32) (0 : Int32) hr ls (lv_sub hl [3, 5, 2, 1, 0] rfl)

def lp_X3_groupsItIsVitalTo_6 (g_width : Int32) (g_size : Int32) (g_all : Int64) (g_notFirstColumn : Int64) (g_notLastColumn : Int64) (a0 : Int64) (a1 : Int64) (a2 : Int64) : Nat → Int32 → Int32 → Option (Int32)
  | 0, _, _ => none
  | nF + 1, v1, v2 =>
    if g_size ≤ v2 then (
      some (v1)
    )
    else (
      (f_X2_partFrom g_width g_all g_notFirstColumn g_notLastColumn a1 v2).bind fun q4 =>
      (f_X3_isVital g_width g_all g_notFirstColumn g_notLastColumn a0 q4 a2).bind fun q5 =>
      if q5 = 0 then (
        nm (v1 + (0 : Int32)) fun x7 =>
        nm (v2 + 1) fun x8 =>
        lp_X3_groupsItIsVitalTo_6 g_width g_size g_all g_notFirstColumn g_notLastColumn a0 a1 a2 nF x7 x8
      )
      else (
        nm (v1 + (1 : Int32)) fun x9 =>
        nm (v2 + 1) fun x10 =>
        lp_X3_groupsItIsVitalTo_6 g_width g_size g_all g_notFirstColumn g_notLastColumn a0 a1 a2 nF x9 x10
      )
    )

def f_X3_groupsItIsVitalTo (g_width : Int32) (g_size : Int32) (g_all : Int64) (g_notFirstColumn : Int64) (g_notLastColumn : Int64) (a0 : Int64) (a1 : Int64) (a2 : Int64) : Option (Int32) :=
  lp_X3_groupsItIsVitalTo_6 g_width g_size g_all g_notFirstColumn g_notLastColumn a0 a1 a2 FU (0 : Int32) (0 : Int32)

abbrev rm_X3_groupsItIsVitalTo : Room := { frames := 3, cells := 0, slots := 0, locals := 82 }
set_option maxHeartbeats 4000000 in
set_option maxRecDepth 100000 in
theorem c_X3_groupsItIsVitalTo (l : Launch) (dC : Nat → ClassId) (dI : Nat → Nat → Nat) (h_life h_g : Nat) (g_width g_height g_size : Int32) (g_all g_notFirstColumn g_notLastColumn : Int64) (a0 : Int64) (a1 : Int64) (a2 : Int64) (q : Int32) (hr : f_X3_groupsItIsVitalTo g_width g_size g_all g_notFirstColumn g_notLastColumn a0 a1 a2 = some q) : Met l yX3_groupsItIsVitalTo wsX3_groupsItIsVitalTo rm_X3_groupsItIsVitalTo (PrP (dC, dI) (wd_X3 h_life h_g g_width g_height g_size g_all g_notFirstColumn g_notLastColumn) (td_X3) [.ref h_life, .long a0, .long a1, .long a2]) (vp_Si (fun x => x = q)) 0 0 (fun _ => False) := by
  refine mkP_i (cc := cX3_groupsItIsVitalTo) (nL := 9) (by decide) rfl (Nat.le_of_ble_eq_true rfl) ?_
  intro p e R s m args below meth c H Q ls hRf hRl S hN hP hK hl kret
  have hl : lv_has ls 9 [(0, .ref h_life), (1, .long a0), (3, .long a1), (5, .long a2)] := hl
  obtain ⟨hx, hb, hml, hown, hts⟩ := S
  have hown : s.vm.findClass RX3 = some m.cls := hown
  have S : CallFix p m c cX3_groupsItIsVitalTo 9 s args wsX3_groupsItIsVitalTo RX3 := ⟨hx, hb, hml, hown, hts⟩
  have huX3 : ∀ w ∈ u_ws RX3 TX3 1, w ∈ wsX3_groupsItIsVitalTo := by decide +kernel
  have hf9 := hts (.fieldLink RX3 9 "EyeBoard$Life" "grid" "LEyeBoard$Grid;") (by decide +kernel)
  have huX2 : ∀ w ∈ u_ws RX2 TX2 6, w ∈ wsX3_groupsItIsVitalTo := by decide +kernel
  have hf23 := hts (.fieldLink RX3 23 "EyeBoard$Grid" "size" "I") (by decide +kernel)
  unfold f_X3_groupsItIsVitalTo at hr
  refine lv_iconst (v := (0 : Int32)) hx hb dX3_groupsItIsVitalTo_0 (by decide) ?_
  refine lv_istore (lv' := [(7, .int (0 : Int32)), (0, .ref h_life), (1, .long a0), (3, .long a1), (5, .long a2)]) hx hb dX3_groupsItIsVitalTo_1 hl (by decide) rfl (fun ls hl => ?_)
  refine lv_iconst (v := (0 : Int32)) hx hb dX3_groupsItIsVitalTo_3 (by decide) ?_
  refine lv_istore (lv' := [(8, .int (0 : Int32)), (7, .int (0 : Int32)), (0, .ref h_life), (1, .long a0), (3, .long a1), (5, .long a2)]) hx hb dX3_groupsItIsVitalTo_4 hl (by decide) rfl (fun ls hl => ?_)
  have llp_X3_groupsItIsVitalTo_6 : ∀ (nF : Nat) (v1 : Int32) (v2 : Int32) , lp_X3_groupsItIsVitalTo_6 g_width g_size g_all g_notFirstColumn g_notLastColumn a0 a1 a2 nF v1 v2 = some q → ∀ (ls : Array Slot), lv_has ls 9 [(0, .ref h_life), (1, .long a0), (3, .long a1), (5, .long a2), (7, .int v1), (8, .int v2)] → W p l e R s m args below meth c H [] 0 0 Q (F0 m 6 ls []) := by
    intro nF
    induction nF with
    | zero => intro v1 v2 hr; exact absurd hr (by simp [lp_X3_groupsItIsVitalTo_6])
    | succ nF ih =>
      intro v1 v2 hr ls hl
      rw [lp_X3_groupsItIsVitalTo_6] at hr
      refine lv_iload hx hb dX3_groupsItIsVitalTo_6 (lv_at hl 5 rfl) ?_
      refine lv_aload_n hx hb dX3_groupsItIsVitalTo_8 rfl (lv_at hl 0 rfl) ?_
      refine va_get (D := (dC, dI)) (ci := 3) (v := .ref h_g) (C := RX3) (T := TX3) (N := 1) hx hb hts huX3 hown hK hP 0 rfl rfl 0 (by decide) hf9 (fun _ h9 => h9) rfl dX3_groupsItIsVitalTo_9 ?_
      refine va_get (D := (dC, dI)) (ci := 2) (v := .int g_size) (C := RX2) (T := TX2) (N := 6) hx hb hts huX2 hown hK hP 1 rfl rfl 2 (by decide) hf23 (fun _ h9 => h9) rfl dX3_groupsItIsVitalTo_12 ?_
      refine lv_icmp_ge (tgt := 54) hx hb dX3_groupsItIsVitalTo_15 (by decide) (fun c3 => ?_) (fun c3 => ?_)
      · have hr := ite_p hr c3
        refine lv_iload hx hb dX3_groupsItIsVitalTo_54 (lv_at hl 4 rfl) ?_
        obtain rfl := Option.some.inj hr
        exact kret _ _ dX3_groupsItIsVitalTo_56
      · have hr := ite_n hr c3
        refine lv_iload hx hb dX3_groupsItIsVitalTo_18 (lv_at hl 4 rfl) ?_
        refine lv_aload_n hx hb dX3_groupsItIsVitalTo_20 rfl (lv_at hl 0 rfl) ?_
        refine lv_lload_n hx hb dX3_groupsItIsVitalTo_21 rfl (lv_at hl 1 rfl) ?_
        refine lv_aload_n hx hb dX3_groupsItIsVitalTo_22 rfl (lv_at hl 0 rfl) ?_
        refine va_get (D := (dC, dI)) (ci := 3) (v := .ref h_g) (C := RX3) (T := TX3) (N := 1) hx hb hts huX3 hown hK hP 0 rfl rfl 0 (by decide) hf9 (fun _ h9 => h9) rfl dX3_groupsItIsVitalTo_23 ?_
        refine lv_lload_n hx hb dX3_groupsItIsVitalTo_26 rfl (lv_at hl 2 rfl) ?_
        refine lv_iload hx hb dX3_groupsItIsVitalTo_27 (lv_at hl 5 rfl) ?_
        obtain ⟨q4, hq4, hr⟩ := bd_use hr
        refine pcV_l (As := [.long a1, .int v2]) (rest := [.long a0, .ref h_life, .int v1]) S (c_X2_partFrom l dC dI h_g g_width g_height g_size g_all g_notFirstColumn g_notLastColumn a1 v2 q4 hq4) (cwV 2 hts gX3_groupsItIsVitalTo_X2_partFrom rfl rfl rfl (by decide +kernel) ⟨Nat.le_trans (m := rm_X3_groupsItIsVitalTo.frames) (by decide) hRf, Nat.le_trans (m := rm_X3_groupsItIsVitalTo.locals) (by decide) hRl⟩) hN hP hK ⟨Nat.zero_le _, Nat.zero_le _⟩ [1] rfl [] rfl 1 2 rfl rfl rfl hl.1 rfl (Nat.le_of_ble_eq_true rfl) dX3_groupsItIsVitalTo_29 ?_
        refine lv_lload hx hb dX3_groupsItIsVitalTo_32 (lv_at hl 3 rfl) ?_
        obtain ⟨q5, hq5, hr⟩ := bd_use hr
        refine pcV_i (As := [.long a0, .long q4, .long a2]) (rest := [.int v1]) S (c_X3_isVital l dC dI h_life h_g g_width g_height g_size g_all g_notFirstColumn g_notLastColumn a0 q4 a2 q5 hq5) (cwV 3 hts gX3_groupsItIsVitalTo_X3_isVital rfl rfl rfl (by decide +kernel) ⟨Nat.le_trans (m := rm_X3_groupsItIsVitalTo.frames) (by decide) hRf, Nat.le_trans (m := rm_X3_groupsItIsVitalTo.locals) (by decide) hRl⟩) hN hP hK ⟨Nat.zero_le _, Nat.zero_le _⟩ [0, 1] rfl [] rfl 0 3 rfl rfl rfl hl.1 rfl (Nat.le_of_ble_eq_true rfl) dX3_groupsItIsVitalTo_34 ?_
        refine lv_if_eq (tgt := 44) hx hb dX3_groupsItIsVitalTo_37 (by decide) (fun c6 => ?_) (fun c6 => ?_)
        · have hr := ite_p hr c6
          refine lv_iconst (v := (0 : Int32)) hx hb dX3_groupsItIsVitalTo_44 (by decide) ?_
          refine lv_iadd hx hb dX3_groupsItIsVitalTo_45 ?_
          refine lv_topi (fun x7 ex7 => ?_)
          have hr := nm_use hr ex7
          refine lv_istore (lv' := [(7, .int x7), (0, .ref h_life), (1, .long a0), (3, .long a1), (5, .long a2), (8, .int v2)]) hx hb dX3_groupsItIsVitalTo_46 hl (by decide) rfl (fun ls hl => ?_)
          obtain ⟨x8, ex8, hr⟩ := nm_ex hr
          refine lv_iinc (v := x8) (lv' := [(8, .int x8), (7, .int x7), (0, .ref h_life), (1, .long a0), (3, .long a1), (5, .long a2)]) hx hb dX3_groupsItIsVitalTo_48 hl (k := 5) rfl (by rw [ex8]; rfl) (by decide) rfl (fun ls hl => ?_)
          refine lv_goto (tgt := 6) hx hb dX3_groupsItIsVitalTo_51 (by decide) ?_
          exact ih x7 x8 hr ls (lv_sub hl [2, 3, 4, 5, 1, 0] rfl)
        · have hr := ite_n hr c6
          refine lv_iconst (v := (1 : Int32)) hx hb dX3_groupsItIsVitalTo_40 (by decide) ?_
          refine lv_goto (tgt := 45) hx hb dX3_groupsItIsVitalTo_41 (by decide) ?_
          refine lv_iadd hx hb dX3_groupsItIsVitalTo_45 ?_
          refine lv_topi (fun x9 ex9 => ?_)
          have hr := nm_use hr ex9
          refine lv_istore (lv' := [(7, .int x9), (0, .ref h_life), (1, .long a0), (3, .long a1), (5, .long a2), (8, .int v2)]) hx hb dX3_groupsItIsVitalTo_46 hl (by decide) rfl (fun ls hl => ?_)
          obtain ⟨x10, ex10, hr⟩ := nm_ex hr
          refine lv_iinc (v := x10) (lv' := [(8, .int x10), (7, .int x9), (0, .ref h_life), (1, .long a0), (3, .long a1), (5, .long a2)]) hx hb dX3_groupsItIsVitalTo_48 hl (k := 5) rfl (by rw [ex10]; rfl) (by decide) rfl (fun ls hl => ?_)
          refine lv_goto (tgt := 6) hx hb dX3_groupsItIsVitalTo_51 (by decide) ?_
          exact ih x9 x10 hr ls (lv_sub hl [2, 3, 4, 5, 1, 0] rfl)
  exact llp_X3_groupsItIsVitalTo_6 FU (0 : Int32) (0 : Int32) hr ls (lv_sub hl [2, 3, 4, 5, 1, 0] rfl)

def lp_X3_groupsWithoutTwo_6 (g_width : Int32) (g_size : Int32) (g_all : Int64) (g_notFirstColumn : Int64) (g_notLastColumn : Int64) (a0 : Int64) (a1 : Int64) (a2 : Int64) : Nat → Int64 → Int32 → Option (Int64)
  | 0, _, _ => none
  | nF + 1, v1, v2 =>
    if g_size ≤ v2 then (
      some (v1)
    )
    else (
      (f_X2_partFrom g_width g_all g_notFirstColumn g_notLastColumn a0 v2).bind fun q4 =>
      if q4 = (0 : Int64) then (
        nm (v2 + 1) fun x6 =>
        lp_X3_groupsWithoutTwo_6 g_width g_size g_all g_notFirstColumn g_notLastColumn a0 a1 a2 nF v1 x6
      )
      else (
        (f_X3_vitalRegions g_width g_size g_all g_notFirstColumn g_notLastColumn q4 a1 a2).bind fun q7 =>
        if (2 : Int32) ≤ q7 then (
          nm (v2 + 1) fun x9 =>
          lp_X3_groupsWithoutTwo_6 g_width g_size g_all g_notFirstColumn g_notLastColumn a0 a1 a2 nF v1 x9
        )
        else (
          nm (v1 ||| q4) fun x10 =>
          nm (v2 + 1) fun x11 =>
          lp_X3_groupsWithoutTwo_6 g_width g_size g_all g_notFirstColumn g_notLastColumn a0 a1 a2 nF x10 x11
        )
      )
    )

def f_X3_groupsWithoutTwo (g_width : Int32) (g_size : Int32) (g_all : Int64) (g_notFirstColumn : Int64) (g_notLastColumn : Int64) (a0 : Int64) (a1 : Int64) (a2 : Int64) : Option (Int64) :=
  lp_X3_groupsWithoutTwo_6 g_width g_size g_all g_notFirstColumn g_notLastColumn a0 a1 a2 FU (0 : Int64) (0 : Int32)

abbrev rm_X3_groupsWithoutTwo : Room := { frames := 4, cells := 0, slots := 0, locals := 110 }
set_option maxHeartbeats 4000000 in
set_option maxRecDepth 100000 in
theorem c_X3_groupsWithoutTwo (l : Launch) (dC : Nat → ClassId) (dI : Nat → Nat → Nat) (h_life h_g : Nat) (g_width g_height g_size : Int32) (g_all g_notFirstColumn g_notLastColumn : Int64) (a0 : Int64) (a1 : Int64) (a2 : Int64) (q : Int64) (hr : f_X3_groupsWithoutTwo g_width g_size g_all g_notFirstColumn g_notLastColumn a0 a1 a2 = some q) : Met l yX3_groupsWithoutTwo wsX3_groupsWithoutTwo rm_X3_groupsWithoutTwo (PrP (dC, dI) (wd_X3 h_life h_g g_width g_height g_size g_all g_notFirstColumn g_notLastColumn) (td_X3) [.ref h_life, .long a0, .long a1, .long a2]) (vp_Sl (fun x => x = q)) 0 0 (fun _ => False) := by
  refine mkP_l (cc := cX3_groupsWithoutTwo) (nL := 12) (by decide) rfl (Nat.le_of_ble_eq_true rfl) ?_
  intro p e R s m args below meth c H Q ls hRf hRl S hN hP hK hl kret
  have hl : lv_has ls 12 [(0, .ref h_life), (1, .long a0), (3, .long a1), (5, .long a2)] := hl
  obtain ⟨hx, hb, hml, hown, hts⟩ := S
  have hown : s.vm.findClass RX3 = some m.cls := hown
  have S : CallFix p m c cX3_groupsWithoutTwo 12 s args wsX3_groupsWithoutTwo RX3 := ⟨hx, hb, hml, hown, hts⟩
  have huX3 : ∀ w ∈ u_ws RX3 TX3 1, w ∈ wsX3_groupsWithoutTwo := by decide +kernel
  have hf9 := hts (.fieldLink RX3 9 "EyeBoard$Life" "grid" "LEyeBoard$Grid;") (by decide +kernel)
  have huX2 : ∀ w ∈ u_ws RX2 TX2 6, w ∈ wsX3_groupsWithoutTwo := by decide +kernel
  have hf23 := hts (.fieldLink RX3 23 "EyeBoard$Grid" "size" "I") (by decide +kernel)
  unfold f_X3_groupsWithoutTwo at hr
  refine lv_lconst (v := (0 : Int64)) hx hb dX3_groupsWithoutTwo_0 (by decide) ?_
  refine lv_lstore (lv' := [(7, .long (0 : Int64)), (0, .ref h_life), (1, .long a0), (3, .long a1), (5, .long a2)]) hx hb dX3_groupsWithoutTwo_1 hl (by decide) rfl (fun ls hl => ?_)
  refine lv_iconst (v := (0 : Int32)) hx hb dX3_groupsWithoutTwo_3 (by decide) ?_
  refine lv_istore (lv' := [(9, .int (0 : Int32)), (7, .long (0 : Int64)), (0, .ref h_life), (1, .long a0), (3, .long a1), (5, .long a2)]) hx hb dX3_groupsWithoutTwo_4 hl (by decide) rfl (fun ls hl => ?_)
  have llp_X3_groupsWithoutTwo_6 : ∀ (nF : Nat) (v1 : Int64) (v2 : Int32) , lp_X3_groupsWithoutTwo_6 g_width g_size g_all g_notFirstColumn g_notLastColumn a0 a1 a2 nF v1 v2 = some q → ∀ (ls : Array Slot), lv_has ls 12 [(0, .ref h_life), (1, .long a0), (3, .long a1), (5, .long a2), (7, .long v1), (9, .int v2)] → W p l e R s m args below meth c H [] 0 0 Q (F0 m 6 ls []) := by
    intro nF
    induction nF with
    | zero => intro v1 v2 hr; exact absurd hr (by simp [lp_X3_groupsWithoutTwo_6])
    | succ nF ih =>
      intro v1 v2 hr ls hl
      rw [lp_X3_groupsWithoutTwo_6] at hr
      refine lv_iload hx hb dX3_groupsWithoutTwo_6 (lv_at hl 5 rfl) ?_
      refine lv_aload_n hx hb dX3_groupsWithoutTwo_8 rfl (lv_at hl 0 rfl) ?_
      refine va_get (D := (dC, dI)) (ci := 3) (v := .ref h_g) (C := RX3) (T := TX3) (N := 1) hx hb hts huX3 hown hK hP 0 rfl rfl 0 (by decide) hf9 (fun _ h9 => h9) rfl dX3_groupsWithoutTwo_9 ?_
      refine va_get (D := (dC, dI)) (ci := 2) (v := .int g_size) (C := RX2) (T := TX2) (N := 6) hx hb hts huX2 hown hK hP 1 rfl rfl 2 (by decide) hf23 (fun _ h9 => h9) rfl dX3_groupsWithoutTwo_12 ?_
      refine lv_icmp_ge (tgt := 63) hx hb dX3_groupsWithoutTwo_15 (by decide) (fun c3 => ?_) (fun c3 => ?_)
      · have hr := ite_p hr c3
        refine lv_lload hx hb dX3_groupsWithoutTwo_63 (lv_at hl 4 rfl) ?_
        obtain rfl := Option.some.inj hr
        exact kret _ _ dX3_groupsWithoutTwo_65
      · have hr := ite_n hr c3
        refine lv_aload_n hx hb dX3_groupsWithoutTwo_18 rfl (lv_at hl 0 rfl) ?_
        refine va_get (D := (dC, dI)) (ci := 3) (v := .ref h_g) (C := RX3) (T := TX3) (N := 1) hx hb hts huX3 hown hK hP 0 rfl rfl 0 (by decide) hf9 (fun _ h9 => h9) rfl dX3_groupsWithoutTwo_19 ?_
        refine lv_lload_n hx hb dX3_groupsWithoutTwo_22 rfl (lv_at hl 1 rfl) ?_
        refine lv_iload hx hb dX3_groupsWithoutTwo_23 (lv_at hl 5 rfl) ?_
        obtain ⟨q4, hq4, hr⟩ := bd_use hr
        refine pcV_l (As := [.long a0, .int v2]) (rest := []) S (c_X2_partFrom l dC dI h_g g_width g_height g_size g_all g_notFirstColumn g_notLastColumn a0 v2 q4 hq4) (cwV 2 hts gX3_groupsWithoutTwo_X2_partFrom rfl rfl rfl (by decide +kernel) ⟨Nat.le_trans (m := rm_X3_groupsWithoutTwo.frames) (by decide) hRf, Nat.le_trans (m := rm_X3_groupsWithoutTwo.locals) (by decide) hRl⟩) hN hP hK ⟨Nat.zero_le _, Nat.zero_le _⟩ [1] rfl [] rfl 1 2 rfl rfl rfl hl.1 rfl (Nat.le_of_ble_eq_true rfl) dX3_groupsWithoutTwo_25 ?_
        refine lv_lstore (lv' := [(10, .long q4), (0, .ref h_life), (1, .long a0), (3, .long a1), (5, .long a2), (7, .long v1), (9, .int v2)]) hx hb dX3_groupsWithoutTwo_28 hl (by decide) rfl (fun ls hl => ?_)
        refine lv_lload hx hb dX3_groupsWithoutTwo_30 (lv_at hl 0 rfl) ?_
        refine lv_lconst (v := (0 : Int64)) hx hb dX3_groupsWithoutTwo_32 (by decide) ?_
        refine W.lcmp hx hb dX3_groupsWithoutTwo_33 ?_
        refine lv_if_eq (tgt := 57) hx hb dX3_groupsWithoutTwo_34 (by decide) (fun c5 => ?_) (fun c5 => ?_)
        · have c5 := cmp_t c5
          have hr := ite_p hr c5
          obtain ⟨x6, ex6, hr⟩ := nm_ex hr
          refine lv_iinc (v := x6) (lv' := [(9, .int x6), (10, .long q4), (0, .ref h_life), (1, .long a0), (3, .long a1), (5, .long a2), (7, .long v1)]) hx hb dX3_groupsWithoutTwo_57 hl (k := 6) rfl (by rw [ex6]; rfl) (by decide) rfl (fun ls hl => ?_)
          refine lv_goto (tgt := 6) hx hb dX3_groupsWithoutTwo_60 (by decide) ?_
          exact ih v1 x6 hr ls (lv_sub hl [2, 3, 4, 5, 6, 0] rfl)
        · have c5 := cmp_f c5
          have hr := ite_n hr c5
          refine lv_aload_n hx hb dX3_groupsWithoutTwo_37 rfl (lv_at hl 1 rfl) ?_
          refine lv_lload hx hb dX3_groupsWithoutTwo_38 (lv_at hl 0 rfl) ?_
          refine lv_lload_n hx hb dX3_groupsWithoutTwo_40 rfl (lv_at hl 3 rfl) ?_
          refine lv_lload hx hb dX3_groupsWithoutTwo_41 (lv_at hl 4 rfl) ?_
          obtain ⟨q7, hq7, hr⟩ := bd_use hr
          refine pcV_i (As := [.long q4, .long a1, .long a2]) (rest := []) S (c_X3_vitalRegions l dC dI h_life h_g g_width g_height g_size g_all g_notFirstColumn g_notLastColumn q4 a1 a2 q7 hq7) (cwV 3 hts gX3_groupsWithoutTwo_X3_vitalRegions rfl rfl rfl (by decide +kernel) ⟨Nat.le_trans (m := rm_X3_groupsWithoutTwo.frames) (by decide) hRf, Nat.le_trans (m := rm_X3_groupsWithoutTwo.locals) (by decide) hRl⟩) hN hP hK ⟨Nat.zero_le _, Nat.zero_le _⟩ [0, 1] rfl [] rfl 0 3 rfl rfl rfl hl.1 rfl (Nat.le_of_ble_eq_true rfl) dX3_groupsWithoutTwo_43 ?_
          refine lv_iconst (v := (2 : Int32)) hx hb dX3_groupsWithoutTwo_46 (by decide) ?_
          refine lv_icmp_ge (tgt := 57) hx hb dX3_groupsWithoutTwo_47 (by decide) (fun c8 => ?_) (fun c8 => ?_)
          · have hr := ite_p hr c8
            obtain ⟨x9, ex9, hr⟩ := nm_ex hr
            refine lv_iinc (v := x9) (lv' := [(9, .int x9), (10, .long q4), (0, .ref h_life), (1, .long a0), (3, .long a1), (5, .long a2), (7, .long v1)]) hx hb dX3_groupsWithoutTwo_57 hl (k := 6) rfl (by rw [ex9]; rfl) (by decide) rfl (fun ls hl => ?_)
            refine lv_goto (tgt := 6) hx hb dX3_groupsWithoutTwo_60 (by decide) ?_
            exact ih v1 x9 hr ls (lv_sub hl [2, 3, 4, 5, 6, 0] rfl)
          · have hr := ite_n hr c8
            refine lv_lload hx hb dX3_groupsWithoutTwo_50 (lv_at hl 5 rfl) ?_
            refine lv_lload hx hb dX3_groupsWithoutTwo_52 (lv_at hl 0 rfl) ?_
            refine lv_lor hx hb dX3_groupsWithoutTwo_54 ?_
            refine lv_topl (fun x10 ex10 => ?_)
            have hr := nm_use hr ex10
            refine lv_lstore (lv' := [(7, .long x10), (10, .long q4), (0, .ref h_life), (1, .long a0), (3, .long a1), (5, .long a2), (9, .int v2)]) hx hb dX3_groupsWithoutTwo_55 hl (by decide) rfl (fun ls hl => ?_)
            obtain ⟨x11, ex11, hr⟩ := nm_ex hr
            refine lv_iinc (v := x11) (lv' := [(9, .int x11), (7, .long x10), (10, .long q4), (0, .ref h_life), (1, .long a0), (3, .long a1), (5, .long a2)]) hx hb dX3_groupsWithoutTwo_57 hl (k := 6) rfl (by rw [ex11]; rfl) (by decide) rfl (fun ls hl => ?_)
            refine lv_goto (tgt := 6) hx hb dX3_groupsWithoutTwo_60 (by decide) ?_
            exact ih x10 x11 hr ls (lv_sub hl [3, 4, 5, 6, 1, 0] rfl)
  exact llp_X3_groupsWithoutTwo_6 FU (0 : Int64) (0 : Int32) hr ls (lv_sub hl [2, 3, 4, 5, 1, 0] rfl)

def lp_X3_standingStones_21 (g_width : Int32) (g_size : Int32) (g_all : Int64) (g_notFirstColumn : Int64) (g_notLastColumn : Int64) (a1 : Int64) : Nat → Int64 → Int64 → Int32 → Option (Int64)
  | 0, _, _, _ => none
  | nF + 1, v2, v3, v4 =>
    if (49 : Int32) ≤ v4 then (
      some (v2)
    )
    else (
      (f_X3_groupsWithoutTwo g_width g_size g_all g_notFirstColumn g_notLastColumn v2 v3 a1).bind fun q6 =>
      if q6 = (0 : Int64) then (
        some (v2)
      )
      else (
        nm (v2 &&& (q6 ^^^ (-1 : Int64))) fun x8 =>
        (f_X2_beside g_width g_all g_notFirstColumn g_notLastColumn q6).bind fun q9 =>
        (f_X2_spread g_width g_all g_notFirstColumn g_notLastColumn q9 v3).bind fun q10 =>
        nm (v3 &&& (q10 ^^^ (-1 : Int64))) fun x11 =>
        nm (v4 + 1) fun x12 =>
        lp_X3_standingStones_21 g_width g_size g_all g_notFirstColumn g_notLastColumn a1 nF x8 x11 x12
      )
    )

def f_X3_standingStones (g_width : Int32) (g_size : Int32) (g_all : Int64) (g_notFirstColumn : Int64) (g_notLastColumn : Int64) (a0 : Int64) (a1 : Int64) : Option (Int64) :=
  nm (g_all &&& (a0 ^^^ (-1 : Int64))) fun x1 =>
  lp_X3_standingStones_21 g_width g_size g_all g_notFirstColumn g_notLastColumn a1 FU a0 x1 (0 : Int32)

abbrev rm_X3_standingStones : Room := { frames := 5, cells := 0, slots := 0, locals := 141 }
set_option maxHeartbeats 4000000 in
set_option maxRecDepth 100000 in
theorem c_X3_standingStones (l : Launch) (dC : Nat → ClassId) (dI : Nat → Nat → Nat) (h_life h_g : Nat) (g_width g_height g_size : Int32) (g_all g_notFirstColumn g_notLastColumn : Int64) (a0 : Int64) (a1 : Int64) (q : Int64) (hr : f_X3_standingStones g_width g_size g_all g_notFirstColumn g_notLastColumn a0 a1 = some q) : Met l yX3_standingStones wsX3_standingStones rm_X3_standingStones (PrP (dC, dI) (wd_X3 h_life h_g g_width g_height g_size g_all g_notFirstColumn g_notLastColumn) (td_X3) [.ref h_life, .long a0, .long a1]) (vp_Sl (fun x => x = q)) 0 0 (fun _ => False) := by
  refine mkP_l (cc := cX3_standingStones) (nL := 12) (by decide) rfl (Nat.le_of_ble_eq_true rfl) ?_
  intro p e R s m args below meth c H Q ls hRf hRl S hN hP hK hl kret
  have hl : lv_has ls 12 [(0, .ref h_life), (1, .long a0), (3, .long a1)] := hl
  obtain ⟨hx, hb, hml, hown, hts⟩ := S
  have hown : s.vm.findClass RX3 = some m.cls := hown
  have S : CallFix p m c cX3_standingStones 12 s args wsX3_standingStones RX3 := ⟨hx, hb, hml, hown, hts⟩
  have huX3 : ∀ w ∈ u_ws RX3 TX3 1, w ∈ wsX3_standingStones := by decide +kernel
  have hf9 := hts (.fieldLink RX3 9 "EyeBoard$Life" "grid" "LEyeBoard$Grid;") (by decide +kernel)
  have huX2 : ∀ w ∈ u_ws RX2 TX2 6, w ∈ wsX3_standingStones := by decide +kernel
  have hf35 := hts (.fieldLink RX3 35 "EyeBoard$Grid" "all" "J") (by decide +kernel)
  have hk21 := hts (.constantLong RX3 21 (-1 : Int64)) (by decide +kernel)
  unfold f_X3_standingStones at hr
  refine lv_lload_n hx hb dX3_standingStones_0 rfl (lv_at hl 1 rfl) ?_
  refine lv_lstore (lv' := [(5, .long a0), (0, .ref h_life), (1, .long a0), (3, .long a1)]) hx hb dX3_standingStones_1 hl (by decide) rfl (fun ls hl => ?_)
  refine lv_aload_n hx hb dX3_standingStones_3 rfl (lv_at hl 1 rfl) ?_
  refine va_get (D := (dC, dI)) (ci := 3) (v := .ref h_g) (C := RX3) (T := TX3) (N := 1) hx hb hts huX3 hown hK hP 0 rfl rfl 0 (by decide) hf9 (fun _ h9 => h9) rfl dX3_standingStones_4 ?_
  refine va_get (D := (dC, dI)) (ci := 2) (v := .long g_all) (C := RX2) (T := TX2) (N := 6) hx hb hts huX2 hown hK hP 1 rfl rfl 3 (by decide) hf35 (fun _ h9 => h9) rfl dX3_standingStones_7 ?_
  refine lv_lload_n hx hb dX3_standingStones_10 rfl (lv_at hl 2 rfl) ?_
  refine W.ldc2 (v := (-1 : Int64)) hx hb hown hk21 rfl dX3_standingStones_11 ?_
  refine W.eq (g2 := F0 m 14 ls [.long (-1 : Int64), .long a0, .long g_all]) rfl ?_
  refine lv_lxor hx hb dX3_standingStones_14 ?_
  refine lv_land hx hb dX3_standingStones_15 ?_
  refine lv_topl (fun x1 ex1 => ?_)
  have hr := nm_use hr ex1
  refine lv_lstore (lv' := [(7, .long x1), (5, .long a0), (0, .ref h_life), (1, .long a0), (3, .long a1)]) hx hb dX3_standingStones_16 hl (by decide) rfl (fun ls hl => ?_)
  refine lv_iconst (v := (0 : Int32)) hx hb dX3_standingStones_18 (by decide) ?_
  refine lv_istore (lv' := [(9, .int (0 : Int32)), (7, .long x1), (5, .long a0), (0, .ref h_life), (1, .long a0), (3, .long a1)]) hx hb dX3_standingStones_19 hl (by decide) rfl (fun ls hl => ?_)
  have llp_X3_standingStones_21 : ∀ (nF : Nat) (v2 : Int64) (v3 : Int64) (v4 : Int32) , lp_X3_standingStones_21 g_width g_size g_all g_notFirstColumn g_notLastColumn a1 nF v2 v3 v4 = some q → ∀ (ls : Array Slot), lv_has ls 12 [(0, .ref h_life), (3, .long a1), (5, .long v2), (7, .long v3), (9, .int v4)] → W p l e R s m args below meth c H [] 0 0 Q (F0 m 21 ls []) := by
    intro nF
    induction nF with
    | zero => intro v2 v3 v4 hr; exact absurd hr (by simp [lp_X3_standingStones_21])
    | succ nF ih =>
      intro v2 v3 v4 hr ls hl
      rw [lp_X3_standingStones_21] at hr
      refine lv_iload hx hb dX3_standingStones_21 (lv_at hl 4 rfl) ?_
      refine lv_bipush (v := (49 : Int32)) hx hb dX3_standingStones_23 (by decide) ?_
      refine lv_icmp_ge (tgt := 93) hx hb dX3_standingStones_25 (by decide) (fun c5 => ?_) (fun c5 => ?_)
      · have hr := ite_p hr c5
        refine lv_lload hx hb dX3_standingStones_93 (lv_at hl 2 rfl) ?_
        obtain rfl := Option.some.inj hr
        exact kret _ _ dX3_standingStones_95
      · have hr := ite_n hr c5
        refine lv_aload_n hx hb dX3_standingStones_28 rfl (lv_at hl 0 rfl) ?_
        refine lv_lload hx hb dX3_standingStones_29 (lv_at hl 2 rfl) ?_
        refine lv_lload hx hb dX3_standingStones_31 (lv_at hl 3 rfl) ?_
        refine lv_lload_n hx hb dX3_standingStones_33 rfl (lv_at hl 1 rfl) ?_
        obtain ⟨q6, hq6, hr⟩ := bd_use hr
        refine pcV_l (As := [.long v2, .long v3, .long a1]) (rest := []) S (c_X3_groupsWithoutTwo l dC dI h_life h_g g_width g_height g_size g_all g_notFirstColumn g_notLastColumn v2 v3 a1 q6 hq6) (cwV 3 hts gX3_standingStones_X3_groupsWithoutTwo rfl rfl rfl (by decide +kernel) ⟨Nat.le_trans (m := rm_X3_standingStones.frames) (by decide) hRf, Nat.le_trans (m := rm_X3_standingStones.locals) (by decide) hRl⟩) hN hP hK ⟨Nat.zero_le _, Nat.zero_le _⟩ [0, 1] rfl [] rfl 0 3 rfl rfl rfl hl.1 rfl (Nat.le_of_ble_eq_true rfl) dX3_standingStones_34 ?_
        refine lv_lstore (lv' := [(10, .long q6), (0, .ref h_life), (3, .long a1), (5, .long v2), (7, .long v3), (9, .int v4)]) hx hb dX3_standingStones_37 hl (by decide) rfl (fun ls hl => ?_)
        refine lv_lload hx hb dX3_standingStones_39 (lv_at hl 0 rfl) ?_
        refine lv_lconst (v := (0 : Int64)) hx hb dX3_standingStones_41 (by decide) ?_
        refine W.lcmp hx hb dX3_standingStones_42 ?_
        refine lv_if_ne (tgt := 49) hx hb dX3_standingStones_43 (by decide) (fun c7 => ?_) (fun c7 => ?_)
        · have c7 := cmp_f c7
          have hr := ite_n hr c7
          refine lv_lload hx hb dX3_standingStones_49 (lv_at hl 3 rfl) ?_
          refine lv_lload hx hb dX3_standingStones_51 (lv_at hl 0 rfl) ?_
          refine W.ldc2 (v := (-1 : Int64)) hx hb hown hk21 rfl dX3_standingStones_53 ?_
          refine W.eq (g2 := F0 m 56 ls [.long (-1 : Int64), .long q6, .long v2]) rfl ?_
          refine lv_lxor hx hb dX3_standingStones_56 ?_
          refine lv_land hx hb dX3_standingStones_57 ?_
          refine lv_topl (fun x8 ex8 => ?_)
          have hr := nm_use hr ex8
          refine lv_lstore (lv' := [(5, .long x8), (10, .long q6), (0, .ref h_life), (3, .long a1), (7, .long v3), (9, .int v4)]) hx hb dX3_standingStones_58 hl (by decide) rfl (fun ls hl => ?_)
          refine lv_lload hx hb dX3_standingStones_60 (lv_at hl 4 rfl) ?_
          refine lv_aload_n hx hb dX3_standingStones_62 rfl (lv_at hl 2 rfl) ?_
          refine va_get (D := (dC, dI)) (ci := 3) (v := .ref h_g) (C := RX3) (T := TX3) (N := 1) hx hb hts huX3 hown hK hP 0 rfl rfl 0 (by decide) hf9 (fun _ h9 => h9) rfl dX3_standingStones_63 ?_
          refine lv_aload_n hx hb dX3_standingStones_66 rfl (lv_at hl 2 rfl) ?_
          refine va_get (D := (dC, dI)) (ci := 3) (v := .ref h_g) (C := RX3) (T := TX3) (N := 1) hx hb hts huX3 hown hK hP 0 rfl rfl 0 (by decide) hf9 (fun _ h9 => h9) rfl dX3_standingStones_67 ?_
          refine lv_lload hx hb dX3_standingStones_70 (lv_at hl 1 rfl) ?_
          obtain ⟨q9, hq9, hr⟩ := bd_use hr
          refine pcV_l (As := [.long q6]) (rest := [.ref h_g, .long v3]) S (c_X2_beside l dC dI h_g g_width g_height g_size g_all g_notFirstColumn g_notLastColumn q6 q9 hq9) (cwV 1 hts gX3_standingStones_X2_beside rfl rfl rfl (by decide +kernel) ⟨Nat.le_trans (m := rm_X3_standingStones.frames) (by decide) hRf, Nat.le_trans (m := rm_X3_standingStones.locals) (by decide) hRl⟩) hN hP hK ⟨Nat.zero_le _, Nat.zero_le _⟩ [1] rfl [] rfl 1 2 rfl rfl rfl hl.1 rfl (Nat.le_of_ble_eq_true rfl) dX3_standingStones_72 ?_
          refine lv_lload hx hb dX3_standingStones_75 (lv_at hl 4 rfl) ?_
          obtain ⟨q10, hq10, hr⟩ := bd_use hr
          refine pcV_l (As := [.long q9, .long v3]) (rest := [.long v3]) S (c_X2_spread l dC dI h_g g_width g_height g_size g_all g_notFirstColumn g_notLastColumn q9 v3 q10 hq10) (cwV 2 hts gX3_standingStones_X2_spread rfl rfl rfl (by decide +kernel) ⟨Nat.le_trans (m := rm_X3_standingStones.frames) (by decide) hRf, Nat.le_trans (m := rm_X3_standingStones.locals) (by decide) hRl⟩) hN hP hK ⟨Nat.zero_le _, Nat.zero_le _⟩ [1] rfl [] rfl 1 2 rfl rfl rfl hl.1 rfl (Nat.le_of_ble_eq_true rfl) dX3_standingStones_77 ?_
          refine W.ldc2 (v := (-1 : Int64)) hx hb hown hk21 rfl dX3_standingStones_80 ?_
          refine W.eq (g2 := F0 m 83 ls [.long (-1 : Int64), .long q10, .long v3]) rfl ?_
          refine lv_lxor hx hb dX3_standingStones_83 ?_
          refine lv_land hx hb dX3_standingStones_84 ?_
          refine lv_topl (fun x11 ex11 => ?_)
          have hr := nm_use hr ex11
          refine lv_lstore (lv' := [(7, .long x11), (5, .long x8), (10, .long q6), (0, .ref h_life), (3, .long a1), (9, .int v4)]) hx hb dX3_standingStones_85 hl (by decide) rfl (fun ls hl => ?_)
          obtain ⟨x12, ex12, hr⟩ := nm_ex hr
          refine lv_iinc (v := x12) (lv' := [(9, .int x12), (7, .long x11), (5, .long x8), (10, .long q6), (0, .ref h_life), (3, .long a1)]) hx hb dX3_standingStones_87 hl (k := 5) rfl (by rw [ex12]; rfl) (by decide) rfl (fun ls hl => ?_)
          refine lv_goto (tgt := 21) hx hb dX3_standingStones_90 (by decide) ?_
          exact ih x8 x11 x12 hr ls (lv_sub hl [4, 5, 2, 1, 0] rfl)
        · have c7 := cmp_t c7
          have hr := ite_p hr c7
          refine lv_goto (tgt := 93) hx hb dX3_standingStones_46 (by decide) ?_
          refine lv_lload hx hb dX3_standingStones_93 (lv_at hl 3 rfl) ?_
          obtain rfl := Option.some.inj hr
          exact kret _ _ dX3_standingStones_95
  exact llp_X3_standingStones_21 FU a0 x1 (0 : Int32) hr ls (lv_sub hl [3, 5, 2, 1, 0] rfl)

