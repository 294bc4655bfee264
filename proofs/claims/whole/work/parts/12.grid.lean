def f_X6_isSide  (a0 : Int32) : Option (Int32) :=
  if a0 < (2 : Int32) then (
    some ((0 : Int32))
  )
  else (
    if (7 : Int32) < a0 then (
      some ((0 : Int32))
    )
    else (
      some ((1 : Int32))
    )
  )

abbrev rm_X6_isSide : Room := { frames := 0, cells := 0, slots := 0, locals := 0 }
set_option maxHeartbeats 4000000 in
set_option maxRecDepth 100000 in
theorem c_X6_isSide (l : Launch) (dC : Nat → ClassId) (dI : Nat → Nat → Nat)  (a0 : Int32) (q : Int32) (hr : f_X6_isSide  a0 = some q) : Met l yX6_isSide wsX6_isSide rm_X6_isSide (PrP (dC, dI) [] [] [.int a0]) (vp_Si (fun x => x = q)) 0 0 (fun _ => False) := by
  refine mkP_z (cc := cX6_isSide) (nL := 1) (by decide) rfl (Nat.le_of_ble_eq_true rfl) ?_
  intro p e R s m args below meth c H Q ls hRf hRl S hN hP hK hl kret
  have hl : lv_has ls 1 [(0, .int a0)] := hl
  obtain ⟨hx, hb, hml, hown, hts⟩ := S
  have hown : s.vm.findClass RX6 = some m.cls := hown
  have S : CallFix p m c cX6_isSide 1 s args wsX6_isSide RX6 := ⟨hx, hb, hml, hown, hts⟩
  unfold f_X6_isSide at hr
  refine lv_iload_n hx hb dX6_isSide_0 rfl (lv_at hl 0 rfl) ?_
  refine lv_iconst (v := (2 : Int32)) hx hb dX6_isSide_1 (by decide) ?_
  refine lv_icmp_lt (tgt := 15) hx hb dX6_isSide_2 (by decide) (fun c1 => ?_) (fun c1 => ?_)
  · have hr := ite_p hr c1
    refine lv_iconst (v := (0 : Int32)) hx hb dX6_isSide_15 (by decide) ?_
    obtain rfl := Option.some.inj hr
    exact kret _ _ dX6_isSide_16 nar_0
  · have hr := ite_n hr c1
    refine lv_iload_n hx hb dX6_isSide_5 rfl (lv_at hl 0 rfl) ?_
    refine lv_bipush (v := (7 : Int32)) hx hb dX6_isSide_6 (by decide) ?_
    refine lv_icmp_gt (tgt := 15) hx hb dX6_isSide_8 (by decide) (fun c2 => ?_) (fun c2 => ?_)
    · have hr := ite_p hr c2
      refine lv_iconst (v := (0 : Int32)) hx hb dX6_isSide_15 (by decide) ?_
      obtain rfl := Option.some.inj hr
      exact kret _ _ dX6_isSide_16 nar_0
    · have hr := ite_n hr c2
      refine lv_iconst (v := (1 : Int32)) hx hb dX6_isSide_11 (by decide) ?_
      refine lv_goto (tgt := 16) hx hb dX6_isSide_12 (by decide) ?_
      obtain rfl := Option.some.inj hr
      exact kret _ _ dX6_isSide_16 nar_1

def f_X6_isColour  (a0 : Int32) : Option (Int32) :=
  if a0 = (1 : Int32) then (
    some ((1 : Int32))
  )
  else (
    if a0 = (2 : Int32) then (
      some ((1 : Int32))
    )
    else (
      some ((0 : Int32))
    )
  )

abbrev rm_X6_isColour : Room := { frames := 0, cells := 0, slots := 0, locals := 0 }
set_option maxHeartbeats 4000000 in
set_option maxRecDepth 100000 in
theorem c_X6_isColour (l : Launch) (dC : Nat → ClassId) (dI : Nat → Nat → Nat)  (a0 : Int32) (q : Int32) (hr : f_X6_isColour  a0 = some q) : Met l yX6_isColour wsX6_isColour rm_X6_isColour (PrP (dC, dI) [] [] [.int a0]) (vp_Si (fun x => x = q)) 0 0 (fun _ => False) := by
  refine mkP_z (cc := cX6_isColour) (nL := 1) (by decide) rfl (Nat.le_of_ble_eq_true rfl) ?_
  intro p e R s m args below meth c H Q ls hRf hRl S hN hP hK hl kret
  have hl : lv_has ls 1 [(0, .int a0)] := hl
  obtain ⟨hx, hb, hml, hown, hts⟩ := S
  have hown : s.vm.findClass RX6 = some m.cls := hown
  have S : CallFix p m c cX6_isColour 1 s args wsX6_isColour RX6 := ⟨hx, hb, hml, hown, hts⟩
  unfold f_X6_isColour at hr
  refine lv_iload_n hx hb dX6_isColour_0 rfl (lv_at hl 0 rfl) ?_
  refine lv_iconst (v := (1 : Int32)) hx hb dX6_isColour_1 (by decide) ?_
  refine lv_icmp_eq (tgt := 10) hx hb dX6_isColour_2 (by decide) (fun c1 => ?_) (fun c1 => ?_)
  · have hr := ite_p hr c1
    refine lv_iconst (v := (1 : Int32)) hx hb dX6_isColour_10 (by decide) ?_
    refine lv_goto (tgt := 15) hx hb dX6_isColour_11 (by decide) ?_
    obtain rfl := Option.some.inj hr
    exact kret _ _ dX6_isColour_15 nar_1
  · have hr := ite_n hr c1
    refine lv_iload_n hx hb dX6_isColour_5 rfl (lv_at hl 0 rfl) ?_
    refine lv_iconst (v := (2 : Int32)) hx hb dX6_isColour_6 (by decide) ?_
    refine lv_icmp_ne (tgt := 14) hx hb dX6_isColour_7 (by decide) (fun c2 => ?_) (fun c2 => ?_)
    · have hr := ite_n hr c2
      refine lv_iconst (v := (0 : Int32)) hx hb dX6_isColour_14 (by decide) ?_
      obtain rfl := Option.some.inj hr
      exact kret _ _ dX6_isColour_15 nar_0
    · have hr := ite_p hr c2
      refine lv_iconst (v := (1 : Int32)) hx hb dX6_isColour_10 (by decide) ?_
      refine lv_goto (tgt := 15) hx hb dX6_isColour_11 (by decide) ?_
      obtain rfl := Option.some.inj hr
      exact kret _ _ dX6_isColour_15 nar_1

def f_X6_other  (a0 : Int32) : Option (Int32) :=
  some ((3 : Int32) - a0)

abbrev rm_X6_other : Room := { frames := 0, cells := 0, slots := 0, locals := 0 }
set_option maxHeartbeats 4000000 in
set_option maxRecDepth 100000 in
theorem c_X6_other (l : Launch) (dC : Nat → ClassId) (dI : Nat → Nat → Nat)  (a0 : Int32) (q : Int32) (hr : f_X6_other  a0 = some q) : Met l yX6_other wsX6_other rm_X6_other (PrP (dC, dI) [] [] [.int a0]) (vp_Si (fun x => x = q)) 0 0 (fun _ => False) := by
  refine mkP_i (cc := cX6_other) (nL := 1) (by decide) rfl (Nat.le_of_ble_eq_true rfl) ?_
  intro p e R s m args below meth c H Q ls hRf hRl S hN hP hK hl kret
  have hl : lv_has ls 1 [(0, .int a0)] := hl
  obtain ⟨hx, hb, hml, hown, hts⟩ := S
  have hown : s.vm.findClass RX6 = some m.cls := hown
  have S : CallFix p m c cX6_other 1 s args wsX6_other RX6 := ⟨hx, hb, hml, hown, hts⟩
  unfold f_X6_other at hr
  refine lv_iconst (v := (3 : Int32)) hx hb dX6_other_0 (by decide) ?_
  refine lv_iload_n hx hb dX6_other_1 rfl (lv_at hl 0 rfl) ?_
  refine lv_isub hx hb dX6_other_2 ?_
  obtain rfl := Option.some.inj hr
  exact kret _ _ dX6_other_3

def f_J13_bitCount_95d88  (a0 : Int64) : Option (Int32) :=
  nm (a0 - ((jushr a0 (1 : Int32)) &&& (6148914691236517205 : Int64))) fun x1 =>
  nm ((x1 &&& (3689348814741910323 : Int64)) + ((jushr x1 (2 : Int32)) &&& (3689348814741910323 : Int64))) fun x2 =>
  nm ((x2 + (jushr x2 (4 : Int32))) &&& (1085102592571150095 : Int64)) fun x3 =>
  nm (x3 + (jushr x3 (8 : Int32))) fun x4 =>
  nm (x4 + (jushr x4 (16 : Int32))) fun x5 =>
  nm (x5 + (jushr x5 (32 : Int32))) fun x6 =>
  some (x6.toInt32 &&& (127 : Int32))

abbrev rm_J13_bitCount_95d88 : Room := { frames := 0, cells := 0, slots := 0, locals := 0 }
set_option maxHeartbeats 4000000 in
set_option maxRecDepth 100000 in
theorem c_J13_bitCount_95d88 (l : Launch) (dC : Nat → ClassId) (dI : Nat → Nat → Nat)  (a0 : Int64) (q : Int32) (hr : f_J13_bitCount_95d88  a0 = some q) : Met l yJ13_bitCount_95d88 wsJ13_bitCount_95d88 rm_J13_bitCount_95d88 (PrP (dC, dI) [] [] [.long a0]) (vp_Si (fun x => x = q)) 0 0 (fun _ => False) := by
  refine mkP_i (cc := cJ13_bitCount_95d88) (nL := 2) (by decide) rfl (Nat.le_of_ble_eq_true rfl) ?_
  intro p e R s m args below meth c H Q ls hRf hRl S hN hP hK hl kret
  have hl : lv_has ls 2 [(0, .long a0)] := hl
  obtain ⟨hx, hb, hml, hown, hts⟩ := S
  have hown : s.vm.findClass RJ13 = some m.cls := hown
  have S : CallFix p m c cJ13_bitCount_95d88 2 s args wsJ13_bitCount_95d88 RJ13 := ⟨hx, hb, hml, hown, hts⟩
  have hk314 := hts (.constantLong RJ13 314 (6148914691236517205 : Int64)) (by decide +kernel)
  have hk316 := hts (.constantLong RJ13 316 (3689348814741910323 : Int64)) (by decide +kernel)
  have hk318 := hts (.constantLong RJ13 318 (1085102592571150095 : Int64)) (by decide +kernel)
  unfold f_J13_bitCount_95d88 at hr
  refine lv_lload_n hx hb dJ13_bitCount_95d88_0 rfl (lv_at hl 0 rfl) ?_
  refine lv_lload_n hx hb dJ13_bitCount_95d88_1 rfl (lv_at hl 0 rfl) ?_
  refine lv_iconst (v := (1 : Int32)) hx hb dJ13_bitCount_95d88_2 (by decide) ?_
  refine lv_lushr (v := jushr a0 (1 : Int32)) hx hb dJ13_bitCount_95d88_3 rfl ?_
  refine W.ldc2 (v := (6148914691236517205 : Int64)) hx hb hown hk314 rfl dJ13_bitCount_95d88_4 ?_
  refine W.eq (g2 := F0 m 7 ls [.long (6148914691236517205 : Int64), .long (jushr a0 (1 : Int32)), .long a0]) rfl ?_
  refine lv_land hx hb dJ13_bitCount_95d88_7 ?_
  refine lv_lsub hx hb dJ13_bitCount_95d88_8 ?_
  refine lv_topl (fun x1 ex1 => ?_)
  have hr := nm_use hr ex1
  refine lv_lstore_n (lv' := [(0, .long x1)]) hx hb dJ13_bitCount_95d88_9 rfl hl (by decide) rfl (fun ls hl => ?_)
  refine lv_lload_n hx hb dJ13_bitCount_95d88_10 rfl (lv_at hl 0 rfl) ?_
  refine W.ldc2 (v := (3689348814741910323 : Int64)) hx hb hown hk316 rfl dJ13_bitCount_95d88_11 ?_
  refine W.eq (g2 := F0 m 14 ls [.long (3689348814741910323 : Int64), .long x1]) rfl ?_
  refine lv_land hx hb dJ13_bitCount_95d88_14 ?_
  refine lv_lload_n hx hb dJ13_bitCount_95d88_15 rfl (lv_at hl 0 rfl) ?_
  refine lv_iconst (v := (2 : Int32)) hx hb dJ13_bitCount_95d88_16 (by decide) ?_
  refine lv_lushr (v := jushr x1 (2 : Int32)) hx hb dJ13_bitCount_95d88_17 rfl ?_
  refine W.ldc2 (v := (3689348814741910323 : Int64)) hx hb hown hk316 rfl dJ13_bitCount_95d88_18 ?_
  refine W.eq (g2 := F0 m 21 ls [.long (3689348814741910323 : Int64), .long (jushr x1 (2 : Int32)), .long (x1 &&& (3689348814741910323 : Int64))]) rfl ?_
  refine lv_land hx hb dJ13_bitCount_95d88_21 ?_
  refine lv_ladd hx hb dJ13_bitCount_95d88_22 ?_
  refine lv_topl (fun x2 ex2 => ?_)
  have hr := nm_use hr ex2
  refine lv_lstore_n (lv' := [(0, .long x2)]) hx hb dJ13_bitCount_95d88_23 rfl hl (by decide) rfl (fun ls hl => ?_)
  refine lv_lload_n hx hb dJ13_bitCount_95d88_24 rfl (lv_at hl 0 rfl) ?_
  refine lv_lload_n hx hb dJ13_bitCount_95d88_25 rfl (lv_at hl 0 rfl) ?_
  refine lv_iconst (v := (4 : Int32)) hx hb dJ13_bitCount_95d88_26 (by decide) ?_
  refine lv_lushr (v := jushr x2 (4 : Int32)) hx hb dJ13_bitCount_95d88_27 rfl ?_
  refine lv_ladd hx hb dJ13_bitCount_95d88_28 ?_
  refine W.ldc2 (v := (1085102592571150095 : Int64)) hx hb hown hk318 rfl dJ13_bitCount_95d88_29 ?_
  refine W.eq (g2 := F0 m 32 ls [.long (1085102592571150095 : Int64), .long (x2 + (jushr x2 (4 : Int32)))]) rfl ?_
  refine lv_land hx hb dJ13_bitCount_95d88_32 ?_
  refine lv_topl (fun x3 ex3 => ?_)
  have hr := nm_use hr ex3
  refine lv_lstore_n (lv' := [(0, .long x3)]) hx hb dJ13_bitCount_95d88_33 rfl hl (by decide) rfl (fun ls hl => ?_)
  refine lv_lload_n hx hb dJ13_bitCount_95d88_34 rfl (lv_at hl 0 rfl) ?_
  refine lv_lload_n hx hb dJ13_bitCount_95d88_35 rfl (lv_at hl 0 rfl) ?_
  refine lv_bipush (v := (8 : Int32)) hx hb dJ13_bitCount_95d88_36 (by decide) ?_
  refine lv_lushr (v := jushr x3 (8 : Int32)) hx hb dJ13_bitCount_95d88_38 rfl ?_
  refine lv_ladd hx hb dJ13_bitCount_95d88_39 ?_
  refine lv_topl (fun x4 ex4 => ?_)
  have hr := nm_use hr ex4
  refine lv_lstore_n (lv' := [(0, .long x4)]) hx hb dJ13_bitCount_95d88_40 rfl hl (by decide) rfl (fun ls hl => ?_)
  refine lv_lload_n hx hb dJ13_bitCount_95d88_41 rfl (lv_at hl 0 rfl) ?_
  refine lv_lload_n hx hb dJ13_bitCount_95d88_42 rfl (lv_at hl 0 rfl) ?_
  refine lv_bipush (v := (16 : Int32)) hx hb dJ13_bitCount_95d88_43 (by decide) ?_
  refine lv_lushr (v := jushr x4 (16 : Int32)) hx hb dJ13_bitCount_95d88_45 rfl ?_
  refine lv_ladd hx hb dJ13_bitCount_95d88_46 ?_
  refine lv_topl (fun x5 ex5 => ?_)
  have hr := nm_use hr ex5
  refine lv_lstore_n (lv' := [(0, .long x5)]) hx hb dJ13_bitCount_95d88_47 rfl hl (by decide) rfl (fun ls hl => ?_)
  refine lv_lload_n hx hb dJ13_bitCount_95d88_48 rfl (lv_at hl 0 rfl) ?_
  refine lv_lload_n hx hb dJ13_bitCount_95d88_49 rfl (lv_at hl 0 rfl) ?_
  refine lv_bipush (v := (32 : Int32)) hx hb dJ13_bitCount_95d88_50 (by decide) ?_
  refine lv_lushr (v := jushr x5 (32 : Int32)) hx hb dJ13_bitCount_95d88_52 rfl ?_
  refine lv_ladd hx hb dJ13_bitCount_95d88_53 ?_
  refine lv_topl (fun x6 ex6 => ?_)
  have hr := nm_use hr ex6
  refine lv_lstore_n (lv' := [(0, .long x6)]) hx hb dJ13_bitCount_95d88_54 rfl hl (by decide) rfl (fun ls hl => ?_)
  refine lv_lload_n hx hb dJ13_bitCount_95d88_55 rfl (lv_at hl 0 rfl) ?_
  refine lv_l2i hx hb dJ13_bitCount_95d88_56 rfl ?_
  refine lv_bipush (v := (127 : Int32)) hx hb dJ13_bitCount_95d88_57 (by decide) ?_
  refine lv_iand hx hb dJ13_bitCount_95d88_59 ?_
  obtain rfl := Option.some.inj hr
  exact kret _ _ dJ13_bitCount_95d88_60

def lp_X2_measure_34 (a0 : Int32) (a1 : Int32) (K4 : Int64 → Option (Int32 × Int32 × Int32 × Int64 × Int64 × Int64)) : Nat → Int64 → Int32 → Option (Int32 × Int32 × Int32 × Int64 × Int64 × Int64)
  | 0, _, _ => none
  | nF + 1, v7, v8 =>
    if a1 ≤ v8 then (
      K4 v7
    )
    else (
      nm (v7 ||| (jshl (1 : Int64) (v8 * a0))) fun x10 =>
      nm (v8 + 1) fun x11 =>
      lp_X2_measure_34 a0 a1 K4 nF x10 x11
    )

def f_X2_measure (g_width : Int32) (g_height : Int32) (g_size : Int32) (g_all : Int64) (g_notFirstColumn : Int64) (g_notLastColumn : Int64) (a0 : Int32) (a1 : Int32) : Option (Int32 × Int32 × Int32 × Int64 × Int64 × Int64) :=
  nm (a0 * a1) fun x1 =>
  nm ((jshl (1 : Int64) x1) - (1 : Int64)) fun x2 =>
  nm (fun (v3 : Int64) =>
  nm (x2 &&& (v3 ^^^ (-1 : Int64))) fun x5 =>
  nm (x2 &&& ((jshl v3 (a0 - (1 : Int32))) ^^^ (-1 : Int64))) fun x6 =>
  some (a0, a1, x1, x2, x5, x6)
  ) fun K4 =>
  lp_X2_measure_34 a0 a1 K4 FU (0 : Int64) (0 : Int32)

abbrev rm_X2_measure : Room := { frames := 0, cells := 0, slots := 0, locals := 0 }
set_option maxHeartbeats 4000000 in
set_option maxRecDepth 100000 in
theorem c_X2_measure (l : Launch) (dC : Nat → ClassId) (dI : Nat → Nat → Nat) (h_g : Nat) (g_width g_height g_size : Int32) (g_all g_notFirstColumn g_notLastColumn : Int64) (sz : Nat) (a0 : Int32) (a1 : Int32) (q : Int32 × Int32 × Int32 × Int64 × Int64 × Int64) (hr : f_X2_measure g_width g_height g_size g_all g_notFirstColumn g_notLastColumn a0 a1 = some q) : Met l yX2_measure wsX2_measure rm_X2_measure (PrI (dC, dI) (wd_X2 h_g g_width g_height g_size g_all g_notFirstColumn g_notLastColumn) (td_X2) sz [.ref h_g, .int a0, .int a1]) (QIv (dC, dI) (wd_X2 h_g g_width g_height g_size g_all g_notFirstColumn g_notLastColumn) (td_X2) sz (wd_X2 h_g q.1 q.2.1 q.2.2.1 q.2.2.2.1 q.2.2.2.2.1 q.2.2.2.2.2)) 0 0 (va_A (wd_X2 h_g g_width g_height g_size g_all g_notFirstColumn g_notLastColumn) sz) := by
  refine mkI_v (cc := cX2_measure) (nL := 6) (by decide) rfl (Nat.le_of_ble_eq_true rfl) ?_
  intro p e R s m args below meth c H0 H locs A Q ls hRf hRl S hN hP hK hD hA hS hl kret
  have hl : lv_has ls 6 [(0, .ref h_g), (1, .int a0), (2, .int a1)] := hl
  obtain ⟨hx, hb, hml, hown, hts⟩ := S
  have hown : s.vm.findClass RX2 = some m.cls := hown
  have S : CallFix p m c cX2_measure 6 s args wsX2_measure RX2 := ⟨hx, hb, hml, hown, hts⟩
  have huX2 : ∀ w ∈ u_ws RX2 TX2 6, w ∈ wsX2_measure := by decide +kernel
  have hf9 := hts (.fieldLink RX2 9 "EyeBoard$Grid" "width" "I") (by decide +kernel)
  have hf15 := hts (.fieldLink RX2 15 "EyeBoard$Grid" "height" "I") (by decide +kernel)
  have hf18 := hts (.fieldLink RX2 18 "EyeBoard$Grid" "size" "I") (by decide +kernel)
  have hf21 := hts (.fieldLink RX2 21 "EyeBoard$Grid" "all" "J") (by decide +kernel)
  have hk25 := hts (.constantLong RX2 25 (-1 : Int64)) (by decide +kernel)
  have hf27 := hts (.fieldLink RX2 27 "EyeBoard$Grid" "notFirstColumn" "J") (by decide +kernel)
  have hf30 := hts (.fieldLink RX2 30 "EyeBoard$Grid" "notLastColumn" "J") (by decide +kernel)
  unfold f_X2_measure at hr
  refine lv_aload_n hx hb dX2_measure_0 rfl (lv_at hl 0 rfl) ?_
  refine lv_iload_n hx hb dX2_measure_1 rfl (lv_at hl 1 rfl) ?_
  refine va_put (D := (dC, dI)) (ci := 2) (v := .int a0) (ty := .int) (C := RX2) (T := TX2) (N := 6) hx hb hts huX2 tyX2 tyX2_ok nmX2 hown hK hP hD hS 0 rfl rfl 0 (by decide) hf9 (fun _ h9 => h9) rfl (by decide +kernel) rfl rfl (Nat.le_of_ble_eq_true rfl) dX2_measure_2 (fun H locs hP hD hS => ?_)
  have hP : va_P (dC, dI) vwCl (wd_X2 h_g a0 g_height g_size g_all g_notFirstColumn g_notLastColumn) H := hP
  have hD : va_D A (wd_X2 h_g a0 g_height g_size g_all g_notFirstColumn g_notLastColumn) := hD
  refine lv_aload_n hx hb dX2_measure_5 rfl (lv_at hl 0 rfl) ?_
  refine lv_iload_n hx hb dX2_measure_6 rfl (lv_at hl 2 rfl) ?_
  refine va_put (D := (dC, dI)) (ci := 2) (v := .int a1) (ty := .int) (C := RX2) (T := TX2) (N := 6) hx hb hts huX2 tyX2 tyX2_ok nmX2 hown hK hP hD hS 0 rfl rfl 1 (by decide) hf15 (fun _ h9 => h9) rfl (by decide +kernel) rfl rfl (Nat.le_of_ble_eq_true rfl) dX2_measure_7 (fun H locs hP hD hS => ?_)
  have hP : va_P (dC, dI) vwCl (wd_X2 h_g a0 a1 g_size g_all g_notFirstColumn g_notLastColumn) H := hP
  have hD : va_D A (wd_X2 h_g a0 a1 g_size g_all g_notFirstColumn g_notLastColumn) := hD
  refine lv_aload_n hx hb dX2_measure_10 rfl (lv_at hl 0 rfl) ?_
  refine lv_iload_n hx hb dX2_measure_11 rfl (lv_at hl 1 rfl) ?_
  refine lv_iload_n hx hb dX2_measure_12 rfl (lv_at hl 2 rfl) ?_
  refine lv_imul hx hb dX2_measure_13 ?_
  refine lv_topi (fun x1 ex1 => ?_)
  have hr := nm_use hr ex1
  refine va_put (D := (dC, dI)) (ci := 2) (v := .int x1) (ty := .int) (C := RX2) (T := TX2) (N := 6) hx hb hts huX2 tyX2 tyX2_ok nmX2 hown hK hP hD hS 0 rfl rfl 2 (by decide) hf18 (fun _ h9 => h9) rfl (by decide +kernel) rfl rfl (Nat.le_of_ble_eq_true rfl) dX2_measure_14 (fun H locs hP hD hS => ?_)
  have hP : va_P (dC, dI) vwCl (wd_X2 h_g a0 a1 x1 g_all g_notFirstColumn g_notLastColumn) H := hP
  have hD : va_D A (wd_X2 h_g a0 a1 x1 g_all g_notFirstColumn g_notLastColumn) := hD
  refine lv_aload_n hx hb dX2_measure_17 rfl (lv_at hl 0 rfl) ?_
  refine lv_lconst (v := (1 : Int64)) hx hb dX2_measure_18 (by decide) ?_
  refine lv_aload_n hx hb dX2_measure_19 rfl (lv_at hl 0 rfl) ?_
  refine va_get (D := (dC, dI)) (ci := 2) (v := .int x1) (C := RX2) (T := TX2) (N := 6) hx hb hts huX2 hown hK hP 0 rfl rfl 2 (by decide) hf18 (fun _ h9 => h9) rfl dX2_measure_20 ?_
  refine lv_lshl (v := jshl (1 : Int64) x1) hx hb dX2_measure_23 rfl ?_
  refine lv_lconst (v := (1 : Int64)) hx hb dX2_measure_24 (by decide) ?_
  refine lv_lsub hx hb dX2_measure_25 ?_
  refine lv_topl (fun x2 ex2 => ?_)
  have hr := nm_use hr ex2
  refine va_put (D := (dC, dI)) (ci := 2) (v := .long x2) (ty := .long) (C := RX2) (T := TX2) (N := 6) hx hb hts huX2 tyX2 tyX2_ok nmX2 hown hK hP hD hS 0 rfl rfl 3 (by decide) hf21 (fun _ h9 => h9) rfl (by decide +kernel) rfl rfl (Nat.le_of_ble_eq_true rfl) dX2_measure_26 (fun H locs hP hD hS => ?_)
  have hP : va_P (dC, dI) vwCl (wd_X2 h_g a0 a1 x1 x2 g_notFirstColumn g_notLastColumn) H := hP
  have hD : va_D A (wd_X2 h_g a0 a1 x1 x2 g_notFirstColumn g_notLastColumn) := hD
  refine lv_lconst (v := (0 : Int64)) hx hb dX2_measure_29 (by decide) ?_
  refine lv_lstore_n (lv' := [(3, .long (0 : Int64)), (0, .ref h_g), (1, .int a0), (2, .int a1)]) hx hb dX2_measure_30 rfl hl (by decide) rfl (fun ls hl => ?_)
  refine lv_iconst (v := (0 : Int32)) hx hb dX2_measure_31 (by decide) ?_
  refine lv_istore (lv' := [(5, .int (0 : Int32)), (3, .long (0 : Int64)), (0, .ref h_g), (1, .int a0), (2, .int a1)]) hx hb dX2_measure_32 hl (by decide) rfl (fun ls hl => ?_)
  obtain ⟨K4, eK4, hr⟩ := nm_ex hr
  have kK4 : ∀ (v3 : Int64) (H : Heap) (locs : List Loc) , K4 v3 = some q → va_P (dC, dI) vwCl (wd_X2 h_g a0 a1 x1 x2 g_notFirstColumn g_notLastColumn) H → va_D A (wd_X2 h_g a0 a1 x1 x2 g_notFirstColumn g_notLastColumn) → va_S A H0 H locs → ∀ (ls : Array Slot), lv_has ls 6 [(0, .ref h_g), (1, .int a0), (3, .long v3)] → W p l e R s m args below meth c H locs 0 0 Q (F0 m 55 ls []) := by
    intro v3 H locs hr hP hD hS ls hl
    rw [eK4] at hr
    refine lv_aload_n hx hb dX2_measure_55 rfl (lv_at hl 0 rfl) ?_
    refine lv_aload_n hx hb dX2_measure_56 rfl (lv_at hl 0 rfl) ?_
    refine va_get (D := (dC, dI)) (ci := 2) (v := .long x2) (C := RX2) (T := TX2) (N := 6) hx hb hts huX2 hown hK hP 0 rfl rfl 3 (by decide) hf21 (fun _ h9 => h9) rfl dX2_measure_57 ?_
    refine lv_lload_n hx hb dX2_measure_60 rfl (lv_at hl 2 rfl) ?_
    refine W.ldc2 (v := (-1 : Int64)) hx hb hown hk25 rfl dX2_measure_61 ?_
    refine W.eq (g2 := F0 m 64 ls [.long (-1 : Int64), .long v3, .long x2, .ref h_g]) rfl ?_
    refine lv_lxor hx hb dX2_measure_64 ?_
    refine lv_land hx hb dX2_measure_65 ?_
    refine lv_topl (fun x5 ex5 => ?_)
    have hr := nm_use hr ex5
    refine va_put (D := (dC, dI)) (ci := 2) (v := .long x5) (ty := .long) (C := RX2) (T := TX2) (N := 6) hx hb hts huX2 tyX2 tyX2_ok nmX2 hown hK hP hD hS 0 rfl rfl 4 (by decide) hf27 (fun _ h9 => h9) rfl (by decide +kernel) rfl rfl (Nat.le_of_ble_eq_true rfl) dX2_measure_66 (fun H locs hP hD hS => ?_)
    have hP : va_P (dC, dI) vwCl (wd_X2 h_g a0 a1 x1 x2 x5 g_notLastColumn) H := hP
    have hD : va_D A (wd_X2 h_g a0 a1 x1 x2 x5 g_notLastColumn) := hD
    refine lv_aload_n hx hb dX2_measure_69 rfl (lv_at hl 0 rfl) ?_
    refine lv_aload_n hx hb dX2_measure_70 rfl (lv_at hl 0 rfl) ?_
    refine va_get (D := (dC, dI)) (ci := 2) (v := .long x2) (C := RX2) (T := TX2) (N := 6) hx hb hts huX2 hown hK hP 0 rfl rfl 3 (by decide) hf21 (fun _ h9 => h9) rfl dX2_measure_71 ?_
    refine lv_lload_n hx hb dX2_measure_74 rfl (lv_at hl 2 rfl) ?_
    refine lv_iload_n hx hb dX2_measure_75 rfl (lv_at hl 1 rfl) ?_
    refine lv_iconst (v := (1 : Int32)) hx hb dX2_measure_76 (by decide) ?_
    refine lv_isub hx hb dX2_measure_77 ?_
    refine lv_lshl (v := jshl v3 (a0 - (1 : Int32))) hx hb dX2_measure_78 rfl ?_
    refine W.ldc2 (v := (-1 : Int64)) hx hb hown hk25 rfl dX2_measure_79 ?_
    refine W.eq (g2 := F0 m 82 ls [.long (-1 : Int64), .long (jshl v3 (a0 - (1 : Int32))), .long x2, .ref h_g]) rfl ?_
    refine lv_lxor hx hb dX2_measure_82 ?_
    refine lv_land hx hb dX2_measure_83 ?_
    refine lv_topl (fun x6 ex6 => ?_)
    have hr := nm_use hr ex6
    refine va_put (D := (dC, dI)) (ci := 2) (v := .long x6) (ty := .long) (C := RX2) (T := TX2) (N := 6) hx hb hts huX2 tyX2 tyX2_ok nmX2 hown hK hP hD hS 0 rfl rfl 5 (by decide) hf30 (fun _ h9 => h9) rfl (by decide +kernel) rfl rfl (Nat.le_of_ble_eq_true rfl) dX2_measure_84 (fun H locs hP hD hS => ?_)
    have hP : va_P (dC, dI) vwCl (wd_X2 h_g a0 a1 x1 x2 x5 x6) H := hP
    have hD : va_D A (wd_X2 h_g a0 a1 x1 x2 x5 x6) := hD
    obtain rfl := Option.some.inj hr
    exact kret _ _ _ _ dX2_measure_87 hP hD hS
  have llp_X2_measure_34 : ∀ (nF : Nat) (v7 : Int64) (v8 : Int32) (H : Heap) (locs : List Loc), lp_X2_measure_34 a0 a1 K4 nF v7 v8 = some q → va_P (dC, dI) vwCl (wd_X2 h_g a0 a1 x1 x2 g_notFirstColumn g_notLastColumn) H → va_D A (wd_X2 h_g a0 a1 x1 x2 g_notFirstColumn g_notLastColumn) → va_S A H0 H locs → ∀ (ls : Array Slot), lv_has ls 6 [(0, .ref h_g), (1, .int a0), (2, .int a1), (3, .long v7), (5, .int v8)] → W p l e R s m args below meth c H locs 0 0 Q (F0 m 34 ls []) := by
    intro nF
    induction nF with
    | zero => intro v7 v8 H locs hr; exact absurd hr (by simp [lp_X2_measure_34])
    | succ nF ih =>
      intro v7 v8 H locs hr hP hD hS ls hl
      rw [lp_X2_measure_34] at hr
      refine lv_iload hx hb dX2_measure_34 (lv_at hl 4 rfl) ?_
      refine lv_iload_n hx hb dX2_measure_36 rfl (lv_at hl 2 rfl) ?_
      refine lv_icmp_ge (tgt := 55) hx hb dX2_measure_37 (by decide) (fun c9 => ?_) (fun c9 => ?_)
      · have hr := ite_p hr c9
        exact kK4 v7 _ _ hr hP hD hS ls (lv_sub hl [0, 1, 3] rfl)
      · have hr := ite_n hr c9
        refine lv_lload_n hx hb dX2_measure_40 rfl (lv_at hl 3 rfl) ?_
        refine lv_lconst (v := (1 : Int64)) hx hb dX2_measure_41 (by decide) ?_
        refine lv_iload hx hb dX2_measure_42 (lv_at hl 4 rfl) ?_
        refine lv_iload_n hx hb dX2_measure_44 rfl (lv_at hl 1 rfl) ?_
        refine lv_imul hx hb dX2_measure_45 ?_
        refine lv_lshl (v := jshl (1 : Int64) (v8 * a0)) hx hb dX2_measure_46 rfl ?_
        refine lv_lor hx hb dX2_measure_47 ?_
        refine lv_topl (fun x10 ex10 => ?_)
        have hr := nm_use hr ex10
        refine lv_lstore_n (lv' := [(3, .long x10), (0, .ref h_g), (1, .int a0), (2, .int a1), (5, .int v8)]) hx hb dX2_measure_48 rfl hl (by decide) rfl (fun ls hl => ?_)
        obtain ⟨x11, ex11, hr⟩ := nm_ex hr
        refine lv_iinc (v := x11) (lv' := [(5, .int x11), (3, .long x10), (0, .ref h_g), (1, .int a0), (2, .int a1)]) hx hb dX2_measure_49 hl (k := 4) rfl (by rw [ex11]; rfl) (by decide) rfl (fun ls hl => ?_)
        refine lv_goto (tgt := 34) hx hb dX2_measure_52 (by decide) ?_
        exact ih x10 x11 _ _ hr hP hD hS ls (lv_sub hl [2, 3, 4, 1, 0] rfl)
  exact llp_X2_measure_34 FU (0 : Int64) (0 : Int32) _ _ hr hP hD hS ls (lv_sub hl [2, 3, 4, 1, 0] rfl)

def f_X2_has (g_size : Int32) (a0 : Int32) : Option (Int32) :=
  if a0 < 0 then (
    some ((0 : Int32))
  )
  else (
    if g_size ≤ a0 then (
      some ((0 : Int32))
    )
    else (
      some ((1 : Int32))
    )
  )

abbrev rm_X2_has : Room := { frames := 0, cells := 0, slots := 0, locals := 0 }
set_option maxHeartbeats 4000000 in
set_option maxRecDepth 100000 in
theorem c_X2_has (l : Launch) (dC : Nat → ClassId) (dI : Nat → Nat → Nat) (h_g : Nat) (g_width g_height g_size : Int32) (g_all g_notFirstColumn g_notLastColumn : Int64) (a0 : Int32) (q : Int32) (hr : f_X2_has g_size a0 = some q) : Met l yX2_has wsX2_has rm_X2_has (PrP (dC, dI) (wd_X2 h_g g_width g_height g_size g_all g_notFirstColumn g_notLastColumn) (td_X2) [.ref h_g, .int a0]) (vp_Si (fun x => x = q)) 0 0 (fun _ => False) := by
  refine mkP_z (cc := cX2_has) (nL := 2) (by decide) rfl (Nat.le_of_ble_eq_true rfl) ?_
  intro p e R s m args below meth c H Q ls hRf hRl S hN hP hK hl kret
  have hl : lv_has ls 2 [(0, .ref h_g), (1, .int a0)] := hl
  obtain ⟨hx, hb, hml, hown, hts⟩ := S
  have hown : s.vm.findClass RX2 = some m.cls := hown
  have S : CallFix p m c cX2_has 2 s args wsX2_has RX2 := ⟨hx, hb, hml, hown, hts⟩
  have huX2 : ∀ w ∈ u_ws RX2 TX2 6, w ∈ wsX2_has := by decide +kernel
  have hf18 := hts (.fieldLink RX2 18 "EyeBoard$Grid" "size" "I") (by decide +kernel)
  unfold f_X2_has at hr
  refine lv_iload_n hx hb dX2_has_0 rfl (lv_at hl 1 rfl) ?_
  refine lv_if_lt (tgt := 16) hx hb dX2_has_1 (by decide) (fun c1 => ?_) (fun c1 => ?_)
  · have hr := ite_p hr c1
    refine lv_iconst (v := (0 : Int32)) hx hb dX2_has_16 (by decide) ?_
    obtain rfl := Option.some.inj hr
    exact kret _ _ dX2_has_17 nar_0
  · have hr := ite_n hr c1
    refine lv_iload_n hx hb dX2_has_4 rfl (lv_at hl 1 rfl) ?_
    refine lv_aload_n hx hb dX2_has_5 rfl (lv_at hl 0 rfl) ?_
    refine va_get (D := (dC, dI)) (ci := 2) (v := .int g_size) (C := RX2) (T := TX2) (N := 6) hx hb hts huX2 hown hK hP 0 rfl rfl 2 (by decide) hf18 (fun _ h9 => h9) rfl dX2_has_6 ?_
    refine lv_icmp_ge (tgt := 16) hx hb dX2_has_9 (by decide) (fun c2 => ?_) (fun c2 => ?_)
    · have hr := ite_p hr c2
      refine lv_iconst (v := (0 : Int32)) hx hb dX2_has_16 (by decide) ?_
      obtain rfl := Option.some.inj hr
      exact kret _ _ dX2_has_17 nar_0
    · have hr := ite_n hr c2
      refine lv_iconst (v := (1 : Int32)) hx hb dX2_has_12 (by decide) ?_
      refine lv_goto (tgt := 17) hx hb dX2_has_13 (by decide) ?_
      obtain rfl := Option.some.inj hr
      exact kret _ _ dX2_has_17 nar_1

def f_X2_holds  (a0 : Int64) (a1 : Int32) : Option (Int32) :=
  if (jushr a0 a1) &&& (1 : Int64) = (0 : Int64) then (
    some ((0 : Int32))
  )
  else (
    some ((1 : Int32))
  )

abbrev rm_X2_holds : Room := { frames := 0, cells := 0, slots := 0, locals := 0 }
set_option maxHeartbeats 4000000 in
set_option maxRecDepth 100000 in
theorem c_X2_holds (l : Launch) (dC : Nat → ClassId) (dI : Nat → Nat → Nat)  (a0 : Int64) (a1 : Int32) (q : Int32) (hr : f_X2_holds  a0 a1 = some q) : Met l yX2_holds wsX2_holds rm_X2_holds (PrP (dC, dI) [] [] [.long a0, .int a1]) (vp_Si (fun x => x = q)) 0 0 (fun _ => False) := by
  refine mkP_z (cc := cX2_holds) (nL := 3) (by decide) rfl (Nat.le_of_ble_eq_true rfl) ?_
  intro p e R s m args below meth c H Q ls hRf hRl S hN hP hK hl kret
  have hl : lv_has ls 3 [(0, .long a0), (2, .int a1)] := hl
  obtain ⟨hx, hb, hml, hown, hts⟩ := S
  have hown : s.vm.findClass RX2 = some m.cls := hown
  have S : CallFix p m c cX2_holds 3 s args wsX2_holds RX2 := ⟨hx, hb, hml, hown, hts⟩
  unfold f_X2_holds at hr
  refine lv_lload_n hx hb dX2_holds_0 rfl (lv_at hl 0 rfl) ?_
  refine lv_iload_n hx hb dX2_holds_1 rfl (lv_at hl 1 rfl) ?_
  refine lv_lushr (v := jushr a0 a1) hx hb dX2_holds_2 rfl ?_
  refine lv_lconst (v := (1 : Int64)) hx hb dX2_holds_3 (by decide) ?_
  refine lv_land hx hb dX2_holds_4 ?_
  refine lv_lconst (v := (0 : Int64)) hx hb dX2_holds_5 (by decide) ?_
  refine W.lcmp hx hb dX2_holds_6 ?_
  refine lv_if_eq (tgt := 14) hx hb dX2_holds_7 (by decide) (fun c1 => ?_) (fun c1 => ?_)
  · have c1 := cmp_t c1
    have hr := ite_p hr c1
    refine lv_iconst (v := (0 : Int32)) hx hb dX2_holds_14 (by decide) ?_
    obtain rfl := Option.some.inj hr
    exact kret _ _ dX2_holds_15 nar_0
  · have c1 := cmp_f c1
    have hr := ite_n hr c1
    refine lv_iconst (v := (1 : Int32)) hx hb dX2_holds_10 (by decide) ?_
    refine lv_goto (tgt := 15) hx hb dX2_holds_11 (by decide) ?_
    obtain rfl := Option.some.inj hr
    exact kret _ _ dX2_holds_15 nar_1

def f_X2_beside (g_width : Int32) (g_all : Int64) (g_notFirstColumn : Int64) (g_notLastColumn : Int64) (a0 : Int64) : Option (Int64) :=
  nm ((jshl (a0 &&& g_notLastColumn) (1 : Int32)) ||| (jushr (a0 &&& g_notFirstColumn) (1 : Int32))) fun x1 =>
  some (((x1 ||| (jshl a0 g_width)) ||| (jushr a0 g_width)) &&& g_all)

abbrev rm_X2_beside : Room := { frames := 0, cells := 0, slots := 0, locals := 0 }
set_option maxHeartbeats 4000000 in
set_option maxRecDepth 100000 in
theorem c_X2_beside (l : Launch) (dC : Nat → ClassId) (dI : Nat → Nat → Nat) (h_g : Nat) (g_width g_height g_size : Int32) (g_all g_notFirstColumn g_notLastColumn : Int64) (a0 : Int64) (q : Int64) (hr : f_X2_beside g_width g_all g_notFirstColumn g_notLastColumn a0 = some q) : Met l yX2_beside wsX2_beside rm_X2_beside (PrP (dC, dI) (wd_X2 h_g g_width g_height g_size g_all g_notFirstColumn g_notLastColumn) (td_X2) [.ref h_g, .long a0]) (vp_Sl (fun x => x = q)) 0 0 (fun _ => False) := by
  refine mkP_l (cc := cX2_beside) (nL := 5) (by decide) rfl (Nat.le_of_ble_eq_true rfl) ?_
  intro p e R s m args below meth c H Q ls hRf hRl S hN hP hK hl kret
  have hl : lv_has ls 5 [(0, .ref h_g), (1, .long a0)] := hl
  obtain ⟨hx, hb, hml, hown, hts⟩ := S
  have hown : s.vm.findClass RX2 = some m.cls := hown
  have S : CallFix p m c cX2_beside 5 s args wsX2_beside RX2 := ⟨hx, hb, hml, hown, hts⟩
  have huX2 : ∀ w ∈ u_ws RX2 TX2 6, w ∈ wsX2_beside := by decide +kernel
  have hf30 := hts (.fieldLink RX2 30 "EyeBoard$Grid" "notLastColumn" "J") (by decide +kernel)
  have hf27 := hts (.fieldLink RX2 27 "EyeBoard$Grid" "notFirstColumn" "J") (by decide +kernel)
  have hf9 := hts (.fieldLink RX2 9 "EyeBoard$Grid" "width" "I") (by decide +kernel)
  have hf21 := hts (.fieldLink RX2 21 "EyeBoard$Grid" "all" "J") (by decide +kernel)
  unfold f_X2_beside at hr
  refine lv_lload_n hx hb dX2_beside_0 rfl (lv_at hl 1 rfl) ?_
  refine lv_aload_n hx hb dX2_beside_1 rfl (lv_at hl 0 rfl) ?_
  refine va_get (D := (dC, dI)) (ci := 2) (v := .long g_notLastColumn) (C := RX2) (T := TX2) (N := 6) hx hb hts huX2 hown hK hP 0 rfl rfl 5 (by decide) hf30 (fun _ h9 => h9) rfl dX2_beside_2 ?_
  refine lv_land hx hb dX2_beside_5 ?_
  refine lv_iconst (v := (1 : Int32)) hx hb dX2_beside_6 (by decide) ?_
  refine lv_lshl (v := jshl (a0 &&& g_notLastColumn) (1 : Int32)) hx hb dX2_beside_7 rfl ?_
  refine lv_lload_n hx hb dX2_beside_8 rfl (lv_at hl 1 rfl) ?_
  refine lv_aload_n hx hb dX2_beside_9 rfl (lv_at hl 0 rfl) ?_
  refine va_get (D := (dC, dI)) (ci := 2) (v := .long g_notFirstColumn) (C := RX2) (T := TX2) (N := 6) hx hb hts huX2 hown hK hP 0 rfl rfl 4 (by decide) hf27 (fun _ h9 => h9) rfl dX2_beside_10 ?_
  refine lv_land hx hb dX2_beside_13 ?_
  refine lv_iconst (v := (1 : Int32)) hx hb dX2_beside_14 (by decide) ?_
  refine lv_lushr (v := jushr (a0 &&& g_notFirstColumn) (1 : Int32)) hx hb dX2_beside_15 rfl ?_
  refine lv_lor hx hb dX2_beside_16 ?_
  refine lv_topl (fun x1 ex1 => ?_)
  have hr := nm_use hr ex1
  refine lv_lstore_n (lv' := [(3, .long x1), (0, .ref h_g), (1, .long a0)]) hx hb dX2_beside_17 rfl hl (by decide) rfl (fun ls hl => ?_)
  refine lv_lload_n hx hb dX2_beside_18 rfl (lv_at hl 0 rfl) ?_
  refine lv_lload_n hx hb dX2_beside_19 rfl (lv_at hl 2 rfl) ?_
  refine lv_aload_n hx hb dX2_beside_20 rfl (lv_at hl 1 rfl) ?_
  refine va_get (D := (dC, dI)) (ci := 2) (v := .int g_width) (C := RX2) (T := TX2) (N := 6) hx hb hts huX2 hown hK hP 0 rfl rfl 0 (by decide) hf9 (fun _ h9 => h9) rfl dX2_beside_21 ?_
  refine lv_lshl (v := jshl a0 g_width) hx hb dX2_beside_24 rfl ?_
  refine lv_lor hx hb dX2_beside_25 ?_
  refine lv_lload_n hx hb dX2_beside_26 rfl (lv_at hl 2 rfl) ?_
  refine lv_aload_n hx hb dX2_beside_27 rfl (lv_at hl 1 rfl) ?_
  refine va_get (D := (dC, dI)) (ci := 2) (v := .int g_width) (C := RX2) (T := TX2) (N := 6) hx hb hts huX2 hown hK hP 0 rfl rfl 0 (by decide) hf9 (fun _ h9 => h9) rfl dX2_beside_28 ?_
  refine lv_lushr (v := jushr a0 g_width) hx hb dX2_beside_31 rfl ?_
  refine lv_lor hx hb dX2_beside_32 ?_
  refine lv_aload_n hx hb dX2_beside_33 rfl (lv_at hl 1 rfl) ?_
  refine va_get (D := (dC, dI)) (ci := 2) (v := .long g_all) (C := RX2) (T := TX2) (N := 6) hx hb hts huX2 hown hK hP 0 rfl rfl 3 (by decide) hf21 (fun _ h9 => h9) rfl dX2_beside_34 ?_
  refine lv_land hx hb dX2_beside_37 ?_
  obtain rfl := Option.some.inj hr
  exact kret _ _ dX2_beside_38

def lp_X2_spread_8 (g_width : Int32) (g_all : Int64) (g_notFirstColumn : Int64) (g_notLastColumn : Int64) (a1 : Int64) : Nat → Int64 → Int32 → Option (Int64)
  | 0, _, _ => none
  | nF + 1, v2, v3 =>
    if (49 : Int32) ≤ v3 then (
      some (v2)
    )
    else (
      (f_X2_beside g_width g_all g_notFirstColumn g_notLastColumn v2).bind fun q5 =>
      nm ((v2 ||| q5) &&& a1) fun x6 =>
      if x6 = v2 then (
        some (v2)
      )
      else (
        nm (v3 + 1) fun x8 =>
        lp_X2_spread_8 g_width g_all g_notFirstColumn g_notLastColumn a1 nF x6 x8
      )
    )

def f_X2_spread (g_width : Int32) (g_all : Int64) (g_notFirstColumn : Int64) (g_notLastColumn : Int64) (a0 : Int64) (a1 : Int64) : Option (Int64) :=
  nm (a0 &&& a1) fun x1 =>
  lp_X2_spread_8 g_width g_all g_notFirstColumn g_notLastColumn a1 FU x1 (0 : Int32)

abbrev rm_X2_spread : Room := { frames := 1, cells := 0, slots := 0, locals := 24 }
set_option maxHeartbeats 4000000 in
set_option maxRecDepth 100000 in
theorem c_X2_spread (l : Launch) (dC : Nat → ClassId) (dI : Nat → Nat → Nat) (h_g : Nat) (g_width g_height g_size : Int32) (g_all g_notFirstColumn g_notLastColumn : Int64) (a0 : Int64) (a1 : Int64) (q : Int64) (hr : f_X2_spread g_width g_all g_notFirstColumn g_notLastColumn a0 a1 = some q) : Met l yX2_spread wsX2_spread rm_X2_spread (PrP (dC, dI) (wd_X2 h_g g_width g_height g_size g_all g_notFirstColumn g_notLastColumn) (td_X2) [.ref h_g, .long a0, .long a1]) (vp_Sl (fun x => x = q)) 0 0 (fun _ => False) := by
  refine mkP_l (cc := cX2_spread) (nL := 10) (by decide) rfl (Nat.le_of_ble_eq_true rfl) ?_
  intro p e R s m args below meth c H Q ls hRf hRl S hN hP hK hl kret
  have hl : lv_has ls 10 [(0, .ref h_g), (1, .long a0), (3, .long a1)] := hl
  obtain ⟨hx, hb, hml, hown, hts⟩ := S
  have hown : s.vm.findClass RX2 = some m.cls := hown
  have S : CallFix p m c cX2_spread 10 s args wsX2_spread RX2 := ⟨hx, hb, hml, hown, hts⟩
  unfold f_X2_spread at hr
  refine lv_lload_n hx hb dX2_spread_0 rfl (lv_at hl 1 rfl) ?_
  refine lv_lload_n hx hb dX2_spread_1 rfl (lv_at hl 2 rfl) ?_
  refine lv_land hx hb dX2_spread_2 ?_
  refine lv_topl (fun x1 ex1 => ?_)
  have hr := nm_use hr ex1
  refine lv_lstore (lv' := [(5, .long x1), (0, .ref h_g), (1, .long a0), (3, .long a1)]) hx hb dX2_spread_3 hl (by decide) rfl (fun ls hl => ?_)
  refine lv_iconst (v := (0 : Int32)) hx hb dX2_spread_5 (by decide) ?_
  refine lv_istore (lv' := [(7, .int (0 : Int32)), (5, .long x1), (0, .ref h_g), (1, .long a0), (3, .long a1)]) hx hb dX2_spread_6 hl (by decide) rfl (fun ls hl => ?_)
  have llp_X2_spread_8 : ∀ (nF : Nat) (v2 : Int64) (v3 : Int32) , lp_X2_spread_8 g_width g_all g_notFirstColumn g_notLastColumn a1 nF v2 v3 = some q → ∀ (ls : Array Slot), lv_has ls 10 [(0, .ref h_g), (3, .long a1), (5, .long v2), (7, .int v3)] → W p l e R s m args below meth c H [] 0 0 Q (F0 m 8 ls []) := by
    intro nF
    induction nF with
    | zero => intro v2 v3 hr; exact absurd hr (by simp [lp_X2_spread_8])
    | succ nF ih =>
      intro v2 v3 hr ls hl
      rw [lp_X2_spread_8] at hr
      refine lv_iload hx hb dX2_spread_8 (lv_at hl 3 rfl) ?_
      refine lv_bipush (v := (49 : Int32)) hx hb dX2_spread_10 (by decide) ?_
      refine lv_icmp_ge (tgt := 49) hx hb dX2_spread_12 (by decide) (fun c4 => ?_) (fun c4 => ?_)
      · have hr := ite_p hr c4
        refine lv_lload hx hb dX2_spread_49 (lv_at hl 2 rfl) ?_
        obtain rfl := Option.some.inj hr
        exact kret _ _ dX2_spread_51
      · have hr := ite_n hr c4
        refine lv_lload hx hb dX2_spread_15 (lv_at hl 2 rfl) ?_
        refine lv_aload_n hx hb dX2_spread_17 rfl (lv_at hl 0 rfl) ?_
        refine lv_lload hx hb dX2_spread_18 (lv_at hl 2 rfl) ?_
        obtain ⟨q5, hq5, hr⟩ := bd_use hr
        refine pcV_l (As := [.long v2]) (rest := [.long v2]) S (c_X2_beside l dC dI h_g g_width g_height g_size g_all g_notFirstColumn g_notLastColumn v2 q5 hq5) (cwV 1 hts gX2_spread_X2_beside rfl rfl rfl (by decide +kernel) ⟨Nat.le_trans (m := rm_X2_spread.frames) (by decide) hRf, Nat.le_trans (m := rm_X2_spread.locals) (by decide) hRl⟩) hN hP hK ⟨Nat.zero_le _, Nat.zero_le _⟩ [0] rfl [] rfl 0 2 rfl rfl rfl hl.1 rfl (Nat.le_of_ble_eq_true rfl) dX2_spread_20 ?_
        refine lv_lor hx hb dX2_spread_23 ?_
        refine lv_lload_n hx hb dX2_spread_24 rfl (lv_at hl 1 rfl) ?_
        refine lv_land hx hb dX2_spread_25 ?_
        refine lv_topl (fun x6 ex6 => ?_)
        have hr := nm_use hr ex6
        refine lv_lstore (lv' := [(8, .long x6), (0, .ref h_g), (3, .long a1), (5, .long v2), (7, .int v3)]) hx hb dX2_spread_26 hl (by decide) rfl (fun ls hl => ?_)
        refine lv_lload hx hb dX2_spread_28 (lv_at hl 0 rfl) ?_
        refine lv_lload hx hb dX2_spread_30 (lv_at hl 3 rfl) ?_
        refine W.lcmp hx hb dX2_spread_32 ?_
        refine lv_if_ne (tgt := 39) hx hb dX2_spread_33 (by decide) (fun c7 => ?_) (fun c7 => ?_)
        · have c7 := cmp_f c7
          have hr := ite_n hr c7
          refine lv_lload hx hb dX2_spread_39 (lv_at hl 0 rfl) ?_
          refine lv_lstore (lv' := [(5, .long x6), (8, .long x6), (0, .ref h_g), (3, .long a1), (7, .int v3)]) hx hb dX2_spread_41 hl (by decide) rfl (fun ls hl => ?_)
          obtain ⟨x8, ex8, hr⟩ := nm_ex hr
          refine lv_iinc (v := x8) (lv' := [(7, .int x8), (5, .long x6), (8, .long x6), (0, .ref h_g), (3, .long a1)]) hx hb dX2_spread_43 hl (k := 4) rfl (by rw [ex8]; rfl) (by decide) rfl (fun ls hl => ?_)
          refine lv_goto (tgt := 8) hx hb dX2_spread_46 (by decide) ?_
          exact ih x6 x8 hr ls (lv_sub hl [3, 4, 1, 0] rfl)
        · have c7 := cmp_t c7
          have hr := ite_p hr c7
          refine lv_goto (tgt := 49) hx hb dX2_spread_36 (by decide) ?_
          refine lv_lload hx hb dX2_spread_49 (lv_at hl 3 rfl) ?_
          obtain rfl := Option.some.inj hr
          exact kret _ _ dX2_spread_51
  exact llp_X2_spread_8 FU x1 (0 : Int32) hr ls (lv_sub hl [2, 4, 1, 0] rfl)

def f_X2_partFrom (g_width : Int32) (g_all : Int64) (g_notFirstColumn : Int64) (g_notLastColumn : Int64) (a0 : Int64) (a1 : Int32) : Option (Int64) :=
  nm ((jshl (1 : Int64) a1) &&& a0) fun x1 =>
  nm ((jshl (1 : Int64) a1) - (1 : Int64)) fun x2 =>
  if x1 = (0 : Int64) then (
    some ((0 : Int64))
  )
  else (
    (f_X2_beside g_width g_all g_notFirstColumn g_notLastColumn x1).bind fun q4 =>
    if (q4 &&& a0) &&& x2 = (0 : Int64) then (
      (f_X2_spread g_width g_all g_notFirstColumn g_notLastColumn x1 a0).bind fun q6 =>
      if q6 &&& x2 = (0 : Int64) then (
        some (q6)
      )
      else (
        some ((0 : Int64))
      )
    )
    else (
      some ((0 : Int64))
    )
  )

abbrev rm_X2_partFrom : Room := { frames := 2, cells := 0, slots := 0, locals := 53 }
set_option maxHeartbeats 4000000 in
set_option maxRecDepth 100000 in
theorem c_X2_partFrom (l : Launch) (dC : Nat → ClassId) (dI : Nat → Nat → Nat) (h_g : Nat) (g_width g_height g_size : Int32) (g_all g_notFirstColumn g_notLastColumn : Int64) (a0 : Int64) (a1 : Int32) (q : Int64) (hr : f_X2_partFrom g_width g_all g_notFirstColumn g_notLastColumn a0 a1 = some q) : Met l yX2_partFrom wsX2_partFrom rm_X2_partFrom (PrP (dC, dI) (wd_X2 h_g g_width g_height g_size g_all g_notFirstColumn g_notLastColumn) (td_X2) [.ref h_g, .long a0, .int a1]) (vp_Sl (fun x => x = q)) 0 0 (fun _ => False) := by
  refine mkP_l (cc := cX2_partFrom) (nL := 10) (by decide) rfl (Nat.le_of_ble_eq_true rfl) ?_
  intro p e R s m args below meth c H Q ls hRf hRl S hN hP hK hl kret
  have hl : lv_has ls 10 [(0, .ref h_g), (1, .long a0), (3, .int a1)] := hl
  obtain ⟨hx, hb, hml, hown, hts⟩ := S
  have hown : s.vm.findClass RX2 = some m.cls := hown
  have S : CallFix p m c cX2_partFrom 10 s args wsX2_partFrom RX2 := ⟨hx, hb, hml, hown, hts⟩
  unfold f_X2_partFrom at hr
  refine lv_lconst (v := (1 : Int64)) hx hb dX2_partFrom_0 (by decide) ?_
  refine lv_iload_n hx hb dX2_partFrom_1 rfl (lv_at hl 2 rfl) ?_
  refine lv_lshl (v := jshl (1 : Int64) a1) hx hb dX2_partFrom_2 rfl ?_
  refine lv_lload_n hx hb dX2_partFrom_3 rfl (lv_at hl 1 rfl) ?_
  refine lv_land hx hb dX2_partFrom_4 ?_
  refine lv_topl (fun x1 ex1 => ?_)
  have hr := nm_use hr ex1
  refine lv_lstore (lv' := [(4, .long x1), (0, .ref h_g), (1, .long a0), (3, .int a1)]) hx hb dX2_partFrom_5 hl (by decide) rfl (fun ls hl => ?_)
  refine lv_lconst (v := (1 : Int64)) hx hb dX2_partFrom_7 (by decide) ?_
  refine lv_iload_n hx hb dX2_partFrom_8 rfl (lv_at hl 3 rfl) ?_
  refine lv_lshl (v := jshl (1 : Int64) a1) hx hb dX2_partFrom_9 rfl ?_
  refine lv_lconst (v := (1 : Int64)) hx hb dX2_partFrom_10 (by decide) ?_
  refine lv_lsub hx hb dX2_partFrom_11 ?_
  refine lv_topl (fun x2 ex2 => ?_)
  have hr := nm_use hr ex2
  refine lv_lstore (lv' := [(6, .long x2), (4, .long x1), (0, .ref h_g), (1, .long a0), (3, .int a1)]) hx hb dX2_partFrom_12 hl (by decide) rfl (fun ls hl => ?_)
  refine lv_lload hx hb dX2_partFrom_14 (lv_at hl 1 rfl) ?_
  refine lv_lconst (v := (0 : Int64)) hx hb dX2_partFrom_16 (by decide) ?_
  refine W.lcmp hx hb dX2_partFrom_17 ?_
  refine lv_if_eq (tgt := 37) hx hb dX2_partFrom_18 (by decide) (fun c3 => ?_) (fun c3 => ?_)
  · have c3 := cmp_t c3
    have hr := ite_p hr c3
    refine lv_lconst (v := (0 : Int64)) hx hb dX2_partFrom_37 (by decide) ?_
    obtain rfl := Option.some.inj hr
    exact kret _ _ dX2_partFrom_38
  · have c3 := cmp_f c3
    have hr := ite_n hr c3
    refine lv_aload_n hx hb dX2_partFrom_21 rfl (lv_at hl 2 rfl) ?_
    refine lv_lload hx hb dX2_partFrom_22 (lv_at hl 1 rfl) ?_
    obtain ⟨q4, hq4, hr⟩ := bd_use hr
    refine pcV_l (As := [.long x1]) (rest := []) S (c_X2_beside l dC dI h_g g_width g_height g_size g_all g_notFirstColumn g_notLastColumn x1 q4 hq4) (cwV 1 hts gX2_partFrom_X2_beside rfl rfl rfl (by decide +kernel) ⟨Nat.le_trans (m := rm_X2_partFrom.frames) (by decide) hRf, Nat.le_trans (m := rm_X2_partFrom.locals) (by decide) hRl⟩) hN hP hK ⟨Nat.zero_le _, Nat.zero_le _⟩ [0] rfl [] rfl 0 2 rfl rfl rfl hl.1 rfl (Nat.le_of_ble_eq_true rfl) dX2_partFrom_24 ?_
    refine lv_lload_n hx hb dX2_partFrom_27 rfl (lv_at hl 3 rfl) ?_
    refine lv_land hx hb dX2_partFrom_28 ?_
    refine lv_lload hx hb dX2_partFrom_29 (lv_at hl 0 rfl) ?_
    refine lv_land hx hb dX2_partFrom_31 ?_
    refine lv_lconst (v := (0 : Int64)) hx hb dX2_partFrom_32 (by decide) ?_
    refine W.lcmp hx hb dX2_partFrom_33 ?_
    refine lv_if_eq (tgt := 39) hx hb dX2_partFrom_34 (by decide) (fun c5 => ?_) (fun c5 => ?_)
    · have c5 := cmp_t c5
      have hr := ite_p hr c5
      refine lv_aload_n hx hb dX2_partFrom_39 rfl (lv_at hl 2 rfl) ?_
      refine lv_lload hx hb dX2_partFrom_40 (lv_at hl 1 rfl) ?_
      refine lv_lload_n hx hb dX2_partFrom_42 rfl (lv_at hl 3 rfl) ?_
      obtain ⟨q6, hq6, hr⟩ := bd_use hr
      refine pcV_l (As := [.long x1, .long a0]) (rest := []) S (c_X2_spread l dC dI h_g g_width g_height g_size g_all g_notFirstColumn g_notLastColumn x1 a0 q6 hq6) (cwV 2 hts gX2_partFrom_X2_spread rfl rfl rfl (by decide +kernel) ⟨Nat.le_trans (m := rm_X2_partFrom.frames) (by decide) hRf, Nat.le_trans (m := rm_X2_partFrom.locals) (by decide) hRl⟩) hN hP hK ⟨Nat.zero_le _, Nat.zero_le _⟩ [0] rfl [] rfl 0 2 rfl rfl rfl hl.1 rfl (Nat.le_of_ble_eq_true rfl) dX2_partFrom_43 ?_
      refine lv_lstore (lv' := [(8, .long q6), (6, .long x2), (4, .long x1), (0, .ref h_g), (1, .long a0), (3, .int a1)]) hx hb dX2_partFrom_46 hl (by decide) rfl (fun ls hl => ?_)
      refine lv_lload hx hb dX2_partFrom_48 (lv_at hl 0 rfl) ?_
      refine lv_lload hx hb dX2_partFrom_50 (lv_at hl 1 rfl) ?_
      refine lv_land hx hb dX2_partFrom_52 ?_
      refine lv_lconst (v := (0 : Int64)) hx hb dX2_partFrom_53 (by decide) ?_
      refine W.lcmp hx hb dX2_partFrom_54 ?_
      refine lv_if_ne (tgt := 63) hx hb dX2_partFrom_55 (by decide) (fun c7 => ?_) (fun c7 => ?_)
      · have c7 := cmp_f c7
        have hr := ite_n hr c7
        refine lv_lconst (v := (0 : Int64)) hx hb dX2_partFrom_63 (by decide) ?_
        obtain rfl := Option.some.inj hr
        exact kret _ _ dX2_partFrom_64
      · have c7 := cmp_t c7
        have hr := ite_p hr c7
        refine lv_lload hx hb dX2_partFrom_58 (lv_at hl 0 rfl) ?_
        refine lv_goto (tgt := 64) hx hb dX2_partFrom_60 (by decide) ?_
        obtain rfl := Option.some.inj hr
        exact kret _ _ dX2_partFrom_64
    · have c5 := cmp_f c5
      have hr := ite_n hr c5
      refine lv_lconst (v := (0 : Int64)) hx hb dX2_partFrom_37 (by decide) ?_
      obtain rfl := Option.some.inj hr
      exact kret _ _ dX2_partFrom_38

def f_X2_allBreathe (g_width : Int32) (g_all : Int64) (g_notFirstColumn : Int64) (g_notLastColumn : Int64) (a0 : Int64) (a1 : Int64) : Option (Int32) :=
  (f_X2_beside g_width g_all g_notFirstColumn g_notLastColumn a1).bind fun q1 =>
  (f_X2_spread g_width g_all g_notFirstColumn g_notLastColumn q1 a0).bind fun q2 =>
  if q2 = a0 then (
    some ((1 : Int32))
  )
  else (
    some ((0 : Int32))
  )

abbrev rm_X2_allBreathe : Room := { frames := 2, cells := 0, slots := 0, locals := 53 }
set_option maxHeartbeats 4000000 in
set_option maxRecDepth 100000 in
theorem c_X2_allBreathe (l : Launch) (dC : Nat → ClassId) (dI : Nat → Nat → Nat) (h_g : Nat) (g_width g_height g_size : Int32) (g_all g_notFirstColumn g_notLastColumn : Int64) (a0 : Int64) (a1 : Int64) (q : Int32) (hr : f_X2_allBreathe g_width g_all g_notFirstColumn g_notLastColumn a0 a1 = some q) : Met l yX2_allBreathe wsX2_allBreathe rm_X2_allBreathe (PrP (dC, dI) (wd_X2 h_g g_width g_height g_size g_all g_notFirstColumn g_notLastColumn) (td_X2) [.ref h_g, .long a0, .long a1]) (vp_Si (fun x => x = q)) 0 0 (fun _ => False) := by
  refine mkP_z (cc := cX2_allBreathe) (nL := 5) (by decide) rfl (Nat.le_of_ble_eq_true rfl) ?_
  intro p e R s m args below meth c H Q ls hRf hRl S hN hP hK hl kret
  have hl : lv_has ls 5 [(0, .ref h_g), (1, .long a0), (3, .long a1)] := hl
  obtain ⟨hx, hb, hml, hown, hts⟩ := S
  have hown : s.vm.findClass RX2 = some m.cls := hown
  have S : CallFix p m c cX2_allBreathe 5 s args wsX2_allBreathe RX2 := ⟨hx, hb, hml, hown, hts⟩
  unfold f_X2_allBreathe at hr
  refine lv_aload_n hx hb dX2_allBreathe_0 rfl (lv_at hl 0 rfl) ?_
  refine lv_aload_n hx hb dX2_allBreathe_1 rfl (lv_at hl 0 rfl) ?_
  refine lv_lload_n hx hb dX2_allBreathe_2 rfl (lv_at hl 2 rfl) ?_
  obtain ⟨q1, hq1, hr⟩ := bd_use hr
  refine pcV_l (As := [.long a1]) (rest := [.ref h_g]) S (c_X2_beside l dC dI h_g g_width g_height g_size g_all g_notFirstColumn g_notLastColumn a1 q1 hq1) (cwV 1 hts gX2_allBreathe_X2_beside rfl rfl rfl (by decide +kernel) ⟨Nat.le_trans (m := rm_X2_allBreathe.frames) (by decide) hRf, Nat.le_trans (m := rm_X2_allBreathe.locals) (by decide) hRl⟩) hN hP hK ⟨Nat.zero_le _, Nat.zero_le _⟩ [0] rfl [] rfl 0 2 rfl rfl rfl hl.1 rfl (Nat.le_of_ble_eq_true rfl) dX2_allBreathe_3 ?_
  refine lv_lload_n hx hb dX2_allBreathe_6 rfl (lv_at hl 1 rfl) ?_
  obtain ⟨q2, hq2, hr⟩ := bd_use hr
  refine pcV_l (As := [.long q1, .long a0]) (rest := []) S (c_X2_spread l dC dI h_g g_width g_height g_size g_all g_notFirstColumn g_notLastColumn q1 a0 q2 hq2) (cwV 2 hts gX2_allBreathe_X2_spread rfl rfl rfl (by decide +kernel) ⟨Nat.le_trans (m := rm_X2_allBreathe.frames) (by decide) hRf, Nat.le_trans (m := rm_X2_allBreathe.locals) (by decide) hRl⟩) hN hP hK ⟨Nat.zero_le _, Nat.zero_le _⟩ [0] rfl [] rfl 0 2 rfl rfl rfl hl.1 rfl (Nat.le_of_ble_eq_true rfl) dX2_allBreathe_7 ?_
  refine lv_lload_n hx hb dX2_allBreathe_10 rfl (lv_at hl 1 rfl) ?_
  refine W.lcmp hx hb dX2_allBreathe_11 ?_
  refine lv_if_ne (tgt := 19) hx hb dX2_allBreathe_12 (by decide) (fun c3 => ?_) (fun c3 => ?_)
  · have c3 := cmp_f c3
    have hr := ite_n hr c3
    refine lv_iconst (v := (0 : Int32)) hx hb dX2_allBreathe_19 (by decide) ?_
    obtain rfl := Option.some.inj hr
    exact kret _ _ dX2_allBreathe_20 nar_0
  · have c3 := cmp_t c3
    have hr := ite_p hr c3
    refine lv_iconst (v := (1 : Int32)) hx hb dX2_allBreathe_15 (by decide) ?_
    refine lv_goto (tgt := 20) hx hb dX2_allBreathe_16 (by decide) ?_
    obtain rfl := Option.some.inj hr
    exact kret _ _ dX2_allBreathe_20 nar_1

def lp_X2_nth_6 (g_size : Int32) (a0 : Int64) (a1 : Int32) : Nat → Int32 → Int32 → Option (Int32)
  | 0, _, _ => none
  | nF + 1, v1, v2 =>
    if g_size ≤ v2 then (
      some ((-1 : Int32))
    )
    else (
      (f_X2_holds a0 v2).bind fun q4 =>
      if q4 = 0 then (
        nm (v2 + 1) fun x6 =>
        lp_X2_nth_6 g_size a0 a1 nF v1 x6
      )
      else (
        if v1 = a1 then (
          some (v2)
        )
        else (
          nm (v1 + 1) fun x8 =>
          nm (v2 + 1) fun x9 =>
          lp_X2_nth_6 g_size a0 a1 nF x8 x9
        )
      )
    )

def f_X2_nth (g_size : Int32) (a0 : Int64) (a1 : Int32) : Option (Int32) :=
  lp_X2_nth_6 g_size a0 a1 FU (0 : Int32) (0 : Int32)

abbrev rm_X2_nth : Room := { frames := 1, cells := 0, slots := 0, locals := 22 }
set_option maxHeartbeats 4000000 in
set_option maxRecDepth 100000 in
theorem c_X2_nth (l : Launch) (dC : Nat → ClassId) (dI : Nat → Nat → Nat) (h_g : Nat) (g_width g_height g_size : Int32) (g_all g_notFirstColumn g_notLastColumn : Int64) (a0 : Int64) (a1 : Int32) (q : Int32) (hr : f_X2_nth g_size a0 a1 = some q) : Met l yX2_nth wsX2_nth rm_X2_nth (PrP (dC, dI) (wd_X2 h_g g_width g_height g_size g_all g_notFirstColumn g_notLastColumn) (td_X2) [.ref h_g, .long a0, .int a1]) (vp_Si (fun x => x = q)) 0 0 (fun _ => False) := by
  refine mkP_i (cc := cX2_nth) (nL := 6) (by decide) rfl (Nat.le_of_ble_eq_true rfl) ?_
  intro p e R s m args below meth c H Q ls hRf hRl S hN hP hK hl kret
  have hl : lv_has ls 6 [(0, .ref h_g), (1, .long a0), (3, .int a1)] := hl
  obtain ⟨hx, hb, hml, hown, hts⟩ := S
  have hown : s.vm.findClass RX2 = some m.cls := hown
  have S : CallFix p m c cX2_nth 6 s args wsX2_nth RX2 := ⟨hx, hb, hml, hown, hts⟩
  have huX2 : ∀ w ∈ u_ws RX2 TX2 6, w ∈ wsX2_nth := by decide +kernel
  have hf18 := hts (.fieldLink RX2 18 "EyeBoard$Grid" "size" "I") (by decide +kernel)
  unfold f_X2_nth at hr
  refine lv_iconst (v := (0 : Int32)) hx hb dX2_nth_0 (by decide) ?_
  refine lv_istore (lv' := [(4, .int (0 : Int32)), (0, .ref h_g), (1, .long a0), (3, .int a1)]) hx hb dX2_nth_1 hl (by decide) rfl (fun ls hl => ?_)
  refine lv_iconst (v := (0 : Int32)) hx hb dX2_nth_3 (by decide) ?_
  refine lv_istore (lv' := [(5, .int (0 : Int32)), (4, .int (0 : Int32)), (0, .ref h_g), (1, .long a0), (3, .int a1)]) hx hb dX2_nth_4 hl (by decide) rfl (fun ls hl => ?_)
  have llp_X2_nth_6 : ∀ (nF : Nat) (v1 : Int32) (v2 : Int32) , lp_X2_nth_6 g_size a0 a1 nF v1 v2 = some q → ∀ (ls : Array Slot), lv_has ls 6 [(0, .ref h_g), (1, .long a0), (3, .int a1), (4, .int v1), (5, .int v2)] → W p l e R s m args below meth c H [] 0 0 Q (F0 m 6 ls []) := by
    intro nF
    induction nF with
    | zero => intro v1 v2 hr; exact absurd hr (by simp [lp_X2_nth_6])
    | succ nF ih =>
      intro v1 v2 hr ls hl
      rw [lp_X2_nth_6] at hr
      refine lv_iload hx hb dX2_nth_6 (lv_at hl 4 rfl) ?_
      refine lv_aload_n hx hb dX2_nth_8 rfl (lv_at hl 0 rfl) ?_
      refine va_get (D := (dC, dI)) (ci := 2) (v := .int g_size) (C := RX2) (T := TX2) (N := 6) hx hb hts huX2 hown hK hP 0 rfl rfl 2 (by decide) hf18 (fun _ h9 => h9) rfl dX2_nth_9 ?_
      refine lv_icmp_ge (tgt := 42) hx hb dX2_nth_12 (by decide) (fun c3 => ?_) (fun c3 => ?_)
      · have hr := ite_p hr c3
        refine lv_iconst (v := (-1 : Int32)) hx hb dX2_nth_42 (by decide) ?_
        obtain rfl := Option.some.inj hr
        exact kret _ _ dX2_nth_43
      · have hr := ite_n hr c3
        refine lv_lload_n hx hb dX2_nth_15 rfl (lv_at hl 1 rfl) ?_
        refine lv_iload hx hb dX2_nth_16 (lv_at hl 4 rfl) ?_
        obtain ⟨q4, hq4, hr⟩ := bd_use hr
        refine pcS_i (As := [.long a0, .int v2]) (rest := []) S (c_X2_holds l dC dI a0 v2 q4 hq4) (va_cwS 2 hts gX2_nth_X2_holds rfl rfl rfl (by decide +kernel) ⟨Nat.le_trans (m := rm_X2_nth.frames) (by decide) hRf, Nat.le_trans (m := rm_X2_nth.locals) (by decide) hRl⟩) hN hP hK ⟨Nat.zero_le _, Nat.zero_le _⟩ rfl hl.1 rfl (Nat.le_of_ble_eq_true rfl) dX2_nth_18 ?_
        refine lv_if_eq (tgt := 36) hx hb dX2_nth_21 (by decide) (fun c5 => ?_) (fun c5 => ?_)
        · have hr := ite_p hr c5
          obtain ⟨x6, ex6, hr⟩ := nm_ex hr
          refine lv_iinc (v := x6) (lv' := [(5, .int x6), (0, .ref h_g), (1, .long a0), (3, .int a1), (4, .int v1)]) hx hb dX2_nth_36 hl (k := 4) rfl (by rw [ex6]; rfl) (by decide) rfl (fun ls hl => ?_)
          refine lv_goto (tgt := 6) hx hb dX2_nth_39 (by decide) ?_
          exact ih v1 x6 hr ls (lv_sub hl [1, 2, 3, 4, 0] rfl)
        · have hr := ite_n hr c5
          refine lv_iload hx hb dX2_nth_24 (lv_at hl 3 rfl) ?_
          refine lv_iload_n hx hb dX2_nth_26 rfl (lv_at hl 2 rfl) ?_
          refine lv_icmp_ne (tgt := 33) hx hb dX2_nth_27 (by decide) (fun c7 => ?_) (fun c7 => ?_)
          · have hr := ite_n hr c7
            obtain ⟨x8, ex8, hr⟩ := nm_ex hr
            refine lv_iinc (v := x8) (lv' := [(4, .int x8), (0, .ref h_g), (1, .long a0), (3, .int a1), (5, .int v2)]) hx hb dX2_nth_33 hl (k := 3) rfl (by rw [ex8]; rfl) (by decide) rfl (fun ls hl => ?_)
            obtain ⟨x9, ex9, hr⟩ := nm_ex hr
            refine lv_iinc (v := x9) (lv' := [(5, .int x9), (4, .int x8), (0, .ref h_g), (1, .long a0), (3, .int a1)]) hx hb dX2_nth_36 hl (k := 4) rfl (by rw [ex9]; rfl) (by decide) rfl (fun ls hl => ?_)
            refine lv_goto (tgt := 6) hx hb dX2_nth_39 (by decide) ?_
            exact ih x8 x9 hr ls (lv_sub hl [2, 3, 4, 1, 0] rfl)
          · have hr := ite_p hr c7
            refine lv_iload hx hb dX2_nth_30 (lv_at hl 4 rfl) ?_
            obtain rfl := Option.some.inj hr
            exact kret _ _ dX2_nth_32
  exact llp_X2_nth_6 FU (0 : Int32) (0 : Int32) hr ls (lv_sub hl [2, 3, 4, 1, 0] rfl)

def lp_X2_freeOf_20 (g_width : Int32) (g_size : Int32) (g_all : Int64) (g_notFirstColumn : Int64) (g_notLastColumn : Int64) (a0 : Int64) (a1 : Int64) (x1 : Int64) : Nat → Int64 → Int32 → Option (Int64)
  | 0, _, _ => none
  | nF + 1, v2, v3 =>
    if g_size ≤ v3 then (
      some (v2)
    )
    else (
      (f_X2_partFrom g_width g_all g_notFirstColumn g_notLastColumn x1 v3).bind fun q5 =>
      (f_X2_beside g_width g_all g_notFirstColumn g_notLastColumn q5).bind fun q6 =>
      if q6 &&& a0 = (0 : Int64) then (
        nm (v3 + 1) fun x8 =>
        lp_X2_freeOf_20 g_width g_size g_all g_notFirstColumn g_notLastColumn a0 a1 x1 nF v2 x8
      )
      else (
        if q6 &&& a1 = (0 : Int64) then (
          nm (v2 ||| q5) fun x11 =>
          nm (v3 + 1) fun x12 =>
          lp_X2_freeOf_20 g_width g_size g_all g_notFirstColumn g_notLastColumn a0 a1 x1 nF x11 x12
        )
        else (
          nm (v3 + 1) fun x10 =>
          lp_X2_freeOf_20 g_width g_size g_all g_notFirstColumn g_notLastColumn a0 a1 x1 nF v2 x10
        )
      )
    )

def f_X2_freeOf (g_width : Int32) (g_size : Int32) (g_all : Int64) (g_notFirstColumn : Int64) (g_notLastColumn : Int64) (a0 : Int64) (a1 : Int64) : Option (Int64) :=
  nm (g_all &&& ((a0 ||| a1) ^^^ (-1 : Int64))) fun x1 =>
  lp_X2_freeOf_20 g_width g_size g_all g_notFirstColumn g_notLastColumn a0 a1 x1 FU (0 : Int64) (0 : Int32)

abbrev rm_X2_freeOf : Room := { frames := 3, cells := 0, slots := 0, locals := 82 }
set_option maxHeartbeats 4000000 in
set_option maxRecDepth 100000 in
theorem c_X2_freeOf (l : Launch) (dC : Nat → ClassId) (dI : Nat → Nat → Nat) (h_g : Nat) (g_width g_height g_size : Int32) (g_all g_notFirstColumn g_notLastColumn : Int64) (a0 : Int64) (a1 : Int64) (q : Int64) (hr : f_X2_freeOf g_width g_size g_all g_notFirstColumn g_notLastColumn a0 a1 = some q) : Met l yX2_freeOf wsX2_freeOf rm_X2_freeOf (PrP (dC, dI) (wd_X2 h_g g_width g_height g_size g_all g_notFirstColumn g_notLastColumn) (td_X2) [.ref h_g, .long a0, .long a1]) (vp_Sl (fun x => x = q)) 0 0 (fun _ => False) := by
  refine mkP_l (cc := cX2_freeOf) (nL := 14) (by decide) rfl (Nat.le_of_ble_eq_true rfl) ?_
  intro p e R s m args below meth c H Q ls hRf hRl S hN hP hK hl kret
  have hl : lv_has ls 14 [(0, .ref h_g), (1, .long a0), (3, .long a1)] := hl
  obtain ⟨hx, hb, hml, hown, hts⟩ := S
  have hown : s.vm.findClass RX2 = some m.cls := hown
  have S : CallFix p m c cX2_freeOf 14 s args wsX2_freeOf RX2 := ⟨hx, hb, hml, hown, hts⟩
  have huX2 : ∀ w ∈ u_ws RX2 TX2 6, w ∈ wsX2_freeOf := by decide +kernel
  have hf21 := hts (.fieldLink RX2 21 "EyeBoard$Grid" "all" "J") (by decide +kernel)
  have hk25 := hts (.constantLong RX2 25 (-1 : Int64)) (by decide +kernel)
  have hf18 := hts (.fieldLink RX2 18 "EyeBoard$Grid" "size" "I") (by decide +kernel)
  unfold f_X2_freeOf at hr
  refine lv_aload_n hx hb dX2_freeOf_0 rfl (lv_at hl 0 rfl) ?_
  refine va_get (D := (dC, dI)) (ci := 2) (v := .long g_all) (C := RX2) (T := TX2) (N := 6) hx hb hts huX2 hown hK hP 0 rfl rfl 3 (by decide) hf21 (fun _ h9 => h9) rfl dX2_freeOf_1 ?_
  refine lv_lload_n hx hb dX2_freeOf_4 rfl (lv_at hl 1 rfl) ?_
  refine lv_lload_n hx hb dX2_freeOf_5 rfl (lv_at hl 2 rfl) ?_
  refine lv_lor hx hb dX2_freeOf_6 ?_
  refine W.ldc2 (v := (-1 : Int64)) hx hb hown hk25 rfl dX2_freeOf_7 ?_
  refine W.eq (g2 := F0 m 10 ls [.long (-1 : Int64), .long (a0 ||| a1), .long g_all]) rfl ?_
  refine lv_lxor hx hb dX2_freeOf_10 ?_
  refine lv_land hx hb dX2_freeOf_11 ?_
  refine lv_topl (fun x1 ex1 => ?_)
  have hr := nm_use hr ex1
  refine lv_lstore (lv' := [(5, .long x1), (0, .ref h_g), (1, .long a0), (3, .long a1)]) hx hb dX2_freeOf_12 hl (by decide) rfl (fun ls hl => ?_)
  refine lv_lconst (v := (0 : Int64)) hx hb dX2_freeOf_14 (by decide) ?_
  refine lv_lstore (lv' := [(7, .long (0 : Int64)), (5, .long x1), (0, .ref h_g), (1, .long a0), (3, .long a1)]) hx hb dX2_freeOf_15 hl (by decide) rfl (fun ls hl => ?_)
  refine lv_iconst (v := (0 : Int32)) hx hb dX2_freeOf_17 (by decide) ?_
  refine lv_istore (lv' := [(9, .int (0 : Int32)), (7, .long (0 : Int64)), (5, .long x1), (0, .ref h_g), (1, .long a0), (3, .long a1)]) hx hb dX2_freeOf_18 hl (by decide) rfl (fun ls hl => ?_)
  have llp_X2_freeOf_20 : ∀ (nF : Nat) (v2 : Int64) (v3 : Int32) , lp_X2_freeOf_20 g_width g_size g_all g_notFirstColumn g_notLastColumn a0 a1 x1 nF v2 v3 = some q → ∀ (ls : Array Slot), lv_has ls 14 [(0, .ref h_g), (1, .long a0), (3, .long a1), (5, .long x1), (7, .long v2), (9, .int v3)] → W p l e R s m args below meth c H [] 0 0 Q (F0 m 20 ls []) := by
    intro nF
    induction nF with
    | zero => intro v2 v3 hr; exact absurd hr (by simp [lp_X2_freeOf_20])
    | succ nF ih =>
      intro v2 v3 hr ls hl
      rw [lp_X2_freeOf_20] at hr
      refine lv_iload hx hb dX2_freeOf_20 (lv_at hl 5 rfl) ?_
      refine lv_aload_n hx hb dX2_freeOf_22 rfl (lv_at hl 0 rfl) ?_
      refine va_get (D := (dC, dI)) (ci := 2) (v := .int g_size) (C := RX2) (T := TX2) (N := 6) hx hb hts huX2 hown hK hP 0 rfl rfl 2 (by decide) hf18 (fun _ h9 => h9) rfl dX2_freeOf_23 ?_
      refine lv_icmp_ge (tgt := 78) hx hb dX2_freeOf_26 (by decide) (fun c4 => ?_) (fun c4 => ?_)
      · have hr := ite_p hr c4
        refine lv_lload hx hb dX2_freeOf_78 (lv_at hl 4 rfl) ?_
        obtain rfl := Option.some.inj hr
        exact kret _ _ dX2_freeOf_80
      · have hr := ite_n hr c4
        refine lv_aload_n hx hb dX2_freeOf_29 rfl (lv_at hl 0 rfl) ?_
        refine lv_lload hx hb dX2_freeOf_30 (lv_at hl 3 rfl) ?_
        refine lv_iload hx hb dX2_freeOf_32 (lv_at hl 5 rfl) ?_
        obtain ⟨q5, hq5, hr⟩ := bd_use hr
        refine pcV_l (As := [.long x1, .int v3]) (rest := []) S (c_X2_partFrom l dC dI h_g g_width g_height g_size g_all g_notFirstColumn g_notLastColumn x1 v3 q5 hq5) (cwV 2 hts gX2_freeOf_X2_partFrom rfl rfl rfl (by decide +kernel) ⟨Nat.le_trans (m := rm_X2_freeOf.frames) (by decide) hRf, Nat.le_trans (m := rm_X2_freeOf.locals) (by decide) hRl⟩) hN hP hK ⟨Nat.zero_le _, Nat.zero_le _⟩ [0] rfl [] rfl 0 2 rfl rfl rfl hl.1 rfl (Nat.le_of_ble_eq_true rfl) dX2_freeOf_34 ?_
        refine lv_lstore (lv' := [(10, .long q5), (0, .ref h_g), (1, .long a0), (3, .long a1), (5, .long x1), (7, .long v2), (9, .int v3)]) hx hb dX2_freeOf_37 hl (by decide) rfl (fun ls hl => ?_)
        refine lv_aload_n hx hb dX2_freeOf_39 rfl (lv_at hl 1 rfl) ?_
        refine lv_lload hx hb dX2_freeOf_40 (lv_at hl 0 rfl) ?_
        obtain ⟨q6, hq6, hr⟩ := bd_use hr
        refine pcV_l (As := [.long q5]) (rest := []) S (c_X2_beside l dC dI h_g g_width g_height g_size g_all g_notFirstColumn g_notLastColumn q5 q6 hq6) (cwV 1 hts gX2_freeOf_X2_beside rfl rfl rfl (by decide +kernel) ⟨Nat.le_trans (m := rm_X2_freeOf.frames) (by decide) hRf, Nat.le_trans (m := rm_X2_freeOf.locals) (by decide) hRl⟩) hN hP hK ⟨Nat.zero_le _, Nat.zero_le _⟩ [0] rfl [] rfl 0 2 rfl rfl rfl hl.1 rfl (Nat.le_of_ble_eq_true rfl) dX2_freeOf_42 ?_
        refine lv_lstore (lv' := [(12, .long q6), (10, .long q5), (0, .ref h_g), (1, .long a0), (3, .long a1), (5, .long x1), (7, .long v2), (9, .int v3)]) hx hb dX2_freeOf_45 hl (by decide) rfl (fun ls hl => ?_)
        refine lv_lload hx hb dX2_freeOf_47 (lv_at hl 0 rfl) ?_
        refine lv_lload_n hx hb dX2_freeOf_49 rfl (lv_at hl 3 rfl) ?_
        refine lv_land hx hb dX2_freeOf_50 ?_
        refine lv_lconst (v := (0 : Int64)) hx hb dX2_freeOf_51 (by decide) ?_
        refine W.lcmp hx hb dX2_freeOf_52 ?_
        refine lv_if_eq (tgt := 72) hx hb dX2_freeOf_53 (by decide) (fun c7 => ?_) (fun c7 => ?_)
        · have c7 := cmp_t c7
          have hr := ite_p hr c7
          obtain ⟨x8, ex8, hr⟩ := nm_ex hr
          refine lv_iinc (v := x8) (lv' := [(9, .int x8), (12, .long q6), (10, .long q5), (0, .ref h_g), (1, .long a0), (3, .long a1), (5, .long x1), (7, .long v2)]) hx hb dX2_freeOf_72 hl (k := 7) rfl (by rw [ex8]; rfl) (by decide) rfl (fun ls hl => ?_)
          refine lv_goto (tgt := 20) hx hb dX2_freeOf_75 (by decide) ?_
          exact ih v2 x8 hr ls (lv_sub hl [3, 4, 5, 6, 7, 0] rfl)
        · have c7 := cmp_f c7
          have hr := ite_n hr c7
          refine lv_lload hx hb dX2_freeOf_56 (lv_at hl 0 rfl) ?_
          refine lv_lload_n hx hb dX2_freeOf_58 rfl (lv_at hl 4 rfl) ?_
          refine lv_land hx hb dX2_freeOf_59 ?_
          refine lv_lconst (v := (0 : Int64)) hx hb dX2_freeOf_60 (by decide) ?_
          refine W.lcmp hx hb dX2_freeOf_61 ?_
          refine lv_if_ne (tgt := 72) hx hb dX2_freeOf_62 (by decide) (fun c9 => ?_) (fun c9 => ?_)
          · have c9 := cmp_f c9
            have hr := ite_n hr c9
            obtain ⟨x10, ex10, hr⟩ := nm_ex hr
            refine lv_iinc (v := x10) (lv' := [(9, .int x10), (12, .long q6), (10, .long q5), (0, .ref h_g), (1, .long a0), (3, .long a1), (5, .long x1), (7, .long v2)]) hx hb dX2_freeOf_72 hl (k := 7) rfl (by rw [ex10]; rfl) (by decide) rfl (fun ls hl => ?_)
            refine lv_goto (tgt := 20) hx hb dX2_freeOf_75 (by decide) ?_
            exact ih v2 x10 hr ls (lv_sub hl [3, 4, 5, 6, 7, 0] rfl)
          · have c9 := cmp_t c9
            have hr := ite_p hr c9
            refine lv_lload hx hb dX2_freeOf_65 (lv_at hl 6 rfl) ?_
            refine lv_lload hx hb dX2_freeOf_67 (lv_at hl 1 rfl) ?_
            refine lv_lor hx hb dX2_freeOf_69 ?_
            refine lv_topl (fun x11 ex11 => ?_)
            have hr := nm_use hr ex11
            refine lv_lstore (lv' := [(7, .long x11), (12, .long q6), (10, .long q5), (0, .ref h_g), (1, .long a0), (3, .long a1), (5, .long x1), (9, .int v3)]) hx hb dX2_freeOf_70 hl (by decide) rfl (fun ls hl => ?_)
            obtain ⟨x12, ex12, hr⟩ := nm_ex hr
            refine lv_iinc (v := x12) (lv' := [(9, .int x12), (7, .long x11), (12, .long q6), (10, .long q5), (0, .ref h_g), (1, .long a0), (3, .long a1), (5, .long x1)]) hx hb dX2_freeOf_72 hl (k := 7) rfl (by rw [ex12]; rfl) (by decide) rfl (fun ls hl => ?_)
            refine lv_goto (tgt := 20) hx hb dX2_freeOf_75 (by decide) ?_
            exact ih x11 x12 hr ls (lv_sub hl [4, 5, 6, 7, 1, 0] rfl)
  exact llp_X2_freeOf_20 FU (0 : Int64) (0 : Int32) hr ls (lv_sub hl [3, 4, 5, 2, 1, 0] rfl)

