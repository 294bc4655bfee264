def lp_X1_takenIn_29 (n_row : Nat) (fi_target : Int32) (fi_attacked : Int32) (g_width : Int32) (g_size : Int32) (g_all : Int64) (g_notFirstColumn : Int64) (g_notLastColumn : Int64) (row_law : Int32) (row_opener : Int32) (a0 : Int32) (rc : Nat → Int32 → Int32 → Int32 → Int32 → Int32 → Int64 → Int64 → Int64 → Int32 → Int32 → Int32 → Int64 → Int64 → (Nat → Int64) → (Nat → Int64) → (Nat → Int32) → Int32 → Int32 → Option (Int32 × Int32 × Int32 × Int64 × Int64 × (Nat → Int64) × (Nat → Int64) × (Nat → Int32) × Int32)) (u3 : Int32) : Nat → Int32 → Int32 → Int32 → Int64 → Int64 → (Nat → Int64) → (Nat → Int64) → (Nat → Int32) → Int32 → Option (Int32 × Int32 × Int32 × Int64 × Int64 × (Nat → Int64) × (Nat → Int64) × (Nat → Int32) × Int32)
  | 0, _, _, _, _, _, _, _, _, _ => none
  | nF + 1, v5, w6, w7, w8, w9, w10, w11, w12, w13 =>
    if g_size < v5 then (
      some (u3, w6, w7, w8, w9, w10, w11, w12, w13)
    )
    else (
      (f_X4_add n_row row_law w7 row_opener w8 w9 g_width g_size g_all g_notFirstColumn g_notLastColumn w10 w11 w12 v5).bind fun q15 =>
      if q15.1 = 0 then (
        nm (v5 + 1) fun x33 =>
        lp_X1_takenIn_29 n_row fi_target fi_attacked g_width g_size g_all g_notFirstColumn g_notLastColumn row_law row_opener a0 rc u3 nF x33 w6 q15.2.1 q15.2.2.1 q15.2.2.2.1 q15.2.2.2.2.1 q15.2.2.2.2.2.1 q15.2.2.2.2.2.2 w13
      )
      else (
        (f_X5_oneMore w13).bind fun q17 =>
        nm (fun (w18 : Int32) (w19 : Int32) (w20 : Int64) (w21 : Int64) (w22 : Nat → Int64) (w23 : Nat → Int64) (w24 : Nat → Int32) (w25 : Int32) (u26 : Int32) =>
        (f_X4_takeBack w19).bind fun q28 =>
        if u26 = u3 then (
          nm (v5 + 1) fun x30 =>
          lp_X1_takenIn_29 n_row fi_target fi_attacked g_width g_size g_all g_notFirstColumn g_notLastColumn row_law row_opener a0 rc u3 nF x30 w18 q28 w20 w21 w22 w23 w24 w25
        )
        else (
          some (u26, v5, q28, w20, w21, w22, w23, w24, w25)
        )
        ) fun K27 =>
        if q17.1 = 0 then (
          K27 w6 q15.2.1 q15.2.2.1 q15.2.2.2.1 q15.2.2.2.2.1 q15.2.2.2.2.2.1 q15.2.2.2.2.2.2 q17.2 (-5 : Int32)
        )
        else (
          (rc n_row fi_target fi_attacked w6 g_width g_size g_all g_notFirstColumn g_notLastColumn row_law q15.2.1 row_opener q15.2.2.1 q15.2.2.2.1 q15.2.2.2.2.1 q15.2.2.2.2.2.1 q15.2.2.2.2.2.2 q17.2 a0).bind fun q32 =>
          K27 q32.2.1 q32.2.2.1 q32.2.2.2.1 q32.2.2.2.2.1 q32.2.2.2.2.2.1 q32.2.2.2.2.2.2.1 q32.2.2.2.2.2.2.2.1 q32.2.2.2.2.2.2.2.2 q32.1
        )
      )
    )

def f_X1_takenIn (rc : Nat → Int32 → Int32 → Int32 → Int32 → Int32 → Int64 → Int64 → Int64 → Int32 → Int32 → Int32 → Int64 → Int64 → (Nat → Int64) → (Nat → Int64) → (Nat → Int32) → Int32 → Int32 → Option (Int32 × Int32 × Int32 × Int64 × Int64 × (Nat → Int64) × (Nat → Int64) × (Nat → Int32) × Int32)) (n_row : Nat) (fi_target : Int32) (fi_attacked : Int32) (fi_decidingAct : Int32) (g_width : Int32) (g_size : Int32) (g_all : Int64) (g_notFirstColumn : Int64) (g_notLastColumn : Int64) (row_law : Int32) (row_latest : Int32) (row_opener : Int32) (row_blackThen : Int64) (row_whiteThen : Int64) (bl : Nat → Int64) (wh : Nat → Int64) (ac : Nat → Int32) (t_made : Int32) (a0 : Int32) : Option (Int32 × Int32 × Int32 × Int64 × Int64 × (Nat → Int64) × (Nat → Int64) × (Nat → Int32) × Int32) :=
  if (1 : Int32) ≤ a0 then (
    (f_X4_mover row_latest row_opener).bind fun q2 =>
    nm (fun (u3 : Int32) =>
    lp_X1_takenIn_29 n_row fi_target fi_attacked g_width g_size g_all g_notFirstColumn g_notLastColumn row_law row_opener a0 rc u3 FU (0 : Int32) fi_decidingAct row_latest row_blackThen row_whiteThen bl wh ac t_made
    ) fun K4 =>
    if q2 = fi_attacked then (
      K4 (1 : Int32)
    )
    else (
      K4 (0 : Int32)
    )
  )
  else (
    some ((0 : Int32), fi_decidingAct, row_latest, row_blackThen, row_whiteThen, bl, wh, ac, t_made)
  )

abbrev rm_X1_takenIn : Room := { frames := 4, cells := 0, slots := 0, locals := 104 }
set_option maxHeartbeats 4000000 in
set_option maxRecDepth 100000 in
theorem c_X1_takenIn (l : Launch) (dC : Nat → ClassId) (dI : Nat → Nat → Nat) (rc : Nat → Int32 → Int32 → Int32 → Int32 → Int32 → Int64 → Int64 → Int64 → Int32 → Int32 → Int32 → Int64 → Int64 → (Nat → Int64) → (Nat → Int64) → (Nat → Int32) → Int32 → Int32 → Option (Int32 × Int32 × Int32 × Int64 × Int64 × (Nat → Int64) × (Nat → Int64) × (Nat → Int32) × Int32)) (rm rmr : Room) (hfr : rm_X1_takenIn.frames ≤ rm.frames) (hlo : rm_X1_takenIn.locals ≤ rm.locals) (hrf : rmr.frames + 1 ≤ rm.frames) (hrl : 8 + (2 + 11) + rmr.locals ≤ rm.locals) (hrc : rmr.cells = 0) (hrs : rmr.slots = 0) (hrec : ∀ (h_fi h_g h_row h_bl h_wh h_ac h_t : Nat) (c_bl c_wh c_ac : ClassId) (n_row : Nat) (fi_target fi_attacked fi_decidingAct g_width g_height g_size : Int32) (g_all g_notFirstColumn g_notLastColumn : Int64) (row_law row_latest row_opener : Int32) (row_blackThen row_whiteThen : Int64) (bl wh : Nat → Int64) (ac : Nat → Int32) (t_made : Int32) (sz : Nat) (a0 : Int32) (q : Int32 × Int32 × Int32 × Int64 × Int64 × (Nat → Int64) × (Nat → Int64) × (Nat → Int32) × Int32), rc n_row fi_target fi_attacked fi_decidingAct g_width g_size g_all g_notFirstColumn g_notLastColumn row_law row_latest row_opener row_blackThen row_whiteThen bl wh ac t_made a0 = some q → Met l yX1_takenBehindAct wsX1_takenBehindAct rmr (PrI (dC, dI) (wd_X1 h_fi h_g h_row h_bl h_wh h_ac h_t c_bl c_wh c_ac n_row fi_target fi_attacked fi_decidingAct g_width g_height g_size g_all g_notFirstColumn g_notLastColumn row_law row_latest row_opener row_blackThen row_whiteThen bl wh ac t_made) (td_X1 c_bl c_wh c_ac) sz [.ref h_fi, .int a0]) (QIi (dC, dI) (wd_X1 h_fi h_g h_row h_bl h_wh h_ac h_t c_bl c_wh c_ac n_row fi_target fi_attacked fi_decidingAct g_width g_height g_size g_all g_notFirstColumn g_notLastColumn row_law row_latest row_opener row_blackThen row_whiteThen bl wh ac t_made) (td_X1 c_bl c_wh c_ac) sz q.1 (wd_X1 h_fi h_g h_row h_bl h_wh h_ac h_t c_bl c_wh c_ac n_row fi_target fi_attacked q.2.1 g_width g_height g_size g_all g_notFirstColumn g_notLastColumn row_law q.2.2.1 row_opener q.2.2.2.1 q.2.2.2.2.1 q.2.2.2.2.2.1 q.2.2.2.2.2.2.1 q.2.2.2.2.2.2.2.1 q.2.2.2.2.2.2.2.2)) 0 0 (va_A (wd_X1 h_fi h_g h_row h_bl h_wh h_ac h_t c_bl c_wh c_ac n_row fi_target fi_attacked fi_decidingAct g_width g_height g_size g_all g_notFirstColumn g_notLastColumn row_law row_latest row_opener row_blackThen row_whiteThen bl wh ac t_made) sz)) (h_fi h_g h_row h_bl h_wh h_ac h_t : Nat) (c_bl c_wh c_ac : ClassId) (n_row : Nat) (fi_target fi_attacked fi_decidingAct g_width g_height g_size : Int32) (g_all g_notFirstColumn g_notLastColumn : Int64) (row_law row_latest row_opener : Int32) (row_blackThen row_whiteThen : Int64) (bl wh : Nat → Int64) (ac : Nat → Int32) (t_made : Int32) (sz : Nat) (a0 : Int32) (q : Int32 × Int32 × Int32 × Int64 × Int64 × (Nat → Int64) × (Nat → Int64) × (Nat → Int32) × Int32) (hr : f_X1_takenIn rc n_row fi_target fi_attacked fi_decidingAct g_width g_size g_all g_notFirstColumn g_notLastColumn row_law row_latest row_opener row_blackThen row_whiteThen bl wh ac t_made a0 = some q) : Met l yX1_takenIn wsX1_takenIn rm (PrI (dC, dI) (wd_X1 h_fi h_g h_row h_bl h_wh h_ac h_t c_bl c_wh c_ac n_row fi_target fi_attacked fi_decidingAct g_width g_height g_size g_all g_notFirstColumn g_notLastColumn row_law row_latest row_opener row_blackThen row_whiteThen bl wh ac t_made) (td_X1 c_bl c_wh c_ac) sz [.ref h_fi, .int a0]) (QIi (dC, dI) (wd_X1 h_fi h_g h_row h_bl h_wh h_ac h_t c_bl c_wh c_ac n_row fi_target fi_attacked fi_decidingAct g_width g_height g_size g_all g_notFirstColumn g_notLastColumn row_law row_latest row_opener row_blackThen row_whiteThen bl wh ac t_made) (td_X1 c_bl c_wh c_ac) sz q.1 (wd_X1 h_fi h_g h_row h_bl h_wh h_ac h_t c_bl c_wh c_ac n_row fi_target fi_attacked q.2.1 g_width g_height g_size g_all g_notFirstColumn g_notLastColumn row_law q.2.2.1 row_opener q.2.2.2.1 q.2.2.2.2.1 q.2.2.2.2.2.1 q.2.2.2.2.2.2.1 q.2.2.2.2.2.2.2.1 q.2.2.2.2.2.2.2.2)) 0 0 (va_A (wd_X1 h_fi h_g h_row h_bl h_wh h_ac h_t c_bl c_wh c_ac n_row fi_target fi_attacked fi_decidingAct g_width g_height g_size g_all g_notFirstColumn g_notLastColumn row_law row_latest row_opener row_blackThen row_whiteThen bl wh ac t_made) sz) := by
  refine mkI_i (cc := cX1_takenIn) (nL := 5) (by decide) rfl (Nat.le_of_ble_eq_true rfl) ?_
  intro p e R s m args below meth c H0 H locs A Q ls hRf hRl S hN hP hK hD hA hS hl kret
  have hl : lv_has ls 5 [(0, .ref h_fi), (1, .int a0)] := hl
  obtain ⟨hx, hb, hml, hown, hts⟩ := S
  have hown : s.vm.findClass RX1 = some m.cls := hown
  have S : CallFix p m c cX1_takenIn 5 s args wsX1_takenIn RX1 := ⟨hx, hb, hml, hown, hts⟩
  have hRf0 := hRf
  have hRl0 := hRl
  have hRf : rm_X1_takenIn.frames ≤ R.frames := Nat.le_trans hfr hRf
  have hRl : rm_X1_takenIn.locals ≤ R.locals := Nat.le_trans hlo hRl
  have huX1 : ∀ w ∈ u_ws RX1 TX1 6, w ∈ wsX1_takenIn := by decide +kernel
  have hf15 := hts (.fieldLink RX1 15 "EyeBoard$Fight" "row" "LEyeBoard$Row;") (by decide +kernel)
  have hf33 := hts (.fieldLink RX1 33 "EyeBoard$Fight" "attacked" "I") (by decide +kernel)
  have hf9 := hts (.fieldLink RX1 9 "EyeBoard$Fight" "grid" "LEyeBoard$Grid;") (by decide +kernel)
  have huX2 : ∀ w ∈ u_ws RX2 TX2 6, w ∈ wsX1_takenIn := by decide +kernel
  have hf51 := hts (.fieldLink RX1 51 "EyeBoard$Grid" "size" "I") (by decide +kernel)
  have hf19 := hts (.fieldLink RX1 19 "EyeBoard$Fight" "tried" "LEyeBoard$Tries;") (by decide +kernel)
  have hf36 := hts (.fieldLink RX1 36 "EyeBoard$Fight" "decidingAct" "I") (by decide +kernel)
  unfold f_X1_takenIn at hr
  refine lv_iload_n hx hb dX1_takenIn_0 rfl (lv_at hl 1 rfl) ?_
  refine lv_iconst (v := (1 : Int32)) hx hb dX1_takenIn_1 (by decide) ?_
  refine lv_icmp_ge (tgt := 7) hx hb dX1_takenIn_2 (by decide) (fun c1 => ?_) (fun c1 => ?_)
  · have hr := ite_p hr c1
    refine lv_aload_n hx hb dX1_takenIn_7 rfl (lv_at hl 0 rfl) ?_
    refine va_get (D := (dC, dI)) (ci := 1) (v := .ref h_row) (C := RX1) (T := TX1) (N := 6) hx hb hts huX1 hown hK hP 0 rfl rfl 1 (by decide) hf15 (fun _ h9 => h9) rfl dX1_takenIn_8 ?_
    obtain ⟨q2, hq2, hr⟩ := bd_use hr
    refine pcV_i (As := []) (rest := []) S (c_X4_mover l dC dI h_row h_g h_bl h_wh h_ac c_bl c_wh c_ac n_row row_law row_latest row_opener row_blackThen row_whiteThen g_width g_height g_size g_all g_notFirstColumn g_notLastColumn bl wh ac q2 hq2) (cwV 0 hts gX1_takenIn_X4_mover rfl rfl rfl (by decide +kernel) ⟨Nat.le_trans (m := rm_X1_takenIn.frames) (by decide) hRf, Nat.le_trans (m := rm_X1_takenIn.locals) (by decide) hRl⟩) hN hP hK ⟨Nat.zero_le _, Nat.zero_le _⟩ [2, 1, 3, 4, 5] rfl [0, 1, 2] rfl 2 4 rfl rfl rfl hl.1 rfl (Nat.le_of_ble_eq_true rfl) dX1_takenIn_11 ?_
    refine lv_aload_n hx hb dX1_takenIn_14 rfl (lv_at hl 0 rfl) ?_
    refine va_get (D := (dC, dI)) (ci := 1) (v := .int fi_attacked) (C := RX1) (T := TX1) (N := 6) hx hb hts huX1 hown hK hP 0 rfl rfl 4 (by decide) hf33 (fun _ h9 => h9) rfl dX1_takenIn_15 ?_
    obtain ⟨K4, eK4, hr⟩ := nm_ex hr
    have kK4 : ∀ (u3 : Int32) (H : Heap) (locs : List Loc) , K4 u3 = some q → va_P (dC, dI) vwCl (wd_X1 h_fi h_g h_row h_bl h_wh h_ac h_t c_bl c_wh c_ac n_row fi_target fi_attacked fi_decidingAct g_width g_height g_size g_all g_notFirstColumn g_notLastColumn row_law row_latest row_opener row_blackThen row_whiteThen bl wh ac t_made) H → va_D A (wd_X1 h_fi h_g h_row h_bl h_wh h_ac h_t c_bl c_wh c_ac n_row fi_target fi_attacked fi_decidingAct g_width g_height g_size g_all g_notFirstColumn g_notLastColumn row_law row_latest row_opener row_blackThen row_whiteThen bl wh ac t_made) → va_S A H0 H locs → ∀ (ls : Array Slot), lv_has ls 5 [(0, .ref h_fi), (1, .int a0)] → W p l e R s m args below meth c H locs 0 0 Q (F0 m 26 ls [.int u3]) := by
      intro u3 H locs hr hP hD hS ls hl
      rw [eK4] at hr
      refine lv_istore_n (lv' := [(2, .int u3), (0, .ref h_fi), (1, .int a0)]) hx hb dX1_takenIn_26 rfl hl (by decide) rfl (fun ls hl => ?_)
      refine lv_iconst (v := (0 : Int32)) hx hb dX1_takenIn_27 (by decide) ?_
      refine lv_istore_n (lv' := [(3, .int (0 : Int32)), (2, .int u3), (0, .ref h_fi), (1, .int a0)]) hx hb dX1_takenIn_28 rfl hl (by decide) rfl (fun ls hl => ?_)
      have llp_X1_takenIn_29 : ∀ (nF : Nat) (v5 : Int32) (w6 : Int32) (w7 : Int32) (w8 : Int64) (w9 : Int64) (w10 : Nat → Int64) (w11 : Nat → Int64) (w12 : Nat → Int32) (w13 : Int32) (H : Heap) (locs : List Loc), lp_X1_takenIn_29 n_row fi_target fi_attacked g_width g_size g_all g_notFirstColumn g_notLastColumn row_law row_opener a0 rc u3 nF v5 w6 w7 w8 w9 w10 w11 w12 w13 = some q → va_P (dC, dI) vwCl (wd_X1 h_fi h_g h_row h_bl h_wh h_ac h_t c_bl c_wh c_ac n_row fi_target fi_attacked w6 g_width g_height g_size g_all g_notFirstColumn g_notLastColumn row_law w7 row_opener w8 w9 w10 w11 w12 w13) H → va_D A (wd_X1 h_fi h_g h_row h_bl h_wh h_ac h_t c_bl c_wh c_ac n_row fi_target fi_attacked w6 g_width g_height g_size g_all g_notFirstColumn g_notLastColumn row_law w7 row_opener w8 w9 w10 w11 w12 w13) → va_S A H0 H locs → ∀ (ls : Array Slot), lv_has ls 5 [(0, .ref h_fi), (1, .int a0), (2, .int u3), (3, .int v5)] → W p l e R s m args below meth c H locs 0 0 Q (F0 m 29 ls []) := by
        intro nF
        induction nF with
        | zero => intro v5 w6 w7 w8 w9 w10 w11 w12 w13 H locs hr; exact absurd hr (by simp [lp_X1_takenIn_29])
        | succ nF ih =>
          intro v5 w6 w7 w8 w9 w10 w11 w12 w13 H locs hr hP hD hS ls hl
          rw [lp_X1_takenIn_29] at hr
          refine lv_iload_n hx hb dX1_takenIn_29 rfl (lv_at hl 3 rfl) ?_
          refine lv_aload_n hx hb dX1_takenIn_30 rfl (lv_at hl 0 rfl) ?_
          refine va_get (D := (dC, dI)) (ci := 1) (v := .ref h_g) (C := RX1) (T := TX1) (N := 6) hx hb hts huX1 hown hK hP 0 rfl rfl 0 (by decide) hf9 (fun _ h9 => h9) rfl dX1_takenIn_31 ?_
          refine va_get (D := (dC, dI)) (ci := 2) (v := .int g_size) (C := RX2) (T := TX2) (N := 6) hx hb hts huX2 hown hK hP 1 rfl rfl 2 (by decide) hf51 (fun _ h9 => h9) rfl dX1_takenIn_34 ?_
          refine lv_icmp_gt (tgt := 103) hx hb dX1_takenIn_37 (by decide) (fun c14 => ?_) (fun c14 => ?_)
          · have hr := ite_p hr c14
            refine lv_iload_n hx hb dX1_takenIn_103 rfl (lv_at hl 2 rfl) ?_
            obtain rfl := Option.some.inj hr
            exact kret _ _ _ _ dX1_takenIn_104 hP hD hS
          · have hr := ite_n hr c14
            refine lv_aload_n hx hb dX1_takenIn_40 rfl (lv_at hl 0 rfl) ?_
            refine va_get (D := (dC, dI)) (ci := 1) (v := .ref h_row) (C := RX1) (T := TX1) (N := 6) hx hb hts huX1 hown hK hP 0 rfl rfl 1 (by decide) hf15 (fun _ h9 => h9) rfl dX1_takenIn_41 ?_
            refine lv_iload_n hx hb dX1_takenIn_44 rfl (lv_at hl 3 rfl) ?_
            obtain ⟨q15, hq15, hr⟩ := bd_use hr
            refine icV_i (As := [.int v5]) (rest := []) (ws2 := (wd_X1 h_fi h_g h_row h_bl h_wh h_ac h_t c_bl c_wh c_ac n_row fi_target fi_attacked w6 g_width g_height g_size g_all g_notFirstColumn g_notLastColumn row_law q15.2.1 row_opener q15.2.2.1 q15.2.2.2.1 q15.2.2.2.2.1 q15.2.2.2.2.2.1 q15.2.2.2.2.2.2 w13)) S (c_X4_add l dC dI h_row h_g h_bl h_wh h_ac c_bl c_wh c_ac n_row row_law w7 row_opener w8 w9 g_width g_height g_size g_all g_notFirstColumn g_notLastColumn w10 w11 w12 H.size v5 q15 hq15) (cwV 1 hts gX1_takenIn_X4_add rfl rfl rfl (by decide +kernel) ⟨Nat.le_trans (m := rm_X1_takenIn.frames) (by decide) hRf, Nat.le_trans (m := rm_X1_takenIn.locals) (by decide) hRl⟩) hN hP hK hD hS hA ⟨Nat.zero_le _, Nat.zero_le _⟩ [2, 1, 3, 4, 5] [0, 6] [0, 3, 2, 4, 5, 6, 1] rfl rfl rfl rfl rfl (by decide) rfl rfl rfl [0, 1, 2] rfl 2 4 rfl rfl rfl hl.1 rfl (Nat.le_of_ble_eq_true rfl) dX1_takenIn_45 (fun H locs hP hD hS => ?_)
            refine lv_if_ne (tgt := 54) hx hb dX1_takenIn_48 (by decide) (fun c16 => ?_) (fun c16 => ?_)
            · have hr := ite_n hr c16
              refine lv_aload_n hx hb dX1_takenIn_54 rfl (lv_at hl 0 rfl) ?_
              refine va_get (D := (dC, dI)) (ci := 1) (v := .ref h_t) (C := RX1) (T := TX1) (N := 6) hx hb hts huX1 hown hK hP 0 rfl rfl 2 (by decide) hf19 (fun _ h9 => h9) rfl dX1_takenIn_55 ?_
              obtain ⟨q17, hq17, hr⟩ := bd_use hr
              refine icV_i (As := []) (rest := []) (ws2 := (wd_X1 h_fi h_g h_row h_bl h_wh h_ac h_t c_bl c_wh c_ac n_row fi_target fi_attacked w6 g_width g_height g_size g_all g_notFirstColumn g_notLastColumn row_law q15.2.1 row_opener q15.2.2.1 q15.2.2.2.1 q15.2.2.2.2.1 q15.2.2.2.2.2.1 q15.2.2.2.2.2.2 q17.2)) S (c_X5_oneMore l dC dI h_t w13 H.size q17 hq17) (cwV 0 hts gX1_takenIn_X5_oneMore rfl rfl rfl (by decide +kernel) ⟨Nat.le_trans (m := rm_X1_takenIn.frames) (by decide) hRf, Nat.le_trans (m := rm_X1_takenIn.locals) (by decide) hRl⟩) hN hP hK hD hS hA ⟨Nat.zero_le _, Nat.zero_le _⟩ [6] [0, 1, 2, 3, 4, 5] [0, 1, 2, 3, 4, 5, 6] rfl rfl rfl rfl rfl (by decide) rfl rfl rfl [] rfl 6 5 rfl rfl rfl hl.1 rfl (Nat.le_of_ble_eq_true rfl) dX1_takenIn_58 (fun H locs hP hD hS => ?_)
              obtain ⟨K27, eK27, hr⟩ := nm_ex hr
              have kK27 : ∀ (w18 : Int32) (w19 : Int32) (w20 : Int64) (w21 : Int64) (w22 : Nat → Int64) (w23 : Nat → Int64) (w24 : Nat → Int32) (w25 : Int32) (u26 : Int32) (H : Heap) (locs : List Loc) , K27 w18 w19 w20 w21 w22 w23 w24 w25 u26 = some q → va_P (dC, dI) vwCl (wd_X1 h_fi h_g h_row h_bl h_wh h_ac h_t c_bl c_wh c_ac n_row fi_target fi_attacked w18 g_width g_height g_size g_all g_notFirstColumn g_notLastColumn row_law w19 row_opener w20 w21 w22 w23 w24 w25) H → va_D A (wd_X1 h_fi h_g h_row h_bl h_wh h_ac h_t c_bl c_wh c_ac n_row fi_target fi_attacked w18 g_width g_height g_size g_all g_notFirstColumn g_notLastColumn row_law w19 row_opener w20 w21 w22 w23 w24 w25) → va_S A H0 H locs → ∀ (ls : Array Slot), lv_has ls 5 [(0, .ref h_fi), (1, .int a0), (2, .int u3), (3, .int v5)] → W p l e R s m args below meth c H locs 0 0 Q (F0 m 74 ls [.int u26]) := by
                intro w18 w19 w20 w21 w22 w23 w24 w25 u26 H locs hr hP hD hS ls hl
                rw [eK27] at hr
                refine lv_istore (lv' := [(4, .int u26), (0, .ref h_fi), (1, .int a0), (2, .int u3), (3, .int v5)]) hx hb dX1_takenIn_74 hl (by decide) rfl (fun ls hl => ?_)
                refine lv_aload_n hx hb dX1_takenIn_76 rfl (lv_at hl 1 rfl) ?_
                refine va_get (D := (dC, dI)) (ci := 1) (v := .ref h_row) (C := RX1) (T := TX1) (N := 6) hx hb hts huX1 hown hK hP 0 rfl rfl 1 (by decide) hf15 (fun _ h9 => h9) rfl dX1_takenIn_77 ?_
                obtain ⟨q28, hq28, hr⟩ := bd_use hr
                refine icV_v (As := []) (rest := []) (ws2 := (wd_X1 h_fi h_g h_row h_bl h_wh h_ac h_t c_bl c_wh c_ac n_row fi_target fi_attacked w18 g_width g_height g_size g_all g_notFirstColumn g_notLastColumn row_law q28 row_opener w20 w21 w22 w23 w24 w25)) S (c_X4_takeBack l dC dI h_row h_g h_bl h_wh h_ac c_bl c_wh c_ac n_row row_law w19 row_opener w20 w21 g_width g_height g_size g_all g_notFirstColumn g_notLastColumn w22 w23 w24 H.size q28 hq28) (cwV 0 hts gX1_takenIn_X4_takeBack rfl rfl rfl (by decide +kernel) ⟨Nat.le_trans (m := rm_X1_takenIn.frames) (by decide) hRf, Nat.le_trans (m := rm_X1_takenIn.locals) (by decide) hRl⟩) hN hP hK hD hS hA ⟨Nat.zero_le _, Nat.zero_le _⟩ [2, 1, 3, 4, 5] [0, 6] [0, 3, 2, 4, 5, 6, 1] rfl rfl rfl rfl rfl (by decide) rfl rfl rfl [0, 1, 2] rfl 2 4 rfl rfl rfl hl.1 rfl (Nat.le_of_ble_eq_true rfl) dX1_takenIn_80 (fun H locs hP hD hS => ?_)
                refine lv_iload hx hb dX1_takenIn_83 (lv_at hl 0 rfl) ?_
                refine lv_iload_n hx hb dX1_takenIn_85 rfl (lv_at hl 3 rfl) ?_
                refine lv_icmp_eq (tgt := 97) hx hb dX1_takenIn_86 (by decide) (fun c29 => ?_) (fun c29 => ?_)
                · have hr := ite_p hr c29
                  obtain ⟨x30, ex30, hr⟩ := nm_ex hr
                  refine lv_iinc (v := x30) (lv' := [(3, .int x30), (4, .int u26), (0, .ref h_fi), (1, .int a0), (2, .int u3)]) hx hb dX1_takenIn_97 hl (k := 4) rfl (by rw [ex30]; rfl) (by decide) rfl (fun ls hl => ?_)
                  refine lv_goto (tgt := 29) hx hb dX1_takenIn_100 (by decide) ?_
                  exact ih x30 w18 q28 w20 w21 w22 w23 w24 w25 _ _ hr hP hD hS ls (lv_sub hl [2, 3, 4, 0] rfl)
                · have hr := ite_n hr c29
                  refine lv_aload_n hx hb dX1_takenIn_89 rfl (lv_at hl 1 rfl) ?_
                  refine lv_iload_n hx hb dX1_takenIn_90 rfl (lv_at hl 4 rfl) ?_
                  refine va_put (D := (dC, dI)) (ci := 1) (v := .int v5) (ty := .int) (C := RX1) (T := TX1) (N := 6) hx hb hts huX1 tyX1 tyX1_ok nmX1 hown hK hP hD hS 0 rfl rfl 5 (by decide) hf36 (fun _ h9 => h9) rfl (by decide +kernel) rfl rfl (Nat.le_of_ble_eq_true rfl) dX1_takenIn_91 (fun H locs hP hD hS => ?_)
                  have hP : va_P (dC, dI) vwCl (wd_X1 h_fi h_g h_row h_bl h_wh h_ac h_t c_bl c_wh c_ac n_row fi_target fi_attacked v5 g_width g_height g_size g_all g_notFirstColumn g_notLastColumn row_law q28 row_opener w20 w21 w22 w23 w24 w25) H := hP
                  have hD : va_D A (wd_X1 h_fi h_g h_row h_bl h_wh h_ac h_t c_bl c_wh c_ac n_row fi_target fi_attacked v5 g_width g_height g_size g_all g_notFirstColumn g_notLastColumn row_law q28 row_opener w20 w21 w22 w23 w24 w25) := hD
                  refine lv_iload hx hb dX1_takenIn_94 (lv_at hl 0 rfl) ?_
                  obtain rfl := Option.some.inj hr
                  exact kret _ _ _ _ dX1_takenIn_96 hP hD hS
              refine lv_if_eq (tgt := 72) hx hb dX1_takenIn_61 (by decide) (fun c31 => ?_) (fun c31 => ?_)
              · have hr := ite_p hr c31
                refine lv_bipush (v := (-5 : Int32)) hx hb dX1_takenIn_72 (by decide) ?_
                exact kK27 w6 q15.2.1 q15.2.2.1 q15.2.2.2.1 q15.2.2.2.2.1 q15.2.2.2.2.2.1 q15.2.2.2.2.2.2 q17.2 (-5 : Int32) _ _ hr hP hD hS ls (lv_sub hl [0, 1, 2, 3] rfl)
              · have hr := ite_n hr c31
                refine lv_aload_n hx hb dX1_takenIn_64 rfl (lv_at hl 0 rfl) ?_
                refine lv_iload_n hx hb dX1_takenIn_65 rfl (lv_at hl 1 rfl) ?_
                obtain ⟨q32, hq32, hr⟩ := bd_use hr
                refine icV_i (As := [.int a0]) (rest := []) (ws2 := (wd_X1 h_fi h_g h_row h_bl h_wh h_ac h_t c_bl c_wh c_ac n_row fi_target fi_attacked q32.2.1 g_width g_height g_size g_all g_notFirstColumn g_notLastColumn row_law q32.2.2.1 row_opener q32.2.2.2.1 q32.2.2.2.2.1 q32.2.2.2.2.2.1 q32.2.2.2.2.2.2.1 q32.2.2.2.2.2.2.2.1 q32.2.2.2.2.2.2.2.2)) S (hrec h_fi h_g h_row h_bl h_wh h_ac h_t c_bl c_wh c_ac n_row fi_target fi_attacked w6 g_width g_height g_size g_all g_notFirstColumn g_notLastColumn row_law q15.2.1 row_opener q15.2.2.1 q15.2.2.2.1 q15.2.2.2.2.1 q15.2.2.2.2.2.1 q15.2.2.2.2.2.2 q17.2 H.size a0 q32 hq32) (cwV 1 hts gX1_takenIn_X1_takenBehindAct rfl hrc hrs (by decide +kernel) ⟨Nat.le_trans hrf hRf0, Nat.le_trans hrl hRl0⟩) hN hP hK hD hS hA ⟨Nat.zero_le _, Nat.zero_le _⟩ [0, 1, 2, 3, 4, 5, 6] [] [0, 1, 2, 3, 4, 5, 6] rfl rfl rfl rfl rfl (by decide) rfl rfl rfl [0, 1, 2] rfl 0 1 rfl rfl rfl hl.1 rfl (Nat.le_of_ble_eq_true rfl) dX1_takenIn_66 (fun H locs hP hD hS => ?_)
                refine lv_goto (tgt := 74) hx hb dX1_takenIn_69 (by decide) ?_
                exact kK27 q32.2.1 q32.2.2.1 q32.2.2.2.1 q32.2.2.2.2.1 q32.2.2.2.2.2.1 q32.2.2.2.2.2.2.1 q32.2.2.2.2.2.2.2.1 q32.2.2.2.2.2.2.2.2 q32.1 _ _ hr hP hD hS ls (lv_sub hl [0, 1, 2, 3] rfl)
            · have hr := ite_p hr c16
              refine lv_goto (tgt := 97) hx hb dX1_takenIn_51 (by decide) ?_
              obtain ⟨x33, ex33, hr⟩ := nm_ex hr
              refine lv_iinc (v := x33) (lv' := [(3, .int x33), (0, .ref h_fi), (1, .int a0), (2, .int u3)]) hx hb dX1_takenIn_97 hl (k := 3) rfl (by rw [ex33]; rfl) (by decide) rfl (fun ls hl => ?_)
              refine lv_goto (tgt := 29) hx hb dX1_takenIn_100 (by decide) ?_
              exact ih x33 w6 q15.2.1 q15.2.2.1 q15.2.2.2.1 q15.2.2.2.2.1 q15.2.2.2.2.2.1 q15.2.2.2.2.2.2 w13 _ _ hr hP hD hS ls (lv_sub hl [1, 2, 3, 0] rfl)
      exact llp_X1_takenIn_29 FU (0 : Int32) fi_decidingAct row_latest row_blackThen row_whiteThen bl wh ac t_made _ _ hr hP hD hS ls (lv_sub hl [2, 3, 1, 0] rfl)
    refine lv_icmp_ne (tgt := 25) hx hb dX1_takenIn_18 (by decide) (fun c34 => ?_) (fun c34 => ?_)
    · have hr := ite_n hr c34
      refine lv_iconst (v := (0 : Int32)) hx hb dX1_takenIn_25 (by decide) ?_
      exact kK4 (0 : Int32) _ _ hr hP hD hS ls (lv_sub hl [0, 1] rfl)
    · have hr := ite_p hr c34
      refine lv_iconst (v := (1 : Int32)) hx hb dX1_takenIn_21 (by decide) ?_
      refine lv_goto (tgt := 26) hx hb dX1_takenIn_22 (by decide) ?_
      exact kK4 (1 : Int32) _ _ hr hP hD hS ls (lv_sub hl [0, 1] rfl)
  · have hr := ite_n hr c1
    refine lv_iconst (v := (0 : Int32)) hx hb dX1_takenIn_5 (by decide) ?_
    obtain rfl := Option.some.inj hr
    exact kret _ _ _ _ dX1_takenIn_6 hP hD hS

def f_X1_takenBehindAct (rc : Nat → Int32 → Int32 → Int32 → Int32 → Int32 → Int64 → Int64 → Int64 → Int32 → Int32 → Int32 → Int64 → Int64 → (Nat → Int64) → (Nat → Int64) → (Nat → Int32) → Int32 → Int32 → Option (Int32 × Int32 × Int32 × Int64 × Int64 × (Nat → Int64) × (Nat → Int64) × (Nat → Int32) × Int32)) (n_row : Nat) (fi_target : Int32) (fi_attacked : Int32) (fi_decidingAct : Int32) (g_width : Int32) (g_size : Int32) (g_all : Int64) (g_notFirstColumn : Int64) (g_notLastColumn : Int64) (row_law : Int32) (row_latest : Int32) (row_opener : Int32) (row_blackThen : Int64) (row_whiteThen : Int64) (bl : Nat → Int64) (wh : Nat → Int64) (ac : Nat → Int32) (t_made : Int32) (a0 : Int32) : Option (Int32 × Int32 × Int32 × Int64 × Int64 × (Nat → Int64) × (Nat → Int64) × (Nat → Int32) × Int32) :=
  (f_X4_colourAt n_row row_latest bl wh fi_target).bind fun q1 =>
  if q1 = fi_attacked then (
    (rc n_row fi_target fi_attacked fi_decidingAct g_width g_size g_all g_notFirstColumn g_notLastColumn row_law row_latest row_opener row_blackThen row_whiteThen bl wh ac t_made (a0 - (1 : Int32))).bind fun q3 =>
    some (q3.1, q3.2.1, q3.2.2.1, q3.2.2.2.1, q3.2.2.2.2.1, q3.2.2.2.2.2.1, q3.2.2.2.2.2.2.1, q3.2.2.2.2.2.2.2.1, q3.2.2.2.2.2.2.2.2)
  )
  else (
    some ((1 : Int32), fi_decidingAct, row_latest, row_blackThen, row_whiteThen, bl, wh, ac, t_made)
  )

abbrev rm_X1_takenBehindAct : Room := { frames := 3, cells := 0, slots := 0, locals := 65 }
set_option maxHeartbeats 4000000 in
set_option maxRecDepth 100000 in
theorem c_X1_takenBehindAct (l : Launch) (dC : Nat → ClassId) (dI : Nat → Nat → Nat) (rc : Nat → Int32 → Int32 → Int32 → Int32 → Int32 → Int64 → Int64 → Int64 → Int32 → Int32 → Int32 → Int64 → Int64 → (Nat → Int64) → (Nat → Int64) → (Nat → Int32) → Int32 → Int32 → Option (Int32 × Int32 × Int32 × Int64 × Int64 × (Nat → Int64) × (Nat → Int64) × (Nat → Int32) × Int32)) (rm rmr : Room) (hfr : rm_X1_takenBehindAct.frames ≤ rm.frames) (hlo : rm_X1_takenBehindAct.locals ≤ rm.locals) (hrf : rmr.frames + 1 ≤ rm.frames) (hrl : 8 + (5 + 11) + rmr.locals ≤ rm.locals) (hrc : rmr.cells = 0) (hrs : rmr.slots = 0) (hrec : ∀ (h_fi h_g h_row h_bl h_wh h_ac h_t : Nat) (c_bl c_wh c_ac : ClassId) (n_row : Nat) (fi_target fi_attacked fi_decidingAct g_width g_height g_size : Int32) (g_all g_notFirstColumn g_notLastColumn : Int64) (row_law row_latest row_opener : Int32) (row_blackThen row_whiteThen : Int64) (bl wh : Nat → Int64) (ac : Nat → Int32) (t_made : Int32) (sz : Nat) (a0 : Int32) (q : Int32 × Int32 × Int32 × Int64 × Int64 × (Nat → Int64) × (Nat → Int64) × (Nat → Int32) × Int32), rc n_row fi_target fi_attacked fi_decidingAct g_width g_size g_all g_notFirstColumn g_notLastColumn row_law row_latest row_opener row_blackThen row_whiteThen bl wh ac t_made a0 = some q → Met l yX1_takenIn wsX1_takenIn rmr (PrI (dC, dI) (wd_X1 h_fi h_g h_row h_bl h_wh h_ac h_t c_bl c_wh c_ac n_row fi_target fi_attacked fi_decidingAct g_width g_height g_size g_all g_notFirstColumn g_notLastColumn row_law row_latest row_opener row_blackThen row_whiteThen bl wh ac t_made) (td_X1 c_bl c_wh c_ac) sz [.ref h_fi, .int a0]) (QIi (dC, dI) (wd_X1 h_fi h_g h_row h_bl h_wh h_ac h_t c_bl c_wh c_ac n_row fi_target fi_attacked fi_decidingAct g_width g_height g_size g_all g_notFirstColumn g_notLastColumn row_law row_latest row_opener row_blackThen row_whiteThen bl wh ac t_made) (td_X1 c_bl c_wh c_ac) sz q.1 (wd_X1 h_fi h_g h_row h_bl h_wh h_ac h_t c_bl c_wh c_ac n_row fi_target fi_attacked q.2.1 g_width g_height g_size g_all g_notFirstColumn g_notLastColumn row_law q.2.2.1 row_opener q.2.2.2.1 q.2.2.2.2.1 q.2.2.2.2.2.1 q.2.2.2.2.2.2.1 q.2.2.2.2.2.2.2.1 q.2.2.2.2.2.2.2.2)) 0 0 (va_A (wd_X1 h_fi h_g h_row h_bl h_wh h_ac h_t c_bl c_wh c_ac n_row fi_target fi_attacked fi_decidingAct g_width g_height g_size g_all g_notFirstColumn g_notLastColumn row_law row_latest row_opener row_blackThen row_whiteThen bl wh ac t_made) sz)) (h_fi h_g h_row h_bl h_wh h_ac h_t : Nat) (c_bl c_wh c_ac : ClassId) (n_row : Nat) (fi_target fi_attacked fi_decidingAct g_width g_height g_size : Int32) (g_all g_notFirstColumn g_notLastColumn : Int64) (row_law row_latest row_opener : Int32) (row_blackThen row_whiteThen : Int64) (bl wh : Nat → Int64) (ac : Nat → Int32) (t_made : Int32) (sz : Nat) (a0 : Int32) (q : Int32 × Int32 × Int32 × Int64 × Int64 × (Nat → Int64) × (Nat → Int64) × (Nat → Int32) × Int32) (hr : f_X1_takenBehindAct rc n_row fi_target fi_attacked fi_decidingAct g_width g_size g_all g_notFirstColumn g_notLastColumn row_law row_latest row_opener row_blackThen row_whiteThen bl wh ac t_made a0 = some q) : Met l yX1_takenBehindAct wsX1_takenBehindAct rm (PrI (dC, dI) (wd_X1 h_fi h_g h_row h_bl h_wh h_ac h_t c_bl c_wh c_ac n_row fi_target fi_attacked fi_decidingAct g_width g_height g_size g_all g_notFirstColumn g_notLastColumn row_law row_latest row_opener row_blackThen row_whiteThen bl wh ac t_made) (td_X1 c_bl c_wh c_ac) sz [.ref h_fi, .int a0]) (QIi (dC, dI) (wd_X1 h_fi h_g h_row h_bl h_wh h_ac h_t c_bl c_wh c_ac n_row fi_target fi_attacked fi_decidingAct g_width g_height g_size g_all g_notFirstColumn g_notLastColumn row_law row_latest row_opener row_blackThen row_whiteThen bl wh ac t_made) (td_X1 c_bl c_wh c_ac) sz q.1 (wd_X1 h_fi h_g h_row h_bl h_wh h_ac h_t c_bl c_wh c_ac n_row fi_target fi_attacked q.2.1 g_width g_height g_size g_all g_notFirstColumn g_notLastColumn row_law q.2.2.1 row_opener q.2.2.2.1 q.2.2.2.2.1 q.2.2.2.2.2.1 q.2.2.2.2.2.2.1 q.2.2.2.2.2.2.2.1 q.2.2.2.2.2.2.2.2)) 0 0 (va_A (wd_X1 h_fi h_g h_row h_bl h_wh h_ac h_t c_bl c_wh c_ac n_row fi_target fi_attacked fi_decidingAct g_width g_height g_size g_all g_notFirstColumn g_notLastColumn row_law row_latest row_opener row_blackThen row_whiteThen bl wh ac t_made) sz) := by
  refine mkI_i (cc := cX1_takenBehindAct) (nL := 2) (by decide) rfl (Nat.le_of_ble_eq_true rfl) ?_
  intro p e R s m args below meth c H0 H locs A Q ls hRf hRl S hN hP hK hD hA hS hl kret
  have hl : lv_has ls 2 [(0, .ref h_fi), (1, .int a0)] := hl
  obtain ⟨hx, hb, hml, hown, hts⟩ := S
  have hown : s.vm.findClass RX1 = some m.cls := hown
  have S : CallFix p m c cX1_takenBehindAct 2 s args wsX1_takenBehindAct RX1 := ⟨hx, hb, hml, hown, hts⟩
  have hRf0 := hRf
  have hRl0 := hRl
  have hRf : rm_X1_takenBehindAct.frames ≤ R.frames := Nat.le_trans hfr hRf
  have hRl : rm_X1_takenBehindAct.locals ≤ R.locals := Nat.le_trans hlo hRl
  have huX1 : ∀ w ∈ u_ws RX1 TX1 6, w ∈ wsX1_takenBehindAct := by decide +kernel
  have hf15 := hts (.fieldLink RX1 15 "EyeBoard$Fight" "row" "LEyeBoard$Row;") (by decide +kernel)
  have hf23 := hts (.fieldLink RX1 23 "EyeBoard$Fight" "target" "I") (by decide +kernel)
  have hf33 := hts (.fieldLink RX1 33 "EyeBoard$Fight" "attacked" "I") (by decide +kernel)
  unfold f_X1_takenBehindAct at hr
  refine lv_aload_n hx hb dX1_takenBehindAct_0 rfl (lv_at hl 0 rfl) ?_
  refine va_get (D := (dC, dI)) (ci := 1) (v := .ref h_row) (C := RX1) (T := TX1) (N := 6) hx hb hts huX1 hown hK hP 0 rfl rfl 1 (by decide) hf15 (fun _ h9 => h9) rfl dX1_takenBehindAct_1 ?_
  refine lv_aload_n hx hb dX1_takenBehindAct_4 rfl (lv_at hl 0 rfl) ?_
  refine va_get (D := (dC, dI)) (ci := 1) (v := .int fi_target) (C := RX1) (T := TX1) (N := 6) hx hb hts huX1 hown hK hP 0 rfl rfl 3 (by decide) hf23 (fun _ h9 => h9) rfl dX1_takenBehindAct_5 ?_
  obtain ⟨q1, hq1, hr⟩ := bd_use hr
  refine pcV_i (As := [.int fi_target]) (rest := []) S (c_X4_colourAt l dC dI h_row h_g h_bl h_wh h_ac c_bl c_wh c_ac n_row row_law row_latest row_opener row_blackThen row_whiteThen g_width g_height g_size g_all g_notFirstColumn g_notLastColumn bl wh ac fi_target q1 hq1) (cwV 1 hts gX1_takenBehindAct_X4_colourAt rfl rfl rfl (by decide +kernel) ⟨Nat.le_trans (m := rm_X1_takenBehindAct.frames) (by decide) hRf, Nat.le_trans (m := rm_X1_takenBehindAct.locals) (by decide) hRl⟩) hN hP hK ⟨Nat.zero_le _, Nat.zero_le _⟩ [2, 1, 3, 4, 5] rfl [0, 1, 2] rfl 2 4 rfl rfl rfl hl.1 rfl (Nat.le_of_ble_eq_true rfl) dX1_takenBehindAct_8 ?_
  refine lv_aload_n hx hb dX1_takenBehindAct_11 rfl (lv_at hl 0 rfl) ?_
  refine va_get (D := (dC, dI)) (ci := 1) (v := .int fi_attacked) (C := RX1) (T := TX1) (N := 6) hx hb hts huX1 hown hK hP 0 rfl rfl 4 (by decide) hf33 (fun _ h9 => h9) rfl dX1_takenBehindAct_12 ?_
  refine lv_icmp_eq (tgt := 22) hx hb dX1_takenBehindAct_15 (by decide) (fun c2 => ?_) (fun c2 => ?_)
  · have hr := ite_p hr c2
    refine lv_aload_n hx hb dX1_takenBehindAct_22 rfl (lv_at hl 0 rfl) ?_
    refine lv_iload_n hx hb dX1_takenBehindAct_23 rfl (lv_at hl 1 rfl) ?_
    refine lv_iconst (v := (1 : Int32)) hx hb dX1_takenBehindAct_24 (by decide) ?_
    refine lv_isub hx hb dX1_takenBehindAct_25 ?_
    obtain ⟨q3, hq3, hr⟩ := bd_use hr
    refine icV_i (As := [.int (a0 - (1 : Int32))]) (rest := []) (ws2 := (wd_X1 h_fi h_g h_row h_bl h_wh h_ac h_t c_bl c_wh c_ac n_row fi_target fi_attacked q3.2.1 g_width g_height g_size g_all g_notFirstColumn g_notLastColumn row_law q3.2.2.1 row_opener q3.2.2.2.1 q3.2.2.2.2.1 q3.2.2.2.2.2.1 q3.2.2.2.2.2.2.1 q3.2.2.2.2.2.2.2.1 q3.2.2.2.2.2.2.2.2)) S (hrec h_fi h_g h_row h_bl h_wh h_ac h_t c_bl c_wh c_ac n_row fi_target fi_attacked fi_decidingAct g_width g_height g_size g_all g_notFirstColumn g_notLastColumn row_law row_latest row_opener row_blackThen row_whiteThen bl wh ac t_made H.size (a0 - (1 : Int32)) q3 hq3) (cwV 1 hts gX1_takenBehindAct_X1_takenIn rfl hrc hrs (by decide +kernel) ⟨Nat.le_trans hrf hRf0, Nat.le_trans hrl hRl0⟩) hN hP hK hD hS hA ⟨Nat.zero_le _, Nat.zero_le _⟩ [0, 1, 2, 3, 4, 5, 6] [] [0, 1, 2, 3, 4, 5, 6] rfl rfl rfl rfl rfl (by decide) rfl rfl rfl [0, 1, 2] rfl 0 1 rfl rfl rfl hl.1 rfl (Nat.le_of_ble_eq_true rfl) dX1_takenBehindAct_26 (fun H locs hP hD hS => ?_)
    obtain rfl := Option.some.inj hr
    exact kret _ _ _ _ dX1_takenBehindAct_29 hP hD hS
  · have hr := ite_n hr c2
    refine lv_iconst (v := (1 : Int32)) hx hb dX1_takenBehindAct_18 (by decide) ?_
    refine lv_goto (tgt := 29) hx hb dX1_takenBehindAct_19 (by decide) ?_
    obtain rfl := Option.some.inj hr
    exact kret _ _ _ _ dX1_takenBehindAct_29 hP hD hS

def fd_X1_takenIn : Nat → Nat → Int32 → Int32 → Int32 → Int32 → Int32 → Int64 → Int64 → Int64 → Int32 → Int32 → Int32 → Int64 → Int64 → (Nat → Int64) → (Nat → Int64) → (Nat → Int32) → Int32 → Int32 → Option (Int32 × Int32 × Int32 × Int64 × Int64 × (Nat → Int64) × (Nat → Int64) × (Nat → Int32) × Int32)
  | 0 => fun _ _ _ _ _ _ _ _ _ _ _ _ _ _ _ _ _ _ _ => none
  | d + 1 => fun n_row fi_target fi_attacked fi_decidingAct g_width g_size g_all g_notFirstColumn g_notLastColumn row_law row_latest row_opener row_blackThen row_whiteThen bl wh ac t_made a0 => f_X1_takenIn (fun n_row fi_target fi_attacked fi_decidingAct g_width g_size g_all g_notFirstColumn g_notLastColumn row_law row_latest row_opener row_blackThen row_whiteThen bl wh ac t_made a0 => f_X1_takenBehindAct (fd_X1_takenIn d) n_row fi_target fi_attacked fi_decidingAct g_width g_size g_all g_notFirstColumn g_notLastColumn row_law row_latest row_opener row_blackThen row_whiteThen bl wh ac t_made a0) n_row fi_target fi_attacked fi_decidingAct g_width g_size g_all g_notFirstColumn g_notLastColumn row_law row_latest row_opener row_blackThen row_whiteThen bl wh ac t_made a0
abbrev rd_X1_takenIn (d : Nat) : Room := { frames := 4 + 2 * d, cells := 0, slots := 0, locals := 104 + 45 * d }
abbrev rd_X1_takenBehindAct (d : Nat) : Room := { frames := 4 + 2 * d + 1, cells := 0, slots := 0, locals := 104 + 45 * d + 24 }
theorem cd_X1_takenIn (l : Launch) (dC : Nat → ClassId) (dI : Nat → Nat → Nat) : ∀ d : Nat, ∀ (h_fi h_g h_row h_bl h_wh h_ac h_t : Nat) (c_bl c_wh c_ac : ClassId) (n_row : Nat) (fi_target fi_attacked fi_decidingAct g_width g_height g_size : Int32) (g_all g_notFirstColumn g_notLastColumn : Int64) (row_law row_latest row_opener : Int32) (row_blackThen row_whiteThen : Int64) (bl wh : Nat → Int64) (ac : Nat → Int32) (t_made : Int32) (sz : Nat) (a0 : Int32) (q : Int32 × Int32 × Int32 × Int64 × Int64 × (Nat → Int64) × (Nat → Int64) × (Nat → Int32) × Int32), fd_X1_takenIn d n_row fi_target fi_attacked fi_decidingAct g_width g_size g_all g_notFirstColumn g_notLastColumn row_law row_latest row_opener row_blackThen row_whiteThen bl wh ac t_made a0 = some q → Met l yX1_takenIn wsX1_takenIn (rd_X1_takenIn d) (PrI (dC, dI) (wd_X1 h_fi h_g h_row h_bl h_wh h_ac h_t c_bl c_wh c_ac n_row fi_target fi_attacked fi_decidingAct g_width g_height g_size g_all g_notFirstColumn g_notLastColumn row_law row_latest row_opener row_blackThen row_whiteThen bl wh ac t_made) (td_X1 c_bl c_wh c_ac) sz [.ref h_fi, .int a0]) (QIi (dC, dI) (wd_X1 h_fi h_g h_row h_bl h_wh h_ac h_t c_bl c_wh c_ac n_row fi_target fi_attacked fi_decidingAct g_width g_height g_size g_all g_notFirstColumn g_notLastColumn row_law row_latest row_opener row_blackThen row_whiteThen bl wh ac t_made) (td_X1 c_bl c_wh c_ac) sz q.1 (wd_X1 h_fi h_g h_row h_bl h_wh h_ac h_t c_bl c_wh c_ac n_row fi_target fi_attacked q.2.1 g_width g_height g_size g_all g_notFirstColumn g_notLastColumn row_law q.2.2.1 row_opener q.2.2.2.1 q.2.2.2.2.1 q.2.2.2.2.2.1 q.2.2.2.2.2.2.1 q.2.2.2.2.2.2.2.1 q.2.2.2.2.2.2.2.2)) 0 0 (va_A (wd_X1 h_fi h_g h_row h_bl h_wh h_ac h_t c_bl c_wh c_ac n_row fi_target fi_attacked fi_decidingAct g_width g_height g_size g_all g_notFirstColumn g_notLastColumn row_law row_latest row_opener row_blackThen row_whiteThen bl wh ac t_made) sz) := by
  intro d
  induction d with
  | zero => intro h_fi h_g h_row h_bl h_wh h_ac h_t c_bl c_wh c_ac n_row fi_target fi_attacked fi_decidingAct g_width g_height g_size g_all g_notFirstColumn g_notLastColumn row_law row_latest row_opener row_blackThen row_whiteThen bl wh ac t_made sz a0 q hr; exact absurd hr (by simp [fd_X1_takenIn])
  | succ d ih =>
    intro h_fi h_g h_row h_bl h_wh h_ac h_t c_bl c_wh c_ac n_row fi_target fi_attacked fi_decidingAct g_width g_height g_size g_all g_notFirstColumn g_notLastColumn row_law row_latest row_opener row_blackThen row_whiteThen bl wh ac t_made sz a0 q hr
    have hb : ∀ (h_fi h_g h_row h_bl h_wh h_ac h_t : Nat) (c_bl c_wh c_ac : ClassId) (n_row : Nat) (fi_target fi_attacked fi_decidingAct g_width g_height g_size : Int32) (g_all g_notFirstColumn g_notLastColumn : Int64) (row_law row_latest row_opener : Int32) (row_blackThen row_whiteThen : Int64) (bl wh : Nat → Int64) (ac : Nat → Int32) (t_made : Int32) (sz : Nat) (a0 : Int32) (q : Int32 × Int32 × Int32 × Int64 × Int64 × (Nat → Int64) × (Nat → Int64) × (Nat → Int32) × Int32), f_X1_takenBehindAct (fd_X1_takenIn d) n_row fi_target fi_attacked fi_decidingAct g_width g_size g_all g_notFirstColumn g_notLastColumn row_law row_latest row_opener row_blackThen row_whiteThen bl wh ac t_made a0 = some q → Met l yX1_takenBehindAct wsX1_takenBehindAct (rd_X1_takenBehindAct d) (PrI (dC, dI) (wd_X1 h_fi h_g h_row h_bl h_wh h_ac h_t c_bl c_wh c_ac n_row fi_target fi_attacked fi_decidingAct g_width g_height g_size g_all g_notFirstColumn g_notLastColumn row_law row_latest row_opener row_blackThen row_whiteThen bl wh ac t_made) (td_X1 c_bl c_wh c_ac) sz [.ref h_fi, .int a0]) (QIi (dC, dI) (wd_X1 h_fi h_g h_row h_bl h_wh h_ac h_t c_bl c_wh c_ac n_row fi_target fi_attacked fi_decidingAct g_width g_height g_size g_all g_notFirstColumn g_notLastColumn row_law row_latest row_opener row_blackThen row_whiteThen bl wh ac t_made) (td_X1 c_bl c_wh c_ac) sz q.1 (wd_X1 h_fi h_g h_row h_bl h_wh h_ac h_t c_bl c_wh c_ac n_row fi_target fi_attacked q.2.1 g_width g_height g_size g_all g_notFirstColumn g_notLastColumn row_law q.2.2.1 row_opener q.2.2.2.1 q.2.2.2.2.1 q.2.2.2.2.2.1 q.2.2.2.2.2.2.1 q.2.2.2.2.2.2.2.1 q.2.2.2.2.2.2.2.2)) 0 0 (va_A (wd_X1 h_fi h_g h_row h_bl h_wh h_ac h_t c_bl c_wh c_ac n_row fi_target fi_attacked fi_decidingAct g_width g_height g_size g_all g_notFirstColumn g_notLastColumn row_law row_latest row_opener row_blackThen row_whiteThen bl wh ac t_made) sz) := by
      intro h_fi h_g h_row h_bl h_wh h_ac h_t c_bl c_wh c_ac n_row fi_target fi_attacked fi_decidingAct g_width g_height g_size g_all g_notFirstColumn g_notLastColumn row_law row_latest row_opener row_blackThen row_whiteThen bl wh ac t_made sz a0 q hr
      exact c_X1_takenBehindAct l dC dI (fd_X1_takenIn d) (rd_X1_takenBehindAct d) (rd_X1_takenIn d) (by show _ ≤ _; dsimp only; omega) (by show _ ≤ _; dsimp only; omega) (by show _ ≤ _; dsimp only; omega) (by show _ ≤ _; dsimp only; omega) rfl rfl ih h_fi h_g h_row h_bl h_wh h_ac h_t c_bl c_wh c_ac n_row fi_target fi_attacked fi_decidingAct g_width g_height g_size g_all g_notFirstColumn g_notLastColumn row_law row_latest row_opener row_blackThen row_whiteThen bl wh ac t_made sz a0 q hr
    exact c_X1_takenIn l dC dI (f_X1_takenBehindAct (fd_X1_takenIn d)) (rd_X1_takenIn (d + 1)) (rd_X1_takenBehindAct d) (by show _ ≤ _; dsimp only; omega) (by show _ ≤ _; dsimp only; omega) (by show _ ≤ _; dsimp only; omega) (by show _ ≤ _; dsimp only; omega) rfl rfl hb h_fi h_g h_row h_bl h_wh h_ac h_t c_bl c_wh c_ac n_row fi_target fi_attacked fi_decidingAct g_width g_height g_size g_all g_notFirstColumn g_notLastColumn row_law row_latest row_opener row_blackThen row_whiteThen bl wh ac t_made sz a0 q hr
def fz_X1_takenIn : Nat → Int32 → Int32 → Int32 → Int32 → Int32 → Int64 → Int64 → Int64 → Int32 → Int32 → Int32 → Int64 → Int64 → (Nat → Int64) → (Nat → Int64) → (Nat → Int32) → Int32 → Int32 → Option (Int32 × Int32 × Int32 × Int64 × Int64 × (Nat → Int64) × (Nat → Int64) × (Nat → Int32) × Int32) := fd_X1_takenIn 8
abbrev rm_zX1_takenIn : Room := { frames := 20, cells := 0, slots := 0, locals := 464 }
theorem cz_X1_takenIn (l : Launch) (dC : Nat → ClassId) (dI : Nat → Nat → Nat) : ∀ (h_fi h_g h_row h_bl h_wh h_ac h_t : Nat) (c_bl c_wh c_ac : ClassId) (n_row : Nat) (fi_target fi_attacked fi_decidingAct g_width g_height g_size : Int32) (g_all g_notFirstColumn g_notLastColumn : Int64) (row_law row_latest row_opener : Int32) (row_blackThen row_whiteThen : Int64) (bl wh : Nat → Int64) (ac : Nat → Int32) (t_made : Int32) (sz : Nat) (a0 : Int32) (q : Int32 × Int32 × Int32 × Int64 × Int64 × (Nat → Int64) × (Nat → Int64) × (Nat → Int32) × Int32), fz_X1_takenIn n_row fi_target fi_attacked fi_decidingAct g_width g_size g_all g_notFirstColumn g_notLastColumn row_law row_latest row_opener row_blackThen row_whiteThen bl wh ac t_made a0 = some q → Met l yX1_takenIn wsX1_takenIn rm_zX1_takenIn (PrI (dC, dI) (wd_X1 h_fi h_g h_row h_bl h_wh h_ac h_t c_bl c_wh c_ac n_row fi_target fi_attacked fi_decidingAct g_width g_height g_size g_all g_notFirstColumn g_notLastColumn row_law row_latest row_opener row_blackThen row_whiteThen bl wh ac t_made) (td_X1 c_bl c_wh c_ac) sz [.ref h_fi, .int a0]) (QIi (dC, dI) (wd_X1 h_fi h_g h_row h_bl h_wh h_ac h_t c_bl c_wh c_ac n_row fi_target fi_attacked fi_decidingAct g_width g_height g_size g_all g_notFirstColumn g_notLastColumn row_law row_latest row_opener row_blackThen row_whiteThen bl wh ac t_made) (td_X1 c_bl c_wh c_ac) sz q.1 (wd_X1 h_fi h_g h_row h_bl h_wh h_ac h_t c_bl c_wh c_ac n_row fi_target fi_attacked q.2.1 g_width g_height g_size g_all g_notFirstColumn g_notLastColumn row_law q.2.2.1 row_opener q.2.2.2.1 q.2.2.2.2.1 q.2.2.2.2.2.1 q.2.2.2.2.2.2.1 q.2.2.2.2.2.2.2.1 q.2.2.2.2.2.2.2.2)) 0 0 (va_A (wd_X1 h_fi h_g h_row h_bl h_wh h_ac h_t c_bl c_wh c_ac n_row fi_target fi_attacked fi_decidingAct g_width g_height g_size g_all g_notFirstColumn g_notLastColumn row_law row_latest row_opener row_blackThen row_whiteThen bl wh ac t_made) sz) := cd_X1_takenIn l dC dI 8
