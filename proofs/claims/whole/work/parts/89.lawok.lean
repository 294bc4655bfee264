/-! the law's mirror answers 1 -/
def InvL (w2 w3 w4 w5 : Int32) (w6 w7 w8 : Int64) (w9 w10 w11 : Int32) (w14 w15 : Nat → Int64) (w16 : Nat → Int32) (w17 w31 w32 w33 w34 w38 w40 : Int32) (w41 : Nat → Int64) (w42 : Nat → Int32) (w43 w44 : Nat → Int64) (w45 w46 w47 : Nat → Int32) : Prop := ∃ (w h lw L : Nat) (op : Int32) (gd : Gd), w3 = gd.1 ∧ w4 = nI h ∧ w5 = nI (w * h) ∧ w6 = gd.2.1 ∧ w7 = gd.2.2.1 ∧ w8 = gd.2.2.2 ∧ w9 = nI lw ∧ w10 = nI L ∧ w11 = op ∧ w33 = nI lw ∧ w34 = nI L ∧ w17 = w38 ∧ w2 = w40 ∧ Cr w h lw L op gd w31 w32 w41 w14 w15 w43 w44 w16 w42 w45 w46 w47
theorem bd_e {α β : Type} {x : Option α} {q : α} {k : α → Option β} (h : x = some q) : x.bind k = k q := by rw [h]; rfl
theorem Tk_up {L : Nat} {bl wh bA wA : Nat → Int64} (U : Up L bA wA bl wh) (c : Int32) {i : Nat} (hi : i < L) : Tk c bl wh i = Tk c bA wA i := by
  unfold Tk
  rw [(U i (by omega)).1, (U i (by omega)).2, (U (i + 1) (by omega)).1, (U (i + 1) (by omega)).2]
theorem Cr_keep {w h lw L : Nat} {op : Int32} {gd : Gd} {mw mh : Int32} {nb bl wh bA wA bl' wh' bA' wA' : Nat → Int64} {ac at' mv tB tW ac' mv' : Nat → Int32} (C : Cr w h lw L op gd mw mh nb bl wh bA wA ac at' mv tB tW) (U : Up L bA wA bl' wh') (ha : ∀ i, i < L → ac' i = ac i) (hk : ∀ i, i ≤ L → bA' i = bA i ∧ wA' i = wA i ∧ mv' i = mv i) : Cr w h lw L op gd mw mh nb bl' wh' bA' wA' ac' at' mv' tB tW := by
  obtain ⟨G, N, hlw, hL, ho, U0, hB, hT, b0, w0⟩ := C
  refine ⟨G, N, hlw, hL, ho, fun i hi => ⟨(U i hi).1.trans (hk i hi).1.symm, (U i hi).2.trans (hk i hi).2.1.symm⟩, fun i hi => ?_, fun i hi => ?_, b0, w0⟩
  · rw [(hk i hi).1, (hk i hi).2.1, (hk i hi).2.2]; exact hB i hi
  · have e : ∀ c, Tk c bA' wA' i = Tk c bA wA i := fun c => by
      unfold Tk
      rw [(hk i (by omega)).1, (hk i (by omega)).2.1, (hk (i + 1) (by omega)).1, (hk (i + 1) (by omega)).2.1]
    rw [e, e, ha i hi]; exact hT i hi
set_option maxHeartbeats 4000000 in
set_option maxRecDepth 20000 in
theorem law_0 {xs : Nat → Int32} {L0 nF i : Nat} (hL0 : L0 ≤ 2048) (hi : i + 4 ≤ L0) (hf : L0 + 4 ≤ i + 4 * (nF + 1)) (ih : ∀ (i : Nat) (w2 w3 w4 w5 : Int32) (w6 w7 w8 : Int64) (w9 w10 w11 : Int32) (w12 w13 : Int64) (w14 w15 : Nat → Int64) (w16 : Nat → Int32) (w17 w18 w19 w20 w21 w22 : Int32) (w23 w24 : Int64) (w25 w26 : Nat → Int64) (w27 : Nat → Int32) (w28 w29 w30 w31 w32 w33 w34 : Int32) (w35 w36 : Int64) (w37 w38 w39 w40 : Int32) (w41 : Nat → Int64) (w42 : Nat → Int32) (w43 w44 : Nat → Int64) (w45 w46 w47 : Nat → Int32) (w48 w49 w50 w51 : Nat → Int64) (w52 : Nat → Int32) (w53 w54 w55 w56 : Nat → Int64) (w57 w58 w59 : Nat → Int32), i ≤ L0 → L0 + 4 ≤ i + 4 * nF → InvL w2 w3 w4 w5 w6 w7 w8 w9 w10 w11 w14 w15 w16 w17 w31 w32 w33 w34 w38 w40 w41 w42 w43 w44 w45 w46 w47 → lp_L_law_18 xs L0 nF (nI i) w2 w3 w4 w5 w6 w7 w8 w9 w10 w11 w12 w13 w14 w15 w16 w17 w18 w19 w20 w21 w22 w23 w24 w25 w26 w27 w28 w29 w30 w31 w32 w33 w34 w35 w36 w37 w38 w39 w40 w41 w42 w43 w44 w45 w46 w47 w48 w49 w50 w51 w52 w53 w54 w55 w56 w57 w58 w59 = some 1) (w2 w3 w4 w5 : Int32) (w6 w7 w8 : Int64) (w9 w10 w11 : Int32) (w12 w13 : Int64) (w14 w15 : Nat → Int64) (w16 : Nat → Int32) (w17 w18 w19 w20 w21 w22 : Int32) (w23 w24 : Int64) (w25 w26 : Nat → Int64) (w27 : Nat → Int32) (w28 w29 w30 w31 w32 w33 w34 : Int32) (w35 w36 : Int64) (w37 w38 w39 w40 : Int32) (w41 : Nat → Int64) (w42 : Nat → Int32) (w43 w44 : Nat → Int64) (w45 w46 w47 : Nat → Int32) (w48 w49 w50 w51 : Nat → Int64) (w52 : Nat → Int32) (w53 w54 w55 w56 : Nat → Int64) (w57 w58 w59 : Nat → Int32) (I : InvL w2 w3 w4 w5 w6 w7 w8 w9 w10 w11 w14 w15 w16 w17 w31 w32 w33 w34 w38 w40 w41 w42 w43 w44 w45 w46 w47) (hj : xs (nI i).toNatClampNeg &&& 31 = nI 0) : lp_L_law_18 xs L0 (nF + 1) (nI i) w2 w3 w4 w5 w6 w7 w8 w9 w10 w11 w12 w13 w14 w15 w16 w17 w18 w19 w20 w21 w22 w23 w24 w25 w26 w27 w28 w29 w30 w31 w32 w33 w34 w35 w36 w37 w38 w39 w40 w41 w42 w43 w44 w45 w46 w47 w48 w49 w50 w51 w52 w53 w54 w55 w56 w57 w58 w59 = some 1 := by
  have g0 : ¬ (nI i < 0 ∨ L0 ≤ (nI i).toNatClampNeg) := nI_in (by omega) (by omega)
  have e1 : nI i + 1 = nI (i + 1) := nI_1 i
  have e2 : nI i + 2 = nI (i + 2) := nI_add i 2
  have e3 : nI i + 3 = nI (i + 3) := nI_add i 3
  have a4 : nI i + 4 = nI (i + 4) := nI_add i 4
  have g1 : ¬ (nI i + 1 < 0 ∨ L0 ≤ (nI i + 1).toNatClampNeg) := by rw [e1]; exact nI_in (by omega) (by omega)
  have g2 : ¬ (nI i + 2 < 0 ∨ L0 ≤ (nI i + 2).toNatClampNeg) := by rw [e2]; exact nI_in (by omega) (by omega)
  have g3 : ¬ (nI i + 3 < 0 ∨ L0 ≤ (nI i + 3).toNatClampNeg) := by rw [e3]; exact nI_in (by omega) (by omega)
  have hend : ¬ nI L0 - 4 < nI i := by
    rw [show nI L0 - 4 = nI (L0 - 4) from pk_sub (b := 4) (by omega)]
    exact nI_nlt (by omega) (by omega)
  obtain ⟨w, h, lw, L, op, gd, rfl, rfl, rfl, rfl, rfl, rfl, rfl, rfl, rfl, rfl, rfl, hTM, hWN, C⟩ := I
  subst hTM hWN
  obtain ⟨G, N, hlw, hL, ho, U, hB, hT, b0, w0⟩ := C
  have C : Cr w h lw L _ gd w31 w32 w41 w14 w15 w43 w44 w16 w42 w45 w46 w47 := ⟨G, N, hlw, hL, ho, U, hB, hT, b0, w0⟩
  have hb := (U L (Nat.le_refl _)).1
  have hw := (U L (Nat.le_refl _)).2
  have BL := (hB L (Nat.le_refl _)).1
  have hmL := (hB L (Nat.le_refl _)).2
  have hac := fun i (hi : i < L) => (hT i hi).1
  have hTB : ∀ i, i < L → w46 (i + 1) = w46 i + Tk 1 w14 w15 i := fun i hi => by rw [Tk_up U 1 hi]; exact (hT i hi).2.1
  have hTW : ∀ i, i < L → w47 (i + 1) = w47 i + Tk 2 w14 w15 i := fun i hi => by rw [Tk_up U 2 hi]; exact (hT i hi).2.2
  rw [lp_L_law_18]
  refine (if_neg hend).trans ?_
  refine (if_neg g0).trans ?_
  refine (nm_eq _ _).trans ?_
  rw [hj]
  obtain ⟨q6, q7, w', h', lw', L', op', gd', e6, e7, eq, c1, c2, c3, c4, c5, c6, c7, c8, c9, c10, c11, C'⟩ := q_board C (xs (nI i + 1).toNatClampNeg) (xs (nI i + 2).toNatClampNeg) (xs (nI i + 3).toNatClampNeg)
  refine (if_pos (show nI 0 = 0 by decide)).trans ?_
  refine (if_neg g1).trans ?_
  refine (if_neg g2).trans ?_
  refine (if_neg g3).trans ?_
  refine (bd_e e6).trans ?_
  refine (if_neg g1).trans ?_
  refine (if_neg g2).trans ?_
  refine (if_neg g3).trans ?_
  refine (bd_e e7).trans ?_
  refine (if_pos eq).trans ?_
  refine (nm_eq _ _).trans ?_
  rw [a4]
  exact ih (i + 4) _ _ _ _ _ _ _ _ _ _ _ _ _ _ _ _ _ _ _ _ _ _ _ _ _ _ _ _ _ _ _ _ _ _ _ _ _ _ _ _ _ _ _ _ _ _ _ _ _ _ _ _ _ _ _ _ _ _ (by omega) (by omega) ⟨w', h', lw', L', op', gd', c1, c2, c3, c4, c5, c6, c7, c8, c9, c10, c11, rfl, rfl, C'⟩
set_option maxHeartbeats 4000000 in
set_option maxRecDepth 20000 in
theorem law_1 {xs : Nat → Int32} {L0 nF i : Nat} (hL0 : L0 ≤ 2048) (hi : i + 4 ≤ L0) (hf : L0 + 4 ≤ i + 4 * (nF + 1)) (ih : ∀ (i : Nat) (w2 w3 w4 w5 : Int32) (w6 w7 w8 : Int64) (w9 w10 w11 : Int32) (w12 w13 : Int64) (w14 w15 : Nat → Int64) (w16 : Nat → Int32) (w17 w18 w19 w20 w21 w22 : Int32) (w23 w24 : Int64) (w25 w26 : Nat → Int64) (w27 : Nat → Int32) (w28 w29 w30 w31 w32 w33 w34 : Int32) (w35 w36 : Int64) (w37 w38 w39 w40 : Int32) (w41 : Nat → Int64) (w42 : Nat → Int32) (w43 w44 : Nat → Int64) (w45 w46 w47 : Nat → Int32) (w48 w49 w50 w51 : Nat → Int64) (w52 : Nat → Int32) (w53 w54 w55 w56 : Nat → Int64) (w57 w58 w59 : Nat → Int32), i ≤ L0 → L0 + 4 ≤ i + 4 * nF → InvL w2 w3 w4 w5 w6 w7 w8 w9 w10 w11 w14 w15 w16 w17 w31 w32 w33 w34 w38 w40 w41 w42 w43 w44 w45 w46 w47 → lp_L_law_18 xs L0 nF (nI i) w2 w3 w4 w5 w6 w7 w8 w9 w10 w11 w12 w13 w14 w15 w16 w17 w18 w19 w20 w21 w22 w23 w24 w25 w26 w27 w28 w29 w30 w31 w32 w33 w34 w35 w36 w37 w38 w39 w40 w41 w42 w43 w44 w45 w46 w47 w48 w49 w50 w51 w52 w53 w54 w55 w56 w57 w58 w59 = some 1) (w2 w3 w4 w5 : Int32) (w6 w7 w8 : Int64) (w9 w10 w11 : Int32) (w12 w13 : Int64) (w14 w15 : Nat → Int64) (w16 : Nat → Int32) (w17 w18 w19 w20 w21 w22 : Int32) (w23 w24 : Int64) (w25 w26 : Nat → Int64) (w27 : Nat → Int32) (w28 w29 w30 w31 w32 w33 w34 : Int32) (w35 w36 : Int64) (w37 w38 w39 w40 : Int32) (w41 : Nat → Int64) (w42 : Nat → Int32) (w43 w44 : Nat → Int64) (w45 w46 w47 : Nat → Int32) (w48 w49 w50 w51 : Nat → Int64) (w52 : Nat → Int32) (w53 w54 w55 w56 : Nat → Int64) (w57 w58 w59 : Nat → Int32) (I : InvL w2 w3 w4 w5 w6 w7 w8 w9 w10 w11 w14 w15 w16 w17 w31 w32 w33 w34 w38 w40 w41 w42 w43 w44 w45 w46 w47) (hj : xs (nI i).toNatClampNeg &&& 31 = nI 1) : lp_L_law_18 xs L0 (nF + 1) (nI i) w2 w3 w4 w5 w6 w7 w8 w9 w10 w11 w12 w13 w14 w15 w16 w17 w18 w19 w20 w21 w22 w23 w24 w25 w26 w27 w28 w29 w30 w31 w32 w33 w34 w35 w36 w37 w38 w39 w40 w41 w42 w43 w44 w45 w46 w47 w48 w49 w50 w51 w52 w53 w54 w55 w56 w57 w58 w59 = some 1 := by
  have g0 : ¬ (nI i < 0 ∨ L0 ≤ (nI i).toNatClampNeg) := nI_in (by omega) (by omega)
  have e1 : nI i + 1 = nI (i + 1) := nI_1 i
  have e2 : nI i + 2 = nI (i + 2) := nI_add i 2
  have e3 : nI i + 3 = nI (i + 3) := nI_add i 3
  have a4 : nI i + 4 = nI (i + 4) := nI_add i 4
  have g1 : ¬ (nI i + 1 < 0 ∨ L0 ≤ (nI i + 1).toNatClampNeg) := by rw [e1]; exact nI_in (by omega) (by omega)
  have g2 : ¬ (nI i + 2 < 0 ∨ L0 ≤ (nI i + 2).toNatClampNeg) := by rw [e2]; exact nI_in (by omega) (by omega)
  have g3 : ¬ (nI i + 3 < 0 ∨ L0 ≤ (nI i + 3).toNatClampNeg) := by rw [e3]; exact nI_in (by omega) (by omega)
  have hend : ¬ nI L0 - 4 < nI i := by
    rw [show nI L0 - 4 = nI (L0 - 4) from pk_sub (b := 4) (by omega)]
    exact nI_nlt (by omega) (by omega)
  obtain ⟨w, h, lw, L, op, gd, rfl, rfl, rfl, rfl, rfl, rfl, rfl, rfl, rfl, rfl, rfl, hTM, hWN, C⟩ := I
  subst hTM hWN
  obtain ⟨G, N, hlw, hL, ho, U, hB, hT, b0, w0⟩ := C
  have C : Cr w h lw L _ gd w31 w32 w41 w14 w15 w43 w44 w16 w42 w45 w46 w47 := ⟨G, N, hlw, hL, ho, U, hB, hT, b0, w0⟩
  have hb := (U L (Nat.le_refl _)).1
  have hw := (U L (Nat.le_refl _)).2
  have BL := (hB L (Nat.le_refl _)).1
  have hmL := (hB L (Nat.le_refl _)).2
  have hac := fun i (hi : i < L) => (hT i hi).1
  have hTB : ∀ i, i < L → w46 (i + 1) = w46 i + Tk 1 w14 w15 i := fun i hi => by rw [Tk_up U 1 hi]; exact (hT i hi).2.1
  have hTW : ∀ i, i < L → w47 (i + 1) = w47 i + Tk 2 w14 w15 i := fun i hi => by rw [Tk_up U 2 hi]; exact (hT i hi).2.2
  rw [lp_L_law_18]
  refine (if_neg hend).trans ?_
  refine (if_neg g0).trans ?_
  refine (nm_eq _ _).trans ?_
  rw [hj]
  obtain ⟨q6, q7, L', op', e6, e7, eq, c1, c2, c3, c4, C'⟩ := q_set C (xs (nI i + 1).toNatClampNeg) (xs (nI i + 2).toNatClampNeg) (xs (nI i + 3).toNatClampNeg)
  refine (if_neg (show ¬ nI 1 = 0 by decide)).trans ?_
  refine (if_pos (show nI 1 = 1 by decide)).trans ?_
  refine (if_neg g1).trans ?_
  refine (if_neg g2).trans ?_
  refine (if_neg g3).trans ?_
  refine (bd_e e6).trans ?_
  refine (if_neg g1).trans ?_
  refine (if_neg g2).trans ?_
  refine (if_neg g3).trans ?_
  refine (bd_e e7).trans ?_
  refine (if_pos eq).trans ?_
  refine (nm_eq _ _).trans ?_
  rw [a4]
  exact ih (i + 4) _ _ _ _ _ _ _ _ _ _ _ _ _ _ _ _ _ _ _ _ _ _ _ _ _ _ _ _ _ _ _ _ _ _ _ _ _ _ _ _ _ _ _ _ _ _ _ _ _ _ _ _ _ _ _ _ _ _ (by omega) (by omega) ⟨w, h, lw, L', op', gd, rfl, rfl, rfl, rfl, rfl, rfl, c1, c2, c3, rfl, c4, rfl, rfl, C'⟩
set_option maxHeartbeats 4000000 in
set_option maxRecDepth 20000 in
theorem law_2 {xs : Nat → Int32} {L0 nF i : Nat} (hL0 : L0 ≤ 2048) (hi : i + 4 ≤ L0) (hf : L0 + 4 ≤ i + 4 * (nF + 1)) (ih : ∀ (i : Nat) (w2 w3 w4 w5 : Int32) (w6 w7 w8 : Int64) (w9 w10 w11 : Int32) (w12 w13 : Int64) (w14 w15 : Nat → Int64) (w16 : Nat → Int32) (w17 w18 w19 w20 w21 w22 : Int32) (w23 w24 : Int64) (w25 w26 : Nat → Int64) (w27 : Nat → Int32) (w28 w29 w30 w31 w32 w33 w34 : Int32) (w35 w36 : Int64) (w37 w38 w39 w40 : Int32) (w41 : Nat → Int64) (w42 : Nat → Int32) (w43 w44 : Nat → Int64) (w45 w46 w47 : Nat → Int32) (w48 w49 w50 w51 : Nat → Int64) (w52 : Nat → Int32) (w53 w54 w55 w56 : Nat → Int64) (w57 w58 w59 : Nat → Int32), i ≤ L0 → L0 + 4 ≤ i + 4 * nF → InvL w2 w3 w4 w5 w6 w7 w8 w9 w10 w11 w14 w15 w16 w17 w31 w32 w33 w34 w38 w40 w41 w42 w43 w44 w45 w46 w47 → lp_L_law_18 xs L0 nF (nI i) w2 w3 w4 w5 w6 w7 w8 w9 w10 w11 w12 w13 w14 w15 w16 w17 w18 w19 w20 w21 w22 w23 w24 w25 w26 w27 w28 w29 w30 w31 w32 w33 w34 w35 w36 w37 w38 w39 w40 w41 w42 w43 w44 w45 w46 w47 w48 w49 w50 w51 w52 w53 w54 w55 w56 w57 w58 w59 = some 1) (w2 w3 w4 w5 : Int32) (w6 w7 w8 : Int64) (w9 w10 w11 : Int32) (w12 w13 : Int64) (w14 w15 : Nat → Int64) (w16 : Nat → Int32) (w17 w18 w19 w20 w21 w22 : Int32) (w23 w24 : Int64) (w25 w26 : Nat → Int64) (w27 : Nat → Int32) (w28 w29 w30 w31 w32 w33 w34 : Int32) (w35 w36 : Int64) (w37 w38 w39 w40 : Int32) (w41 : Nat → Int64) (w42 : Nat → Int32) (w43 w44 : Nat → Int64) (w45 w46 w47 : Nat → Int32) (w48 w49 w50 w51 : Nat → Int64) (w52 : Nat → Int32) (w53 w54 w55 w56 : Nat → Int64) (w57 w58 w59 : Nat → Int32) (I : InvL w2 w3 w4 w5 w6 w7 w8 w9 w10 w11 w14 w15 w16 w17 w31 w32 w33 w34 w38 w40 w41 w42 w43 w44 w45 w46 w47) (hj : xs (nI i).toNatClampNeg &&& 31 = nI 2) : lp_L_law_18 xs L0 (nF + 1) (nI i) w2 w3 w4 w5 w6 w7 w8 w9 w10 w11 w12 w13 w14 w15 w16 w17 w18 w19 w20 w21 w22 w23 w24 w25 w26 w27 w28 w29 w30 w31 w32 w33 w34 w35 w36 w37 w38 w39 w40 w41 w42 w43 w44 w45 w46 w47 w48 w49 w50 w51 w52 w53 w54 w55 w56 w57 w58 w59 = some 1 := by
  have g0 : ¬ (nI i < 0 ∨ L0 ≤ (nI i).toNatClampNeg) := nI_in (by omega) (by omega)
  have e1 : nI i + 1 = nI (i + 1) := nI_1 i
  have e2 : nI i + 2 = nI (i + 2) := nI_add i 2
  have e3 : nI i + 3 = nI (i + 3) := nI_add i 3
  have a4 : nI i + 4 = nI (i + 4) := nI_add i 4
  have g1 : ¬ (nI i + 1 < 0 ∨ L0 ≤ (nI i + 1).toNatClampNeg) := by rw [e1]; exact nI_in (by omega) (by omega)
  have g2 : ¬ (nI i + 2 < 0 ∨ L0 ≤ (nI i + 2).toNatClampNeg) := by rw [e2]; exact nI_in (by omega) (by omega)
  have g3 : ¬ (nI i + 3 < 0 ∨ L0 ≤ (nI i + 3).toNatClampNeg) := by rw [e3]; exact nI_in (by omega) (by omega)
  have hend : ¬ nI L0 - 4 < nI i := by
    rw [show nI L0 - 4 = nI (L0 - 4) from pk_sub (b := 4) (by omega)]
    exact nI_nlt (by omega) (by omega)
  obtain ⟨w, h, lw, L, op, gd, rfl, rfl, rfl, rfl, rfl, rfl, rfl, rfl, rfl, rfl, rfl, hTM, hWN, C⟩ := I
  subst hTM hWN
  obtain ⟨G, N, hlw, hL, ho, U, hB, hT, b0, w0⟩ := C
  have C : Cr w h lw L _ gd w31 w32 w41 w14 w15 w43 w44 w16 w42 w45 w46 w47 := ⟨G, N, hlw, hL, ho, U, hB, hT, b0, w0⟩
  have hb := (U L (Nat.le_refl _)).1
  have hw := (U L (Nat.le_refl _)).2
  have BL := (hB L (Nat.le_refl _)).1
  have hmL := (hB L (Nat.le_refl _)).2
  have hac := fun i (hi : i < L) => (hT i hi).1
  have hTB : ∀ i, i < L → w46 (i + 1) = w46 i + Tk 1 w14 w15 i := fun i hi => by rw [Tk_up U 1 hi]; exact (hT i hi).2.1
  have hTW : ∀ i, i < L → w47 (i + 1) = w47 i + Tk 2 w14 w15 i := fun i hi => by rw [Tk_up U 2 hi]; exact (hT i hi).2.2
  rw [lp_L_law_18]
  refine (if_neg hend).trans ?_
  refine (if_neg g0).trans ?_
  refine (nm_eq _ _).trans ?_
  rw [hj]
  obtain ⟨q6, q7, L', e6, e7, eq, c1, c2, C'⟩ := q_lay C w12 w13 w35 w36 w37 (xs (nI i + 1).toNatClampNeg)
  refine (if_neg (show ¬ nI 2 = 0 by decide)).trans ?_
  refine (if_neg (show ¬ nI 2 = 1 by decide)).trans ?_
  refine (if_pos (show nI 2 = 2 by decide)).trans ?_
  refine (if_neg g1).trans ?_
  refine (bd_e e6).trans ?_
  refine (if_neg g1).trans ?_
  refine (bd_e e7).trans ?_
  refine (if_pos eq).trans ?_
  refine (nm_eq _ _).trans ?_
  rw [a4]
  exact ih (i + 4) _ _ _ _ _ _ _ _ _ _ _ _ _ _ _ _ _ _ _ _ _ _ _ _ _ _ _ _ _ _ _ _ _ _ _ _ _ _ _ _ _ _ _ _ _ _ _ _ _ _ _ _ _ _ _ _ _ _ (by omega) (by omega) ⟨w, h, lw, L', w11, gd, rfl, rfl, rfl, rfl, rfl, rfl, rfl, c1, rfl, rfl, c2, rfl, rfl, C'⟩
set_option maxHeartbeats 4000000 in
set_option maxRecDepth 20000 in
theorem law_3 {xs : Nat → Int32} {L0 nF i : Nat} (hL0 : L0 ≤ 2048) (hi : i + 4 ≤ L0) (hf : L0 + 4 ≤ i + 4 * (nF + 1)) (ih : ∀ (i : Nat) (w2 w3 w4 w5 : Int32) (w6 w7 w8 : Int64) (w9 w10 w11 : Int32) (w12 w13 : Int64) (w14 w15 : Nat → Int64) (w16 : Nat → Int32) (w17 w18 w19 w20 w21 w22 : Int32) (w23 w24 : Int64) (w25 w26 : Nat → Int64) (w27 : Nat → Int32) (w28 w29 w30 w31 w32 w33 w34 : Int32) (w35 w36 : Int64) (w37 w38 w39 w40 : Int32) (w41 : Nat → Int64) (w42 : Nat → Int32) (w43 w44 : Nat → Int64) (w45 w46 w47 : Nat → Int32) (w48 w49 w50 w51 : Nat → Int64) (w52 : Nat → Int32) (w53 w54 w55 w56 : Nat → Int64) (w57 w58 w59 : Nat → Int32), i ≤ L0 → L0 + 4 ≤ i + 4 * nF → InvL w2 w3 w4 w5 w6 w7 w8 w9 w10 w11 w14 w15 w16 w17 w31 w32 w33 w34 w38 w40 w41 w42 w43 w44 w45 w46 w47 → lp_L_law_18 xs L0 nF (nI i) w2 w3 w4 w5 w6 w7 w8 w9 w10 w11 w12 w13 w14 w15 w16 w17 w18 w19 w20 w21 w22 w23 w24 w25 w26 w27 w28 w29 w30 w31 w32 w33 w34 w35 w36 w37 w38 w39 w40 w41 w42 w43 w44 w45 w46 w47 w48 w49 w50 w51 w52 w53 w54 w55 w56 w57 w58 w59 = some 1) (w2 w3 w4 w5 : Int32) (w6 w7 w8 : Int64) (w9 w10 w11 : Int32) (w12 w13 : Int64) (w14 w15 : Nat → Int64) (w16 : Nat → Int32) (w17 w18 w19 w20 w21 w22 : Int32) (w23 w24 : Int64) (w25 w26 : Nat → Int64) (w27 : Nat → Int32) (w28 w29 w30 w31 w32 w33 w34 : Int32) (w35 w36 : Int64) (w37 w38 w39 w40 : Int32) (w41 : Nat → Int64) (w42 : Nat → Int32) (w43 w44 : Nat → Int64) (w45 w46 w47 : Nat → Int32) (w48 w49 w50 w51 : Nat → Int64) (w52 : Nat → Int32) (w53 w54 w55 w56 : Nat → Int64) (w57 w58 w59 : Nat → Int32) (I : InvL w2 w3 w4 w5 w6 w7 w8 w9 w10 w11 w14 w15 w16 w17 w31 w32 w33 w34 w38 w40 w41 w42 w43 w44 w45 w46 w47) (hj : xs (nI i).toNatClampNeg &&& 31 = nI 3) : lp_L_law_18 xs L0 (nF + 1) (nI i) w2 w3 w4 w5 w6 w7 w8 w9 w10 w11 w12 w13 w14 w15 w16 w17 w18 w19 w20 w21 w22 w23 w24 w25 w26 w27 w28 w29 w30 w31 w32 w33 w34 w35 w36 w37 w38 w39 w40 w41 w42 w43 w44 w45 w46 w47 w48 w49 w50 w51 w52 w53 w54 w55 w56 w57 w58 w59 = some 1 := by
  have g0 : ¬ (nI i < 0 ∨ L0 ≤ (nI i).toNatClampNeg) := nI_in (by omega) (by omega)
  have e1 : nI i + 1 = nI (i + 1) := nI_1 i
  have e2 : nI i + 2 = nI (i + 2) := nI_add i 2
  have e3 : nI i + 3 = nI (i + 3) := nI_add i 3
  have a4 : nI i + 4 = nI (i + 4) := nI_add i 4
  have g1 : ¬ (nI i + 1 < 0 ∨ L0 ≤ (nI i + 1).toNatClampNeg) := by rw [e1]; exact nI_in (by omega) (by omega)
  have g2 : ¬ (nI i + 2 < 0 ∨ L0 ≤ (nI i + 2).toNatClampNeg) := by rw [e2]; exact nI_in (by omega) (by omega)
  have g3 : ¬ (nI i + 3 < 0 ∨ L0 ≤ (nI i + 3).toNatClampNeg) := by rw [e3]; exact nI_in (by omega) (by omega)
  have hend : ¬ nI L0 - 4 < nI i := by
    rw [show nI L0 - 4 = nI (L0 - 4) from pk_sub (b := 4) (by omega)]
    exact nI_nlt (by omega) (by omega)
  obtain ⟨w, h, lw, L, op, gd, rfl, rfl, rfl, rfl, rfl, rfl, rfl, rfl, rfl, rfl, rfl, hTM, hWN, C⟩ := I
  subst hTM hWN
  obtain ⟨G, N, hlw, hL, ho, U, hB, hT, b0, w0⟩ := C
  have C : Cr w h lw L _ gd w31 w32 w41 w14 w15 w43 w44 w16 w42 w45 w46 w47 := ⟨G, N, hlw, hL, ho, U, hB, hT, b0, w0⟩
  have hb := (U L (Nat.le_refl _)).1
  have hw := (U L (Nat.le_refl _)).2
  have BL := (hB L (Nat.le_refl _)).1
  have hmL := (hB L (Nat.le_refl _)).2
  have hac := fun i (hi : i < L) => (hT i hi).1
  have hTB : ∀ i, i < L → w46 (i + 1) = w46 i + Tk 1 w14 w15 i := fun i hi => by rw [Tk_up U 1 hi]; exact (hT i hi).2.1
  have hTW : ∀ i, i < L → w47 (i + 1) = w47 i + Tk 2 w14 w15 i := fun i hi => by rw [Tk_up U 2 hi]; exact (hT i hi).2.2
  rw [lp_L_law_18]
  refine (if_neg hend).trans ?_
  refine (if_neg g0).trans ?_
  refine (nm_eq _ _).trans ?_
  rw [hj]
  obtain ⟨q6, q7, L', e6, e7, eq, c1, c2, C'⟩ := q_pass C w12 w13 w37
  refine (if_neg (show ¬ nI 3 = 0 by decide)).trans ?_
  refine (if_neg (show ¬ nI 3 = 1 by decide)).trans ?_
  refine (if_neg (show ¬ nI 3 = 2 by decide)).trans ?_
  refine (if_pos (show nI 3 = 3 by decide)).trans ?_
  refine (bd_e e6).trans ?_
  refine (bd_e e7).trans ?_
  refine (if_pos eq).trans ?_
  refine (nm_eq _ _).trans ?_
  rw [a4]
  exact ih (i + 4) _ _ _ _ _ _ _ _ _ _ _ _ _ _ _ _ _ _ _ _ _ _ _ _ _ _ _ _ _ _ _ _ _ _ _ _ _ _ _ _ _ _ _ _ _ _ _ _ _ _ _ _ _ _ _ _ _ _ (by omega) (by omega) ⟨w, h, lw, L', w11, gd, rfl, rfl, rfl, rfl, rfl, rfl, rfl, c1, rfl, rfl, c2, rfl, rfl, C'⟩
set_option maxHeartbeats 4000000 in
set_option maxRecDepth 20000 in
theorem law_4 {xs : Nat → Int32} {L0 nF i : Nat} (hL0 : L0 ≤ 2048) (hi : i + 4 ≤ L0) (hf : L0 + 4 ≤ i + 4 * (nF + 1)) (ih : ∀ (i : Nat) (w2 w3 w4 w5 : Int32) (w6 w7 w8 : Int64) (w9 w10 w11 : Int32) (w12 w13 : Int64) (w14 w15 : Nat → Int64) (w16 : Nat → Int32) (w17 w18 w19 w20 w21 w22 : Int32) (w23 w24 : Int64) (w25 w26 : Nat → Int64) (w27 : Nat → Int32) (w28 w29 w30 w31 w32 w33 w34 : Int32) (w35 w36 : Int64) (w37 w38 w39 w40 : Int32) (w41 : Nat → Int64) (w42 : Nat → Int32) (w43 w44 : Nat → Int64) (w45 w46 w47 : Nat → Int32) (w48 w49 w50 w51 : Nat → Int64) (w52 : Nat → Int32) (w53 w54 w55 w56 : Nat → Int64) (w57 w58 w59 : Nat → Int32), i ≤ L0 → L0 + 4 ≤ i + 4 * nF → InvL w2 w3 w4 w5 w6 w7 w8 w9 w10 w11 w14 w15 w16 w17 w31 w32 w33 w34 w38 w40 w41 w42 w43 w44 w45 w46 w47 → lp_L_law_18 xs L0 nF (nI i) w2 w3 w4 w5 w6 w7 w8 w9 w10 w11 w12 w13 w14 w15 w16 w17 w18 w19 w20 w21 w22 w23 w24 w25 w26 w27 w28 w29 w30 w31 w32 w33 w34 w35 w36 w37 w38 w39 w40 w41 w42 w43 w44 w45 w46 w47 w48 w49 w50 w51 w52 w53 w54 w55 w56 w57 w58 w59 = some 1) (w2 w3 w4 w5 : Int32) (w6 w7 w8 : Int64) (w9 w10 w11 : Int32) (w12 w13 : Int64) (w14 w15 : Nat → Int64) (w16 : Nat → Int32) (w17 w18 w19 w20 w21 w22 : Int32) (w23 w24 : Int64) (w25 w26 : Nat → Int64) (w27 : Nat → Int32) (w28 w29 w30 w31 w32 w33 w34 : Int32) (w35 w36 : Int64) (w37 w38 w39 w40 : Int32) (w41 : Nat → Int64) (w42 : Nat → Int32) (w43 w44 : Nat → Int64) (w45 w46 w47 : Nat → Int32) (w48 w49 w50 w51 : Nat → Int64) (w52 : Nat → Int32) (w53 w54 w55 w56 : Nat → Int64) (w57 w58 w59 : Nat → Int32) (I : InvL w2 w3 w4 w5 w6 w7 w8 w9 w10 w11 w14 w15 w16 w17 w31 w32 w33 w34 w38 w40 w41 w42 w43 w44 w45 w46 w47) (hj : xs (nI i).toNatClampNeg &&& 31 = nI 4) : lp_L_law_18 xs L0 (nF + 1) (nI i) w2 w3 w4 w5 w6 w7 w8 w9 w10 w11 w12 w13 w14 w15 w16 w17 w18 w19 w20 w21 w22 w23 w24 w25 w26 w27 w28 w29 w30 w31 w32 w33 w34 w35 w36 w37 w38 w39 w40 w41 w42 w43 w44 w45 w46 w47 w48 w49 w50 w51 w52 w53 w54 w55 w56 w57 w58 w59 = some 1 := by
  have g0 : ¬ (nI i < 0 ∨ L0 ≤ (nI i).toNatClampNeg) := nI_in (by omega) (by omega)
  have e1 : nI i + 1 = nI (i + 1) := nI_1 i
  have e2 : nI i + 2 = nI (i + 2) := nI_add i 2
  have e3 : nI i + 3 = nI (i + 3) := nI_add i 3
  have a4 : nI i + 4 = nI (i + 4) := nI_add i 4
  have g1 : ¬ (nI i + 1 < 0 ∨ L0 ≤ (nI i + 1).toNatClampNeg) := by rw [e1]; exact nI_in (by omega) (by omega)
  have g2 : ¬ (nI i + 2 < 0 ∨ L0 ≤ (nI i + 2).toNatClampNeg) := by rw [e2]; exact nI_in (by omega) (by omega)
  have g3 : ¬ (nI i + 3 < 0 ∨ L0 ≤ (nI i + 3).toNatClampNeg) := by rw [e3]; exact nI_in (by omega) (by omega)
  have hend : ¬ nI L0 - 4 < nI i := by
    rw [show nI L0 - 4 = nI (L0 - 4) from pk_sub (b := 4) (by omega)]
    exact nI_nlt (by omega) (by omega)
  obtain ⟨w, h, lw, L, op, gd, rfl, rfl, rfl, rfl, rfl, rfl, rfl, rfl, rfl, rfl, rfl, hTM, hWN, C⟩ := I
  subst hTM hWN
  obtain ⟨G, N, hlw, hL, ho, U, hB, hT, b0, w0⟩ := C
  have C : Cr w h lw L _ gd w31 w32 w41 w14 w15 w43 w44 w16 w42 w45 w46 w47 := ⟨G, N, hlw, hL, ho, U, hB, hT, b0, w0⟩
  have hb := (U L (Nat.le_refl _)).1
  have hw := (U L (Nat.le_refl _)).2
  have BL := (hB L (Nat.le_refl _)).1
  have hmL := (hB L (Nat.le_refl _)).2
  have hac := fun i (hi : i < L) => (hT i hi).1
  have hTB : ∀ i, i < L → w46 (i + 1) = w46 i + Tk 1 w14 w15 i := fun i hi => by rw [Tk_up U 1 hi]; exact (hT i hi).2.1
  have hTW : ∀ i, i < L → w47 (i + 1) = w47 i + Tk 2 w14 w15 i := fun i hi => by rw [Tk_up U 2 hi]; exact (hT i hi).2.2
  rw [lp_L_law_18]
  refine (if_neg hend).trans ?_
  refine (if_neg g0).trans ?_
  refine (nm_eq _ _).trans ?_
  rw [hj]
  obtain ⟨q6, q7, e6, e7, eq⟩ := q_why C w12 w13 w35 w36 w37 (xs (nI i + 1).toNatClampNeg)
  refine (if_neg (show ¬ nI 4 = 0 by decide)).trans ?_
  refine (if_neg (show ¬ nI 4 = 1 by decide)).trans ?_
  refine (if_neg (show ¬ nI 4 = 2 by decide)).trans ?_
  refine (if_neg (show ¬ nI 4 = 3 by decide)).trans ?_
  refine (if_pos (show nI 4 = 4 by decide)).trans ?_
  refine (if_neg g1).trans ?_
  refine (bd_e e6).trans ?_
  refine (if_neg g1).trans ?_
  refine (bd_e e7).trans ?_
  refine (if_pos eq).trans ?_
  refine (nm_eq _ _).trans ?_
  rw [a4]
  exact ih (i + 4) _ _ _ _ _ _ _ _ _ _ _ _ _ _ _ _ _ _ _ _ _ _ _ _ _ _ _ _ _ _ _ _ _ _ _ _ _ _ _ _ _ _ _ _ _ _ _ _ _ _ _ _ _ _ _ _ _ _ (by omega) (by omega) ⟨w, h, lw, L, w11, gd, rfl, rfl, rfl, rfl, rfl, rfl, rfl, rfl, rfl, rfl, rfl, rfl, rfl, C⟩
set_option maxHeartbeats 4000000 in
set_option maxRecDepth 20000 in
theorem law_5 {xs : Nat → Int32} {L0 nF i : Nat} (hL0 : L0 ≤ 2048) (hi : i + 4 ≤ L0) (hf : L0 + 4 ≤ i + 4 * (nF + 1)) (ih : ∀ (i : Nat) (w2 w3 w4 w5 : Int32) (w6 w7 w8 : Int64) (w9 w10 w11 : Int32) (w12 w13 : Int64) (w14 w15 : Nat → Int64) (w16 : Nat → Int32) (w17 w18 w19 w20 w21 w22 : Int32) (w23 w24 : Int64) (w25 w26 : Nat → Int64) (w27 : Nat → Int32) (w28 w29 w30 w31 w32 w33 w34 : Int32) (w35 w36 : Int64) (w37 w38 w39 w40 : Int32) (w41 : Nat → Int64) (w42 : Nat → Int32) (w43 w44 : Nat → Int64) (w45 w46 w47 : Nat → Int32) (w48 w49 w50 w51 : Nat → Int64) (w52 : Nat → Int32) (w53 w54 w55 w56 : Nat → Int64) (w57 w58 w59 : Nat → Int32), i ≤ L0 → L0 + 4 ≤ i + 4 * nF → InvL w2 w3 w4 w5 w6 w7 w8 w9 w10 w11 w14 w15 w16 w17 w31 w32 w33 w34 w38 w40 w41 w42 w43 w44 w45 w46 w47 → lp_L_law_18 xs L0 nF (nI i) w2 w3 w4 w5 w6 w7 w8 w9 w10 w11 w12 w13 w14 w15 w16 w17 w18 w19 w20 w21 w22 w23 w24 w25 w26 w27 w28 w29 w30 w31 w32 w33 w34 w35 w36 w37 w38 w39 w40 w41 w42 w43 w44 w45 w46 w47 w48 w49 w50 w51 w52 w53 w54 w55 w56 w57 w58 w59 = some 1) (w2 w3 w4 w5 : Int32) (w6 w7 w8 : Int64) (w9 w10 w11 : Int32) (w12 w13 : Int64) (w14 w15 : Nat → Int64) (w16 : Nat → Int32) (w17 w18 w19 w20 w21 w22 : Int32) (w23 w24 : Int64) (w25 w26 : Nat → Int64) (w27 : Nat → Int32) (w28 w29 w30 w31 w32 w33 w34 : Int32) (w35 w36 : Int64) (w37 w38 w39 w40 : Int32) (w41 : Nat → Int64) (w42 : Nat → Int32) (w43 w44 : Nat → Int64) (w45 w46 w47 : Nat → Int32) (w48 w49 w50 w51 : Nat → Int64) (w52 : Nat → Int32) (w53 w54 w55 w56 : Nat → Int64) (w57 w58 w59 : Nat → Int32) (I : InvL w2 w3 w4 w5 w6 w7 w8 w9 w10 w11 w14 w15 w16 w17 w31 w32 w33 w34 w38 w40 w41 w42 w43 w44 w45 w46 w47) (hj : xs (nI i).toNatClampNeg &&& 31 = nI 5) : lp_L_law_18 xs L0 (nF + 1) (nI i) w2 w3 w4 w5 w6 w7 w8 w9 w10 w11 w12 w13 w14 w15 w16 w17 w18 w19 w20 w21 w22 w23 w24 w25 w26 w27 w28 w29 w30 w31 w32 w33 w34 w35 w36 w37 w38 w39 w40 w41 w42 w43 w44 w45 w46 w47 w48 w49 w50 w51 w52 w53 w54 w55 w56 w57 w58 w59 = some 1 := by
  have g0 : ¬ (nI i < 0 ∨ L0 ≤ (nI i).toNatClampNeg) := nI_in (by omega) (by omega)
  have e1 : nI i + 1 = nI (i + 1) := nI_1 i
  have e2 : nI i + 2 = nI (i + 2) := nI_add i 2
  have e3 : nI i + 3 = nI (i + 3) := nI_add i 3
  have a4 : nI i + 4 = nI (i + 4) := nI_add i 4
  have g1 : ¬ (nI i + 1 < 0 ∨ L0 ≤ (nI i + 1).toNatClampNeg) := by rw [e1]; exact nI_in (by omega) (by omega)
  have g2 : ¬ (nI i + 2 < 0 ∨ L0 ≤ (nI i + 2).toNatClampNeg) := by rw [e2]; exact nI_in (by omega) (by omega)
  have g3 : ¬ (nI i + 3 < 0 ∨ L0 ≤ (nI i + 3).toNatClampNeg) := by rw [e3]; exact nI_in (by omega) (by omega)
  have hend : ¬ nI L0 - 4 < nI i := by
    rw [show nI L0 - 4 = nI (L0 - 4) from pk_sub (b := 4) (by omega)]
    exact nI_nlt (by omega) (by omega)
  obtain ⟨w, h, lw, L, op, gd, rfl, rfl, rfl, rfl, rfl, rfl, rfl, rfl, rfl, rfl, rfl, hTM, hWN, C⟩ := I
  subst hTM hWN
  obtain ⟨G, N, hlw, hL, ho, U, hB, hT, b0, w0⟩ := C
  have C : Cr w h lw L _ gd w31 w32 w41 w14 w15 w43 w44 w16 w42 w45 w46 w47 := ⟨G, N, hlw, hL, ho, U, hB, hT, b0, w0⟩
  have hb := (U L (Nat.le_refl _)).1
  have hw := (U L (Nat.le_refl _)).2
  have BL := (hB L (Nat.le_refl _)).1
  have hmL := (hB L (Nat.le_refl _)).2
  have hac := fun i (hi : i < L) => (hT i hi).1
  have hTB : ∀ i, i < L → w46 (i + 1) = w46 i + Tk 1 w14 w15 i := fun i hi => by rw [Tk_up U 1 hi]; exact (hT i hi).2.1
  have hTW : ∀ i, i < L → w47 (i + 1) = w47 i + Tk 2 w14 w15 i := fun i hi => by rw [Tk_up U 2 hi]; exact (hT i hi).2.2
  rw [lp_L_law_18]
  refine (if_neg hend).trans ?_
  refine (if_neg g0).trans ?_
  refine (nm_eq _ _).trans ?_
  rw [hj]
  obtain ⟨q, L', e6, e7, c1, C'⟩ := q_undo C
  refine (if_neg (show ¬ nI 5 = 0 by decide)).trans ?_
  refine (if_neg (show ¬ nI 5 = 1 by decide)).trans ?_
  refine (if_neg (show ¬ nI 5 = 2 by decide)).trans ?_
  refine (if_neg (show ¬ nI 5 = 3 by decide)).trans ?_
  refine (if_neg (show ¬ nI 5 = 4 by decide)).trans ?_
  refine (if_pos (show nI 5 = 5 by decide)).trans ?_
  refine (bd_e e6).trans ?_
  refine (bd_e e7).trans ?_
  refine (if_pos rfl).trans ?_
  refine (nm_eq _ _).trans ?_
  rw [a4]
  exact ih (i + 4) _ _ _ _ _ _ _ _ _ _ _ _ _ _ _ _ _ _ _ _ _ _ _ _ _ _ _ _ _ _ _ _ _ _ _ _ _ _ _ _ _ _ _ _ _ _ _ _ _ _ _ _ _ _ _ _ _ _ (by omega) (by omega) ⟨w, h, lw, L', w11, gd, rfl, rfl, rfl, rfl, rfl, rfl, rfl, c1, rfl, rfl, c1, rfl, rfl, C'⟩
set_option maxHeartbeats 4000000 in
set_option maxRecDepth 20000 in
theorem law_6 {xs : Nat → Int32} {L0 nF i : Nat} (hL0 : L0 ≤ 2048) (hi : i + 4 ≤ L0) (hf : L0 + 4 ≤ i + 4 * (nF + 1)) (ih : ∀ (i : Nat) (w2 w3 w4 w5 : Int32) (w6 w7 w8 : Int64) (w9 w10 w11 : Int32) (w12 w13 : Int64) (w14 w15 : Nat → Int64) (w16 : Nat → Int32) (w17 w18 w19 w20 w21 w22 : Int32) (w23 w24 : Int64) (w25 w26 : Nat → Int64) (w27 : Nat → Int32) (w28 w29 w30 w31 w32 w33 w34 : Int32) (w35 w36 : Int64) (w37 w38 w39 w40 : Int32) (w41 : Nat → Int64) (w42 : Nat → Int32) (w43 w44 : Nat → Int64) (w45 w46 w47 : Nat → Int32) (w48 w49 w50 w51 : Nat → Int64) (w52 : Nat → Int32) (w53 w54 w55 w56 : Nat → Int64) (w57 w58 w59 : Nat → Int32), i ≤ L0 → L0 + 4 ≤ i + 4 * nF → InvL w2 w3 w4 w5 w6 w7 w8 w9 w10 w11 w14 w15 w16 w17 w31 w32 w33 w34 w38 w40 w41 w42 w43 w44 w45 w46 w47 → lp_L_law_18 xs L0 nF (nI i) w2 w3 w4 w5 w6 w7 w8 w9 w10 w11 w12 w13 w14 w15 w16 w17 w18 w19 w20 w21 w22 w23 w24 w25 w26 w27 w28 w29 w30 w31 w32 w33 w34 w35 w36 w37 w38 w39 w40 w41 w42 w43 w44 w45 w46 w47 w48 w49 w50 w51 w52 w53 w54 w55 w56 w57 w58 w59 = some 1) (w2 w3 w4 w5 : Int32) (w6 w7 w8 : Int64) (w9 w10 w11 : Int32) (w12 w13 : Int64) (w14 w15 : Nat → Int64) (w16 : Nat → Int32) (w17 w18 w19 w20 w21 w22 : Int32) (w23 w24 : Int64) (w25 w26 : Nat → Int64) (w27 : Nat → Int32) (w28 w29 w30 w31 w32 w33 w34 : Int32) (w35 w36 : Int64) (w37 w38 w39 w40 : Int32) (w41 : Nat → Int64) (w42 : Nat → Int32) (w43 w44 : Nat → Int64) (w45 w46 w47 : Nat → Int32) (w48 w49 w50 w51 : Nat → Int64) (w52 : Nat → Int32) (w53 w54 w55 w56 : Nat → Int64) (w57 w58 w59 : Nat → Int32) (I : InvL w2 w3 w4 w5 w6 w7 w8 w9 w10 w11 w14 w15 w16 w17 w31 w32 w33 w34 w38 w40 w41 w42 w43 w44 w45 w46 w47) (hj : xs (nI i).toNatClampNeg &&& 31 = nI 6) : lp_L_law_18 xs L0 (nF + 1) (nI i) w2 w3 w4 w5 w6 w7 w8 w9 w10 w11 w12 w13 w14 w15 w16 w17 w18 w19 w20 w21 w22 w23 w24 w25 w26 w27 w28 w29 w30 w31 w32 w33 w34 w35 w36 w37 w38 w39 w40 w41 w42 w43 w44 w45 w46 w47 w48 w49 w50 w51 w52 w53 w54 w55 w56 w57 w58 w59 = some 1 := by
  have g0 : ¬ (nI i < 0 ∨ L0 ≤ (nI i).toNatClampNeg) := nI_in (by omega) (by omega)
  have e1 : nI i + 1 = nI (i + 1) := nI_1 i
  have e2 : nI i + 2 = nI (i + 2) := nI_add i 2
  have e3 : nI i + 3 = nI (i + 3) := nI_add i 3
  have a4 : nI i + 4 = nI (i + 4) := nI_add i 4
  have g1 : ¬ (nI i + 1 < 0 ∨ L0 ≤ (nI i + 1).toNatClampNeg) := by rw [e1]; exact nI_in (by omega) (by omega)
  have g2 : ¬ (nI i + 2 < 0 ∨ L0 ≤ (nI i + 2).toNatClampNeg) := by rw [e2]; exact nI_in (by omega) (by omega)
  have g3 : ¬ (nI i + 3 < 0 ∨ L0 ≤ (nI i + 3).toNatClampNeg) := by rw [e3]; exact nI_in (by omega) (by omega)
  have hend : ¬ nI L0 - 4 < nI i := by
    rw [show nI L0 - 4 = nI (L0 - 4) from pk_sub (b := 4) (by omega)]
    exact nI_nlt (by omega) (by omega)
  obtain ⟨w, h, lw, L, op, gd, rfl, rfl, rfl, rfl, rfl, rfl, rfl, rfl, rfl, rfl, rfl, hTM, hWN, C⟩ := I
  subst hTM hWN
  obtain ⟨G, N, hlw, hL, ho, U, hB, hT, b0, w0⟩ := C
  have C : Cr w h lw L _ gd w31 w32 w41 w14 w15 w43 w44 w16 w42 w45 w46 w47 := ⟨G, N, hlw, hL, ho, U, hB, hT, b0, w0⟩
  have hb := (U L (Nat.le_refl _)).1
  have hw := (U L (Nat.le_refl _)).2
  have BL := (hB L (Nat.le_refl _)).1
  have hmL := (hB L (Nat.le_refl _)).2
  have hac := fun i (hi : i < L) => (hT i hi).1
  have hTB : ∀ i, i < L → w46 (i + 1) = w46 i + Tk 1 w14 w15 i := fun i hi => by rw [Tk_up U 1 hi]; exact (hT i hi).2.1
  have hTW : ∀ i, i < L → w47 (i + 1) = w47 i + Tk 2 w14 w15 i := fun i hi => by rw [Tk_up U 2 hi]; exact (hT i hi).2.2
  rw [lp_L_law_18]
  refine (if_neg hend).trans ?_
  refine (if_neg g0).trans ?_
  refine (nm_eq _ _).trans ?_
  rw [hj]
  obtain ⟨q, e6, e7⟩ := q_at G N hL hb hw (xs (nI i + 1).toNatClampNeg)
  refine (if_neg (show ¬ nI 6 = 0 by decide)).trans ?_
  refine (if_neg (show ¬ nI 6 = 1 by decide)).trans ?_
  refine (if_neg (show ¬ nI 6 = 2 by decide)).trans ?_
  refine (if_neg (show ¬ nI 6 = 3 by decide)).trans ?_
  refine (if_neg (show ¬ nI 6 = 4 by decide)).trans ?_
  refine (if_neg (show ¬ nI 6 = 5 by decide)).trans ?_
  refine (if_pos (show nI 6 = 6 by decide)).trans ?_
  refine (if_neg g1).trans ?_
  refine (bd_e e6).trans ?_
  refine (if_neg g1).trans ?_
  refine (bd_e e7).trans ?_
  refine (if_pos rfl).trans ?_
  refine (nm_eq _ _).trans ?_
  rw [a4]
  exact ih (i + 4) _ _ _ _ _ _ _ _ _ _ _ _ _ _ _ _ _ _ _ _ _ _ _ _ _ _ _ _ _ _ _ _ _ _ _ _ _ _ _ _ _ _ _ _ _ _ _ _ _ _ _ _ _ _ _ _ _ _ (by omega) (by omega) ⟨w, h, lw, L, w11, gd, rfl, rfl, rfl, rfl, rfl, rfl, rfl, rfl, rfl, rfl, rfl, rfl, rfl, C⟩
set_option maxHeartbeats 4000000 in
set_option maxRecDepth 20000 in
theorem law_7 {xs : Nat → Int32} {L0 nF i : Nat} (hL0 : L0 ≤ 2048) (hi : i + 4 ≤ L0) (hf : L0 + 4 ≤ i + 4 * (nF + 1)) (ih : ∀ (i : Nat) (w2 w3 w4 w5 : Int32) (w6 w7 w8 : Int64) (w9 w10 w11 : Int32) (w12 w13 : Int64) (w14 w15 : Nat → Int64) (w16 : Nat → Int32) (w17 w18 w19 w20 w21 w22 : Int32) (w23 w24 : Int64) (w25 w26 : Nat → Int64) (w27 : Nat → Int32) (w28 w29 w30 w31 w32 w33 w34 : Int32) (w35 w36 : Int64) (w37 w38 w39 w40 : Int32) (w41 : Nat → Int64) (w42 : Nat → Int32) (w43 w44 : Nat → Int64) (w45 w46 w47 : Nat → Int32) (w48 w49 w50 w51 : Nat → Int64) (w52 : Nat → Int32) (w53 w54 w55 w56 : Nat → Int64) (w57 w58 w59 : Nat → Int32), i ≤ L0 → L0 + 4 ≤ i + 4 * nF → InvL w2 w3 w4 w5 w6 w7 w8 w9 w10 w11 w14 w15 w16 w17 w31 w32 w33 w34 w38 w40 w41 w42 w43 w44 w45 w46 w47 → lp_L_law_18 xs L0 nF (nI i) w2 w3 w4 w5 w6 w7 w8 w9 w10 w11 w12 w13 w14 w15 w16 w17 w18 w19 w20 w21 w22 w23 w24 w25 w26 w27 w28 w29 w30 w31 w32 w33 w34 w35 w36 w37 w38 w39 w40 w41 w42 w43 w44 w45 w46 w47 w48 w49 w50 w51 w52 w53 w54 w55 w56 w57 w58 w59 = some 1) (w2 w3 w4 w5 : Int32) (w6 w7 w8 : Int64) (w9 w10 w11 : Int32) (w12 w13 : Int64) (w14 w15 : Nat → Int64) (w16 : Nat → Int32) (w17 w18 w19 w20 w21 w22 : Int32) (w23 w24 : Int64) (w25 w26 : Nat → Int64) (w27 : Nat → Int32) (w28 w29 w30 w31 w32 w33 w34 : Int32) (w35 w36 : Int64) (w37 w38 w39 w40 : Int32) (w41 : Nat → Int64) (w42 : Nat → Int32) (w43 w44 : Nat → Int64) (w45 w46 w47 : Nat → Int32) (w48 w49 w50 w51 : Nat → Int64) (w52 : Nat → Int32) (w53 w54 w55 w56 : Nat → Int64) (w57 w58 w59 : Nat → Int32) (I : InvL w2 w3 w4 w5 w6 w7 w8 w9 w10 w11 w14 w15 w16 w17 w31 w32 w33 w34 w38 w40 w41 w42 w43 w44 w45 w46 w47) (hj : xs (nI i).toNatClampNeg &&& 31 = nI 7) : lp_L_law_18 xs L0 (nF + 1) (nI i) w2 w3 w4 w5 w6 w7 w8 w9 w10 w11 w12 w13 w14 w15 w16 w17 w18 w19 w20 w21 w22 w23 w24 w25 w26 w27 w28 w29 w30 w31 w32 w33 w34 w35 w36 w37 w38 w39 w40 w41 w42 w43 w44 w45 w46 w47 w48 w49 w50 w51 w52 w53 w54 w55 w56 w57 w58 w59 = some 1 := by
  have g0 : ¬ (nI i < 0 ∨ L0 ≤ (nI i).toNatClampNeg) := nI_in (by omega) (by omega)
  have e1 : nI i + 1 = nI (i + 1) := nI_1 i
  have e2 : nI i + 2 = nI (i + 2) := nI_add i 2
  have e3 : nI i + 3 = nI (i + 3) := nI_add i 3
  have a4 : nI i + 4 = nI (i + 4) := nI_add i 4
  have g1 : ¬ (nI i + 1 < 0 ∨ L0 ≤ (nI i + 1).toNatClampNeg) := by rw [e1]; exact nI_in (by omega) (by omega)
  have g2 : ¬ (nI i + 2 < 0 ∨ L0 ≤ (nI i + 2).toNatClampNeg) := by rw [e2]; exact nI_in (by omega) (by omega)
  have g3 : ¬ (nI i + 3 < 0 ∨ L0 ≤ (nI i + 3).toNatClampNeg) := by rw [e3]; exact nI_in (by omega) (by omega)
  have hend : ¬ nI L0 - 4 < nI i := by
    rw [show nI L0 - 4 = nI (L0 - 4) from pk_sub (b := 4) (by omega)]
    exact nI_nlt (by omega) (by omega)
  obtain ⟨w, h, lw, L, op, gd, rfl, rfl, rfl, rfl, rfl, rfl, rfl, rfl, rfl, rfl, rfl, hTM, hWN, C⟩ := I
  subst hTM hWN
  obtain ⟨G, N, hlw, hL, ho, U, hB, hT, b0, w0⟩ := C
  have C : Cr w h lw L _ gd w31 w32 w41 w14 w15 w43 w44 w16 w42 w45 w46 w47 := ⟨G, N, hlw, hL, ho, U, hB, hT, b0, w0⟩
  have hb := (U L (Nat.le_refl _)).1
  have hw := (U L (Nat.le_refl _)).2
  have BL := (hB L (Nat.le_refl _)).1
  have hmL := (hB L (Nat.le_refl _)).2
  have hac := fun i (hi : i < L) => (hT i hi).1
  have hTB : ∀ i, i < L → w46 (i + 1) = w46 i + Tk 1 w14 w15 i := fun i hi => by rw [Tk_up U 1 hi]; exact (hT i hi).2.1
  have hTW : ∀ i, i < L → w47 (i + 1) = w47 i + Tk 2 w14 w15 i := fun i hi => by rw [Tk_up U 2 hi]; exact (hT i hi).2.2
  rw [lp_L_law_18]
  refine (if_neg hend).trans ?_
  refine (if_neg g0).trans ?_
  refine (nm_eq _ _).trans ?_
  rw [hj]
  obtain ⟨q, e6, e7⟩ := q_group G N hL hb hw BL (xs (nI i + 1).toNatClampNeg) (xs (nI i + 2).toNatClampNeg)
  refine (if_neg (show ¬ nI 7 = 0 by decide)).trans ?_
  refine (if_neg (show ¬ nI 7 = 1 by decide)).trans ?_
  refine (if_neg (show ¬ nI 7 = 2 by decide)).trans ?_
  refine (if_neg (show ¬ nI 7 = 3 by decide)).trans ?_
  refine (if_neg (show ¬ nI 7 = 4 by decide)).trans ?_
  refine (if_neg (show ¬ nI 7 = 5 by decide)).trans ?_
  refine (if_neg (show ¬ nI 7 = 6 by decide)).trans ?_
  refine (if_pos (show nI 7 = 7 by decide)).trans ?_
  refine (if_neg g1).trans ?_
  refine (if_neg g2).trans ?_
  refine (bd_e e6).trans ?_
  refine (if_neg g1).trans ?_
  refine (if_neg g2).trans ?_
  refine (bd_e e7).trans ?_
  refine (if_pos rfl).trans ?_
  refine (nm_eq _ _).trans ?_
  rw [a4]
  exact ih (i + 4) _ _ _ _ _ _ _ _ _ _ _ _ _ _ _ _ _ _ _ _ _ _ _ _ _ _ _ _ _ _ _ _ _ _ _ _ _ _ _ _ _ _ _ _ _ _ _ _ _ _ _ _ _ _ _ _ _ _ (by omega) (by omega) ⟨w, h, lw, L, w11, gd, rfl, rfl, rfl, rfl, rfl, rfl, rfl, rfl, rfl, rfl, rfl, rfl, rfl, C⟩
set_option maxHeartbeats 4000000 in
set_option maxRecDepth 20000 in
theorem law_8 {xs : Nat → Int32} {L0 nF i : Nat} (hL0 : L0 ≤ 2048) (hi : i + 4 ≤ L0) (hf : L0 + 4 ≤ i + 4 * (nF + 1)) (ih : ∀ (i : Nat) (w2 w3 w4 w5 : Int32) (w6 w7 w8 : Int64) (w9 w10 w11 : Int32) (w12 w13 : Int64) (w14 w15 : Nat → Int64) (w16 : Nat → Int32) (w17 w18 w19 w20 w21 w22 : Int32) (w23 w24 : Int64) (w25 w26 : Nat → Int64) (w27 : Nat → Int32) (w28 w29 w30 w31 w32 w33 w34 : Int32) (w35 w36 : Int64) (w37 w38 w39 w40 : Int32) (w41 : Nat → Int64) (w42 : Nat → Int32) (w43 w44 : Nat → Int64) (w45 w46 w47 : Nat → Int32) (w48 w49 w50 w51 : Nat → Int64) (w52 : Nat → Int32) (w53 w54 w55 w56 : Nat → Int64) (w57 w58 w59 : Nat → Int32), i ≤ L0 → L0 + 4 ≤ i + 4 * nF → InvL w2 w3 w4 w5 w6 w7 w8 w9 w10 w11 w14 w15 w16 w17 w31 w32 w33 w34 w38 w40 w41 w42 w43 w44 w45 w46 w47 → lp_L_law_18 xs L0 nF (nI i) w2 w3 w4 w5 w6 w7 w8 w9 w10 w11 w12 w13 w14 w15 w16 w17 w18 w19 w20 w21 w22 w23 w24 w25 w26 w27 w28 w29 w30 w31 w32 w33 w34 w35 w36 w37 w38 w39 w40 w41 w42 w43 w44 w45 w46 w47 w48 w49 w50 w51 w52 w53 w54 w55 w56 w57 w58 w59 = some 1) (w2 w3 w4 w5 : Int32) (w6 w7 w8 : Int64) (w9 w10 w11 : Int32) (w12 w13 : Int64) (w14 w15 : Nat → Int64) (w16 : Nat → Int32) (w17 w18 w19 w20 w21 w22 : Int32) (w23 w24 : Int64) (w25 w26 : Nat → Int64) (w27 : Nat → Int32) (w28 w29 w30 w31 w32 w33 w34 : Int32) (w35 w36 : Int64) (w37 w38 w39 w40 : Int32) (w41 : Nat → Int64) (w42 : Nat → Int32) (w43 w44 : Nat → Int64) (w45 w46 w47 : Nat → Int32) (w48 w49 w50 w51 : Nat → Int64) (w52 : Nat → Int32) (w53 w54 w55 w56 : Nat → Int64) (w57 w58 w59 : Nat → Int32) (I : InvL w2 w3 w4 w5 w6 w7 w8 w9 w10 w11 w14 w15 w16 w17 w31 w32 w33 w34 w38 w40 w41 w42 w43 w44 w45 w46 w47) (hj : xs (nI i).toNatClampNeg &&& 31 = nI 8) : lp_L_law_18 xs L0 (nF + 1) (nI i) w2 w3 w4 w5 w6 w7 w8 w9 w10 w11 w12 w13 w14 w15 w16 w17 w18 w19 w20 w21 w22 w23 w24 w25 w26 w27 w28 w29 w30 w31 w32 w33 w34 w35 w36 w37 w38 w39 w40 w41 w42 w43 w44 w45 w46 w47 w48 w49 w50 w51 w52 w53 w54 w55 w56 w57 w58 w59 = some 1 := by
  have g0 : ¬ (nI i < 0 ∨ L0 ≤ (nI i).toNatClampNeg) := nI_in (by omega) (by omega)
  have e1 : nI i + 1 = nI (i + 1) := nI_1 i
  have e2 : nI i + 2 = nI (i + 2) := nI_add i 2
  have e3 : nI i + 3 = nI (i + 3) := nI_add i 3
  have a4 : nI i + 4 = nI (i + 4) := nI_add i 4
  have g1 : ¬ (nI i + 1 < 0 ∨ L0 ≤ (nI i + 1).toNatClampNeg) := by rw [e1]; exact nI_in (by omega) (by omega)
  have g2 : ¬ (nI i + 2 < 0 ∨ L0 ≤ (nI i + 2).toNatClampNeg) := by rw [e2]; exact nI_in (by omega) (by omega)
  have g3 : ¬ (nI i + 3 < 0 ∨ L0 ≤ (nI i + 3).toNatClampNeg) := by rw [e3]; exact nI_in (by omega) (by omega)
  have hend : ¬ nI L0 - 4 < nI i := by
    rw [show nI L0 - 4 = nI (L0 - 4) from pk_sub (b := 4) (by omega)]
    exact nI_nlt (by omega) (by omega)
  obtain ⟨w, h, lw, L, op, gd, rfl, rfl, rfl, rfl, rfl, rfl, rfl, rfl, rfl, rfl, rfl, hTM, hWN, C⟩ := I
  subst hTM hWN
  obtain ⟨G, N, hlw, hL, ho, U, hB, hT, b0, w0⟩ := C
  have C : Cr w h lw L _ gd w31 w32 w41 w14 w15 w43 w44 w16 w42 w45 w46 w47 := ⟨G, N, hlw, hL, ho, U, hB, hT, b0, w0⟩
  have hb := (U L (Nat.le_refl _)).1
  have hw := (U L (Nat.le_refl _)).2
  have BL := (hB L (Nat.le_refl _)).1
  have hmL := (hB L (Nat.le_refl _)).2
  have hac := fun i (hi : i < L) => (hT i hi).1
  have hTB : ∀ i, i < L → w46 (i + 1) = w46 i + Tk 1 w14 w15 i := fun i hi => by rw [Tk_up U 1 hi]; exact (hT i hi).2.1
  have hTW : ∀ i, i < L → w47 (i + 1) = w47 i + Tk 2 w14 w15 i := fun i hi => by rw [Tk_up U 2 hi]; exact (hT i hi).2.2
  rw [lp_L_law_18]
  refine (if_neg hend).trans ?_
  refine (if_neg g0).trans ?_
  refine (nm_eq _ _).trans ?_
  rw [hj]
  obtain ⟨q, e6, e7⟩ := q_breath G N hL hb hw BL (xs (nI i + 1).toNatClampNeg) (xs (nI i + 2).toNatClampNeg)
  refine (if_neg (show ¬ nI 8 = 0 by decide)).trans ?_
  refine (if_neg (show ¬ nI 8 = 1 by decide)).trans ?_
  refine (if_neg (show ¬ nI 8 = 2 by decide)).trans ?_
  refine (if_neg (show ¬ nI 8 = 3 by decide)).trans ?_
  refine (if_neg (show ¬ nI 8 = 4 by decide)).trans ?_
  refine (if_neg (show ¬ nI 8 = 5 by decide)).trans ?_
  refine (if_neg (show ¬ nI 8 = 6 by decide)).trans ?_
  refine (if_neg (show ¬ nI 8 = 7 by decide)).trans ?_
  refine (if_pos (show nI 8 = 8 by decide)).trans ?_
  refine (if_neg g1).trans ?_
  refine (if_neg g2).trans ?_
  refine (bd_e e6).trans ?_
  refine (if_neg g1).trans ?_
  refine (if_neg g2).trans ?_
  refine (bd_e e7).trans ?_
  refine (if_pos rfl).trans ?_
  refine (nm_eq _ _).trans ?_
  rw [a4]
  exact ih (i + 4) _ _ _ _ _ _ _ _ _ _ _ _ _ _ _ _ _ _ _ _ _ _ _ _ _ _ _ _ _ _ _ _ _ _ _ _ _ _ _ _ _ _ _ _ _ _ _ _ _ _ _ _ _ _ _ _ _ _ (by omega) (by omega) ⟨w, h, lw, L, w11, gd, rfl, rfl, rfl, rfl, rfl, rfl, rfl, rfl, rfl, rfl, rfl, rfl, rfl, C⟩
set_option maxHeartbeats 4000000 in
set_option maxRecDepth 20000 in
theorem law_9 {xs : Nat → Int32} {L0 nF i : Nat} (hL0 : L0 ≤ 2048) (hi : i + 4 ≤ L0) (hf : L0 + 4 ≤ i + 4 * (nF + 1)) (ih : ∀ (i : Nat) (w2 w3 w4 w5 : Int32) (w6 w7 w8 : Int64) (w9 w10 w11 : Int32) (w12 w13 : Int64) (w14 w15 : Nat → Int64) (w16 : Nat → Int32) (w17 w18 w19 w20 w21 w22 : Int32) (w23 w24 : Int64) (w25 w26 : Nat → Int64) (w27 : Nat → Int32) (w28 w29 w30 w31 w32 w33 w34 : Int32) (w35 w36 : Int64) (w37 w38 w39 w40 : Int32) (w41 : Nat → Int64) (w42 : Nat → Int32) (w43 w44 : Nat → Int64) (w45 w46 w47 : Nat → Int32) (w48 w49 w50 w51 : Nat → Int64) (w52 : Nat → Int32) (w53 w54 w55 w56 : Nat → Int64) (w57 w58 w59 : Nat → Int32), i ≤ L0 → L0 + 4 ≤ i + 4 * nF → InvL w2 w3 w4 w5 w6 w7 w8 w9 w10 w11 w14 w15 w16 w17 w31 w32 w33 w34 w38 w40 w41 w42 w43 w44 w45 w46 w47 → lp_L_law_18 xs L0 nF (nI i) w2 w3 w4 w5 w6 w7 w8 w9 w10 w11 w12 w13 w14 w15 w16 w17 w18 w19 w20 w21 w22 w23 w24 w25 w26 w27 w28 w29 w30 w31 w32 w33 w34 w35 w36 w37 w38 w39 w40 w41 w42 w43 w44 w45 w46 w47 w48 w49 w50 w51 w52 w53 w54 w55 w56 w57 w58 w59 = some 1) (w2 w3 w4 w5 : Int32) (w6 w7 w8 : Int64) (w9 w10 w11 : Int32) (w12 w13 : Int64) (w14 w15 : Nat → Int64) (w16 : Nat → Int32) (w17 w18 w19 w20 w21 w22 : Int32) (w23 w24 : Int64) (w25 w26 : Nat → Int64) (w27 : Nat → Int32) (w28 w29 w30 w31 w32 w33 w34 : Int32) (w35 w36 : Int64) (w37 w38 w39 w40 : Int32) (w41 : Nat → Int64) (w42 : Nat → Int32) (w43 w44 : Nat → Int64) (w45 w46 w47 : Nat → Int32) (w48 w49 w50 w51 : Nat → Int64) (w52 : Nat → Int32) (w53 w54 w55 w56 : Nat → Int64) (w57 w58 w59 : Nat → Int32) (I : InvL w2 w3 w4 w5 w6 w7 w8 w9 w10 w11 w14 w15 w16 w17 w31 w32 w33 w34 w38 w40 w41 w42 w43 w44 w45 w46 w47) (hj : xs (nI i).toNatClampNeg &&& 31 = nI 9) : lp_L_law_18 xs L0 (nF + 1) (nI i) w2 w3 w4 w5 w6 w7 w8 w9 w10 w11 w12 w13 w14 w15 w16 w17 w18 w19 w20 w21 w22 w23 w24 w25 w26 w27 w28 w29 w30 w31 w32 w33 w34 w35 w36 w37 w38 w39 w40 w41 w42 w43 w44 w45 w46 w47 w48 w49 w50 w51 w52 w53 w54 w55 w56 w57 w58 w59 = some 1 := by
  have g0 : ¬ (nI i < 0 ∨ L0 ≤ (nI i).toNatClampNeg) := nI_in (by omega) (by omega)
  have e1 : nI i + 1 = nI (i + 1) := nI_1 i
  have e2 : nI i + 2 = nI (i + 2) := nI_add i 2
  have e3 : nI i + 3 = nI (i + 3) := nI_add i 3
  have a4 : nI i + 4 = nI (i + 4) := nI_add i 4
  have g1 : ¬ (nI i + 1 < 0 ∨ L0 ≤ (nI i + 1).toNatClampNeg) := by rw [e1]; exact nI_in (by omega) (by omega)
  have g2 : ¬ (nI i + 2 < 0 ∨ L0 ≤ (nI i + 2).toNatClampNeg) := by rw [e2]; exact nI_in (by omega) (by omega)
  have g3 : ¬ (nI i + 3 < 0 ∨ L0 ≤ (nI i + 3).toNatClampNeg) := by rw [e3]; exact nI_in (by omega) (by omega)
  have hend : ¬ nI L0 - 4 < nI i := by
    rw [show nI L0 - 4 = nI (L0 - 4) from pk_sub (b := 4) (by omega)]
    exact nI_nlt (by omega) (by omega)
  obtain ⟨w, h, lw, L, op, gd, rfl, rfl, rfl, rfl, rfl, rfl, rfl, rfl, rfl, rfl, rfl, hTM, hWN, C⟩ := I
  subst hTM hWN
  obtain ⟨G, N, hlw, hL, ho, U, hB, hT, b0, w0⟩ := C
  have C : Cr w h lw L _ gd w31 w32 w41 w14 w15 w43 w44 w16 w42 w45 w46 w47 := ⟨G, N, hlw, hL, ho, U, hB, hT, b0, w0⟩
  have hb := (U L (Nat.le_refl _)).1
  have hw := (U L (Nat.le_refl _)).2
  have BL := (hB L (Nat.le_refl _)).1
  have hmL := (hB L (Nat.le_refl _)).2
  have hac := fun i (hi : i < L) => (hT i hi).1
  have hTB : ∀ i, i < L → w46 (i + 1) = w46 i + Tk 1 w14 w15 i := fun i hi => by rw [Tk_up U 1 hi]; exact (hT i hi).2.1
  have hTW : ∀ i, i < L → w47 (i + 1) = w47 i + Tk 2 w14 w15 i := fun i hi => by rw [Tk_up U 2 hi]; exact (hT i hi).2.2
  rw [lp_L_law_18]
  refine (if_neg hend).trans ?_
  refine (if_neg g0).trans ?_
  refine (nm_eq _ _).trans ?_
  rw [hj]
  obtain ⟨q, e6, e7⟩ := q_region G N hL hb hw BL (xs (nI i + 1).toNatClampNeg) (xs (nI i + 2).toNatClampNeg) (xs (nI i + 3).toNatClampNeg)
  refine (if_neg (show ¬ nI 9 = 0 by decide)).trans ?_
  refine (if_neg (show ¬ nI 9 = 1 by decide)).trans ?_
  refine (if_neg (show ¬ nI 9 = 2 by decide)).trans ?_
  refine (if_neg (show ¬ nI 9 = 3 by decide)).trans ?_
  refine (if_neg (show ¬ nI 9 = 4 by decide)).trans ?_
  refine (if_neg (show ¬ nI 9 = 5 by decide)).trans ?_
  refine (if_neg (show ¬ nI 9 = 6 by decide)).trans ?_
  refine (if_neg (show ¬ nI 9 = 7 by decide)).trans ?_
  refine (if_neg (show ¬ nI 9 = 8 by decide)).trans ?_
  refine (if_pos (show nI 9 = 9 by decide)).trans ?_
  refine (if_neg g1).trans ?_
  refine (if_neg g2).trans ?_
  refine (if_neg g3).trans ?_
  refine (bd_e e6).trans ?_
  refine (if_neg g1).trans ?_
  refine (if_neg g2).trans ?_
  refine (if_neg g3).trans ?_
  refine (bd_e e7).trans ?_
  refine (if_pos rfl).trans ?_
  refine (nm_eq _ _).trans ?_
  rw [a4]
  exact ih (i + 4) _ _ _ _ _ _ _ _ _ _ _ _ _ _ _ _ _ _ _ _ _ _ _ _ _ _ _ _ _ _ _ _ _ _ _ _ _ _ _ _ _ _ _ _ _ _ _ _ _ _ _ _ _ _ _ _ _ _ (by omega) (by omega) ⟨w, h, lw, L, w11, gd, rfl, rfl, rfl, rfl, rfl, rfl, rfl, rfl, rfl, rfl, rfl, rfl, rfl, C⟩
set_option maxHeartbeats 4000000 in
set_option maxRecDepth 20000 in
theorem law_10 {xs : Nat → Int32} {L0 nF i : Nat} (hL0 : L0 ≤ 2048) (hi : i + 4 ≤ L0) (hf : L0 + 4 ≤ i + 4 * (nF + 1)) (ih : ∀ (i : Nat) (w2 w3 w4 w5 : Int32) (w6 w7 w8 : Int64) (w9 w10 w11 : Int32) (w12 w13 : Int64) (w14 w15 : Nat → Int64) (w16 : Nat → Int32) (w17 w18 w19 w20 w21 w22 : Int32) (w23 w24 : Int64) (w25 w26 : Nat → Int64) (w27 : Nat → Int32) (w28 w29 w30 w31 w32 w33 w34 : Int32) (w35 w36 : Int64) (w37 w38 w39 w40 : Int32) (w41 : Nat → Int64) (w42 : Nat → Int32) (w43 w44 : Nat → Int64) (w45 w46 w47 : Nat → Int32) (w48 w49 w50 w51 : Nat → Int64) (w52 : Nat → Int32) (w53 w54 w55 w56 : Nat → Int64) (w57 w58 w59 : Nat → Int32), i ≤ L0 → L0 + 4 ≤ i + 4 * nF → InvL w2 w3 w4 w5 w6 w7 w8 w9 w10 w11 w14 w15 w16 w17 w31 w32 w33 w34 w38 w40 w41 w42 w43 w44 w45 w46 w47 → lp_L_law_18 xs L0 nF (nI i) w2 w3 w4 w5 w6 w7 w8 w9 w10 w11 w12 w13 w14 w15 w16 w17 w18 w19 w20 w21 w22 w23 w24 w25 w26 w27 w28 w29 w30 w31 w32 w33 w34 w35 w36 w37 w38 w39 w40 w41 w42 w43 w44 w45 w46 w47 w48 w49 w50 w51 w52 w53 w54 w55 w56 w57 w58 w59 = some 1) (w2 w3 w4 w5 : Int32) (w6 w7 w8 : Int64) (w9 w10 w11 : Int32) (w12 w13 : Int64) (w14 w15 : Nat → Int64) (w16 : Nat → Int32) (w17 w18 w19 w20 w21 w22 : Int32) (w23 w24 : Int64) (w25 w26 : Nat → Int64) (w27 : Nat → Int32) (w28 w29 w30 w31 w32 w33 w34 : Int32) (w35 w36 : Int64) (w37 w38 w39 w40 : Int32) (w41 : Nat → Int64) (w42 : Nat → Int32) (w43 w44 : Nat → Int64) (w45 w46 w47 : Nat → Int32) (w48 w49 w50 w51 : Nat → Int64) (w52 : Nat → Int32) (w53 w54 w55 w56 : Nat → Int64) (w57 w58 w59 : Nat → Int32) (I : InvL w2 w3 w4 w5 w6 w7 w8 w9 w10 w11 w14 w15 w16 w17 w31 w32 w33 w34 w38 w40 w41 w42 w43 w44 w45 w46 w47) (hj : xs (nI i).toNatClampNeg &&& 31 = nI 10) : lp_L_law_18 xs L0 (nF + 1) (nI i) w2 w3 w4 w5 w6 w7 w8 w9 w10 w11 w12 w13 w14 w15 w16 w17 w18 w19 w20 w21 w22 w23 w24 w25 w26 w27 w28 w29 w30 w31 w32 w33 w34 w35 w36 w37 w38 w39 w40 w41 w42 w43 w44 w45 w46 w47 w48 w49 w50 w51 w52 w53 w54 w55 w56 w57 w58 w59 = some 1 := by
  have g0 : ¬ (nI i < 0 ∨ L0 ≤ (nI i).toNatClampNeg) := nI_in (by omega) (by omega)
  have e1 : nI i + 1 = nI (i + 1) := nI_1 i
  have e2 : nI i + 2 = nI (i + 2) := nI_add i 2
  have e3 : nI i + 3 = nI (i + 3) := nI_add i 3
  have a4 : nI i + 4 = nI (i + 4) := nI_add i 4
  have g1 : ¬ (nI i + 1 < 0 ∨ L0 ≤ (nI i + 1).toNatClampNeg) := by rw [e1]; exact nI_in (by omega) (by omega)
  have g2 : ¬ (nI i + 2 < 0 ∨ L0 ≤ (nI i + 2).toNatClampNeg) := by rw [e2]; exact nI_in (by omega) (by omega)
  have g3 : ¬ (nI i + 3 < 0 ∨ L0 ≤ (nI i + 3).toNatClampNeg) := by rw [e3]; exact nI_in (by omega) (by omega)
  have hend : ¬ nI L0 - 4 < nI i := by
    rw [show nI L0 - 4 = nI (L0 - 4) from pk_sub (b := 4) (by omega)]
    exact nI_nlt (by omega) (by omega)
  obtain ⟨w, h, lw, L, op, gd, rfl, rfl, rfl, rfl, rfl, rfl, rfl, rfl, rfl, rfl, rfl, hTM, hWN, C⟩ := I
  subst hTM hWN
  obtain ⟨G, N, hlw, hL, ho, U, hB, hT, b0, w0⟩ := C
  have C : Cr w h lw L _ gd w31 w32 w41 w14 w15 w43 w44 w16 w42 w45 w46 w47 := ⟨G, N, hlw, hL, ho, U, hB, hT, b0, w0⟩
  have hb := (U L (Nat.le_refl _)).1
  have hw := (U L (Nat.le_refl _)).2
  have BL := (hB L (Nat.le_refl _)).1
  have hmL := (hB L (Nat.le_refl _)).2
  have hac := fun i (hi : i < L) => (hT i hi).1
  have hTB : ∀ i, i < L → w46 (i + 1) = w46 i + Tk 1 w14 w15 i := fun i hi => by rw [Tk_up U 1 hi]; exact (hT i hi).2.1
  have hTW : ∀ i, i < L → w47 (i + 1) = w47 i + Tk 2 w14 w15 i := fun i hi => by rw [Tk_up U 2 hi]; exact (hT i hi).2.2
  rw [lp_L_law_18]
  refine (if_neg hend).trans ?_
  refine (if_neg g0).trans ?_
  refine (nm_eq _ _).trans ?_
  rw [hj]
  obtain ⟨q, e6, e7⟩ := q_standing G N hL hb hw BL (xs (nI i + 1).toNatClampNeg)
  refine (if_neg (show ¬ nI 10 = 0 by decide)).trans ?_
  refine (if_neg (show ¬ nI 10 = 1 by decide)).trans ?_
  refine (if_neg (show ¬ nI 10 = 2 by decide)).trans ?_
  refine (if_neg (show ¬ nI 10 = 3 by decide)).trans ?_
  refine (if_neg (show ¬ nI 10 = 4 by decide)).trans ?_
  refine (if_neg (show ¬ nI 10 = 5 by decide)).trans ?_
  refine (if_neg (show ¬ nI 10 = 6 by decide)).trans ?_
  refine (if_neg (show ¬ nI 10 = 7 by decide)).trans ?_
  refine (if_neg (show ¬ nI 10 = 8 by decide)).trans ?_
  refine (if_neg (show ¬ nI 10 = 9 by decide)).trans ?_
  refine (if_pos (show nI 10 = 10 by decide)).trans ?_
  refine (if_neg g1).trans ?_
  refine (bd_e e6).trans ?_
  refine (if_neg g1).trans ?_
  refine (bd_e e7).trans ?_
  refine (if_pos rfl).trans ?_
  refine (nm_eq _ _).trans ?_
  rw [a4]
  exact ih (i + 4) _ _ _ _ _ _ _ _ _ _ _ _ _ _ _ _ _ _ _ _ _ _ _ _ _ _ _ _ _ _ _ _ _ _ _ _ _ _ _ _ _ _ _ _ _ _ _ _ _ _ _ _ _ _ _ _ _ _ (by omega) (by omega) ⟨w, h, lw, L, w11, gd, rfl, rfl, rfl, rfl, rfl, rfl, rfl, rfl, rfl, rfl, rfl, rfl, rfl, C⟩
set_option maxHeartbeats 4000000 in
set_option maxRecDepth 20000 in
theorem law_11 {xs : Nat → Int32} {L0 nF i : Nat} (hL0 : L0 ≤ 2048) (hi : i + 4 ≤ L0) (hf : L0 + 4 ≤ i + 4 * (nF + 1)) (ih : ∀ (i : Nat) (w2 w3 w4 w5 : Int32) (w6 w7 w8 : Int64) (w9 w10 w11 : Int32) (w12 w13 : Int64) (w14 w15 : Nat → Int64) (w16 : Nat → Int32) (w17 w18 w19 w20 w21 w22 : Int32) (w23 w24 : Int64) (w25 w26 : Nat → Int64) (w27 : Nat → Int32) (w28 w29 w30 w31 w32 w33 w34 : Int32) (w35 w36 : Int64) (w37 w38 w39 w40 : Int32) (w41 : Nat → Int64) (w42 : Nat → Int32) (w43 w44 : Nat → Int64) (w45 w46 w47 : Nat → Int32) (w48 w49 w50 w51 : Nat → Int64) (w52 : Nat → Int32) (w53 w54 w55 w56 : Nat → Int64) (w57 w58 w59 : Nat → Int32), i ≤ L0 → L0 + 4 ≤ i + 4 * nF → InvL w2 w3 w4 w5 w6 w7 w8 w9 w10 w11 w14 w15 w16 w17 w31 w32 w33 w34 w38 w40 w41 w42 w43 w44 w45 w46 w47 → lp_L_law_18 xs L0 nF (nI i) w2 w3 w4 w5 w6 w7 w8 w9 w10 w11 w12 w13 w14 w15 w16 w17 w18 w19 w20 w21 w22 w23 w24 w25 w26 w27 w28 w29 w30 w31 w32 w33 w34 w35 w36 w37 w38 w39 w40 w41 w42 w43 w44 w45 w46 w47 w48 w49 w50 w51 w52 w53 w54 w55 w56 w57 w58 w59 = some 1) (w2 w3 w4 w5 : Int32) (w6 w7 w8 : Int64) (w9 w10 w11 : Int32) (w12 w13 : Int64) (w14 w15 : Nat → Int64) (w16 : Nat → Int32) (w17 w18 w19 w20 w21 w22 : Int32) (w23 w24 : Int64) (w25 w26 : Nat → Int64) (w27 : Nat → Int32) (w28 w29 w30 w31 w32 w33 w34 : Int32) (w35 w36 : Int64) (w37 w38 w39 w40 : Int32) (w41 : Nat → Int64) (w42 : Nat → Int32) (w43 w44 : Nat → Int64) (w45 w46 w47 : Nat → Int32) (w48 w49 w50 w51 : Nat → Int64) (w52 : Nat → Int32) (w53 w54 w55 w56 : Nat → Int64) (w57 w58 w59 : Nat → Int32) (I : InvL w2 w3 w4 w5 w6 w7 w8 w9 w10 w11 w14 w15 w16 w17 w31 w32 w33 w34 w38 w40 w41 w42 w43 w44 w45 w46 w47) (hj : xs (nI i).toNatClampNeg &&& 31 = nI 11) : lp_L_law_18 xs L0 (nF + 1) (nI i) w2 w3 w4 w5 w6 w7 w8 w9 w10 w11 w12 w13 w14 w15 w16 w17 w18 w19 w20 w21 w22 w23 w24 w25 w26 w27 w28 w29 w30 w31 w32 w33 w34 w35 w36 w37 w38 w39 w40 w41 w42 w43 w44 w45 w46 w47 w48 w49 w50 w51 w52 w53 w54 w55 w56 w57 w58 w59 = some 1 := by
  have g0 : ¬ (nI i < 0 ∨ L0 ≤ (nI i).toNatClampNeg) := nI_in (by omega) (by omega)
  have e1 : nI i + 1 = nI (i + 1) := nI_1 i
  have e2 : nI i + 2 = nI (i + 2) := nI_add i 2
  have e3 : nI i + 3 = nI (i + 3) := nI_add i 3
  have a4 : nI i + 4 = nI (i + 4) := nI_add i 4
  have g1 : ¬ (nI i + 1 < 0 ∨ L0 ≤ (nI i + 1).toNatClampNeg) := by rw [e1]; exact nI_in (by omega) (by omega)
  have g2 : ¬ (nI i + 2 < 0 ∨ L0 ≤ (nI i + 2).toNatClampNeg) := by rw [e2]; exact nI_in (by omega) (by omega)
  have g3 : ¬ (nI i + 3 < 0 ∨ L0 ≤ (nI i + 3).toNatClampNeg) := by rw [e3]; exact nI_in (by omega) (by omega)
  have hend : ¬ nI L0 - 4 < nI i := by
    rw [show nI L0 - 4 = nI (L0 - 4) from pk_sub (b := 4) (by omega)]
    exact nI_nlt (by omega) (by omega)
  obtain ⟨w, h, lw, L, op, gd, rfl, rfl, rfl, rfl, rfl, rfl, rfl, rfl, rfl, rfl, rfl, hTM, hWN, C⟩ := I
  subst hTM hWN
  obtain ⟨G, N, hlw, hL, ho, U, hB, hT, b0, w0⟩ := C
  have C : Cr w h lw L _ gd w31 w32 w41 w14 w15 w43 w44 w16 w42 w45 w46 w47 := ⟨G, N, hlw, hL, ho, U, hB, hT, b0, w0⟩
  have hb := (U L (Nat.le_refl _)).1
  have hw := (U L (Nat.le_refl _)).2
  have BL := (hB L (Nat.le_refl _)).1
  have hmL := (hB L (Nat.le_refl _)).2
  have hac := fun i (hi : i < L) => (hT i hi).1
  have hTB : ∀ i, i < L → w46 (i + 1) = w46 i + Tk 1 w14 w15 i := fun i hi => by rw [Tk_up U 1 hi]; exact (hT i hi).2.1
  have hTW : ∀ i, i < L → w47 (i + 1) = w47 i + Tk 2 w14 w15 i := fun i hi => by rw [Tk_up U 2 hi]; exact (hT i hi).2.2
  rw [lp_L_law_18]
  refine (if_neg hend).trans ?_
  refine (if_neg g0).trans ?_
  refine (nm_eq _ _).trans ?_
  rw [hj]
  obtain ⟨q6, q7, e6, e7, eq, eT⟩ := q_chase G N hL hb hw BL w17 w18 w19 w20 w21 w22 w23 w24 w25 w26 w27 w35 w36 w37 w39 (w48, w49, w50, w51, w52, w53, w54, w55, w56, w57, w58) (xs (nI i + 1).toNatClampNeg) (xs (nI i + 2).toNatClampNeg)
  refine (if_neg (show ¬ nI 11 = 0 by decide)).trans ?_
  refine (if_neg (show ¬ nI 11 = 1 by decide)).trans ?_
  refine (if_neg (show ¬ nI 11 = 2 by decide)).trans ?_
  refine (if_neg (show ¬ nI 11 = 3 by decide)).trans ?_
  refine (if_neg (show ¬ nI 11 = 4 by decide)).trans ?_
  refine (if_neg (show ¬ nI 11 = 5 by decide)).trans ?_
  refine (if_neg (show ¬ nI 11 = 6 by decide)).trans ?_
  refine (if_neg (show ¬ nI 11 = 7 by decide)).trans ?_
  refine (if_neg (show ¬ nI 11 = 8 by decide)).trans ?_
  refine (if_neg (show ¬ nI 11 = 9 by decide)).trans ?_
  refine (if_neg (show ¬ nI 11 = 10 by decide)).trans ?_
  refine (if_pos (show nI 11 = 11 by decide)).trans ?_
  refine (if_neg g1).trans ?_
  refine (if_neg g2).trans ?_
  refine (bd_e e6).trans ?_
  refine (if_neg g1).trans ?_
  refine (if_neg g2).trans ?_
  refine (bd_e e7).trans ?_
  refine (if_pos eq).trans ?_
  refine (nm_eq _ _).trans ?_
  rw [a4]
  exact ih (i + 4) _ _ _ _ _ _ _ _ _ _ _ _ _ _ _ _ _ _ _ _ _ _ _ _ _ _ _ _ _ _ _ _ _ _ _ _ _ _ _ _ _ _ _ _ _ _ _ _ _ _ _ _ _ _ _ _ _ _ (by omega) (by omega) ⟨w, h, lw, L, w11, gd, rfl, rfl, rfl, rfl, rfl, rfl, rfl, rfl, rfl, rfl, rfl, eT, rfl, C⟩
set_option maxHeartbeats 4000000 in
set_option maxRecDepth 20000 in
theorem law_12 {xs : Nat → Int32} {L0 nF i : Nat} (hL0 : L0 ≤ 2048) (hi : i + 4 ≤ L0) (hf : L0 + 4 ≤ i + 4 * (nF + 1)) (ih : ∀ (i : Nat) (w2 w3 w4 w5 : Int32) (w6 w7 w8 : Int64) (w9 w10 w11 : Int32) (w12 w13 : Int64) (w14 w15 : Nat → Int64) (w16 : Nat → Int32) (w17 w18 w19 w20 w21 w22 : Int32) (w23 w24 : Int64) (w25 w26 : Nat → Int64) (w27 : Nat → Int32) (w28 w29 w30 w31 w32 w33 w34 : Int32) (w35 w36 : Int64) (w37 w38 w39 w40 : Int32) (w41 : Nat → Int64) (w42 : Nat → Int32) (w43 w44 : Nat → Int64) (w45 w46 w47 : Nat → Int32) (w48 w49 w50 w51 : Nat → Int64) (w52 : Nat → Int32) (w53 w54 w55 w56 : Nat → Int64) (w57 w58 w59 : Nat → Int32), i ≤ L0 → L0 + 4 ≤ i + 4 * nF → InvL w2 w3 w4 w5 w6 w7 w8 w9 w10 w11 w14 w15 w16 w17 w31 w32 w33 w34 w38 w40 w41 w42 w43 w44 w45 w46 w47 → lp_L_law_18 xs L0 nF (nI i) w2 w3 w4 w5 w6 w7 w8 w9 w10 w11 w12 w13 w14 w15 w16 w17 w18 w19 w20 w21 w22 w23 w24 w25 w26 w27 w28 w29 w30 w31 w32 w33 w34 w35 w36 w37 w38 w39 w40 w41 w42 w43 w44 w45 w46 w47 w48 w49 w50 w51 w52 w53 w54 w55 w56 w57 w58 w59 = some 1) (w2 w3 w4 w5 : Int32) (w6 w7 w8 : Int64) (w9 w10 w11 : Int32) (w12 w13 : Int64) (w14 w15 : Nat → Int64) (w16 : Nat → Int32) (w17 w18 w19 w20 w21 w22 : Int32) (w23 w24 : Int64) (w25 w26 : Nat → Int64) (w27 : Nat → Int32) (w28 w29 w30 w31 w32 w33 w34 : Int32) (w35 w36 : Int64) (w37 w38 w39 w40 : Int32) (w41 : Nat → Int64) (w42 : Nat → Int32) (w43 w44 : Nat → Int64) (w45 w46 w47 : Nat → Int32) (w48 w49 w50 w51 : Nat → Int64) (w52 : Nat → Int32) (w53 w54 w55 w56 : Nat → Int64) (w57 w58 w59 : Nat → Int32) (I : InvL w2 w3 w4 w5 w6 w7 w8 w9 w10 w11 w14 w15 w16 w17 w31 w32 w33 w34 w38 w40 w41 w42 w43 w44 w45 w46 w47) (hj : xs (nI i).toNatClampNeg &&& 31 = nI 12) : lp_L_law_18 xs L0 (nF + 1) (nI i) w2 w3 w4 w5 w6 w7 w8 w9 w10 w11 w12 w13 w14 w15 w16 w17 w18 w19 w20 w21 w22 w23 w24 w25 w26 w27 w28 w29 w30 w31 w32 w33 w34 w35 w36 w37 w38 w39 w40 w41 w42 w43 w44 w45 w46 w47 w48 w49 w50 w51 w52 w53 w54 w55 w56 w57 w58 w59 = some 1 := by
  have g0 : ¬ (nI i < 0 ∨ L0 ≤ (nI i).toNatClampNeg) := nI_in (by omega) (by omega)
  have e1 : nI i + 1 = nI (i + 1) := nI_1 i
  have e2 : nI i + 2 = nI (i + 2) := nI_add i 2
  have e3 : nI i + 3 = nI (i + 3) := nI_add i 3
  have a4 : nI i + 4 = nI (i + 4) := nI_add i 4
  have g1 : ¬ (nI i + 1 < 0 ∨ L0 ≤ (nI i + 1).toNatClampNeg) := by rw [e1]; exact nI_in (by omega) (by omega)
  have g2 : ¬ (nI i + 2 < 0 ∨ L0 ≤ (nI i + 2).toNatClampNeg) := by rw [e2]; exact nI_in (by omega) (by omega)
  have g3 : ¬ (nI i + 3 < 0 ∨ L0 ≤ (nI i + 3).toNatClampNeg) := by rw [e3]; exact nI_in (by omega) (by omega)
  have hend : ¬ nI L0 - 4 < nI i := by
    rw [show nI L0 - 4 = nI (L0 - 4) from pk_sub (b := 4) (by omega)]
    exact nI_nlt (by omega) (by omega)
  obtain ⟨w, h, lw, L, op, gd, rfl, rfl, rfl, rfl, rfl, rfl, rfl, rfl, rfl, rfl, rfl, hTM, hWN, C⟩ := I
  subst hTM hWN
  obtain ⟨G, N, hlw, hL, ho, U, hB, hT, b0, w0⟩ := C
  have C : Cr w h lw L _ gd w31 w32 w41 w14 w15 w43 w44 w16 w42 w45 w46 w47 := ⟨G, N, hlw, hL, ho, U, hB, hT, b0, w0⟩
  have hb := (U L (Nat.le_refl _)).1
  have hw := (U L (Nat.le_refl _)).2
  have BL := (hB L (Nat.le_refl _)).1
  have hmL := (hB L (Nat.le_refl _)).2
  have hac := fun i (hi : i < L) => (hT i hi).1
  have hTB : ∀ i, i < L → w46 (i + 1) = w46 i + Tk 1 w14 w15 i := fun i hi => by rw [Tk_up U 1 hi]; exact (hT i hi).2.1
  have hTW : ∀ i, i < L → w47 (i + 1) = w47 i + Tk 2 w14 w15 i := fun i hi => by rw [Tk_up U 2 hi]; exact (hT i hi).2.2
  rw [lp_L_law_18]
  refine (if_neg hend).trans ?_
  refine (if_neg g0).trans ?_
  refine (nm_eq _ _).trans ?_
  rw [hj]
  obtain ⟨q6, q7, e6, e7, eq, c1, c2, c3, c4, c5, c6⟩ := q_fight G N ho hlw hL U BL (fun i hi => (hB i hi).2) w2 w17 w12 w13 w16 w28 w29 w30 w35 w36 w37 w39 w59 (xs (nI i + 1).toNatClampNeg) (xs (nI i + 2).toNatClampNeg)
  refine (if_neg (show ¬ nI 12 = 0 by decide)).trans ?_
  refine (if_neg (show ¬ nI 12 = 1 by decide)).trans ?_
  refine (if_neg (show ¬ nI 12 = 2 by decide)).trans ?_
  refine (if_neg (show ¬ nI 12 = 3 by decide)).trans ?_
  refine (if_neg (show ¬ nI 12 = 4 by decide)).trans ?_
  refine (if_neg (show ¬ nI 12 = 5 by decide)).trans ?_
  refine (if_neg (show ¬ nI 12 = 6 by decide)).trans ?_
  refine (if_neg (show ¬ nI 12 = 7 by decide)).trans ?_
  refine (if_neg (show ¬ nI 12 = 8 by decide)).trans ?_
  refine (if_neg (show ¬ nI 12 = 9 by decide)).trans ?_
  refine (if_neg (show ¬ nI 12 = 10 by decide)).trans ?_
  refine (if_neg (show ¬ nI 12 = 11 by decide)).trans ?_
  refine (if_pos (show nI 12 = 12 by decide)).trans ?_
  refine (if_neg g1).trans ?_
  refine (if_neg g2).trans ?_
  refine (bd_e e6).trans ?_
  refine (if_neg g1).trans ?_
  refine (if_neg g2).trans ?_
  refine (bd_e e7).trans ?_
  refine (if_pos eq).trans ?_
  refine (nm_eq _ _).trans ?_
  rw [a4]
  exact ih (i + 4) _ _ _ _ _ _ _ _ _ _ _ _ _ _ _ _ _ _ _ _ _ _ _ _ _ _ _ _ _ _ _ _ _ _ _ _ _ _ _ _ _ _ _ _ _ _ _ _ _ _ _ _ _ _ _ _ _ _ (by omega) (by omega) ⟨w, h, lw, L, w11, gd, rfl, rfl, rfl, rfl, rfl, rfl, rfl, c2, rfl, rfl, rfl, c5, c1, Cr_keep C c3 c4 c6⟩
set_option maxHeartbeats 4000000 in
set_option maxRecDepth 20000 in
theorem law_13 {xs : Nat → Int32} {L0 nF i : Nat} (hL0 : L0 ≤ 2048) (hi : i + 4 ≤ L0) (hf : L0 + 4 ≤ i + 4 * (nF + 1)) (ih : ∀ (i : Nat) (w2 w3 w4 w5 : Int32) (w6 w7 w8 : Int64) (w9 w10 w11 : Int32) (w12 w13 : Int64) (w14 w15 : Nat → Int64) (w16 : Nat → Int32) (w17 w18 w19 w20 w21 w22 : Int32) (w23 w24 : Int64) (w25 w26 : Nat → Int64) (w27 : Nat → Int32) (w28 w29 w30 w31 w32 w33 w34 : Int32) (w35 w36 : Int64) (w37 w38 w39 w40 : Int32) (w41 : Nat → Int64) (w42 : Nat → Int32) (w43 w44 : Nat → Int64) (w45 w46 w47 : Nat → Int32) (w48 w49 w50 w51 : Nat → Int64) (w52 : Nat → Int32) (w53 w54 w55 w56 : Nat → Int64) (w57 w58 w59 : Nat → Int32), i ≤ L0 → L0 + 4 ≤ i + 4 * nF → InvL w2 w3 w4 w5 w6 w7 w8 w9 w10 w11 w14 w15 w16 w17 w31 w32 w33 w34 w38 w40 w41 w42 w43 w44 w45 w46 w47 → lp_L_law_18 xs L0 nF (nI i) w2 w3 w4 w5 w6 w7 w8 w9 w10 w11 w12 w13 w14 w15 w16 w17 w18 w19 w20 w21 w22 w23 w24 w25 w26 w27 w28 w29 w30 w31 w32 w33 w34 w35 w36 w37 w38 w39 w40 w41 w42 w43 w44 w45 w46 w47 w48 w49 w50 w51 w52 w53 w54 w55 w56 w57 w58 w59 = some 1) (w2 w3 w4 w5 : Int32) (w6 w7 w8 : Int64) (w9 w10 w11 : Int32) (w12 w13 : Int64) (w14 w15 : Nat → Int64) (w16 : Nat → Int32) (w17 w18 w19 w20 w21 w22 : Int32) (w23 w24 : Int64) (w25 w26 : Nat → Int64) (w27 : Nat → Int32) (w28 w29 w30 w31 w32 w33 w34 : Int32) (w35 w36 : Int64) (w37 w38 w39 w40 : Int32) (w41 : Nat → Int64) (w42 : Nat → Int32) (w43 w44 : Nat → Int64) (w45 w46 w47 : Nat → Int32) (w48 w49 w50 w51 : Nat → Int64) (w52 : Nat → Int32) (w53 w54 w55 w56 : Nat → Int64) (w57 w58 w59 : Nat → Int32) (I : InvL w2 w3 w4 w5 w6 w7 w8 w9 w10 w11 w14 w15 w16 w17 w31 w32 w33 w34 w38 w40 w41 w42 w43 w44 w45 w46 w47) (hj : xs (nI i).toNatClampNeg &&& 31 = nI 13) : lp_L_law_18 xs L0 (nF + 1) (nI i) w2 w3 w4 w5 w6 w7 w8 w9 w10 w11 w12 w13 w14 w15 w16 w17 w18 w19 w20 w21 w22 w23 w24 w25 w26 w27 w28 w29 w30 w31 w32 w33 w34 w35 w36 w37 w38 w39 w40 w41 w42 w43 w44 w45 w46 w47 w48 w49 w50 w51 w52 w53 w54 w55 w56 w57 w58 w59 = some 1 := by
  have g0 : ¬ (nI i < 0 ∨ L0 ≤ (nI i).toNatClampNeg) := nI_in (by omega) (by omega)
  have e1 : nI i + 1 = nI (i + 1) := nI_1 i
  have e2 : nI i + 2 = nI (i + 2) := nI_add i 2
  have e3 : nI i + 3 = nI (i + 3) := nI_add i 3
  have a4 : nI i + 4 = nI (i + 4) := nI_add i 4
  have g1 : ¬ (nI i + 1 < 0 ∨ L0 ≤ (nI i + 1).toNatClampNeg) := by rw [e1]; exact nI_in (by omega) (by omega)
  have g2 : ¬ (nI i + 2 < 0 ∨ L0 ≤ (nI i + 2).toNatClampNeg) := by rw [e2]; exact nI_in (by omega) (by omega)
  have g3 : ¬ (nI i + 3 < 0 ∨ L0 ≤ (nI i + 3).toNatClampNeg) := by rw [e3]; exact nI_in (by omega) (by omega)
  have hend : ¬ nI L0 - 4 < nI i := by
    rw [show nI L0 - 4 = nI (L0 - 4) from pk_sub (b := 4) (by omega)]
    exact nI_nlt (by omega) (by omega)
  obtain ⟨w, h, lw, L, op, gd, rfl, rfl, rfl, rfl, rfl, rfl, rfl, rfl, rfl, rfl, rfl, hTM, hWN, C⟩ := I
  subst hTM hWN
  obtain ⟨G, N, hlw, hL, ho, U, hB, hT, b0, w0⟩ := C
  have C : Cr w h lw L _ gd w31 w32 w41 w14 w15 w43 w44 w16 w42 w45 w46 w47 := ⟨G, N, hlw, hL, ho, U, hB, hT, b0, w0⟩
  have hb := (U L (Nat.le_refl _)).1
  have hw := (U L (Nat.le_refl _)).2
  have BL := (hB L (Nat.le_refl _)).1
  have hmL := (hB L (Nat.le_refl _)).2
  have hac := fun i (hi : i < L) => (hT i hi).1
  have hTB : ∀ i, i < L → w46 (i + 1) = w46 i + Tk 1 w14 w15 i := fun i hi => by rw [Tk_up U 1 hi]; exact (hT i hi).2.1
  have hTW : ∀ i, i < L → w47 (i + 1) = w47 i + Tk 2 w14 w15 i := fun i hi => by rw [Tk_up U 2 hi]; exact (hT i hi).2.2
  rw [lp_L_law_18]
  refine (if_neg hend).trans ?_
  refine (if_neg g0).trans ?_
  refine (nm_eq _ _).trans ?_
  rw [hj]
  refine (if_neg (show ¬ nI 13 = 0 by decide)).trans ?_
  refine (if_neg (show ¬ nI 13 = 1 by decide)).trans ?_
  refine (if_neg (show ¬ nI 13 = 2 by decide)).trans ?_
  refine (if_neg (show ¬ nI 13 = 3 by decide)).trans ?_
  refine (if_neg (show ¬ nI 13 = 4 by decide)).trans ?_
  refine (if_neg (show ¬ nI 13 = 5 by decide)).trans ?_
  refine (if_neg (show ¬ nI 13 = 6 by decide)).trans ?_
  refine (if_neg (show ¬ nI 13 = 7 by decide)).trans ?_
  refine (if_neg (show ¬ nI 13 = 8 by decide)).trans ?_
  refine (if_neg (show ¬ nI 13 = 9 by decide)).trans ?_
  refine (if_neg (show ¬ nI 13 = 10 by decide)).trans ?_
  refine (if_neg (show ¬ nI 13 = 11 by decide)).trans ?_
  refine (if_neg (show ¬ nI 13 = 12 by decide)).trans ?_
  refine (if_pos (show nI 13 = 13 by decide)).trans ?_
  refine (bd_e (show f_X6_tries w17 = some w17 from rfl)).trans ?_
  refine (bd_e (show f_X7_tries w17 = some w17 from rfl)).trans ?_
  refine (if_pos rfl).trans ?_
  refine (nm_eq _ _).trans ?_
  rw [a4]
  exact ih (i + 4) _ _ _ _ _ _ _ _ _ _ _ _ _ _ _ _ _ _ _ _ _ _ _ _ _ _ _ _ _ _ _ _ _ _ _ _ _ _ _ _ _ _ _ _ _ _ _ _ _ _ _ _ _ _ _ _ _ _ (by omega) (by omega) ⟨w, h, lw, L, w11, gd, rfl, rfl, rfl, rfl, rfl, rfl, rfl, rfl, rfl, rfl, rfl, rfl, rfl, C⟩
set_option maxHeartbeats 4000000 in
set_option maxRecDepth 20000 in
theorem law_14 {xs : Nat → Int32} {L0 nF i : Nat} (hL0 : L0 ≤ 2048) (hi : i + 4 ≤ L0) (hf : L0 + 4 ≤ i + 4 * (nF + 1)) (ih : ∀ (i : Nat) (w2 w3 w4 w5 : Int32) (w6 w7 w8 : Int64) (w9 w10 w11 : Int32) (w12 w13 : Int64) (w14 w15 : Nat → Int64) (w16 : Nat → Int32) (w17 w18 w19 w20 w21 w22 : Int32) (w23 w24 : Int64) (w25 w26 : Nat → Int64) (w27 : Nat → Int32) (w28 w29 w30 w31 w32 w33 w34 : Int32) (w35 w36 : Int64) (w37 w38 w39 w40 : Int32) (w41 : Nat → Int64) (w42 : Nat → Int32) (w43 w44 : Nat → Int64) (w45 w46 w47 : Nat → Int32) (w48 w49 w50 w51 : Nat → Int64) (w52 : Nat → Int32) (w53 w54 w55 w56 : Nat → Int64) (w57 w58 w59 : Nat → Int32), i ≤ L0 → L0 + 4 ≤ i + 4 * nF → InvL w2 w3 w4 w5 w6 w7 w8 w9 w10 w11 w14 w15 w16 w17 w31 w32 w33 w34 w38 w40 w41 w42 w43 w44 w45 w46 w47 → lp_L_law_18 xs L0 nF (nI i) w2 w3 w4 w5 w6 w7 w8 w9 w10 w11 w12 w13 w14 w15 w16 w17 w18 w19 w20 w21 w22 w23 w24 w25 w26 w27 w28 w29 w30 w31 w32 w33 w34 w35 w36 w37 w38 w39 w40 w41 w42 w43 w44 w45 w46 w47 w48 w49 w50 w51 w52 w53 w54 w55 w56 w57 w58 w59 = some 1) (w2 w3 w4 w5 : Int32) (w6 w7 w8 : Int64) (w9 w10 w11 : Int32) (w12 w13 : Int64) (w14 w15 : Nat → Int64) (w16 : Nat → Int32) (w17 w18 w19 w20 w21 w22 : Int32) (w23 w24 : Int64) (w25 w26 : Nat → Int64) (w27 : Nat → Int32) (w28 w29 w30 w31 w32 w33 w34 : Int32) (w35 w36 : Int64) (w37 w38 w39 w40 : Int32) (w41 : Nat → Int64) (w42 : Nat → Int32) (w43 w44 : Nat → Int64) (w45 w46 w47 : Nat → Int32) (w48 w49 w50 w51 : Nat → Int64) (w52 : Nat → Int32) (w53 w54 w55 w56 : Nat → Int64) (w57 w58 w59 : Nat → Int32) (I : InvL w2 w3 w4 w5 w6 w7 w8 w9 w10 w11 w14 w15 w16 w17 w31 w32 w33 w34 w38 w40 w41 w42 w43 w44 w45 w46 w47) (hj : xs (nI i).toNatClampNeg &&& 31 = nI 14) : lp_L_law_18 xs L0 (nF + 1) (nI i) w2 w3 w4 w5 w6 w7 w8 w9 w10 w11 w12 w13 w14 w15 w16 w17 w18 w19 w20 w21 w22 w23 w24 w25 w26 w27 w28 w29 w30 w31 w32 w33 w34 w35 w36 w37 w38 w39 w40 w41 w42 w43 w44 w45 w46 w47 w48 w49 w50 w51 w52 w53 w54 w55 w56 w57 w58 w59 = some 1 := by
  have g0 : ¬ (nI i < 0 ∨ L0 ≤ (nI i).toNatClampNeg) := nI_in (by omega) (by omega)
  have e1 : nI i + 1 = nI (i + 1) := nI_1 i
  have e2 : nI i + 2 = nI (i + 2) := nI_add i 2
  have e3 : nI i + 3 = nI (i + 3) := nI_add i 3
  have a4 : nI i + 4 = nI (i + 4) := nI_add i 4
  have g1 : ¬ (nI i + 1 < 0 ∨ L0 ≤ (nI i + 1).toNatClampNeg) := by rw [e1]; exact nI_in (by omega) (by omega)
  have g2 : ¬ (nI i + 2 < 0 ∨ L0 ≤ (nI i + 2).toNatClampNeg) := by rw [e2]; exact nI_in (by omega) (by omega)
  have g3 : ¬ (nI i + 3 < 0 ∨ L0 ≤ (nI i + 3).toNatClampNeg) := by rw [e3]; exact nI_in (by omega) (by omega)
  have hend : ¬ nI L0 - 4 < nI i := by
    rw [show nI L0 - 4 = nI (L0 - 4) from pk_sub (b := 4) (by omega)]
    exact nI_nlt (by omega) (by omega)
  obtain ⟨w, h, lw, L, op, gd, rfl, rfl, rfl, rfl, rfl, rfl, rfl, rfl, rfl, rfl, rfl, hTM, hWN, C⟩ := I
  subst hTM hWN
  obtain ⟨G, N, hlw, hL, ho, U, hB, hT, b0, w0⟩ := C
  have C : Cr w h lw L _ gd w31 w32 w41 w14 w15 w43 w44 w16 w42 w45 w46 w47 := ⟨G, N, hlw, hL, ho, U, hB, hT, b0, w0⟩
  have hb := (U L (Nat.le_refl _)).1
  have hw := (U L (Nat.le_refl _)).2
  have BL := (hB L (Nat.le_refl _)).1
  have hmL := (hB L (Nat.le_refl _)).2
  have hac := fun i (hi : i < L) => (hT i hi).1
  have hTB : ∀ i, i < L → w46 (i + 1) = w46 i + Tk 1 w14 w15 i := fun i hi => by rw [Tk_up U 1 hi]; exact (hT i hi).2.1
  have hTW : ∀ i, i < L → w47 (i + 1) = w47 i + Tk 2 w14 w15 i := fun i hi => by rw [Tk_up U 2 hi]; exact (hT i hi).2.2
  rw [lp_L_law_18]
  refine (if_neg hend).trans ?_
  refine (if_neg g0).trans ?_
  refine (nm_eq _ _).trans ?_
  rw [hj]
  refine (if_neg (show ¬ nI 14 = 0 by decide)).trans ?_
  refine (if_neg (show ¬ nI 14 = 1 by decide)).trans ?_
  refine (if_neg (show ¬ nI 14 = 2 by decide)).trans ?_
  refine (if_neg (show ¬ nI 14 = 3 by decide)).trans ?_
  refine (if_neg (show ¬ nI 14 = 4 by decide)).trans ?_
  refine (if_neg (show ¬ nI 14 = 5 by decide)).trans ?_
  refine (if_neg (show ¬ nI 14 = 6 by decide)).trans ?_
  refine (if_neg (show ¬ nI 14 = 7 by decide)).trans ?_
  refine (if_neg (show ¬ nI 14 = 8 by decide)).trans ?_
  refine (if_neg (show ¬ nI 14 = 9 by decide)).trans ?_
  refine (if_neg (show ¬ nI 14 = 10 by decide)).trans ?_
  refine (if_neg (show ¬ nI 14 = 11 by decide)).trans ?_
  refine (if_neg (show ¬ nI 14 = 12 by decide)).trans ?_
  refine (if_neg (show ¬ nI 14 = 13 by decide)).trans ?_
  refine (if_pos (show nI 14 = 14 by decide)).trans ?_
  refine (bd_e (show f_X6_first w2 = some w2 from rfl)).trans ?_
  refine (bd_e (show f_X7_first w2 = some w2 from rfl)).trans ?_
  refine (if_pos rfl).trans ?_
  refine (nm_eq _ _).trans ?_
  rw [a4]
  exact ih (i + 4) _ _ _ _ _ _ _ _ _ _ _ _ _ _ _ _ _ _ _ _ _ _ _ _ _ _ _ _ _ _ _ _ _ _ _ _ _ _ _ _ _ _ _ _ _ _ _ _ _ _ _ _ _ _ _ _ _ _ (by omega) (by omega) ⟨w, h, lw, L, w11, gd, rfl, rfl, rfl, rfl, rfl, rfl, rfl, rfl, rfl, rfl, rfl, rfl, rfl, C⟩
set_option maxHeartbeats 4000000 in
set_option maxRecDepth 20000 in
theorem law_15 {xs : Nat → Int32} {L0 nF i : Nat} (hL0 : L0 ≤ 2048) (hi : i + 4 ≤ L0) (hf : L0 + 4 ≤ i + 4 * (nF + 1)) (ih : ∀ (i : Nat) (w2 w3 w4 w5 : Int32) (w6 w7 w8 : Int64) (w9 w10 w11 : Int32) (w12 w13 : Int64) (w14 w15 : Nat → Int64) (w16 : Nat → Int32) (w17 w18 w19 w20 w21 w22 : Int32) (w23 w24 : Int64) (w25 w26 : Nat → Int64) (w27 : Nat → Int32) (w28 w29 w30 w31 w32 w33 w34 : Int32) (w35 w36 : Int64) (w37 w38 w39 w40 : Int32) (w41 : Nat → Int64) (w42 : Nat → Int32) (w43 w44 : Nat → Int64) (w45 w46 w47 : Nat → Int32) (w48 w49 w50 w51 : Nat → Int64) (w52 : Nat → Int32) (w53 w54 w55 w56 : Nat → Int64) (w57 w58 w59 : Nat → Int32), i ≤ L0 → L0 + 4 ≤ i + 4 * nF → InvL w2 w3 w4 w5 w6 w7 w8 w9 w10 w11 w14 w15 w16 w17 w31 w32 w33 w34 w38 w40 w41 w42 w43 w44 w45 w46 w47 → lp_L_law_18 xs L0 nF (nI i) w2 w3 w4 w5 w6 w7 w8 w9 w10 w11 w12 w13 w14 w15 w16 w17 w18 w19 w20 w21 w22 w23 w24 w25 w26 w27 w28 w29 w30 w31 w32 w33 w34 w35 w36 w37 w38 w39 w40 w41 w42 w43 w44 w45 w46 w47 w48 w49 w50 w51 w52 w53 w54 w55 w56 w57 w58 w59 = some 1) (w2 w3 w4 w5 : Int32) (w6 w7 w8 : Int64) (w9 w10 w11 : Int32) (w12 w13 : Int64) (w14 w15 : Nat → Int64) (w16 : Nat → Int32) (w17 w18 w19 w20 w21 w22 : Int32) (w23 w24 : Int64) (w25 w26 : Nat → Int64) (w27 : Nat → Int32) (w28 w29 w30 w31 w32 w33 w34 : Int32) (w35 w36 : Int64) (w37 w38 w39 w40 : Int32) (w41 : Nat → Int64) (w42 : Nat → Int32) (w43 w44 : Nat → Int64) (w45 w46 w47 : Nat → Int32) (w48 w49 w50 w51 : Nat → Int64) (w52 : Nat → Int32) (w53 w54 w55 w56 : Nat → Int64) (w57 w58 w59 : Nat → Int32) (I : InvL w2 w3 w4 w5 w6 w7 w8 w9 w10 w11 w14 w15 w16 w17 w31 w32 w33 w34 w38 w40 w41 w42 w43 w44 w45 w46 w47) (hj : xs (nI i).toNatClampNeg &&& 31 = nI 15) : lp_L_law_18 xs L0 (nF + 1) (nI i) w2 w3 w4 w5 w6 w7 w8 w9 w10 w11 w12 w13 w14 w15 w16 w17 w18 w19 w20 w21 w22 w23 w24 w25 w26 w27 w28 w29 w30 w31 w32 w33 w34 w35 w36 w37 w38 w39 w40 w41 w42 w43 w44 w45 w46 w47 w48 w49 w50 w51 w52 w53 w54 w55 w56 w57 w58 w59 = some 1 := by
  have g0 : ¬ (nI i < 0 ∨ L0 ≤ (nI i).toNatClampNeg) := nI_in (by omega) (by omega)
  have e1 : nI i + 1 = nI (i + 1) := nI_1 i
  have e2 : nI i + 2 = nI (i + 2) := nI_add i 2
  have e3 : nI i + 3 = nI (i + 3) := nI_add i 3
  have a4 : nI i + 4 = nI (i + 4) := nI_add i 4
  have g1 : ¬ (nI i + 1 < 0 ∨ L0 ≤ (nI i + 1).toNatClampNeg) := by rw [e1]; exact nI_in (by omega) (by omega)
  have g2 : ¬ (nI i + 2 < 0 ∨ L0 ≤ (nI i + 2).toNatClampNeg) := by rw [e2]; exact nI_in (by omega) (by omega)
  have g3 : ¬ (nI i + 3 < 0 ∨ L0 ≤ (nI i + 3).toNatClampNeg) := by rw [e3]; exact nI_in (by omega) (by omega)
  have hend : ¬ nI L0 - 4 < nI i := by
    rw [show nI L0 - 4 = nI (L0 - 4) from pk_sub (b := 4) (by omega)]
    exact nI_nlt (by omega) (by omega)
  obtain ⟨w, h, lw, L, op, gd, rfl, rfl, rfl, rfl, rfl, rfl, rfl, rfl, rfl, rfl, rfl, hTM, hWN, C⟩ := I
  subst hTM hWN
  obtain ⟨G, N, hlw, hL, ho, U, hB, hT, b0, w0⟩ := C
  have C : Cr w h lw L _ gd w31 w32 w41 w14 w15 w43 w44 w16 w42 w45 w46 w47 := ⟨G, N, hlw, hL, ho, U, hB, hT, b0, w0⟩
  have hb := (U L (Nat.le_refl _)).1
  have hw := (U L (Nat.le_refl _)).2
  have BL := (hB L (Nat.le_refl _)).1
  have hmL := (hB L (Nat.le_refl _)).2
  have hac := fun i (hi : i < L) => (hT i hi).1
  have hTB : ∀ i, i < L → w46 (i + 1) = w46 i + Tk 1 w14 w15 i := fun i hi => by rw [Tk_up U 1 hi]; exact (hT i hi).2.1
  have hTW : ∀ i, i < L → w47 (i + 1) = w47 i + Tk 2 w14 w15 i := fun i hi => by rw [Tk_up U 2 hi]; exact (hT i hi).2.2
  rw [lp_L_law_18]
  refine (if_neg hend).trans ?_
  refine (if_neg g0).trans ?_
  refine (nm_eq _ _).trans ?_
  rw [hj]
  obtain ⟨q, e6, e7⟩ := q_points G N hL hb hw b0 w0 hTB hTW (xs (nI i + 1).toNatClampNeg) (xs (nI i + 2).toNatClampNeg)
  refine (if_neg (show ¬ nI 15 = 0 by decide)).trans ?_
  refine (if_neg (show ¬ nI 15 = 1 by decide)).trans ?_
  refine (if_neg (show ¬ nI 15 = 2 by decide)).trans ?_
  refine (if_neg (show ¬ nI 15 = 3 by decide)).trans ?_
  refine (if_neg (show ¬ nI 15 = 4 by decide)).trans ?_
  refine (if_neg (show ¬ nI 15 = 5 by decide)).trans ?_
  refine (if_neg (show ¬ nI 15 = 6 by decide)).trans ?_
  refine (if_neg (show ¬ nI 15 = 7 by decide)).trans ?_
  refine (if_neg (show ¬ nI 15 = 8 by decide)).trans ?_
  refine (if_neg (show ¬ nI 15 = 9 by decide)).trans ?_
  refine (if_neg (show ¬ nI 15 = 10 by decide)).trans ?_
  refine (if_neg (show ¬ nI 15 = 11 by decide)).trans ?_
  refine (if_neg (show ¬ nI 15 = 12 by decide)).trans ?_
  refine (if_neg (show ¬ nI 15 = 13 by decide)).trans ?_
  refine (if_neg (show ¬ nI 15 = 14 by decide)).trans ?_
  refine (if_pos (show nI 15 = 15 by decide)).trans ?_
  refine (if_neg g1).trans ?_
  refine (if_neg g2).trans ?_
  refine (bd_e e6).trans ?_
  refine (if_neg g1).trans ?_
  refine (if_neg g2).trans ?_
  refine (bd_e e7).trans ?_
  refine (if_pos rfl).trans ?_
  refine (nm_eq _ _).trans ?_
  rw [a4]
  exact ih (i + 4) _ _ _ _ _ _ _ _ _ _ _ _ _ _ _ _ _ _ _ _ _ _ _ _ _ _ _ _ _ _ _ _ _ _ _ _ _ _ _ _ _ _ _ _ _ _ _ _ _ _ _ _ _ _ _ _ _ _ (by omega) (by omega) ⟨w, h, lw, L, w11, gd, rfl, rfl, rfl, rfl, rfl, rfl, rfl, rfl, rfl, rfl, rfl, rfl, rfl, C⟩
set_option maxHeartbeats 4000000 in
set_option maxRecDepth 20000 in
theorem law_16 {xs : Nat → Int32} {L0 nF i : Nat} (hL0 : L0 ≤ 2048) (hi : i + 4 ≤ L0) (hf : L0 + 4 ≤ i + 4 * (nF + 1)) (ih : ∀ (i : Nat) (w2 w3 w4 w5 : Int32) (w6 w7 w8 : Int64) (w9 w10 w11 : Int32) (w12 w13 : Int64) (w14 w15 : Nat → Int64) (w16 : Nat → Int32) (w17 w18 w19 w20 w21 w22 : Int32) (w23 w24 : Int64) (w25 w26 : Nat → Int64) (w27 : Nat → Int32) (w28 w29 w30 w31 w32 w33 w34 : Int32) (w35 w36 : Int64) (w37 w38 w39 w40 : Int32) (w41 : Nat → Int64) (w42 : Nat → Int32) (w43 w44 : Nat → Int64) (w45 w46 w47 : Nat → Int32) (w48 w49 w50 w51 : Nat → Int64) (w52 : Nat → Int32) (w53 w54 w55 w56 : Nat → Int64) (w57 w58 w59 : Nat → Int32), i ≤ L0 → L0 + 4 ≤ i + 4 * nF → InvL w2 w3 w4 w5 w6 w7 w8 w9 w10 w11 w14 w15 w16 w17 w31 w32 w33 w34 w38 w40 w41 w42 w43 w44 w45 w46 w47 → lp_L_law_18 xs L0 nF (nI i) w2 w3 w4 w5 w6 w7 w8 w9 w10 w11 w12 w13 w14 w15 w16 w17 w18 w19 w20 w21 w22 w23 w24 w25 w26 w27 w28 w29 w30 w31 w32 w33 w34 w35 w36 w37 w38 w39 w40 w41 w42 w43 w44 w45 w46 w47 w48 w49 w50 w51 w52 w53 w54 w55 w56 w57 w58 w59 = some 1) (w2 w3 w4 w5 : Int32) (w6 w7 w8 : Int64) (w9 w10 w11 : Int32) (w12 w13 : Int64) (w14 w15 : Nat → Int64) (w16 : Nat → Int32) (w17 w18 w19 w20 w21 w22 : Int32) (w23 w24 : Int64) (w25 w26 : Nat → Int64) (w27 : Nat → Int32) (w28 w29 w30 w31 w32 w33 w34 : Int32) (w35 w36 : Int64) (w37 w38 w39 w40 : Int32) (w41 : Nat → Int64) (w42 : Nat → Int32) (w43 w44 : Nat → Int64) (w45 w46 w47 : Nat → Int32) (w48 w49 w50 w51 : Nat → Int64) (w52 : Nat → Int32) (w53 w54 w55 w56 : Nat → Int64) (w57 w58 w59 : Nat → Int32) (I : InvL w2 w3 w4 w5 w6 w7 w8 w9 w10 w11 w14 w15 w16 w17 w31 w32 w33 w34 w38 w40 w41 w42 w43 w44 w45 w46 w47) (hj : xs (nI i).toNatClampNeg &&& 31 = nI 16) : lp_L_law_18 xs L0 (nF + 1) (nI i) w2 w3 w4 w5 w6 w7 w8 w9 w10 w11 w12 w13 w14 w15 w16 w17 w18 w19 w20 w21 w22 w23 w24 w25 w26 w27 w28 w29 w30 w31 w32 w33 w34 w35 w36 w37 w38 w39 w40 w41 w42 w43 w44 w45 w46 w47 w48 w49 w50 w51 w52 w53 w54 w55 w56 w57 w58 w59 = some 1 := by
  have g0 : ¬ (nI i < 0 ∨ L0 ≤ (nI i).toNatClampNeg) := nI_in (by omega) (by omega)
  have e1 : nI i + 1 = nI (i + 1) := nI_1 i
  have e2 : nI i + 2 = nI (i + 2) := nI_add i 2
  have e3 : nI i + 3 = nI (i + 3) := nI_add i 3
  have a4 : nI i + 4 = nI (i + 4) := nI_add i 4
  have g1 : ¬ (nI i + 1 < 0 ∨ L0 ≤ (nI i + 1).toNatClampNeg) := by rw [e1]; exact nI_in (by omega) (by omega)
  have g2 : ¬ (nI i + 2 < 0 ∨ L0 ≤ (nI i + 2).toNatClampNeg) := by rw [e2]; exact nI_in (by omega) (by omega)
  have g3 : ¬ (nI i + 3 < 0 ∨ L0 ≤ (nI i + 3).toNatClampNeg) := by rw [e3]; exact nI_in (by omega) (by omega)
  have hend : ¬ nI L0 - 4 < nI i := by
    rw [show nI L0 - 4 = nI (L0 - 4) from pk_sub (b := 4) (by omega)]
    exact nI_nlt (by omega) (by omega)
  obtain ⟨w, h, lw, L, op, gd, rfl, rfl, rfl, rfl, rfl, rfl, rfl, rfl, rfl, rfl, rfl, hTM, hWN, C⟩ := I
  subst hTM hWN
  obtain ⟨G, N, hlw, hL, ho, U, hB, hT, b0, w0⟩ := C
  have C : Cr w h lw L _ gd w31 w32 w41 w14 w15 w43 w44 w16 w42 w45 w46 w47 := ⟨G, N, hlw, hL, ho, U, hB, hT, b0, w0⟩
  have hb := (U L (Nat.le_refl _)).1
  have hw := (U L (Nat.le_refl _)).2
  have BL := (hB L (Nat.le_refl _)).1
  have hmL := (hB L (Nat.le_refl _)).2
  have hac := fun i (hi : i < L) => (hT i hi).1
  have hTB : ∀ i, i < L → w46 (i + 1) = w46 i + Tk 1 w14 w15 i := fun i hi => by rw [Tk_up U 1 hi]; exact (hT i hi).2.1
  have hTW : ∀ i, i < L → w47 (i + 1) = w47 i + Tk 2 w14 w15 i := fun i hi => by rw [Tk_up U 2 hi]; exact (hT i hi).2.2
  rw [lp_L_law_18]
  refine (if_neg hend).trans ?_
  refine (if_neg g0).trans ?_
  refine (nm_eq _ _).trans ?_
  rw [hj]
  obtain ⟨q, e6, e7⟩ := q_count (lw := lw) G N hL hb hw b0 w0 hTB hTW hmL hac (xs (nI i + 1).toNatClampNeg)
  rw [← G.2.1] at e6
  refine (if_neg (show ¬ nI 16 = 0 by decide)).trans ?_
  refine (if_neg (show ¬ nI 16 = 1 by decide)).trans ?_
  refine (if_neg (show ¬ nI 16 = 2 by decide)).trans ?_
  refine (if_neg (show ¬ nI 16 = 3 by decide)).trans ?_
  refine (if_neg (show ¬ nI 16 = 4 by decide)).trans ?_
  refine (if_neg (show ¬ nI 16 = 5 by decide)).trans ?_
  refine (if_neg (show ¬ nI 16 = 6 by decide)).trans ?_
  refine (if_neg (show ¬ nI 16 = 7 by decide)).trans ?_
  refine (if_neg (show ¬ nI 16 = 8 by decide)).trans ?_
  refine (if_neg (show ¬ nI 16 = 9 by decide)).trans ?_
  refine (if_neg (show ¬ nI 16 = 10 by decide)).trans ?_
  refine (if_neg (show ¬ nI 16 = 11 by decide)).trans ?_
  refine (if_neg (show ¬ nI 16 = 12 by decide)).trans ?_
  refine (if_neg (show ¬ nI 16 = 13 by decide)).trans ?_
  refine (if_neg (show ¬ nI 16 = 14 by decide)).trans ?_
  refine (if_neg (show ¬ nI 16 = 15 by decide)).trans ?_
  refine (if_pos (show nI 16 = 16 by decide)).trans ?_
  refine (if_neg g1).trans ?_
  refine (bd_e e6).trans ?_
  refine (if_neg g1).trans ?_
  refine (bd_e e7).trans ?_
  refine (if_pos rfl).trans ?_
  refine (nm_eq _ _).trans ?_
  rw [a4]
  exact ih (i + 4) _ _ _ _ _ _ _ _ _ _ _ _ _ _ _ _ _ _ _ _ _ _ _ _ _ _ _ _ _ _ _ _ _ _ _ _ _ _ _ _ _ _ _ _ _ _ _ _ _ _ _ _ _ _ _ _ _ _ (by omega) (by omega) ⟨w, h, lw, L, w11, gd, rfl, rfl, rfl, rfl, rfl, rfl, rfl, rfl, rfl, rfl, rfl, rfl, rfl, C⟩
set_option maxHeartbeats 4000000 in
set_option maxRecDepth 20000 in
theorem law_17 {xs : Nat → Int32} {L0 nF i : Nat} (hL0 : L0 ≤ 2048) (hi : i + 4 ≤ L0) (hf : L0 + 4 ≤ i + 4 * (nF + 1)) (ih : ∀ (i : Nat) (w2 w3 w4 w5 : Int32) (w6 w7 w8 : Int64) (w9 w10 w11 : Int32) (w12 w13 : Int64) (w14 w15 : Nat → Int64) (w16 : Nat → Int32) (w17 w18 w19 w20 w21 w22 : Int32) (w23 w24 : Int64) (w25 w26 : Nat → Int64) (w27 : Nat → Int32) (w28 w29 w30 w31 w32 w33 w34 : Int32) (w35 w36 : Int64) (w37 w38 w39 w40 : Int32) (w41 : Nat → Int64) (w42 : Nat → Int32) (w43 w44 : Nat → Int64) (w45 w46 w47 : Nat → Int32) (w48 w49 w50 w51 : Nat → Int64) (w52 : Nat → Int32) (w53 w54 w55 w56 : Nat → Int64) (w57 w58 w59 : Nat → Int32), i ≤ L0 → L0 + 4 ≤ i + 4 * nF → InvL w2 w3 w4 w5 w6 w7 w8 w9 w10 w11 w14 w15 w16 w17 w31 w32 w33 w34 w38 w40 w41 w42 w43 w44 w45 w46 w47 → lp_L_law_18 xs L0 nF (nI i) w2 w3 w4 w5 w6 w7 w8 w9 w10 w11 w12 w13 w14 w15 w16 w17 w18 w19 w20 w21 w22 w23 w24 w25 w26 w27 w28 w29 w30 w31 w32 w33 w34 w35 w36 w37 w38 w39 w40 w41 w42 w43 w44 w45 w46 w47 w48 w49 w50 w51 w52 w53 w54 w55 w56 w57 w58 w59 = some 1) (w2 w3 w4 w5 : Int32) (w6 w7 w8 : Int64) (w9 w10 w11 : Int32) (w12 w13 : Int64) (w14 w15 : Nat → Int64) (w16 : Nat → Int32) (w17 w18 w19 w20 w21 w22 : Int32) (w23 w24 : Int64) (w25 w26 : Nat → Int64) (w27 : Nat → Int32) (w28 w29 w30 w31 w32 w33 w34 : Int32) (w35 w36 : Int64) (w37 w38 w39 w40 : Int32) (w41 : Nat → Int64) (w42 : Nat → Int32) (w43 w44 : Nat → Int64) (w45 w46 w47 : Nat → Int32) (w48 w49 w50 w51 : Nat → Int64) (w52 : Nat → Int32) (w53 w54 w55 w56 : Nat → Int64) (w57 w58 w59 : Nat → Int32) (I : InvL w2 w3 w4 w5 w6 w7 w8 w9 w10 w11 w14 w15 w16 w17 w31 w32 w33 w34 w38 w40 w41 w42 w43 w44 w45 w46 w47) (hj : xs (nI i).toNatClampNeg &&& 31 = nI 17) : lp_L_law_18 xs L0 (nF + 1) (nI i) w2 w3 w4 w5 w6 w7 w8 w9 w10 w11 w12 w13 w14 w15 w16 w17 w18 w19 w20 w21 w22 w23 w24 w25 w26 w27 w28 w29 w30 w31 w32 w33 w34 w35 w36 w37 w38 w39 w40 w41 w42 w43 w44 w45 w46 w47 w48 w49 w50 w51 w52 w53 w54 w55 w56 w57 w58 w59 = some 1 := by
  have g0 : ¬ (nI i < 0 ∨ L0 ≤ (nI i).toNatClampNeg) := nI_in (by omega) (by omega)
  have e1 : nI i + 1 = nI (i + 1) := nI_1 i
  have e2 : nI i + 2 = nI (i + 2) := nI_add i 2
  have e3 : nI i + 3 = nI (i + 3) := nI_add i 3
  have a4 : nI i + 4 = nI (i + 4) := nI_add i 4
  have g1 : ¬ (nI i + 1 < 0 ∨ L0 ≤ (nI i + 1).toNatClampNeg) := by rw [e1]; exact nI_in (by omega) (by omega)
  have g2 : ¬ (nI i + 2 < 0 ∨ L0 ≤ (nI i + 2).toNatClampNeg) := by rw [e2]; exact nI_in (by omega) (by omega)
  have g3 : ¬ (nI i + 3 < 0 ∨ L0 ≤ (nI i + 3).toNatClampNeg) := by rw [e3]; exact nI_in (by omega) (by omega)
  have hend : ¬ nI L0 - 4 < nI i := by
    rw [show nI L0 - 4 = nI (L0 - 4) from pk_sub (b := 4) (by omega)]
    exact nI_nlt (by omega) (by omega)
  obtain ⟨w, h, lw, L, op, gd, rfl, rfl, rfl, rfl, rfl, rfl, rfl, rfl, rfl, rfl, rfl, hTM, hWN, C⟩ := I
  subst hTM hWN
  obtain ⟨G, N, hlw, hL, ho, U, hB, hT, b0, w0⟩ := C
  have C : Cr w h lw L _ gd w31 w32 w41 w14 w15 w43 w44 w16 w42 w45 w46 w47 := ⟨G, N, hlw, hL, ho, U, hB, hT, b0, w0⟩
  have hb := (U L (Nat.le_refl _)).1
  have hw := (U L (Nat.le_refl _)).2
  have BL := (hB L (Nat.le_refl _)).1
  have hmL := (hB L (Nat.le_refl _)).2
  have hac := fun i (hi : i < L) => (hT i hi).1
  have hTB : ∀ i, i < L → w46 (i + 1) = w46 i + Tk 1 w14 w15 i := fun i hi => by rw [Tk_up U 1 hi]; exact (hT i hi).2.1
  have hTW : ∀ i, i < L → w47 (i + 1) = w47 i + Tk 2 w14 w15 i := fun i hi => by rw [Tk_up U 2 hi]; exact (hT i hi).2.2
  rw [lp_L_law_18]
  refine (if_neg hend).trans ?_
  refine (if_neg g0).trans ?_
  refine (nm_eq _ _).trans ?_
  rw [hj]
  obtain ⟨q, e6, e7⟩ := q_act hL hac (xs (nI i + 1).toNatClampNeg)
  refine (if_neg (show ¬ nI 17 = 0 by decide)).trans ?_
  refine (if_neg (show ¬ nI 17 = 1 by decide)).trans ?_
  refine (if_neg (show ¬ nI 17 = 2 by decide)).trans ?_
  refine (if_neg (show ¬ nI 17 = 3 by decide)).trans ?_
  refine (if_neg (show ¬ nI 17 = 4 by decide)).trans ?_
  refine (if_neg (show ¬ nI 17 = 5 by decide)).trans ?_
  refine (if_neg (show ¬ nI 17 = 6 by decide)).trans ?_
  refine (if_neg (show ¬ nI 17 = 7 by decide)).trans ?_
  refine (if_neg (show ¬ nI 17 = 8 by decide)).trans ?_
  refine (if_neg (show ¬ nI 17 = 9 by decide)).trans ?_
  refine (if_neg (show ¬ nI 17 = 10 by decide)).trans ?_
  refine (if_neg (show ¬ nI 17 = 11 by decide)).trans ?_
  refine (if_neg (show ¬ nI 17 = 12 by decide)).trans ?_
  refine (if_neg (show ¬ nI 17 = 13 by decide)).trans ?_
  refine (if_neg (show ¬ nI 17 = 14 by decide)).trans ?_
  refine (if_neg (show ¬ nI 17 = 15 by decide)).trans ?_
  refine (if_neg (show ¬ nI 17 = 16 by decide)).trans ?_
  refine (if_pos (show nI 17 = 17 by decide)).trans ?_
  refine (if_neg g1).trans ?_
  refine (bd_e e6).trans ?_
  refine (if_neg g1).trans ?_
  refine (bd_e e7).trans ?_
  refine (if_pos rfl).trans ?_
  refine (nm_eq _ _).trans ?_
  rw [a4]
  exact ih (i + 4) _ _ _ _ _ _ _ _ _ _ _ _ _ _ _ _ _ _ _ _ _ _ _ _ _ _ _ _ _ _ _ _ _ _ _ _ _ _ _ _ _ _ _ _ _ _ _ _ _ _ _ _ _ _ _ _ _ _ (by omega) (by omega) ⟨w, h, lw, L, w11, gd, rfl, rfl, rfl, rfl, rfl, rfl, rfl, rfl, rfl, rfl, rfl, rfl, rfl, C⟩
set_option maxHeartbeats 4000000 in
set_option maxRecDepth 20000 in
theorem law_18 {xs : Nat → Int32} {L0 nF i : Nat} (hL0 : L0 ≤ 2048) (hi : i + 4 ≤ L0) (hf : L0 + 4 ≤ i + 4 * (nF + 1)) (ih : ∀ (i : Nat) (w2 w3 w4 w5 : Int32) (w6 w7 w8 : Int64) (w9 w10 w11 : Int32) (w12 w13 : Int64) (w14 w15 : Nat → Int64) (w16 : Nat → Int32) (w17 w18 w19 w20 w21 w22 : Int32) (w23 w24 : Int64) (w25 w26 : Nat → Int64) (w27 : Nat → Int32) (w28 w29 w30 w31 w32 w33 w34 : Int32) (w35 w36 : Int64) (w37 w38 w39 w40 : Int32) (w41 : Nat → Int64) (w42 : Nat → Int32) (w43 w44 : Nat → Int64) (w45 w46 w47 : Nat → Int32) (w48 w49 w50 w51 : Nat → Int64) (w52 : Nat → Int32) (w53 w54 w55 w56 : Nat → Int64) (w57 w58 w59 : Nat → Int32), i ≤ L0 → L0 + 4 ≤ i + 4 * nF → InvL w2 w3 w4 w5 w6 w7 w8 w9 w10 w11 w14 w15 w16 w17 w31 w32 w33 w34 w38 w40 w41 w42 w43 w44 w45 w46 w47 → lp_L_law_18 xs L0 nF (nI i) w2 w3 w4 w5 w6 w7 w8 w9 w10 w11 w12 w13 w14 w15 w16 w17 w18 w19 w20 w21 w22 w23 w24 w25 w26 w27 w28 w29 w30 w31 w32 w33 w34 w35 w36 w37 w38 w39 w40 w41 w42 w43 w44 w45 w46 w47 w48 w49 w50 w51 w52 w53 w54 w55 w56 w57 w58 w59 = some 1) (w2 w3 w4 w5 : Int32) (w6 w7 w8 : Int64) (w9 w10 w11 : Int32) (w12 w13 : Int64) (w14 w15 : Nat → Int64) (w16 : Nat → Int32) (w17 w18 w19 w20 w21 w22 : Int32) (w23 w24 : Int64) (w25 w26 : Nat → Int64) (w27 : Nat → Int32) (w28 w29 w30 w31 w32 w33 w34 : Int32) (w35 w36 : Int64) (w37 w38 w39 w40 : Int32) (w41 : Nat → Int64) (w42 : Nat → Int32) (w43 w44 : Nat → Int64) (w45 w46 w47 : Nat → Int32) (w48 w49 w50 w51 : Nat → Int64) (w52 : Nat → Int32) (w53 w54 w55 w56 : Nat → Int64) (w57 w58 w59 : Nat → Int32) (I : InvL w2 w3 w4 w5 w6 w7 w8 w9 w10 w11 w14 w15 w16 w17 w31 w32 w33 w34 w38 w40 w41 w42 w43 w44 w45 w46 w47) (hj : xs (nI i).toNatClampNeg &&& 31 = nI 18) : lp_L_law_18 xs L0 (nF + 1) (nI i) w2 w3 w4 w5 w6 w7 w8 w9 w10 w11 w12 w13 w14 w15 w16 w17 w18 w19 w20 w21 w22 w23 w24 w25 w26 w27 w28 w29 w30 w31 w32 w33 w34 w35 w36 w37 w38 w39 w40 w41 w42 w43 w44 w45 w46 w47 w48 w49 w50 w51 w52 w53 w54 w55 w56 w57 w58 w59 = some 1 := by
  have g0 : ¬ (nI i < 0 ∨ L0 ≤ (nI i).toNatClampNeg) := nI_in (by omega) (by omega)
  have e1 : nI i + 1 = nI (i + 1) := nI_1 i
  have e2 : nI i + 2 = nI (i + 2) := nI_add i 2
  have e3 : nI i + 3 = nI (i + 3) := nI_add i 3
  have a4 : nI i + 4 = nI (i + 4) := nI_add i 4
  have g1 : ¬ (nI i + 1 < 0 ∨ L0 ≤ (nI i + 1).toNatClampNeg) := by rw [e1]; exact nI_in (by omega) (by omega)
  have g2 : ¬ (nI i + 2 < 0 ∨ L0 ≤ (nI i + 2).toNatClampNeg) := by rw [e2]; exact nI_in (by omega) (by omega)
  have g3 : ¬ (nI i + 3 < 0 ∨ L0 ≤ (nI i + 3).toNatClampNeg) := by rw [e3]; exact nI_in (by omega) (by omega)
  have hend : ¬ nI L0 - 4 < nI i := by
    rw [show nI L0 - 4 = nI (L0 - 4) from pk_sub (b := 4) (by omega)]
    exact nI_nlt (by omega) (by omega)
  obtain ⟨w, h, lw, L, op, gd, rfl, rfl, rfl, rfl, rfl, rfl, rfl, rfl, rfl, rfl, rfl, hTM, hWN, C⟩ := I
  subst hTM hWN
  obtain ⟨G, N, hlw, hL, ho, U, hB, hT, b0, w0⟩ := C
  have C : Cr w h lw L _ gd w31 w32 w41 w14 w15 w43 w44 w16 w42 w45 w46 w47 := ⟨G, N, hlw, hL, ho, U, hB, hT, b0, w0⟩
  have hb := (U L (Nat.le_refl _)).1
  have hw := (U L (Nat.le_refl _)).2
  have BL := (hB L (Nat.le_refl _)).1
  have hmL := (hB L (Nat.le_refl _)).2
  have hac := fun i (hi : i < L) => (hT i hi).1
  have hTB : ∀ i, i < L → w46 (i + 1) = w46 i + Tk 1 w14 w15 i := fun i hi => by rw [Tk_up U 1 hi]; exact (hT i hi).2.1
  have hTW : ∀ i, i < L → w47 (i + 1) = w47 i + Tk 2 w14 w15 i := fun i hi => by rw [Tk_up U 2 hi]; exact (hT i hi).2.2
  rw [lp_L_law_18]
  refine (if_neg hend).trans ?_
  refine (if_neg g0).trans ?_
  refine (nm_eq _ _).trans ?_
  rw [hj]
  obtain ⟨q, e6, e7⟩ := q_digest (lw := lw) G N hL hb hw b0 w0 hTB hTW hmL hac
  rw [← G.2.1] at e6
  refine (if_neg (show ¬ nI 18 = 0 by decide)).trans ?_
  refine (if_neg (show ¬ nI 18 = 1 by decide)).trans ?_
  refine (if_neg (show ¬ nI 18 = 2 by decide)).trans ?_
  refine (if_neg (show ¬ nI 18 = 3 by decide)).trans ?_
  refine (if_neg (show ¬ nI 18 = 4 by decide)).trans ?_
  refine (if_neg (show ¬ nI 18 = 5 by decide)).trans ?_
  refine (if_neg (show ¬ nI 18 = 6 by decide)).trans ?_
  refine (if_neg (show ¬ nI 18 = 7 by decide)).trans ?_
  refine (if_neg (show ¬ nI 18 = 8 by decide)).trans ?_
  refine (if_neg (show ¬ nI 18 = 9 by decide)).trans ?_
  refine (if_neg (show ¬ nI 18 = 10 by decide)).trans ?_
  refine (if_neg (show ¬ nI 18 = 11 by decide)).trans ?_
  refine (if_neg (show ¬ nI 18 = 12 by decide)).trans ?_
  refine (if_neg (show ¬ nI 18 = 13 by decide)).trans ?_
  refine (if_neg (show ¬ nI 18 = 14 by decide)).trans ?_
  refine (if_neg (show ¬ nI 18 = 15 by decide)).trans ?_
  refine (if_neg (show ¬ nI 18 = 16 by decide)).trans ?_
  refine (if_neg (show ¬ nI 18 = 17 by decide)).trans ?_
  refine (if_pos (show nI 18 = 18 by decide)).trans ?_
  refine (bd_e e6).trans ?_
  refine (bd_e e7).trans ?_
  refine (if_pos rfl).trans ?_
  refine (nm_eq _ _).trans ?_
  rw [a4]
  exact ih (i + 4) _ _ _ _ _ _ _ _ _ _ _ _ _ _ _ _ _ _ _ _ _ _ _ _ _ _ _ _ _ _ _ _ _ _ _ _ _ _ _ _ _ _ _ _ _ _ _ _ _ _ _ _ _ _ _ _ _ _ (by omega) (by omega) ⟨w, h, lw, L, w11, gd, rfl, rfl, rfl, rfl, rfl, rfl, rfl, rfl, rfl, rfl, rfl, rfl, rfl, C⟩
set_option maxHeartbeats 4000000 in
set_option maxRecDepth 20000 in
theorem law_19 {xs : Nat → Int32} {L0 nF i : Nat} (hL0 : L0 ≤ 2048) (hi : i + 4 ≤ L0) (hf : L0 + 4 ≤ i + 4 * (nF + 1)) (ih : ∀ (i : Nat) (w2 w3 w4 w5 : Int32) (w6 w7 w8 : Int64) (w9 w10 w11 : Int32) (w12 w13 : Int64) (w14 w15 : Nat → Int64) (w16 : Nat → Int32) (w17 w18 w19 w20 w21 w22 : Int32) (w23 w24 : Int64) (w25 w26 : Nat → Int64) (w27 : Nat → Int32) (w28 w29 w30 w31 w32 w33 w34 : Int32) (w35 w36 : Int64) (w37 w38 w39 w40 : Int32) (w41 : Nat → Int64) (w42 : Nat → Int32) (w43 w44 : Nat → Int64) (w45 w46 w47 : Nat → Int32) (w48 w49 w50 w51 : Nat → Int64) (w52 : Nat → Int32) (w53 w54 w55 w56 : Nat → Int64) (w57 w58 w59 : Nat → Int32), i ≤ L0 → L0 + 4 ≤ i + 4 * nF → InvL w2 w3 w4 w5 w6 w7 w8 w9 w10 w11 w14 w15 w16 w17 w31 w32 w33 w34 w38 w40 w41 w42 w43 w44 w45 w46 w47 → lp_L_law_18 xs L0 nF (nI i) w2 w3 w4 w5 w6 w7 w8 w9 w10 w11 w12 w13 w14 w15 w16 w17 w18 w19 w20 w21 w22 w23 w24 w25 w26 w27 w28 w29 w30 w31 w32 w33 w34 w35 w36 w37 w38 w39 w40 w41 w42 w43 w44 w45 w46 w47 w48 w49 w50 w51 w52 w53 w54 w55 w56 w57 w58 w59 = some 1) (w2 w3 w4 w5 : Int32) (w6 w7 w8 : Int64) (w9 w10 w11 : Int32) (w12 w13 : Int64) (w14 w15 : Nat → Int64) (w16 : Nat → Int32) (w17 w18 w19 w20 w21 w22 : Int32) (w23 w24 : Int64) (w25 w26 : Nat → Int64) (w27 : Nat → Int32) (w28 w29 w30 w31 w32 w33 w34 : Int32) (w35 w36 : Int64) (w37 w38 w39 w40 : Int32) (w41 : Nat → Int64) (w42 : Nat → Int32) (w43 w44 : Nat → Int64) (w45 w46 w47 : Nat → Int32) (w48 w49 w50 w51 : Nat → Int64) (w52 : Nat → Int32) (w53 w54 w55 w56 : Nat → Int64) (w57 w58 w59 : Nat → Int32) (I : InvL w2 w3 w4 w5 w6 w7 w8 w9 w10 w11 w14 w15 w16 w17 w31 w32 w33 w34 w38 w40 w41 w42 w43 w44 w45 w46 w47) {j : Nat} (hj2 : 19 ≤ j) (hj3 : j < 32) (hj : xs (nI i).toNatClampNeg &&& 31 = nI j) : lp_L_law_18 xs L0 (nF + 1) (nI i) w2 w3 w4 w5 w6 w7 w8 w9 w10 w11 w12 w13 w14 w15 w16 w17 w18 w19 w20 w21 w22 w23 w24 w25 w26 w27 w28 w29 w30 w31 w32 w33 w34 w35 w36 w37 w38 w39 w40 w41 w42 w43 w44 w45 w46 w47 w48 w49 w50 w51 w52 w53 w54 w55 w56 w57 w58 w59 = some 1 := by
  have g0 : ¬ (nI i < 0 ∨ L0 ≤ (nI i).toNatClampNeg) := nI_in (by omega) (by omega)
  have e1 : nI i + 1 = nI (i + 1) := nI_1 i
  have e2 : nI i + 2 = nI (i + 2) := nI_add i 2
  have e3 : nI i + 3 = nI (i + 3) := nI_add i 3
  have a4 : nI i + 4 = nI (i + 4) := nI_add i 4
  have g1 : ¬ (nI i + 1 < 0 ∨ L0 ≤ (nI i + 1).toNatClampNeg) := by rw [e1]; exact nI_in (by omega) (by omega)
  have g2 : ¬ (nI i + 2 < 0 ∨ L0 ≤ (nI i + 2).toNatClampNeg) := by rw [e2]; exact nI_in (by omega) (by omega)
  have g3 : ¬ (nI i + 3 < 0 ∨ L0 ≤ (nI i + 3).toNatClampNeg) := by rw [e3]; exact nI_in (by omega) (by omega)
  have hend : ¬ nI L0 - 4 < nI i := by
    rw [show nI L0 - 4 = nI (L0 - 4) from pk_sub (b := 4) (by omega)]
    exact nI_nlt (by omega) (by omega)
  obtain ⟨w, h, lw, L, op, gd, rfl, rfl, rfl, rfl, rfl, rfl, rfl, rfl, rfl, rfl, rfl, hTM, hWN, C⟩ := I
  subst hTM hWN
  obtain ⟨G, N, hlw, hL, ho, U, hB, hT, b0, w0⟩ := C
  have C : Cr w h lw L _ gd w31 w32 w41 w14 w15 w43 w44 w16 w42 w45 w46 w47 := ⟨G, N, hlw, hL, ho, U, hB, hT, b0, w0⟩
  have hb := (U L (Nat.le_refl _)).1
  have hw := (U L (Nat.le_refl _)).2
  have BL := (hB L (Nat.le_refl _)).1
  have hmL := (hB L (Nat.le_refl _)).2
  have hac := fun i (hi : i < L) => (hT i hi).1
  have hTB : ∀ i, i < L → w46 (i + 1) = w46 i + Tk 1 w14 w15 i := fun i hi => by rw [Tk_up U 1 hi]; exact (hT i hi).2.1
  have hTW : ∀ i, i < L → w47 (i + 1) = w47 i + Tk 2 w14 w15 i := fun i hi => by rw [Tk_up U 2 hi]; exact (hT i hi).2.2
  rw [lp_L_law_18]
  refine (if_neg hend).trans ?_
  refine (if_neg g0).trans ?_
  refine (nm_eq _ _).trans ?_
  rw [hj]
  refine (if_neg (show ¬ nI j = 0 from fun q => by have := (nI_eq (b := 0) (by omega) (by decide)).mp q; omega)).trans ?_
  refine (if_neg (show ¬ nI j = 1 from fun q => by have := (nI_eq (b := 1) (by omega) (by decide)).mp q; omega)).trans ?_
  refine (if_neg (show ¬ nI j = 2 from fun q => by have := (nI_eq (b := 2) (by omega) (by decide)).mp q; omega)).trans ?_
  refine (if_neg (show ¬ nI j = 3 from fun q => by have := (nI_eq (b := 3) (by omega) (by decide)).mp q; omega)).trans ?_
  refine (if_neg (show ¬ nI j = 4 from fun q => by have := (nI_eq (b := 4) (by omega) (by decide)).mp q; omega)).trans ?_
  refine (if_neg (show ¬ nI j = 5 from fun q => by have := (nI_eq (b := 5) (by omega) (by decide)).mp q; omega)).trans ?_
  refine (if_neg (show ¬ nI j = 6 from fun q => by have := (nI_eq (b := 6) (by omega) (by decide)).mp q; omega)).trans ?_
  refine (if_neg (show ¬ nI j = 7 from fun q => by have := (nI_eq (b := 7) (by omega) (by decide)).mp q; omega)).trans ?_
  refine (if_neg (show ¬ nI j = 8 from fun q => by have := (nI_eq (b := 8) (by omega) (by decide)).mp q; omega)).trans ?_
  refine (if_neg (show ¬ nI j = 9 from fun q => by have := (nI_eq (b := 9) (by omega) (by decide)).mp q; omega)).trans ?_
  refine (if_neg (show ¬ nI j = 10 from fun q => by have := (nI_eq (b := 10) (by omega) (by decide)).mp q; omega)).trans ?_
  refine (if_neg (show ¬ nI j = 11 from fun q => by have := (nI_eq (b := 11) (by omega) (by decide)).mp q; omega)).trans ?_
  refine (if_neg (show ¬ nI j = 12 from fun q => by have := (nI_eq (b := 12) (by omega) (by decide)).mp q; omega)).trans ?_
  refine (if_neg (show ¬ nI j = 13 from fun q => by have := (nI_eq (b := 13) (by omega) (by decide)).mp q; omega)).trans ?_
  refine (if_neg (show ¬ nI j = 14 from fun q => by have := (nI_eq (b := 14) (by omega) (by decide)).mp q; omega)).trans ?_
  refine (if_neg (show ¬ nI j = 15 from fun q => by have := (nI_eq (b := 15) (by omega) (by decide)).mp q; omega)).trans ?_
  refine (if_neg (show ¬ nI j = 16 from fun q => by have := (nI_eq (b := 16) (by omega) (by decide)).mp q; omega)).trans ?_
  refine (if_neg (show ¬ nI j = 17 from fun q => by have := (nI_eq (b := 17) (by omega) (by decide)).mp q; omega)).trans ?_
  refine (if_neg (show ¬ nI j = 18 from fun q => by have := (nI_eq (b := 18) (by omega) (by decide)).mp q; omega)).trans ?_
  refine (nm_eq _ _).trans ?_
  rw [a4]
  exact ih (i + 4) _ _ _ _ _ _ _ _ _ _ _ _ _ _ _ _ _ _ _ _ _ _ _ _ _ _ _ _ _ _ _ _ _ _ _ _ _ _ _ _ _ _ _ _ _ _ _ _ _ _ _ _ _ _ _ _ _ _ (by omega) (by omega) ⟨w, h, lw, L, w11, gd, rfl, rfl, rfl, rfl, rfl, rfl, rfl, rfl, rfl, rfl, rfl, rfl, rfl, C⟩
theorem law_ok (xs : Nat → Int32) (L0 : Nat) (hL0 : L0 ≤ 2048) : ∀ (nF i : Nat) (w2 w3 w4 w5 : Int32) (w6 w7 w8 : Int64) (w9 w10 w11 : Int32) (w12 w13 : Int64) (w14 w15 : Nat → Int64) (w16 : Nat → Int32) (w17 w18 w19 w20 w21 w22 : Int32) (w23 w24 : Int64) (w25 w26 : Nat → Int64) (w27 : Nat → Int32) (w28 w29 w30 w31 w32 w33 w34 : Int32) (w35 w36 : Int64) (w37 w38 w39 w40 : Int32) (w41 : Nat → Int64) (w42 : Nat → Int32) (w43 w44 : Nat → Int64) (w45 w46 w47 : Nat → Int32) (w48 w49 w50 w51 : Nat → Int64) (w52 : Nat → Int32) (w53 w54 w55 w56 : Nat → Int64) (w57 w58 w59 : Nat → Int32), i ≤ L0 → L0 + 4 ≤ i + 4 * nF → InvL w2 w3 w4 w5 w6 w7 w8 w9 w10 w11 w14 w15 w16 w17 w31 w32 w33 w34 w38 w40 w41 w42 w43 w44 w45 w46 w47 → lp_L_law_18 xs L0 nF (nI i) w2 w3 w4 w5 w6 w7 w8 w9 w10 w11 w12 w13 w14 w15 w16 w17 w18 w19 w20 w21 w22 w23 w24 w25 w26 w27 w28 w29 w30 w31 w32 w33 w34 w35 w36 w37 w38 w39 w40 w41 w42 w43 w44 w45 w46 w47 w48 w49 w50 w51 w52 w53 w54 w55 w56 w57 w58 w59 = some 1 := by
  intro nF
  induction nF with
  | zero => intro i w2 w3 w4 w5 w6 w7 w8 w9 w10 w11 w12 w13 w14 w15 w16 w17 w18 w19 w20 w21 w22 w23 w24 w25 w26 w27 w28 w29 w30 w31 w32 w33 w34 w35 w36 w37 w38 w39 w40 w41 w42 w43 w44 w45 w46 w47 w48 w49 w50 w51 w52 w53 w54 w55 w56 w57 w58 w59 h1 h2; omega
  | succ nF ih =>
    intro i w2 w3 w4 w5 w6 w7 w8 w9 w10 w11 w12 w13 w14 w15 w16 w17 w18 w19 w20 w21 w22 w23 w24 w25 w26 w27 w28 w29 w30 w31 w32 w33 w34 w35 w36 w37 w38 w39 w40 w41 w42 w43 w44 w45 w46 w47 w48 w49 w50 w51 w52 w53 w54 w55 w56 w57 w58 w59 h1 h2 I
    by_cases he : L0 < i + 4
    · rw [lp_L_law_18, if_pos]
      rw [Int32.lt_iff_toInt_lt, nI_toInt (by omega)]
      have := pk_sub_toInt (a := L0) (b := 4) (by omega) (by decide)
      rw [show (nI L0 - 4).toInt = (L0 : Int) - 4 from this]
      omega
    · obtain ⟨j, hj, hj2⟩ := pk_andE (xs (nI i).toNatClampNeg) (m := 31) 5 (by decide)
      have hj : j < 32 := hj
      rcases Nat.lt_or_ge j 19 with q | q
      · have hjs : j = 0 ∨ j = 1 ∨ j = 2 ∨ j = 3 ∨ j = 4 ∨ j = 5 ∨ j = 6 ∨ j = 7 ∨ j = 8 ∨ j = 9 ∨ j = 10 ∨ j = 11 ∨ j = 12 ∨ j = 13 ∨ j = 14 ∨ j = 15 ∨ j = 16 ∨ j = 17 ∨ j = 18 := by omega
        rcases hjs with rfl | rfl | rfl | rfl | rfl | rfl | rfl | rfl | rfl | rfl | rfl | rfl | rfl | rfl | rfl | rfl | rfl | rfl | rfl
        · exact law_0 hL0 (by omega) h2 ih w2 w3 w4 w5 w6 w7 w8 w9 w10 w11 w12 w13 w14 w15 w16 w17 w18 w19 w20 w21 w22 w23 w24 w25 w26 w27 w28 w29 w30 w31 w32 w33 w34 w35 w36 w37 w38 w39 w40 w41 w42 w43 w44 w45 w46 w47 w48 w49 w50 w51 w52 w53 w54 w55 w56 w57 w58 w59 I hj2
        · exact law_1 hL0 (by omega) h2 ih w2 w3 w4 w5 w6 w7 w8 w9 w10 w11 w12 w13 w14 w15 w16 w17 w18 w19 w20 w21 w22 w23 w24 w25 w26 w27 w28 w29 w30 w31 w32 w33 w34 w35 w36 w37 w38 w39 w40 w41 w42 w43 w44 w45 w46 w47 w48 w49 w50 w51 w52 w53 w54 w55 w56 w57 w58 w59 I hj2
        · exact law_2 hL0 (by omega) h2 ih w2 w3 w4 w5 w6 w7 w8 w9 w10 w11 w12 w13 w14 w15 w16 w17 w18 w19 w20 w21 w22 w23 w24 w25 w26 w27 w28 w29 w30 w31 w32 w33 w34 w35 w36 w37 w38 w39 w40 w41 w42 w43 w44 w45 w46 w47 w48 w49 w50 w51 w52 w53 w54 w55 w56 w57 w58 w59 I hj2
        · exact law_3 hL0 (by omega) h2 ih w2 w3 w4 w5 w6 w7 w8 w9 w10 w11 w12 w13 w14 w15 w16 w17 w18 w19 w20 w21 w22 w23 w24 w25 w26 w27 w28 w29 w30 w31 w32 w33 w34 w35 w36 w37 w38 w39 w40 w41 w42 w43 w44 w45 w46 w47 w48 w49 w50 w51 w52 w53 w54 w55 w56 w57 w58 w59 I hj2
        · exact law_4 hL0 (by omega) h2 ih w2 w3 w4 w5 w6 w7 w8 w9 w10 w11 w12 w13 w14 w15 w16 w17 w18 w19 w20 w21 w22 w23 w24 w25 w26 w27 w28 w29 w30 w31 w32 w33 w34 w35 w36 w37 w38 w39 w40 w41 w42 w43 w44 w45 w46 w47 w48 w49 w50 w51 w52 w53 w54 w55 w56 w57 w58 w59 I hj2
        · exact law_5 hL0 (by omega) h2 ih w2 w3 w4 w5 w6 w7 w8 w9 w10 w11 w12 w13 w14 w15 w16 w17 w18 w19 w20 w21 w22 w23 w24 w25 w26 w27 w28 w29 w30 w31 w32 w33 w34 w35 w36 w37 w38 w39 w40 w41 w42 w43 w44 w45 w46 w47 w48 w49 w50 w51 w52 w53 w54 w55 w56 w57 w58 w59 I hj2
        · exact law_6 hL0 (by omega) h2 ih w2 w3 w4 w5 w6 w7 w8 w9 w10 w11 w12 w13 w14 w15 w16 w17 w18 w19 w20 w21 w22 w23 w24 w25 w26 w27 w28 w29 w30 w31 w32 w33 w34 w35 w36 w37 w38 w39 w40 w41 w42 w43 w44 w45 w46 w47 w48 w49 w50 w51 w52 w53 w54 w55 w56 w57 w58 w59 I hj2
        · exact law_7 hL0 (by omega) h2 ih w2 w3 w4 w5 w6 w7 w8 w9 w10 w11 w12 w13 w14 w15 w16 w17 w18 w19 w20 w21 w22 w23 w24 w25 w26 w27 w28 w29 w30 w31 w32 w33 w34 w35 w36 w37 w38 w39 w40 w41 w42 w43 w44 w45 w46 w47 w48 w49 w50 w51 w52 w53 w54 w55 w56 w57 w58 w59 I hj2
        · exact law_8 hL0 (by omega) h2 ih w2 w3 w4 w5 w6 w7 w8 w9 w10 w11 w12 w13 w14 w15 w16 w17 w18 w19 w20 w21 w22 w23 w24 w25 w26 w27 w28 w29 w30 w31 w32 w33 w34 w35 w36 w37 w38 w39 w40 w41 w42 w43 w44 w45 w46 w47 w48 w49 w50 w51 w52 w53 w54 w55 w56 w57 w58 w59 I hj2
        · exact law_9 hL0 (by omega) h2 ih w2 w3 w4 w5 w6 w7 w8 w9 w10 w11 w12 w13 w14 w15 w16 w17 w18 w19 w20 w21 w22 w23 w24 w25 w26 w27 w28 w29 w30 w31 w32 w33 w34 w35 w36 w37 w38 w39 w40 w41 w42 w43 w44 w45 w46 w47 w48 w49 w50 w51 w52 w53 w54 w55 w56 w57 w58 w59 I hj2
        · exact law_10 hL0 (by omega) h2 ih w2 w3 w4 w5 w6 w7 w8 w9 w10 w11 w12 w13 w14 w15 w16 w17 w18 w19 w20 w21 w22 w23 w24 w25 w26 w27 w28 w29 w30 w31 w32 w33 w34 w35 w36 w37 w38 w39 w40 w41 w42 w43 w44 w45 w46 w47 w48 w49 w50 w51 w52 w53 w54 w55 w56 w57 w58 w59 I hj2
        · exact law_11 hL0 (by omega) h2 ih w2 w3 w4 w5 w6 w7 w8 w9 w10 w11 w12 w13 w14 w15 w16 w17 w18 w19 w20 w21 w22 w23 w24 w25 w26 w27 w28 w29 w30 w31 w32 w33 w34 w35 w36 w37 w38 w39 w40 w41 w42 w43 w44 w45 w46 w47 w48 w49 w50 w51 w52 w53 w54 w55 w56 w57 w58 w59 I hj2
        · exact law_12 hL0 (by omega) h2 ih w2 w3 w4 w5 w6 w7 w8 w9 w10 w11 w12 w13 w14 w15 w16 w17 w18 w19 w20 w21 w22 w23 w24 w25 w26 w27 w28 w29 w30 w31 w32 w33 w34 w35 w36 w37 w38 w39 w40 w41 w42 w43 w44 w45 w46 w47 w48 w49 w50 w51 w52 w53 w54 w55 w56 w57 w58 w59 I hj2
        · exact law_13 hL0 (by omega) h2 ih w2 w3 w4 w5 w6 w7 w8 w9 w10 w11 w12 w13 w14 w15 w16 w17 w18 w19 w20 w21 w22 w23 w24 w25 w26 w27 w28 w29 w30 w31 w32 w33 w34 w35 w36 w37 w38 w39 w40 w41 w42 w43 w44 w45 w46 w47 w48 w49 w50 w51 w52 w53 w54 w55 w56 w57 w58 w59 I hj2
        · exact law_14 hL0 (by omega) h2 ih w2 w3 w4 w5 w6 w7 w8 w9 w10 w11 w12 w13 w14 w15 w16 w17 w18 w19 w20 w21 w22 w23 w24 w25 w26 w27 w28 w29 w30 w31 w32 w33 w34 w35 w36 w37 w38 w39 w40 w41 w42 w43 w44 w45 w46 w47 w48 w49 w50 w51 w52 w53 w54 w55 w56 w57 w58 w59 I hj2
        · exact law_15 hL0 (by omega) h2 ih w2 w3 w4 w5 w6 w7 w8 w9 w10 w11 w12 w13 w14 w15 w16 w17 w18 w19 w20 w21 w22 w23 w24 w25 w26 w27 w28 w29 w30 w31 w32 w33 w34 w35 w36 w37 w38 w39 w40 w41 w42 w43 w44 w45 w46 w47 w48 w49 w50 w51 w52 w53 w54 w55 w56 w57 w58 w59 I hj2
        · exact law_16 hL0 (by omega) h2 ih w2 w3 w4 w5 w6 w7 w8 w9 w10 w11 w12 w13 w14 w15 w16 w17 w18 w19 w20 w21 w22 w23 w24 w25 w26 w27 w28 w29 w30 w31 w32 w33 w34 w35 w36 w37 w38 w39 w40 w41 w42 w43 w44 w45 w46 w47 w48 w49 w50 w51 w52 w53 w54 w55 w56 w57 w58 w59 I hj2
        · exact law_17 hL0 (by omega) h2 ih w2 w3 w4 w5 w6 w7 w8 w9 w10 w11 w12 w13 w14 w15 w16 w17 w18 w19 w20 w21 w22 w23 w24 w25 w26 w27 w28 w29 w30 w31 w32 w33 w34 w35 w36 w37 w38 w39 w40 w41 w42 w43 w44 w45 w46 w47 w48 w49 w50 w51 w52 w53 w54 w55 w56 w57 w58 w59 I hj2
        · exact law_18 hL0 (by omega) h2 ih w2 w3 w4 w5 w6 w7 w8 w9 w10 w11 w12 w13 w14 w15 w16 w17 w18 w19 w20 w21 w22 w23 w24 w25 w26 w27 w28 w29 w30 w31 w32 w33 w34 w35 w36 w37 w38 w39 w40 w41 w42 w43 w44 w45 w46 w47 w48 w49 w50 w51 w52 w53 w54 w55 w56 w57 w58 w59 I hj2
      · exact law_19 hL0 (by omega) h2 ih w2 w3 w4 w5 w6 w7 w8 w9 w10 w11 w12 w13 w14 w15 w16 w17 w18 w19 w20 w21 w22 w23 w24 w25 w26 w27 w28 w29 w30 w31 w32 w33 w34 w35 w36 w37 w38 w39 w40 w41 w42 w43 w44 w45 w46 w47 w48 w49 w50 w51 w52 w53 w54 w55 w56 w57 w58 w59 I q hj hj2
