section QV
variable {w h : Nat} {gd : Gd} {mw mh : Int32} {nb : Nat → Int64} {L : Nat} {bl wh bA wA : Nat → Int64}
/-- stones taken, act by act -/
def Tk (c : Int32) (bl wh : Nat → Int64) (i : Nat) : Int32 := nI (pc (Ow c (bl i) (wh i) &&& (Ow c (bl (i + 1)) (wh (i + 1)) ^^^ (-1))))
theorem f_takenBy {N0 i : Nat} (hi : i + 1 < N0) (hN : N0 < 2 ^ 31) (c : Int32) : f_X4_takenBy N0 bl wh (nI (i + 1)) c = some (Tk c bl wh i) := by
  unfold f_X4_takenBy Tk
  rw [nI_pred, f_stonesThen (by omega) hN, Option.bind_some, f_stonesThen hi hN, Option.bind_some, f_bc]; rfl
theorem lp_taken (hL : L ≤ 120) (c : Int32) (T : Nat → Int32) (hT : ∀ i, i < L → T (i + 1) = T i + Tk c bl wh i) : ∀ (nF i : Nat), i ≤ L → L - i < nF → lp_X4_taken_4 127 (nI L) bl wh c nF (T i) (nI (i + 1)) = some (T L) := by
  intro nF
  induction nF with
  | zero => intro i h1 h2; omega
  | succ nF ih =>
    intro i h1 h2
    rw [lp_X4_taken_4]
    by_cases hi : i = L
    · subst hi
      rw [if_pos (nI_lt (by omega) (by omega))]
    · rw [if_neg (nI_nlt (by omega) (by omega)), f_takenBy (by omega) (by decide), Option.bind_some]
      simp only [nm_eq]
      rw [← hT i (by omega), nI_1]
      exact ih (i + 1) (by omega) (by omega)
theorem f_taken (hL : L ≤ 120) (c : Int32) (T : Nat → Int32) (h0 : T 0 = 0) (hT : ∀ i, i < L → T (i + 1) = T i + Tk c bl wh i) : f_X4_taken 127 (nI L) bl wh c = some (T L) := by
  unfold f_X4_taken
  rw [← h0, show (1 : Int32) = nI (0 + 1) from rfl]
  exact lp_taken hL c T hT FU 0 (by omega) (by have := FU_ge; omega)
theorem q_points (G : GdOK w h gd) (N : NbOK w h mw mh nb) (hL : L ≤ 120) (hb : bl L = bA L) (hw : wh L = wA L) {tB tW : Nat → Int32} (b0 : tB 0 = 0) (w0 : tW 0 = 0) (hB : ∀ i, i < L → tB (i + 1) = tB i + Tk 1 bl wh i) (hW : ∀ i, i < L → tW (i + 1) = tW i + Tk 2 bl wh i) (a0 a1 : Int32) : ∃ q, f_X6_points 127 gd.1 (nI (w * h)) gd.2.1 gd.2.2.1 gd.2.2.2 (nI L) bl wh a0 a1 = some q ∧ f_X7_points mw mh (nI L) nb bA wA tB tW a0 a1 = some q := by
  unfold f_X6_points f_X7_points
  rcases col_cs a0 with ⟨-, -, h1, h2⟩ | ⟨hc, h1, h2⟩
  · rw [h1, h2]
    exact ⟨-2, rfl, rfl⟩
  rw [h1, h2, Option.bind_some, Option.bind_some, if_neg n10, if_neg n10]
  rcases in_cs a1 1 (by decide) with ⟨g1, g2⟩ | ⟨g1, g2, -, g3⟩ | ⟨j, hj, rfl, g1, g2, -, g3⟩
  · rw [if_pos g1, show f_X7_in a1 0 1 = some 0 from g2]
    exact ⟨-2, rfl, rfl⟩
  · rw [if_neg g1, if_neg (show ¬ a1 ≤ 1 from g2), show f_X7_in a1 0 1 = some 0 from g3]
    exact ⟨-2, rfl, rfl⟩
  rw [if_neg g1, if_pos (show nI j ≤ 1 from g2), show f_X7_in (nI j) 0 1 = some 1 from g3, Option.bind_some, if_neg n10, f_stonesOf (by omega) (by decide), hb, hw, Option.bind_some]
  simp only [f_X6_other, Option.bind_some]
  rw [f_stonesOf (by omega) (by decide), hb, hw, Option.bind_some]
  obtain ⟨x, x1, x2⟩ := f_freeOf G (Ow a0 (bA L) (wA L)) (Ow (3 - a0) (bA L) (wA L))
  rw [x1, Option.bind_some, f_bc, Option.bind_some, x2]
  have hF : Fr gd (Ow a0 (bA L) (wA L)) (Ow (3 - a0) (bA L) (wA L)) = Fr gd (bA L) (wA L) := by
    rcases hc with rfl | rfl
    · rw [c31, Ow_1, Ow_2]
    · rw [c32, Ow_1, Ow_2, Fr_cm G]
  rw [hF]
  unfold f_X7_pointsOf
  rw [if_neg (nI_in (show L < 130 by omega) (by decide)), if_neg (nI_in (show L < 130 by omega) (by decide)), nI_clamp (by omega), f_free7 G N, Option.bind_some]
  simp only [nm_eq]
  have e := fun K => lp_points7 (bl := bA) (wh := wA) (L := L) G N (by omega) a0 (Fr_sb G (bA L) (wA L)) K FU (Fr gd (bA L) (wA L)) 0 (by have := pc_le (Fr gd (bA L) (wA L)); have := FU_ge; omega) (Le.rf _)
  rw [nI_0, Nat.zero_add] at e
  rw [e]
  have hj2 : j = 0 ∨ j = 1 := by omega
  rcases hj2 with rfl | rfl
  · rw [if_pos nI_0, if_neg (show ¬ nI 0 = 1 by decide)]
    rcases hc with rfl | rfl
    · rw [if_pos rfl, if_neg (nI_inc (show L < 121 by omega) (by omega)), c31, f_taken hL 2 tW w0 hW]
      exact ⟨_, rfl, rfl⟩
    · rw [if_neg (show ¬ (2 : Int32) = 1 by decide), if_neg (nI_inc (show L < 121 by omega) (by omega)), c32, f_taken hL 1 tB b0 hB]
      exact ⟨_, rfl, rfl⟩
  · rw [if_neg (show ¬ nI 1 = 0 by decide), if_pos (show nI 1 = 1 by decide), f_bc, f_stones7 (by omega)]
    simp only [Option.bind_some, f_many]
    exact ⟨_, rfl, rfl⟩
theorem f_actAt {N0 i : Nat} {ac : Nat → Int32} (hL : L ≤ N0) (hN : N0 < 2 ^ 31) (hi : i < L) : f_X4_actAt N0 (nI L) ac (nI i) = some (ac i) := by
  unfold f_X4_actAt
  rw [if_neg (nI_pos (by omega)), if_neg (nI_ge hi (by omega)), if_neg (nI_ge (by omega) hN), if_neg (nI_in (by omega) hN), nI_clamp (by omega)]
theorem lp_passes (N : NbOK w h mw mh nb) (hL : L ≤ 120) {ac at' : Nat → Int32} (ha : ∀ i, i < L → ac i = at' i) : ∀ (nF m : Nat), m ≤ L → m < nF → ∃ r, lp_X4_passesNow_9 127 (nI L) (nI (w * h)) ac nF (nI (L - m)) (nI m - 1) = some r ∧ lp_X7_passes_2 mw mh (nI L) at' nF (nI (L - m)) = some r := by
  intro nF
  induction nF with
  | zero => intro m h1 h2; omega
  | succ nF ih =>
    intro m h1 h2
    rw [lp_X4_passesNow_9, lp_X7_passes_2]
    cases m with
    | zero =>
      rw [if_pos (by decide), if_pos (nI_le (by omega) (by omega))]
      exact ⟨_, rfl, rfl⟩
    | succ m =>
      have e1 : nI L - 1 - nI (L - (m + 1)) = nI m := by
        rw [show nI L - 1 = nI (L - 1) from pk_sub (b := 1) (by omega), pk_sub (by omega)]
        congr 1
        omega
      rw [nI_pred, if_neg (nI_pos (by omega)), f_actAt (by omega) (by decide) (by omega), Option.bind_some, if_neg (nI_ge (by omega) (by omega)), e1, if_neg (nI_in (by omega) (by decide)), nI_clamp (by omega), f_size7 N, Option.bind_some, ha m (by omega)]
      by_cases z : at' m = nI (w * h)
      · rw [if_pos z, if_pos z]
        simp only [nm_eq]
        rw [nI_1, show nI m + (-1) = nI m - 1 from (Int32.sub_eq_add_neg _ _).symm, show L - (m + 1) + 1 = L - m by omega]
        exact ih m (by omega) (by omega)
      · rw [if_neg z, if_neg z]
        exact ⟨_, rfl, rfl⟩
theorem f_passes (N : NbOK w h mw mh nb) (hL : L ≤ 120) {ac at' : Nat → Int32} (ha : ∀ i, i < L → ac i = at' i) : ∃ r, f_X4_passesNow 127 (nI L) (nI (w * h)) ac = some r ∧ f_X7_passes mw mh (nI L) at' = some r := by
  unfold f_X4_passesNow f_X7_passes
  simp only [nm_eq]
  obtain ⟨r, r1, r2⟩ := lp_passes N hL ha FU L (Nat.le_refl _) (by have := FU_ge; omega)
  rw [Nat.sub_self] at r1 r2
  exact ⟨r, r1, r2⟩
theorem q_act (hL : L ≤ 120) {ac at' : Nat → Int32} (ha : ∀ i, i < L → ac i = at' i) (a : Int32) : ∃ q, f_X6_act 127 (nI L) ac a = some q ∧ f_X7_act (nI L) at' a = some q := by
  unfold f_X6_act f_X7_act
  by_cases h0 : a < 0
  · refine ⟨-1, ?_, ?_⟩
    · unfold f_X4_actAt
      rw [if_pos h0]; rfl
    · unfold f_X7_in
      rw [if_pos h0]; rfl
  · obtain ⟨j, hj, rfl⟩ := nI_of h0
    rcases Nat.lt_or_ge j L with q | q
    · refine ⟨at' j, ?_, ?_⟩
      · rw [f_actAt (by omega) (by decide) q, ha j q]; rfl
      · unfold f_X7_in
        rw [if_neg h0, show nI L - 1 = nI (L - 1) from pk_sub (b := 1) (by omega), if_neg (nI_nlt (by omega) (by omega)), Option.bind_some, if_neg n10, if_neg (nI_in (by omega) (by decide)), nI_clamp (by omega)]
    · refine ⟨-1, ?_, ?_⟩
      · unfold f_X4_actAt
        rw [if_neg h0, if_pos (nI_le q hj)]; rfl
      · unfold f_X7_in
        rw [if_neg h0, if_pos]
        · rfl
        · rcases Nat.eq_zero_or_pos L with z | z
          · subst z
            rw [show nI 0 - 1 = -1 by decide, Int32.lt_iff_toInt_lt, nI_toInt hj]
            show (-1 : Int) < _
            omega
          · rw [show nI L - 1 = nI (L - 1) from pk_sub (b := 1) (by omega)]
            exact nI_lt (by omega) hj
end QV
