/-! both fights tell the same -/
theorem Cf_mono : ∀ (k m : Nat), Cf m ≤ Cf (m + k)
  | 0, m => Nat.le_refl _
  | k + 1, m => by
    have h := Cf_mono k m
    show Cf m ≤ 52 * (3 + Cf (m + k)) + 2
    omega
theorem Cf_6 : Cf 6 + 1 ≤ FU := Nat.le_of_ble_eq_true rfl
section FU
variable {w h : Nat} {gd : Gd} {mw mh : Int32} {nb : Nat → Int64} {L lw : Nat} {op : Int32} {bl wh bA wA : Nat → Int64} {mv : Nat → Int32}
theorem ref_taken (G : GdOK w h gd) (N : NbOK w h mw mh nb) (ho : op = 1 ∨ op = 2) {at' : Int32} (hat : at' = 1 ∨ at' = 2) (hlw : lw ≤ 2) {t n : Nat} (ht : t < w * h) (hn1 : 1 ≤ n) (hn6 : n ≤ 6) (hL : L ≤ 120) (B : Bd gd (w * h) (bA L) (wA L)) (hm : ∀ i, i ≤ L → mv i = Mv op i) (x y : Int64) (tk : Int32) (nx : Nat → Int32) : ∃ fin : Ft, f_X7_isTaken mw mh (nI lw) (nI L) x y tk 0 0 nb bA wA mv nx at' (nI t) (nI n) = some fin ∧ fin.2.2.2.2.1 = nI (TI gd (w * h) lw op at' t n L bA wA 0).2 ∧ (∀ i, i ≤ L → fin.2.2.2.2.2.2.1 i = bA i ∧ fin.2.2.2.2.2.2.2.1 i = wA i ∧ fin.2.2.2.2.2.2.2.2.1 i = mv i) ∧ (((TI gd (w * h) lw op at' t n L bA wA 0).1 = -5 ∧ fin.2.2.2.2.2.1 = 1) ∨ (((TI gd (w * h) lw op at' t n L bA wA 0).1 = 0 ∨ (TI gd (w * h) lw op at' t n L bA wA 0).1 = 1) ∧ fin.2.2.2.2.2.1 = 0 ∧ fin.1 = (TI gd (w * h) lw op at' t n L bA wA 0).1 ∧ ∀ n', n = n' + 1 → ¬ (TI gd (w * h) lw op at' t n L bA wA 0).1 = Un1 op at' L → fin.2.2.2.2.2.2.2.2.2 0 = nI (gk (Un1 op at' L) (lgf gd (w * h) lw op L bA wA) (TF gd (w * h) lw op at' t n' L bA wA) (up_to (w * h + 1) 0) 0 + 1))) := by
  have hz : (0 : Int32).toNatClampNeg = 0 := rfl
  obtain ⟨k, u, r, hk⟩ := sim_ft (lw := lw) (L0 := L) (t := t) (n := n) G N ho hat hlw ht hn6 hL n 0 bA wA (bA, wA, mv, upd nx 0 0) 0 x y tk 0 (by omega) (Up.rf _ _ _) B hm (by dsimp only; rw [pk_us]; rfl) (Or.inl rfl) (by omega)
  have e : f_X7_isTaken mw mh (nI lw) (nI L) x y tk 0 0 nb bA wA mv nx at' (nI t) (nI n) = LT mw mh (nI lw) (nI L) nb at' (nI t) (nI n) FU (nI 0) 0 0 x y tk (nI 0) 0 (bA, wA, mv, upd nx 0 0) := by
    unfold f_X7_isTaken LT
    rw [if_neg (by decide), hz, nI_0]
  rw [e]
  have r : OuT mw mh nb lw L at' t n 0 _ _ _ (TI gd (w * h) lw op at' t n L bA wA 0) u k := r
  have hk : ∀ m', n = m' + 1 → u = Un1 op at' L ∧ k = gk (Un1 op at' L) (lgf gd (w * h) lw op L bA wA) (TF gd (w * h) lw op at' t m' L bA wA) (up_to (w * h + 1) 0) 0 := hk
  generalize TI gd (w * h) lw op at' t n L bA wA 0 = R at *
  obtain ⟨c, c1, c2⟩ := r
  have hC : c + 1 ≤ FU := by
    have h1 := Cf_mono (6 - n) n
    rw [show n + (6 - n) = 6 by omega] at h1
    have := Cf_6
    omega
  obtain ⟨F, hF⟩ : ∃ F, FU = F + 1 + c := ⟨FU - c - 1, by omega⟩
  rw [hF]
  rcases c2 with ⟨u1, fin, u2, u3, u4, u5⟩ | ⟨u1, x3, y3, t3, A3, u2, u3, u4⟩
  · exact ⟨fin, u2 (F + 1), u3, fun i hi => u5.1 i (by omega), Or.inl ⟨u1, u4⟩⟩
  · refine ⟨(R.1, x3, y3, t3, nI R.2, 0, A3), ?_, rfl, fun i hi => u2.1 i (by omega), Or.inr ⟨u1, rfl, rfl, fun n' hn' hne => ?_⟩⟩
    · refine (u4 (F + 1)).trans ?_
      unfold LT
      rw [lp_X7_isTaken_16, if_pos (by decide), if_neg (fun z => z u1)]
    · obtain ⟨v1, v2⟩ := hk n' hn'
      rw [← v2]
      exact u3 (by rw [v1]; exact hne)
theorem lgf_cong {n L : Nat} {B W B' W' : Nat → Int64} (U : Up L B W B' W') (k : Nat) : lgf gd n lw op L B' W' k = lgf gd n lw op L B W k := by
  unfold lgf
  split
  · rfl
  · have one : ∀ {B W B' W' : Nat → Int64}, Up L B W B' W' → Why gd lw op L B' W' k 0 → Why gd lw op L B W k 0 := fun U a => Why_cong (fun i hi => (U i hi).1) (fun i hi => (U i hi).2) a
    by_cases z : Why gd lw op L B W k 0
    · rw [cdec_t z, cdec_t (one (fun i hi => ⟨((U i hi).1).symm, ((U i hi).2).symm⟩) z)]
    · rw [cdec_f z, cdec_f (fun q => z (one U q))]
theorem q_fight (G : GdOK w h gd) (N : NbOK w h mw mh nb) (ho : op = 1 ∨ op = 2) (hlw : lw ≤ 2) (hL : L ≤ 120) (U : Up L bA wA bl wh) (B : Bd gd (w * h) (bA L) (wA L)) (hm : ∀ i, i ≤ L → mv i = Mv op i) (win tm : Int32) (bT wT : Int64) (ac : Nat → Int32) (f1 f2 f3 : Int32) (x y : Int64) (tk sp : Int32) (nx : Nat → Int32) (a0 a1 : Int32) : ∃ q6 q7, f_X6_fight 127 win gd.1 (nI (w * h)) gd.2.1 gd.2.2.1 gd.2.2.2 (nI lw) (nI L) op bT wT bl wh ac tm f1 f2 f3 a0 a1 = some q6 ∧ f_X7_fight mw mh (nI lw) (nI L) x y tk tm sp win nb bA wA mv nx a0 a1 = some q7 ∧ q6.1 = q7.1 ∧ q6.2.1 = q7.2.2.2.2.2.2.1 ∧ q6.2.2.1 = nI L ∧ Up L bA wA q6.2.2.2.2.2.1 q6.2.2.2.2.2.2.1 ∧ (∀ i, i < L → q6.2.2.2.2.2.2.2.1 i = ac i) ∧ q6.2.2.2.2.2.2.2.2.1 = q7.2.2.2.2.1 ∧ (∀ i, i ≤ L → q7.2.2.2.2.2.2.2.1 i = bA i ∧ q7.2.2.2.2.2.2.2.2.1 i = wA i ∧ q7.2.2.2.2.2.2.2.2.2.1 i = mv i) := by
  have hn := n_lt G
  have e1 := (U L (Nat.le_refl _)).1
  have e2 := (U L (Nat.le_refl _)).2
  unfold f_X6_fight f_X7_fight
  rcases ix_cs G N a0 with ⟨-, h1, h2⟩ | ⟨k, hk, rfl, h1, h2⟩
  · rw [h1, h2]
    exact ⟨_, _, rfl, rfl, rfl, rfl, rfl, U, fun _ _ => rfl, rfl, fun _ _ => ⟨rfl, rfl, rfl⟩⟩
  rw [h1, h2, Option.bind_some, Option.bind_some, if_neg n10, if_neg n10]
  rcases in1_cs a1 6 (by decide) (by decide) with ⟨g1, g2⟩ | ⟨g1, g2, g3⟩ | ⟨j, hj1, hj, rfl, g1, g2, g3⟩
  · rw [if_pos g1, show f_X7_in a1 1 6 = some 0 from g2]
    exact ⟨_, _, rfl, rfl, rfl, rfl, rfl, U, fun _ _ => rfl, rfl, fun _ _ => ⟨rfl, rfl, rfl⟩⟩
  · rw [if_neg g1, if_neg (show ¬ a1 ≤ 6 from g2), show f_X7_in a1 1 6 = some 0 from g3]
    exact ⟨_, _, rfl, rfl, rfl, rfl, rfl, U, fun _ _ => rfl, rfl, fun _ _ => ⟨rfl, rfl, rfl⟩⟩
  rw [if_neg g1, if_pos (show nI j ≤ 6 from g2), show f_X7_in (nI j) 1 6 = some 1 from g3, Option.bind_some, if_neg n10, f_colourAt (by omega) (by decide) (by omega), f_atOf (by omega) (by omega), e1, e2, Option.bind_some, Option.bind_some]
  rcases Co_cs (bA L) (wA L) k with ⟨c0, -⟩ | ⟨c1, c2⟩
  · rw [c0]
    exact ⟨_, _, rfl, rfl, rfl, rfl, rfl, U, fun _ _ => rfl, rfl, fun _ _ => ⟨rfl, rfl, rfl⟩⟩
  have cne : ¬ Co (bA L) (wA L) k = 0 := by rcases c1 with e | e <;> rw [e] <;> decide
  rw [if_neg cne, if_neg cne]
  -- the class
  obtain ⟨dec', x', y', b2, w2, a2, r1, r2, r3, r4⟩ := cls_taken (at' := Co (bA L) (wA L) k) (lw := lw) G ho hlw hk j 8 L bA wA bl wh ac bT wT (-1) 0 (by omega) (by omega) U B (by omega)
  have hread : f_X1_read 127 f1 f2 f3 gd.1 (nI (w * h)) gd.2.1 gd.2.2.1 gd.2.2.2 (nI lw) (nI L) op bT wT bl wh ac tm (nI k) (nI j) = some ((TI gd (w * h) lw op (Co (bA L) (wA L) k) k j L bA wA 0).1, nI k, Co (bA L) (wA L) k, dec', nI L, x', y', b2, w2, a2, nI (TI gd (w * h) lw op (Co (bA L) (wA L) k) k j L bA wA 0).2) := by
    unfold f_X1_read
    rw [f_colourAt (by omega) (by decide) (by omega), e1, e2, Option.bind_some]
    have r5 : fz_X1_takenIn 127 (nI k) (Co (bA L) (wA L) k) (-1) gd.1 (nI (w * h)) gd.2.1 gd.2.2.1 gd.2.2.2 (nI lw) (nI L) op bT wT bl wh ac 0 (nI j) = _ := r1
    rw [r5, Option.bind_some]
  rw [hread, Option.bind_some]
  -- the reference
  obtain ⟨fin, t1, t2, t3, t4⟩ := ref_taken (lw := lw) (t := k) (n := j) G N ho c1 hlw hk hj1 hj hL B hm x y tk nx
  rw [t1, Option.bind_some]
  simp only [nm_eq]
  generalize TI gd (w * h) lw op (Co (bA L) (wA L) k) k j L bA wA 0 = R at *
  rcases t4 with ⟨u1, u2⟩ | ⟨u1, u2, u3, u4⟩
  · rw [if_neg (show ¬ R.1 = 1 by rw [u1]; decide), if_neg (show ¬ fin.2.2.2.2.2.1 = 0 by rw [u2]; decide)]
    exact ⟨_, _, rfl, rfl, u1, rfl, rfl, r2, r3, t2.symm, t3⟩
  · rw [if_pos u2]
    rcases u1 with u1 | u1
    · rw [if_neg (show ¬ R.1 = 1 by rw [u1]; decide), if_pos (u3.trans u1), if_pos (u3.trans u1)]
      exact ⟨_, _, rfl, rfl, u1, rfl, rfl, r2, r3, t2.symm, t3⟩
    · have nz : ¬ fin.1 = 0 := by rw [u3, u1]; decide
      rw [if_pos u1, f_mover op (by omega), Option.bind_some, if_neg nz, if_neg (nI_in (show L < 130 by omega) (by decide)), nI_clamp (by omega), (t3 L (Nat.le_refl _)).2.2, hm L (Nat.le_refl _)]
      by_cases z : Mv op L = Co (bA L) (wA L) k
      · rw [if_pos z, if_pos z.symm, if_neg nz]
        exact ⟨_, _, rfl, rfl, u1, rfl, rfl, r2, r3, t2.symm, t3⟩
      · obtain ⟨j', rfl⟩ : ∃ j', j = j' + 1 := ⟨j - 1, by omega⟩
        have hU : Un1 op (Co (bA L) (wA L) k) L = 0 := if_neg z
        have hne : ¬ R.1 = Un1 op (Co (bA L) (wA L) k) L := by rw [u1, hU]; decide
        have d1 := r4 j' rfl hne
        have d2 := u4 j' rfl hne
        rw [if_neg z, if_neg (fun q => z q.symm), if_neg (show ¬ ((0 : Int32) < 0 ∨ 7 ≤ (0 : Int32).toNatClampNeg) by decide), if_neg nz]
        refine ⟨_, _, rfl, rfl, u1, ?_, rfl, r2, r3, t2.symm, t3⟩
        show dec' = fin.2.2.2.2.2.2.2.2.2 (0 : Int32).toNatClampNeg - 1
        rw [show (0 : Int32).toNatClampNeg = 0 from rfl, d2, nI_pred, d1]
end FU
