/-! both chases tell the same -/
theorem Ct_mono : ∀ (k m : Nat), Ct m ≤ Ct (m + k)
  | 0, m => Nat.le_refl _
  | k + 1, m => by
    have h := Ct_mono k m
    show Ct m ≤ 2 * (2 + 51 * (1 + Ct (m + k))) + 1
    omega
theorem Ct_20 : Ct 20 + 1 ≤ FU := Nat.le_of_ble_eq_true rfl
theorem in1_cs (x : Int32) (m : Nat) (h1 : 1 ≤ m) (hm : m < 2 ^ 31) : (x < 1 ∧ f_X7_in x 1 (nI m) = some 0) ∨ (¬ x < 1 ∧ ¬ x ≤ nI m ∧ f_X7_in x 1 (nI m) = some 0) ∨ ∃ j, 1 ≤ j ∧ j ≤ m ∧ x = nI j ∧ ¬ x < 1 ∧ x ≤ nI m ∧ f_X7_in x 1 (nI m) = some 1 := by
  unfold f_X7_in
  by_cases h0 : x < 1
  · exact Or.inl ⟨h0, if_pos h0⟩
  · have h2 : ¬ x < 0 := fun q => h0 (Int32.lt_trans q (by decide))
    obtain ⟨j, hj, rfl⟩ := nI_of h2
    have h3 : 1 ≤ j := by
      rcases Nat.eq_zero_or_pos j with z | z
      · subst z; exact absurd (by decide) h0
      · exact z
    rcases Nat.lt_or_ge m j with g | g
    · exact Or.inr (Or.inl ⟨h0, nI_ge g hj, by rw [if_neg h0, if_pos (nI_lt g hj)]⟩)
    · exact Or.inr (Or.inr ⟨j, h3, g, rfl, h0, nI_le g hm, by rw [if_neg h0, if_neg (nI_nlt g hm)]⟩)
section CR
variable {w h : Nat} {gd : Gd} {mw mh : Int32} {nb : Nat → Int64} {L : Nat} {bl wh bA wA : Nat → Int64}
theorem f_begin {N0 : Nat} (h0 : 0 < N0) (hN : N0 < 2 ^ 31) (rl rt ro : Int32) (b v : Int64) (tm lw : Int32) : f_X4_begin N0 rl rt ro bl wh b v tm lw = some (lw, 0, tm, vp_updL bl 0 b, vp_updL wh 0 v) := by
  unfold f_X4_begin
  have := f_keep (bl := bl) (wh := wh) h0 hN b v
  rw [nI_0] at this
  rw [this]; rfl
theorem ref_caught (G : GdOK w h gd) (N : NbOK w h mw mh nb) {cc : Int32} (hc : cc = 1 ∨ cc = 2) {t n : Nat} (hn20 : n ≤ 20) (hL : L < 130) (B : Bd gd (w * h) (bA L) (wA L)) (x y : Int64) (tk : Int32) (A : Ar) : ∃ fin : Fn, f_X7_isCaught mw mh (nI L) x y tk 0 0 nb bA wA A.1 A.2.1 A.2.2.1 A.2.2.2.1 A.2.2.2.2.1 A.2.2.2.2.2.1 A.2.2.2.2.2.2.1 A.2.2.2.2.2.2.2.1 A.2.2.2.2.2.2.2.2.1 A.2.2.2.2.2.2.2.2.2.1 A.2.2.2.2.2.2.2.2.2.2 cc (nI t) (nI n) = some fin ∧ fin.2.2.2.2.1 = nI (CI gd (w * h) t cc n (bA L) (wA L) none 0).2 ∧ (((CI gd (w * h) t cc n (bA L) (wA L) none 0).1 = -5 ∧ fin.2.2.2.2.2.1 = 1) ∨ (((CI gd (w * h) t cc n (bA L) (wA L) none 0).1 = 0 ∨ (CI gd (w * h) t cc n (bA L) (wA L) none 0).1 = 1) ∧ fin.2.2.2.2.2.1 = 0 ∧ fin.1 = (CI gd (w * h) t cc n (bA L) (wA L) none 0).1)) := by
  obtain ⟨cB, cW, aB, aW, hA, bL, lB, lW, aL, fA, an⟩ := A
  dsimp only
  have nb0 : vp_nar .boolean (0 : Int32) = 0 := by decide
  have hz : (0 : Int32).toNatClampNeg = 0 := rfl
  have r := sim_main (t := t) (n := n) G N hc hn20 n 0 (vp_updL cB 0 (bA L), vp_updL cW 0 (wA L), aB, aW, upd hA 0 0, vp_updL bL 0 (Br gd t cc (bA L) (wA L)), lB, lW, aL, fA, upd an 0 0) 0 x y tk 0 none (by omega) (by dsimp only; rw [pk_uLs, pk_uLs]; exact B) (by dsimp only; rw [pk_us]; exact Or.inl ⟨rfl, rfl⟩) (by dsimp only; rw [pk_uLs, pk_uLs, pk_uLs]) (by dsimp only; rw [pk_us]) (by omega)
  dsimp only at r
  rw [pk_uLs, pk_uLs] at r
  have e : f_X7_isCaught mw mh (nI L) x y tk 0 0 nb bA wA cB cW aB aW hA bL lB lW aL fA an cc (nI t) (nI n) = LC mw mh nb cc (nI t) (nI n) FU (nI 0) 1 0 x y tk (nI 0) 0 (vp_updL cB 0 (bA L), vp_updL cW 0 (wA L), aB, aW, upd hA 0 0, vp_updL bL 0 (Br gd t cc (bA L) (wA L)), lB, lW, aL, fA, upd an 0 0) := by
    unfold f_X7_isCaught LC
    have hcm := f_comes (cc := cc) (t := t) (d := 0) G N (by decide) B cB cW bL an
    rw [nI_0] at hcm
    rw [if_neg (by decide), if_neg (nI_in hL (by decide)), if_neg (nI_in hL (by decide)), nI_clamp (by omega), hcm, Option.bind_some, nb0, hz, nI_0]
  rw [e]
  generalize CI gd (w * h) t cc n (bA L) (wA L) none 0 = R at *
  obtain ⟨c, ⟨c0, c1⟩, c2⟩ := r
  have hC : c + 1 ≤ FU := by
    have h1 := Ct_mono (20 - n) n
    rw [show n + (20 - n) = 20 by omega] at h1
    have := Ct_20
    omega
  obtain ⟨F, hF⟩ : ∃ F, FU = F + 1 + c := ⟨FU - c - 1, by omega⟩
  rw [hF]
  rcases c2 with ⟨u1, fin, u2, u3, u4⟩ | ⟨u1, x3, y3, t3, A3, u2, u3⟩
  · exact ⟨fin, u2 (F + 1), u3, Or.inl ⟨u1, u4⟩⟩
  · refine ⟨(R.1, x3, y3, t3, nI R.2, 0, A3), ?_, rfl, Or.inr ⟨u1, rfl, rfl⟩⟩
    refine (u3 (F + 1)).trans ?_
    unfold LC
    rw [lp_X7_isCaught_41, if_pos (by decide), if_neg (fun z => z u1)]
theorem q_chase (G : GdOK w h gd) (N : NbOK w h mw mh nb) (hL : L ≤ 120) (hb : bl L = bA L) (hw : wh L = wA L) (B : Bd gd (w * h) (bA L) (wA L)) (tm : Int32) (ct cd hl hla ho : Int32) (hbT hwT : Int64) (hbl hwh : Nat → Int64) (hac : Nat → Int32) (x y : Int64) (tk sp : Int32) (A : Ar) (a0 a1 : Int32) : ∃ q6 q7, f_X6_chase 127 41 gd.1 (nI (w * h)) gd.2.1 gd.2.2.1 gd.2.2.2 (nI L) bl wh tm ct cd hl hla ho hbT hwT hbl hwh hac a0 a1 = some q6 ∧ f_X7_chase mw mh (nI L) x y tk tm sp nb bA wA A.1 A.2.1 A.2.2.1 A.2.2.2.1 A.2.2.2.2.1 A.2.2.2.2.2.1 A.2.2.2.2.2.2.1 A.2.2.2.2.2.2.2.1 A.2.2.2.2.2.2.2.2.1 A.2.2.2.2.2.2.2.2.2.1 A.2.2.2.2.2.2.2.2.2.2 a0 a1 = some q7 ∧ q6.1 = q7.1 ∧ q6.2.1 = q7.2.2.2.2.1 := by
  have hn := n_lt G
  unfold f_X6_chase f_X7_chase
  rcases ix_cs G N a0 with ⟨-, h1, h2⟩ | ⟨k, hk, rfl, h1, h2⟩
  · rw [h1, h2]
    exact ⟨_, _, rfl, rfl, rfl, rfl⟩
  rw [h1, h2, Option.bind_some, Option.bind_some, if_neg n10, if_neg n10]
  rcases in1_cs a1 20 (by decide) (by decide) with ⟨g1, g2⟩ | ⟨g1, g2, g3⟩ | ⟨j, hj1, hj, rfl, g1, g2, g3⟩
  · rw [if_pos g1, show f_X7_in a1 1 20 = some 0 from g2]
    exact ⟨_, _, rfl, rfl, rfl, rfl⟩
  · rw [if_neg g1, if_neg (show ¬ a1 ≤ 20 from g2), show f_X7_in a1 1 20 = some 0 from g3]
    exact ⟨_, _, rfl, rfl, rfl, rfl⟩
  rw [if_neg g1, if_pos (show nI j ≤ 20 from g2), show f_X7_in (nI j) 1 20 = some 1 from g3, Option.bind_some, if_neg n10, f_colourAt (by omega) (by decide) (by omega), f_atOf (by omega) (by omega), hb, hw, Option.bind_some, Option.bind_some]
  rcases Co_cs (bA L) (wA L) k with ⟨c0, -⟩ | ⟨c1, c2⟩
  · rw [c0]
    exact ⟨_, _, rfl, rfl, rfl, rfl⟩
  have cne : ¬ Co (bA L) (wA L) k = 0 := by rcases c1 with e | e <;> rw [e] <;> decide
  have ho3 : 3 - Co (bA L) (wA L) k = 1 ∨ 3 - Co (bA L) (wA L) k = 2 := by rcases c1 with e | e <;> rw [e] <;> decide
  rw [if_neg cne, if_neg cne, Option.bind_some]
  -- the class
  have ux : Up 0 (vp_updL hbl 0 (bA L)) (vp_updL hwh 0 (wA L)) (vp_updL hbl 0 (bA L)) (vp_updL hwh 0 (wA L)) := Up.rf _ _ _
  obtain ⟨x', y', b2, w2, a2, r1, -⟩ := cls_caught G c1 hk j 24 0 (3 - Co (bA L) (wA L) k) (vp_updL hbl 0 (bA L)) (vp_updL hwh 0 (wA L)) (vp_updL hbl 0 (bA L)) (vp_updL hwh 0 (wA L)) hac hbT hwT 0 (by omega) (by omega) ho3 rfl ux (by rw [pk_uLs, pk_uLs]; exact B) (by omega)
  rw [pk_uLs, pk_uLs, show Ah (vp_updL hbl 0 (bA L)) (vp_updL hwh 0 (wA L)) 0 = none from rfl] at r1
  have hread : f_X0_read 41 127 ct cd gd.1 (nI (w * h)) gd.2.1 gd.2.2.1 gd.2.2.2 hl hla ho hbT hwT hbl hwh hac tm (nI L) bl wh (nI k) (nI j) = some ((CI gd (w * h) k (Co (bA L) (wA L) k) j (bA L) (wA L) none 0).1, nI k, Co (bA L) (wA L) k, 0, nI 0, 3 - Co (bA L) (wA L) k, x', y', b2, w2, a2, nI (CI gd (w * h) k (Co (bA L) (wA L) k) j (bA L) (wA L) none 0).2) := by
    unfold f_X0_read
    rw [f_colourAt (by omega) (by decide) (by omega), hb, hw, Option.bind_some, f_stonesOf (by omega) (by decide), Ow_1, hb, Option.bind_some, f_stonesOf (by omega) (by decide), Ow_2, hw, Option.bind_some]
    simp only [f_X6_other, Option.bind_some]
    rw [f_begin (by decide) (by decide), Option.bind_some]
    have r2 : fz_X0_caughtIn 41 (nI k) (Co (bA L) (wA L) k) gd.1 (nI (w * h)) gd.2.1 gd.2.2.1 gd.2.2.2 0 0 (3 - Co (bA L) (wA L) k) hbT hwT (vp_updL hbl 0 (bA L)) (vp_updL hwh 0 (wA L)) hac 0 (nI j) = some ((CI gd (w * h) k (Co (bA L) (wA L) k) j (bA L) (wA L) none 0).1, nI 0, x', y', b2, w2, a2, nI (CI gd (w * h) k (Co (bA L) (wA L) k) j (bA L) (wA L) none 0).2) := r1
    rw [r2, Option.bind_some]
  rw [hread, Option.bind_some]
  -- the reference
  obtain ⟨fin, f1, f2, f3⟩ := ref_caught (t := k) (n := j) G N c1 hj (show L < 130 by omega) B x y tk A
  rw [f1, Option.bind_some, nm_eq]
  rcases f3 with ⟨u1, u2⟩ | ⟨u1, u2, u3⟩
  · rw [if_neg (show ¬ fin.2.2.2.2.2.1 = 0 by rw [u2]; decide)]
    refine ⟨_, _, rfl, rfl, ?_, ?_⟩
    · exact u1
    · exact f2.symm
  · rw [if_pos u2]
    rcases u1 with u1 | u1
    · rw [if_pos (u3.trans u1)]
      exact ⟨_, _, rfl, rfl, u1, f2.symm⟩
    · rw [if_neg (show ¬ fin.1 = 0 by rw [u3, u1]; decide)]
      exact ⟨_, _, rfl, rfl, u1, f2.symm⟩
end CR
