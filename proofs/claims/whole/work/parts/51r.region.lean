section QR
variable {w h : Nat} {gd : Gd} {mw mh : Int32} {nb : Nat → Int64} {L : Nat} {bl wh bA wA : Nat → Int64}
theorem q_region (G : GdOK w h gd) (N : NbOK w h mw mh nb) (hL : L ≤ 120) (hb : bl L = bA L) (hw : wh L = wA L) (B : Bd gd (w * h) (bA L) (wA L)) (a0 a1 a2 : Int32) : ∃ q, f_X6_region 127 gd.1 (nI (w * h)) gd.2.1 gd.2.2.1 gd.2.2.2 (nI L) bl wh a0 a1 a2 = some q ∧ f_X7_region mw mh (nI L) nb bA wA a0 a1 a2 = some q := by
  have hn := n_lt G
  unfold f_X6_region f_X7_region
  rcases col_cs a0 with ⟨-, -, h1, h2⟩ | ⟨-, h1, h2⟩
  · rw [h1, h2]
    exact ⟨-2, rfl, rfl⟩
  rw [h1, h2, Option.bind_some, Option.bind_some, if_neg n10, if_neg n10]
  rcases ix_cs G N a1 with ⟨-, h1, h2⟩ | ⟨k, hk, rfl, h1, h2⟩
  · rw [h1, h2]
    exact ⟨-2, rfl, rfl⟩
  rw [h1, h2, Option.bind_some, Option.bind_some, if_neg n10, if_neg n10]
  rcases in_cs a2 4 (by decide) with ⟨g1, g2⟩ | ⟨g1, g2, -, g3⟩ | ⟨j, hj, rfl, g1, g2, -, g3⟩
  · rw [if_pos g1, show f_X7_in a2 0 4 = some 0 from g2]
    exact ⟨-2, rfl, rfl⟩
  · rw [if_neg g1, if_neg (show ¬ a2 ≤ 4 from g2), show f_X7_in a2 0 4 = some 0 from g3]
    exact ⟨-2, rfl, rfl⟩
  rw [if_neg g1, if_pos (show nI j ≤ 4 from g2), show f_X7_in (nI j) 0 4 = some 1 from g3, Option.bind_some, if_neg n10, f_colourAt (by omega) (by decide) (by omega), f_atOf (by omega) (by omega), hb, hw, Option.bind_some, Option.bind_some]
  by_cases hc : Co (bA L) (wA L) k = a0
  · rw [if_pos hc, if_pos hc]
    exact ⟨-3, rfl, rfl⟩
  have hS := Bd_own B a0
  have hR := all_sb G (Ow a0 (bA L) (wA L) ^^^ (-1))
  have hfr4 : f_X4_free 127 (nI L) gd.2.1 bl wh = some (Fr gd (bA L) (wA L)) := by rw [f_free4 (by omega) (by decide), hb, hw]
  rw [if_neg hc, if_neg hc, f_stonesOf (by omega) (by decide), hb, hw, Option.bind_some, f_spread (Sb49 G hR), Option.bind_some, f_all7 G N, Option.bind_some, f_stones7 (by omega), Option.bind_some, f_spread7 G N hR, Option.bind_some]
  have hr : Sb (Sp gd (jshl 1 (nI k)) (gd.2.1 &&& (Ow a0 (bA L) (wA L) ^^^ (-1)))) (w * h) := Sp_sb hR
  generalize Sp gd (jshl 1 (nI k)) (gd.2.1 &&& (Ow a0 (bA L) (wA L) ^^^ (-1))) = r at *
  have hj5 : j = 0 ∨ j = 1 ∨ j = 2 ∨ j = 3 ∨ j = 4 := by omega
  rcases hj5 with rfl | rfl | rfl | rfl | rfl
  · rw [if_pos (show nI 0 = 0 by decide), f_bc, if_neg (show ¬ (2 : Int32) ≤ nI 0 by decide)]
    simp only [nm_eq]
    rw [if_pos (show nI 0 = 0 by decide), f_many]
    exact ⟨_, rfl, rfl⟩
  · rw [if_neg (show ¬ nI 1 = 0 by decide), if_pos (show nI 1 = 1 by decide), hfr4, Option.bind_some, f_bc, if_neg (show ¬ (2 : Int32) ≤ nI 1 by decide)]
    simp only [nm_eq]
    rw [if_neg (show ¬ nI 1 = 0 by decide), if_neg (nI_in (show L < 130 by omega) (by decide)), if_neg (nI_in (show L < 130 by omega) (by decide)), nI_clamp (by omega), f_free7 G N]
    simp only [Option.bind_some, f_many]
    exact ⟨_, rfl, rfl⟩
  · rw [if_neg (show ¬ nI 2 = 0 by decide), if_neg (show ¬ nI 2 = 1 by decide), if_pos (show nI 2 = 2 by decide), f_groupsTouched G hS, if_pos (show (2 : Int32) ≤ nI 2 by decide), if_neg (show ¬ nI 2 = 4 by decide), f_around G N hr, Option.bind_some, Option.bind_some]
    simp only [nm_eq, Option.bind_some]
    have e := lp_region7 (bl := bA) (wh := wA) (L := L) G N (by omega) a0 (nI 2) r hS FU (Bs gd r &&& Ow a0 (bA L) (wA L)) 0 (by have := pc_le (Bs gd r &&& Ow a0 (bA L) (wA L)); have := FU_ge; omega) (Le.andR _ _)
    rw [nI_0, Nat.zero_add] at e
    have e2 : (fun x => if nI 2 = 2 then 1 else Vt gd r x (Fr gd (bA L) (wA L))) = fun _ => 1 := funext (fun x => if_pos (by decide))
    rw [e2] at e
    rw [e, rg_2 G hS]
    exact ⟨_, rfl, rfl⟩
  · rw [if_neg (show ¬ nI 3 = 0 by decide), if_neg (show ¬ nI 3 = 1 by decide), if_neg (show ¬ nI 3 = 2 by decide), if_pos (show nI 3 = 3 by decide), hfr4, Option.bind_some, f_vitalTo G hS, if_pos (show (2 : Int32) ≤ nI 3 by decide), if_neg (show ¬ nI 3 = 4 by decide), f_around G N hr, Option.bind_some, Option.bind_some]
    simp only [nm_eq, Option.bind_some]
    have e := lp_region7 (bl := bA) (wh := wA) (L := L) G N (by omega) a0 (nI 3) r hS FU (Bs gd r &&& Ow a0 (bA L) (wA L)) 0 (by have := pc_le (Bs gd r &&& Ow a0 (bA L) (wA L)); have := FU_ge; omega) (Le.andR _ _)
    rw [nI_0, Nat.zero_add] at e
    have e2 : (fun x => if nI 3 = 2 then 1 else Vt gd r x (Fr gd (bA L) (wA L))) = fun x => Vt gd r x (Fr gd (bA L) (wA L)) := funext (fun x => if_neg (by decide))
    rw [e2] at e
    rw [e, rg_3 G hS hr]
    exact ⟨_, rfl, rfl⟩
  · rw [if_neg (show ¬ nI 4 = 0 by decide), if_neg (show ¬ nI 4 = 1 by decide), if_neg (show ¬ nI 4 = 2 by decide), if_neg (show ¬ nI 4 = 3 by decide), if_pos (show (2 : Int32) ≤ nI 4 by decide), if_pos (show nI 4 = 4 by decide)]
    rcases f_low G hr with ⟨t, -, -, -, e1, e2⟩ | ⟨-, e1, e2⟩
    · rw [e1, e2]; exact ⟨_, rfl, rfl⟩
    · rw [e1, e2]; exact ⟨_, rfl, rfl⟩
end QR
