/-! what both tell of the board -/
theorem n10 : ¬ (1 : Int32) = 0 := by decide
section QU
variable {w h : Nat} {gd : Gd} {mw mh : Int32} {nb : Nat → Int64} {L : Nat} {bl wh bA wA : Nat → Int64}
theorem q_at (G : GdOK w h gd) (N : NbOK w h mw mh nb) (hL : L ≤ 120) (hb : bl L = bA L) (hw : wh L = wA L) (a : Int32) : ∃ q, f_X6_at 127 (nI (w * h)) (nI L) bl wh a = some q ∧ f_X7_at mw mh (nI L) bA wA a = some q := by
  have hn := n_lt G
  unfold f_X6_at f_X7_at
  rcases ix_cs G N a with ⟨-, h1, h2⟩ | ⟨k, hk, rfl, h1, h2⟩
  · rw [h1, h2]
    exact ⟨-2, rfl, rfl⟩
  · rw [h1, h2, f_colourAt (by omega) (by decide) (by omega), f_atOf (by omega) (by omega), hb, hw]
    exact ⟨_, rfl, rfl⟩
theorem Co_cs (b v : Int64) (k : Nat) : (Co b v k = 0 ∧ ¬ Oc b v k) ∨ ((Co b v k = 1 ∨ Co b v k = 2) ∧ mm (Ow (Co b v k) b v) k = true) := by
  unfold Co Oc
  cases e : mm b k
  · cases e2 : mm v k
    · exact Or.inl ⟨rfl, by simp⟩
    · exact Or.inr ⟨Or.inr rfl, by rw [if_neg (by decide), if_pos rfl, Ow_2]; exact e2⟩
  · exact Or.inr ⟨Or.inl rfl, by rw [if_pos rfl, Ow_1]; exact e⟩
theorem Bd_own {n : Nat} {b v : Int64} (B : Bd gd n b v) (c : Int32) : Sb (Ow c b v) n := by
  unfold Ow
  split
  · exact B.1
  · exact B.2.1
theorem all_sb (G : GdOK w h gd) (x : Int64) : Sb (gd.2.1 &&& x) (w * h) := Sb.and (fun k hk => by rw [mm_all G] at hk; exact of_decide_eq_true hk)
theorem vt_0 (G : GdOK w h gd) {S grp fr : Int64} (hS : Sb S (w * h)) : fb_sm (fun k => Vt gd (Pf gd S k) grp fr) (w * h) = fb_sm (fun k => Vl gd grp fr 0 (Pf gd S k)) (w * h) := by
  apply fb_sm_cong
  intro k _
  unfold Vl
  rw [if_pos (and0.mpr (fun j _ => mm_0 j))]
  rcases Vt01 (gd := gd) (Pf gd S k) grp fr with z | z <;> rw [z] <;> rfl
theorem q_group (G : GdOK w h gd) (N : NbOK w h mw mh nb) (hL : L ≤ 120) (hb : bl L = bA L) (hw : wh L = wA L) (B : Bd gd (w * h) (bA L) (wA L)) (a0 a1 : Int32) : ∃ q, f_X6_group 127 gd.1 (nI (w * h)) gd.2.1 gd.2.2.1 gd.2.2.2 (nI L) bl wh a0 a1 = some q ∧ f_X7_group mw mh (nI L) nb bA wA a0 a1 = some q := by
  have hn := n_lt G
  unfold f_X6_group f_X7_group
  rcases ix_cs G N a0 with ⟨-, h1, h2⟩ | ⟨k, hk, rfl, h1, h2⟩
  · rw [h1, h2]
    exact ⟨-2, rfl, rfl⟩
  · rw [h1, h2, Option.bind_some, Option.bind_some, if_neg n10, if_neg n10]
    rcases in_cs a1 4 (by decide) with ⟨g1, g2⟩ | ⟨g1, g2, -, g3⟩ | ⟨j, hj, rfl, g1, g2, -, g3⟩
    · rw [if_pos g1, show f_X7_in a1 0 4 = some 0 from g2]
      exact ⟨-2, rfl, rfl⟩
    · rw [if_neg g1, if_neg (show ¬ a1 ≤ 4 from g2), show f_X7_in a1 0 4 = some 0 from g3]
      exact ⟨-2, rfl, rfl⟩
    · rw [if_neg g1, if_pos (show nI j ≤ 4 from g2), show f_X7_in (nI j) 0 4 = some 1 from g3, Option.bind_some, if_neg n10, f_colourAt (by omega) (by decide) (by omega), f_atOf (by omega) (by omega), hb, hw, Option.bind_some, Option.bind_some]
      rcases Co_cs (bA L) (wA L) k with ⟨c0, -⟩ | ⟨c1, c2⟩
      · rw [c0]
        exact ⟨-3, rfl, rfl⟩
      · have cne : ¬ Co (bA L) (wA L) k = 0 := by rcases c1 with e | e <;> rw [e] <;> decide
        have hS := Bd_own B (Co (bA L) (wA L) k)
        have hgr : f_X7_groupAt mw mh (nI L) nb bA wA (nI k) = some (Cm gd (Ow (Co (bA L) (wA L) k) (bA L) (wA L)) k) := by
          unfold f_X7_groupAt
          rw [f_atOf (by omega) (by omega), Option.bind_some, f_stones7 (by omega), Option.bind_some, f_spread7 G N hS]; rfl
        rw [if_neg cne, if_neg cne, f_stonesOf (by omega) (by decide), hb, hw, Option.bind_some, f_spread (Sb49 G hS), Option.bind_some, hgr, Option.bind_some]
        show ∃ q, _ = some q ∧ _
        have hcs : Sb (Cm gd (Ow (Co (bA L) (wA L) k) (bA L) (wA L)) k) (w * h) := (Cm_in _ k).sb hS
        rw [show Sp gd (jshl 1 (nI k)) (Ow (Co (bA L) (wA L) k) (bA L) (wA L)) = Cm gd (Ow (Co (bA L) (wA L) k) (bA L) (wA L)) k from rfl]
        have hfr4 : f_X4_free 127 (nI L) gd.2.1 bl wh = some (Fr gd (bA L) (wA L)) := by rw [f_free4 (by omega) (by decide), hb, hw]
        have hj5 : j = 0 ∨ j = 1 ∨ j = 2 ∨ j = 3 ∨ j = 4 := by omega
        rcases hj5 with rfl | rfl | rfl | rfl | rfl
        · rw [if_pos (show nI 0 = 0 by decide), if_pos (show nI 0 = 0 by decide), f_bc, f_many]
          exact ⟨_, rfl, rfl⟩
        · rw [if_neg (show ¬ nI 1 = 0 by decide), if_neg (show ¬ nI 1 = 0 by decide), if_pos (show nI 1 = 1 by decide), if_pos (show nI 1 = 1 by decide), f_beside, Option.bind_some, hfr4, Option.bind_some, f_bc, f_breaths7 G N (by omega) hcs]
          simp only [Option.bind_some, f_many]
          exact ⟨_, rfl, rfl⟩
        · rw [if_neg (show ¬ nI 2 = 0 by decide), if_neg (show ¬ nI 2 = 0 by decide), if_neg (show ¬ nI 2 = 1 by decide), if_neg (show ¬ nI 2 = 1 by decide), if_pos (show nI 2 = 2 by decide), if_pos (show nI 2 = 2 by decide)]
          rcases f_low G hcs with ⟨t, -, -, -, e1, e2⟩ | ⟨-, e1, e2⟩
          · rw [e1, e2]; exact ⟨_, rfl, rfl⟩
          · rw [e1, e2]; exact ⟨_, rfl, rfl⟩
        · rw [if_neg (show ¬ nI 3 = 0 by decide), if_neg (show ¬ nI 3 = 0 by decide), if_neg (show ¬ nI 3 = 1 by decide), if_neg (show ¬ nI 3 = 1 by decide), if_neg (show ¬ nI 3 = 2 by decide), if_neg (show ¬ nI 3 = 2 by decide), if_pos (show nI 3 = 3 by decide), if_pos (show nI 3 = 3 by decide), hfr4, Option.bind_some, f_vitalRegions G (all_sb G _), f_vital7 G N (by omega) _ hcs, vt_0 G (all_sb G _)]
          exact ⟨_, rfl, rfl⟩
        · rw [if_neg (show ¬ nI 4 = 0 by decide), if_neg (show ¬ nI 4 = 0 by decide), if_neg (show ¬ nI 4 = 1 by decide), if_neg (show ¬ nI 4 = 1 by decide), if_neg (show ¬ nI 4 = 2 by decide), if_neg (show ¬ nI 4 = 2 by decide), if_neg (show ¬ nI 4 = 3 by decide), if_neg (show ¬ nI 4 = 3 by decide), hfr4, Option.bind_some]
          obtain ⟨s, s1, s2⟩ := f_stand (bl := bA) (wh := wA) (L := L) G N (by omega) (Co (bA L) (wA L) k) hS
          rw [s1, s2, Option.bind_some, Option.bind_some, and_cm]
          by_cases z : s &&& Cm gd (Ow (Co (bA L) (wA L) k) (bA L) (wA L)) k = 0
          · rw [if_pos z]; exact ⟨_, rfl, rfl⟩
          · rw [if_neg z]; exact ⟨_, rfl, rfl⟩
theorem q_breath (G : GdOK w h gd) (N : NbOK w h mw mh nb) (hL : L ≤ 120) (hb : bl L = bA L) (hw : wh L = wA L) (B : Bd gd (w * h) (bA L) (wA L)) (a0 a1 : Int32) : ∃ q, f_X6_breath 127 gd.1 (nI (w * h)) gd.2.1 gd.2.2.1 gd.2.2.2 (nI L) bl wh a0 a1 = some q ∧ f_X7_breath mw mh (nI L) nb bA wA a0 a1 = some q := by
  have hn := n_lt G
  unfold f_X6_breath f_X7_breath
  rcases ix_cs G N a0 with ⟨-, h1, h2⟩ | ⟨k, hk, rfl, h1, h2⟩
  · rw [h1, h2]
    exact ⟨-2, rfl, rfl⟩
  · rw [h1, h2, Option.bind_some, Option.bind_some, if_neg n10, if_neg n10, f_colourAt (by omega) (by decide) (by omega), f_atOf (by omega) (by omega), hb, hw, Option.bind_some, Option.bind_some]
    rcases Co_cs (bA L) (wA L) k with ⟨c0, -⟩ | ⟨c1, c2⟩
    · rw [c0]
      exact ⟨-3, rfl, rfl⟩
    · have cne : ¬ Co (bA L) (wA L) k = 0 := by rcases c1 with e | e <;> rw [e] <;> decide
      have hS := Bd_own B (Co (bA L) (wA L) k)
      have hgr : f_X7_groupAt mw mh (nI L) nb bA wA (nI k) = some (Cm gd (Ow (Co (bA L) (wA L) k) (bA L) (wA L)) k) := by
        unfold f_X7_groupAt
        rw [f_atOf (by omega) (by omega), Option.bind_some, f_stones7 (by omega), Option.bind_some, f_spread7 G N hS]; rfl
      have hcs : Sb (Cm gd (Ow (Co (bA L) (wA L) k) (bA L) (wA L)) k) (w * h) := (Cm_in _ k).sb hS
      have hfr4 : f_X4_free 127 (nI L) gd.2.1 bl wh = some (Fr gd (bA L) (wA L)) := by rw [f_free4 (by omega) (by decide), hb, hw]
      rw [if_neg cne, if_neg cne, f_stonesOf (by omega) (by decide), hb, hw, Option.bind_some, f_spread (Sb49 G hS), Option.bind_some, hgr, Option.bind_some, f_beside, Option.bind_some, hfr4, Option.bind_some, f_breaths7 G N (by omega) hcs, Option.bind_some, f_many, Option.bind_some]
      rw [show Sp gd (jshl 1 (nI k)) (Ow (Co (bA L) (wA L) k) (bA L) (wA L)) = Cm gd (Ow (Co (bA L) (wA L) k) (bA L) (wA L)) k from rfl]
      have hbs : Sb (Bs gd (Cm gd (Ow (Co (bA L) (wA L) k) (bA L) (wA L)) k) &&& Fr gd (bA L) (wA L)) (w * h) := Sb.and2 (Fr_sb G _ _)
      obtain ⟨r, r1, r2⟩ := f_nth_eq G hbs a1
      rw [r1, Option.bind_some]
      refine ⟨r, rfl, ?_⟩
      rcases r2 with ⟨e1, e2⟩ | ⟨e1, t, e2, e3⟩
      · rw [e1, Option.bind_some, if_pos rfl, e2]
      · rw [e1, Option.bind_some, if_neg (by decide), e2, Option.bind_some]
        exact e3
theorem q_standing (G : GdOK w h gd) (N : NbOK w h mw mh nb) (hL : L ≤ 120) (hb : bl L = bA L) (hw : wh L = wA L) (B : Bd gd (w * h) (bA L) (wA L)) (a0 : Int32) : ∃ q, f_X6_standing 127 gd.1 (nI (w * h)) gd.2.1 gd.2.2.1 gd.2.2.2 (nI L) bl wh a0 = some q ∧ f_X7_standing mw mh (nI L) nb bA wA a0 = some q := by
  unfold f_X6_standing f_X7_standing
  rcases col_cs a0 with ⟨-, -, h1, h2⟩ | ⟨-, h1, h2⟩
  · rw [h1, h2]
    exact ⟨-2, rfl, rfl⟩
  · have hfr4 : f_X4_free 127 (nI L) gd.2.1 bl wh = some (Fr gd (bA L) (wA L)) := by rw [f_free4 (by omega) (by decide), hb, hw]
    obtain ⟨s, s1, s2⟩ := f_stand (bl := bA) (wh := wA) (L := L) G N (by omega) a0 (Bd_own B a0)
    rw [h1, h2, Option.bind_some, Option.bind_some, if_neg n10, if_neg n10, f_stonesOf (by omega) (by decide), hb, hw, Option.bind_some, hfr4, Option.bind_some, s1, s2, Option.bind_some, Option.bind_some, f_bc, f_many]
    exact ⟨_, rfl, rfl⟩
end QU
