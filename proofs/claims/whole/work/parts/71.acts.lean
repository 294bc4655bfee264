/-! the calls that change the board -/
section AC
variable {w h lw L : Nat} {op : Int32} {gd : Gd} {mw mh : Int32} {nb bl wh bA wA : Nat → Int64} {ac at' mv tB tW : Nat → Int32}
/-- the class's board and the reference's are the same -/
def Cr (w h lw L : Nat) (op : Int32) (gd : Gd) (mw mh : Int32) (nb bl wh bA wA : Nat → Int64) (ac at' mv tB tW : Nat → Int32) : Prop := GdOK w h gd ∧ NbOK w h mw mh nb ∧ lw ≤ 2 ∧ L ≤ 120 ∧ (op = 1 ∨ op = 2) ∧ Up L bA wA bl wh ∧ (∀ i, i ≤ L → Bd gd (w * h) (bA i) (wA i) ∧ mv i = Mv op i) ∧ (∀ i, i < L → ac i = at' i ∧ tB (i + 1) = tB i + Tk 1 bA wA i ∧ tW (i + 1) = tW i + Tk 2 bA wA i) ∧ tB 0 = 0 ∧ tW 0 = 0
theorem Bd_0 (gd : Gd) (n : Nat) : Bd gd n 0 0 := ⟨Sb.zero n, Sb.zero n, fun j _ => mm_0 j, fun x hx => absurd hx (by rw [mm_0]; decide), fun x hx => absurd hx (by rw [mm_0]; decide)⟩
theorem isSide_eq (a : Int32) : f_X6_isSide a = f_X7_in a 2 7 := rfl
theorem side_in (a : Int32) : f_X7_in a 2 7 = some 0 ∨ ∃ j, 2 ≤ j ∧ j ≤ 7 ∧ a = nI j ∧ f_X7_in a 2 7 = some 1 := by
  unfold f_X7_in
  by_cases h0 : a < 2
  · exact Or.inl (if_pos h0)
  · have h2 : ¬ a < 0 := fun q => h0 (Int32.lt_trans q (by decide))
    obtain ⟨j, hj, rfl⟩ := nI_of h2
    have h3 : 2 ≤ j := by
      rcases Nat.lt_or_ge j 2 with z | z
      · exact absurd (show nI j < 2 from nI_lt (b := 2) z (by decide)) h0
      · exact z
    rcases Nat.lt_or_ge 7 j with g | g
    · exact Or.inl (by rw [if_neg h0, if_pos (show (7 : Int32) < nI j from nI_lt (a := 7) g hj)])
    · exact Or.inr ⟨j, h3, g, rfl, by rw [if_neg h0, if_neg (show ¬ (7 : Int32) < nI j from nI_nlt (a := 7) g (by decide))]⟩
theorem q_board (C : Cr w h lw L op gd mw mh nb bl wh bA wA ac at' mv tB tW) (a0 a1 a2 : Int32) : ∃ q6 q7 w' h' lw' L' op' gd', f_X6_board 127 gd.1 (nI h) (nI (w * h)) gd.2.1 gd.2.2.1 gd.2.2.2 (nI lw) (nI L) op bl wh a0 a1 a2 = some q6 ∧ f_X7_board mw mh (nI lw) (nI L) nb bA wA mv tB tW a0 a1 a2 = some q7 ∧ q6.1 = q7.1 ∧ q6.2.1 = gd'.1 ∧ q6.2.2.1 = nI h' ∧ q6.2.2.2.1 = nI (w' * h') ∧ q6.2.2.2.2.1 = gd'.2.1 ∧ q6.2.2.2.2.2.1 = gd'.2.2.1 ∧ q6.2.2.2.2.2.2.1 = gd'.2.2.2 ∧ q6.2.2.2.2.2.2.2.1 = nI lw' ∧ q6.2.2.2.2.2.2.2.2.1 = nI L' ∧ q6.2.2.2.2.2.2.2.2.2.1 = op' ∧ q7.2.2.2.1 = nI lw' ∧ q7.2.2.2.2.1 = nI L' ∧ Cr w' h' lw' L' op' gd' q7.2.1 q7.2.2.1 q7.2.2.2.2.2.1 q6.2.2.2.2.2.2.2.2.2.2.1 q6.2.2.2.2.2.2.2.2.2.2.2 q7.2.2.2.2.2.2.1 q7.2.2.2.2.2.2.2.1 ac at' q7.2.2.2.2.2.2.2.2.1 q7.2.2.2.2.2.2.2.2.2.1 q7.2.2.2.2.2.2.2.2.2.2 := by
  unfold f_X6_board f_X7_board
  rw [isSide_eq, isSide_eq]
  rcases side_in a0 with e0 | ⟨x, x1, x2, rfl, e0⟩
  · rw [e0]
    exact ⟨_, _, w, h, lw, L, op, gd, rfl, rfl, rfl, rfl, rfl, rfl, rfl, rfl, rfl, rfl, rfl, rfl, rfl, rfl, C⟩
  rw [e0, Option.bind_some, Option.bind_some, if_neg n10, if_neg n10]
  rcases side_in a1 with e1 | ⟨y, y1, y2, rfl, e1⟩
  · rw [e1]
    exact ⟨_, _, w, h, lw, L, op, gd, rfl, rfl, rfl, rfl, rfl, rfl, rfl, rfl, rfl, rfl, rfl, rfl, rfl, rfl, C⟩
  rw [e1, Option.bind_some, Option.bind_some, if_neg n10, if_neg n10]
  rcases in_cs a2 2 (by decide) with ⟨g1, g2⟩ | ⟨g1, g2, -, g3⟩ | ⟨j, hj, rfl, g1, g2, -, g3⟩
  · rw [if_pos g1, show f_X7_in a2 0 2 = some 0 from g2]
    exact ⟨_, _, w, h, lw, L, op, gd, rfl, rfl, rfl, rfl, rfl, rfl, rfl, rfl, rfl, rfl, rfl, rfl, rfl, rfl, C⟩
  · rw [if_neg g1, if_neg (show ¬ a2 ≤ 2 from g2), show f_X7_in a2 0 2 = some 0 from g3]
    exact ⟨_, _, w, h, lw, L, op, gd, rfl, rfl, rfl, rfl, rfl, rfl, rfl, rfl, rfl, rfl, rfl, rfl, rfl, rfl, C⟩
  obtain ⟨gd', G', m1⟩ := f_measure x1 x2 y1 y2 gd.1 (nI h) (nI (w * h)) gd.2.1 gd.2.2.1 gd.2.2.2
  obtain ⟨nb', N', l1⟩ := f_lays x1 x2 y1 y2 mw mh (nI lw) (nI L) nb bA wA mv tB tW (nI j)
  rw [if_neg g1, if_pos (show nI j ≤ 2 from g2), show f_X7_in (nI j) 0 2 = some 1 from g3, Option.bind_some, if_neg n10, m1, Option.bind_some, f_begin (by decide) (by decide), Option.bind_some, l1, Option.bind_some]
  refine ⟨_, _, x, y, j, 0, 1, gd', rfl, rfl, rfl, rfl, rfl, rfl, rfl, rfl, rfl, rfl, rfl, rfl, rfl, rfl, G', N', hj, by omega, Or.inl rfl, fun i hi => ?_, fun i hi => ?_, fun i hi => absurd hi (Nat.not_lt_zero i), by dsimp only; rw [pk_us], by dsimp only; rw [pk_us]⟩
  · have : i = 0 := by omega
    subst this
    exact ⟨by dsimp only; rw [pk_uLs, pk_uLs], by dsimp only; rw [pk_uLs, pk_uLs]⟩
  · have : i = 0 := by omega
    subst this
    dsimp only
    rw [pk_uLs, pk_uLs, pk_us]
    exact ⟨Bd_0 gd' _, rfl⟩
theorem lp_set (G : GdOK w h gd) (N : NbOK w h mw mh nb) {b v : Int64} (hb : Sb b (w * h)) (hv : Sb v (w * h)) : ∀ (nF i : Nat), i ≤ w * h → w * h + 1 - i < nF → ∃ r, (∀ K, lp_X7_set_105 mw mh nb b v K nF 1 (nI i) = K r) ∧ Rv r (∀ j, i ≤ j → j < w * h → (mm b j = true → ¬ Bs gd (Cm gd b j) &&& Fr gd b v = 0) ∧ (mm b j = false → mm v j = true → ¬ Bs gd (Cm gd v j) &&& Fr gd b v = 0)) := by
  have hn := n_lt G
  intro nF
  induction nF with
  | zero => intro i h1 h2; omega
  | succ nF ih =>
    intro i h1 h2
    by_cases hi : i = w * h
    · subst hi
      refine ⟨1, fun K => ?_, Rv_1 (fun j a b => by omega)⟩
      rw [lp_X7_set_105, f_size7 N, Option.bind_some, if_pos (nI_le (Nat.le_refl _) (by omega))]
    · have ge := nI_ge (show i < w * h by omega) (show w * h < 2 ^ 31 by omega)
      have bt : ∀ u : Int64, (u &&& jshl 1 (nI i) = 0) ↔ mm u i = false := fun u => by
        rw [and_cm, and0]
        constructor
        · intro q; exact q i (by rw [mm_bit (by omega)]; simp)
        · intro q j hj
          rw [mm_bit (by omega)] at hj
          have := of_decide_eq_true hj
          subst this; exact q
      have stop : ∀ K, lp_X7_set_105 mw mh nb b v K nF 0 (nI (i + 1)) = K 0 := fun K => by
        obtain ⟨k, rfl⟩ : ∃ k, nF = k + 1 := ⟨nF - 1, by omega⟩
        rw [lp_X7_set_105, f_size7 N, Option.bind_some]
        by_cases z : nI (w * h) ≤ nI (i + 1)
        · rw [if_pos z]
        · rw [if_neg z, if_pos rfl]
      obtain ⟨r, r1, r2⟩ := ih (i + 1) (by omega) (by omega)
      have go : ∀ (u : Int64), Sb u (w * h) → mm u i = true → ∀ K, (if u &&& jshl 1 (nI i) = 0 then lp_X7_set_105 mw mh nb b v K nF 1 (nI (i + 1)) else (f_X7_spread mw mh nb (jshl 1 (nI i)) u).bind fun q34 => (f_X7_around mw mh nb q34).bind fun q35 => (f_X7_free mw mh b v).bind fun q36 => if q35 &&& q36 = 0 then lp_X7_set_105 mw mh nb b v K nF 0 (nI (i + 1)) else lp_X7_set_105 mw mh nb b v K nF 1 (nI (i + 1))) = if Bs gd (Cm gd u i) &&& Fr gd b v = 0 then K 0 else K r := fun u hu hui K => by
        rw [if_neg (fun q => by rw [(bt u).mp q] at hui; cases hui), f_spread7 G N hu, Option.bind_some, f_around G N (Sp_sb hu), Option.bind_some, f_free7 G N, Option.bind_some, stop, r1]; rfl
      have lift : ((mm b i = true → ¬ Bs gd (Cm gd b i) &&& Fr gd b v = 0) ∧ (mm b i = false → mm v i = true → ¬ Bs gd (Cm gd v i) &&& Fr gd b v = 0)) → ((∀ j, i + 1 ≤ j → j < w * h → (mm b j = true → ¬ Bs gd (Cm gd b j) &&& Fr gd b v = 0) ∧ (mm b j = false → mm v j = true → ¬ Bs gd (Cm gd v j) &&& Fr gd b v = 0)) ↔ (∀ j, i ≤ j → j < w * h → (mm b j = true → ¬ Bs gd (Cm gd b j) &&& Fr gd b v = 0) ∧ (mm b j = false → mm v j = true → ¬ Bs gd (Cm gd v j) &&& Fr gd b v = 0))) := fun z => by
        constructor
        · intro q j a c
          by_cases e : j = i
          · rw [e]; exact z
          · exact q j (by omega) c
        · intro q j a c; exact q j (by omega) c
      have start : ∀ K, lp_X7_set_105 mw mh nb b v K (nF + 1) 1 (nI i) = if mm b i = true then (if Bs gd (Cm gd b i) &&& Fr gd b v = 0 then K 0 else K r) else if mm v i = true then (if Bs gd (Cm gd v i) &&& Fr gd b v = 0 then K 0 else K r) else K r := fun K => by
        rw [lp_X7_set_105, f_size7 N, Option.bind_some, if_neg ge, if_neg n10]
        simp only [nm_eq]
        rw [nI_1]
        cases e : mm b i
        · rw [if_pos ((bt b).mpr e), if_neg (show ¬ false = true by decide)]
          cases e2 : mm v i
          · rw [if_pos ((bt v).mpr e2), if_neg (show ¬ false = true by decide), r1]
          · rw [if_pos (show true = true from rfl)]
            exact go v hv e2 K
        · rw [if_neg (fun q => by rw [(bt b).mp q] at e; cases e), if_pos rfl]
          exact go b hb e K
      cases e : mm b i
      · cases e2 : mm v i
        · refine ⟨r, fun K => by rw [start K, e, e2, if_neg (by decide), if_neg (by decide)], Rv_iff r2 (lift ⟨fun q => ?_, fun _ q => ?_⟩)⟩
          · rw [e] at q; cases q
          · rw [e2] at q; cases q
        · by_cases z : Bs gd (Cm gd v i) &&& Fr gd b v = 0
          · refine ⟨0, fun K => by rw [start K, e, e2, if_neg (by decide), if_pos rfl, if_pos z], Rv_0 (fun q => (q i (Nat.le_refl _) (by omega)).2 e e2 z)⟩
          · refine ⟨r, fun K => by rw [start K, e, e2, if_neg (by decide), if_pos rfl, if_neg z], Rv_iff r2 (lift ⟨fun q => ?_, fun _ _ => z⟩)⟩
            rw [e] at q; cases q
      · by_cases z : Bs gd (Cm gd b i) &&& Fr gd b v = 0
        · refine ⟨0, fun K => by rw [start K, e, if_pos rfl, if_pos z], Rv_0 (fun q => (q i (Nat.le_refl _) (by omega)).1 e z)⟩
        · refine ⟨r, fun K => by rw [start K, e, if_pos rfl, if_neg z], Rv_iff r2 (lift ⟨fun _ => z, fun q => ?_⟩)⟩
          rw [e] at q; cases q
theorem q_set (C : Cr w h lw L op gd mw mh nb bl wh bA wA ac at' mv tB tW) (a0 a1 a2 : Int32) : ∃ q6 q7 L' op', f_X6_set 127 gd.1 (nI (w * h)) gd.2.1 gd.2.2.1 gd.2.2.2 (nI lw) (nI L) op bl wh a0 a1 a2 = some q6 ∧ f_X7_set mw mh (nI L) nb bA wA mv a0 a1 a2 = some q7 ∧ q6.1 = q7.1 ∧ q6.2.1 = nI lw ∧ q6.2.2.1 = nI L' ∧ q6.2.2.2.1 = op' ∧ nI L = nI L' ∧ Cr w h lw L' op' gd mw mh nb q6.2.2.2.2.1 q6.2.2.2.2.2 q7.2.1 q7.2.2.1 ac at' q7.2.2.2 tB tW := by
  obtain ⟨G, N, hlw, hL, ho, U, hB, hT, b0, w0⟩ := C
  have C : Cr w h lw L op gd mw mh nb bl wh bA wA ac at' mv tB tW := ⟨G, N, hlw, hL, ho, U, hB, hT, b0, w0⟩
  have hn := n_lt G
  have z7 : ¬ ((0 : Int32) < 0 ∨ 130 ≤ (0 : Int32).toNatClampNeg) := by decide
  have z0 : (0 : Int32).toNatClampNeg = 0 := rfl
  have z8 : ¬ ((0 : Int32) < 0 ∨ 130 ≤ 0) := by decide
  unfold f_X6_set f_X7_set
  rcases ix_cs G N a0 with ⟨-, h1, h2⟩ | ⟨k, hk, rfl, h1, h2⟩
  · rw [h1, h2]
    exact ⟨_, _, L, op, rfl, rfl, rfl, rfl, rfl, rfl, rfl, C⟩
  rw [h1, h2, Option.bind_some, Option.bind_some, if_neg n10, if_neg n10]
  rcases in_cs a1 2 (by decide) with ⟨g1, g2⟩ | ⟨g1, g2, g4, g3⟩ | ⟨j, hj, rfl, g1, g2, g4, g3⟩
  · rw [if_pos g1, show f_X7_in a1 0 2 = some 0 from g2]
    exact ⟨_, _, L, op, rfl, rfl, rfl, rfl, rfl, rfl, rfl, C⟩
  · rw [if_neg g1, if_pos (show (2 : Int32) < a1 from g4), show f_X7_in a1 0 2 = some 0 from g3]
    exact ⟨_, _, L, op, rfl, rfl, rfl, rfl, rfl, rfl, rfl, C⟩
  rw [if_neg g1, if_neg (show ¬ (2 : Int32) < nI j from g4), show f_X7_in (nI j) 0 2 = some 1 from g3, Option.bind_some, if_neg n10]
  rcases col_cs a2 with ⟨-, -, c1, c2⟩ | ⟨hc, c1, c2⟩
  · rw [c1, c2]
    exact ⟨_, _, L, op, rfl, rfl, rfl, rfl, rfl, rfl, rfl, C⟩
  rw [c1, c2, Option.bind_some, Option.bind_some, if_neg n10, if_neg n10]
  simp only [nm_ite]
  simp only [nm_eq]
  rw [f_stonesOf (by omega) (by decide), f_stonesOf (by omega) (by decide), Ow_1, Ow_2, Option.bind_some, Option.bind_some, if_neg z7, z0]
  rcases Nat.eq_zero_or_pos L with hz | hz
  · subst hz
    rw [if_neg (show ¬ (0 : Int32) < nI 0 by decide), if_pos nI_0, (U 0 (Nat.le_refl _)).1, (U 0 (Nat.le_refl _)).2]
    have B0 := (hB 0 (Nat.le_refl _)).1
    have hbit : Sb (jshl 1 (nI k)) (w * h) := Sb.bit hk hn
    generalize hxb : (bA 0 &&& (jshl 1 (nI k) ^^^ (-1))) ||| (if nI j = 1 then jshl 1 (nI k) else 0) = xb
    generalize hxw : (wA 0 &&& (jshl 1 (nI k) ^^^ (-1))) ||| (if nI j = 2 then jshl 1 (nI k) else 0) = xw
    have sb : Sb xb (w * h) := by
      rw [← hxb]
      refine Sb.or (Sb.and B0.1) ?_
      split
      · exact hbit
      · exact Sb.zero _
    have sw : Sb xw (w * h) := by
      rw [← hxw]
      refine Sb.or (Sb.and B0.2.1) ?_
      split
      · exact hbit
      · exact Sb.zero _
    have dis : ∀ i, mm xb i = true → mm xw i = false := fun i hi => by
      rw [← hxb, mm_or, mm_an, mm_bit (by omega)] at hi
      rw [← hxw, mm_or, mm_an, mm_bit (by omega)]
      by_cases e : i = k
      · subst e
        rw [decide_eq_true rfl] at hi ⊢
        by_cases q : nI j = 1
        · rw [if_neg (show ¬ nI j = 2 by rw [q]; decide), mm_0]; cases mm (wA 0) i <;> rfl
        · rw [if_neg q, mm_0] at hi
          cases z : mm (bA 0) i <;> rw [z] at hi <;> cases hi
      · have nb : ∀ c : Prop, ∀ _ : Decidable c, mm (if c then jshl 1 (nI k) else 0) i = false := fun c _ => by
          split
          · rw [mm_bit (by omega), decide_eq_false e]
          · exact mm_0 i
        rw [decide_eq_false e, nb, Bool.or_false] at hi
        rw [decide_eq_false e, nb, Bool.or_false]
        have hi : mm (bA 0) i = true := by cases z : mm (bA 0) i; rw [z] at hi; cases hi; rfl
        rw [B0.2.2.1 i hi]; rfl
    have hfr : gd.2.1 &&& ((xb ||| xw) ^^^ (-1)) = Fr gd xb xw := rfl
    rw [hfr]
    obtain ⟨r1, s1, v1⟩ := f_allBreathe (S := xb) (fr := Fr gd xb xw) G sb (Fr_sb G _ _)
    obtain ⟨r2, s2, v2⟩ := f_allBreathe (S := xw) (fr := Fr gd xb xw) G sw (Fr_sb G _ _)
    obtain ⟨r3, s3, v3⟩ := lp_set G N sb sw FU 0 (by omega) (by have := FU_ge; omega)
    have v4 : Rv r3 (Alv gd xb (Fr gd xb xw) ∧ Alv gd xw (Fr gd xb xw)) := Rv_iff v3 (by
      constructor
      · intro q
        exact ⟨fun i hi => (q i (Nat.zero_le _) (sb i hi)).1 hi, fun i hi => (q i (Nat.zero_le _) (sw i hi)).2 (by cases z : mm xb i; rfl; rw [dis i z] at hi; cases hi) hi⟩
      · intro q i _ _
        exact ⟨fun hi => q.1 i hi, fun _ hi => q.2 i hi⟩)
    clear v3
    rw [nI_0] at s3
    rw [s1, Option.bind_some, s2, s3]
    rcases v1 with ⟨rfl, v1⟩ | ⟨rfl, v1⟩
    · rcases v2 with ⟨rfl, v2⟩ | ⟨rfl, v2⟩
      · rcases v4 with ⟨rfl, v4⟩ | ⟨rfl, v4⟩
        · rw [if_neg n10, Option.bind_some, if_neg n10, f_begin (by decide) (by decide), Option.bind_some, if_neg n10, if_neg z8, if_neg z8, if_neg z8, if_neg z8]
          refine ⟨_, _, 0, a2, rfl, rfl, rfl, rfl, rfl, rfl, rfl, G, N, hlw, by omega, hc, fun i hi => ?_, fun i hi => ?_, fun i hi => absurd hi (Nat.not_lt_zero i), b0, w0⟩
          · have : i = 0 := by omega
            subst this
            exact ⟨by dsimp only; rw [pk_uLs, pk_uLs], by dsimp only; rw [pk_uLs, pk_uLs]⟩
          · have : i = 0 := by omega
            subst this
            dsimp only
            rw [pk_uLs, pk_uLs, pk_us]
            exact ⟨⟨sb, sw, dis, v1, v2⟩, rfl⟩
        · exact absurd ⟨v1, v2⟩ v4
      · rcases v4 with ⟨rfl, v4⟩ | ⟨rfl, v4⟩
        · exact absurd v4.2 v2
        · rw [if_neg n10, Option.bind_some, if_pos rfl, if_pos rfl]
          exact ⟨_, _, 0, op, rfl, rfl, rfl, rfl, rfl, rfl, rfl, C⟩
    · rcases v4 with ⟨rfl, v4⟩ | ⟨rfl, v4⟩
      · exact absurd v4.1 v1
      · rw [if_pos rfl, if_pos rfl]
        exact ⟨_, _, 0, op, rfl, rfl, rfl, rfl, rfl, rfl, rfl, C⟩
  · obtain ⟨fu, hfu⟩ := FU_2
    rw [if_pos (show (0 : Int32) < nI L from nI_lt (a := 0) hz (by omega)), if_neg (show ¬ nI L = 0 from nI_ne0 hz (by omega)), hfu, lp_X7_set_105, f_size7 N, Option.bind_some]
    have ge : ¬ nI (w * h) ≤ (0 : Int32) := nI_nle (by have := n_pos G; omega) (by omega)
    rw [if_neg ge, if_pos rfl, if_pos rfl]
    exact ⟨_, _, L, op, rfl, rfl, rfl, rfl, rfl, rfl, rfl, C⟩
end AC
