/-! laying, passing, asking why, taking back -/
section AD
variable {w h lw L : Nat} {op : Int32} {gd : Gd} {mw mh : Int32} {nb bl wh bA wA : Nat → Int64} {ac at' mv tB tW : Nat → Int32}
theorem q_why (C : Cr w h lw L op gd mw mh nb bl wh bA wA ac at' mv tB tW) (bT wT x y : Int64) (tk a0 : Int32) : ∃ q6 q7, f_X6_why 127 gd.1 (nI (w * h)) gd.2.1 gd.2.2.1 gd.2.2.2 (nI lw) (nI L) op bT wT bl wh a0 = some q6 ∧ f_X7_why mw mh (nI lw) (nI L) x y tk nb bA wA mv a0 = some q7 ∧ q6.1 = q7.1 := by
  obtain ⟨G, N, hlw, hL, ho, U, hB, hT, b0, w0⟩ := C
  have e1 := (U L (Nat.le_refl _)).1
  have e2 := (U L (Nat.le_refl _)).2
  unfold f_X6_why f_X7_why
  rcases ix_cs G N a0 with ⟨-, h1, h2⟩ | ⟨k, hk, rfl, h1, h2⟩
  · rw [h1, h2]
    exact ⟨_, _, rfl, rfl, rfl⟩
  rw [h1, h2, Option.bind_some, Option.bind_some, if_neg n10, if_neg n10, if_neg (nI_in (show L < 130 by omega) (by decide)), nI_clamp (by omega), (hB L (Nat.le_refl _)).2]
  obtain ⟨r, x', y', r1, r2, -⟩ := f_reason4 (N0 := 127) (lw := lw) (bl := bl) (wh := wh) G (show L < 127 by omega) (by decide) ho hlw (by rw [e1, e2]; exact (hB L (Nat.le_refl _)).1) hk bT wT
  obtain ⟨r', x2, y2, t2, s1, s2, -⟩ := f_reason7 (lw := lw) (bl := bA) (wh := wA) G N (show L < 130 by omega) ho (fun i hi => (hB i hi).2) hlw (hB L (Nat.le_refl _)).1 hk x y tk
  rw [r1, s1]
  exact ⟨_, _, rfl, rfl, Why_eq r2 (Why_cong (fun i hi => (U i hi).1.symm) (fun i hi => (U i hi).2.symm) s2)⟩
theorem q_undo (C : Cr w h lw L op gd mw mh nb bl wh bA wA ac at' mv tB tW) : ∃ q L', f_X6_undo (nI L) = some q ∧ f_X7_undo (nI L) = some q ∧ q.2 = nI L' ∧ Cr w h lw L' op gd mw mh nb bl wh bA wA ac at' mv tB tW := by
  obtain ⟨G, N, hlw, hL, ho, U, hB, hT, b0, w0⟩ := C
  unfold f_X6_undo f_X7_undo
  cases L with
  | zero =>
    rw [if_neg (by decide), if_pos nI_0]
    exact ⟨_, 0, rfl, rfl, rfl, G, N, hlw, hL, ho, U, hB, hT, b0, w0⟩
  | succ L =>
    rw [if_pos (show (0 : Int32) < nI (L + 1) from nI_lt (a := 0) (by omega) (by omega)), f_takeBack (by omega), Option.bind_some, if_neg (nI_ne0 (by omega) (by omega)), nm_eq, nI_pred]
    exact ⟨_, L, rfl, rfl, rfl, G, N, hlw, by omega, ho, U.mono (by omega), fun i hi => hB i (by omega), fun i hi => hT i (by omega), b0, w0⟩
/-- the reference keeps an act -/
theorem f_acted (N : NbOK w h mw mh nb) (hwh : w * h < 64) (hL : L < 120) (ho : op = 1 ∨ op = 2) (hm : mv L = Mv op L) (tk : Int32) {k : Nat} (hk : k ≤ w * h) (x y : Int64) : f_X7_acted mw mh (nI L) tk at' bA wA mv tB tW (nI k) x y = some (nI (L + 1), upd at' L (nI k), vp_updL bA (L + 1) x, vp_updL wA (L + 1) y, upd mv (L + 1) (Mv op (L + 1)), upd tB (L + 1) (tB L + if Mv op L = 1 ∨ k = w * h then 0 else tk), upd tW (L + 1) (tW L + if Mv op L = 1 ∧ k < w * h then tk else 0)) := by
  have cl : (nI L).toNatClampNeg = L := nI_clamp (by omega)
  have cl2 : (nI (L + 1)).toNatClampNeg = L + 1 := nI_clamp (by omega)
  have b1 : (nI L < 0) = False := eq_false (nI_pos (by omega))
  have b2 : (nI (L + 1) < 0) = False := eq_false (nI_pos (by omega))
  have k1 : (120 ≤ L) = False := eq_false (by omega)
  have k2 : (130 ≤ L) = False := eq_false (by omega)
  have k3 : (121 ≤ L) = False := eq_false (by omega)
  have k4 : (121 ≤ L + 1) = False := eq_false (by omega)
  have k5 : (130 ≤ L + 1) = False := eq_false (by omega)
  have a1 : nI L + 1 = nI (L + 1) := nI_1 _
  have s1 : f_X7_size mw mh = some (nI (w * h)) := f_size7 N
  have m1 : Mv op (L + 1) = 3 - Mv op L := Mv_succ ho L
  have h1 : (nI (w * h) ≤ nI k) ↔ ¬ k < w * h := by rw [nI_leI (by omega) (by omega)]; omega
  have h2 : (nI k = nI (w * h)) ↔ k = w * h := nI_eq (by omega) (by omega)
  unfold f_X7_acted
  simp only [nm_eq, cl, cl2, b1, b2, k1, k2, k3, k4, k5, a1, s1, or_self, if_false, hm, Option.bind_some, f_X7_other, m1]
  by_cases z : Mv op L = 1
  · rw [if_pos z, if_pos z, if_pos (Or.inl z)]
    by_cases q : k < w * h
    · rw [if_neg (fun e => h1.mp e q), if_pos ⟨z, q⟩]
    · rw [if_pos (h1.mpr q), if_neg (fun e => q e.2)]
  · have z1 : ¬ (Mv op L = 1 ∧ k < w * h) := fun e => z e.1
    rw [if_neg z]
    by_cases q : k = w * h
    · rw [if_pos (h2.mpr q), if_neg z, if_pos (Or.inr q), if_neg z1]
    · have z2 : ¬ (Mv op L = 1 ∨ k = w * h) := fun e => e.elim z q
      rw [if_neg (fun e => q (h2.mp e)), if_neg z, if_neg z2, if_neg z1]
/-- the same board, and what was taken -/
theorem Cr_step (C : Cr w h lw L op gd mw mh nb bl wh bA wA ac at' mv tB tW) (hL : L < 120) {x y : Int64} (BX : Bd gd (w * h) x y) {b2 w2 : Int32} (hb2 : b2 = nI (pc (bA L &&& (x ^^^ (-1))))) (hw2 : w2 = nI (pc (wA L &&& (y ^^^ (-1))))) (k : Int32) : Cr w h lw (L + 1) op gd mw mh nb (vp_updL bl (L + 1) x) (vp_updL wh (L + 1) y) (vp_updL bA (L + 1) x) (vp_updL wA (L + 1) y) (upd ac L k) (upd at' L k) (upd mv (L + 1) (Mv op (L + 1))) (upd tB (L + 1) (tB L + b2)) (upd tW (L + 1) (tW L + w2)) := by
  obtain ⟨G, N, hlw, hL', ho, U, hB, hT, b0, w0⟩ := C
  refine ⟨G, N, hlw, by omega, ho, fun i hi => ?_, fun i hi => ?_, fun i hi => ?_, ?_, ?_⟩
  · by_cases e : i = L + 1
    · subst e; rw [pk_uLs, pk_uLs, pk_uLs, pk_uLs]; exact ⟨rfl, rfl⟩
    · rw [pk_uLn e, pk_uLn e, pk_uLn e, pk_uLn e]; exact U i (by omega)
  · by_cases e : i = L + 1
    · subst e; rw [pk_uLs, pk_uLs, pk_us]; exact ⟨BX, rfl⟩
    · rw [pk_uLn e, pk_uLn e, pk_un e]; exact hB i (by omega)
  · by_cases e : i = L
    · subst e
      unfold Tk
      rw [pk_us, pk_us, pk_us, pk_us, pk_un (show i ≠ i + 1 by omega), pk_un (show i ≠ i + 1 by omega), pk_uLn (show i ≠ i + 1 by omega), pk_uLn (show i ≠ i + 1 by omega), pk_uLs, pk_uLs, Ow_1, Ow_1, Ow_2, Ow_2, hb2, hw2]
      exact ⟨rfl, rfl, rfl⟩
    · unfold Tk
      rw [pk_un e, pk_un e, pk_un (show i + 1 ≠ L + 1 by omega), pk_un (show i + 1 ≠ L + 1 by omega), pk_un (show i ≠ L + 1 by omega), pk_un (show i ≠ L + 1 by omega), pk_uLn (show i ≠ L + 1 by omega), pk_uLn (show i ≠ L + 1 by omega), pk_uLn (show i + 1 ≠ L + 1 by omega), pk_uLn (show i + 1 ≠ L + 1 by omega)]
      exact hT i (by omega)
  · rw [pk_un (by omega)]; exact b0
  · rw [pk_un (by omega)]; exact w0
theorem an_0 {x y : Int64} (h : Le x y) : pc (x &&& (y ^^^ (-1))) = 0 := by
  have : x &&& (y ^^^ (-1)) = 0 := by
    rw [mm_zero_iff]
    intro k _
    rw [mm_an]
    cases e : mm x k
    · rfl
    · rw [h k e]; rfl
  rw [this, pc_0]
theorem q_pass (C : Cr w h lw L op gd mw mh nb bl wh bA wA ac at' mv tB tW) (bT wT : Int64) (tk : Int32) : ∃ q6 q7 L', f_X6_pass 127 gd.1 (nI (w * h)) gd.2.1 gd.2.2.1 gd.2.2.2 (nI lw) (nI L) op bT wT bl wh ac = some q6 ∧ f_X7_pass mw mh (nI L) tk at' bA wA mv tB tW = some q7 ∧ q6.1 = q7.1 ∧ q6.2.1 = nI L' ∧ q7.2.1 = nI L' ∧ Cr w h lw L' op gd mw mh nb q6.2.2.2.2.1 q6.2.2.2.2.2.1 q7.2.2.2.1 q7.2.2.2.2.1 q6.2.2.2.2.2.2 q7.2.2.1 q7.2.2.2.2.2.1 q7.2.2.2.2.2.2.1 q7.2.2.2.2.2.2.2 := by
  obtain ⟨G, N, hlw, hL, ho, U, hB, hT, b0, w0⟩ := C
  have C : Cr w h lw L op gd mw mh nb bl wh bA wA ac at' mv tB tW := ⟨G, N, hlw, hL, ho, U, hB, hT, b0, w0⟩
  have hn := n_lt G
  unfold f_X6_pass f_X7_pass
  by_cases z : L = 120
  · rw [if_neg (show ¬ nI L < 120 from nI_nlt (b := 120) (by omega) (by omega)), if_pos (show nI L = 120 by rw [z]; decide)]
    exact ⟨_, _, L, rfl, rfl, rfl, rfl, rfl, C⟩
  · rw [if_pos (show nI L < 120 from nI_lt (b := 120) (by omega) (by decide)), if_neg (show ¬ nI L = 120 from fun q => z ((nI_eq (b := 120) (by omega) (by decide)).mp q)), f_add_pass G (by omega) (by decide), Option.bind_some, f_size7 N, Option.bind_some, if_neg (nI_in (show L < 130 by omega) (by decide)), if_neg (nI_in (show L < 130 by omega) (by decide)), nI_clamp (by omega), f_acted N hn (by omega) ho (hB L (Nat.le_refl _)).2 tk (Nat.le_refl _), Option.bind_some, if_pos (Or.inr rfl), if_neg (fun q => by omega)]
    have C2 := Cr_step C (by omega) (hB L (Nat.le_refl _)).1 (b2 := 0) (w2 := 0) (by rw [an_0 (Le.rf _)]; rfl) (by rw [an_0 (Le.rf _)]; rfl) (nI (w * h))
    rw [(U L (Nat.le_refl _)).1, (U L (Nat.le_refl _)).2]
    dsimp only
    obtain ⟨r, p1, p2⟩ := f_passes N (L := L + 1) (by omega) (ac := upd ac L (nI (w * h))) (at' := upd at' L (nI (w * h))) (fun i hi => (C2.2.2.2.2.2.2.2.1 i hi).1)
    rw [p1, p2]
    exact ⟨_, _, L + 1, rfl, rfl, rfl, rfl, rfl, C2⟩
theorem q_lay (C : Cr w h lw L op gd mw mh nb bl wh bA wA ac at' mv tB tW) (bT wT x y : Int64) (tk a0 : Int32) : ∃ q6 q7 L', f_X6_lay 127 gd.1 (nI (w * h)) gd.2.1 gd.2.2.1 gd.2.2.2 (nI lw) (nI L) op bT wT bl wh ac a0 = some q6 ∧ f_X7_lay mw mh (nI lw) (nI L) x y tk nb at' bA wA mv tB tW a0 = some q7 ∧ q6.1 = q7.1 ∧ q6.2.1 = nI L' ∧ q7.2.1 = nI L' ∧ Cr w h lw L' op gd mw mh nb q6.2.2.2.2.1 q6.2.2.2.2.2.1 q7.2.2.2.2.2.2.1 q7.2.2.2.2.2.2.2.1 q6.2.2.2.2.2.2 q7.2.2.2.2.2.1 q7.2.2.2.2.2.2.2.2.1 q7.2.2.2.2.2.2.2.2.2.1 q7.2.2.2.2.2.2.2.2.2.2 := by
  obtain ⟨G, N, hlw, hL, ho, U, hB, hT, b0, w0⟩ := C
  have C : Cr w h lw L op gd mw mh nb bl wh bA wA ac at' mv tB tW := ⟨G, N, hlw, hL, ho, U, hB, hT, b0, w0⟩
  have hn := n_lt G
  have e1 := (U L (Nat.le_refl _)).1
  have e2 := (U L (Nat.le_refl _)).2
  have BL := (hB L (Nat.le_refl _)).1
  unfold f_X6_lay f_X7_lay
  rcases ix_cs G N a0 with ⟨-, h1, h2⟩ | ⟨k, hk, rfl, h1, h2⟩
  · rw [h1, h2]
    exact ⟨_, _, L, rfl, rfl, rfl, rfl, rfl, C⟩
  rw [h1, h2, Option.bind_some, Option.bind_some, if_neg n10, if_neg n10, if_neg (nI_in (show L < 130 by omega) (by decide)), nI_clamp (by omega), (hB L (Nat.le_refl _)).2]
  obtain ⟨r, x', y', r1, r2, r3⟩ := f_reason4 (N0 := 127) (lw := lw) (bl := bl) (wh := wh) G (show L < 127 by omega) (by decide) ho hlw (by rw [e1, e2]; exact BL) hk bT wT
  obtain ⟨r', x2, y2, t2, s1, s2, s3⟩ := f_reason7 (lw := lw) (bl := bA) (wh := wA) G N (show L < 130 by omega) ho (fun i hi => (hB i hi).2) hlw BL hk x y tk
  have s4 := Why_cong (fun i hi => (U i hi).1.symm) (fun i hi => (U i hi).2.symm) s2
  have er := Why_eq r2 s4
  subst er
  rw [r1, s1, Option.bind_some, Option.bind_some]
  by_cases z : r = 0
  · subst z
    rw [if_pos rfl, if_pos rfl]
    by_cases z2 : L = 120
    · rw [if_neg (show ¬ nI L < 120 from nI_nlt (b := 120) (by omega) (by omega)), if_pos (show nI L = 120 by rw [z2]; decide)]
      exact ⟨_, _, L, rfl, rfl, rfl, rfl, rfl, C⟩
    · obtain ⟨s5, s6, s7⟩ := s3 rfl
      obtain ⟨n1, n2⟩ := Why_0 s2
      have hc := Mv_12 ho L
      have BX := Bd_new G hc BL hk n1 n2
      obtain ⟨ra, xa, ya, a1, a2⟩ := f_add_lay (N0 := 127) (lw := lw) (bl := bl) (wh := wh) (op := op) G (show L + 1 < 127 by omega) (by decide) ho hlw (by rw [e1, e2]; exact BL) hk x' y' ac
      have a3 : ra = 0 := Why_eq a1 r2
      rw [if_pos a3, e1, e2] at a2
      rw [if_pos (show nI L < 120 from nI_lt (b := 120) (by omega) (by decide)), if_neg (show ¬ nI L = 120 from fun q => z2 ((nI_eq (b := 120) (by omega) (by decide)).mp q)), nm_eq, a2, Option.bind_some, f_acted N hn (by omega) ho (hB L (Nat.le_refl _)).2 _ (show k ≤ w * h by omega), Option.bind_some]
      dsimp only
      rw [f_mover op (by omega), Option.bind_some, f_takenBy (by omega) (by decide), Option.bind_some]
      subst s5 s6 s7
      -- what was taken
      have hgone : ∀ c, c = 1 ∨ c = 2 → (c = 3 - Mv op L → nI (pc (Ow c (bA L) (wA L) &&& (Ow c (Nb gd (Mv op L) (bA L) (wA L) k) (Nw gd (Mv op L) (bA L) (wA L) k) ^^^ (-1)))) = nI (pc (Ow (3 - Mv op L) (bA L) (wA L) &&& (Gf gd (Mv op L) (bA L) (wA L) k ^^^ (-1))))) ∧ (c = Mv op L → nI (pc (Ow c (bA L) (wA L) &&& (Ow c (Nb gd (Mv op L) (bA L) (wA L) k) (Nw gd (Mv op L) (bA L) (wA L) k) ^^^ (-1)))) = 0) := by
        intro c hcc
        constructor
        · intro q
          subst q
          have : Ow (3 - Mv op L) (Nb gd (Mv op L) (bA L) (wA L) k) (Nw gd (Mv op L) (bA L) (wA L) k) = Gf gd (Mv op L) (bA L) (wA L) k := by
            rcases hc with e | e
            · rw [e, c31, Ow_2]; exact if_pos rfl
            · rw [e, c32, Ow_1]; exact if_neg (by decide)
          rw [this]
        · intro q
          subst q
          have : Ow (Mv op L) (Nb gd (Mv op L) (bA L) (wA L) k) (Nw gd (Mv op L) (bA L) (wA L) k) = Od (Mv op L) (bA L) (wA L) k := by
            rcases hc with e | e
            · rw [e, Ow_1]; exact if_pos rfl
            · rw [e, Ow_2]; exact if_neg (by decide)
          rw [this, an_0 (show Le (Ow (Mv op L) (bA L) (wA L)) (Od (Mv op L) (bA L) (wA L) k) from Le.orL _ _)]; rfl
      have C2 := Cr_step C (by omega) BX (b2 := if Mv op L = 1 ∨ k = w * h then 0 else nI (pc (Ow (3 - Mv op L) (bA L) (wA L) &&& (Gf gd (Mv op L) (bA L) (wA L) k ^^^ (-1))))) (w2 := if Mv op L = 1 ∧ k < w * h then nI (pc (Ow (3 - Mv op L) (bA L) (wA L) &&& (Gf gd (Mv op L) (bA L) (wA L) k ^^^ (-1)))) else 0) (by
          have := hgone 1 (Or.inl rfl)
          rw [Ow_1, Ow_1] at this
          rcases hc with e | e
          · rw [if_pos (Or.inl e), this.2 e.symm]
          · rw [if_neg (fun q => q.elim (fun q => by rw [e] at q; exact absurd q (by decide)) (fun q => by omega)), this.1 (by rw [e]; decide)]) (by
          have := hgone 2 (Or.inr rfl)
          rw [Ow_2, Ow_2] at this
          rcases hc with e | e
          · rw [if_pos ⟨e, hk⟩, this.1 (by rw [e]; decide)]
          · rw [if_neg (fun q => by rw [e] at q; exact absurd q.1 (by decide)), this.2 e.symm]) (nI k)
      refine ⟨_, _, L + 1, rfl, rfl, ?_, rfl, rfl, C2⟩
      show Tk (Mv op (L + 1)) _ _ L = _
      unfold Tk
      rw [pk_uLn (show L ≠ L + 1 by omega), pk_uLn (show L ≠ L + 1 by omega), pk_uLs, pk_uLs, e1, e2, Mv_succ ho]
      exact (hgone (3 - Mv op L) (by rcases hc with e | e <;> rw [e] <;> decide)).1 rfl
  · rw [if_neg z, if_neg z]
    exact ⟨_, _, L, rfl, rfl, rfl, rfl, rfl, C⟩
end AD
