/-! the digest -/
section DG
variable {w h : Nat} {gd : Gd} {mw mh : Int32} {nb : Nat → Int64} {L : Nat} {bl wh bA wA : Nat → Int64}
theorem lp_dig3 (hL : L ≤ 120) {ac at' : Nat → Int32} (ha : ∀ i, i < L → ac i = at' i) : ∀ (nF i : Nat) (x : Int64), i ≤ L → L - i < nF → ∃ r, lp_X6_digest_68 127 (nI L) ac nF x (nI i) = some r ∧ lp_X7_digest_62 (nI L) at' nF x (nI i) = some r := by
  intro nF
  induction nF with
  | zero => intro i x h1 h2; omega
  | succ nF ih =>
    intro i x h1 h2
    rw [lp_X6_digest_68, lp_X7_digest_62]
    by_cases hi : i = L
    · subst hi
      rw [if_pos (nI_le (Nat.le_refl _) (by omega)), if_pos (nI_le (Nat.le_refl _) (by omega))]
      exact ⟨x, rfl, rfl⟩
    · have h3 := nI_ge (show i < L by omega) (show L < 2 ^ 31 by omega)
      rw [if_neg h3, if_neg h3, f_actAt (by omega) (by decide) (by omega), Option.bind_some, if_neg (nI_in (by omega) (by decide)), nI_clamp (by omega), ha i (by omega)]
      simp only [nm_eq]
      rw [nI_1]
      exact ih (i + 1) _ (by omega) (by omega)
theorem lp_dig2 (G : GdOK w h gd) (N : NbOK w h mw mh nb) (hL : L ≤ 120) (hb : bl L = bA L) (hw : wh L = wA L) (K K' : Int64 → Option Int64) (hK : ∀ x, ∃ r, K x = some r ∧ K' x = some r) : ∀ (nF i : Nat) (x : Int64), i ≤ w * h → w * h - i < nF → ∃ r, lp_X6_digest_33 127 (nI (w * h)) (nI L) bl wh K nF x (nI i) = some r ∧ lp_X7_digest_33 mw mh (nI L) bA wA K' nF x (nI i) = some r := by
  have hn := n_lt G
  intro nF
  induction nF with
  | zero => intro i x h1 h2; omega
  | succ nF ih =>
    intro i x h1 h2
    rw [lp_X6_digest_33, lp_X7_digest_33, f_size7 N, Option.bind_some]
    by_cases hi : i = w * h
    · subst hi
      rw [if_pos (nI_le (Nat.le_refl _) (by omega)), if_pos (nI_le (Nat.le_refl _) (by omega))]
      exact hK x
    · have h3 := nI_ge (show i < w * h by omega) (show w * h < 2 ^ 31 by omega)
      rw [if_neg h3, if_neg h3, f_colourAt (by omega) (by decide) (by omega), Option.bind_some, f_atOf (by omega) (by omega), Option.bind_some, hb, hw]
      simp only [nm_eq]
      rw [nI_1]
      exact ih (i + 1) _ (by omega) (by omega)
theorem lp_dig1 (G : GdOK w h gd) (N : NbOK w h mw mh nb) {lw : Nat} {op : Int32} (hL : L ≤ 120) (hb : bl L = bA L) (hw : wh L = wA L) {tB tW mv ac at' : Nat → Int32} (b0 : tB 0 = 0) (w0 : tW 0 = 0) (hB : ∀ i, i < L → tB (i + 1) = tB i + Tk 1 bl wh i) (hW : ∀ i, i < L → tW (i + 1) = tW i + Tk 2 bl wh i) (hm : mv L = Mv op L) (ha : ∀ i, i < L → ac i = at' i) (K K' : Int64 → Option Int64) (hK : ∀ x, ∃ r, K x = some r ∧ K' x = some r) : ∀ (nF i : Nat) (x : Int64), i ≤ 10 → 10 - i < nF → ∃ r, lp_X6_digest_6 127 (nI w) (nI h) (nI (w * h)) (nI lw) (nI L) op bl wh ac K nF x (nI i) = some r ∧ lp_X7_digest_6 mw mh (nI lw) (nI L) at' bA wA mv tB tW K' nF x (nI i) = some r := by
  intro nF
  induction nF with
  | zero => intro i x h1 h2; omega
  | succ nF ih =>
    intro i x h1 h2
    rw [lp_X6_digest_6, lp_X7_digest_6]
    by_cases hi : i = 10
    · subst hi
      rw [if_pos (show (9 : Int32) < nI 10 by decide), if_pos (show (10 : Int32) ≤ nI 10 by decide)]
      exact hK x
    · rw [if_neg (show ¬ (9 : Int32) < nI i from nI_nlt (a := 9) (by omega) (by decide)), if_neg (show ¬ (10 : Int32) ≤ nI i from nI_ge (b := 10) (by omega) (by decide))]
      obtain ⟨q, q1, q2⟩ := q_count (lw := lw) G N hL hb hw b0 w0 hB hW hm ha (nI i)
      rw [q1, q2, Option.bind_some, Option.bind_some]
      simp only [nm_eq]
      rw [nI_1]
      exact ih (i + 1) _ (by omega) (by omega)
theorem q_digest (G : GdOK w h gd) (N : NbOK w h mw mh nb) {lw : Nat} {op : Int32} (hL : L ≤ 120) (hb : bl L = bA L) (hw : wh L = wA L) {tB tW mv ac at' : Nat → Int32} (b0 : tB 0 = 0) (w0 : tW 0 = 0) (hB : ∀ i, i < L → tB (i + 1) = tB i + Tk 1 bl wh i) (hW : ∀ i, i < L → tW (i + 1) = tW i + Tk 2 bl wh i) (hm : mv L = Mv op L) (ha : ∀ i, i < L → ac i = at' i) : ∃ q, f_X6_digest 127 (nI w) (nI h) (nI (w * h)) (nI lw) (nI L) op bl wh ac = some q ∧ f_X7_digest mw mh (nI lw) (nI L) at' bA wA mv tB tW = some q := by
  unfold f_X6_digest f_X7_digest
  simp only [nm_eq]
  have hn := n_lt G
  have := FU_ge
  have k3 : ∀ y, ∃ r, lp_X6_digest_68 127 (nI L) ac FU y 0 = some r ∧ lp_X7_digest_62 (nI L) at' FU y 0 = some r := fun y => by
    have e := lp_dig3 hL ha FU 0 y (by omega) (by omega)
    rw [nI_0] at e
    exact e
  have k2 : ∀ x, ∃ r, lp_X6_digest_33 127 (nI (w * h)) (nI L) bl wh (fun v3 => lp_X6_digest_68 127 (nI L) ac FU v3 0) FU x 0 = some r ∧ lp_X7_digest_33 mw mh (nI L) bA wA (fun v3 => lp_X7_digest_62 (nI L) at' FU v3 0) FU x 0 = some r := fun x => by
    have e := lp_dig2 G N hL hb hw (fun v3 => lp_X6_digest_68 127 (nI L) ac FU v3 0) (fun v3 => lp_X7_digest_62 (nI L) at' FU v3 0) k3 FU 0 x (by omega) (by omega)
    rw [nI_0] at e
    exact e
  have e := lp_dig1 (lw := lw) (op := op) G N hL hb hw b0 w0 hB hW hm ha (fun v1 => lp_X6_digest_33 127 (nI (w * h)) (nI L) bl wh (fun v3 => lp_X6_digest_68 127 (nI L) ac FU v3 0) FU v1 0) (fun v1 => lp_X7_digest_33 mw mh (nI L) bA wA (fun v3 => lp_X7_digest_62 (nI L) at' FU v3 0) FU v1 0) k2 FU 0 47 (by omega) (by omega)
  rw [nI_0] at e
  exact e
end DG
