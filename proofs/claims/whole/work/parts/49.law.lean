/-! the laws, and why a stone can't be laid -/
theorem FU_2 : ∃ n, FU = n + 2 := ⟨FU - 2, by have := FU_ge; omega⟩
theorem FU_31 : 2 ^ 31 < FU := Nat.lt_of_succ_le (Nat.le_of_ble_eq_true rfl)
def Mv (op : Int32) (i : Nat) : Int32 := if i % 2 = 0 then op else 3 - op
theorem Mv_12 {op : Int32} (ho : op = 1 ∨ op = 2) (i : Nat) : Mv op i = 1 ∨ Mv op i = 2 := by
  unfold Mv
  split
  · exact ho
  · rcases ho with rfl | rfl
    · exact Or.inr c31
    · exact Or.inl c32
theorem Mv_0 (op : Int32) : Mv op 0 = op := rfl
theorem Mv_succ {op : Int32} (ho : op = 1 ∨ op = 2) (i : Nat) : Mv op (i + 1) = 3 - Mv op i := by
  unfold Mv
  by_cases e : i % 2 = 0
  · rw [if_pos e, if_neg (by omega)]
  · rw [if_neg e, if_pos (by omega)]
    rcases ho with rfl | rfl
    · rw [c31, c32]
    · rw [c32, c31]
theorem f_moverThen (op : Int32) {i : Nat} (hi : i < 2 ^ 31) : f_X4_moverThen op (nI i) = some (Mv op i) := by
  unfold f_X4_moverThen Mv
  rw [pk_andN (n := i) (by omega) (m := 1) 1 (by decide)]
  by_cases e : i % 2 = 0
  · rw [if_pos e, show i % 2 ^ 1 = 0 from e, if_pos nI_0]
  · rw [if_neg e, show i % 2 ^ 1 = 1 by omega, if_neg (by decide)]
theorem f_mover (op : Int32) {i : Nat} (hi : i < 2 ^ 31) : f_X4_mover (nI i) op = some (Mv op i) := by
  unfold f_X4_mover
  rw [f_moverThen op hi]; rfl
def Rf (lw : Nat) (op : Int32) (L : Nat) (bl wh : Nat → Int64) (x y : Int64) : Prop := ∃ i, i < L ∧ (lw = 0 → i + 1 = L) ∧ (lw = 2 → Mv op i = Mv op (L + 1)) ∧ bl i = x ∧ wh i = y
theorem Rv_1 {P : Prop} (h : P) : Rv 1 P := Or.inl ⟨rfl, h⟩
theorem Rv_0 {P : Prop} (h : ¬ P) : Rv 0 P := Or.inr ⟨rfl, h⟩
theorem Rv_iff {r : Int32} {P Q : Prop} (h : Rv r P) (e : P ↔ Q) : Rv r Q := h.elim (fun q => Or.inl ⟨q.1, e.mp q.2⟩) (fun q => Or.inr ⟨q.1, fun z => q.2 (e.mpr z)⟩)
theorem Rv_eq {r r' : Int32} {P : Prop} (h : Rv r P) (h' : Rv r' P) : r = r' := by
  rcases h with ⟨a, b⟩ | ⟨a, b⟩ <;> rcases h' with ⟨c, d⟩ | ⟨c, d⟩
  · rw [a, c]
  · exact absurd b d
  · exact absurd d b
  · rw [a, c]
section LW
variable {N0 L lw : Nat} {op : Int32} {bl wh : Nat → Int64} {x y : Int64}
theorem lp_refused (hL : L < N0) (hN : N0 < 2 ^ 31) (hl : lw = 1 ∨ lw = 2) : ∀ (nF m : Nat), m ≤ L → m < nF → ∃ r, lp_X4_isRefusedByLaw_25 N0 (nI lw) (nI L) op x y bl wh 0 nF (nI m - 1) = some r ∧ Rv r (∃ i, i < m ∧ (lw = 2 → Mv op i = Mv op (L + 1)) ∧ bl i = x ∧ wh i = y) := by
  intro nF
  induction nF with
  | zero => intro m h1 h2; omega
  | succ nF ih =>
    intro m h1 h2
    cases m with
    | zero =>
      refine ⟨0, ?_, Rv_0 (fun ⟨i, hi, _⟩ => absurd hi (Nat.not_lt_zero i))⟩
      rw [lp_X4_isRefusedByLaw_25, if_pos (by decide)]
    | succ m =>
      obtain ⟨r, r1, r2⟩ := ih m (by omega) (by omega)
      have e0 : nI m + (-1) = nI m - 1 := (Int32.sub_eq_add_neg _ _).symm
      have step : lp_X4_isRefusedByLaw_25 N0 (nI lw) (nI L) op x y bl wh 0 (nF + 1) (nI (m + 1) - 1) = if (lw = 2 → Mv op m = Mv op (L + 1)) then (if bl m = x then (if wh m = y then some 1 else some r) else some r) else some r := by
        rw [lp_X4_isRefusedByLaw_25, nI_pred, if_neg (nI_pos (by omega)), if_neg (nI_pos (by omega)), f_stonesThen (by omega) hN, f_stonesThen (by omega) hN, f_moverThen op (by omega), nI_1, f_moverThen op (by omega), Ow_1, Ow_2, e0]
        simp only [nm, Option.bind_some]
        rw [r1]
        rcases hl with rfl | rfl
        · rw [if_neg (show ¬ nI 1 = 2 by decide), if_neg (show ¬ (1 : Int32) = 0 by decide), if_pos (fun z => absurd z (by decide))]
        · rw [if_pos (show nI 2 = 2 by decide)]
          by_cases q : Mv op m = Mv op (L + 1)
          · rw [if_pos q, if_neg (by decide), if_pos (fun _ => q)]
          · rw [if_neg q, if_pos trivial, if_neg (fun z => q (z rfl))]
      have lift : ¬ ((lw = 2 → Mv op m = Mv op (L + 1)) ∧ bl m = x ∧ wh m = y) → ((∃ i, i < m ∧ (lw = 2 → Mv op i = Mv op (L + 1)) ∧ bl i = x ∧ wh i = y) ↔ (∃ i, i < m + 1 ∧ (lw = 2 → Mv op i = Mv op (L + 1)) ∧ bl i = x ∧ wh i = y)) := fun z => by
        constructor
        · rintro ⟨i, g1, g2⟩; exact ⟨i, by omega, g2⟩
        · rintro ⟨i, g1, g2⟩
          by_cases e : i = m
          · rw [e] at g2; exact absurd g2 z
          · exact ⟨i, by omega, g2⟩
      rw [step]
      by_cases q1 : lw = 2 → Mv op m = Mv op (L + 1)
      · rw [if_pos q1]
        by_cases q2 : bl m = x
        · rw [if_pos q2]
          by_cases q3 : wh m = y
          · rw [if_pos q3]
            exact ⟨1, rfl, Rv_1 ⟨m, by omega, q1, q2, q3⟩⟩
          · rw [if_neg q3]
            exact ⟨r, rfl, Rv_iff r2 (lift (fun z => q3 z.2.2))⟩
        · rw [if_neg q2]
          exact ⟨r, rfl, Rv_iff r2 (lift (fun z => q2 z.2.1))⟩
      · rw [if_neg q1]
        exact ⟨r, rfl, Rv_iff r2 (lift (fun z => q1 z.1))⟩
theorem f_refused (hL : L < N0) (hN : N0 < 2 ^ 31) (hl : lw ≤ 2) : ∃ r, f_X4_isRefusedByLaw N0 (nI lw) (nI L) op x y bl wh = some r ∧ Rv r (Rf lw op L bl wh x y) := by
  unfold f_X4_isRefusedByLaw
  simp only [nm]
  by_cases h0 : lw = 0
  · subst h0
    rw [if_pos nI_0]
    obtain ⟨n, hn⟩ := FU_2
    rw [hn]
    cases L with
    | zero =>
      refine ⟨0, ?_, Rv_0 (fun ⟨i, hi, _⟩ => absurd hi (Nat.not_lt_zero i))⟩
      rw [lp_X4_isRefusedByLaw_25, if_neg (by decide), if_pos (by decide)]
    | succ m =>
      have e0 : nI m + (-1) = nI m - 1 := (Int32.sub_eq_add_neg _ _).symm
      have e1 : lp_X4_isRefusedByLaw_25 N0 (nI 0) (nI (m + 1)) op x y bl wh (nI m) (n + 1) (nI m - 1) = some 0 := by
        rw [lp_X4_isRefusedByLaw_25, if_pos]
        cases m with
        | zero => decide
        | succ m => rw [nI_pred]; exact nI_lt (by omega) (by omega)
      rw [nI_pred, lp_X4_isRefusedByLaw_25, if_neg (nI_nlt (Nat.le_refl _) (by omega)), if_neg (nI_pos (by omega)), f_stonesThen (by omega) hN, f_stonesThen (by omega) hN, Ow_1, Ow_2, e0]
      simp only [nm, Option.bind_some]
      rw [e1]
      rw [if_neg (by decide), if_neg (by decide)]
      have key : Rf 0 op (m + 1) bl wh x y ↔ bl m = x ∧ wh m = y := by
        constructor
        · rintro ⟨i, h1, h2, h3, h4⟩
          have := h2 rfl
          have e : i = m := by omega
          subst e; exact h4
        · intro q
          exact ⟨m, by omega, fun _ => rfl, fun z => absurd z (by decide), q⟩
      by_cases q2 : bl m = x
      · rw [if_pos q2]
        by_cases q3 : wh m = y
        · rw [if_pos q3]
          exact ⟨1, rfl, Rv_1 (key.mpr ⟨q2, q3⟩)⟩
        · rw [if_neg q3]
          exact ⟨0, rfl, Rv_0 (fun z => q3 (key.mp z).2)⟩
      · rw [if_neg q2]
        exact ⟨0, rfl, Rv_0 (fun z => q2 (key.mp z).1)⟩
  · rw [if_neg (nI_ne0 (by omega) (by omega))]
    have hFU : L < FU := Nat.lt_trans hL (Nat.lt_trans hN FU_31)
    obtain ⟨r, r1, r2⟩ := lp_refused (x := x) (y := y) (op := op) (bl := bl) (wh := wh) hL hN (show lw = 1 ∨ lw = 2 by omega) FU L (Nat.le_refl _) hFU
    refine ⟨r, r1, Rv_iff r2 ?_⟩
    constructor
    · rintro ⟨i, h1, h2, h3⟩; exact ⟨i, h1, fun z => absurd z h0, h2, h3⟩
    · rintro ⟨i, h1, h2, h3, h4⟩; exact ⟨i, h1, h3, h4⟩
theorem lp_against (hL : L < 130) {c : Int32} {mv : Nat → Int32} (hl : lw = 1 ∨ lw = 2) : ∀ (nF m : Nat), m ≤ L + 1 → L + 1 - m < nF → ∃ r, lp_X7_isAgainst_51 (nI lw) x y bl wh mv (nI L) c nF (nI m) = some r ∧ Rv r (∃ i, m ≤ i ∧ i ≤ L ∧ (lw = 1 ∨ mv i = 3 - c) ∧ bl i = x ∧ wh i = y) := by
  intro nF
  induction nF with
  | zero => intro m h1 h2; omega
  | succ nF ih =>
    intro m h1 h2
    rw [lp_X7_isAgainst_51]
    by_cases hm : m = L + 1
    · subst hm
      rw [if_pos (nI_lt (by omega) (by omega))]
      exact ⟨0, rfl, Rv_0 (fun ⟨i, a, b, _⟩ => by omega)⟩
    · obtain ⟨r, r1, r2⟩ := ih (m + 1) (by omega) (by omega)
      rw [if_neg (nI_nlt (by omega) (by omega)), if_neg (nI_in (by omega) (by decide)), nI_clamp (by omega)]
      have lift : ¬ ((lw = 1 ∨ mv m = 3 - c) ∧ bl m = x ∧ wh m = y) → ((∃ i, m + 1 ≤ i ∧ i ≤ L ∧ (lw = 1 ∨ mv i = 3 - c) ∧ bl i = x ∧ wh i = y) ↔ (∃ i, m ≤ i ∧ i ≤ L ∧ (lw = 1 ∨ mv i = 3 - c) ∧ bl i = x ∧ wh i = y)) := fun z => by
        constructor
        · rintro ⟨i, g1, g2⟩; exact ⟨i, by omega, g2⟩
        · rintro ⟨i, g1, g2, g3⟩
          by_cases e : i = m
          · rw [e] at g3; exact absurd g3 z
          · exact ⟨i, by omega, g2, g3⟩
      simp only [nm]
      rw [nI_1, r1]
      by_cases q2 : bl m = x
      · rw [if_pos q2, if_neg (nI_inc (by omega) (by omega))]
        by_cases q3 : wh m = y
        · rw [if_pos q3]
          rcases hl with rfl | rfl
          · rw [if_pos (by decide)]
            exact ⟨1, rfl, Rv_1 ⟨m, Nat.le_refl _, by omega, Or.inl rfl, q2, q3⟩⟩
          · rw [if_neg (by decide), if_neg (nI_inc (by omega) (by omega))]
            simp only [f_X7_other, Option.bind_some]
            by_cases q4 : mv m = 3 - c
            · rw [if_pos q4]
              exact ⟨1, rfl, Rv_1 ⟨m, Nat.le_refl _, by omega, Or.inr q4, q2, q3⟩⟩
            · rw [if_neg q4]
              exact ⟨r, rfl, Rv_iff r2 (lift (fun z => z.1.elim (fun z => by cases z) q4))⟩
        · rw [if_neg q3]
          exact ⟨r, rfl, Rv_iff r2 (lift (fun z => q3 z.2.2))⟩
      · rw [if_neg q2]
        exact ⟨r, rfl, Rv_iff r2 (lift (fun z => q2 z.2.1))⟩
theorem f_against (hL : L < 130) {mv : Nat → Int32} (ho : op = 1 ∨ op = 2) (hm : ∀ i, i ≤ L → mv i = Mv op i) (hl : lw ≤ 2) (hne : ¬ (bl L = x ∧ wh L = y)) : ∃ r, f_X7_isAgainst (nI lw) x y bl wh mv (nI L) (Mv op L) = some r ∧ Rv r (Rf lw op L bl wh x y) := by
  unfold f_X7_isAgainst
  by_cases h0 : lw = 0
  · subst h0
    rw [if_pos nI_0]
    cases L with
    | zero =>
      rw [if_pos (by decide)]
      exact ⟨0, rfl, Rv_0 (fun ⟨i, hi, _⟩ => absurd hi (Nat.not_lt_zero i))⟩
    | succ m =>
      have key : Rf 0 op (m + 1) bl wh x y ↔ bl m = x ∧ wh m = y := by
        constructor
        · rintro ⟨i, h1, h2, h3, h4⟩
          have := h2 rfl
          have e : i = m := by omega
          subst e; exact h4
        · intro q
          exact ⟨m, by omega, fun _ => rfl, fun z => absurd z (by decide), q⟩
      rw [if_neg (nI_nle (by omega) (by omega)), nI_pred, if_neg (nI_in (by omega) (by decide)), nI_clamp (by omega)]
      by_cases q2 : bl m = x
      · rw [if_pos q2, if_neg (nI_inc (by omega) (by omega))]
        by_cases q3 : wh m = y
        · rw [if_pos q3]
          exact ⟨1, rfl, Rv_1 (key.mpr ⟨q2, q3⟩)⟩
        · rw [if_neg q3]
          exact ⟨0, rfl, Rv_0 (fun z => q3 (key.mp z).2)⟩
      · rw [if_neg q2]
        exact ⟨0, rfl, Rv_0 (fun z => q2 (key.mp z).1)⟩
  · rw [if_neg (nI_ne0 (by omega) (by omega))]
    obtain ⟨r, r1, r2⟩ := lp_against (x := x) (y := y) (bl := bl) (wh := wh) (c := Mv op L) (mv := mv) hL (show lw = 1 ∨ lw = 2 by omega) FU 0 (by omega) (by have := FU_ge; omega)
    refine ⟨r, r1, Rv_iff r2 ?_⟩
    constructor
    · rintro ⟨i, -, h2, h3, h4, h5⟩
      have hi : i < L := by
        rcases Nat.lt_or_ge i L with q | q
        · exact q
        · have e : i = L := by omega
          subst e
          exact absurd ⟨h4, h5⟩ hne
      refine ⟨i, hi, fun z => absurd z h0, fun z => ?_, h4, h5⟩
      rcases h3 with q | q
      · omega
      · rw [← hm i h2, q, Mv_succ ho]
    · rintro ⟨i, h1, h2, h3, h4⟩
      refine ⟨i, Nat.zero_le _, by omega, ?_, h4⟩
      by_cases z : lw = 1
      · exact Or.inl z
      · exact Or.inr (by rw [hm i (by omega), h3 (by omega), Mv_succ ho])
theorem Rf_cong {bl' wh' : Nat → Int64} (h1 : ∀ i, i < L → bl i = bl' i) (h2 : ∀ i, i < L → wh i = wh' i) : Rf lw op L bl wh x y ↔ Rf lw op L bl' wh' x y := by
  constructor
  · rintro ⟨i, a, b, c, d, e⟩; exact ⟨i, a, b, c, by rw [← h1 i a]; exact d, by rw [← h2 i a]; exact e⟩
  · rintro ⟨i, a, b, c, d, e⟩; exact ⟨i, a, b, c, by rw [h1 i a]; exact d, by rw [h2 i a]; exact e⟩
end LW
section RS
variable {w h : Nat} {gd : Gd} {mw mh : Int32} {nb : Nat → Int64} {N0 L lw : Nat} {op : Int32} {bl wh : Nat → Int64}
/-- why the one to move can't lay at k, as both tell it -/
def Why (gd : Gd) (lw : Nat) (op : Int32) (L : Nat) (bl wh : Nat → Int64) (k : Nat) (r : Int32) : Prop := (Oc (bl L) (wh L) k ∧ r = 1) ∨ (¬ Oc (bl L) (wh L) k ∧ Su gd (Mv op L) (bl L) (wh L) k ∧ r = 2) ∨ (¬ Oc (bl L) (wh L) k ∧ ¬ Su gd (Mv op L) (bl L) (wh L) k ∧ Rf lw op L bl wh (Nb gd (Mv op L) (bl L) (wh L) k) (Nw gd (Mv op L) (bl L) (wh L) k) ∧ r = 3) ∨ (¬ Oc (bl L) (wh L) k ∧ ¬ Su gd (Mv op L) (bl L) (wh L) k ∧ ¬ Rf lw op L bl wh (Nb gd (Mv op L) (bl L) (wh L) k) (Nw gd (Mv op L) (bl L) (wh L) k) ∧ r = 0)
theorem Why_eq {k : Nat} {r r' : Int32} (a : Why gd lw op L bl wh k r) (b : Why gd lw op L bl wh k r') : r = r' := by
  rcases a with ⟨a1, a2⟩ | ⟨a1, a2, a3⟩ | ⟨a1, a2, a3, a4⟩ | ⟨a1, a2, a3, a4⟩ <;> rcases b with ⟨b1, b2⟩ | ⟨b1, b2, b3⟩ | ⟨b1, b2, b3, b4⟩ | ⟨b1, b2, b3, b4⟩ <;> first | (subst_vars; rfl) | exact absurd a1 b1 | exact absurd b1 a1 | exact absurd a2 b2 | exact absurd b2 a2 | exact absurd a3 b3 | exact absurd b3 a3
theorem Why_cong {bl' wh' : Nat → Int64} {k : Nat} {r : Int32} (h1 : ∀ i, i ≤ L → bl i = bl' i) (h2 : ∀ i, i ≤ L → wh i = wh' i) (a : Why gd lw op L bl wh k r) : Why gd lw op L bl' wh' k r := by
  have e : ∀ x y, Rf lw op L bl wh x y ↔ Rf lw op L bl' wh' x y := fun x y => Rf_cong (fun i hi => h1 i (by omega)) (fun i hi => h2 i (by omega))
  unfold Why at a ⊢
  rw [h1 L (Nat.le_refl _), h2 L (Nat.le_refl _), e] at a
  exact a
theorem f_reason4 (G : GdOK w h gd) (hL : L < N0) (hN : N0 < 2 ^ 31) (ho : op = 1 ∨ op = 2) (hl : lw ≤ 2) (B : Bd gd (w * h) (bl L) (wh L)) {k : Nat} (hk : k < w * h) (x y : Int64) : ∃ r x' y', f_X4_reasonAgainst N0 (nI lw) (nI L) op x y gd.1 gd.2.1 gd.2.2.1 gd.2.2.2 bl wh (nI k) = some (r, x', y') ∧ Why gd lw op L bl wh k r ∧ (r = 0 → x' = Nb gd (Mv op L) (bl L) (wh L) k ∧ y' = Nw gd (Mv op L) (bl L) (wh L) k) := by
  have hn := n_lt G
  have hc := Mv_12 ho L
  obtain ⟨o1, o2, o3, o4, o5, o6⟩ := Bd_ow hc G B
  unfold f_X4_reasonAgainst
  rw [f_free4 hL hN, Option.bind_some]
  by_cases h0 : Oc (bl L) (wh L) k
  · rw [holds_f (by omega) (by
      rw [mm_Fr G]
      rcases h0 with q | q <;> rw [q] <;> simp), Option.bind_some, if_pos rfl]
    exact ⟨1, x, y, rfl, Or.inl ⟨h0, rfl⟩, fun z => by cases z⟩
  · have q1 : mm (bl L) k = false := by cases e : mm (bl L) k; rfl; exact absurd (Or.inl e) h0
    have q2 : mm (wh L) k = false := by cases e : mm (wh L) k; rfl; exact absurd (Or.inr e) h0
    rw [holds_t (by rw [mm_Fr G, q1, q2, decide_eq_true hk]; rfl), Option.bind_some, if_neg (by decide), f_mover op (by omega)]
    simp only [nm, Option.bind_some, f_X6_other]
    rw [f_stonesOf hL hN, f_stonesOf hL hN]
    simp only [Option.bind_some, f_beside]
    have hos : Sb (Od (Mv op L) (bl L) (wh L) k) (w * h) := Od_sb hk hn o1
    rw [f_spread (Sb49 G o2), Option.bind_some, f_spread (Sb49 G hos : Sb (Ow (Mv op L) (bl L) (wh L) ||| jshl 1 (nI k)) 49), Option.bind_some]
    by_cases hs : Su gd (Mv op L) (bl L) (wh L) k
    · refine ⟨2, x, y, ?_, Or.inr (Or.inl ⟨h0, hs, rfl⟩), fun z => by cases z⟩
      exact if_pos hs
    · obtain ⟨r, r1, r2⟩ := f_refused (N0 := N0) (lw := lw) (op := op) (bl := bl) (wh := wh) (x := Nb gd (Mv op L) (bl L) (wh L) k) (y := Nw gd (Mv op L) (bl L) (wh L) k) hL hN hl
      have fin : ((f_X4_isRefusedByLaw N0 (nI lw) (nI L) op (Nb gd (Mv op L) (bl L) (wh L) k) (Nw gd (Mv op L) (bl L) (wh L) k) bl wh).bind fun q20 => if q20 = 0 then some ((0 : Int32), Nb gd (Mv op L) (bl L) (wh L) k, Nw gd (Mv op L) (bl L) (wh L) k) else some ((3 : Int32), Nb gd (Mv op L) (bl L) (wh L) k, Nw gd (Mv op L) (bl L) (wh L) k)) = some (if r = 0 then 0 else 3, Nb gd (Mv op L) (bl L) (wh L) k, Nw gd (Mv op L) (bl L) (wh L) k) := by
        rw [r1, Option.bind_some]
        by_cases z : r = 0
        · rw [if_pos z, if_pos z]
        · rw [if_neg z, if_neg z]
      refine ⟨if r = 0 then 0 else 3, Nb gd (Mv op L) (bl L) (wh L) k, Nw gd (Mv op L) (bl L) (wh L) k, ?_, ?_, fun _ => ⟨rfl, rfl⟩⟩
      · refine (if_neg hs).trans ?_
        rw [← fin]
        by_cases z : Mv op L = 1
        · rw [if_pos z, if_pos z, show Nb gd (Mv op L) (bl L) (wh L) k = Od (Mv op L) (bl L) (wh L) k from if_pos z, show Nw gd (Mv op L) (bl L) (wh L) k = Gf gd (Mv op L) (bl L) (wh L) k from if_pos z]; rfl
        · rw [if_neg z, if_neg z, show Nb gd (Mv op L) (bl L) (wh L) k = Gf gd (Mv op L) (bl L) (wh L) k from if_neg z, show Nw gd (Mv op L) (bl L) (wh L) k = Od (Mv op L) (bl L) (wh L) k from if_neg z]; rfl
      · rcases r2 with ⟨a, b⟩ | ⟨a, b⟩
        · rw [a, if_neg (by decide)]
          exact Or.inr (Or.inr (Or.inl ⟨h0, hs, b, rfl⟩))
        · rw [a, if_pos rfl]
          exact Or.inr (Or.inr (Or.inr ⟨h0, hs, b, rfl⟩))
theorem f_reason7 (G : GdOK w h gd) (N : NbOK w h mw mh nb) (hL : L < 130) {mv : Nat → Int32} (ho : op = 1 ∨ op = 2) (hm : ∀ i, i ≤ L → mv i = Mv op i) (hl : lw ≤ 2) (B : Bd gd (w * h) (bl L) (wh L)) {k : Nat} (hk : k < w * h) (x y : Int64) (t : Int32) : ∃ r x' y' t', f_X7_reason mw mh (nI lw) x y t nb bl wh mv (nI L) (Mv op L) (nI k) = some (r, x', y', t') ∧ Why gd lw op L bl wh k r ∧ (r = 0 → x' = Nb gd (Mv op L) (bl L) (wh L) k ∧ y' = Nw gd (Mv op L) (bl L) (wh L) k ∧ t' = nI (pc (Ow (3 - Mv op L) (bl L) (wh L) &&& (Gf gd (Mv op L) (bl L) (wh L) k ^^^ (-1))))) := by
  have hc := Mv_12 ho L
  unfold f_X7_reason
  rw [if_neg (nI_in hL (by decide)), if_neg (nI_in hL (by decide)), nI_clamp (by omega)]
  rcases f_laid G N hc B hk x y t with ⟨h0, e⟩ | ⟨h0, r, e, h2⟩
  · rw [e]
    simp only [nm, Option.bind_some]
    rw [if_neg (by decide)]
    exact ⟨1, x, y, t, rfl, Or.inl ⟨h0, rfl⟩, fun z => by cases z⟩
  · rw [e]
    simp only [nm, Option.bind_some]
    rcases h2 with ⟨rfl, hs⟩ | ⟨rfl, hs⟩
    · rw [if_neg (by decide)]
      exact ⟨2, _, _, _, rfl, Or.inr (Or.inl ⟨h0, hs, rfl⟩), fun z => by cases z⟩
    · rw [if_pos rfl]
      obtain ⟨r, r1, r2⟩ := f_against (x := Nb gd (Mv op L) (bl L) (wh L) k) (y := Nw gd (Mv op L) (bl L) (wh L) k) hL ho hm hl (new_ne G hc hk h0)
      rw [r1, Option.bind_some]
      rcases r2 with ⟨a, b⟩ | ⟨a, b⟩
      · rw [a, if_neg (by decide)]
        exact ⟨3, _, _, _, rfl, Or.inr (Or.inr (Or.inl ⟨h0, hs, b, rfl⟩)), fun z => by cases z⟩
      · rw [a, if_pos rfl]
        exact ⟨0, _, _, _, rfl, Or.inr (Or.inr (Or.inr ⟨h0, hs, b, rfl⟩)), fun _ => ⟨rfl, rfl, rfl⟩⟩
theorem Why_0 {k : Nat} (a : Why gd lw op L bl wh k 0) : ¬ Oc (bl L) (wh L) k ∧ ¬ Su gd (Mv op L) (bl L) (wh L) k := by
  rcases a with ⟨a1, a2⟩ | ⟨a1, a2, a3⟩ | ⟨a1, a2, a3, a4⟩ | ⟨a1, a2, a3, a4⟩
  · cases a2
  · cases a3
  · cases a4
  · exact ⟨a1, a2⟩
/-- the class's row takes an act -/
theorem f_keep {N0 i : Nat} (hi : i < N0) (hN : N0 < 2 ^ 31) (x y : Int64) : f_X4_keep N0 bl wh (nI i) x y = some (vp_updL bl i x, vp_updL wh i y) := by
  unfold f_X4_keep
  rw [if_neg (nI_pos (by omega)), if_neg (nI_ge hi hN), if_neg (nI_ge hi hN), if_neg (nI_in hi hN), if_neg (nI_in hi hN), nI_clamp (by omega)]
theorem f_add_pass (G : GdOK w h gd) (hL : L + 1 < N0) (hN : N0 < 2 ^ 31) (x y : Int64) (ac : Nat → Int32) : f_X4_add N0 (nI lw) (nI L) op x y gd.1 (nI (w * h)) gd.2.1 gd.2.2.1 gd.2.2.2 bl wh ac (nI (w * h)) = some (1, nI (L + 1), x, y, vp_updL bl (L + 1) (bl L), vp_updL wh (L + 1) (wh L), upd ac L (nI (w * h))) := by
  unfold f_X4_add
  simp only [nm, if_true]
  rw [nI_1, if_neg (nI_ge hL hN), if_neg (nI_pos (by omega)), if_pos (nI_lt (by omega) (by omega)), f_stonesOf (by omega) hN, f_stonesOf (by omega) hN, Ow_1, Ow_2]
  simp only [Option.bind_some]
  rw [f_keep hL hN, Option.bind_some, if_neg (nI_in (show L < N0 by omega) hN), nI_clamp (by omega)]
theorem f_add_lay (G : GdOK w h gd) (hL : L + 1 < N0) (hN : N0 < 2 ^ 31) (ho : op = 1 ∨ op = 2) (hl : lw ≤ 2) (B : Bd gd (w * h) (bl L) (wh L)) {k : Nat} (hk : k < w * h) (x y : Int64) (ac : Nat → Int32) : ∃ r x' y', Why gd lw op L bl wh k r ∧ f_X4_add N0 (nI lw) (nI L) op x y gd.1 (nI (w * h)) gd.2.1 gd.2.2.1 gd.2.2.2 bl wh ac (nI k) = if r = 0 then some (1, nI (L + 1), x', y', vp_updL bl (L + 1) (Nb gd (Mv op L) (bl L) (wh L) k), vp_updL wh (L + 1) (Nw gd (Mv op L) (bl L) (wh L) k), upd ac L (nI k)) else some (0, nI L, x', y', bl, wh, ac) := by
  have hn := n_lt G
  obtain ⟨r, x', y', r1, r2, r3⟩ := f_reason4 (N0 := N0) (bl := bl) (wh := wh) G (by omega) hN ho hl B hk x y
  refine ⟨r, x', y', r2, ?_⟩
  have hkn : ¬ nI k = nI (w * h) := fun e => by have := (nI_eq (by omega) (by omega)).mp e; omega
  unfold f_X4_add
  simp only [nm]
  rw [nI_1, if_neg (nI_ge hL hN), if_neg (nI_pos (by omega)), if_pos (nI_lt (by omega) (by omega)), if_neg hkn]
  unfold f_X2_has
  rw [if_neg (nI_pos (by omega)), if_neg (nI_ge hk (by omega)), r1]
  simp only [Option.bind_some]
  rw [if_neg (by decide)]
  by_cases z : r = 0
  · obtain ⟨z1, z2⟩ := r3 z
    rw [if_pos z, if_pos z, f_keep hL hN, Option.bind_some, if_neg (nI_in (show L < N0 by omega) hN), nI_clamp (by omega), z1, z2]
  · rw [if_neg z, if_neg z]
theorem f_takeBack {L : Nat} (hL : L + 1 < 2 ^ 31) : f_X4_takeBack (nI (L + 1)) = some (nI L) := by
  unfold f_X4_takeBack
  simp only [nm]
  rw [nI_pred]
  unfold jmax
  rw [if_neg (nI_pos (by omega))]
end RS
