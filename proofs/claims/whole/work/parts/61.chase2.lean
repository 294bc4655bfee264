/-! the class's chase: the answers, and the whole of it -/
theorem bls_none {x : Int64} : ∀ (m i : Nat), (∀ j, i ≤ j → j < i + m → mm x j = false) → bls x m i = []
  | 0, _, _ => rfl
  | m + 1, i, h => by rw [bls_f (h i (Nat.le_refl _) (by omega)), bls_none m (i + 1) (fun j a b => h j (by omega) (by omega))]
theorem bls_low {x : Int64} {t : Nat} (ht : mm x t = true) : ∀ (m i : Nat), i ≤ t → t < i + m → (∀ j, i ≤ j → j < t → mm x j = false) → bls x m i = t :: bls x (i + m - (t + 1)) (t + 1)
  | 0, i, h1, h2, _ => by omega
  | m + 1, i, h1, h2, h3 => by
    by_cases e : i = t
    · subst e
      rw [bls_t ht]
      congr 2
      omega
    · rw [bls_f (h3 i (Nat.le_refl _) (by omega)), bls_low ht m (i + 1) (by omega) (by omega) (fun j a b => h3 j (by omega) b)]
      congr 2
      omega
theorem pc_one {x : Int64} (h : pc x = 1) : ∃ t, t < 64 ∧ mm x t = true ∧ ∀ j, ¬ j = t → mm x j = false := by
  have h0 : ¬ x = 0 := fun e => by rw [e, pc_0] at h; cases h
  obtain ⟨t, t1, t2, t3, t4, t5⟩ := low_of h0
  have h6 := pc_drop t1 t2 t5
  have h7 : pc (x &&& (x - 1)) = 0 := by omega
  refine ⟨t, t1, t2, fun j hj => ?_⟩
  rcases Nat.lt_or_ge j 64 with q | q
  · have h8 := fb_ct_zero.mp h7 j q
    rw [t5] at h8
    cases e : mm x j
    · rfl
    · rw [e, decide_eq_false hj] at h8; cases h8
  · exact mm_big q
section CA
variable {w h : Nat} {gd : Gd}
theorem f_target {N0 L t : Nat} {cc : Int32} {bl wh : Nat → Int64} (hL : L < N0) (hN : N0 < 2 ^ 31) (G : GdOK w h gd) (B : Bd gd (w * h) (bl L) (wh L)) : f_X0_targetGroup N0 (nI t) cc gd.1 gd.2.1 gd.2.2.1 gd.2.2.2 (nI L) bl wh = some (Cm gd (Ow cc (bl L) (wh L)) t) := by
  unfold f_X0_targetGroup
  rw [f_stonesOf hL hN, Option.bind_some, f_spread (Sb49 G (Bd_own B cc))]; rfl
theorem lp_taking (G : GdOK w h gd) {N0 L : Nat} {bl wh : Nat → Int64} (hL : L < N0) (hN : N0 < 2 ^ 31) {S : Int64} (hS : Sb S (w * h)) : ∀ (nF i : Nat), i ≤ w * h → w * h - i < nF → lp_X0_takingCrossings_36 N0 gd.1 (nI (w * h)) gd.2.1 gd.2.2.1 gd.2.2.2 (nI L) bl wh S nF (Un (fun k => Tv gd (Fr gd (bl L) (wh L)) (Pf gd S k)) i) (nI i) = some (Un (fun k => Tv gd (Fr gd (bl L) (wh L)) (Pf gd S k)) (w * h)) := by
  have hn := n_lt G
  intro nF
  induction nF with
  | zero => intro i h1 h2; omega
  | succ nF ih =>
    intro i h1 h2
    rw [lp_X0_takingCrossings_36]
    by_cases hi : i = w * h
    · rw [hi, if_pos (nI_le (Nat.le_refl _) (by omega))]
    · rw [if_neg (nI_ge (by omega) (by omega)), f_partFrom G hS (by omega)]
      simp only [Option.bind_some, f_beside, f_free4 hL hN, nm_eq, f_bc]
      have h3 := ih (i + 1) (by omega) (by omega)
      rw [Un_succ] at h3
      rw [nI_1]
      have hpl := pc_le (Bs gd (Pf gd S i) &&& Fr gd (bl L) (wh L))
      by_cases e : pc (Bs gd (Pf gd S i) &&& Fr gd (bl L) (wh L)) = 1
      · rw [if_pos (show nI _ = 1 by rw [e]; decide)]
        rw [show Tv gd (Fr gd (bl L) (wh L)) (Pf gd S i) = Bs gd (Pf gd S i) &&& Fr gd (bl L) (wh L) from if_pos e] at h3
        exact h3
      · rw [if_neg (show ¬ nI _ = 1 from fun q => e ((nI_eq (b := 1) (by omega) (by decide)).mp q))]
        rw [show Tv gd (Fr gd (bl L) (wh L)) (Pf gd S i) = 0 from if_neg e, or_0] at h3
        exact h3
theorem f_taking (G : GdOK w h gd) {N0 L t : Nat} {cc : Int32} {bl wh : Nat → Int64} (hL : L < N0) (hN : N0 < 2 ^ 31) (B : Bd gd (w * h) (bl L) (wh L)) : f_X0_takingCrossings N0 cc gd.1 (nI (w * h)) gd.2.1 gd.2.2.1 gd.2.2.2 (nI L) bl wh (Cm gd (Ow cc (bl L) (wh L)) t) = some (Tg gd (w * h) t cc (bl L) (wh L)) := by
  have hS := Bd_own B (3 - cc)
  unfold f_X0_takingCrossings
  rw [f_beside]
  simp only [Option.bind_some, f_X6_other]
  rw [f_stonesOf hL hN, Option.bind_some, f_spread (Sb49 G hS), Option.bind_some]
  have e := lp_taking (bl := bl) (wh := wh) G hL hN (S := Sp gd (Bs gd (Cm gd (Ow cc (bl L) (wh L)) t)) (Ow (3 - cc) (bl L) (wh L))) (Sp_sb hS) FU 0 (by omega) (by have := n_lt G; have := FU_ge; omega)
  rw [nI_0] at e
  exact e
/-- the loop over the answers behind the first -/
theorem lp_answers (G : GdOK w h gd) {op : Int32} (ho : op = 1 ∨ op = 2) {L t : Nat} {cc a0 : Int32} (hL : L + 1 < 41) {bl wh : Nat → Int64} (B : Bd gd (w * h) (bl L) (wh L)) (la : Int64) {an : Int64} (rc : Nat → Int32 → Int32 → Int32 → Int32 → Int64 → Int64 → Int64 → Int32 → Int32 → Int32 → Int64 → Int64 → (Nat → Int64) → (Nat → Int64) → (Nat → Int32) → Int32 → Int32 → Option (Int32 × Int32 × Int64 × Int64 × (Nat → Int64) × (Nat → Int64) × (Nat → Int32) × Int32)) (F : Nat → Nat → Int32 × Nat) (hF2 : ∀ k T, T ≤ 600 → (F k T).2 ≤ 600) (hrc : ∀ k T x y bl' wh' ac, k < w * h → lgb gd (Mv op L) (bl L) (wh L) (Ah bl wh L) k = true → T ≤ 600 → Up L bl wh bl' wh' → ∃ x' y' bl'' wh'' ac', rc 41 (nI t) cc gd.1 (nI (w * h)) gd.2.1 gd.2.2.1 gd.2.2.2 0 (nI (L + 1)) op x y (vp_updL bl' (L + 1) (Nb gd (Mv op L) (bl L) (wh L) k)) (vp_updL wh' (L + 1) (Nw gd (Mv op L) (bl L) (wh L) k)) ac (nI T) (a0 - 1) = some ((F k T).1, nI (L + 1), x', y', bl'', wh'', ac', nI (F k T).2) ∧ Up L bl wh bl'' wh'') : ∀ (nF i : Nat) (s : Int32) (ks : List Nat) (T : Nat) (x y : Int64) (bl' wh' : Nat → Int64) (ac : Nat → Int32), i ≤ w * h → T ≤ 600 → Up L bl wh bl' wh' → ((s = nI i ∧ ks = bls an (w * h - i) i ∧ w * h - i < nF) ∨ (i = 0 ∧ s = -1 ∧ w * h + 1 < nF ∧ ∃ k0, k0 < w * h ∧ f_X2_nth (nI (w * h)) la 0 = some (nI k0) ∧ ks = k0 :: bls an (w * h) 0)) → ∃ x' y' bl'' wh'' ac', lp_X0_answersFail_56 41 (nI t) cc gd.1 (nI (w * h)) gd.2.1 gd.2.2.1 gd.2.2.2 0 op a0 rc la an nF 1 s (nI L) x y bl' wh' ac (nI T) = some ((gq 1 (lgb gd (Mv op L) (bl L) (wh L) (Ah bl wh L)) F ks T).1, nI L, x', y', bl'', wh'', ac', nI (gq 1 (lgb gd (Mv op L) (bl L) (wh L) (Ah bl wh L)) F ks T).2) ∧ Up L bl wh bl'' wh'' := by
  have hn := n_lt G
  have hp := n_pos G
  -- a turn that is an answer
  have turn : ∀ (nF i k : Nat) (s : Int32) (ks : List Nat) (T : Nat) (x y : Int64) (bl' wh' : Nat → Int64) (ac : Nat → Int32), k < w * h → T ≤ 600 → Up L bl wh bl' wh' → ¬ nI (w * h) ≤ s → s + 1 = nI i → 1 ≤ nF → (∀ (T : Nat) (x y : Int64) (bl' wh' : Nat → Int64) (ac : Nat → Int32), T ≤ 600 → Up L bl wh bl' wh' → ∃ x' y' bl'' wh'' ac', lp_X0_answersFail_56 41 (nI t) cc gd.1 (nI (w * h)) gd.2.1 gd.2.2.1 gd.2.2.2 0 op a0 rc la an nF 1 (nI i) (nI L) x y bl' wh' ac (nI T) = some ((gq 1 (lgb gd (Mv op L) (bl L) (wh L) (Ah bl wh L)) F ks T).1, nI L, x', y', bl'', wh'', ac', nI (gq 1 (lgb gd (Mv op L) (bl L) (wh L) (Ah bl wh L)) F ks T).2) ∧ Up L bl wh bl'' wh'') → (lp_X0_answersFail_56 41 (nI t) cc gd.1 (nI (w * h)) gd.2.1 gd.2.2.1 gd.2.2.2 0 op a0 rc la an (nF + 1) 1 s (nI L) x y bl' wh' ac (nI T) = (f_X4_add 41 0 (nI L) op x y gd.1 (nI (w * h)) gd.2.1 gd.2.2.1 gd.2.2.2 bl' wh' ac (nI k)).bind fun q27 =>
          if q27.1 = 0 then (
            nm (s + 1) fun x29 =>
            lp_X0_answersFail_56 41 (nI t) cc gd.1 (nI (w * h)) gd.2.1 gd.2.2.1 gd.2.2.2 0 op a0 rc la an nF 1 x29 q27.2.1 q27.2.2.1 q27.2.2.2.1 q27.2.2.2.2.1 q27.2.2.2.2.2.1 q27.2.2.2.2.2.2 (nI T)
          )
          else (
            (f_X5_oneMore (nI T)).bind fun q30 =>
            nm (fun (w31 : Int32) (w32 : Int64) (w33 : Int64) (w34 : Nat → Int64) (w35 : Nat → Int64) (w36 : Nat → Int32) (w37 : Int32) (u38 : Int32) =>
            (f_X4_takeBack w31).bind fun q40 =>
            nm (s + 1) fun x41 =>
            lp_X0_answersFail_56 41 (nI t) cc gd.1 (nI (w * h)) gd.2.1 gd.2.2.1 gd.2.2.2 0 op a0 rc la an nF u38 x41 q40 w32 w33 w34 w35 w36 w37
            ) fun K39 =>
            if q30.1 = 0 then (
              K39 q27.2.1 q27.2.2.1 q27.2.2.2.1 q27.2.2.2.2.1 q27.2.2.2.2.2.1 q27.2.2.2.2.2.2 q30.2 (-5 : Int32)
            )
            else (
              (rc 41 (nI t) cc gd.1 (nI (w * h)) gd.2.1 gd.2.2.1 gd.2.2.2 0 q27.2.1 op q27.2.2.1 q27.2.2.2.1 q27.2.2.2.2.1 q27.2.2.2.2.2.1 q27.2.2.2.2.2.2 q30.2 (a0 - (1 : Int32))).bind fun q43 =>
              K39 q43.2.1 q43.2.2.1 q43.2.2.2.1 q43.2.2.2.2.1 q43.2.2.2.2.2.1 q43.2.2.2.2.2.2.1 q43.2.2.2.2.2.2.2 q43.1
            )
          )) → ∃ x' y' bl'' wh'' ac', lp_X0_answersFail_56 41 (nI t) cc gd.1 (nI (w * h)) gd.2.1 gd.2.2.1 gd.2.2.2 0 op a0 rc la an (nF + 1) 1 s (nI L) x y bl' wh' ac (nI T) = some ((gq 1 (lgb gd (Mv op L) (bl L) (wh L) (Ah bl wh L)) F (k :: ks) T).1, nI L, x', y', bl'', wh'', ac', nI (gq 1 (lgb gd (Mv op L) (bl L) (wh L) (Ah bl wh L)) F (k :: ks) T).2) ∧ Up L bl wh bl'' wh'' := by
    intro nF i k s ks T x y bl' wh' ac hk h3 U hs hi hnF rest start
    obtain ⟨x1, y1, ra⟩ := add_chase G ho hL U B hk x y ac
    have stopped : ∀ (v : Int32) (T' : Nat) (x y : Int64) (bl' wh' : Nat → Int64) (ac : Nat → Int32), ¬ v = 1 → lp_X0_answersFail_56 41 (nI t) cc gd.1 (nI (w * h)) gd.2.1 gd.2.2.1 gd.2.2.2 0 op a0 rc la an nF v (nI i) (nI L) x y bl' wh' ac (nI T') = some (v, nI L, x, y, bl', wh', ac, nI T') := fun v T' x y bl' wh' ac hv => by
      obtain ⟨j, rfl⟩ : ∃ j, nF = j + 1 := ⟨nF - 1, by omega⟩
      rw [lp_X0_answersFail_56]
      by_cases z : nI (w * h) ≤ nI i
      · rw [if_pos z]
      · rw [if_neg z, if_neg hv]
    cases el : lgb gd (Mv op L) (bl L) (wh L) (Ah bl wh L) k
    · rw [el, if_neg (by decide)] at ra
      rw [gq_skip el]
      obtain ⟨x', y', bl'', wh'', ac', r1, r2⟩ := rest T x1 y1 bl' wh' ac h3 U
      refine ⟨x', y', bl'', wh'', ac', ?_, r2⟩
      rw [start, ra, Option.bind_some, if_pos rfl, nm_eq, hi]
      exact r1
    · rw [el, if_pos rfl] at ra
      by_cases hT : T < 600
      · obtain ⟨x2, y2, b2, w2, a2, s1, s2⟩ := hrc k (T + 1) x1 y1 bl' wh' (upd ac L (nI k)) hk el (by omega) U
        have v1 : lp_X0_answersFail_56 41 (nI t) cc gd.1 (nI (w * h)) gd.2.1 gd.2.2.1 gd.2.2.2 0 op a0 rc la an (nF + 1) 1 s (nI L) x y bl' wh' ac (nI T) = lp_X0_answersFail_56 41 (nI t) cc gd.1 (nI (w * h)) gd.2.1 gd.2.2.1 gd.2.2.2 0 op a0 rc la an nF (F k (T + 1)).1 (nI i) (nI L) x2 y2 b2 w2 a2 (nI (F k (T + 1)).2) := by
          rw [start, ra, Option.bind_some, if_neg n10, oneMore_t hT, Option.bind_some]
          simp only [nm_eq]
          rw [if_neg n10, s1, Option.bind_some, f_takeBack (by omega), Option.bind_some, hi]
        rw [v1]
        by_cases q : (F k (T + 1)).1 = 1
        · rw [gq_on el hT q, q]
          exact rest _ x2 y2 b2 w2 a2 (hF2 k _ (by omega)) s2
        · rw [gq_out el hT q, stopped _ _ _ _ _ _ _ q]
          exact ⟨_, _, _, _, _, rfl, s2⟩
      · rw [gq_full el hT, start, ra, Option.bind_some, if_neg n10, oneMore_f hT h3, Option.bind_some]
        simp only [nm_eq]
        rw [if_pos trivial, f_takeBack (by omega), Option.bind_some, hi, stopped _ _ _ _ _ _ _ (by decide)]
        exact ⟨_, _, _, _, _, rfl, U.tr (Up.upd L bl' wh' _ _)⟩
  intro nF
  induction nF with
  | zero => intro i s ks T x y bl' wh' ac h1 h3 U hs; rcases hs with ⟨-, -, h2⟩ | ⟨-, -, h2, -⟩ <;> omega
  | succ nF ih =>
    intro i s ks T x y bl' wh' ac h1 h3 U hs
    rcases hs with ⟨rfl, rfl, h2⟩ | ⟨rfl, rfl, h2, k0, hk0, hnth, rfl⟩
    · by_cases hi : i = w * h
      · subst hi
        rw [Nat.sub_self, bls_0, gq_nil]
        refine ⟨x, y, bl', wh', ac, ?_, U⟩
        rw [lp_X0_answersFail_56, if_pos (nI_le (Nat.le_refl _) (by omega))]
      · obtain ⟨m, hm⟩ : ∃ m, w * h - i = m + 1 := ⟨w * h - i - 1, by omega⟩
        have hm' : w * h - (i + 1) = m := by omega
        rw [hm]
        have ge := nI_ge (show i < w * h by omega) (show w * h < 2 ^ 31 by omega)
        cases e : mm an i
        · rw [bls_f e, ← hm']
          obtain ⟨x', y', bl'', wh'', ac', r1, r2⟩ := ih (i + 1) (nI (i + 1)) _ T x y bl' wh' ac (by omega) h3 U (Or.inl ⟨rfl, rfl, by omega⟩)
          refine ⟨x', y', bl'', wh'', ac', ?_, r2⟩
          rw [lp_X0_answersFail_56, if_neg ge, if_pos rfl]
          simp only [nm_eq]
          rw [if_pos (nI_pos' (by omega)), if_neg (nI_pos (by omega)), holds_f (by omega) e, Option.bind_some, if_pos rfl, if_pos trivial, nI_1]
          exact r1
        · rw [bls_t e]
          refine turn nF (i + 1) i (nI i) _ T x y bl' wh' ac (by omega) h3 U ge (nI_1 i) (by omega) (fun T x y bl' wh' ac a b => ih (i + 1) (nI (i + 1)) _ T x y bl' wh' ac (by omega) a b (Or.inl ⟨rfl, by rw [← hm'], by omega⟩)) ?_
          rw [lp_X0_answersFail_56, if_neg ge, if_pos rfl]
          simp only [nm_eq]
          rw [if_pos (nI_pos' (by omega)), if_neg (nI_pos (by omega)), holds_t e, Option.bind_some, if_neg n10, if_neg n10]
    · have ge : ¬ nI (w * h) ≤ (-1 : Int32) := by
        rw [Int32.le_iff_toInt_le, nI_toInt (by omega)]
        show ¬ (_ : Int) ≤ -1
        omega
      refine turn nF 0 k0 (-1) _ T x y bl' wh' ac hk0 h3 U ge (by decide) (by omega) (fun T x y bl' wh' ac a b => ih 0 (nI 0) _ T x y bl' wh' ac (by omega) a b (Or.inl ⟨rfl, by rw [Nat.sub_zero], by omega⟩)) ?_
      rw [lp_X0_answersFail_56, if_neg ge, if_pos rfl]
      simp only [nm_eq]
      rw [if_neg (by decide), hnth, Option.bind_some, if_pos (by decide), if_neg n10]
theorem Br_sb (G : GdOK w h gd) (t : Nat) (cc : Int32) (b v : Int64) : Sb (Br gd t cc b v) (w * h) := Sb.and2 (Fr_sb G _ _)
theorem cls_caught (G : GdOK w h gd) {cc : Int32} (hc : cc = 1 ∨ cc = 2) {t : Nat} (ht : t < w * h) : ∀ (m d L : Nat) (op : Int32) (bl wh bl' wh' : Nat → Int64) (ac : Nat → Int32) (x y : Int64) (T : Nat), m < d → L + 2 * m ≤ 40 → (op = 1 ∨ op = 2) → Mv op L = 3 - cc → Up L bl wh bl' wh' → Bd gd (w * h) (bl L) (wh L) → T ≤ 600 → ∃ x' y' bl'' wh'' ac', fd_X0_caughtIn d 41 (nI t) cc gd.1 (nI (w * h)) gd.2.1 gd.2.2.1 gd.2.2.2 0 (nI L) op x y bl' wh' ac (nI T) (nI m) = some ((CI gd (w * h) t cc m (bl L) (wh L) (Ah bl wh L) T).1, nI L, x', y', bl'', wh'', ac', nI (CI gd (w * h) t cc m (bl L) (wh L) (Ah bl wh L) T).2) ∧ Up L bl wh bl'' wh'' := by
  have hn := n_lt G
  have hFU := FU_ge
  have h33 : 3 - (3 - cc) = cc := by rcases hc with rfl | rfl <;> decide
  intro m
  induction m with
  | zero =>
    intro d L op bl wh bl' wh' ac x y T hd hL ho hM U B hT
    obtain ⟨d, rfl⟩ : ∃ j, d = j + 1 := ⟨d - 1, by omega⟩
    have e1 := (U L (Nat.le_refl _)).1
    have e2 := (U L (Nat.le_refl _)).2
    refine ⟨x, y, bl', wh', ac, ?_, U⟩
    show f_X0_caughtIn _ _ _ _ _ _ _ _ _ _ _ _ _ _ _ _ _ _ _ = some ((0 : Int32), nI L, x, y, bl', wh', ac, nI T)
    unfold f_X0_caughtIn
    rw [f_target (by omega) (by decide) G (by rw [e1, e2]; exact B), Option.bind_some, f_beside, Option.bind_some, f_free4 (by omega) (by decide), Option.bind_some, nm_eq, f_bc, Option.bind_some, e1, e2]
    have hpl := pc_le (Bs gd (Cm gd (Ow cc (bl L) (wh L)) t) &&& Fr gd (bl L) (wh L))
    by_cases q1 : pc (Bs gd (Cm gd (Ow cc (bl L) (wh L)) t) &&& Fr gd (bl L) (wh L)) < 1
    · rw [if_pos (show nI _ < 1 from nI_lt (b := 1) q1 (by decide))]
    · rw [if_neg (show ¬ nI _ < 1 from nI_nlt (b := 1) (by omega) (by omega))]
      by_cases q2 : 2 < pc (Bs gd (Cm gd (Ow cc (bl L) (wh L)) t) &&& Fr gd (bl L) (wh L))
      · rw [if_pos (show (2 : Int32) < nI _ from nI_lt (a := 2) q2 (by omega))]
      · rw [if_neg (show ¬ (2 : Int32) < nI _ from nI_nlt (a := 2) (by omega) (by decide)), if_neg (nI_ge (by omega) (by omega))]
  | succ m ihm =>
    intro d L op bl wh bl' wh' ac x y T hd hL ho hM U B hT
    obtain ⟨d, rfl⟩ : ∃ j, d = j + 1 := ⟨d - 1, by omega⟩
    have e1 := (U L (Nat.le_refl _)).1
    have e2 := (U L (Nat.le_refl _)).2
    have hc3 : 3 - cc = 1 ∨ 3 - cc = 2 := by rcases hc with rfl | rfl <;> decide
    rw [CI_succ]
    show ∃ x' y' bl'' wh'' ac', f_X0_caughtIn _ _ _ _ _ _ _ _ _ _ _ _ _ _ _ _ _ _ _ = _ ∧ _
    unfold f_X0_caughtIn
    rw [f_target (by omega) (by decide) G (by rw [e1, e2]; exact B), Option.bind_some, f_beside, Option.bind_some, f_free4 (by omega) (by decide), Option.bind_some, nm_eq, f_bc, Option.bind_some, e1, e2]
    rw [show Bs gd (Cm gd (Ow cc (bl L) (wh L)) t) &&& Fr gd (bl L) (wh L) = Br gd t cc (bl L) (wh L) from rfl]
    have hpl := pc_le (Br gd t cc (bl L) (wh L))
    by_cases q1 : pc (Br gd t cc (bl L) (wh L)) < 1
    · rw [if_pos (show nI _ < 1 from nI_lt (b := 1) q1 (by decide)), if_pos (Or.inl q1)]
      exact ⟨x, y, bl', wh', ac, rfl, U⟩
    rw [if_neg (show ¬ nI (pc (Br gd t cc (bl L) (wh L))) < 1 from nI_nlt (b := 1) (by omega) (by omega))]
    by_cases q2 : 2 < pc (Br gd t cc (bl L) (wh L))
    · rw [if_pos (show (2 : Int32) < nI _ from nI_lt (a := 2) q2 (by omega)), if_pos (Or.inr (Or.inl q2))]
      exact ⟨x, y, bl', wh', ac, rfl, U⟩
    rw [if_neg (show ¬ (2 : Int32) < nI (pc (Br gd t cc (bl L) (wh L))) from nI_nlt (a := 2) (by omega) (by decide))]
    by_cases q3 : m + 1 < pc (Br gd t cc (bl L) (wh L))
    · rw [if_neg (nI_ge q3 (by omega)), if_pos (Or.inr (Or.inr q3))]
      exact ⟨x, y, bl', wh', ac, rfl, U⟩
    rw [if_pos (nI_le (by omega) (by omega)), if_neg (fun z => z.elim q1 (fun z => z.elim q2 q3))]
    have key := lp_caught (cc := cc) (a0 := nI (m + 1)) (t := t) G ho (show L + 1 < 41 by omega) B (Br_sb G t cc (bl L) (wh L)) (mny := pc (Br gd t cc (bl L) (wh L))) (by omega) (fun n_row ch_target ch_chased g_width g_size g_all g_notFirstColumn g_notLastColumn row_law row_latest row_opener row_blackThen row_whiteThen bl wh ac t_made a0 => f_X0_answersFail (fd_X0_caughtIn d) n_row ch_target ch_chased g_width g_size g_all g_notFirstColumn g_notLastColumn row_law row_latest row_opener row_blackThen row_whiteThen bl wh ac t_made a0) (fun k T => if pc (Br gd t cc (bl L) (wh L)) = 1 then (1, T) else AF gd (w * h) t cc m (bl L) (wh L) (Nb gd (3 - cc) (bl L) (wh L) k) (Nw gd (3 - cc) (bl L) (wh L) k) T) (fun k T hT => by
        split
        · exact hT
        · exact AF_le gd (w * h) t cc m _ _ _ _ T hT) (fun z k T => if_pos z) (fun z k T x y bl' wh' ac hk hl hT U => by
        rw [if_neg z]
        rw [hM] at hl ⊢
        -- the row behind this stone
        have hlc := cdec_of hl
        have B1 := Bd_new G hc3 B hk hlc.1 hlc.2.1
        have U1 : Up (L + 1) (vp_updL bl (L + 1) (Nb gd (3 - cc) (bl L) (wh L) k)) (vp_updL wh (L + 1) (Nw gd (3 - cc) (bl L) (wh L) k)) (vp_updL bl' (L + 1) (Nb gd (3 - cc) (bl L) (wh L) k)) (vp_updL wh' (L + 1) (Nw gd (3 - cc) (bl L) (wh L) k)) := fun i hi => by
          by_cases e : i = L + 1
          · subst e; rw [pk_uLs, pk_uLs, pk_uLs, pk_uLs]; exact ⟨rfl, rfl⟩
          · rw [pk_uLn e, pk_uLn e, pk_uLn e, pk_uLn e]; exact U i (by omega)
        generalize hb1 : Nb gd (3 - cc) (bl L) (wh L) k = b1 at *
        generalize hw1 : Nw gd (3 - cc) (bl L) (wh L) k = w1 at *
        have g1 : vp_updL bl (L + 1) b1 (L + 1) = b1 := pk_uLs
        have g2 : vp_updL wh (L + 1) w1 (L + 1) = w1 := pk_uLs
        have g1' : vp_updL bl' (L + 1) b1 (L + 1) = b1 := pk_uLs
        have g2' : vp_updL wh' (L + 1) w1 (L + 1) = w1 := pk_uLs
        have hAh : Ah (vp_updL bl (L + 1) b1) (vp_updL wh (L + 1) w1) (L + 1) = some (bl L, wh L) := by
          show some (vp_updL bl (L + 1) b1 L, vp_updL wh (L + 1) w1 L) = _
          rw [pk_uLn (by omega), pk_uLn (by omega)]
        have hMv : Mv op (L + 1) = cc := by rw [Mv_succ ho, hM, h33]
        have back : ∀ {b2 w2 : Nat → Int64}, Up (L + 1) (vp_updL bl (L + 1) b1) (vp_updL wh (L + 1) w1) b2 w2 → Up L bl wh b2 w2 := fun q => (Up.upd L bl wh b1 w1).tr (q.mono (by omega))
        unfold f_X0_answersFail
        rw [f_target (by omega) (by decide) G (by rw [g1', g2']; exact B1), g1', g2', Option.bind_some, f_beside, Option.bind_some, f_free4 (by omega) (by decide), g1', g2', Option.bind_some, nm_eq]
        have htk := f_taking (N0 := 41) (t := t) (cc := cc) (bl := vp_updL bl' (L + 1) b1) (wh := vp_updL wh' (L + 1) w1) (L := L + 1) G (by omega) (by decide) (by rw [g1', g2']; exact B1)
        rw [g1', g2'] at htk
        rw [htk, Option.bind_some, nm_eq, f_bc, Option.bind_some]
        rw [show Bs gd (Cm gd (Ow cc b1 w1) t) &&& Fr gd b1 w1 = Br gd t cc b1 w1 from rfl]
        have hpl2 := pc_le (Br gd t cc b1 w1)
        unfold AF
        by_cases q4 : pc (Br gd t cc b1 w1) = 1
        · rw [if_pos q4, q4]
          simp only [nm_eq]
          rw [if_pos (by decide)]
          obtain ⟨k0, k1, k2, k3⟩ := pc_one q4
          have k4 := Br_sb G t cc b1 w1 k0 k2
          have hb0 : bls (Br gd t cc b1 w1) (w * h) 0 = [k0] := by
            rw [bls_low k2 (w * h) 0 (by omega) (by omega) (fun j _ hj => k3 j (by omega)), bls_none _ _ (fun j hj _ => k3 j (by omega))]
          have hnth : f_X2_nth (nI (w * h)) (Br gd t cc b1 w1) 0 = some (nI k0) := by
            rcases f_low G (Br_sb G t cc b1 w1) with ⟨t0, a1, a2, a3, a4, a5⟩ | ⟨a1, -, -⟩
            · have : t0 = k0 := Classical.byContradiction (fun z => by rw [k3 t0 z] at a2; cases a2)
              rw [a4, this]
            · rw [a1, mm_0] at k2; cases k2
          have key2 := lp_answers (cc := cc) (a0 := nI (m + 1)) (t := t) (L := L + 1) (bl := vp_updL bl (L + 1) b1) (wh := vp_updL wh (L + 1) w1) G ho (by omega) (by rw [g1, g2]; exact B1) (Br gd t cc b1 w1) (an := Tg gd (w * h) t cc b1 w1 &&& (Br gd t cc b1 w1 ^^^ (-1))) (fd_X0_caughtIn d) (fun j T => CI gd (w * h) t cc m (Nb gd cc b1 w1 j) (Nw gd cc b1 w1 j) (some (b1, w1)) T) (fun j T hT => CI_le gd (w * h) t cc m _ _ _ T hT) (fun j T x y b' w' ac hj hlj hT U2 => by
              rw [hMv, g1, g2] at hlj ⊢
              have hlc2 := cdec_of hlj
              have B2 := Bd_new G hc B1 hj hlc2.1 hlc2.2.1
              have U3 : Up (L + 1 + 1) (vp_updL (vp_updL bl (L + 1) b1) (L + 1 + 1) (Nb gd cc b1 w1 j)) (vp_updL (vp_updL wh (L + 1) w1) (L + 1 + 1) (Nw gd cc b1 w1 j)) (vp_updL b' (L + 1 + 1) (Nb gd cc b1 w1 j)) (vp_updL w' (L + 1 + 1) (Nw gd cc b1 w1 j)) := fun i hi => by
                by_cases e : i = L + 1 + 1
                · subst e; rw [pk_uLs, pk_uLs, pk_uLs, pk_uLs]; exact ⟨rfl, rfl⟩
                · rw [pk_uLn e, pk_uLn e, pk_uLn e, pk_uLn e]; exact U2 i (by omega)
              have hA2 : Ah (vp_updL (vp_updL bl (L + 1) b1) (L + 1 + 1) (Nb gd cc b1 w1 j)) (vp_updL (vp_updL wh (L + 1) w1) (L + 1 + 1) (Nw gd cc b1 w1 j)) (L + 1 + 1) = some (b1, w1) := by
                show some (vp_updL (vp_updL bl (L + 1) b1) (L + 1 + 1) (Nb gd cc b1 w1 j) (L + 1), vp_updL (vp_updL wh (L + 1) w1) (L + 1 + 1) (Nw gd cc b1 w1 j) (L + 1)) = _
                have z1 : vp_updL (vp_updL bl (L + 1) b1) (L + 1 + 1) (Nb gd cc b1 w1 j) (L + 1) = b1 := (pk_uLn (show L + 1 ≠ L + 1 + 1 by omega)).trans g1
                have z2 : vp_updL (vp_updL wh (L + 1) w1) (L + 1 + 1) (Nw gd cc b1 w1 j) (L + 1) = w1 := (pk_uLn (show L + 1 ≠ L + 1 + 1 by omega)).trans g2
                rw [z1, z2]
              have r := ihm d (L + 1 + 1) op (vp_updL (vp_updL bl (L + 1) b1) (L + 1 + 1) (Nb gd cc b1 w1 j)) (vp_updL (vp_updL wh (L + 1) w1) (L + 1 + 1) (Nw gd cc b1 w1 j)) (vp_updL b' (L + 1 + 1) (Nb gd cc b1 w1 j)) (vp_updL w' (L + 1 + 1) (Nw gd cc b1 w1 j)) ac x y T (by omega) (by omega) ho (by rw [Mv_succ ho, hMv]) U3 (by rw [pk_uLs, pk_uLs]; exact B2) hT
              rw [pk_uLs, pk_uLs, hA2] at r
              obtain ⟨x', y', bl'', wh'', ac', r1, r2⟩ := r
              refine ⟨x', y', bl'', wh'', ac', ?_, ?_⟩
              · rw [nI_pred]; exact r1
              · exact (Up.upd (L + 1) _ _ _ _).tr (r2.mono (by omega))) FU 0 (-1) (bls (Br gd t cc b1 w1) (w * h) 0 ++ bls (Tg gd (w * h) t cc b1 w1 &&& (Br gd t cc b1 w1 ^^^ (-1))) (w * h) 0) T x y (vp_updL bl' (L + 1) b1) (vp_updL wh' (L + 1) w1) ac (by omega) hT U1 (Or.inr ⟨rfl, rfl, by omega, k0, k4, hnth, by rw [hb0]; rfl⟩)
          rw [hMv, g1, g2, hAh] at key2
          obtain ⟨x', y', bl'', wh'', ac', r1, r2⟩ := key2
          exact ⟨x', y', bl'', wh'', ac', r1, back r2⟩
        · rw [if_neg q4]
          simp only [nm_eq]
          rw [if_neg (show ¬ nI (pc (Br gd t cc b1 w1)) = 1 from fun z => q4 ((nI_eq (b := 1) (by omega) (by decide)).mp z))]
          obtain ⟨fu, hfu⟩ := FU_2
          rw [hfu, lp_X0_answersFail_56, if_neg (by
            rw [Int32.le_iff_toInt_le, nI_toInt (by omega)]
            show ¬ (_ : Int) ≤ -1
            omega), if_neg (by decide)]
          exact ⟨_, _, _, _, _, rfl, back U1⟩) FU 0 T x y bl' wh' ac (by omega) (by omega) hT U
    rw [hM, Nat.sub_zero, nI_0] at key
    exact key
end CA
