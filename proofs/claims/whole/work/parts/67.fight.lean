/-! fights: the abstract one, and the class's -/
def gk (stop : Int32) (lg : Nat → Bool) (F : Nat → Nat → Int32 × Nat) : List Nat → Nat → Nat
  | [], _ => 0
  | k :: ks, T => if lg k = true then (if T < 600 then (if (F k (T + 1)).1 = stop then gk stop lg F ks (F k (T + 1)).2 else k) else k) else gk stop lg F ks T
theorem gk_skip {stop : Int32} {lg : Nat → Bool} {F : Nat → Nat → Int32 × Nat} {k : Nat} {ks : List Nat} {T : Nat} (h : lg k = false) : gk stop lg F (k :: ks) T = gk stop lg F ks T := by rw [gk, if_neg (by rw [h]; decide)]
theorem gk_full {stop : Int32} {lg : Nat → Bool} {F : Nat → Nat → Int32 × Nat} {k : Nat} {ks : List Nat} {T : Nat} (h : lg k = true) (hT : ¬ T < 600) : gk stop lg F (k :: ks) T = k := by rw [gk, if_pos h, if_neg hT]
theorem gk_on {stop : Int32} {lg : Nat → Bool} {F : Nat → Nat → Int32 × Nat} {k : Nat} {ks : List Nat} {T : Nat} (h : lg k = true) (hT : T < 600) (hF : (F k (T + 1)).1 = stop) : gk stop lg F (k :: ks) T = gk stop lg F ks (F k (T + 1)).2 := by rw [gk, if_pos h, if_pos hT, if_pos hF]
theorem gk_out {stop : Int32} {lg : Nat → Bool} {F : Nat → Nat → Int32 × Nat} {k : Nat} {ks : List Nat} {T : Nat} (h : lg k = true) (hT : T < 600) (hF : ¬ (F k (T + 1)).1 = stop) : gk stop lg F (k :: ks) T = k := by rw [gk, if_pos h, if_pos hT, if_neg hF]
/-- the crossings from i on, and the pass -/
def up_to : Nat → Nat → List Nat
  | 0, _ => []
  | m + 1, i => i :: up_to m (i + 1)
section FI
variable (gd : Gd) (nn lw : Nat) (op at' : Int32) (t : Nat)
noncomputable def lgf (gd : Gd) (nn lw : Nat) (op : Int32) (L : Nat) (B W : Nat → Int64) (k : Nat) : Bool := if k = nn then true else cdec (Why gd lw op L B W k 0)
def Xb (gd : Gd) (nn : Nat) (op : Int32) (L : Nat) (B W : Nat → Int64) (k : Nat) : Int64 := if k = nn then B L else Nb gd (Mv op L) (B L) (W L) k
def Xw (gd : Gd) (nn : Nat) (op : Int32) (L : Nat) (B W : Nat → Int64) (k : Nat) : Int64 := if k = nn then W L else Nw gd (Mv op L) (B L) (W L) k
def Un1 (op at' : Int32) (L : Nat) : Int32 := if Mv op L = at' then 1 else 0
noncomputable def TI : Nat → Nat → (Nat → Int64) → (Nat → Int64) → Nat → Int32 × Nat
  | 0, _, _, _, T => (0, T)
  | m + 1, L, B, W, T => gq (Un1 op at' L) (lgf gd nn lw op L B W) (fun k T => if Co (Xb gd nn op L B W k) (Xw gd nn op L B W k) t = at' then TI m (L + 1) (vp_updL B (L + 1) (Xb gd nn op L B W k)) (vp_updL W (L + 1) (Xw gd nn op L B W k)) T else (1, T)) (up_to (nn + 1) 0) T
noncomputable def TF (m L : Nat) (B W : Nat → Int64) (k T : Nat) : Int32 × Nat := if Co (Xb gd nn op L B W k) (Xw gd nn op L B W k) t = at' then TI gd nn lw op at' t m (L + 1) (vp_updL B (L + 1) (Xb gd nn op L B W k)) (vp_updL W (L + 1) (Xw gd nn op L B W k)) T else (1, T)
theorem TI_succ (m L : Nat) (B W : Nat → Int64) (T : Nat) : TI gd nn lw op at' t (m + 1) L B W T = gq (Un1 op at' L) (lgf gd nn lw op L B W) (TF gd nn lw op at' t m L B W) (up_to (nn + 1) 0) T := rfl
theorem TI_le : ∀ (m L : Nat) (B W : Nat → Int64) (T : Nat), T ≤ 600 → (TI gd nn lw op at' t m L B W T).2 ≤ 600
  | 0, _, _, _, _, h => h
  | m + 1, L, B, W, T, h => by
    rw [TI_succ]
    refine gq_le (fun k T hT => ?_) _ _ h
    unfold TF
    split
    · exact TI_le m _ _ _ _ hT
    · exact hT
theorem TF_le (m L : Nat) (B W : Nat → Int64) (k T : Nat) (h : T ≤ 600) : (TF gd nn lw op at' t m L B W k T).2 ≤ 600 := by
  unfold TF
  split
  · exact TI_le gd nn lw op at' t m _ _ _ _ h
  · exact h
theorem TI_01 : ∀ (m L : Nat) (B W : Nat → Int64) (T : Nat), (TI gd nn lw op at' t m L B W T).1 = 0 ∨ (TI gd nn lw op at' t m L B W T).1 = 1 ∨ (TI gd nn lw op at' t m L B W T).1 = -5
  | 0, _, _, _, _ => Or.inl rfl
  | m + 1, L, B, W, T => by
    rw [TI_succ]
    have hF : ∀ k T, (TF gd nn lw op at' t m L B W k T).1 = 0 ∨ (TF gd nn lw op at' t m L B W k T).1 = 1 ∨ (TF gd nn lw op at' t m L B W k T).1 = -5 := fun k T => by
      unfold TF
      split
      · exact TI_01 m _ _ _ _
      · exact Or.inr (Or.inl rfl)
    generalize up_to (nn + 1) 0 = l
    induction l generalizing T with
    | nil =>
      rw [gq_nil]
      unfold Un1
      split
      · exact Or.inr (Or.inl rfl)
      · exact Or.inl rfl
    | cons k ks ih =>
      cases e : lgf gd nn lw op L B W k
      · rw [gq_skip e]; exact ih T
      · by_cases hT : T < 600
        · by_cases q : (TF gd nn lw op at' t m L B W k (T + 1)).1 = Un1 op at' L
          · rw [gq_on e hT q]; exact ih _
          · rw [gq_out e hT q]; exact hF k _
        · rw [gq_full e hT]; exact Or.inr (Or.inr rfl)
end FI
section FC
variable {w h : Nat} {gd : Gd} {lw : Nat} {op at' : Int32} {t : Nat}
theorem X_bd (G : GdOK w h gd) (ho : op = 1 ∨ op = 2) {L : Nat} {B W : Nat → Int64} (Bb : Bd gd (w * h) (B L) (W L)) {k : Nat} (hk : k ≤ w * h) (hl : lgf gd (w * h) lw op L B W k = true) : Bd gd (w * h) (Xb gd (w * h) op L B W k) (Xw gd (w * h) op L B W k) := by
  unfold Xb Xw
  by_cases e : k = w * h
  · rw [if_pos e, if_pos e]; exact Bb
  · rw [if_neg e, if_neg e]
    unfold lgf at hl
    rw [if_neg e] at hl
    obtain ⟨a, b⟩ := Why_0 (cdec_of hl)
    exact Bd_new G (Mv_12 ho L) Bb (by omega) a b
theorem add_fight (G : GdOK w h gd) (ho : op = 1 ∨ op = 2) (hl : lw ≤ 2) {L : Nat} (hL : L + 1 < 127) {B W bl' wh' : Nat → Int64} (U : Up L B W bl' wh') (Bb : Bd gd (w * h) (B L) (W L)) {k : Nat} (hk : k ≤ w * h) (x y : Int64) (ac : Nat → Int32) : ∃ x' y', f_X4_add 127 (nI lw) (nI L) op x y gd.1 (nI (w * h)) gd.2.1 gd.2.2.1 gd.2.2.2 bl' wh' ac (nI k) = if lgf gd (w * h) lw op L B W k = true then some (1, nI (L + 1), x', y', vp_updL bl' (L + 1) (Xb gd (w * h) op L B W k), vp_updL wh' (L + 1) (Xw gd (w * h) op L B W k), upd ac L (nI k)) else some (0, nI L, x', y', bl', wh', ac) := by
  have e1 := (U L (Nat.le_refl _)).1
  have e2 := (U L (Nat.le_refl _)).2
  by_cases e : k = w * h
  · subst e
    refine ⟨x, y, ?_⟩
    rw [f_add_pass G hL (by decide), if_pos (show lgf gd (w * h) lw op L B W (w * h) = true from if_pos rfl), show Xb gd (w * h) op L B W (w * h) = B L from if_pos rfl, show Xw gd (w * h) op L B W (w * h) = W L from if_pos rfl, e1, e2]
  · obtain ⟨r, x', y', r1, r2⟩ := f_add_lay (lw := lw) (N0 := 127) (bl := bl') (wh := wh') (op := op) G hL (by decide) ho hl (by rw [e1, e2]; exact Bb) (k := k) (by omega) x y ac
    rw [e1, e2] at r2
    refine ⟨x', y', r2.trans ?_⟩
    have r3 : Why gd lw op L B W k r := Why_cong (fun i hi => (U i hi).1) (fun i hi => (U i hi).2) r1
    rw [show Xb gd (w * h) op L B W k = Nb gd (Mv op L) (B L) (W L) k from if_neg e, show Xw gd (w * h) op L B W k = Nw gd (Mv op L) (B L) (W L) k from if_neg e]
    have hlg : lgf gd (w * h) lw op L B W k = cdec (Why gd lw op L B W k 0) := if_neg e
    by_cases z : r = 0
    · subst z
      rw [if_pos rfl, if_pos (by rw [hlg]; exact cdec_t r3)]
    · rw [if_neg z, if_neg (by rw [hlg, cdec_f (fun q => z (Why_eq r3 q))]; decide)]
theorem Co_iff {b v : Int64} {n : Nat} (B : Bd gd n b v) {c : Int32} (hc : c = 1 ∨ c = 2) (k : Nat) : Co b v k = c ↔ mm (Ow c b v) k = true := by
  unfold Co
  rcases hc with rfl | rfl
  · rw [Ow_1]
    cases e : mm b k
    · rw [if_neg (by decide)]
      cases mm v k <;> decide
    · rw [if_pos rfl]; exact ⟨fun _ => rfl, fun _ => rfl⟩
  · rw [Ow_2]
    cases e : mm b k
    · rw [if_neg (by decide)]
      cases mm v k <;> decide
    · rw [if_pos rfl, B.2.2.1 k e]; decide
theorem cls_taken (G : GdOK w h gd) (ho : op = 1 ∨ op = 2) (hl : lw ≤ 2) (ht : t < w * h) : ∀ (m d L : Nat) (B W bl' wh' : Nat → Int64) (ac : Nat → Int32) (x y : Int64) (dec : Int32) (T : Nat), m < d → L + m ≤ 126 → Up L B W bl' wh' → Bd gd (w * h) (B L) (W L) → T ≤ 600 → ∃ dec' x' y' bl'' wh'' ac', fd_X1_takenIn d 127 (nI t) at' dec gd.1 (nI (w * h)) gd.2.1 gd.2.2.1 gd.2.2.2 (nI lw) (nI L) op x y bl' wh' ac (nI T) (nI m) = some ((TI gd (w * h) lw op at' t m L B W T).1, dec', nI L, x', y', bl'', wh'', ac', nI (TI gd (w * h) lw op at' t m L B W T).2) ∧ Up L B W bl'' wh'' ∧ (∀ i, i < L → ac' i = ac i) ∧ (∀ m', m = m' + 1 → ¬ (TI gd (w * h) lw op at' t m L B W T).1 = Un1 op at' L → dec' = nI (gk (Un1 op at' L) (lgf gd (w * h) lw op L B W) (TF gd (w * h) lw op at' t m' L B W) (up_to (w * h + 1) 0) T)) := by
  have hn := n_lt G
  have hFU := FU_ge
  intro m
  induction m with
  | zero =>
    intro d L B W bl' wh' ac x y dec T hd hL U Bb hT
    obtain ⟨d, rfl⟩ : ∃ j, d = j + 1 := ⟨d - 1, by omega⟩
    refine ⟨dec, x, y, bl', wh', ac, ?_, U, fun _ _ => rfl, fun m' e => by omega⟩
    show f_X1_takenIn _ _ _ _ _ _ _ _ _ _ _ _ _ _ _ _ _ _ _ _ = some ((0 : Int32), dec, nI L, x, y, bl', wh', ac, nI T)
    unfold f_X1_takenIn
    rw [if_neg (by decide)]
  | succ m ihm =>
    intro d L B W bl' wh' ac x y dec T hd hL U Bb hT
    obtain ⟨d, rfl⟩ : ∃ j, d = j + 1 := ⟨d - 1, by omega⟩
    rw [TI_succ]
    show ∃ dec' x' y' bl'' wh'' ac', f_X1_takenIn _ _ _ _ _ _ _ _ _ _ _ _ _ _ _ _ _ _ _ _ = _ ∧ _
    unfold f_X1_takenIn
    rw [if_pos (show (1 : Int32) ≤ nI (m + 1) from nI_le (a := 1) (by omega) (by omega)), f_mover op (by omega), Option.bind_some, nm_ite]
    rw [show (if Mv op L = at' then (1 : Int32) else 0) = Un1 op at' L from rfl]
    generalize hu : Un1 op at' L = u at *
    generalize hrc : (fun n_row fi_target fi_attacked fi_decidingAct g_width g_size g_all g_notFirstColumn g_notLastColumn row_law row_latest row_opener row_blackThen row_whiteThen bl wh ac t_made a0 => f_X1_takenBehindAct (fd_X1_takenIn d) n_row fi_target fi_attacked fi_decidingAct g_width g_size g_all g_notFirstColumn g_notLastColumn row_law row_latest row_opener row_blackThen row_whiteThen bl wh ac t_made a0) = rc
    -- an act's value
    have val : ∀ (k T : Nat) (x y : Int64) (dec : Int32) (b' w' : Nat → Int64) (ac : Nat → Int32), k ≤ w * h → lgf gd (w * h) lw op L B W k = true → T ≤ 600 → Up L B W b' w' → ∃ dec' x' y' b'' w'' ac', rc 127 (nI t) at' dec gd.1 (nI (w * h)) gd.2.1 gd.2.2.1 gd.2.2.2 (nI lw) (nI (L + 1)) op x y (vp_updL b' (L + 1) (Xb gd (w * h) op L B W k)) (vp_updL w' (L + 1) (Xw gd (w * h) op L B W k)) ac (nI T) (nI (m + 1)) = some ((TF gd (w * h) lw op at' t m L B W k T).1, dec', nI (L + 1), x', y', b'', w'', ac', nI (TF gd (w * h) lw op at' t m L B W k T).2) ∧ Up L B W b'' w'' ∧ (∀ i, i < L → ac' i = ac i) := by
      intro k T x y dec b' w' ac hk hlg hT U
      have BX := X_bd G ho Bb hk hlg
      generalize hxb : Xb gd (w * h) op L B W k = xb at *
      generalize hxw : Xw gd (w * h) op L B W k = xw at *
      rw [← hrc]
      dsimp only
      unfold f_X1_takenBehindAct TF
      rw [f_colourAt (by omega) (by decide) (by omega), pk_uLs, pk_uLs, Option.bind_some, hxb, hxw]
      have U1 : Up (L + 1) (vp_updL B (L + 1) xb) (vp_updL W (L + 1) xw) (vp_updL b' (L + 1) xb) (vp_updL w' (L + 1) xw) := fun i hi => by
        by_cases e : i = L + 1
        · subst e; rw [pk_uLs, pk_uLs, pk_uLs, pk_uLs]; exact ⟨rfl, rfl⟩
        · rw [pk_uLn e, pk_uLn e, pk_uLn e, pk_uLn e]; exact U i (by omega)
      have back : ∀ {b2 w2 : Nat → Int64}, Up (L + 1) (vp_updL B (L + 1) xb) (vp_updL W (L + 1) xw) b2 w2 → Up L B W b2 w2 := fun q => (Up.upd L B W xb xw).tr (q.mono (by omega))
      by_cases z : Co xb xw t = at'
      · rw [if_pos z, if_pos z, nI_pred]
        obtain ⟨dec', x', y', b'', w'', ac', r1, r2, r3, -⟩ := ihm d (L + 1) (vp_updL B (L + 1) xb) (vp_updL W (L + 1) xw) (vp_updL b' (L + 1) xb) (vp_updL w' (L + 1) xw) ac x y dec T (by omega) (by omega) U1 (by rw [pk_uLs, pk_uLs]; exact BX) hT
        rw [r1, Option.bind_some]
        exact ⟨dec', x', y', b'', w'', ac', rfl, back r2, fun i hi => r3 i (by omega)⟩
      · rw [if_neg z, if_neg z]
        exact ⟨_, _, _, _, _, _, rfl, back U1, fun _ _ => rfl⟩
    -- the loop
    have loop : ∀ (nF i T : Nat) (x y : Int64) (dec : Int32) (b' w' : Nat → Int64) (ac : Nat → Int32), i ≤ w * h + 1 → w * h + 1 - i < nF → T ≤ 600 → Up L B W b' w' → ∃ dec' x' y' b'' w'' ac', lp_X1_takenIn_29 127 (nI t) at' gd.1 (nI (w * h)) gd.2.1 gd.2.2.1 gd.2.2.2 (nI lw) op (nI (m + 1)) rc u nF (nI i) dec (nI L) x y b' w' ac (nI T) = some ((gq u (lgf gd (w * h) lw op L B W) (TF gd (w * h) lw op at' t m L B W) (up_to (w * h + 1 - i) i) T).1, dec', nI L, x', y', b'', w'', ac', nI (gq u (lgf gd (w * h) lw op L B W) (TF gd (w * h) lw op at' t m L B W) (up_to (w * h + 1 - i) i) T).2) ∧ Up L B W b'' w'' ∧ (∀ j, j < L → ac' j = ac j) ∧ (¬ (gq u (lgf gd (w * h) lw op L B W) (TF gd (w * h) lw op at' t m L B W) (up_to (w * h + 1 - i) i) T).1 = u → dec' = nI (gk u (lgf gd (w * h) lw op L B W) (TF gd (w * h) lw op at' t m L B W) (up_to (w * h + 1 - i) i) T)) := by
      have hspu : ¬ (-5 : Int32) = u := by rw [← hu]; unfold Un1; split <;> decide
      intro nF
      induction nF with
      | zero => intro i T x y dec b' w' ac h1 h2; omega
      | succ nF ih =>
        intro i T x y dec b' w' ac h1 h2 h3 U
        by_cases hi : i = w * h + 1
        · subst hi
          rw [Nat.sub_self, show up_to 0 (w * h + 1) = [] from rfl, gq_nil]
          refine ⟨dec, x, y, b', w', ac, ?_, U, fun _ _ => rfl, fun z => absurd rfl z⟩
          rw [lp_X1_takenIn_29, if_pos (nI_lt (by omega) (by omega))]
        · obtain ⟨mm', hm⟩ : ∃ j, w * h + 1 - i = j + 1 := ⟨w * h - i, by omega⟩
          have hm' : w * h + 1 - (i + 1) = mm' := by omega
          rw [hm, show up_to (mm' + 1) i = i :: up_to mm' (i + 1) from rfl, ← hm']
          obtain ⟨x1, y1, ra⟩ := add_fight G ho hl (show L + 1 < 127 by omega) U Bb (k := i) (by omega) x y ac
          rw [lp_X1_takenIn_29, if_neg (nI_nlt (by omega) (by omega)), ra]
          cases el : lgf gd (w * h) lw op L B W i
          · rw [if_neg (by decide), Option.bind_some, if_pos rfl, nm_eq, nI_1, gq_skip el, gk_skip el]
            exact ih (i + 1) T x1 y1 dec b' w' ac (by omega) (by omega) h3 U
          · rw [if_pos rfl, Option.bind_some, if_neg n10]
            by_cases hT : T < 600
            · obtain ⟨dec2, x2, y2, b2, w2, a2, s1, s2, s3⟩ := val i (T + 1) x1 y1 dec b' w' (upd ac L (nI i)) (by omega) el (by omega) U
              have s4 : ∀ j, j < L → a2 j = ac j := fun j hj => by rw [s3 j hj, pk_un (by omega)]
              rw [oneMore_t hT, Option.bind_some, nm_eq, if_neg n10, s1, Option.bind_some]
              dsimp only
              rw [f_takeBack (by omega), Option.bind_some]
              by_cases q : (TF gd (w * h) lw op at' t m L B W i (T + 1)).1 = u
              · rw [if_pos q, nm_eq, nI_1, gq_on el hT q, gk_on el hT q]
                obtain ⟨dec', x', y', b'', w'', ac', r1, r2, r3, r4⟩ := ih (i + 1) (TF gd (w * h) lw op at' t m L B W i (T + 1)).2 x2 y2 dec2 b2 w2 a2 (by omega) (by omega) (TF_le gd (w * h) lw op at' t m L B W i (T + 1) (by omega)) s2
                exact ⟨dec', x', y', b'', w'', ac', r1, r2, fun j hj => (r3 j hj).trans (s4 j hj), r4⟩
              · rw [if_neg q, gq_out el hT q, gk_out el hT q]
                exact ⟨_, _, _, _, _, _, rfl, s2, s4, fun _ => rfl⟩
            · rw [oneMore_f hT h3, Option.bind_some, nm_eq, if_pos rfl]
              dsimp only
              rw [f_takeBack (by omega), Option.bind_some, if_neg hspu, gq_full el hT, gk_full el hT]
              exact ⟨_, _, _, _, _, _, rfl, U.tr (Up.upd L b' w' _ _), fun j hj => pk_un (by omega), fun _ => rfl⟩
    have key := loop FU 0 T x y dec bl' wh' ac (by omega) (by omega) hT U
    rw [Nat.sub_zero, nI_0] at key
    obtain ⟨dec', x', y', b'', w'', ac', r1, r2, r3, r4⟩ := key
    refine ⟨dec', x', y', b'', w'', ac', r1, r2, r3, fun m' e => ?_⟩
    have e2 : m' = m := by omega
    subst e2
    exact r4
end FC
