/-! the board's neighbours, and what hangs together -/
def aj (w n i j : Nat) : Bool := decide (i < n ∧ j < n ∧ ((j = i + 1 ∧ ¬ j % w = 0) ∨ (i = j + 1 ∧ ¬ i % w = 0) ∨ j = i + w ∨ i = j + w))
theorem aj_iff {w n i j : Nat} : aj w n i j = true ↔ (i < n ∧ j < n ∧ ((j = i + 1 ∧ ¬ j % w = 0) ∨ (i = j + 1 ∧ ¬ i % w = 0) ∨ j = i + w ∨ i = j + w)) := by unfold aj; exact decide_eq_true_iff
theorem aj_sym {w n i j : Nat} (h : aj w n i j = true) : aj w n j i = true := by
  rw [aj_iff] at h ⊢
  obtain ⟨h1, h2, h3⟩ := h
  refine ⟨h2, h1, ?_⟩
  rcases h3 with q | q | q | q
  · exact Or.inr (Or.inl q)
  · exact Or.inl q
  · exact Or.inr (Or.inr (Or.inr q))
  · exact Or.inr (Or.inr (Or.inl q))
abbrev Gd := Int32 × Int64 × Int64 × Int64
def GdOK (w h : Nat) (gd : Gd) : Prop := (2 ≤ w ∧ w ≤ 7 ∧ 2 ≤ h ∧ h ≤ 7 ∧ w * h ≤ 49) ∧ gd.1 = nI w ∧ (∀ k, mm gd.2.1 k = decide (k < w * h)) ∧ (∀ k, mm gd.2.2.1 k = decide (k < w * h ∧ ¬ k % w = 0)) ∧ ∀ k, mm gd.2.2.2 k = decide (k < w * h ∧ ¬ (k + 1) % w = 0)
def Bs (gd : Gd) (s : Int64) : Int64 := (((jshl (s &&& gd.2.2.2) 1 ||| jushr (s &&& gd.2.2.1) 1) ||| jshl s gd.1) ||| jushr s gd.1) &&& gd.2.1
section GR
variable {w h : Nat} {gd : Gd}
theorem f_beside (s : Int64) : f_X2_beside gd.1 gd.2.1 gd.2.2.1 gd.2.2.2 s = some (Bs gd s) := rfl
theorem mm_Bs (G : GdOK w h gd) {s : Int64} (hs : Sb s (w * h)) (j : Nat) : mm (Bs gd s) j = true ↔ ∃ i, mm s i = true ∧ aj w (w * h) i j = true := by
  obtain ⟨gw, ga, gf, gl⟩ := gd
  obtain ⟨⟨hw1, hw2, hh1, hh2, hn⟩, e1, ha, hf, hl⟩ := G
  dsimp only at e1 ha hf hl
  subst e1
  generalize w * h = n at *
  rcases Nat.lt_or_ge j 64 with hj | hj
  · unfold Bs
    dsimp only
    rw [mm_and, mm_or, mm_or, mm_or, show jshl (s &&& gl) 1 = jshl (s &&& gl) (nI 1) from rfl, show jushr (s &&& gf) 1 = jushr (s &&& gf) (nI 1) from rfl, mm_shl _ (by omega) hj, mm_ushr _ (by omega), mm_shl _ (by omega) hj, mm_ushr _ (by omega), mm_and, mm_and, ha, hf, hl]
    simp only [Bool.and_eq_true, Bool.or_eq_true, decide_eq_true_eq]
    constructor
    · rintro ⟨((⟨h1, h2, h3, h4⟩ | ⟨h2, h3, h4⟩) | ⟨h1, h2⟩) | h2, h0⟩
      · refine ⟨j - 1, h2, aj_iff.mpr ⟨by omega, h0, Or.inl ⟨by omega, ?_⟩⟩⟩
        rw [show j - 1 + 1 = j by omega] at h4; exact h4
      · exact ⟨1 + j, h2, aj_iff.mpr ⟨h3, h0, Or.inr (Or.inl ⟨by omega, h4⟩)⟩⟩
      · exact ⟨j - w, h2, aj_iff.mpr ⟨by omega, h0, Or.inr (Or.inr (Or.inl (by omega)))⟩⟩
      · exact ⟨w + j, h2, aj_iff.mpr ⟨hs _ h2, h0, Or.inr (Or.inr (Or.inr (by omega)))⟩⟩
    · rintro ⟨i, hi, hij⟩
      obtain ⟨h1, h2, h3⟩ := aj_iff.mp hij
      refine ⟨?_, h2⟩
      rcases h3 with ⟨q, q2⟩ | ⟨q, q2⟩ | q | q
      · subst q
        exact Or.inl (Or.inl (Or.inl ⟨by omega, by rw [Nat.add_sub_cancel]; exact hi, by rw [Nat.add_sub_cancel]; exact h1, by rw [Nat.add_sub_cancel]; exact q2⟩))
      · subst q
        exact Or.inl (Or.inl (Or.inr ⟨by rw [Nat.add_comm]; exact hi, by rw [Nat.add_comm]; exact h1, by rw [Nat.add_comm]; exact q2⟩))
      · subst q
        exact Or.inl (Or.inr ⟨by omega, by rw [Nat.add_sub_cancel]; exact hi⟩)
      · subst q
        exact Or.inr (by rw [Nat.add_comm]; exact hi)
  · constructor
    · intro q; rw [mm_big hj] at q; cases q
    · rintro ⟨i, hi, hij⟩
      have := (aj_iff.mp hij).2.1
      omega
theorem Bs_sb (G : GdOK w h gd) (s : Int64) : Sb (Bs gd s) (w * h) := fun k hk => by
  unfold Bs at hk
  rw [mm_and, G.2.2.1] at hk
  exact of_decide_eq_true (Bool.and_eq_true_iff.mp hk).2
theorem Bs_0 (G : GdOK w h gd) : Bs gd 0 = 0 := by
  rw [mm_zero_iff]
  intro k hk
  cases e : mm (Bs gd 0) k
  · rfl
  · obtain ⟨i, hi, -⟩ := (mm_Bs G (Sb.zero _) k).mp e
    rw [mm_0] at hi; cases hi
theorem Bs_mono (G : GdOK w h gd) {x y : Int64} (hy : Sb y (w * h)) (hxy : Le x y) : Le (Bs gd x) (Bs gd y) := fun k hk => by
  obtain ⟨i, h1, h2⟩ := (mm_Bs G (hxy.sb hy) k).mp hk
  exact (mm_Bs G hy k).mpr ⟨i, hxy i h1, h2⟩
theorem n_lt (G : GdOK w h gd) : w * h < 64 := by have := G.1.2.2.2.2; omega
/-- one step of spreading, and many -/
def Fs (gd : Gd) (wi x : Int64) : Int64 := x ||| (Bs gd x &&& wi)
def Sn (gd : Gd) (wi : Int64) : Nat → Int64 → Int64
  | 0, x => x
  | n + 1, x => Sn gd wi n (Fs gd wi x)
def Sp (gd : Gd) (seed wi : Int64) : Int64 := Sn gd wi 64 (seed &&& wi)
theorem Fs_le (wi x : Int64) : Le x (Fs gd wi x) := Le.orL _ _
theorem Fs_in {wi x : Int64} (h : Le x wi) : Le (Fs gd wi x) wi := Le.or h (Le.andR _ _)
theorem Sn_fix {wi : Int64} : ∀ (n : Nat) {x : Int64}, Fs gd wi x = x → Sn gd wi n x = x
  | 0, _, _ => rfl
  | n + 1, x, hx => by show Sn gd wi n (Fs gd wi x) = x; rw [hx]; exact Sn_fix n hx
theorem Sn_out {wi : Int64} : ∀ (n : Nat) (x : Int64), Sn gd wi n (Fs gd wi x) = Fs gd wi (Sn gd wi n x)
  | 0, _ => rfl
  | n + 1, x => Sn_out n (Fs gd wi x)
theorem Sn_done {wi : Int64} : ∀ (n : Nat) (x : Int64), 64 ≤ pc x + n → Fs gd wi (Sn gd wi n x) = Sn gd wi n x
  | 0, x, hn => by
    show Fs gd wi x = x
    apply Classical.byContradiction
    intro g
    have h1 := pc_lt (Fs_le (gd := gd) wi x) (fun e => g e.symm)
    have h2 := pc_le (Fs gd wi x)
    omega
  | n + 1, x, hn => by
    by_cases g : Fs gd wi x = x
    · rw [Sn_fix (n + 1) g]; exact g
    · have h1 := pc_lt (Fs_le (gd := gd) wi x) (fun e => g e.symm)
      exact Sn_done n (Fs gd wi x) (by omega)
theorem Sn_le {wi : Int64} : ∀ (n : Nat) (x : Int64), Le x (Sn gd wi n x)
  | 0, x => Le.rf x
  | n + 1, x => (Fs_le wi x).tr (Sn_le n _)
theorem Sn_in {wi : Int64} : ∀ (n : Nat) {x : Int64}, Le x wi → Le (Sn gd wi n x) wi
  | 0, _, h => h
  | n + 1, _, h => Sn_in n (Fs_in h)
theorem Sn_least (G : GdOK w h gd) {wi d : Int64} (hd : Sb d (w * h)) (hc : Le (Bs gd d &&& wi) d) : ∀ (n : Nat) {x : Int64}, Le x d → Le (Sn gd wi n x) d
  | 0, _, h => h
  | n + 1, x, h => Sn_least G hd hc n (Le.or h (fun k hk => hc k (by
      rw [mm_and] at hk ⊢
      obtain ⟨h1, h2⟩ := Bool.and_eq_true_iff.mp hk
      rw [Bs_mono G hd h k h1, h2]; rfl)))
theorem Sp_seed (seed wi : Int64) : Le (seed &&& wi) (Sp gd seed wi) := Sn_le 64 _
theorem Sp_in (seed wi : Int64) : Le (Sp gd seed wi) wi := Sn_in 64 (Le.andR _ _)
theorem Sp_fix (seed wi : Int64) : Fs gd wi (Sp gd seed wi) = Sp gd seed wi := Sn_done 64 _ (by omega)
theorem Sp_closed (seed wi : Int64) : Le (Bs gd (Sp gd seed wi) &&& wi) (Sp gd seed wi) := fun k hk => by
  rw [← Sp_fix]; exact Le.orR _ _ k hk
theorem Sp_least (G : GdOK w h gd) {seed wi d : Int64} (hd : Sb d (w * h)) (h1 : Le (seed &&& wi) d) (h2 : Le (Bs gd d &&& wi) d) : Le (Sp gd seed wi) d := Sn_least G hd h2 64 h1
theorem Sp_sb {seed wi : Int64} {n : Nat} (h : Sb wi n) : Sb (Sp gd seed wi) n := (Sp_in seed wi).sb h
theorem Fs_cls {wi x : Int64} (h : Le x wi) : (x ||| Bs gd x) &&& wi = Fs gd wi x := by
  apply mm_ext
  intro k _
  unfold Fs
  rw [mm_and, mm_or, mm_or, mm_and]
  cases e1 : mm x k
  · simp
  · simp [h k e1]
theorem pc_sb {x : Int64} {n : Nat} (h : Sb x n) (hn : n ≤ 64) : pc x ≤ n := by
  unfold pc
  have h1 := fb_ct_split (mm x) n (64 - n)
  rw [show n + (64 - n) = 64 by omega] at h1
  have hz : fb_ct (fun k => mm x (n + k)) (64 - n) = 0 := fb_ct_zero.mpr (fun k _ => by
    cases e : mm x (n + k)
    · rfl
    · have := h _ e; omega)
  rw [h1, hz]
  exact fb_ct_le _ _
theorem lp_spread (wi : Int64) (hwi : Sb wi 49) : ∀ (nF i : Nat) (x : Int64), i ≤ 49 → i ≤ pc x → 50 - i ≤ nF → Le x wi → lp_X2_spread_8 gd.1 gd.2.1 gd.2.2.1 gd.2.2.2 wi nF x (nI i) = some (Sn gd wi 64 x) := by
  intro nF
  induction nF with
  | zero => intro i x h1 h2 h3; omega
  | succ nF ih =>
    intro i x h1 h2 h3 hx
    rw [lp_X2_spread_8]
    by_cases hi : i = 49
    · subst hi
      rw [if_pos (by show nI 49 ≤ nI 49; exact nI_le (Nat.le_refl _) (by omega)), Sn_fix]
      apply Classical.byContradiction
      intro g
      have h4 := pc_lt (Fs_le (gd := gd) wi x) (fun e => g e.symm)
      have h5 := pc_sb ((Fs_in (gd := gd) hx).sb hwi) (by omega)
      omega
    · rw [if_neg (by show ¬ nI 49 ≤ nI i; exact nI_ge (by omega) (by omega)), f_beside]
      simp only [Option.bind_some, nm]
      rw [Fs_cls hx]
      by_cases g : Fs gd wi x = x
      · rw [if_pos g, Sn_fix 64 g]
      · rw [if_neg g, nI_1, ih (i + 1) _ (by omega) (by have := pc_lt (Fs_le (gd := gd) wi x) (fun e => g e.symm); omega) (by omega) (Fs_in hx)]
        rw [Sn_out, Sn_done 64 x (by omega)]
theorem f_spread {seed wi : Int64} (hwi : Sb wi 49) : f_X2_spread gd.1 gd.2.1 gd.2.2.1 gd.2.2.2 seed wi = some (Sp gd seed wi) := by
  unfold f_X2_spread
  exact lp_spread wi hwi FU 0 _ (by omega) (by omega) (by have := FU_ge; omega) (Le.andR _ _)
/-- the reference's tables -/
def NbOK (w h : Nat) (mw mh : Int32) (nb : Nat → Int64) : Prop := mw = nI w ∧ mh = nI h ∧ ∀ k, k < w * h → ∀ j, mm (nb k) j = aj w (w * h) k j
theorem f_size {w h : Nat} : f_X7_size (nI w) (nI h) = some (nI (w * h)) := by rw [← pk_mul]; rfl
theorem lp_around {w h : Nat} {nb : Nat → Int64} (hn : w * h ≤ 49) (s : Int64) : ∀ (nF k : Nat) (acc : Int64), k ≤ w * h → w * h - k < nF → ∃ r, lp_X7_around_5 (nI w) (nI h) nb s nF acc (nI k) = some r ∧ ∀ j, mm r j = true ↔ (mm acc j = true ∨ ∃ i, k ≤ i ∧ i < w * h ∧ mm s i = true ∧ mm (nb i) j = true) := by
  intro nF
  induction nF with
  | zero => intro k acc h1 h2; omega
  | succ nF ih =>
    intro k acc h1 h2
    rw [lp_X7_around_5, f_size]
    simp only [Option.bind_some, nm]
    by_cases hk : k = w * h
    · rw [if_pos (nI_le (by omega) (by omega))]
      refine ⟨acc, rfl, fun j => ⟨Or.inl, fun g => ?_⟩⟩
      rcases g with g | ⟨i, g1, g2, -⟩
      · exact g
      · omega
    · rw [if_neg (nI_ge (by omega) (by omega))]
      by_cases hs : mm s k = true
      · rw [if_pos ((test_s s (by omega)).mpr hs), if_neg (nI_in (N := 49) (by omega) (by omega)), nI_clamp (by omega), nI_1]
        obtain ⟨r, e, hr⟩ := ih (k + 1) (acc ||| nb k) (by omega) (by omega)
        refine ⟨r, e, fun j => (hr j).trans ?_⟩
        rw [mm_or, Bool.or_eq_true]
        constructor
        · rintro ((g | g) | ⟨i, g1, g2, g3, g4⟩)
          · exact Or.inl g
          · exact Or.inr ⟨k, by omega, by omega, hs, g⟩
          · exact Or.inr ⟨i, by omega, g2, g3, g4⟩
        · rintro (g | ⟨i, g1, g2, g3, g4⟩)
          · exact Or.inl (Or.inl g)
          · by_cases e2 : i = k
            · subst e2; exact Or.inl (Or.inr g4)
            · exact Or.inr ⟨i, by omega, g2, g3, g4⟩
      · rw [if_neg (fun g => hs ((test_s s (by omega)).mp g)), nI_1]
        obtain ⟨r, e, hr⟩ := ih (k + 1) (acc ||| 0) (by omega) (by omega)
        refine ⟨r, e, fun j => (hr j).trans ?_⟩
        rw [mm_or, mm_0, Bool.or_false]
        constructor
        · rintro (g | ⟨i, g1, g2, g3, g4⟩)
          · exact Or.inl g
          · exact Or.inr ⟨i, by omega, g2, g3, g4⟩
        · rintro (g | ⟨i, g1, g2, g3, g4⟩)
          · exact Or.inl g
          · by_cases e2 : i = k
            · subst e2; exact absurd g3 hs
            · exact Or.inr ⟨i, by omega, g2, g3, g4⟩
theorem f_around (G : GdOK w h gd) {mw mh : Int32} {nb : Nat → Int64} (N : NbOK w h mw mh nb) {s : Int64} (hs : Sb s (w * h)) : f_X7_around mw mh nb s = some (Bs gd s) := by
  obtain ⟨rfl, rfl, hnb⟩ := N
  obtain ⟨r, e, hr⟩ := lp_around (w := w) (h := h) (nb := nb) G.1.2.2.2.2 s FU 0 0 (by omega) (by have := G.1.2.2.2.2; have := FU_ge; omega)
  unfold f_X7_around
  rw [show (0 : Int32) = nI 0 from rfl, e]
  congr 1
  apply Le.anti
  · intro j hj
    rcases (hr j).mp hj with g | ⟨i, -, g2, g3, g4⟩
    · rw [mm_0] at g; cases g
    · rw [hnb i g2] at g4
      exact (mm_Bs G hs j).mpr ⟨i, g3, g4⟩
  · intro j hj
    obtain ⟨i, g1, g2⟩ := (mm_Bs G hs j).mp hj
    exact (hr j).mpr (Or.inr ⟨i, by omega, hs i g1, g1, by rw [hnb i (hs i g1)]; exact g2⟩)
theorem lp_spread7 (G : GdOK w h gd) {mw mh : Int32} {nb : Nat → Int64} (N : NbOK w h mw mh nb) {wi : Int64} (hwi : Sb wi (w * h)) : ∀ (nF : Nat) (x had : Int64), (had = x → Fs gd wi x = x) → Le x wi → 66 - pc x ≤ nF → lp_X7_spread_8 mw mh nb wi nF x had = some (Sn gd wi 64 x) := by
  intro nF
  induction nF with
  | zero => intro x had h1 h2 h3; have := pc_le x; omega
  | succ nF ih =>
    intro x had h1 h2 h3
    rw [lp_X7_spread_8]
    by_cases g : had = x
    · rw [if_pos g, Sn_fix 64 (h1 g)]
    · rw [if_neg g, f_around G N (h2.sb hwi)]
      simp only [Option.bind_some, nm]
      show lp_X7_spread_8 mw mh nb wi nF (Fs gd wi x) x = _
      by_cases e : Fs gd wi x = x
      · rw [e]
        obtain ⟨k, rfl⟩ : ∃ k, nF = k + 1 := ⟨nF - 1, by have := pc_le x; omega⟩
        rw [lp_X7_spread_8, if_pos rfl, Sn_fix 64 e]
      · have h4 := pc_lt (Fs_le (gd := gd) wi x) (fun z => e z.symm)
        rw [ih (Fs gd wi x) x (fun z => absurd z.symm e) (Fs_in h2) (by omega), Sn_out, Sn_done 64 x (by omega)]
theorem f_spread7 (G : GdOK w h gd) {mw mh : Int32} {nb : Nat → Int64} (N : NbOK w h mw mh nb) {seed wi : Int64} (hwi : Sb wi (w * h)) : f_X7_spread mw mh nb seed wi = some (Sp gd seed wi) := by
  unfold f_X7_spread
  refine lp_spread7 G N hwi FU _ 0 (fun z => ?_) (Le.andR _ _) (by have := FU_ge; omega)
  rw [← z]
  unfold Fs
  rw [Bs_0 G]
  apply mm_ext
  intro k _
  rw [mm_or, mm_and, mm_0]; rfl
end GR
