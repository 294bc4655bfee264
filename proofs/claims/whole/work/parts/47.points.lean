/-! points, and the i-th crossing -/
section PO
variable {w h : Nat} {gd : Gd} {mw mh : Int32} {nb : Nat → Int64} {L : Nat} {bl wh : Nat → Int64}
theorem pc_or {x y : Int64} (hd : ∀ j, mm x j = true → mm y j = false) : pc (x ||| y) = pc x + pc y := by
  unfold pc
  rw [← fb_ct_or (p := mm x) (q := mm y) (fun k _ q => by rw [hd k q.1] at q; exact absurd q.2 (by decide))]
  exact fb_ct_cong (fun k _ => mm_or x y k)
theorem pc_Un {V : Nat → Int64} : ∀ {n : Nat}, (∀ k k' j, k < n → k' < n → mm (V k) j = true → mm (V k') j = true → k = k') → pc (Un V n) = fb_sm (fun k => pc (V k)) n
  | 0, _ => pc_0
  | n + 1, hd => by
    rw [Un_succ, fb_sm_succ, pc_or, pc_Un (fun k k' j a b c d => hd k k' j (by omega) (by omega) c d)]
    intro j hj
    obtain ⟨k, k1, k2⟩ := (mm_Un V j n).mp hj
    cases e : mm (V n) j
    · rfl
    · have := hd k n j (by omega) (by omega) k2 e
      omega
def Hv (gd : Gd) (own oth x : Int64) : Int64 := if Bs gd x &&& own = 0 then 0 else if Bs gd x &&& oth = 0 then x else 0
theorem Hv_le (own oth x : Int64) : Le (Hv gd own oth x) x := by
  unfold Hv
  split
  · intro k hk; rw [mm_0] at hk; cases hk
  · split
    · exact Le.rf x
    · intro k hk; rw [mm_0] at hk; cases hk
theorem lp_freeOf (G : GdOK w h gd) {S : Int64} (hS : Sb S (w * h)) (own oth : Int64) : ∀ (nF i : Nat), i ≤ w * h → w * h - i < nF → lp_X2_freeOf_20 gd.1 (nI (w * h)) gd.2.1 gd.2.2.1 gd.2.2.2 own oth S nF (Un (fun k => Hv gd own oth (Pf gd S k)) i) (nI i) = some (Un (fun k => Hv gd own oth (Pf gd S k)) (w * h)) := by
  have hn := n_lt G
  intro nF
  induction nF with
  | zero => intro i h1 h2; omega
  | succ nF ih =>
    intro i h1 h2
    rw [lp_X2_freeOf_20]
    by_cases hi : i = w * h
    · rw [hi, if_pos (nI_le (Nat.le_refl _) (by omega))]
    · rw [if_neg (nI_ge (by omega) (by omega)), f_partFrom G hS (by omega)]
      simp only [Option.bind_some, f_beside, nm]
      have h3 := ih (i + 1) (by omega) (by omega)
      rw [Un_succ] at h3
      rw [nI_1]
      by_cases e : Bs gd (Pf gd S i) &&& own = 0
      · rw [if_pos e]
        rw [show Hv gd own oth (Pf gd S i) = 0 from if_pos e, or_0] at h3
        exact h3
      · rw [if_neg e]
        by_cases e2 : Bs gd (Pf gd S i) &&& oth = 0
        · rw [if_pos e2]
          rw [show Hv gd own oth (Pf gd S i) = Pf gd S i from (if_neg e).trans (if_pos e2)] at h3
          exact h3
        · rw [if_neg e2]
          rw [show Hv gd own oth (Pf gd S i) = 0 from (if_neg e).trans (if_neg e2), or_0] at h3
          exact h3
def Pn (gd : Gd) (own oth x : Int64) : Nat := pc (Hv gd own oth x)
theorem f_freeOf (G : GdOK w h gd) (own oth : Int64) : ∃ x, f_X2_freeOf gd.1 (nI (w * h)) gd.2.1 gd.2.2.1 gd.2.2.2 own oth = some x ∧ pc x = Sm gd (Fr gd own oth) (Fr gd own oth) (Pn gd own oth) (w * h) := by
  have hS := Fr_sb G own oth
  unfold f_X2_freeOf
  simp only [nm]
  refine ⟨_, lp_freeOf G hS own oth FU 0 (by omega) (by have := n_lt G; have := FU_ge; omega), ?_⟩
  have hv : ∀ k j, mm (Hv gd own oth (Pf gd (Fr gd own oth) k)) j = true → lst gd (Fr gd own oth) k = true ∧ mm (Cm gd (Fr gd own oth) k) j = true := fun k j hj => by
    have h1 := Hv_le own oth _ j hj
    unfold Pf at h1
    cases e : lst gd (Fr gd own oth) k
    · rw [e, if_neg (by decide), mm_0] at h1; cases h1
    · rw [e, if_pos rfl] at h1
      exact ⟨rfl, h1⟩
  rw [pc_Un (fun k k' j _ _ a b => lst_uniq G hS (hv k j a).1 (hv k' j b).1 (hv k j a).2 (hv k' j b).2)]
  exact Sm_cls (F := Pn gd own oth) (by
    unfold Pn Hv
    rw [Bs_0 G, if_pos (and0.mpr (fun j hj => by rw [mm_0] at hj; cases hj))]
    exact pc_0) (fun k h1 h2 => by
    have h3 : mm (Fr gd own oth) k = true := (Bool.and_eq_true_iff.mp h1).1
    rw [and0] at h2
    rw [h2 k (Cm_self h3)] at h3; cases h3) (w * h)
theorem lp_points7 (G : GdOK w h gd) (N : NbOK w h mw mh nb) (hL : L < 130) (c : Int32) {S : Int64} (hS : Sb S (w * h)) (K : Int32 → Option Int32) : ∀ (nF : Nat) (T : Int64) (m : Nat), pc T < nF → Le T S → lp_X7_pointsOf_29 mw mh (nI L) nb bl wh c S K nF T (nI m) = K (nI (m + Sm gd S T (Pn gd (Ow c (bl L) (wh L)) (Ow (3 - c) (bl L) (wh L))) (w * h))) := by
  intro nF
  induction nF with
  | zero => intro T m h1; omega
  | succ nF ih =>
    intro T m h1 h2
    rw [lp_X7_pointsOf_29]
    by_cases h0 : T = 0
    · rw [if_pos h0, h0, Sm_zero, Nat.add_zero]
    · rw [if_neg h0, f_spread7 G N hS]
      obtain ⟨t, t1, t2, t3, t4, t5⟩ := low_step (gd := gd) h2 h0
      simp only [Option.bind_some, nm]
      have hc : Sb (Cm gd S t) (w * h) := (Cm_in S t).sb hS
      rw [t3, f_around G N hc, f_stones7 hL, Sm_step G hS _ t1 t2]
      simp only [Option.bind_some, f_X7_other, f_stones7 hL, f_many]
      generalize Ow c (bl L) (wh L) = own at *
      generalize Ow (3 - c) (bl L) (wh L) = oth at *
      have key : ∀ v, Pn gd own oth (Cm gd S t) = v → lp_X7_pointsOf_29 mw mh (nI L) nb bl wh c S K nF (T &&& (Cm gd S t ^^^ (-1))) (nI (m + v)) = K (nI (m + (Sm gd S (T &&& (Cm gd S t ^^^ (-1))) (Pn gd own oth) (w * h) + Pn gd own oth (Cm gd S t)))) := fun v hv => by
        rw [ih _ (m + v) (by omega) t5, hv]
        congr 2
        omega
      by_cases e : Bs gd (Cm gd S t) &&& own = 0
      · rw [if_pos e, Int32.add_zero]
        exact key 0 (by unfold Pn Hv; rw [if_pos e]; exact pc_0)
      · rw [if_neg e]
        by_cases e2 : Bs gd (Cm gd S t) &&& oth = 0
        · rw [if_pos e2, nI_add]
          exact key _ (by unfold Pn Hv; rw [if_neg e, if_pos e2])
        · rw [if_neg e2, Int32.add_zero]
          exact key 0 (by unfold Pn Hv; rw [if_neg e, if_neg e2]; exact pc_0)
/-- the i-th crossing of a set -/
theorem ct_up {x : Int64} {t : Nat} (h : mm x t = true) : fb_ct (mm x) (t + 1) = fb_ct (mm x) t + 1 := by rw [fb_ct_succ, h]; rfl
theorem ct_st {x : Int64} {t : Nat} (h : mm x t = false) : fb_ct (mm x) (t + 1) = fb_ct (mm x) t := by rw [fb_ct_succ, h]; rfl
theorem lp_nth (n : Nat) (hn : n < 64) (x : Int64) (a : Int32) : ∀ (nF i : Nat), i ≤ n → n - i < nF → (∃ t, i ≤ t ∧ t < n ∧ mm x t = true ∧ a = nI (fb_ct (mm x) t) ∧ lp_X2_nth_6 (nI n) x a nF (nI (fb_ct (mm x) i)) (nI i) = some (nI t)) ∨ ((∀ t, i ≤ t → t < n → mm x t = true → ¬ a = nI (fb_ct (mm x) t)) ∧ lp_X2_nth_6 (nI n) x a nF (nI (fb_ct (mm x) i)) (nI i) = some (-1)) := by
  intro nF
  induction nF with
  | zero => intro i h1 h2; omega
  | succ nF ih =>
    intro i h1 h2
    rw [lp_X2_nth_6]
    by_cases hi : i = n
    · subst hi
      rw [if_pos (nI_le (Nat.le_refl _) (by omega))]
      exact Or.inr ⟨fun t a1 a2 => by omega, rfl⟩
    · rw [if_neg (nI_ge (by omega) (by omega))]
      have h3 := ih (i + 1) (by omega) (by omega)
      cases e : mm x i
      · rw [holds_f (by omega) e, Option.bind_some, if_pos rfl, nm, nI_1]
        rw [ct_st e] at h3
        rcases h3 with ⟨t, a1, a2, a3, a4, a5⟩ | ⟨a1, a2⟩
        · exact Or.inl ⟨t, by omega, a2, a3, a4, a5⟩
        · refine Or.inr ⟨fun t b1 b2 b3 => ?_, a2⟩
          by_cases q : t = i
          · subst q; rw [e] at b3; cases b3
          · exact a1 t (by omega) b2 b3
      · rw [holds_t e, Option.bind_some, if_neg (by decide)]
        by_cases q : nI (fb_ct (mm x) i) = a
        · rw [if_pos q]
          exact Or.inl ⟨i, Nat.le_refl _, by omega, e, q.symm, rfl⟩
        · rw [if_neg q, nm, nm, nI_1, nI_1]
          rw [ct_up e] at h3
          rcases h3 with ⟨t, a1, a2, a3, a4, a5⟩ | ⟨a1, a2⟩
          · exact Or.inl ⟨t, by omega, a2, a3, a4, a5⟩
          · refine Or.inr ⟨fun t b1 b2 b3 => ?_, a2⟩
            by_cases q2 : t = i
            · subst q2; exact fun z => q z.symm
            · exact a1 t (by omega) b2 b3
theorem pc_n {x : Int64} {n : Nat} (hx : Sb x n) (hn : n ≤ 64) : pc x = fb_ct (mm x) n := by
  unfold pc
  have h1 := fb_ct_split (mm x) n (64 - n)
  rw [show n + (64 - n) = 64 by omega] at h1
  have hz : fb_ct (fun k => mm x (n + k)) (64 - n) = 0 := fb_ct_zero.mpr (fun k _ => by
    cases e : mm x (n + k)
    · rfl
    · have := hx _ e; omega)
  rw [h1, hz, Nat.add_zero]
theorem lp_breath (x : Int64) (hx : Sb x 49) (j : Nat) (hj : j < pc x) : ∀ (nF m t : Nat), m ≤ j → j - m < nF → t < 49 → mm x t = true → fb_ct (mm x) t = m → ∃ t', t' < 49 ∧ mm x t' = true ∧ fb_ct (mm x) t' = j ∧ lp_X7_breath_58 (nI j) x nF (nI t) (nI m) = some (nI t') := by
  have hpl := pc_le x
  intro nF
  induction nF with
  | zero => intro m t h1 h2; omega
  | succ nF ih =>
    intro m t h1 h2 h3 h4 h5
    rw [lp_X7_breath_58]
    by_cases hm : m = j
    · subst hm
      rw [if_pos (nI_le (Nat.le_refl _) (by omega))]
      exact ⟨t, h3, h4, h5, rfl⟩
    · rw [if_neg (nI_ge (by omega) (by omega)), nI_1]
      have hup := ct_up h4
      unfold f_X7_least
      rcases lp_least x FU (t + 1) (by omega) (by have := FU_ge; omega) with ⟨k, a1, a2, a3, a4, a5⟩ | ⟨a1, a2⟩
      · rw [a5]
        simp only [Option.bind_some, nm]
        rw [nI_1]
        refine ih (m + 1) k (by omega) (by omega) a2 a3 ?_
        have e := fb_ct_split (mm x) (t + 1) (k - (t + 1))
        have hz : fb_ct (fun i => mm x (t + 1 + i)) (k - (t + 1)) = 0 := fb_ct_zero.mpr (fun i hi => a4 (t + 1 + i) (by omega) (by omega))
        rw [show t + 1 + (k - (t + 1)) = k by omega, hz] at e
        omega
      · have e := fb_ct_split (mm x) (t + 1) (49 - (t + 1))
        have hz : fb_ct (fun i => mm x (t + 1 + i)) (49 - (t + 1)) = 0 := fb_ct_zero.mpr (fun i hi => a1 (t + 1 + i) (by omega) (by omega))
        rw [show t + 1 + (49 - (t + 1)) = 49 by omega, hz, ← pc_n hx (by decide)] at e
        omega
/-- the reference's way to the i-th crossing -/
theorem f_nth_eq (G : GdOK w h gd) {x : Int64} (hx : Sb x (w * h)) (a : Int32) : ∃ r, f_X2_nth (nI (w * h)) x a = some r ∧ ((f_X7_in a 0 (nI (pc x) - 1) = some 0 ∧ r = -1) ∨ (f_X7_in a 0 (nI (pc x) - 1) = some 1 ∧ ∃ t, f_X7_least x 0 = some t ∧ lp_X7_breath_58 a x FU t 0 = some r)) := by
  have hn := n_lt G
  have h49 := G.1.2.2.2.2
  have hpl := pc_le x
  have hx49 := Sb49 G hx
  unfold f_X2_nth
  rcases lp_nth (w * h) hn x a FU 0 (by omega) (by have := FU_ge; omega) with ⟨t, a1, a2, a3, a4, a5⟩ | ⟨a1, a2⟩
  · refine ⟨nI t, a5, Or.inr ?_⟩
    have hup := ct_up a3
    have hlt : fb_ct (mm x) t < pc x := by
      have := fb_ct_mono (mm x) (show t + 1 ≤ 64 by omega)
      unfold pc
      omega
    have e1 : nI (pc x) - 1 = nI (pc x - 1) := pk_sub (b := 1) (by omega)
    subst a4
    refine ⟨?_, ?_⟩
    · rw [e1]
      unfold f_X7_in
      rw [if_neg (nI_pos (by omega)), if_neg (nI_nlt (by omega) (by omega))]
    · rcases f_low G hx with ⟨t0, b1, b2, b3, b4, b5⟩ | ⟨b1, -, -⟩
      · refine ⟨nI t0, b5, ?_⟩
        have hz : fb_ct (mm x) t0 = 0 := fb_ct_zero.mpr b3
        obtain ⟨t', c1, c2, c3, c4⟩ := lp_breath x hx49 (fb_ct (mm x) t) hlt FU 0 t0 (by omega) (by have := FU_ge; omega) (by omega) b2 hz
        rw [show t' = t from fb_ct_kth_one c2 a3 c3] at c4
        exact c4
      · rw [b1, mm_0] at a3; cases a3
  · refine ⟨-1, a2, Or.inl ⟨?_, rfl⟩⟩
    unfold f_X7_in
    by_cases h0 : a < 0
    · rw [if_pos h0]
    · rw [if_neg h0]
      obtain ⟨j, hj, rfl⟩ := nI_of h0
      rcases Nat.lt_or_ge j (pc x) with q | q
      · rw [pc_n hx (by omega)] at q
        obtain ⟨i, i1, i2, i3⟩ := fb_ct_kth q
        exact absurd (by rw [i3]) (a1 i (by omega) i1 i2)
      · by_cases hz : pc x = 0
        · rw [hz, if_pos]
          show nI 0 - 1 < nI j
          have : (nI 0 - 1 : Int32) = -1 := by decide
          rw [this, Int32.lt_iff_toInt_lt, nI_toInt hj]
          show (-1 : Int) < _
          omega
        · rw [show nI (pc x) - 1 = nI (pc x - 1) from pk_sub (b := 1) (by omega), if_pos (nI_lt (by omega) hj)]
end PO
