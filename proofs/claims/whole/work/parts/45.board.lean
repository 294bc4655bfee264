/-! the small methods of both, in closed form -/
theorem in_cs (x : Int32) (m : Nat) (hm : m < 2 ^ 31) : (x < 0 ∧ f_X7_in x 0 (nI m) = some 0) ∨ (¬ x < 0 ∧ ¬ x ≤ nI m ∧ nI m < x ∧ f_X7_in x 0 (nI m) = some 0) ∨ ∃ j, j ≤ m ∧ x = nI j ∧ ¬ x < 0 ∧ x ≤ nI m ∧ ¬ nI m < x ∧ f_X7_in x 0 (nI m) = some 1 := by
  unfold f_X7_in
  by_cases h0 : x < 0
  · exact Or.inl ⟨h0, if_pos h0⟩
  · obtain ⟨j, hj, rfl⟩ := nI_of h0
    rcases Nat.lt_or_ge m j with g | g
    · exact Or.inr (Or.inl ⟨h0, nI_ge g hj, nI_lt g hj, by rw [if_neg h0, if_pos (nI_lt g hj)]⟩)
    · exact Or.inr (Or.inr ⟨j, g, rfl, h0, nI_le g hm, nI_nlt g hm, by rw [if_neg h0, if_neg (nI_nlt g hm)]⟩)
theorem col_cs (x : Int32) : (¬ x = 1 ∧ ¬ x = 2 ∧ f_X6_isColour x = some 0 ∧ f_X7_in x 1 2 = some 0) ∨ ((x = 1 ∨ x = 2) ∧ f_X6_isColour x = some 1 ∧ f_X7_in x 1 2 = some 1) := by
  unfold f_X6_isColour f_X7_in
  by_cases h1 : x = 1
  · subst h1; exact Or.inr ⟨Or.inl rfl, rfl, rfl⟩
  · by_cases h2 : x = 2
    · subst h2; exact Or.inr ⟨Or.inr rfl, rfl, rfl⟩
    · refine Or.inl ⟨h1, h2, by rw [if_neg h1, if_neg h2], ?_⟩
      by_cases h3 : x < 1
      · rw [if_pos h3]
      · rw [if_neg h3, if_pos]
        have e1 : ¬ x.toInt = 1 := fun e => h1 (Int32.toInt_inj.mp e)
        have e2 : ¬ x.toInt = 2 := fun e => h2 (Int32.toInt_inj.mp e)
        rw [Int32.lt_iff_toInt_lt] at h3 ⊢
        have e3 : (1 : Int32).toInt = 1 := rfl
        have e4 : (2 : Int32).toInt = 2 := rfl
        omega
section BD
variable {w h : Nat} {gd : Gd} {mw mh : Int32} {nb : Nat → Int64}
theorem n_pos (G : GdOK w h gd) : 4 ≤ w * h := by
  have := G.1
  exact Nat.le_trans (by decide : 4 ≤ 2 * 2) (Nat.mul_le_mul this.1 this.2.2.1)
theorem f_size7 (N : NbOK w h mw mh nb) : f_X7_size mw mh = some (nI (w * h)) := by
  obtain ⟨rfl, rfl, -⟩ := N
  exact f_size
theorem ix_cs (G : GdOK w h gd) (N : NbOK w h mw mh nb) (x : Int32) : ((∀ k, k ≤ w * h → ¬ x = nI k ∨ k = w * h) ∧ f_X2_has (nI (w * h)) x = some 0 ∧ f_X7_isCrossing mw mh x = some 0) ∨ ∃ k, k < w * h ∧ x = nI k ∧ f_X2_has (nI (w * h)) x = some 1 ∧ f_X7_isCrossing mw mh x = some 1 := by
  have hn := n_lt G
  have hp := n_pos G
  unfold f_X7_isCrossing
  rw [f_size7 N]
  simp only [Option.bind_some]
  have e : nI (w * h) - 1 = nI (w * h - 1) := pk_sub (b := 1) (by omega)
  rw [e]
  unfold f_X2_has
  rcases in_cs x (w * h - 1) (by omega) with ⟨h1, h2⟩ | ⟨h1, h2, h3, h4⟩ | ⟨j, h1, rfl, h2, h3, h4, h5⟩
  · refine Or.inl ⟨fun k hk => Or.inl (fun q => ?_), by rw [if_pos h1], by rw [h2]; rfl⟩
    subst q
    exact nI_pos (by omega) h1
  · obtain ⟨j, hj, rfl⟩ := nI_of h1
    have hj2 : w * h - 1 < j := (nI_ltI (by omega) hj).mp h3
    refine Or.inl ⟨fun k hk => ?_, by rw [if_neg h1, if_pos (nI_le (by omega) hj)], by rw [h4]; rfl⟩
    by_cases q : k = w * h
    · exact Or.inr q
    · exact Or.inl (fun q2 => by have := (nI_eq hj (by omega)).mp q2; omega)
  · exact Or.inr ⟨j, by omega, rfl, by rw [if_neg h2, if_neg (nI_ge (by omega) (by omega))], by rw [h5]; rfl⟩
/-- the free crossings -/
def Fr (gd : Gd) (b v : Int64) : Int64 := gd.2.1 &&& ((b ||| v) ^^^ (-1))
theorem mm_all (G : GdOK w h gd) (k : Nat) : mm gd.2.1 k = decide (k < w * h) := G.2.2.1 k
theorem mm_Fr (G : GdOK w h gd) (b v : Int64) (k : Nat) : mm (Fr gd b v) k = (decide (k < w * h) && !mm b k && !mm v k) := by
  unfold Fr
  rw [mm_an, mm_all G, mm_or]
  cases mm b k <;> cases mm v k <;> simp
theorem Fr_sb (G : GdOK w h gd) (b v : Int64) : Sb (Fr gd b v) (w * h) := fun k hk => by
  rw [mm_Fr G] at hk
  simp at hk
  exact hk.1.1
theorem f_all7 (G : GdOK w h gd) (N : NbOK w h mw mh nb) : f_X7_all mw mh = some gd.2.1 := by
  unfold f_X7_all
  rw [f_size7 N]
  simp only [Option.bind_some]
  congr 1
  apply mm_ext
  intro k _
  rw [mm_ahead (n_lt G), mm_all G]
theorem f_free7 (G : GdOK w h gd) (N : NbOK w h mw mh nb) (b v : Int64) : f_X7_free mw mh b v = some (Fr gd b v) := by
  unfold f_X7_free
  rw [f_all7 G N]
  simp only [Option.bind_some]
  congr 1
  apply mm_ext
  intro k hk
  rw [mm_Fr G, mm_an, mm_an, mm_all G]
theorem Fr_cm (G : GdOK w h gd) (b v : Int64) : Fr gd b v = Fr gd v b := mm_ext (fun k _ => by rw [mm_Fr G, mm_Fr G]; cases mm b k <;> cases mm v k <;> simp)
/-- who lies on a crossing -/
def Co (b v : Int64) (k : Nat) : Int32 := if mm b k = true then 1 else if mm v k = true then 2 else 0
def Ow (c : Int32) (b v : Int64) : Int64 := if c = 1 then b else v
theorem Ow_1 (b v : Int64) : Ow 1 b v = b := if_pos rfl
theorem Ow_2 (b v : Int64) : Ow 2 b v = v := if_neg (by decide)
theorem holds_t {x : Int64} {k : Nat} (h : mm x k = true) : f_X2_holds x (nI k) = some 1 := by
  unfold f_X2_holds
  rw [if_neg (fun q => by rw [(test_u x (mm_lt h)).mp q] at h; cases h)]
theorem holds_f {x : Int64} {k : Nat} (hk : k < 64) (h : mm x k = false) : f_X2_holds x (nI k) = some 0 := by
  unfold f_X2_holds
  rw [if_pos ((test_u x hk).mpr h)]
theorem f_holds (x : Int64) {k : Nat} (hk : k < 64) : f_X2_holds x (nI k) = some (if mm x k = true then 1 else 0) := by
  unfold f_X2_holds
  cases e : mm x k
  · rw [if_pos ((test_u x hk).mpr e)]; rfl
  · rw [if_neg (fun q => by rw [(test_u x hk).mp q] at e; cases e)]; rfl
variable {N0 L : Nat} {bl wh : Nat → Int64}
theorem f_stonesThen (hL : L < N0) (hN : N0 < 2 ^ 31) (c : Int32) : f_X4_stonesThen N0 bl wh (nI L) c = some (Ow c (bl L) (wh L)) := by
  unfold f_X4_stonesThen Ow
  by_cases e : c = 1
  · rw [if_pos e, if_pos e, if_neg (nI_pos (by omega)), if_neg (nI_ge hL hN), if_neg (nI_in hL hN), nI_clamp (by omega)]
  · rw [if_neg e, if_neg e, if_neg (nI_pos (by omega)), if_neg (nI_ge hL hN), if_neg (nI_in hL hN), nI_clamp (by omega)]
theorem f_stonesOf (hL : L < N0) (hN : N0 < 2 ^ 31) (c : Int32) : f_X4_stonesOf N0 (nI L) bl wh c = some (Ow c (bl L) (wh L)) := by
  unfold f_X4_stonesOf
  rw [f_stonesThen hL hN]; rfl
theorem f_free4 (hL : L < N0) (hN : N0 < 2 ^ 31) : f_X4_free N0 (nI L) gd.2.1 bl wh = some (Fr gd (bl L) (wh L)) := by
  unfold f_X4_free
  rw [f_stonesThen hL hN, f_stonesThen hL hN]; rfl
theorem f_colourAt (hL : L < N0) (hN : N0 < 2 ^ 31) {k : Nat} (hk : k < 64) : f_X4_colourAt N0 (nI L) bl wh (nI k) = some (Co (bl L) (wh L) k) := by
  unfold f_X4_colourAt Co
  rw [f_stonesOf hL hN, f_stonesOf hL hN]
  simp only [Option.bind_some]
  rw [Ow_1, Ow_2, f_holds _ hk, f_holds _ hk]
  cases mm (bl L) k <;> cases mm (wh L) k <;> rfl
theorem f_atOf (hL : L < 130) {k : Nat} (hk : k < 64) : f_X7_atOf (nI L) bl wh (nI k) = some (Co (bl L) (wh L) k) := by
  unfold f_X7_atOf Co
  rw [if_neg (nI_in hL (by decide)), if_neg (nI_in hL (by decide)), nI_clamp (by omega)]
  cases e : mm (bl L) k
  · rw [if_neg (fun q => by rw [(test_s _ hk).mp q] at e; cases e)]
    cases e2 : mm (wh L) k
    · rw [if_neg (fun q => by rw [(test_s _ hk).mp q] at e2; cases e2)]; rfl
    · rw [if_pos ((test_s _ hk).mpr e2)]; rfl
  · rw [if_pos ((test_s _ hk).mpr e)]; rfl
theorem f_stones7 (hL : L < 130) (c : Int32) : f_X7_stones (nI L) bl wh c = some (Ow c (bl L) (wh L)) := by
  unfold f_X7_stones Ow
  by_cases e : c = 1
  · rw [if_pos e, if_pos e, if_neg (nI_in hL (by decide)), nI_clamp (by omega)]
  · rw [if_neg e, if_neg e, if_neg (nI_in hL (by decide)), nI_clamp (by omega)]
theorem f_breaths7 (G : GdOK w h gd) (N : NbOK w h mw mh nb) (hL : L < 130) {s : Int64} (hs : Sb s (w * h)) : f_X7_breaths mw mh (nI L) nb bl wh s = some (Bs gd s &&& Fr gd (bl L) (wh L)) := by
  unfold f_X7_breaths
  rw [f_around G N hs]
  simp only [Option.bind_some]
  rw [if_neg (nI_in hL (by decide)), if_neg (nI_in hL (by decide)), nI_clamp (by omega), f_free7 G N]; rfl
/-- whether a region is vital to a group -/
def Vt (gd : Gd) (region group fr : Int64) : Nat := if region &&& Bs gd group = 0 then 0 else if region &&& fr &&& (Bs gd group ^^^ (-1)) = 0 then 1 else 0
theorem Vt01 (region group fr : Int64) : Vt gd region group fr = 0 ∨ Vt gd region group fr = 1 := by
  unfold Vt
  split
  · exact Or.inl rfl
  · split
    · exact Or.inr rfl
    · exact Or.inl rfl
theorem f_isVital (region group fr : Int64) : f_X3_isVital gd.1 gd.2.1 gd.2.2.1 gd.2.2.2 region group fr = some (nI (Vt gd region group fr)) := by
  unfold f_X3_isVital Vt
  rw [f_beside]
  simp only [Option.bind_some]
  split
  · rfl
  · split <;> rfl
theorem f_isVital7 (G : GdOK w h gd) (N : NbOK w h mw mh nb) (hL : L < 130) (region : Int64) {group : Int64} (hg : Sb group (w * h)) : f_X7_isVital mw mh (nI L) nb bl wh region group = some (nI (Vt gd region group (Fr gd (bl L) (wh L)))) := by
  unfold f_X7_isVital Vt
  rw [f_around G N hg]
  simp only [Option.bind_some]
  rw [if_neg (nI_in hL (by decide)), if_neg (nI_in hL (by decide)), nI_clamp (by omega), f_free7 G N, f_breaths7 G N hL hg]
  simp only [Option.bind_some]
  rw [and_cm (Bs gd group) region]
  have e : region &&& Fr gd (bl L) (wh L) &&& ((Bs gd group &&& Fr gd (bl L) (wh L)) ^^^ (-1)) = region &&& Fr gd (bl L) (wh L) &&& (Bs gd group ^^^ (-1)) := mm_ext (fun k _ => by
    rw [mm_an, mm_an, mm_and, mm_and]
    cases mm region k <;> cases mm (Fr gd (bl L) (wh L)) k <;> cases mm (Bs gd group) k <;> rfl)
  rw [e]
  split
  · rfl
  · split <;> rfl
theorem Vt_0 (group fr : Int64) : Vt gd 0 group fr = 0 := if_pos (and0.mpr (fun j hj => by rw [mm_0] at hj; cases hj))
theorem Vt_0' (G : GdOK w h gd) (region fr : Int64) : Vt gd region 0 fr = 0 := if_pos (by rw [Bs_0 G]; exact and0.mpr (fun j _ => mm_0 j))
/-- the class's counts -/
theorem lp_vitalRegions (G : GdOK w h gd) {S : Int64} (hS : Sb S (w * h)) (grp fr : Int64) : ∀ (nF i : Nat), i ≤ w * h → w * h - i < nF → lp_X3_vitalRegions_6 gd.1 (nI (w * h)) gd.2.1 gd.2.2.1 gd.2.2.2 grp S fr nF (nI (fb_sm (fun k => Vt gd (Pf gd S k) grp fr) i)) (nI i) = some (nI (fb_sm (fun k => Vt gd (Pf gd S k) grp fr) (w * h))) := by
  have hn := n_lt G
  intro nF
  induction nF with
  | zero => intro i h1 h2; omega
  | succ nF ih =>
    intro i h1 h2
    rw [lp_X3_vitalRegions_6]
    by_cases hi : i = w * h
    · rw [hi, if_pos (nI_le (Nat.le_refl _) (by omega))]
    · rw [if_neg (nI_ge (by omega) (by omega)), f_partFrom G hS (by omega)]
      simp only [Option.bind_some, f_isVital, nm]
      have h3 := ih (i + 1) (by omega) (by omega)
      rw [fb_sm_succ] at h3
      rw [nI_1, nI_1, Int32.add_zero]
      rcases Vt01 (gd := gd) (Pf gd S i) grp fr with e | e
      · rw [e] at h3 ⊢
        rw [if_pos nI_0]; exact h3
      · rw [e] at h3 ⊢
        rw [if_neg (by decide)]; exact h3
theorem f_vitalRegions (G : GdOK w h gd) {S : Int64} (hS : Sb S (w * h)) (grp fr : Int64) : f_X3_vitalRegions gd.1 (nI (w * h)) gd.2.1 gd.2.2.1 gd.2.2.2 grp S fr = some (nI (fb_sm (fun k => Vt gd (Pf gd S k) grp fr) (w * h))) := by
  unfold f_X3_vitalRegions
  exact lp_vitalRegions G hS grp fr FU 0 (by omega) (by have := n_lt G; have := FU_ge; omega)
def Tc (q x : Int64) : Nat := if x &&& q = 0 then 0 else 1
theorem lp_groupsTouched (G : GdOK w h gd) {S : Int64} (hS : Sb S (w * h)) (q : Int64) : ∀ (nF i : Nat), i ≤ w * h → w * h - i < nF → lp_X3_groupsTouched_16 gd.1 (nI (w * h)) gd.2.1 gd.2.2.1 gd.2.2.2 S q nF (nI (fb_sm (fun k => Tc q (Pf gd S k)) i)) (nI i) = some (nI (fb_sm (fun k => Tc q (Pf gd S k)) (w * h))) := by
  have hn := n_lt G
  intro nF
  induction nF with
  | zero => intro i h1 h2; omega
  | succ nF ih =>
    intro i h1 h2
    rw [lp_X3_groupsTouched_16]
    by_cases hi : i = w * h
    · rw [hi, if_pos (nI_le (Nat.le_refl _) (by omega))]
    · rw [if_neg (nI_ge (by omega) (by omega)), f_partFrom G hS (by omega)]
      simp only [Option.bind_some, nm]
      have h3 := ih (i + 1) (by omega) (by omega)
      rw [fb_sm_succ] at h3
      rw [nI_1, nI_1, Int32.add_zero]
      by_cases e : Pf gd S i &&& q = 0
      · rw [if_pos e]
        rw [show Tc q (Pf gd S i) = 0 from if_pos e] at h3; exact h3
      · rw [if_neg e]
        rw [show Tc q (Pf gd S i) = 1 from if_neg e] at h3; exact h3
theorem f_groupsTouched (G : GdOK w h gd) {S : Int64} (hS : Sb S (w * h)) (r : Int64) : f_X3_groupsTouched gd.1 (nI (w * h)) gd.2.1 gd.2.2.1 gd.2.2.2 r S = some (nI (fb_sm (fun k => Tc (Bs gd r) (Pf gd S k)) (w * h))) := by
  unfold f_X3_groupsTouched
  rw [f_beside]
  exact lp_groupsTouched G hS (Bs gd r) FU 0 (by omega) (by have := n_lt G; have := FU_ge; omega)
theorem lp_vitalTo (G : GdOK w h gd) {S : Int64} (hS : Sb S (w * h)) (rg fr : Int64) : ∀ (nF i : Nat), i ≤ w * h → w * h - i < nF → lp_X3_groupsItIsVitalTo_6 gd.1 (nI (w * h)) gd.2.1 gd.2.2.1 gd.2.2.2 rg S fr nF (nI (fb_sm (fun k => Vt gd rg (Pf gd S k) fr) i)) (nI i) = some (nI (fb_sm (fun k => Vt gd rg (Pf gd S k) fr) (w * h))) := by
  have hn := n_lt G
  intro nF
  induction nF with
  | zero => intro i h1 h2; omega
  | succ nF ih =>
    intro i h1 h2
    rw [lp_X3_groupsItIsVitalTo_6]
    by_cases hi : i = w * h
    · rw [hi, if_pos (nI_le (Nat.le_refl _) (by omega))]
    · rw [if_neg (nI_ge (by omega) (by omega)), f_partFrom G hS (by omega)]
      simp only [Option.bind_some, f_isVital, nm]
      have h3 := ih (i + 1) (by omega) (by omega)
      rw [fb_sm_succ] at h3
      rw [nI_1, nI_1, Int32.add_zero]
      rcases Vt01 (gd := gd) rg (Pf gd S i) fr with e | e
      · rw [e] at h3 ⊢
        rw [if_pos nI_0]; exact h3
      · rw [e] at h3 ⊢
        rw [if_neg (by decide)]; exact h3
theorem f_vitalTo (G : GdOK w h gd) {S : Int64} (hS : Sb S (w * h)) (rg fr : Int64) : f_X3_groupsItIsVitalTo gd.1 (nI (w * h)) gd.2.1 gd.2.2.1 gd.2.2.2 rg S fr = some (nI (fb_sm (fun k => Vt gd rg (Pf gd S k) fr) (w * h))) := by
  unfold f_X3_groupsItIsVitalTo
  exact lp_vitalTo G hS rg fr FU 0 (by omega) (by have := n_lt G; have := FU_ge; omega)
/-- the reference's counts -/
def Vl (gd : Gd) (group fr out region : Int64) : Nat := if Vt gd region group fr = 0 then 0 else if Bs gd region &&& out = 0 then 1 else 0
theorem lp_vital7 (G : GdOK w h gd) (N : NbOK w h mw mh nb) (hL : L < 130) (c : Int32) {grp : Int64} (hg : Sb grp (w * h)) (out : Int64) : ∀ (nF : Nat) (T : Int64) (m : Nat), pc T < nF → Le T (gd.2.1 &&& (Ow c (bl L) (wh L) ^^^ (-1))) → lp_X7_vital_19 mw mh (nI L) nb bl wh c grp out nF T (nI m) = some (nI (m + Sm gd (gd.2.1 &&& (Ow c (bl L) (wh L) ^^^ (-1))) T (Vl gd grp (Fr gd (bl L) (wh L)) out) (w * h))) := by
  have hS : Sb (gd.2.1 &&& (Ow c (bl L) (wh L) ^^^ (-1))) (w * h) := Sb.and (fun k hk => by rw [mm_all G] at hk; exact of_decide_eq_true hk)
  generalize hSd : gd.2.1 &&& (Ow c (bl L) (wh L) ^^^ (-1)) = S at *
  intro nF
  induction nF with
  | zero => intro T m h1; omega
  | succ nF ih =>
    intro T m h1 h2
    rw [lp_X7_vital_19]
    by_cases h0 : T = 0
    · rw [if_pos h0, h0, Sm_zero, Nat.add_zero]
    · rw [if_neg h0, f_all7 G N, f_stones7 hL]
      simp only [Option.bind_some]
      rw [hSd, f_spread7 G N hS]
      obtain ⟨t, t1, t2, t3, t4, t5⟩ := low_step (gd := gd) h2 h0
      simp only [Option.bind_some]
      rw [t3, f_isVital7 G N hL _ hg]
      simp only [Option.bind_some, nm]
      have hc : Sb (Cm gd S t) (w * h) := (Cm_in S t).sb hS
      rw [f_around G N hc, Sm_step G hS _ t1 t2]
      simp only [Option.bind_some]
      have key : ∀ v, Vl gd grp (Fr gd (bl L) (wh L)) out (Cm gd S t) = v → lp_X7_vital_19 mw mh (nI L) nb bl wh c grp out nF (T &&& (Cm gd S t ^^^ (-1))) (nI (m + v)) = some (nI (m + (Sm gd S (T &&& (Cm gd S t ^^^ (-1))) (Vl gd grp (Fr gd (bl L) (wh L)) out) (w * h) + Vl gd grp (Fr gd (bl L) (wh L)) out (Cm gd S t)))) := fun v hv => by
        rw [ih _ (m + v) (by omega) t5, hv]
        congr 2
        omega
      rcases Vt01 (gd := gd) (Cm gd S t) grp (Fr gd (bl L) (wh L)) with e | e
      · rw [e, if_pos nI_0, Int32.add_zero]
        exact key 0 (if_pos e)
      · rw [e, if_neg (by decide)]
        by_cases e2 : Bs gd (Cm gd S t) &&& out = 0
        · rw [if_pos e2, nI_1]
          exact key 1 (by unfold Vl; rw [e, if_neg (by decide), if_pos e2])
        · rw [if_neg e2, Int32.add_zero]
          exact key 0 (by unfold Vl; rw [e, if_neg (by decide), if_neg e2])
theorem f_vital7 (G : GdOK w h gd) (N : NbOK w h mw mh nb) (hL : L < 130) (c : Int32) {grp : Int64} (hg : Sb grp (w * h)) (out : Int64) : f_X7_vital mw mh (nI L) nb bl wh c grp out = some (nI (fb_sm (fun k => Vl gd grp (Fr gd (bl L) (wh L)) out (Pf gd (gd.2.1 &&& (Ow c (bl L) (wh L) ^^^ (-1))) k)) (w * h))) := by
  unfold f_X7_vital
  rw [f_all7 G N, f_stones7 hL]
  simp only [Option.bind_some, nm]
  rw [show (0 : Int32) = nI 0 from rfl, lp_vital7 G N hL c hg out FU _ 0 (by have := pc_le (gd.2.1 &&& (Ow c (bl L) (wh L) ^^^ (-1))); have := FU_ge; omega) (Le.rf _), Nat.zero_add, Sm_cls (T := gd.2.1 &&& (Ow c (bl L) (wh L) ^^^ (-1)))]
  · unfold Vl; rw [Vt_0]; rfl
  · intro k h1 h2
    have h3 : mm (gd.2.1 &&& (Ow c (bl L) (wh L) ^^^ (-1))) k = true := (Bool.and_eq_true_iff.mp h1).1
    rw [and0] at h2
    rw [h2 k (Cm_self h3)] at h3; cases h3
theorem lp_region7 (G : GdOK w h gd) (N : NbOK w h mw mh nb) (hL : L < 130) (c wt : Int32) (r : Int64) (hS : Sb (Ow c (bl L) (wh L)) (w * h)) : ∀ (nF : Nat) (T : Int64) (m : Nat), pc T < nF → Le T (Ow c (bl L) (wh L)) → lp_X7_region_136 mw mh (nI L) nb bl wh c wt r nF (nI m) T = some (nI (m + Sm gd (Ow c (bl L) (wh L)) T (fun x => if wt = 2 then 1 else Vt gd r x (Fr gd (bl L) (wh L))) (w * h))) := by
  generalize hSd : Ow c (bl L) (wh L) = S at *
  intro nF
  induction nF with
  | zero => intro T m h1; omega
  | succ nF ih =>
    intro T m h1 h2
    rw [lp_X7_region_136]
    by_cases h0 : T = 0
    · rw [if_pos h0, h0, Sm_zero, Nat.add_zero]
    · rw [if_neg h0, f_stones7 hL]
      simp only [Option.bind_some]
      rw [hSd, f_spread7 G N hS]
      obtain ⟨t, t1, t2, t3, t4, t5⟩ := low_step (gd := gd) h2 h0
      simp only [Option.bind_some, nm]
      have hc : Sb (Cm gd S t) (w * h) := (Cm_in S t).sb hS
      rw [t3, f_isVital7 G N hL _ hc, Sm_step G hS _ t1 t2]
      simp only [Option.bind_some]
      have key : ∀ v, (if wt = 2 then 1 else Vt gd r (Cm gd S t) (Fr gd (bl L) (wh L))) = v → lp_X7_region_136 mw mh (nI L) nb bl wh c wt r nF (nI (m + v)) (T &&& (Cm gd S t ^^^ (-1))) = some (nI (m + (Sm gd S (T &&& (Cm gd S t ^^^ (-1))) (fun x => if wt = 2 then 1 else Vt gd r x (Fr gd (bl L) (wh L))) (w * h) + if wt = 2 then 1 else Vt gd r (Cm gd S t) (Fr gd (bl L) (wh L))))) := fun v hv => by
        rw [ih _ (m + v) (by omega) t5, hv]
        congr 2
        omega
      by_cases hw : wt = 2
      · rw [if_pos hw, nI_1]
        exact key 1 (if_pos hw)
      · rw [if_neg hw]
        rcases Vt01 (gd := gd) r (Cm gd S t) (Fr gd (bl L) (wh L)) with e | e
        · rw [if_pos (by rw [e]; rfl), Int32.add_zero]
          exact key 0 (by rw [if_neg hw, e])
        · rw [if_neg (by rw [e]; decide), nI_1]
          exact key 1 (by rw [if_neg hw, e])
/-- the region's counts are the same -/
theorem rg_2 (G : GdOK w h gd) {S r : Int64} (hS : Sb S (w * h)) : fb_sm (fun k => Tc (Bs gd r) (Pf gd S k)) (w * h) = Sm gd S (Bs gd r &&& S) (fun _ => 1) (w * h) := by
  rw [Sm_cls (T := Bs gd r &&& S)]
  · unfold Sm
    apply fb_sm_cong
    intro k _
    by_cases q : lst gd S k = true ∧ ¬ Cm gd S k &&& (Bs gd r &&& S) = 0
    · rw [if_pos q, if_pos q]
      exact if_neg (fun e => q.2 (by
        rw [and0] at e ⊢
        intro j hj
        rw [mm_and, e j hj]; rfl))
    · rw [if_neg q, if_neg q]
  · exact if_pos (and0.mpr (fun j hj => by rw [mm_0] at hj; cases hj))
  · intro k h1 h2
    apply if_pos
    rw [and0] at h2 ⊢
    intro j hj
    have := h2 j hj
    rw [mm_and, Cm_in S k j hj, Bool.and_true] at this
    exact this
theorem rg_3 (G : GdOK w h gd) {S r fr : Int64} (hS : Sb S (w * h)) (hr : Sb r (w * h)) : fb_sm (fun k => Vt gd r (Pf gd S k) fr) (w * h) = Sm gd S (Bs gd r &&& S) (fun x => Vt gd r x fr) (w * h) := by
  apply Sm_cls (F := fun x => Vt gd r x fr)
  · exact Vt_0' G r fr
  · intro k h1 h2
    apply if_pos
    rw [and_cm]
    have hc : Sb (Cm gd S k) (w * h) := (Cm_in S k).sb hS
    rw [tch G hc hr, and0]
    rw [and0] at h2
    intro j hj
    cases e : mm (Cm gd S k) j
    · rfl
    · have := h2 j e
      rw [mm_and, hj, Cm_in S k j e] at this
      cases this
/-- the lowest crossing -/
theorem lp_nth0 (n : Nat) (hn : n < 64) (x : Int64) : ∀ (nF i : Nat), i ≤ n → n - i < nF → (∀ j, j < i → mm x j = false) → (∃ t, t < n ∧ mm x t = true ∧ (∀ j, j < t → mm x j = false) ∧ lp_X2_nth_6 (nI n) x 0 nF 0 (nI i) = some (nI t)) ∨ ((∀ j, j < n → mm x j = false) ∧ lp_X2_nth_6 (nI n) x 0 nF 0 (nI i) = some (-1)) := by
  intro nF
  induction nF with
  | zero => intro i h1 h2; omega
  | succ nF ih =>
    intro i h1 h2 h3
    rw [lp_X2_nth_6]
    by_cases hi : i = n
    · subst hi
      rw [if_pos (nI_le (Nat.le_refl _) (by omega))]
      exact Or.inr ⟨h3, rfl⟩
    · rw [if_neg (nI_ge (by omega) (by omega))]
      cases e : mm x i
      · rw [holds_f (by omega) e, Option.bind_some, if_pos rfl, nm, nI_1]
        refine ih (i + 1) (by omega) (by omega) (fun j hj => ?_)
        by_cases q : j = i
        · subst q; exact e
        · exact h3 j (by omega)
      · rw [holds_t e, Option.bind_some, if_neg (by decide), if_pos rfl]
        exact Or.inl ⟨i, by omega, e, h3, rfl⟩
theorem f_low (G : GdOK w h gd) {x : Int64} (hx : Sb x (w * h)) : (∃ t, t < w * h ∧ mm x t = true ∧ (∀ j, j < t → mm x j = false) ∧ f_X2_nth (nI (w * h)) x 0 = some (nI t) ∧ f_X7_least x 0 = some (nI t)) ∨ (x = 0 ∧ f_X2_nth (nI (w * h)) x 0 = some (-1) ∧ f_X7_least x 0 = some (-1)) := by
  have hn := n_lt G
  have h49 := G.1.2.2.2.2
  rcases lp_nth0 (w * h) hn x FU 0 (by omega) (by have := FU_ge; omega) (fun j hj => absurd hj (Nat.not_lt_zero j)) with ⟨t, t1, t2, t3, t4⟩ | ⟨t1, t2⟩
  · refine Or.inl ⟨t, t1, t2, t3, t4, ?_⟩
    rcases lp_least x FU 0 (by omega) (by have := FU_ge; omega) with ⟨k, a1, a2, a3, a4, a5⟩ | ⟨a1, a2⟩
    · have : k = t := by
        rcases Nat.lt_trichotomy k t with q | q | q
        · rw [t3 k q] at a3; cases a3
        · exact q
        · rw [a4 t (by omega) q] at t2; cases t2
      subst this
      exact a5
    · rw [a1 t (by omega) (by omega)] at t2; cases t2
  · have h0 : x = 0 := by
      rw [mm_zero_iff]
      intro j _
      cases e : mm x j
      · rfl
      · rw [t1 j (hx j e)] at e; cases e
    refine Or.inr ⟨h0, t2, ?_⟩
    rcases lp_least x FU 0 (by omega) (by have := FU_ge; omega) with ⟨k, a1, a2, a3, a4, a5⟩ | ⟨a1, a2⟩
    · rw [h0, mm_0] at a3; cases a3
    · exact a2
end BD
