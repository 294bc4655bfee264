/-! laying a stone -/
theorem nI_m1 {k : Nat} (hk : k < 2 ^ 31) : ¬ nI k = -1 := fun e => by
  have h1 := congrArg Int32.toInt e
  rw [nI_toInt hk] at h1
  have h2 : (-1 : Int32).toInt = -1 := by decide
  rw [h2] at h1
  omega
theorem nI_inc {c N : Nat} (h : c < N) (hc : c < 2 ^ 31) : ¬ (nI c < 0 ∨ N ≤ c) := fun q => q.elim (nI_pos hc) (fun z => by omega)
def Rv (r : Int32) (P : Prop) : Prop := (r = 1 ∧ P) ∨ (r = 0 ∧ ¬ P)
section LA
variable {w h : Nat} {gd : Gd} {mw mh : Int32} {nb : Nat → Int64}
def Alv (gd : Gd) (S fr : Int64) : Prop := ∀ x, mm S x = true → ¬ Bs gd (Cm gd S x) &&& fr = 0
/-- a board: within the crossings, a crossing has one colour, each group has a breath -/
def Bd (gd : Gd) (n : Nat) (b v : Int64) : Prop := Sb b n ∧ Sb v n ∧ (∀ j, mm b j = true → mm v j = false) ∧ Alv gd b (Fr gd b v) ∧ Alv gd v (Fr gd b v)
theorem f_allBreathe (G : GdOK w h gd) {S fr : Int64} (hS : Sb S (w * h)) (hf : Sb fr (w * h)) : ∃ r, f_X2_allBreathe gd.1 gd.2.1 gd.2.2.1 gd.2.2.2 S fr = some r ∧ Rv r (Alv gd S fr) := by
  unfold f_X2_allBreathe
  rw [f_beside]
  simp only [Option.bind_some]
  rw [f_spread (Sb49 G hS)]
  simp only [Option.bind_some]
  have key : (Sp gd (Bs gd fr) S = S) ↔ Alv gd S fr := by
    have one : ∀ x, mm S x = true → (mm (Sp gd (Bs gd fr) S) x = true ↔ ¬ Bs gd (Cm gd S x) &&& fr = 0) := fun x hx => by
      rw [mm_Sp G hS, tch G ((Cm_in S x).sb hS) hf, and_ne]
      exact ⟨fun q => q.2, fun q => ⟨hx, q⟩⟩
    constructor
    · intro e x hx
      exact (one x hx).mp (by rw [e]; exact hx)
    · intro a
      exact Le.anti (Sp_in _ _) (fun x hx => (one x hx).mpr (a x hx))
  by_cases e : Sp gd (Bs gd fr) S = S
  · exact ⟨1, if_pos e, Or.inl ⟨rfl, key.mp e⟩⟩
  · exact ⟨0, if_neg e, Or.inr ⟨rfl, fun a => e (key.mpr a)⟩⟩
def Od (c : Int32) (b v : Int64) (k : Nat) : Int64 := Ow c b v ||| jshl 1 (nI k)
def Gf (gd : Gd) (c : Int32) (b v : Int64) (k : Nat) : Int64 := Sp gd (Bs gd (Fr gd (Od c b v k) (Ow (3 - c) b v))) (Ow (3 - c) b v)
def Nb (gd : Gd) (c : Int32) (b v : Int64) (k : Nat) : Int64 := if c = 1 then Od c b v k else Gf gd c b v k
def Nw (gd : Gd) (c : Int32) (b v : Int64) (k : Nat) : Int64 := if c = 1 then Gf gd c b v k else Od c b v k
def Oc (b v : Int64) (k : Nat) : Prop := mm b k = true ∨ mm v k = true
def Su (gd : Gd) (c : Int32) (b v : Int64) (k : Nat) : Prop := Bs gd (Sp gd (jshl 1 (nI k)) (Od c b v k)) &&& Fr gd (Od c b v k) (Gf gd c b v k) = 0
theorem c31 : (3 : Int32) - 1 = 2 := by decide
theorem c32 : (3 : Int32) - 2 = 1 := by decide
theorem Bd_ow {n : Nat} {c : Int32} (hc : c = 1 ∨ c = 2) {b v : Int64} (G : GdOK w h gd) (B : Bd gd n b v) : Sb (Ow c b v) n ∧ Sb (Ow (3 - c) b v) n ∧ (∀ j, mm (Ow c b v) j = true → mm (Ow (3 - c) b v) j = false) ∧ Fr gd (Ow c b v) (Ow (3 - c) b v) = Fr gd b v ∧ Alv gd (Ow c b v) (Fr gd b v) ∧ Alv gd (Ow (3 - c) b v) (Fr gd b v) := by
  obtain ⟨b1, b2, b3, b4, b5⟩ := B
  rcases hc with rfl | rfl
  · exact ⟨b1, b2, b3, rfl, b4, b5⟩
  · refine ⟨b2, b1, fun j hj => ?_, Fr_cm G v b, b5, b4⟩
    show mm b j = false
    cases e : mm b j
    · rfl
    · have hj : mm v j = true := hj
      rw [b3 j e] at hj; cases hj
theorem Oc_ow {c : Int32} (hc : c = 1 ∨ c = 2) {b v : Int64} {k : Nat} (h0 : ¬ Oc b v k) : mm (Ow c b v) k = false ∧ mm (Ow (3 - c) b v) k = false := by
  have h1 : mm b k = false := by cases e : mm b k; rfl; exact absurd (Or.inl e) h0
  have h2 : mm v k = false := by cases e : mm v k; rfl; exact absurd (Or.inr e) h0
  rcases hc with rfl | rfl
  · exact ⟨h1, h2⟩
  · exact ⟨h2, h1⟩
/-- who stays of the other colour -/
theorem mm_Gf (G : GdOK w h gd) {c : Int32} {b v : Int64} (hf : Sb (Ow (3 - c) b v) (w * h)) (k j : Nat) : mm (Gf gd c b v k) j = true ↔ mm (Ow (3 - c) b v) j = true ∧ ¬ Bs gd (Cm gd (Ow (3 - c) b v) j) &&& Fr gd (Od c b v k) (Ow (3 - c) b v) = 0 := by
  unfold Gf
  constructor
  · intro q
    have q1 := Sp_in _ _ j q
    rw [mm_Sp G hf] at q
    rw [tch G ((Cm_in _ j).sb hf) (Fr_sb G _ _), and_ne]
    exact ⟨q1, q.2⟩
  · rintro ⟨q1, q2⟩
    rw [mm_Sp G hf]
    rw [tch G ((Cm_in _ j).sb hf) (Fr_sb G _ _), and_ne] at q2
    exact ⟨q1, q2⟩
theorem Gf_le (c : Int32) (b v : Int64) (k : Nat) : Le (Gf gd c b v k) (Ow (3 - c) b v) := Sp_in _ _
theorem mm_Od {c : Int32} {b v : Int64} {k : Nat} (hk : k < 64) (j : Nat) : mm (Od c b v k) j = (mm (Ow c b v) j || decide (j = k)) := by unfold Od; rw [mm_or, mm_bit hk]
theorem Od_sb {n : Nat} {c : Int32} {b v : Int64} {k : Nat} (hk : k < n) (hn : n < 64) (ho : Sb (Ow c b v) n) : Sb (Od c b v k) n := Sb.or ho (Sb.bit hk hn)
/-- a group of the other colour that loses its last breath touches the stone -/
theorem dead_touch (G : GdOK w h gd) {c : Int32} (hc : c = 1 ∨ c = 2) {b v : Int64} (B : Bd gd (w * h) b v) {k j : Nat} (hk : k < w * h) (h0 : ¬ Oc b v k) (hj : mm (Ow (3 - c) b v) j = true) (hd : Bs gd (Cm gd (Ow (3 - c) b v) j) &&& Fr gd (Od c b v k) (Ow (3 - c) b v) = 0) : ∃ t, aj w (w * h) k t = true ∧ mm (Cm gd (Ow (3 - c) b v) j) t = true := by
  have hn := n_lt G
  obtain ⟨o1, o2, o3, o4, o5, o6⟩ := Bd_ow hc G B
  obtain ⟨i, i1, i2⟩ := and_ne.mp (o6 j hj)
  rw [and0] at hd
  have i3 := hd i i1
  rw [← o4, mm_Fr G] at i2
  rw [mm_Fr G, mm_Od (by omega)] at i3
  have i4 : i = k := by
    apply Classical.byContradiction
    intro q
    have : decide (i = k) = false := decide_eq_false q
    rw [this, Bool.or_false] at i3
    rw [i3] at i2; cases i2
  subst i4
  obtain ⟨t, t1, t2⟩ := (mm_Bs G ((Cm_in _ j).sb o2) i).mp i1
  exact ⟨t, aj_sym t2, t1⟩
theorem lp_laid (G : GdOK w h gd) (N : NbOK w h mw mh nb) {k : Nat} (hk : k < w * h) {own foe : Int64} (hf : Sb foe (w * h)) : ∀ (nF i : Nat) (gone : Int64) (u : Int32), i ≤ 49 → 50 - i < nF → f_X7_least (nb k &&& foe) (nI i) = some u → ∃ r, (∀ K, lp_X7_laid_67 mw mh nb (nI k) own foe K nF gone u = K r) ∧ ∀ j, mm r j = true ↔ mm gone j = true ∨ ∃ t, i ≤ t ∧ mm (nb k &&& foe) t = true ∧ Bs gd (Cm gd foe t) &&& Fr gd own foe = 0 ∧ mm (Cm gd foe t) j = true := by
  have hn := n_lt G
  have h49 := G.1.2.2.2.2
  have hnb : ∀ j, mm (nb k) j = aj w (w * h) k j := N.2.2 k hk
  intro nF
  induction nF with
  | zero => intro i gone u h1 h2; omega
  | succ nF ih =>
    intro i gone u h1 h2 hu
    unfold f_X7_least at hu
    rcases lp_least (nb k &&& foe) FU i h1 (by have := FU_ge; omega) with ⟨t, a1, a2, a3, a4, a5⟩ | ⟨a1, a2⟩
    · have eu : u = nI t := by rw [a5] at hu; exact (Option.some.inj hu).symm
      subst eu
      have htf : mm foe t = true := Le.andR _ _ t a3
      have hcs : Sb (Cm gd foe t) (w * h) := (Cm_in foe t).sb hf
      have e1 : Bs gd (Cm gd foe t) &&& gd.2.1 &&& (own ^^^ (-1)) &&& (foe ^^^ (-1)) = Bs gd (Cm gd foe t) &&& Fr gd own foe := mm_ext (fun j _ => by
        rw [mm_an, mm_an, mm_and, mm_and, mm_Fr G, mm_all G]
        cases mm (Bs gd (Cm gd foe t)) j <;> simp)
      have hnx : ∃ u', f_X7_least (nb k &&& foe) (nI (t + 1)) = some u' := by
        unfold f_X7_least
        rcases lp_least (nb k &&& foe) FU (t + 1) (by omega) (by have := FU_ge; omega) with ⟨_, _, _, _, _, q⟩ | ⟨_, q⟩
        · exact ⟨_, q⟩
        · exact ⟨_, q⟩
      obtain ⟨u', hu'⟩ := hnx
      have run : ∀ K, lp_X7_laid_67 mw mh nb (nI k) own foe K (nF + 1) gone (nI t) = lp_X7_laid_67 mw mh nb (nI k) own foe K nF (gone ||| if Bs gd (Cm gd foe t) &&& Fr gd own foe = 0 then Cm gd foe t else 0) u' := fun K => by
        rw [lp_X7_laid_67, if_neg (nI_m1 (by omega)), f_spread7 G N hf]
        simp only [Option.bind_some]
        rw [show Sp gd (jshl 1 (nI t)) foe = Cm gd foe t from rfl, f_around G N hcs, f_all7 G N]
        simp only [Option.bind_some, nm]
        rw [if_neg (nI_in (N := 49) (by omega) (by decide)), nI_clamp (by omega), e1, nI_1, hu']
        simp only [Option.bind_some]
        by_cases hd : Bs gd (Cm gd foe t) &&& Fr gd own foe = 0
        · rw [if_pos hd, if_pos hd]
        · rw [if_neg hd, if_neg hd, if_neg (nI_inc (c := k) (by omega) (by omega))]
      have split : ∀ t', i ≤ t' → mm (nb k &&& foe) t' = true → t + 1 ≤ t' ∨ t' = t := fun t' b1 b2 => by
        rcases Nat.lt_trichotomy t' t with q | q | q
        · rw [a4 t' b1 q] at b2; cases b2
        · exact Or.inr q
        · exact Or.inl q
      by_cases hd : Bs gd (Cm gd foe t) &&& Fr gd own foe = 0
      · rw [if_pos hd] at run
        obtain ⟨r, r1, r2⟩ := ih (t + 1) (gone ||| Cm gd foe t) u' (by omega) (by omega) hu'
        refine ⟨r, fun K => (run K).trans (r1 K), fun j => (r2 j).trans ?_⟩
        rw [mm_or, Bool.or_eq_true]
        constructor
        · rintro ((q | q) | ⟨t', q1, q2⟩)
          · exact Or.inl q
          · exact Or.inr ⟨t, a1, a3, hd, q⟩
          · exact Or.inr ⟨t', by omega, q2⟩
        · rintro (q | ⟨t', q1, q2, q3, q4⟩)
          · exact Or.inl (Or.inl q)
          · rcases split t' q1 q2 with z | z
            · exact Or.inr ⟨t', z, q2, q3, q4⟩
            · subst z; exact Or.inl (Or.inr q4)
      · rw [if_neg hd] at run
        obtain ⟨r, r1, r2⟩ := ih (t + 1) (gone ||| 0) u' (by omega) (by omega) hu'
        refine ⟨r, fun K => (run K).trans (r1 K), fun j => (r2 j).trans ?_⟩
        rw [or_0]
        constructor
        · rintro (q | ⟨t', q1, q2⟩)
          · exact Or.inl q
          · exact Or.inr ⟨t', by omega, q2⟩
        · rintro (q | ⟨t', q1, q2, q3, q4⟩)
          · exact Or.inl q
          · rcases split t' q1 q2 with z | z
            · exact Or.inr ⟨t', z, q2, q3, q4⟩
            · subst z; exact absurd q3 hd
    · have eu : u = -1 := by rw [a2] at hu; exact (Option.some.inj hu).symm
      rw [eu]
      refine ⟨gone, fun K => by rw [lp_X7_laid_67, if_pos rfl], fun j => ⟨Or.inl, fun q => ?_⟩⟩
      rcases q with q | ⟨t, q1, q2, -⟩
      · exact q
      · have := hf t (Le.andR _ _ t q2)
        rw [a1 t q1 (by omega)] at q2; cases q2
/-- the reference lays -/
theorem f_laid (G : GdOK w h gd) (N : NbOK w h mw mh nb) {c : Int32} (hc : c = 1 ∨ c = 2) {b v : Int64} (B : Bd gd (w * h) b v) {k : Nat} (hk : k < w * h) (ob ow : Int64) (ot : Int32) : (Oc b v k ∧ f_X7_laid mw mh ob ow ot nb b v c (nI k) = some (1, ob, ow, ot)) ∨ (¬ Oc b v k ∧ ∃ r, f_X7_laid mw mh ob ow ot nb b v c (nI k) = some (r, Nb gd c b v k, Nw gd c b v k, nI (pc (Ow (3 - c) b v &&& (Gf gd c b v k ^^^ (-1))))) ∧ ((r = 2 ∧ Su gd c b v k) ∨ (r = 0 ∧ ¬ Su gd c b v k))) := by
  have hn := n_lt G
  have h49 := G.1.2.2.2.2
  obtain ⟨o1, o2, o3, o4, o5, o6⟩ := Bd_ow hc G B
  have bitk : mm (jshl 1 (nI k)) k = true := by rw [mm_bit (by omega)]; simp
  by_cases h0 : Oc b v k
  · refine Or.inl ⟨h0, ?_⟩
    unfold f_X7_laid
    simp only [nm]
    rw [if_neg]
    rw [and_ne]
    refine ⟨k, ?_, bitk⟩
    rw [mm_or, Bool.or_eq_true]
    exact h0
  · refine Or.inr ⟨h0, ?_⟩
    obtain ⟨p1, p2⟩ := Oc_ow hc h0
    have hfree : (b ||| v) &&& jshl 1 (nI k) = 0 := by
      rw [and_cm, and0]
      intro j hj
      rw [mm_bit (by omega)] at hj
      have := of_decide_eq_true hj
      subst this
      rw [mm_or]
      have q1 : mm b j = false := by cases e : mm b j; rfl; exact absurd (Or.inl e) h0
      have q2 : mm v j = false := by cases e : mm v j; rfl; exact absurd (Or.inr e) h0
      rw [q1, q2]; rfl
    have hos : Sb (Od c b v k) (w * h) := Od_sb hk hn o1
    have core : ∃ u r, f_X7_least (nb k &&& Ow (3 - c) b v) 0 = some u ∧ (∀ K, lp_X7_laid_67 mw mh nb (nI k) (Od c b v k) (Ow (3 - c) b v) K FU 0 u = K r) ∧ Ow (3 - c) b v &&& (r ^^^ (-1)) = Gf gd c b v k ∧ r = Ow (3 - c) b v &&& (Gf gd c b v k ^^^ (-1)) := by
      have hnx : ∃ u', f_X7_least (nb k &&& Ow (3 - c) b v) (nI 0) = some u' := by
        unfold f_X7_least
        rcases lp_least (nb k &&& Ow (3 - c) b v) FU 0 (by omega) (by have := FU_ge; omega) with ⟨_, _, _, _, _, q⟩ | ⟨_, q⟩
        · exact ⟨_, q⟩
        · exact ⟨_, q⟩
      obtain ⟨u, hu⟩ := hnx
      obtain ⟨r, r1, r2⟩ := lp_laid G N hk (own := Od c b v k) o2 FU 0 0 u (by omega) (by have := FU_ge; omega) hu
      have r3 : ∀ j, mm r j = true ↔ mm (Ow (3 - c) b v) j = true ∧ Bs gd (Cm gd (Ow (3 - c) b v) j) &&& Fr gd (Od c b v k) (Ow (3 - c) b v) = 0 := fun j => by
        rw [r2]
        constructor
        · rintro (q | ⟨t, -, q1, q2, q3⟩)
          · rw [mm_0] at q; cases q
          · have q4 : mm (Ow (3 - c) b v) t = true := Le.andR _ _ t q1
            refine ⟨Cm_in _ t j q3, ?_⟩
            rw [Cm_eq G o2 (mm_lt q4) q3]
            exact q2
        · rintro ⟨q1, q2⟩
          obtain ⟨t, t1, t2⟩ := dead_touch G hc B hk h0 q1 q2
          have e := Cm_eq G o2 (mm_lt q1) t2
          refine Or.inr ⟨t, Nat.zero_le _, ?_, by rw [e]; exact q2, by rw [e]; exact Cm_self q1⟩
          rw [mm_and, N.2.2 k hk, t1, Cm_in _ j t t2]; rfl
      have r4 : ∀ j, mm (Ow (3 - c) b v) j = true → (mm (Gf gd c b v k) j = !mm r j) := fun j hj => by
        cases e : mm r j
        · rw [(mm_Gf G o2 k j).mpr ⟨hj, fun z => by rw [(r3 j).mpr ⟨hj, z⟩] at e; cases e⟩]; rfl
        · cases e2 : mm (Gf gd c b v k) j
          · rfl
          · exact absurd ((r3 j).mp e).2 ((mm_Gf G o2 k j).mp e2).2
      refine ⟨u, r, hu, r1, mm_ext (fun j _ => ?_), mm_ext (fun j _ => ?_)⟩
      · rw [mm_an]
        cases e : mm (Ow (3 - c) b v) j
        · cases e2 : mm (Gf gd c b v k) j
          · rfl
          · rw [Gf_le c b v k j e2] at e; cases e
        · rw [r4 j e]; rfl
      · rw [mm_an]
        cases e : mm (Ow (3 - c) b v) j
        · cases e2 : mm r j
          · rfl
          · rw [((r3 j).mp e2).1] at e; cases e
        · rw [r4 j e]; cases mm r j <;> rfl
    have hgrp : Sb (Sp gd (jshl 1 (nI k)) (Od c b v k)) (w * h) := Sp_sb hos
    have fin : ∀ (x y : Int64) (t : Int32), Fr gd x y = Fr gd (Od c b v k) (Gf gd c b v k) → ∃ r, ((f_X7_spread mw mh nb (jshl 1 (nI k)) (Od c b v k)).bind fun q18 => (f_X7_around mw mh nb q18).bind fun q19 => (f_X7_free mw mh x y).bind fun q20 => if q19 &&& q20 = 0 then some ((2 : Int32), x, y, t) else some ((0 : Int32), x, y, t)) = some (r, x, y, t) ∧ ((r = 2 ∧ Su gd c b v k) ∨ (r = 0 ∧ ¬ Su gd c b v k)) := fun x y t hxy => by
      rw [f_spread7 G N hos]
      simp only [Option.bind_some]
      rw [f_around G N hgrp, f_free7 G N, hxy]
      simp only [Option.bind_some]
      by_cases e : Su gd c b v k
      · exact ⟨2, if_pos e, Or.inl ⟨rfl, e⟩⟩
      · exact ⟨0, if_neg e, Or.inr ⟨rfl, e⟩⟩
    obtain ⟨u, r, u1, r1, r2, r3⟩ := core
    rw [← r3]
    unfold f_X7_laid
    simp only [nm]
    rw [if_pos hfree, if_neg (nI_in (N := 49) (by omega) (by decide)), nI_clamp (by omega)]
    rcases hc with rfl | rfl
    · rw [c31, Ow_2] at u1 r1 r2
      rw [show Nb gd 1 b v k = Od 1 b v k from if_pos rfl, show Nw gd 1 b v k = Gf gd 1 b v k from if_pos rfl]
      rw [show Od 1 b v k = b ||| jshl 1 (nI k) by unfold Od; rw [Ow_1]] at r1 fin ⊢
      simp only [if_true, f_many]
      rw [u1, Option.bind_some, r1, r2]
      simp only [Option.bind_some]
      exact fin _ _ _ rfl
    · rw [c32, Ow_1] at u1 r1 r2
      rw [show Nb gd 2 b v k = Gf gd 2 b v k from if_neg (by decide), show Nw gd 2 b v k = Od 2 b v k from if_neg (by decide)]
      have hod : Od 2 b v k = v ||| jshl 1 (nI k) := by unfold Od; rw [Ow_2]
      rw [hod] at r1 fin ⊢
      have h21 : ((2 : Int32) = 1) = False := eq_false (by decide)
      simp only [h21, if_false, f_many]
      rw [if_neg (nI_inc (c := k) (by omega) (by omega))]
      rw [u1, Option.bind_some, r1, r2]
      simp only [Option.bind_some]
      exact fin _ _ _ (Fr_cm G _ _)
/-- the new board -/
theorem Bd_new (G : GdOK w h gd) {c : Int32} (hc : c = 1 ∨ c = 2) {b v : Int64} (B : Bd gd (w * h) b v) {k : Nat} (hk : k < w * h) (h0 : ¬ Oc b v k) (hs : ¬ Su gd c b v k) : Bd gd (w * h) (Nb gd c b v k) (Nw gd c b v k) := by
  have hn := n_lt G
  obtain ⟨o1, o2, o3, o4, o5, o6⟩ := Bd_ow hc G B
  obtain ⟨p1, p2⟩ := Oc_ow hc h0
  have hos : Sb (Od c b v k) (w * h) := Od_sb hk hn o1
  have hfs : Sb (Gf gd c b v k) (w * h) := (Gf_le c b v k).sb o2
  have hdis : ∀ j, mm (Od c b v k) j = true → mm (Gf gd c b v k) j = false := fun j hj => by
    cases e : mm (Gf gd c b v k) j
    · rfl
    · have e1 := Gf_le c b v k j e
      rw [mm_Od (by omega), Bool.or_eq_true] at hj
      rcases hj with q | q
      · rw [o3 j q] at e1; cases e1
      · have := of_decide_eq_true q
        subst this
        rw [p2] at e1; cases e1
  have hfr : Le (Fr gd (Od c b v k) (Ow (3 - c) b v)) (Fr gd (Od c b v k) (Gf gd c b v k)) := fun j hj => by
    rw [mm_Fr G] at hj ⊢
    cases e : mm (Gf gd c b v k) j
    · simp at hj ⊢
      exact ⟨hj.1.1, hj.1.2⟩
    · rw [Gf_le c b v k j e] at hj
      simp at hj
  have fcl : ∀ x y, mm (Gf gd c b v k) x = true → aj w (w * h) x y = true → mm (Ow (3 - c) b v) y = true → mm (Gf gd c b v k) y = true := fun x y g1 g2 g3 => Cm_step G o2 g1 g2 g3
  have af : Alv gd (Gf gd c b v k) (Fr gd (Od c b v k) (Gf gd c b v k)) := fun x hx => by
    rw [Cm_clo G o2 (Gf_le c b v k) fcl hx, and_ne]
    obtain ⟨i, i1, i2⟩ := and_ne.mp ((mm_Gf G o2 k x).mp hx).2
    exact ⟨i, i1, hfr i i2⟩
  have ao : Alv gd (Od c b v k) (Fr gd (Od c b v k) (Gf gd c b v k)) := fun x hx => by
    by_cases hx2 : mm (Cm gd (Od c b v k) x) k = true
    · have e := Cm_eq G hos (mm_lt hx) hx2
      rw [← e]
      exact hs
    · -- the group doesn't touch the new stone: it is one of the old groups
      have hx2 : mm (Cm gd (Od c b v k) x) k = false := by cases e : mm (Cm gd (Od c b v k) x) k; rfl; exact absurd e hx2
      have hle : Le (Cm gd (Od c b v k) x) (Ow c b v) := fun j hj => by
        have := Cm_in _ x j hj
        rw [mm_Od (by omega), Bool.or_eq_true] at this
        rcases this with q | q
        · exact q
        · have := of_decide_eq_true q
          subst this
          rw [hx2] at hj; cases hj
      have hcl : ∀ y z, mm (Cm gd (Od c b v k) x) y = true → aj w (w * h) y z = true → mm (Ow c b v) z = true → mm (Cm gd (Od c b v k) x) z = true := fun y z g1 g2 g3 => Cm_step G hos g1 g2 (by rw [mm_Od (by omega), g3]; rfl)
      have hself : mm (Cm gd (Od c b v k) x) x = true := Cm_self hx
      have e1 : Cm gd (Ow c b v) x = Cm gd (Od c b v k) x := by
        apply Le.anti
        · exact Cm_le_of G o1 hle hcl (fun j hj => by
            rw [mm_and, mm_bit (mm_lt hx)] at hj
            have := of_decide_eq_true (Bool.and_eq_true_iff.mp hj).1
            subst this; exact hself)
        · have : Cm gd (Cm gd (Od c b v k) x) x = Cm gd (Ow c b v) x := Cm_clo G o1 hle hcl hself
          have e2 : Cm gd (Cm gd (Od c b v k) x) x = Cm gd (Od c b v k) x := Cm_clo G hos (Cm_in _ x) (fun y z g1 g2 g3 => Cm_step G hos g1 g2 g3) hself
          rw [← this, e2]
          exact Le.rf _
      obtain ⟨i, i1, i2⟩ := and_ne.mp (o5 x (hle x hself))
      rw [e1] at i1
      refine and_ne.mpr ⟨i, i1, hfr i ?_⟩
      rw [← o4, mm_Fr G] at i2
      rw [mm_Fr G, mm_Od (by omega)]
      have hik : ¬ i = k := fun q => by
        subst q
        obtain ⟨y, y1, y2⟩ := (mm_Bs G ((Cm_in _ x).sb hos) i).mp i1
        have := Cm_step G hos y1 y2 (by rw [mm_Od (by omega)]; simp)
        rw [show mm (Sp gd (jshl 1 (nI x)) (Od c b v i)) i = mm (Cm gd (Od c b v i) x) i from rfl, hx2] at this
        cases this
      rw [decide_eq_false hik, Bool.or_false]
      exact i2
  rcases hc with rfl | rfl
  · rw [show Nb gd 1 b v k = Od 1 b v k from if_pos rfl, show Nw gd 1 b v k = Gf gd 1 b v k from if_pos rfl]
    exact ⟨hos, hfs, hdis, ao, af⟩
  · rw [show Nb gd 2 b v k = Gf gd 2 b v k from if_neg (by decide), show Nw gd 2 b v k = Od 2 b v k from if_neg (by decide)]
    rw [Fr_cm G] at ao af
    refine ⟨hfs, hos, fun j hj => ?_, af, ao⟩
    cases e : mm (Od 2 b v k) j
    · rfl
    · rw [hdis j e] at hj; cases hj
/-- the new board differs from the one before -/
theorem new_ne (G : GdOK w h gd) {c : Int32} (hc : c = 1 ∨ c = 2) {b v : Int64} {k : Nat} (hk : k < w * h) (h0 : ¬ Oc b v k) : ¬ (b = Nb gd c b v k ∧ v = Nw gd c b v k) := by
  have hn := n_lt G
  have hk2 : mm (Od c b v k) k = true := by rw [mm_Od (by omega)]; simp
  rintro ⟨e1, e2⟩
  rcases hc with rfl | rfl
  · rw [show Nb gd 1 b v k = Od 1 b v k from if_pos rfl] at e1
    exact h0 (Or.inl (by rw [e1]; exact hk2))
  · rw [show Nw gd 2 b v k = Od 2 b v k from if_neg (by decide)] at e2
    exact h0 (Or.inr (by rw [e2]; exact hk2))
end LA
