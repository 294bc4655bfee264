/-! the groups that stand -/
section ST
variable {w h : Nat} {gd : Gd} {mw mh : Int32} {nb : Nat → Int64} {L : Nat} {bl wh : Nat → Int64}
def Vc (gd : Gd) (R fr grp : Int64) (n : Nat) : Nat := fb_sm (fun k => Vt gd (Pf gd R k) grp fr) n
def Wv (gd : Gd) (S R fr : Int64) (n k : Nat) : Int64 := if Pf gd S k = 0 ∨ 2 ≤ Vc gd R fr (Pf gd S k) n then 0 else Pf gd S k
theorem Vc_le (R fr grp : Int64) (n : Nat) : Vc gd R fr grp n ≤ n := by
  have := fb_sm_bound (f := fun k => Vt gd (Pf gd R k) grp fr) (c := 1) (n := n) (fun k _ => by rcases Vt01 (gd := gd) (Pf gd R k) grp fr with e | e <;> omega)
  unfold Vc
  omega
theorem lp_without (G : GdOK w h gd) {S R : Int64} (hS : Sb S (w * h)) (hR : Sb R (w * h)) (fr : Int64) : ∀ (nF i : Nat), i ≤ w * h → w * h - i < nF → lp_X3_groupsWithoutTwo_6 gd.1 (nI (w * h)) gd.2.1 gd.2.2.1 gd.2.2.2 S R fr nF (Un (Wv gd S R fr (w * h)) i) (nI i) = some (Un (Wv gd S R fr (w * h)) (w * h)) := by
  have hn := n_lt G
  intro nF
  induction nF with
  | zero => intro i h1 h2; omega
  | succ nF ih =>
    intro i h1 h2
    rw [lp_X3_groupsWithoutTwo_6]
    by_cases hi : i = w * h
    · rw [hi, if_pos (nI_le (Nat.le_refl _) (by omega))]
    · rw [if_neg (nI_ge (by omega) (by omega)), f_partFrom G hS (by omega)]
      simp only [Option.bind_some, nm]
      rw [f_vitalRegions G hR]
      simp only [Option.bind_some]
      have h3 := ih (i + 1) (by omega) (by omega)
      rw [Un_succ] at h3
      rw [nI_1]
      have hle := Vc_le (gd := gd) R fr (Pf gd S i) (w * h)
      by_cases e : Pf gd S i = 0
      · rw [if_pos e]
        rw [show Wv gd S R fr (w * h) i = 0 from if_pos (Or.inl e), or_0] at h3
        exact h3
      · rw [if_neg e]
        have e2 : ((2 : Int32) ≤ nI (Vc gd R fr (Pf gd S i) (w * h))) ↔ 2 ≤ Vc gd R fr (Pf gd S i) (w * h) := nI_leI (a := 2) (by decide) (by omega)
        by_cases e3 : 2 ≤ Vc gd R fr (Pf gd S i) (w * h)
        · rw [show Wv gd S R fr (w * h) i = 0 from if_pos (Or.inr e3), or_0] at h3
          exact (if_pos (e2.mpr e3)).trans h3
        · rw [show Wv gd S R fr (w * h) i = Pf gd S i from if_neg (fun q => q.elim e e3)] at h3
          exact (if_neg (fun q => e3 (e2.mp q))).trans h3
theorem f_without (G : GdOK w h gd) {S R : Int64} (hS : Sb S (w * h)) (hR : Sb R (w * h)) (fr : Int64) : f_X3_groupsWithoutTwo gd.1 (nI (w * h)) gd.2.1 gd.2.2.1 gd.2.2.2 S R fr = some (Un (Wv gd S R fr (w * h)) (w * h)) := by
  unfold f_X3_groupsWithoutTwo
  exact lp_without G hS hR fr FU 0 (by omega) (by have := n_lt G; have := FU_ge; omega)
theorem mm_Wv (G : GdOK w h gd) {S R : Int64} (hS : Sb S (w * h)) (fr : Int64) (j : Nat) : mm (Un (Wv gd S R fr (w * h)) (w * h)) j = true ↔ mm S j = true ∧ Vc gd R fr (Cm gd S j) (w * h) < 2 := by
  rw [mm_Un]
  constructor
  · rintro ⟨k, k1, k2⟩
    unfold Wv at k2
    by_cases q : Pf gd S k = 0 ∨ 2 ≤ Vc gd R fr (Pf gd S k) (w * h)
    · rw [if_pos q, mm_0] at k2; cases k2
    · rw [if_neg q] at k2
      have hl : lst gd S k = true := by
        cases e : lst gd S k
        · exact absurd (Or.inl (by unfold Pf; rw [e]; rfl)) q
        · rfl
      have e : Pf gd S k = Cm gd S k := if_pos hl
      rw [e] at k2 q
      have a1 : mm S k = true := (Bool.and_eq_true_iff.mp hl).1
      refine ⟨Cm_in S k j k2, ?_⟩
      rw [Cm_eq G hS (mm_lt a1) k2]
      exact Nat.lt_of_not_le (fun z => q (Or.inr z))
  · rintro ⟨h1, h2⟩
    obtain ⟨k, k1, k2, k3, k4⟩ := lst_ex G hS h1
    have e : Pf gd S k = Cm gd S j := (if_pos k2).trans k3
    refine ⟨k, k1, ?_⟩
    unfold Wv
    rw [e, if_neg]
    · exact Cm_self h1
    · rintro (q | q)
      · have := Cm_self (gd := gd) h1
        rw [q, mm_0] at this; cases this
      · omega
/-- the reference's round -/
def Vd (gd : Gd) (R fr had grp : Int64) (n : Nat) : Nat := fb_sm (fun k => Vl gd grp fr had (Pf gd R k)) n
theorem Vd_le (R fr had grp : Int64) (n : Nat) : Vd gd R fr had grp n ≤ n := by
  have := fb_sm_bound (f := fun k => Vl gd grp fr had (Pf gd R k)) (c := 1) (n := n) (fun k _ => by unfold Vl; split; omega; split <;> omega)
  unfold Vd
  omega
theorem lp_stand31 (G : GdOK w h gd) (N : NbOK w h mw mh nb) (hL : L < 130) (c : Int32) (hS : Sb (Ow c (bl L) (wh L)) (w * h)) (had : Int64) (K : Int64 → Option Int64) : ∀ (nF : Nat) (out T : Int64), pc T < nF → Le T (Ow c (bl L) (wh L)) → ∃ r, lp_X7_stand_31 mw mh (nI L) nb bl wh c had K nF out T = K r ∧ ∀ j, mm r j = true ↔ mm out j = true ∨ ∃ t, mm T t = true ∧ Vd gd (gd.2.1 &&& (Ow c (bl L) (wh L) ^^^ (-1))) (Fr gd (bl L) (wh L)) had (Cm gd (Ow c (bl L) (wh L)) t) (w * h) < 2 ∧ mm (Cm gd (Ow c (bl L) (wh L)) t) j = true := by
  have hn := n_lt G
  generalize hSd : Ow c (bl L) (wh L) = S at *
  intro nF
  induction nF with
  | zero => intro out T h1; omega
  | succ nF ih =>
    intro out T h1 h2
    rw [lp_X7_stand_31]
    by_cases h0 : T = 0
    · rw [if_pos h0]
      refine ⟨out, rfl, fun j => ⟨Or.inl, fun q => ?_⟩⟩
      rcases q with q | ⟨t, q, -⟩
      · exact q
      · rw [h0, mm_0] at q; cases q
    · rw [if_neg h0, f_stones7 hL]
      simp only [Option.bind_some]
      rw [hSd, f_spread7 G N hS]
      obtain ⟨t, t1, t2, t3, t4, t5⟩ := low_step (gd := gd) h2 h0
      simp only [Option.bind_some, nm]
      have hc : Sb (Cm gd S t) (w * h) := (Cm_in S t).sb hS
      rw [t3, f_vital7 G N hL c hc, hSd]
      simp only [Option.bind_some]
      have hle := Vd_le (gd := gd) (gd.2.1 &&& (S ^^^ (-1))) (Fr gd (bl L) (wh L)) had (Cm gd S t) (w * h)
      have e2 : ((2 : Int32) ≤ nI (Vd gd (gd.2.1 &&& (S ^^^ (-1))) (Fr gd (bl L) (wh L)) had (Cm gd S t) (w * h))) ↔ 2 ≤ Vd gd (gd.2.1 &&& (S ^^^ (-1))) (Fr gd (bl L) (wh L)) had (Cm gd S t) (w * h) := nI_leI (a := 2) (by decide) (by omega)
      have split : ∀ t', mm T t' = true → mm (T &&& (Cm gd S t ^^^ (-1))) t' = true ∨ Cm gd S t' = Cm gd S t := fun t' ht' => by
        rw [mm_an, ht', Bool.true_and]
        cases e : mm (Cm gd S t) t'
        · exact Or.inl rfl
        · exact Or.inr (Cm_eq G hS (mm_lt t2) e)
      have back : ∀ t', mm (T &&& (Cm gd S t ^^^ (-1))) t' = true → mm T t' = true := fun t' ht' => Le.andL _ _ t' ht'
      by_cases e3 : 2 ≤ Vd gd (gd.2.1 &&& (S ^^^ (-1))) (Fr gd (bl L) (wh L)) had (Cm gd S t) (w * h)
      · obtain ⟨r, r1, r2⟩ := ih (out ||| 0) (T &&& (Cm gd S t ^^^ (-1))) (by omega) t5
        refine ⟨r, (if_pos (e2.mpr e3)).trans r1, fun j => (r2 j).trans ?_⟩
        rw [or_0]
        constructor
        · rintro (q | ⟨t', q1, q2⟩)
          · exact Or.inl q
          · exact Or.inr ⟨t', back t' q1, q2⟩
        · rintro (q | ⟨t', q1, q2, q3⟩)
          · exact Or.inl q
          · rcases split t' q1 with z | z
            · exact Or.inr ⟨t', z, q2, q3⟩
            · rw [z] at q2; omega
      · obtain ⟨r, r1, r2⟩ := ih (out ||| Cm gd S t) (T &&& (Cm gd S t ^^^ (-1))) (by omega) t5
        refine ⟨r, (if_neg (fun q => e3 (e2.mp q))).trans r1, fun j => (r2 j).trans ?_⟩
        rw [mm_or, Bool.or_eq_true]
        constructor
        · rintro ((q | q) | ⟨t', q1, q2⟩)
          · exact Or.inl q
          · exact Or.inr ⟨t, t1, by omega, q⟩
          · exact Or.inr ⟨t', back t' q1, q2⟩
        · rintro (q | ⟨t', q1, q2, q3⟩)
          · exact Or.inl (Or.inl q)
          · rcases split t' q1 with z | z
            · exact Or.inr ⟨t', z, q2, q3⟩
            · rw [z] at q3; exact Or.inl (Or.inr q3)
/-- one round of both, over what was left out before -/
theorem st_round (G : GdOK w h gd) {S had regs fr : Int64} (hS : Sb S (w * h)) (hc : ∀ x y, mm had x = true → aj w (w * h) x y = true → mm S y = true → mm had y = true) (hr : ∀ x, mm regs x = true ↔ mm (gd.2.1 &&& (S ^^^ (-1))) x = true ∧ Bs gd (Cm gd (gd.2.1 &&& (S ^^^ (-1))) x) &&& had = 0) (grp : Int64) : Vc gd regs fr grp (w * h) = Vd gd (gd.2.1 &&& (S ^^^ (-1))) fr had grp (w * h) := by
  have hR : Sb (gd.2.1 &&& (S ^^^ (-1))) (w * h) := Sb.and (fun k hk => by rw [mm_all G] at hk; exact of_decide_eq_true hk)
  generalize gd.2.1 &&& (S ^^^ (-1)) = R at *
  have hle : Le regs R := fun x hx => ((hr x).mp hx).1
  have hcl : ∀ x y, mm regs x = true → aj w (w * h) x y = true → mm R y = true → mm regs y = true := fun x y g1 g2 g3 => by
    have a := (hr x).mp g1
    have hy : mm (Cm gd R x) y = true := Cm_step G hR (Cm_self a.1) g2 g3
    exact (hr y).mpr ⟨g3, by rw [Cm_eq G hR (mm_lt a.1) hy]; exact a.2⟩
  unfold Vc Vd
  apply fb_sm_cong
  intro k _
  cases e : mm regs k
  · have e1 : Pf gd regs k = 0 := by unfold Pf lst; rw [e]; rfl
    rw [e1, Vt_0]
    unfold Vl
    cases e2 : lst gd R k
    · have : Pf gd R k = 0 := by unfold Pf; rw [e2]; rfl
      rw [this, Vt_0]; rfl
    · have e3 : Pf gd R k = Cm gd R k := if_pos e2
      rw [e3]
      by_cases q : Bs gd (Cm gd R k) &&& had = 0
      · have := (hr k).mpr ⟨(Bool.and_eq_true_iff.mp e2).1, q⟩
        rw [e] at this; cases this
      · rw [if_neg q]; split <;> rfl
  · have a := (hr k).mp e
    have e1 : Cm gd regs k = Cm gd R k := Cm_clo G hR hle hcl e
    have e2 : Pf gd regs k = Pf gd R k := by unfold Pf lst; rw [e, a.1, e1]
    rw [e2]
    unfold Vl
    cases e4 : lst gd R k
    · have : Pf gd R k = 0 := by unfold Pf; rw [e4]; rfl
      rw [this, Vt_0]; rfl
    · have e3 : Pf gd R k = Cm gd R k := if_pos e4
      rw [e3, if_pos a.2]
      rcases Vt01 (gd := gd) (Cm gd R k) grp fr with z | z <;> rw [z] <;> rfl
theorem st_main (G : GdOK w h gd) (N : NbOK w h mw mh nb) (hL : L < 130) (c : Int32) (hS : Sb (Ow c (bl L) (wh L)) (w * h)) (K : Int64 → Option Int64) : ∀ (p : Nat) (had regs : Int64) (i n1 n2 : Nat) (v5 : Int64), pc (Ow c (bl L) (wh L) &&& (had ^^^ (-1))) = p → i + p ≤ 49 → 50 ≤ n1 + i → p + 2 ≤ n2 → ¬ v5 = had → Le had (Ow c (bl L) (wh L)) → (∀ x y, mm had x = true → aj w (w * h) x y = true → mm (Ow c (bl L) (wh L)) y = true → mm had y = true) → (∀ x, mm regs x = true ↔ mm (gd.2.1 &&& (Ow c (bl L) (wh L) ^^^ (-1))) x = true ∧ Bs gd (Cm gd (gd.2.1 &&& (Ow c (bl L) (wh L) ^^^ (-1))) x) &&& had = 0) → ∃ o, lp_X3_standingStones_21 gd.1 (nI (w * h)) gd.2.1 gd.2.2.1 gd.2.2.2 (Fr gd (bl L) (wh L)) n1 (Ow c (bl L) (wh L) &&& (had ^^^ (-1))) regs (nI i) = some (Ow c (bl L) (wh L) &&& (o ^^^ (-1))) ∧ lp_X7_stand_7 mw mh (nI L) nb bl wh c K n2 had v5 = K o := by
  have hn := n_lt G
  have hst : f_X7_stones (nI L) bl wh c = some (Ow c (bl L) (wh L)) := f_stones7 hL c
  have h31 := lp_stand31 G N hL c hS
  have hR : Sb (gd.2.1 &&& (Ow c (bl L) (wh L) ^^^ (-1))) (w * h) := Sb.and (fun k hk => by rw [mm_all G] at hk; exact of_decide_eq_true hk)
  generalize Ow c (bl L) (wh L) = S at *
  generalize hfr : Fr gd (bl L) (wh L) = fr at *
  intro p
  induction p using Nat.strongRecOn with
  | ind p ih =>
    intro had regs i n1 n2 v5 hp h1 h2 h3 h4 h5 h6 h7
    have hrd := fun grp => st_round (fr := fr) G hS h6 h7 grp
    have hregs : Sb regs (w * h) := fun x hx => hR x ((h7 x).mp hx).1
    have hlS : Le (S &&& (had ^^^ (-1))) S := Le.andL _ _
    have hlsb : Sb (S &&& (had ^^^ (-1))) (w * h) := hlS.sb hS
    have hlc : ∀ x y, mm (S &&& (had ^^^ (-1))) x = true → aj w (w * h) x y = true → mm S y = true → mm (S &&& (had ^^^ (-1))) y = true := fun x y g1 g2 g3 => by
      rw [mm_an] at g1 ⊢
      obtain ⟨q1, q2⟩ := Bool.and_eq_true_iff.mp g1
      rw [g3, Bool.true_and]
      cases e : mm had y
      · rfl
      · have := h6 y x e (aj_sym g2) q1
        rw [this] at q2; cases q2
    -- what goes out in this round
    have hout : ∀ j, mm (Un (Wv gd (S &&& (had ^^^ (-1))) regs fr (w * h)) (w * h)) j = true ↔ mm (S &&& (had ^^^ (-1))) j = true ∧ Vd gd (gd.2.1 &&& (S ^^^ (-1))) fr had (Cm gd S j) (w * h) < 2 := fun j => by
      rw [mm_Wv G hlsb]
      constructor
      · rintro ⟨q1, q2⟩
        rw [Cm_clo G hS hlS hlc q1, hrd] at q2
        exact ⟨q1, q2⟩
      · rintro ⟨q1, q2⟩
        refine ⟨q1, ?_⟩
        rw [Cm_clo G hS hlS hlc q1, hrd]
        exact q2
    generalize hO : Un (Wv gd (S &&& (had ^^^ (-1))) regs fr (w * h)) (w * h) = out at *
    have hol : Le out (S &&& (had ^^^ (-1))) := fun j hj => ((hout j).mp hj).1
    -- the reference's round
    obtain ⟨n2', rfl⟩ : ∃ n2', n2 = n2' + 1 := ⟨n2 - 1, by omega⟩
    obtain ⟨r, r1, r2⟩ := h31 had (fun v9 => lp_X7_stand_7 mw mh (nI L) nb bl wh c K n2' v9 had) FU had (S &&& (had ^^^ (-1))) (by have := pc_le (S &&& (had ^^^ (-1))); have := FU_ge; omega) hlS
    have hr : r = had ||| out := by
      apply Le.anti
      · intro j hj
        rw [mm_or]
        rcases (r2 j).mp hj with q | ⟨t, q1, q2, q3⟩
        · rw [q]; rfl
        · have hjS : mm S j = true := Cm_in S t j q3
          have htS := hlS t q1
          have e := Cm_eq G hS (mm_lt htS) q3
          have hjl : mm (S &&& (had ^^^ (-1))) j = true := by
            have e1 := Cm_clo G hS hlS hlc q1
            rw [← e1] at q3
            exact Cm_in _ t j q3
          rw [(hout j).mpr ⟨hjl, by rw [e]; exact q2⟩, Bool.or_true]
      · intro j hj
        rw [mm_or, Bool.or_eq_true] at hj
        rcases hj with q | q
        · exact (r2 j).mpr (Or.inl q)
        · obtain ⟨q1, q2⟩ := (hout j).mp q
          exact (r2 j).mpr (Or.inr ⟨j, q1, q2, Cm_self (hlS j q1)⟩)
    have hrun : lp_X7_stand_7 mw mh (nI L) nb bl wh c K (n2' + 1) had v5 = lp_X7_stand_7 mw mh (nI L) nb bl wh c K n2' (had ||| out) had := by
      rw [lp_X7_stand_7, if_neg h4, hst]
      simp only [Option.bind_some, nm]
      rw [r1, hr]
    by_cases h0 : out = 0
    · refine ⟨had, ?_, ?_⟩
      · obtain ⟨n1', rfl⟩ : ∃ n1', n1 = n1' + 1 := ⟨n1 - 1, by omega⟩
        rw [lp_X3_standingStones_21]
        by_cases hi : i = 49
        · rw [hi, if_pos (by show nI 49 ≤ nI 49; exact nI_le (Nat.le_refl _) (by omega))]
        · rw [if_neg (by show ¬ nI 49 ≤ nI i; exact nI_ge (by omega) (by omega)), f_without G hlsb hregs, hO]
          simp only [Option.bind_some]
          rw [if_pos h0]
      · rw [hrun, h0, or_0]
        obtain ⟨n2'', rfl⟩ : ∃ n2'', n2' = n2'' + 1 := ⟨n2' - 1, by omega⟩
        rw [lp_X7_stand_7, if_pos rfl]
    · have e1 : S &&& (had ^^^ (-1)) &&& (out ^^^ (-1)) = S &&& ((had ||| out) ^^^ (-1)) := mm_ext (fun k _ => by
        rw [mm_an, mm_an, mm_an, mm_or]
        cases mm S k <;> cases mm had k <;> cases mm out k <;> rfl)
      have hlt : pc (S &&& ((had ||| out) ^^^ (-1))) < pc (S &&& (had ^^^ (-1))) := by
        rw [← e1]
        refine pc_lt (Le.andL _ _) (fun e => ?_)
        obtain ⟨j, -, hj⟩ := mm_ne h0
        have := hol j hj
        rw [← e, mm_an, hj] at this
        simp at this
      have hhO : Le (had ||| out) S := Le.or h5 (hol.tr hlS)
      obtain ⟨n1', rfl⟩ : ∃ n1', n1 = n1' + 1 := ⟨n1 - 1, by omega⟩
      have hsp : ∀ x, mm (regs &&& (Sp gd (Bs gd out) regs ^^^ (-1))) x = true ↔ mm (gd.2.1 &&& (S ^^^ (-1))) x = true ∧ Bs gd (Cm gd (gd.2.1 &&& (S ^^^ (-1))) x) &&& (had ||| out) = 0 := by
        have hle : Le regs (gd.2.1 &&& (S ^^^ (-1))) := fun x hx => ((h7 x).mp hx).1
        have hcl : ∀ x y, mm regs x = true → aj w (w * h) x y = true → mm (gd.2.1 &&& (S ^^^ (-1))) y = true → mm regs y = true := fun x y g1 g2 g3 => by
          have a := (h7 x).mp g1
          have hy : mm (Cm gd (gd.2.1 &&& (S ^^^ (-1))) x) y = true := Cm_step G hR (Cm_self a.1) g2 g3
          exact (h7 y).mpr ⟨g3, by rw [Cm_eq G hR (mm_lt a.1) hy]; exact a.2⟩
        have hosb : Sb out (w * h) := hol.sb hlsb
        intro x
        have key : mm regs x = true → (mm (Sp gd (Bs gd out) regs) x = true ↔ ¬ Bs gd (Cm gd (gd.2.1 &&& (S ^^^ (-1))) x) &&& out = 0) := fun hx => by
          have hcs : Sb (Cm gd (gd.2.1 &&& (S ^^^ (-1))) x) (w * h) := (Cm_in _ x).sb hR
          rw [mm_Sp G hregs, Cm_clo G hR hle hcl hx, tch G hcs hosb, and_ne]
          exact ⟨fun q => q.2, fun q => ⟨hx, q⟩⟩
        have oz : (Bs gd (Cm gd (gd.2.1 &&& (S ^^^ (-1))) x) &&& (had ||| out) = 0) ↔ (Bs gd (Cm gd (gd.2.1 &&& (S ^^^ (-1))) x) &&& had = 0) ∧ (Bs gd (Cm gd (gd.2.1 &&& (S ^^^ (-1))) x) &&& out = 0) := by
          rw [and0, and0, and0]
          constructor
          · intro q
            refine ⟨fun j hj => ?_, fun j hj => ?_⟩
            · have := q j hj; rw [mm_or] at this; exact (Bool.or_eq_false_iff.mp this).1
            · have := q j hj; rw [mm_or] at this; exact (Bool.or_eq_false_iff.mp this).2
          · rintro ⟨q1, q2⟩ j hj
            rw [mm_or, q1 j hj, q2 j hj]; rfl
        rw [mm_an, Bool.and_eq_true, oz]
        constructor
        · rintro ⟨q1, q2⟩
          have a := (h7 x).mp q1
          refine ⟨a.1, a.2, ?_⟩
          apply Classical.byContradiction
          intro z
          rw [(key q1).mpr z] at q2; cases q2
        · rintro ⟨q1, q2, q3⟩
          have hx := (h7 x).mpr ⟨q1, q2⟩
          refine ⟨hx, ?_⟩
          cases e : mm (Sp gd (Bs gd out) regs) x
          · rfl
          · exact absurd q3 ((key hx).mp e)
      obtain ⟨o, o1, o2⟩ := ih (pc (S &&& ((had ||| out) ^^^ (-1)))) (by omega) (had ||| out) (regs &&& (Sp gd (Bs gd out) regs ^^^ (-1))) (i + 1) n1' n2' had rfl (by omega) (by omega) (by omega) (fun e => h0 (by
          rw [mm_zero_iff]
          intro j _
          cases z : mm out j
          · rfl
          · have z1 := hol j z
            have z2 : mm (had ||| out) j = true := by rw [mm_or, z, Bool.or_true]
            rw [← e] at z2
            rw [mm_an, z2] at z1
            simp at z1)) hhO (fun x y g1 g2 g3 => by
          rw [mm_or, Bool.or_eq_true] at g1 ⊢
          rcases g1 with g1 | g1
          · exact Or.inl (h6 x y g1 g2 g3)
          · obtain ⟨a1, a2⟩ := (hout x).mp g1
            have hy : mm (Cm gd S x) y = true := Cm_step G hS (Cm_self (hlS x a1)) g2 g3
            exact Or.inr ((hout y).mpr ⟨hlc x y a1 g2 g3, by rw [Cm_eq G hS (mm_lt (hlS x a1)) hy]; exact a2⟩)) hsp
      refine ⟨o, ?_, hrun.trans o2⟩
      rw [lp_X3_standingStones_21]
      have hi : ¬ i = 49 := fun e => by omega
      rw [if_neg (by show ¬ nI 49 ≤ nI i; exact nI_ge (by omega) (by omega)), f_without G hlsb hregs, hO]
      simp only [Option.bind_some, nm]
      rw [if_neg h0, f_beside, Option.bind_some, f_spread (Sb49 G hregs), Option.bind_some, nI_1, e1]
      exact o1
theorem f_stand (G : GdOK w h gd) (N : NbOK w h mw mh nb) (hL : L < 130) (c : Int32) (hS : Sb (Ow c (bl L) (wh L)) (w * h)) : ∃ s, f_X3_standingStones gd.1 (nI (w * h)) gd.2.1 gd.2.2.1 gd.2.2.2 (Ow c (bl L) (wh L)) (Fr gd (bl L) (wh L)) = some s ∧ f_X7_stand mw mh (nI L) nb bl wh c = some s := by
  have e0 : Ow c (bl L) (wh L) &&& (0 ^^^ (-1)) = Ow c (bl L) (wh L) := mm_ext (fun k _ => by rw [mm_an, mm_0]; cases mm (Ow c (bl L) (wh L)) k <;> rfl)
  have hp := pc_sb hS (by have := n_lt G; omega)
  have h49 := G.1.2.2.2.2
  obtain ⟨o, o1, o2⟩ := st_main G N hL c hS (fun v1 => some (Ow c (bl L) (wh L) &&& (v1 ^^^ (-1)))) (pc (Ow c (bl L) (wh L) &&& (0 ^^^ (-1)))) 0 (gd.2.1 &&& (Ow c (bl L) (wh L) ^^^ (-1))) 0 FU FU (-1) rfl (by rw [e0]; omega) (by have := FU_ge; omega) (by rw [e0]; have := FU_ge; omega) (by decide) (fun k hk => by rw [mm_0] at hk; cases hk) (fun x y hx => by rw [mm_0] at hx; cases hx) (fun x => ⟨fun q => ⟨q, and0.mpr (fun j _ => mm_0 j)⟩, fun q => q.1⟩)
  refine ⟨Ow c (bl L) (wh L) &&& (o ^^^ (-1)), ?_, ?_⟩
  · rw [e0] at o1
    unfold f_X3_standingStones
    simp only [nm]
    exact o1
  · unfold f_X7_stand
    simp only [nm, f_stones7 hL, Option.bind_some]
    exact o2
end ST
