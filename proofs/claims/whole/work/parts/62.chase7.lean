/-! the reference's chase: its small methods -/
theorem bls_cong {x y : Int64} : ∀ (m i : Nat), (∀ j, i ≤ j → j < i + m → mm x j = mm y j) → bls x m i = bls y m i
  | 0, _, _ => rfl
  | m + 1, i, h => by rw [bls, bls, h i (Nat.le_refl _) (by omega), bls_cong m (i + 1) (fun j a b => h j (by omega) (by omega))]
theorem bls_skip {x : Int64} {t : Nat} : ∀ (m i : Nat), i ≤ t → t ≤ i + m → (∀ j, i ≤ j → j < t → mm x j = false) → bls x m i = bls x (i + m - t) t
  | 0, i, h1, h2, _ => by
    have e : i = t := by omega
    subst e
    rw [show i + 0 - i = 0 by omega]
  | m + 1, i, h1, h2, h3 => by
    by_cases e : i = t
    · subst e
      rw [show i + (m + 1) - i = m + 1 by omega]
    · rw [bls_f (h3 i (Nat.le_refl _) (by omega)), bls_skip m (i + 1) (by omega) (by omega) (fun j a b => h3 j (by omega) b)]
      congr 1
      omega
/-- the lowest crossing, and the rest -/
theorem bls_step {x : Int64} {n t : Nat} (hn : n < 64) (ht : t < n) (h1 : mm x t = true) (h2 : ∀ j, j < t → mm x j = false) : bls x n 0 = t :: bls (x &&& (jshl 1 (nI t) ^^^ (-1))) n 0 := by
  have hz : ∀ j, mm (x &&& (jshl 1 (nI t) ^^^ (-1))) j = (mm x j && !decide (j = t)) := fun j => by rw [mm_an, mm_bit (by omega)]
  rw [bls_low h1 n 0 (by omega) (by omega) (fun j _ hj => h2 j hj), bls_skip (x := x &&& (jshl 1 (nI t) ^^^ (-1))) (t := t + 1) n 0 (by omega) (by omega) (fun j _ hj => by
    rw [hz]
    by_cases e : j = t
    · rw [decide_eq_true e]; cases mm x j <;> rfl
    · rw [h2 j (by omega)]; rfl), Nat.zero_add]
  congr 1
  exact bls_cong _ _ (fun j a _ => by rw [hz, decide_eq_false (by omega)]; cases mm x j <;> rfl)
theorem bls_len (x : Int64) : ∀ (m i : Nat), (bls x m i).length ≤ m
  | 0, _ => Nat.le_refl _
  | m + 1, i => by
    have := bls_len x m (i + 1)
    cases e : mm x i
    · rw [bls_f e]; omega
    · rw [bls_t e, List.length_cons]; omega
theorem bls_pc {x : Int64} : ∀ (m i : Nat), (bls x m i).length = fb_ct (fun k => mm x (i + k)) m
  | 0, _ => rfl
  | m + 1, i => by
    have h1 := bls_pc (x := x) m (i + 1)
    have h2 := fb_ct_split (fun k => mm x (i + k)) 1 m
    rw [Nat.add_comm 1 m] at h2
    rw [h2]
    have h3 : fb_ct (fun k => mm x (i + k)) 1 = if mm x i = true then 1 else 0 := by
      rw [fb_ct_succ]
      show 0 + _ = _
      rw [Nat.zero_add]; rfl
    have h4 : fb_ct (fun k => mm x (i + (1 + k))) m = fb_ct (fun k => mm x (i + 1 + k)) m := fb_ct_cong (fun k _ => by rw [Nat.add_assoc])
    rw [h3, h4, ← h1]
    cases e : mm x i
    · rw [bls_f e, if_neg (by decide), Nat.zero_add]
    · rw [bls_t e, if_pos rfl, List.length_cons, Nat.add_comm]
theorem counts_t {T : Nat} (hT : T < 600) (sp : Int32) : f_X7_counts (nI T) sp = some (nI (T + 1), sp) := by
  unfold f_X7_counts
  rw [if_neg (show ¬ nI T = 600 from fun q => by have := (nI_eq (b := 600) (by omega) (by decide)).mp q; omega), nm_eq, nI_1]
theorem counts_f {T : Nat} (hT : ¬ T < 600) (h2 : T ≤ 600) (sp : Int32) : f_X7_counts (nI T) sp = some (nI T, 1) := by
  have e : T = 600 := by omega
  subst e
  unfold f_X7_counts
  rw [if_pos (by decide)]
section C7
variable {w h : Nat} {gd : Gd} {mw mh : Int32} {nb : Nat → Int64}
theorem f_chaseBreaths (G : GdOK w h gd) (N : NbOK w h mw mh nb) {b v : Int64} (B : Bd gd (w * h) b v) (cc : Int32) (t : Nat) : f_X7_chaseBreaths mw mh nb b v cc (nI t) = some (Br gd t cc b v) := by
  have hS := Bd_own B cc
  unfold f_X7_chaseBreaths
  rw [nm_ite]
  show ((f_X7_spread mw mh nb (jshl 1 (nI t)) (Ow cc b v)).bind _) = _
  rw [f_spread7 G N hS, Option.bind_some, f_around G N (Sp_sb hS), Option.bind_some, f_free7 G N]; rfl
theorem f_isAt (x y p q : Int64) : f_X7_isAt x y p q = some (if x = p ∧ y = q then 1 else 0) := by
  unfold f_X7_isAt
  by_cases h1 : x = p
  · by_cases h2 : y = q
    · rw [if_pos h1, if_pos h2, if_pos ⟨h1, h2⟩]
    · rw [if_pos h1, if_neg h2, if_neg (fun z => h2 z.2)]
  · rw [if_neg h1, if_neg (fun z => h1 z.1)]
/-- what lies ahead of a chase's board -/
def AhOK (ah : Option (Int64 × Int64)) (p q : Int64) (f : Int32) : Prop := (ah = none ∧ f = 0) ∨ (ah = some (p, q) ∧ f = 1)
theorem f_mayChase (G : GdOK w h gd) (N : NbOK w h mw mh nb) {cc : Int32} (hc : cc = 1 ∨ cc = 2) {d k : Nat} (hd : d < 21) (hk : k < w * h) {cB cW aB aW : Nat → Int64} {hA : Nat → Int32} {ah : Option (Int64 × Int64)} (B : Bd gd (w * h) (cB d) (cW d)) (ha : AhOK ah (aB d) (aW d) (hA d)) (x y : Int64) (tk : Int32) : ∃ x' y' tk', f_X7_mayChase mw mh x y tk nb cB cW aB aW hA (nI d) cc (nI k) = some (if lgb gd (3 - cc) (cB d) (cW d) ah k = true then 1 else 0, x', y', tk') ∧ (lgb gd (3 - cc) (cB d) (cW d) ah k = true → x' = Nb gd (3 - cc) (cB d) (cW d) k ∧ y' = Nw gd (3 - cc) (cB d) (cW d) k) := by
  have hc3 : 3 - cc = 1 ∨ 3 - cc = 2 := by rcases hc with rfl | rfl <;> decide
  have i1 := nI_in hd (by decide)
  have cl : (nI d).toNatClampNeg = d := nI_clamp (by omega)
  unfold f_X7_mayChase
  rw [if_neg i1, if_neg i1, cl]
  simp only [f_X7_other, Option.bind_some]
  have no : ∀ {P : Prop}, ¬ Lc gd (3 - cc) (cB d) (cW d) ah k → lgb gd (3 - cc) (cB d) (cW d) ah k = true → P := fun a b => absurd (cdec_of b) a
  rcases f_laid G N hc3 B hk x y tk with ⟨h0, e⟩ | ⟨h0, r, e, h2⟩
  · have nl : ¬ Lc gd (3 - cc) (cB d) (cW d) ah k := fun q => q.1 h0
    rw [e, Option.bind_some, if_neg n10, show lgb gd (3 - cc) (cB d) (cW d) ah k = false from cdec_f nl]
    exact ⟨_, _, _, rfl, fun z => by cases z⟩
  · rw [e, Option.bind_some]
    rcases h2 with ⟨rfl, hs⟩ | ⟨rfl, hs⟩
    · have nl : ¬ Lc gd (3 - cc) (cB d) (cW d) ah k := fun q => q.2.1 hs
      rw [if_neg (show ¬ (2 : Int32) = 0 by decide), show lgb gd (3 - cc) (cB d) (cW d) ah k = false from cdec_f nl]
      exact ⟨_, _, _, rfl, fun z => by cases z⟩
    · rw [if_pos rfl]
      rcases ha with ⟨rfl, hf⟩ | ⟨rfl, hf⟩
      · rw [if_neg (nI_inc hd (by omega)), if_pos hf, show lgb gd (3 - cc) (cB d) (cW d) none k = true from cdec_t ⟨h0, hs, fun z => by cases z⟩]
        exact ⟨_, _, _, rfl, fun _ => ⟨rfl, rfl⟩⟩
      · rw [if_neg (nI_inc hd (by omega)), if_neg (show ¬ hA d = 0 by rw [hf]; decide), if_neg (nI_inc hd (by omega)), if_neg (nI_inc hd (by omega)), f_isAt, Option.bind_some]
        by_cases z : Nb gd (3 - cc) (cB d) (cW d) k = aB d ∧ Nw gd (3 - cc) (cB d) (cW d) k = aW d
        · have nl : ¬ Lc gd (3 - cc) (cB d) (cW d) (some (aB d, aW d)) k := fun q => q.2.2 (by rw [z.1, z.2])
          rw [if_pos z, if_neg n10, show lgb gd (3 - cc) (cB d) (cW d) (some (aB d, aW d)) k = false from cdec_f nl]
          exact ⟨_, _, _, rfl, fun z => by cases z⟩
        · rw [if_neg z, if_pos rfl, show lgb gd (3 - cc) (cB d) (cW d) (some (aB d, aW d)) k = true from cdec_t ⟨h0, hs, fun q => z (by
            have q1 := Option.some.inj q
            exact ⟨(congrArg Prod.fst q1).symm, (congrArg Prod.snd q1).symm⟩)⟩]
          exact ⟨_, _, _, rfl, fun _ => ⟨rfl, rfl⟩⟩
theorem f_mayAnswer (G : GdOK w h gd) (N : NbOK w h mw mh nb) {cc : Int32} (hc : cc = 1 ∨ cc = 2) {d k : Nat} (hd : d < 21) (hk : k < w * h) {cB cW lB lW : Nat → Int64} (B : Bd gd (w * h) (lB d) (lW d)) (x y : Int64) (tk : Int32) : ∃ x' y' tk', f_X7_mayAnswer mw mh x y tk nb cB cW lB lW (nI d) cc (nI k) = some (if lgb gd cc (lB d) (lW d) (some (cB d, cW d)) k = true then 1 else 0, x', y', tk') ∧ (lgb gd cc (lB d) (lW d) (some (cB d, cW d)) k = true → x' = Nb gd cc (lB d) (lW d) k ∧ y' = Nw gd cc (lB d) (lW d) k) := by
  have i1 := nI_in hd (by decide)
  have cl : (nI d).toNatClampNeg = d := nI_clamp (by omega)
  unfold f_X7_mayAnswer
  rw [if_neg i1, if_neg i1, cl]
  rcases f_laid G N hc B hk x y tk with ⟨h0, e⟩ | ⟨h0, r, e, h2⟩
  · rw [e, Option.bind_some, if_neg n10, show lgb gd cc (lB d) (lW d) (some (cB d, cW d)) k = false from cdec_f (fun q => q.1 h0)]
    exact ⟨_, _, _, rfl, fun z => by cases z⟩
  · rw [e, Option.bind_some]
    rcases h2 with ⟨rfl, hs⟩ | ⟨rfl, hs⟩
    · rw [if_neg (show ¬ (2 : Int32) = 0 by decide), show lgb gd cc (lB d) (lW d) (some (cB d, cW d)) k = false from cdec_f (fun q => q.2.1 hs)]
      exact ⟨_, _, _, rfl, fun z => by cases z⟩
    · rw [if_pos rfl, if_neg (nI_inc hd (by omega)), if_neg (nI_inc hd (by omega)), f_isAt, Option.bind_some]
      by_cases z : Nb gd cc (lB d) (lW d) k = cB d ∧ Nw gd cc (lB d) (lW d) k = cW d
      · rw [if_pos z, if_neg n10, show lgb gd cc (lB d) (lW d) (some (cB d, cW d)) k = false from cdec_f (fun q => q.2.2 (by rw [z.1, z.2]))]
        exact ⟨_, _, _, rfl, fun z => by cases z⟩
      · rw [if_neg z, if_pos rfl, show lgb gd cc (lB d) (lW d) (some (cB d, cW d)) k = true from cdec_t ⟨h0, hs, fun q => z (by
          have q1 := Option.some.inj q
          exact ⟨(congrArg Prod.fst q1).symm, (congrArg Prod.snd q1).symm⟩)⟩]
        exact ⟨_, _, _, rfl, fun _ => ⟨rfl, rfl⟩⟩
theorem lp_findAnswers (G : GdOK w h gd) (N : NbOK w h mw mh nb) {d : Nat} (hd : d < 21) {b v foe : Int64} (hf : Sb foe (w * h)) (fA an : Nat → Int32) (q13 : Int32) : ∀ (nF : Nat) (T : Int64) (W : Nat → Int64), pc T < nF → Le T foe → ∃ W', lp_X7_findAnswers_103 mw mh nb fA an (nI d) b v foe q13 nF T W = some (W', upd fA d q13, upd an d 1) ∧ (∀ i, ¬ i = d → W' i = W i) ∧ ∀ j, mm (W' d) j = true ↔ mm (W d) j = true ∨ ∃ t, mm T t = true ∧ mm (Tv gd (Fr gd b v) (Cm gd foe t)) j = true := by
  have i1 := nI_in hd (by decide)
  have cl : (nI d).toNatClampNeg = d := nI_clamp (by omega)
  have nb1 : vp_nar .boolean (1 : Int32) = 1 := by decide
  intro nF
  induction nF with
  | zero => intro T W h1; omega
  | succ nF ih =>
    intro T W h1 h2
    rw [lp_X7_findAnswers_103]
    by_cases h0 : T = 0
    · rw [if_pos h0, if_neg i1, cl, nb1]
      refine ⟨W, rfl, fun _ _ => rfl, fun j => ⟨Or.inl, fun q => ?_⟩⟩
      rcases q with q | ⟨t, q, -⟩
      · exact q
      · rw [h0, mm_0] at q; cases q
    · rw [if_neg h0, f_spread7 G N hf]
      obtain ⟨t, t1, t2, t3, t4, t5⟩ := low_step (gd := gd) h2 h0
      have hcs : Sb (Cm gd foe t) (w * h) := (Cm_in foe t).sb hf
      have hpl := pc_le (Bs gd (Cm gd foe t) &&& Fr gd b v)
      rw [Option.bind_some, t3, nm_eq, f_around G N hcs, Option.bind_some, f_free7 G N, Option.bind_some, nm_eq, if_neg i1, cl, f_many, Option.bind_some]
      simp only [nm_eq]
      have e0 : (if nI (pc (Bs gd (Cm gd foe t) &&& Fr gd b v)) = 1 then (if nI d < 0 ∨ 21 ≤ d then none else lp_X7_findAnswers_103 mw mh nb fA an (nI d) b v foe q13 nF (T &&& (Cm gd foe t ^^^ (-1))) (vp_updL W d (W d ||| (Bs gd (Cm gd foe t) &&& Fr gd b v)))) else (if nI d < 0 ∨ 21 ≤ d then none else lp_X7_findAnswers_103 mw mh nb fA an (nI d) b v foe q13 nF (T &&& (Cm gd foe t ^^^ (-1))) (vp_updL W d (W d ||| 0)))) = lp_X7_findAnswers_103 mw mh nb fA an (nI d) b v foe q13 nF (T &&& (Cm gd foe t ^^^ (-1))) (vp_updL W d (W d ||| Tv gd (Fr gd b v) (Cm gd foe t))) := by
        unfold Tv
        by_cases z : pc (Bs gd (Cm gd foe t) &&& Fr gd b v) = 1
        · rw [if_pos (show nI _ = 1 by rw [z]; decide), if_pos z, if_neg (nI_inc hd (by omega))]
        · rw [if_neg (show ¬ nI (pc (Bs gd (Cm gd foe t) &&& Fr gd b v)) = 1 from fun q => z ((nI_eq (b := 1) (by omega) (by decide)).mp q)), if_neg z, if_neg (nI_inc hd (by omega))]
      rw [e0]
      obtain ⟨W', r1, r2, r3⟩ := ih (T &&& (Cm gd foe t ^^^ (-1))) (vp_updL W d (W d ||| Tv gd (Fr gd b v) (Cm gd foe t))) (by omega) t5
      refine ⟨W', r1, fun i hi => by rw [r2 i hi, pk_uLn hi], fun j => (r3 j).trans ?_⟩
      rw [pk_uLs, mm_or, Bool.or_eq_true]
      constructor
      · rintro ((q | q) | ⟨t', q1, q2⟩)
        · exact Or.inl q
        · exact Or.inr ⟨t, t1, q⟩
        · exact Or.inr ⟨t', Le.andL _ _ t' q1, q2⟩
      · rintro (q | ⟨t', q1, q2⟩)
        · exact Or.inl (Or.inl q)
        · cases e : mm (Cm gd foe t) t'
          · exact Or.inr ⟨t', by rw [mm_an, q1, e]; rfl, q2⟩
          · rw [Cm_eq G hf (mm_lt t2) e] at q2
            exact Or.inl (Or.inr q2)
theorem mm_Tg (G : GdOK w h gd) {b v : Int64} (cc : Int32) (t : Nat) (hS : Sb (Ow cc b v) (w * h)) (hf : Sb (Ow (3 - cc) b v) (w * h)) (j : Nat) : mm (Tg gd (w * h) t cc b v) j = true ↔ ∃ k, mm (Bs gd (Cm gd (Ow cc b v) t) &&& Ow (3 - cc) b v) k = true ∧ mm (Tv gd (Fr gd b v) (Cm gd (Ow (3 - cc) b v) k)) j = true := by
  unfold Tg
  rw [mm_Un]
  generalize hX : Sp gd (Bs gd (Cm gd (Ow cc b v) t)) (Ow (3 - cc) b v) = X
  have hXle : Le X (Ow (3 - cc) b v) := by rw [← hX]; exact Sp_in _ _
  have hXs : Sb X (w * h) := hXle.sb hf
  have hXc : ∀ x y, mm X x = true → aj w (w * h) x y = true → mm (Ow (3 - cc) b v) y = true → mm X y = true := fun x y g1 g2 g3 => by
    rw [← hX] at g1 ⊢
    exact Cm_step G hf g1 g2 g3
  constructor
  · rintro ⟨k, k1, k2⟩
    have hl : lst gd X k = true := by
      cases e : lst gd X k
      · have : Pf gd X k = 0 := by unfold Pf; rw [e]; rfl
        rw [this] at k2
        unfold Tv at k2
        rw [Bs_0 G] at k2
        have z : (0 : Int64) &&& Fr gd b v = 0 := and0.mpr (fun i hi => by rw [mm_0] at hi; cases hi)
        rw [z, pc_0, if_neg (by decide), mm_0] at k2
        cases k2
      · rfl
    have e : Pf gd X k = Cm gd X k := if_pos hl
    have hkX : mm X k = true := (Bool.and_eq_true_iff.mp hl).1
    rw [e, Cm_clo G hf hXle hXc hkX] at k2
    rw [← hX, mm_Sp G hf] at hkX
    obtain ⟨a1, i, a2, a3⟩ := hkX
    refine ⟨i, ?_, ?_⟩
    · rw [mm_and, a2, Cm_in _ k i a3]; rfl
    · rw [Cm_eq G hf (mm_lt a1) a3]; exact k2
  · rintro ⟨k, k1, k2⟩
    have hkX : mm X k = true := by rw [← hX]; exact Sp_seed _ _ k k1
    obtain ⟨i, a1, a2, a3, a4⟩ := lst_ex G hXs hkX
    refine ⟨i, a1, ?_⟩
    rw [show Pf gd X i = Cm gd X i from if_pos a2, a3, Cm_clo G hf hXle hXc hkX]
    exact k2
theorem f_findAnswers (G : GdOK w h gd) (N : NbOK w h mw mh nb) {cc : Int32} (hc : cc = 1 ∨ cc = 2) {d t : Nat} (hd : d < 21) {lB lW aL : Nat → Int64} {fA an : Nat → Int32} (B : Bd gd (w * h) (lB d) (lW d)) {k0 : Nat} (hk0 : mm (Br gd t cc (lB d) (lW d)) k0 = true) (hone : ∀ j, ¬ j = k0 → mm (Br gd t cc (lB d) (lW d)) j = false) : ∃ aL', f_X7_findAnswers mw mh nb lB lW aL fA an (nI d) cc (nI t) = some (aL', upd fA d (nI k0), upd an d 1) ∧ (∀ i, ¬ i = d → aL' i = aL i) ∧ aL' d &&& (jshl 1 (nI k0) ^^^ (-1)) = Tg gd (w * h) t cc (lB d) (lW d) &&& (Br gd t cc (lB d) (lW d) ^^^ (-1)) := by
  have hn := n_lt G
  have i1 := nI_in hd (by decide)
  have cl : (nI d).toNatClampNeg = d := nI_clamp (by omega)
  have hS := Bd_own B cc
  have hf := Bd_own B (3 - cc)
  have hk64 := mm_lt hk0
  have hgs : Sb (Sp gd (jshl 1 (nI t)) (Ow cc (lB d) (lW d))) (w * h) := Sp_sb hS
  unfold f_X7_findAnswers
  rw [if_neg i1, cl, nm_eq, if_neg (nI_inc hd (by omega)), nm_eq, nm_ite, nm_ite]
  have e1 : (if cc = 1 then lB d else lW d) = Ow cc (lB d) (lW d) := rfl
  have e2 : (if cc = 1 then lW d else lB d) = Ow (3 - cc) (lB d) (lW d) := by
    rcases hc with rfl | rfl
    · rw [c31, Ow_2, if_pos rfl]
    · rw [c32, Ow_1, if_neg (by decide)]
  rw [e1, e2, f_spread7 G N hS, Option.bind_some, f_around G N hgs, Option.bind_some, f_free7 G N, Option.bind_some, nm_eq]
  have hbr : Bs gd (Sp gd (jshl 1 (nI t)) (Ow cc (lB d) (lW d))) &&& Fr gd (lB d) (lW d) = Br gd t cc (lB d) (lW d) := rfl
  rw [hbr]
  have hlow : f_X7_least (Br gd t cc (lB d) (lW d)) 0 = some (nI k0) := by
    rcases f_low G (Br_sb G t cc (lB d) (lW d)) with ⟨t0, a1, a2, a3, a4, a5⟩ | ⟨a1, -, -⟩
    · have : t0 = k0 := Classical.byContradiction (fun z => by rw [hone t0 z] at a2; cases a2)
      rw [a5, this]
    · rw [a1, mm_0] at hk0; cases hk0
  rw [hlow, Option.bind_some, if_neg (nI_inc hd (by omega)), if_neg (nI_inc hd (by omega)), Option.bind_some, nm_eq]
  obtain ⟨W', r1, r2, r3⟩ := lp_findAnswers (b := lB d) (v := lW d) G N hd hf fA an (nI k0) FU (Bs gd (Sp gd (jshl 1 (nI t)) (Ow cc (lB d) (lW d))) &&& Ow (3 - cc) (lB d) (lW d)) (vp_updL aL d (Br gd t cc (lB d) (lW d))) (by have := pc_le (Bs gd (Sp gd (jshl 1 (nI t)) (Ow cc (lB d) (lW d))) &&& Ow (3 - cc) (lB d) (lW d)); have := FU_ge; omega) (Le.andR _ _)
  refine ⟨W', r1, fun i hi => by rw [r2 i hi, pk_uLn hi], mm_ext (fun j hj => ?_)⟩
  rw [mm_an, mm_an, mm_bit hk64]
  by_cases e : j = k0
  · subst e
    rw [hk0, decide_eq_true rfl]
    cases mm (W' d) j <;> cases mm (Tg gd (w * h) t cc (lB d) (lW d)) j <;> rfl
  · rw [decide_eq_false e, hone j e]
    have : mm (W' d) j = mm (Tg gd (w * h) t cc (lB d) (lW d)) j := by
      rw [Bool.eq_iff_iff, r3, pk_uLs, mm_Tg G cc t hS hf]
      constructor
      · rintro (q | q)
        · rw [hone j e] at q; cases q
        · exact q
      · intro q; exact Or.inr q
    rw [this]
theorem f_comes (G : GdOK w h gd) (N : NbOK w h mw mh nb) {cc : Int32} {d t : Nat} (hd : d < 21) {b v : Int64} (B : Bd gd (w * h) b v) (cB cW bL : Nat → Int64) (an : Nat → Int32) : f_X7_comes mw mh nb cB cW bL an (nI d) b v cc (nI t) = some (vp_updL cB d b, vp_updL cW d v, vp_updL bL d (Br gd t cc b v), upd an d 0) := by
  have i1 := nI_in hd (by decide)
  have nb0 : vp_nar .boolean (0 : Int32) = 0 := by decide
  unfold f_X7_comes
  rw [if_neg i1, if_neg i1, f_chaseBreaths G N B, Option.bind_some, if_neg i1, if_neg i1, nI_clamp (by omega), nb0]
end C7
