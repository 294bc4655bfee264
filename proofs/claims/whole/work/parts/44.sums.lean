/-! parts of a set: the least crossing of each, sums and unions over the parts -/
section PS
variable {w h : Nat} {gd : Gd}
theorem Sp_and (seed S : Int64) : Sp gd (seed &&& S) S = Sp gd seed S := by
  unfold Sp
  congr 1
  apply mm_ext
  intro k _
  rw [mm_and, mm_and]
  cases mm seed k <;> cases mm S k <;> rfl
theorem Sb49 (G : GdOK w h gd) {x : Int64} (hx : Sb x (w * h)) : Sb x 49 := fun k hk => by have := hx k hk; have := G.1.2.2.2.2; omega
theorem and0 {x y : Int64} : x &&& y = 0 ↔ ∀ j, mm x j = true → mm y j = false := by
  constructor
  · intro h j hj
    have h2 := congrArg (fun z => mm z j) h
    simp only [mm_and, mm_0, hj] at h2
    cases e : mm y j
    · rfl
    · rw [e] at h2; cases h2
  · intro h
    rw [mm_zero_iff]
    intro j _
    rw [mm_and]
    cases e : mm x j
    · rfl
    · rw [h j e]; rfl
theorem and_ne {x y : Int64} : ¬ x &&& y = 0 ↔ ∃ j, mm x j = true ∧ mm y j = true := by
  constructor
  · intro h
    apply Classical.byContradiction
    intro g
    apply h
    rw [and0]
    intro j hj
    cases e : mm y j
    · rfl
    · exact absurd ⟨j, hj, e⟩ g
  · rintro ⟨j, h1, h2⟩ e
    rw [and0] at e
    rw [e j h1] at h2; cases h2
def lst (gd : Gd) (S : Int64) (k : Nat) : Bool := mm S k && decide (Cm gd S k &&& (jshl 1 (nI k) - 1) = 0)
theorem lst_iff {S : Int64} {k : Nat} (hk : k < 64) : lst gd S k = true ↔ mm S k = true ∧ ∀ j, mm (Cm gd S k) j = true → k ≤ j := by
  unfold lst
  rw [Bool.and_eq_true, decide_eq_true_eq, and0]
  constructor
  · rintro ⟨h1, h2⟩
    refine ⟨h1, fun j hj => ?_⟩
    have := h2 j hj
    rw [mm_ahead hk] at this
    have := of_decide_eq_false this
    omega
  · rintro ⟨h1, h2⟩
    refine ⟨h1, fun j hj => ?_⟩
    rw [mm_ahead hk]
    have := h2 j hj
    exact decide_eq_false (by omega)
def Pf (gd : Gd) (S : Int64) (k : Nat) : Int64 := if lst gd S k = true then Cm gd S k else 0
theorem f_partFrom (G : GdOK w h gd) {S : Int64} (hS : Sb S (w * h)) {k : Nat} (hk : k < w * h) : f_X2_partFrom gd.1 gd.2.1 gd.2.2.1 gd.2.2.2 S (nI k) = some (Pf gd S k) := by
  have hn := n_lt G
  unfold f_X2_partFrom
  simp only [nm, f_beside, Option.bind_some]
  cases e : mm S k
  · rw [if_pos (Cm_nil (by omega) e)]
    unfold Pf lst
    rw [e]; rfl
  · have h1 : ¬ jshl 1 (nI k) &&& S = 0 := and_ne.mpr ⟨k, by rw [mm_bit (by omega)]; simp, e⟩
    rw [if_neg h1, f_spread (Sb49 G hS), Sp_and]
    simp only [Option.bind_some]
    have h2 : Pf gd S k = if Cm gd S k &&& (jshl 1 (nI k) - 1) = 0 then Cm gd S k else 0 := by
      unfold Pf lst
      rw [e, Bool.true_and]
      simp only [decide_eq_true_eq]
    rw [h2]
    by_cases h3 : Cm gd S k &&& (jshl 1 (nI k) - 1) = 0
    · have h4 : Bs gd (jshl 1 (nI k) &&& S) &&& S &&& (jshl 1 (nI k) - 1) = 0 := by
        rw [and0] at h3 ⊢
        intro j hj
        apply h3 j
        rw [mm_and] at hj
        obtain ⟨g1, g2⟩ := Bool.and_eq_true_iff.mp hj
        obtain ⟨i, g3, g4⟩ := (mm_Bs G (Sb.and2 hS) j).mp g1
        rw [mm_and, mm_bit (by omega)] at g3
        have g5 := of_decide_eq_true (Bool.and_eq_true_iff.mp g3).1
        subst g5
        exact Cm_step G hS (Cm_self e) g4 g2
      rw [if_pos h4, if_pos h3]
      show (if Cm gd S k &&& _ = 0 then _ else _) = _
      rw [if_pos h3]; rfl
    · rw [if_neg h3]
      by_cases h4 : Bs gd (jshl 1 (nI k) &&& S) &&& S &&& (jshl 1 (nI k) - 1) = 0
      · rw [if_pos h4]
        show (if Cm gd S k &&& _ = 0 then _ else _) = _
        rw [if_neg h3]
      · rw [if_neg h4]
theorem lst_ex (G : GdOK w h gd) {S : Int64} (hS : Sb S (w * h)) {t : Nat} (ht : mm S t = true) : ∃ k, k < w * h ∧ lst gd S k = true ∧ Cm gd S k = Cm gd S t ∧ mm (Cm gd S t) k = true := by
  have hn := n_lt G
  have h0 : ¬ Cm gd S t = 0 := fun e => by
    have := Cm_self (gd := gd) ht
    rw [e, mm_0] at this; cases this
  obtain ⟨k, k1, k2, k3, -⟩ := low_of h0
  have hk := Cm_in S t k k2
  have e := Cm_eq G hS (mm_lt ht) k2
  refine ⟨k, hS k hk, (lst_iff k1).mpr ⟨hk, fun j hj => ?_⟩, e, k2⟩
  rw [e] at hj
  rcases Nat.lt_or_ge j k with q | q
  · rw [k3 j q] at hj; cases hj
  · exact q
theorem lst_uniq (G : GdOK w h gd) {S : Int64} (hS : Sb S (w * h)) {k k' j : Nat} (h1 : lst gd S k = true) (h2 : lst gd S k' = true) (h3 : mm (Cm gd S k) j = true) (h4 : mm (Cm gd S k') j = true) : k = k' := by
  have a1 : mm S k = true := (Bool.and_eq_true_iff.mp h1).1
  have a2 : mm S k' = true := (Bool.and_eq_true_iff.mp h2).1
  have e1 := Cm_eq G hS (mm_lt a1) h3
  have e2 := Cm_eq G hS (mm_lt a2) h4
  have b1 := ((lst_iff (mm_lt a1)).mp h1).2 k' (by rw [← e1, e2]; exact Cm_self a2)
  have b2 := ((lst_iff (mm_lt a2)).mp h2).2 k (by rw [← e2, e1]; exact Cm_self a1)
  omega
/-- a sum over the parts of S that meet T -/
def Sm (gd : Gd) (S T : Int64) (F : Int64 → Nat) (n : Nat) : Nat := fb_sm (fun k => if lst gd S k = true ∧ ¬ Cm gd S k &&& T = 0 then F (Cm gd S k) else 0) n
theorem Sm_zero (S : Int64) (F : Int64 → Nat) (n : Nat) : Sm gd S 0 F n = 0 := by
  unfold Sm
  have : fb_sm (fun k => if lst gd S k = true ∧ ¬ Cm gd S k &&& 0 = 0 then F (Cm gd S k) else 0) n = fb_sm (fun _ => 0) n := fb_sm_cong (fun k _ => if_neg (fun hx => hx.2 (and0.mpr (fun j _ => mm_0 j))))
  rw [this, fb_sm_const, Nat.mul_zero]
theorem Sm_step (G : GdOK w h gd) {S T : Int64} (hS : Sb S (w * h)) (F : Int64 → Nat) {t : Nat} (ht : mm T t = true) (hTS : mm S t = true) : Sm gd S T F (w * h) = Sm gd S (T &&& (Cm gd S t ^^^ (-1))) F (w * h) + F (Cm gd S t) := by
  obtain ⟨k0, a1, a2, a3, a4⟩ := lst_ex G hS hTS
  unfold Sm
  have e1 := fb_sm_upd (fun k => if lst gd S k = true ∧ ¬ Cm gd S k &&& (T &&& (Cm gd S t ^^^ (-1))) = 0 then F (Cm gd S k) else 0) (F (Cm gd S t)) a1
  have e2 : (if lst gd S k0 = true ∧ ¬ Cm gd S k0 &&& (T &&& (Cm gd S t ^^^ (-1))) = 0 then F (Cm gd S k0) else 0) = 0 := if_neg (fun hx => hx.2 (by
    rw [and0]
    intro j hj
    rw [a3] at hj
    rw [mm_and, mm_not _ (mm_lt hj), hj]
    cases mm T j <;> rfl))
  rw [e2, Nat.add_zero] at e1
  rw [← e1]
  apply fb_sm_cong
  intro k _
  by_cases hk : k = k0
  · subst hk
    rw [if_pos rfl, if_pos ⟨a2, and_ne.mpr ⟨t, by rw [a3]; exact Cm_self hTS, ht⟩⟩, a3]
  · rw [if_neg hk]
    by_cases hl : lst gd S k = true
    · have key : (Cm gd S k &&& T = 0) ↔ (Cm gd S k &&& (T &&& (Cm gd S t ^^^ (-1))) = 0) := by
        rw [and0, and0]
        constructor
        · intro q j hj
          rw [mm_and, q j hj]; rfl
        · intro q j hj
          have q1 := q j hj
          rw [mm_and, mm_not _ (mm_lt hj)] at q1
          cases e : mm T j
          · rfl
          · rw [e, Bool.true_and] at q1
            have q2 : mm (Cm gd S t) j = true := by
              cases e3 : mm (Cm gd S t) j
              · rw [e3] at q1; cases q1
              · rfl
            rw [← a3] at q2
            exact absurd (lst_uniq G hS hl a2 hj q2) hk
      by_cases hc : Cm gd S k &&& T = 0
      · rw [if_neg (fun hx => hx.2 hc), if_neg (fun hx => hx.2 (key.mp hc))]
      · rw [if_pos ⟨hl, hc⟩, if_pos ⟨hl, fun q => hc (key.mpr q)⟩]
    · rw [if_neg (fun hx => hl hx.1), if_neg (fun hx => hl hx.1)]
theorem Sm_cls {S T : Int64} {F : Int64 → Nat} (h0 : F 0 = 0) (hT : ∀ k, lst gd S k = true → Cm gd S k &&& T = 0 → F (Cm gd S k) = 0) (n : Nat) : fb_sm (fun k => F (Pf gd S k)) n = Sm gd S T F n := by
  unfold Sm
  apply fb_sm_cong
  intro k _
  unfold Pf
  by_cases hl : lst gd S k = true
  · rw [if_pos hl]
    by_cases hc : Cm gd S k &&& T = 0
    · rw [if_neg (fun hx => hx.2 hc), hT k hl hc]
    · rw [if_pos ⟨hl, hc⟩]
  · rw [if_neg hl, if_neg (fun hx => hl hx.1), h0]
/-- what a loop that takes the lowest crossing's part away does -/
theorem low_step {S T : Int64} (hTS : Le T S) (h0 : ¬ T = 0) : ∃ t, mm T t = true ∧ mm S t = true ∧ Sp gd (T &&& -T) S = Cm gd S t ∧ pc (T &&& (Cm gd S t ^^^ (-1))) < pc T ∧ Le (T &&& (Cm gd S t ^^^ (-1))) S := by
  obtain ⟨t, h1, h2, h3, h4, h5⟩ := low_of h0
  refine ⟨t, h2, hTS t h2, by rw [h4]; rfl, pc_lt (Le.andL _ _) (fun e => ?_), (Le.andL _ _).tr hTS⟩
  have h6 := h2
  rw [← e, mm_and, mm_not _ h1, Cm_self (hTS t h2)] at h6
  simp at h6
/-- unions -/
def Un (V : Nat → Int64) : Nat → Int64
  | 0 => 0
  | n + 1 => Un V n ||| V n
theorem Un_succ (V : Nat → Int64) (n : Nat) : Un V (n + 1) = Un V n ||| V n := rfl
theorem mm_Un (V : Nat → Int64) (j : Nat) : ∀ n, mm (Un V n) j = true ↔ ∃ k, k < n ∧ mm (V k) j = true
  | 0 => ⟨fun hx => absurd hx (by rw [show Un V 0 = 0 from rfl, mm_0]; decide), fun ⟨k, hk, _⟩ => absurd hk (Nat.not_lt_zero k)⟩
  | n + 1 => by
    rw [Un_succ, mm_or, Bool.or_eq_true, mm_Un V j n]
    constructor
    · rintro (⟨k, h1, h2⟩ | h2)
      · exact ⟨k, by omega, h2⟩
      · exact ⟨n, by omega, h2⟩
    · rintro ⟨k, h1, h2⟩
      by_cases e : k = n
      · subst e; exact Or.inr h2
      · exact Or.inl ⟨k, by omega, h2⟩
theorem or_0 (x : Int64) : x ||| 0 = x := mm_ext (fun k _ => by rw [mm_or, mm_0, Bool.or_false])
theorem and_m1 (x : Int64) : x &&& (-1) = x := mm_ext (fun k hk => by rw [mm_and, mm_m1 k hk, Bool.and_true])
theorem mm_an (x y : Int64) (k : Nat) : mm (x &&& (y ^^^ (-1))) k = (mm x k && !mm y k) := by
  rcases Nat.lt_or_ge k 64 with q | q
  · rw [mm_and, mm_not _ q]
  · rw [mm_big q, mm_big q]; rfl
/-- whoever is in the spread of a seed -/
theorem mm_Sp (G : GdOK w h gd) {S : Int64} (hS : Sb S (w * h)) (seed : Int64) (x : Nat) : mm (Sp gd seed S) x = true ↔ mm S x = true ∧ ∃ k, mm seed k = true ∧ mm (Cm gd S x) k = true := by
  constructor
  · intro hx
    obtain ⟨k, q1, q2, q3⟩ := Sp_from G hS hx
    exact ⟨Sp_in _ _ x hx, k, q1, q3⟩
  · rintro ⟨h1, k, h2, h3⟩
    have hk := Cm_in S x k h3
    have h4 : mm (Sp gd seed S) k = true := Sp_seed seed S k (by rw [mm_and, h2, hk]; rfl)
    exact Cm_sub G hS h4 x (Cm_sym G hS (mm_lt h1) h3)
/-- a set that is closed within S has S's own parts -/
theorem Cm_clo (G : GdOK w h gd) {S U : Int64} (hS : Sb S (w * h)) (hU : Le U S) (hc : ∀ x y, mm U x = true → aj w (w * h) x y = true → mm S y = true → mm U y = true) {t : Nat} (ht : mm U t = true) : Cm gd U t = Cm gd S t := by
  apply Le.anti
  · refine Cm_le_of G (hU.sb hS) (fun j hj => ?_) (fun x y g1 g2 g3 => ?_) (seed := jshl 1 (nI t)) (d := Cm gd S t &&& U) ?_ |>.tr (Le.andL _ _)
    · exact Le.andR _ _ j hj
    · rw [mm_and] at g1 ⊢
      have q : mm (Cm gd S t) y = true := Cm_step G hS (Bool.and_eq_true_iff.mp g1).1 g2 (hU y g3)
      rw [q, g3]; rfl
    · intro j hj
      rw [mm_and, mm_bit (mm_lt ht)] at hj
      have e := of_decide_eq_true (Bool.and_eq_true_iff.mp hj).1
      subst e
      rw [mm_and, Cm_self (hU _ ht), ht]; rfl
  · refine Cm_le_of G hS ((Cm_in U t).tr hU) (fun x y g1 g2 g3 => ?_) (fun j hj => ?_)
    · exact Cm_step G (hU.sb hS) g1 g2 (hc x y (Cm_in U t x g1) g2 g3)
    · rw [mm_and, mm_bit (mm_lt ht)] at hj
      have e := of_decide_eq_true (Bool.and_eq_true_iff.mp hj).1
      subst e
      exact Cm_self ht
/-- touching is mutual -/
theorem tch (G : GdOK w h gd) {x y : Int64} (hx : Sb x (w * h)) (hy : Sb y (w * h)) : (Bs gd x &&& y = 0) ↔ (Bs gd y &&& x = 0) := by
  have one : ∀ {x y : Int64}, Sb x (w * h) → Sb y (w * h) → ¬ Bs gd x &&& y = 0 → ¬ Bs gd y &&& x = 0 := by
    intro x y hx hy h1
    obtain ⟨j, a1, a2⟩ := and_ne.mp h1
    obtain ⟨i, a3, a4⟩ := (mm_Bs G hx j).mp a1
    exact and_ne.mpr ⟨i, (mm_Bs G hy i).mpr ⟨j, a2, aj_sym a4⟩, a3⟩
  constructor
  · intro q; exact Classical.byContradiction (fun q2 => one hy hx q2 q)
  · intro q; exact Classical.byContradiction (fun q2 => one hx hy q2 q)
theorem and_cm (x y : Int64) : x &&& y = y &&& x := mm_ext (fun k _ => by rw [mm_and, mm_and, Bool.and_comm])
end PS
