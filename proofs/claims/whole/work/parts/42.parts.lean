/-! the parts of a set that hang together -/
theorem odd_part : ∀ (n : Nat), 0 < n → ∃ t m, n = 2 ^ t * (2 * m + 1) := by
  intro n
  induction n using Nat.strongRecOn with
  | ind n ih =>
    intro hn
    by_cases h : n % 2 = 1
    · exact ⟨0, n / 2, by omega⟩
    · obtain ⟨t, m, e⟩ := ih (n / 2) (by omega) (by omega)
      exact ⟨t + 1, m, by rw [Nat.pow_succ, Nat.mul_comm (2 ^ t) 2, Nat.mul_assoc, ← e]; omega⟩
theorem tb_odd (t m k : Nat) : (2 ^ t * (2 * m + 1)).testBit k = if k < t then false else if k = t then true else m.testBit (k - t - 1) := by
  rw [Nat.testBit_two_pow_mul]
  by_cases h1 : k < t
  · rw [if_pos h1]; simp; intro h; omega
  · rw [if_neg h1]
    by_cases h2 : k = t
    · subst h2
      rw [if_pos rfl]
      simp
    · rw [if_neg h2, show k - t = (k - t - 1) + 1 by omega, Nat.testBit_succ]
      simp
      rw [show (2 * m + 1) / 2 = m by omega, show decide (t ≤ k) = true from decide_eq_true (by omega), Bool.true_and]
/-- the lowest crossing of a set -/
theorem low_of {x : Int64} (h : ¬ x = 0) : ∃ t, t < 64 ∧ mm x t = true ∧ (∀ j, j < t → mm x j = false) ∧ x &&& -x = jshl 1 (nI t) ∧ ∀ k, mm (x &&& (x - 1)) k = (mm x k && !decide (k = t)) := by
  obtain ⟨n, hn, rfl⟩ := wb_of x
  have hpos : 0 < n := by
    rcases Nat.eq_zero_or_pos n with e | e
    · subst e; exact absurd rfl h
    · exact e
  obtain ⟨t, m, e⟩ := odd_part n hpos
  have ht : t < 64 := by
    rcases Nat.lt_or_ge t 64 with g | g
    · exact g
    · have h1 : 2 ^ 64 ≤ 2 ^ t := Nat.pow_le_pow_right (by decide) g
      have h2 : 2 ^ t ≤ n := by rw [e]; exact Nat.le_mul_of_pos_right _ (by omega)
      omega
  have hp : 2 ^ 64 = 2 ^ t * (2 * 2 ^ (63 - t)) := by
    rw [← Nat.pow_succ', ← Nat.pow_add]; congr 1; omega
  have hm : m < 2 ^ (63 - t) := by
    apply Classical.byContradiction
    intro g
    have h1 : 2 ^ t * (2 * 2 ^ (63 - t)) ≤ 2 ^ t * (2 * m + 1) := Nat.mul_le_mul_left _ (by omega)
    rw [← hp, ← e] at h1
    omega
  have bits : ∀ k, k < 64 → mm (lN n) k = if k < t then false else if k = t then true else m.testBit (k - t - 1) := fun k hk => by rw [mm_lN n hk, e, tb_odd]
  have hneg : -(lN n) = lN (2 ^ t * (2 * (2 ^ (63 - t) - (m + 1)) + 1)) := by
    have h1 : lN n + lN (2 ^ t * (2 * (2 ^ (63 - t) - (m + 1)) + 1)) = 0 := by
      rw [lN_add, e, ← Nat.mul_add, show 2 * m + 1 + (2 * (2 ^ (63 - t) - (m + 1)) + 1) = 2 * 2 ^ (63 - t) by omega, ← hp]
      decide
    have h2 : -(lN n) = -(lN n) + (lN n + lN (2 ^ t * (2 * (2 ^ (63 - t) - (m + 1)) + 1))) := by rw [h1, Int64.add_zero]
    rw [h2, ← Int64.add_assoc, Int64.add_comm (-(lN n)), Int64.add_right_neg, Int64.zero_add]
  have hsub : lN n - 1 = lN (2 ^ t * (2 * m) + (2 ^ t - 1)) := by
    have hp1 : 1 ≤ 2 ^ t := Nat.one_le_two_pow
    rw [show (1 : Int64) = lN 1 from rfl, lN_sub hpos]
    congr 1
    rw [e, Nat.mul_add, Nat.mul_one]
    omega
  refine ⟨t, ht, by rw [bits t ht]; simp, fun j hj => by rw [bits j (by omega), if_pos hj], ?_, ?_⟩
  · rw [hneg]
    apply mm_ext
    intro k hk
    rw [mm_and, bits k hk, mm_lN _ hk, tb_odd, mm_bit ht]
    by_cases h1 : k < t
    · simp [h1]; omega
    · by_cases h2 : k = t
      · simp [h2]
      · simp only [h1, h2, if_false]
        rw [Nat.testBit_two_pow_sub_succ hm]
        cases m.testBit (k - t - 1) <;> simp
  · intro k
    rcases Nat.lt_or_ge k 64 with hk | hk
    · rw [mm_and, hsub, bits k hk, mm_lN _ hk]
      have hlt : 2 ^ t - 1 < 2 ^ t := by have : 1 ≤ 2 ^ t := Nat.one_le_two_pow; omega
      rw [Nat.testBit_two_pow_mul_add _ hlt]
      by_cases h1 : k < t
      · simp [h1]
      · by_cases h2 : k = t
        · subst h2; simp
        · simp only [h1, h2, if_false]
          rw [show k - t = (k - t - 1) + 1 by omega, Nat.testBit_succ, show 2 * m / 2 = m by omega]
          simp
    · rw [mm_and, mm_big hk]; rfl
theorem pc_drop {x y : Int64} {t : Nat} (ht : t < 64) (hx : mm x t = true) (hy : ∀ k, mm y k = (mm x k && !decide (k = t))) : pc x = pc y + 1 := by
  have h2 := fb_ct_upd (mm x) false ht
  have h5 : (if mm x t = true then 1 else 0) = 1 := if_pos hx
  have h6 : (if false = true then 1 else 0) = 0 := rfl
  rw [h5, h6] at h2
  have h3 : fb_ct (fun k => if k = t then false else mm x k) 64 = fb_ct (mm y) 64 := fb_ct_cong (fun k _ => by
    rw [hy k]
    by_cases g : k = t
    · simp [g]
    · simp [g])
  unfold pc
  omega
theorem lp_many : ∀ (nF : Nat) (c : Nat) (x : Int64), pc x < nF → lp_X7_many_4 nF (nI c) x = some (nI (c + pc x)) := by
  intro nF
  induction nF with
  | zero => intro c x h; omega
  | succ nF ih =>
    intro c x h
    rw [lp_X7_many_4]
    by_cases g : x = 0
    · rw [if_pos g, g, pc_0]; rfl
    · rw [if_neg g]
      obtain ⟨t, h1, h2, h3, h4, h5⟩ := low_of g
      have h6 := pc_drop h1 h2 h5
      simp only [nm]
      rw [nI_1, ih (c + 1) _ (by omega), h6]
      congr 2
      omega
theorem f_many (x : Int64) : f_X7_many x = some (nI (pc x)) := by
  unfold f_X7_many
  rw [show (0 : Int32) = nI 0 from rfl, lp_many FU 0 x (by have := pc_le x; have := FU_ge; omega), Nat.zero_add]
theorem lp_least (x : Int64) : ∀ (nF i : Nat), i ≤ 49 → 49 - i < nF → (∃ k, i ≤ k ∧ k < 49 ∧ mm x k = true ∧ (∀ j, i ≤ j → j < k → mm x j = false) ∧ lp_X7_least_2 x nF (nI i) = some (nI k)) ∨ ((∀ j, i ≤ j → j < 49 → mm x j = false) ∧ lp_X7_least_2 x nF (nI i) = some (-1)) := by
  intro nF
  induction nF with
  | zero => intro i h1 h2; omega
  | succ nF ih =>
    intro i h1 h2
    rw [lp_X7_least_2]
    by_cases hi : i = 49
    · subst hi
      rw [if_pos (by show nI 49 ≤ nI 49; exact nI_le (Nat.le_refl _) (by omega))]
      exact Or.inr ⟨fun j g1 g2 => by omega, rfl⟩
    · rw [if_neg (by show ¬ nI 49 ≤ nI i; exact nI_ge (by omega) (by omega))]
      by_cases g : mm x i = true
      · rw [if_pos ((test_s x (by omega)).mpr g)]
        exact Or.inl ⟨i, Nat.le_refl _, by omega, g, fun j g1 g2 => by omega, rfl⟩
      · rw [if_neg (fun z => g ((test_s x (by omega)).mp z))]
        simp only [nm]
        rw [nI_1]
        have g' : mm x i = false := by cases e : mm x i <;> simp_all
        rcases ih (i + 1) (by omega) (by omega) with ⟨k, h3, h4, h5, h6, h7⟩ | ⟨h3, h4⟩
        · refine Or.inl ⟨k, by omega, h4, h5, fun j j1 j2 => ?_, h7⟩
          by_cases e : j = i
          · subst e; exact g'
          · exact h6 j (by omega) j2
        · refine Or.inr ⟨fun j j1 j2 => ?_, h4⟩
          by_cases e : j = i
          · subst e; exact g'
          · exact h3 j (by omega) j2
section PT
variable {w h : Nat} {gd : Gd}
/-- the part of S with k in it -/
def Cm (gd : Gd) (S : Int64) (k : Nat) : Int64 := Sp gd (jshl 1 (nI k)) S
theorem Cm_in (S : Int64) (k : Nat) : Le (Cm gd S k) S := Sp_in _ _
theorem Cm_self {S : Int64} {k : Nat} (h : mm S k = true) : mm (Cm gd S k) k = true := Sp_seed _ _ k (by rw [mm_and, mm_bit (mm_lt h), h]; simp)
theorem Cm_nil {S : Int64} {k : Nat} (hk : k < 64) (h : mm S k = false) : jshl 1 (nI k) &&& S = 0 := by
  rw [mm_zero_iff]
  intro j _
  rw [mm_and, mm_bit hk]
  by_cases g : j = k
  · subst g; simp [h]
  · simp [g]
theorem Cm_step (G : GdOK w h gd) {S : Int64} (hS : Sb S (w * h)) {seed : Int64} {x y : Nat} (h1 : mm (Sp gd seed S) x = true) (h2 : aj w (w * h) x y = true) (h3 : mm S y = true) : mm (Sp gd seed S) y = true :=
  Sp_closed seed S y (by rw [mm_and, h3, (mm_Bs G (Sp_sb hS) y).mpr ⟨x, h1, h2⟩]; rfl)
theorem Cm_le_of (G : GdOK w h gd) {S d : Int64} (hS : Sb S (w * h)) (hd : Le d S) (hc : ∀ x y, mm d x = true → aj w (w * h) x y = true → mm S y = true → mm d y = true) {seed : Int64} (h1 : Le (seed &&& S) d) : Le (Sp gd seed S) d :=
  Sp_least G (hd.sb hS) h1 (fun y hy => by
    rw [mm_and] at hy
    obtain ⟨g1, g2⟩ := Bool.and_eq_true_iff.mp hy
    obtain ⟨x, g3, g4⟩ := (mm_Bs G (hd.sb hS) y).mp g1
    exact hc x y g3 g4 g2)
theorem Cm_sub (G : GdOK w h gd) {S : Int64} (hS : Sb S (w * h)) {seed : Int64} {j : Nat} (h1 : mm (Sp gd seed S) j = true) : Le (Cm gd S j) (Sp gd seed S) :=
  Cm_le_of G hS (Sp_in _ _) (fun x y g1 g2 g3 => Cm_step G hS g1 g2 g3) (fun x hx => by
    rw [mm_and, mm_bit (mm_lt h1)] at hx
    have := of_decide_eq_true (Bool.and_eq_true_iff.mp hx).1
    subst this; exact h1)
/-- whoever is in a spread hangs together with a seed of it -/
theorem Sp_from (G : GdOK w h gd) {S : Int64} (hS : Sb S (w * h)) {seed : Int64} {x : Nat} (hx : mm (Sp gd seed S) x = true) : ∃ k, mm seed k = true ∧ mm S k = true ∧ mm (Cm gd S x) k = true := by
  apply Classical.byContradiction
  intro g
  have hxS := Sp_in seed S x hx
  have hle : Le (Sp gd seed S) (Sp gd seed S &&& (Cm gd S x ^^^ (-1))) := by
    refine Cm_le_of G hS ((Le.andL _ _).tr (Sp_in _ _)) (fun y z g1 g2 g3 => ?_) (fun y hy => ?_)
    · rw [mm_and] at g1 ⊢
      obtain ⟨q1, q2⟩ := Bool.and_eq_true_iff.mp g1
      have hz64 := mm_lt g3
      rw [Cm_step G hS q1 g2 g3, mm_not _ hz64]
      cases e : mm (Cm gd S x) z
      · rfl
      · have := Cm_step G hS e (aj_sym g2) (Sp_in _ _ y q1)
        rw [mm_not _ (mm_lt q1), show mm (Cm gd S x) y = true from this] at q2
        cases q2
    · have hy64 := mm_lt hy
      have hy' := hy
      rw [mm_and] at hy'
      obtain ⟨q1, q2⟩ := Bool.and_eq_true_iff.mp hy'
      rw [mm_and, Sp_seed seed S y hy, mm_not _ hy64]
      cases e : mm (Cm gd S x) y
      · rfl
      · exact absurd ⟨y, q1, q2, e⟩ g
  have := hle x hx
  rw [mm_and, mm_not _ (mm_lt hx), Cm_self hxS] at this
  simp at this
theorem Cm_sym (G : GdOK w h gd) {S : Int64} (hS : Sb S (w * h)) {j k : Nat} (hk : k < 64) (h1 : mm (Cm gd S k) j = true) : mm (Cm gd S j) k = true := by
  obtain ⟨i, q1, q2, q3⟩ := Sp_from G hS h1
  rw [mm_bit hk] at q1
  have := of_decide_eq_true q1
  subst this; exact q3
theorem Cm_eq (G : GdOK w h gd) {S : Int64} (hS : Sb S (w * h)) {j k : Nat} (hk : k < 64) (h1 : mm (Cm gd S k) j = true) : Cm gd S j = Cm gd S k :=
  Le.anti (Cm_sub G hS h1) (Cm_sub G hS (Cm_sym G hS hk h1))
end PT
