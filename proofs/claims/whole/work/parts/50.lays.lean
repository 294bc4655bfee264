/-! laying out the board -/
theorem nm_ite {α β : Type} {c : Prop} {_ : Decidable c} (K : α → Option β) (a b : α) : nm K (fun K => if c then K a else K b) = K (if c then a else b) := by
  show (if c then K a else K b) = _
  by_cases h : c
  · rw [if_pos h, if_pos h]
  · rw [if_neg h, if_neg h]
theorem nm_eq {α β : Type} (e : α) (f : α → Option β) : nm e f = f e := Eq.trans rfl rfl
theorem side_cs {w : Nat} (h1 : 2 ≤ w) (h2 : w ≤ 7) : w = 2 ∨ w = 3 ∨ w = 4 ∨ w = 5 ∨ w = 6 ∨ w = 7 := by omega
theorem wh49 {w h : Nat} (h2 : w ≤ 7) (h4 : h ≤ 7) : w * h ≤ 49 := Nat.mul_le_mul h2 h4
theorem lp_measure {w h : Nat} (h1 : 2 ≤ w) (h2 : w ≤ 7) (h4 : h ≤ 7) : ∀ (nF i : Nat) (acc : Int64), i ≤ h → h - i < nF → ∃ r, (∀ K, lp_X2_measure_34 (nI w) (nI h) K nF acc (nI i) = K r) ∧ ∀ j, mm r j = true ↔ mm acc j = true ∨ ∃ l, i ≤ l ∧ l < h ∧ j = l * w := by
  intro nF
  induction nF with
  | zero => intro i acc a1 a2; omega
  | succ nF ih =>
    intro i acc a1 a2
    by_cases hi : i = h
    · subst hi
      refine ⟨acc, fun K => by rw [lp_X2_measure_34, if_pos (nI_le (Nat.le_refl _) (by omega))], fun j => ⟨Or.inl, fun q => ?_⟩⟩
      rcases q with q | ⟨l, q1, q2, -⟩
      · exact q
      · omega
    · obtain ⟨r, r1, r2⟩ := ih (i + 1) (acc ||| jshl 1 (nI (i * w))) (by omega) (by omega)
      refine ⟨r, fun K => by rw [lp_X2_measure_34, if_neg (nI_ge (by omega) (by omega)), nm, nm, pk_mul, nI_1]; exact r1 K, fun j => (r2 j).trans ?_⟩
      have hb : i * w < 64 := by
        have : i * w ≤ 6 * 7 := Nat.mul_le_mul (by omega) h2
        omega
      rw [mm_or, mm_bit hb, Bool.or_eq_true, decide_eq_true_eq]
      constructor
      · rintro ((q | q) | ⟨l, q1, q2, q3⟩)
        · exact Or.inl q
        · exact Or.inr ⟨i, Nat.le_refl _, by omega, q⟩
        · exact Or.inr ⟨l, by omega, q2, q3⟩
      · rintro (q | ⟨l, q1, q2, q3⟩)
        · exact Or.inl (Or.inl q)
        · by_cases e : l = i
          · subst e; exact Or.inl (Or.inr q3)
          · exact Or.inr ⟨l, by omega, q2, q3⟩
theorem f_measure {w h : Nat} (h1 : 2 ≤ w) (h2 : w ≤ 7) (h3 : 2 ≤ h) (h4 : h ≤ 7) (a1 a2 a3 : Int32) (a4 a5 a6 : Int64) : ∃ gd : Gd, GdOK w h gd ∧ f_X2_measure a1 a2 a3 a4 a5 a6 (nI w) (nI h) = some (gd.1, nI h, nI (w * h), gd.2.1, gd.2.2.1, gd.2.2.2) := by
  have hn := wh49 h2 h4
  unfold f_X2_measure
  simp only [nm_eq]
  obtain ⟨r, r1, r2⟩ := lp_measure h1 h2 h4 FU 0 0 (by omega) (by have := FU_ge; omega)
  refine ⟨(nI w, jshl 1 (nI w * nI h) - 1, (jshl 1 (nI w * nI h) - 1) &&& (r ^^^ (-1)), (jshl 1 (nI w * nI h) - 1) &&& (jshl r (nI w - 1) ^^^ (-1))), ⟨⟨h1, h2, h3, h4, hn⟩, rfl, ?_, ?_, ?_⟩, ?_⟩
  · intro k
    show mm (jshl 1 (nI w * nI h) - 1) k = _
    rw [pk_mul, mm_ahead (by omega)]
  · intro k
    show mm ((jshl 1 (nI w * nI h) - 1) &&& (r ^^^ (-1))) k = _
    rw [pk_mul, mm_an, mm_ahead (by omega)]
    have key : k < w * h → (mm r k = true ↔ k % w = 0) := fun hk => by
      rw [r2]
      constructor
      · rintro (q | ⟨l, -, q1, q2⟩)
        · rw [mm_0] at q; cases q
        · rw [q2]; exact Nat.mul_mod_left l w
      · intro q
        refine Or.inr ⟨k / w, Nat.zero_le _, Nat.div_lt_of_lt_mul hk, ?_⟩
        have := Nat.div_add_mod k w
        rw [q, Nat.add_zero, Nat.mul_comm] at this
        exact this.symm
    by_cases hk : k < w * h
    · cases e : mm r k
      · have : ¬ k % w = 0 := fun z => by rw [(key hk).mpr z] at e; cases e
        simp [hk, this]
      · simp [hk, (key hk).mp e]
    · simp [hk]
  · intro k
    show mm ((jshl 1 (nI w * nI h) - 1) &&& (jshl r (nI w - 1) ^^^ (-1))) k = _
    have e1 : nI w - 1 = nI (w - 1) := pk_sub (b := 1) (by omega)
    rw [pk_mul, mm_an, mm_ahead (by omega), e1]
    by_cases hk : k < w * h
    · rw [mm_shl r (by omega) (by omega)]
      have key : (w - 1 ≤ k ∧ mm r (k - (w - 1)) = true) ↔ (k + 1) % w = 0 := by
        rw [r2]
        constructor
        · rintro ⟨q0, q | ⟨l, -, q1, q2⟩⟩
          · rw [mm_0] at q; cases q
          · have : k + 1 = l * w + w := by omega
            rw [this, Nat.add_mod_right]; exact Nat.mul_mod_left l w
        · intro q
          have hd := Nat.div_add_mod (k + 1) w
          rw [q, Nat.add_zero] at hd
          have hpos : 0 < (k + 1) / w := by
            rcases Nat.eq_zero_or_pos ((k + 1) / w) with z | z
            · rw [z] at hd; omega
            · exact z
          obtain ⟨l, hl⟩ : ∃ l, (k + 1) / w = l + 1 := ⟨(k + 1) / w - 1, by omega⟩
          rw [hl, Nat.mul_add, Nat.mul_one, Nat.mul_comm] at hd
          refine ⟨by omega, Or.inr ⟨l, Nat.zero_le _, ?_, by omega⟩⟩
          have : (k + 1) / w ≤ h := by
            have := Nat.div_le_div_right (c := w) (show k + 1 ≤ w * h by omega)
            rw [Nat.mul_div_cancel_left h (by omega)] at this
            exact this
          omega
      by_cases z : (k + 1) % w = 0
      · obtain ⟨z1, z2⟩ := key.mpr z
        simp [hk, z, z1, z2]
      · have : (decide (w - 1 ≤ k) && mm r (k - (w - 1))) = false := by
          cases e : (decide (w - 1 ≤ k) && mm r (k - (w - 1)))
          · rfl
          · rw [Bool.and_eq_true, decide_eq_true_eq] at e
            exact absurd (key.mp e) z
        rw [this]
        simp [hk, z]
    · simp [hk]
  · rw [show (0 : Int32) = nI 0 from rfl, r1, pk_mul]
/-- the neighbours of a crossing, as the reference lays them -/
def nbv (w h i : Nat) : Int64 := ((((0 : Int64) ||| (if i % w ≤ 0 then 0 else jshl 1 (nI (i - 1)))) ||| (if w - 1 ≤ i % w then 0 else jshl 1 (nI (i + 1)))) ||| (if i < w then 0 else jshl 1 (nI (i - w)))) ||| (if w * (h - 1) ≤ i then 0 else jshl 1 (nI (i + w)))
theorem mm_ib {c : Prop} {_ : Decidable c} {n : Nat} (hn : ¬ c → n < 64) (j : Nat) : mm (if c then 0 else jshl 1 (nI n)) j = decide (¬ c ∧ j = n) := by
  by_cases h : c
  · rw [if_pos h, mm_0]; simp [h]
  · rw [if_neg h, mm_bit (hn h)]; simp [h]
theorem mm_nbv {w h i : Nat} (h1 : 2 ≤ w) (h2 : w ≤ 7) (h3 : 2 ≤ h) (h4 : h ≤ 7) (hi : i < w * h) (j : Nat) : mm (nbv w h i) j = aj w (w * h) i j := by
  have hn := wh49 h2 h4
  unfold nbv
  have e : w * (h - 1) + w = w * h := by
    rw [← Nat.mul_succ]
    congr 1
    omega
  rw [mm_or, mm_or, mm_or, mm_or, mm_0, mm_ib (by omega), mm_ib (by omega), mm_ib (by omega), mm_ib (by omega)]
  unfold aj
  rw [Bool.eq_iff_iff]
  simp only [Bool.or_eq_true, decide_eq_true_eq, Bool.false_eq_true, false_or]
  rcases side_cs h1 h2 with rfl | rfl | rfl | rfl | rfl | rfl <;> omega
theorem lp_lays {w h : Nat} (h1 : 2 ≤ w) (h2 : w ≤ 7) (h3 : 2 ≤ h) (h4 : h ≤ 7) (bA wA : Nat → Int64) (mv tB tW : Nat → Int32) (lv : Int32) : ∀ (nF i : Nat) (nbs : Nat → Int64), i ≤ w * h → w * h - i < nF → (∀ k, k < i → ∀ j, mm (nbs k) j = aj w (w * h) k j) → ∃ nbs', lp_X7_lays_58 bA wA mv tB tW (nI w) (nI h) lv nF (nI i) nbs = some (nI w, nI h, lv, 0, nbs', vp_updL bA 0 0, vp_updL wA 0 0, upd mv 0 1, upd tB 0 0, upd tW 0 0) ∧ ∀ k, k < w * h → ∀ j, mm (nbs' k) j = aj w (w * h) k j := by
  have hn := wh49 h2 h4
  have hz : (0 : Int32).toNatClampNeg = 0 := rfl
  intro nF
  induction nF with
  | zero => intro i nbs a1 a2; omega
  | succ nF ih =>
    intro i nbs a1 a2 a3
    rw [lp_X7_lays_58, pk_mul]
    by_cases hi : i = w * h
    · subst hi
      rw [if_pos (nI_le (Nat.le_refl _) (by omega)), hz]
      exact ⟨nbs, rfl, a3⟩
    · have hw0 : ¬ nI w = 0 := nI_ne0 (by omega) (by omega)
      rw [if_neg (nI_ge (by omega) (by omega)), if_neg hw0]
      have hle : w * (h - 1) ≤ 49 := Nat.le_trans (Nat.mul_le_mul_left w (by omega)) hn
      have hmod : i % w < w := Nat.mod_lt i (by omega)
      have e1 : (if jrem (nI i) (nI w) ≤ 0 then (0 : Int64) else jshl 1 (nI i - 1)) = if i % w ≤ 0 then 0 else jshl 1 (nI (i - 1)) := by
        have q : jrem (nI i) (nI w) = nI (i % w) := pk_rem (by omega) (by omega) (by omega)
        rw [q]
        by_cases z : i % w ≤ 0
        · rw [if_pos z, show i % w = 0 by omega, if_pos (by decide)]
        · have hip : 1 ≤ i := by
            rcases Nat.eq_zero_or_pos i with z2 | z2
            · subst z2; simp at z
            · exact z2
          rw [if_neg z, if_neg (nI_nle (by omega) (by omega)), show nI i - 1 = nI (i - 1) from pk_sub (b := 1) hip]
      have e2 : (if nI w - 1 ≤ jrem (nI i) (nI w) then (0 : Int64) else jshl 1 (nI i + 1)) = if w - 1 ≤ i % w then 0 else jshl 1 (nI (i + 1)) := by
        have q : jrem (nI i) (nI w) = nI (i % w) := pk_rem (by omega) (by omega) (by omega)
        rw [q, show nI w - 1 = nI (w - 1) from pk_sub (b := 1) (by omega), nI_1]
        by_cases z : w - 1 ≤ i % w
        · rw [if_pos z, if_pos (nI_le z (by omega))]
        · rw [if_neg z, if_neg (nI_ge (by omega) (by omega))]
      have e3 : (if nI i < nI w then (0 : Int64) else jshl 1 (nI i - nI w)) = if i < w then 0 else jshl 1 (nI (i - w)) := by
        by_cases z : i < w
        · rw [if_pos z, if_pos (nI_lt z (by omega))]
        · rw [if_neg z, if_neg (nI_nlt (by omega) (by omega)), pk_sub (by omega)]
      have e4 : (if nI w * (nI h - 1) ≤ nI i then (0 : Int64) else jshl 1 (nI i + nI w)) = if w * (h - 1) ≤ i then 0 else jshl 1 (nI (i + w)) := by
        rw [show nI h - 1 = nI (h - 1) from pk_sub (b := 1) (by omega), pk_mul, nI_add]
        by_cases z : w * (h - 1) ≤ i
        · rw [if_pos z, if_pos (nI_le z (by omega))]
        · rw [if_neg z, if_neg (nI_ge (by omega) (by omega))]
      obtain ⟨nbs', r1, r2⟩ := ih (i + 1) (vp_updL nbs i (nbv w h i)) (by omega) (by omega) (fun k hk j => by
        by_cases z : k = i
        · subst z
          rw [pk_uLs]
          exact mm_nbv h1 h2 h3 h4 (by omega) j
        · rw [pk_uLn z]
          exact a3 k (by omega) j)
      refine ⟨nbs', ?_, r2⟩
      rw [← r1]
      simp only [nm_ite]
      simp only [nm]
      rw [if_neg hw0, if_neg (nI_in (N := 49) (by omega) (by decide)), nI_clamp (by omega), e1, e2, e3, e4, nI_1]
      rfl
theorem f_lays {w h : Nat} (h1 : 2 ≤ w) (h2 : w ≤ 7) (h3 : 2 ≤ h) (h4 : h ≤ 7) (a1 a2 a3 a4 : Int32) (nbs bA wA : Nat → Int64) (mv tB tW : Nat → Int32) (lv : Int32) : ∃ nb, NbOK w h (nI w) (nI h) nb ∧ f_X7_lays a1 a2 a3 a4 nbs bA wA mv tB tW (nI w) (nI h) lv = some (nI w, nI h, lv, 0, nb, vp_updL bA 0 0, vp_updL wA 0 0, upd mv 0 1, upd tB 0 0, upd tW 0 0) := by
  obtain ⟨nb, r1, r2⟩ := lp_lays h1 h2 h3 h4 bA wA mv tB tW lv FU 0 nbs (by omega) (by have := wh49 h2 h4; have := FU_ge; omega) (fun k hk => absurd hk (Nat.not_lt_zero k))
  refine ⟨nb, ⟨rfl, rfl, r2⟩, ?_⟩
  unfold f_X7_lays
  rw [if_neg (by decide), if_neg (by decide), if_neg (by decide), if_neg (by decide), if_neg (by decide)]
  exact r1
