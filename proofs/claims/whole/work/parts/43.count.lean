/-! the JDK's bit count, byte by byte -/
def ln : List Nat → Nat
  | [] => 0
  | b :: t => b + 256 * ln t
theorem ln_cons (b : Nat) (t : List Nat) : ln (b :: t) = b + 256 * ln t := rfl
theorem tb_jn {a b : Nat} (ha : a < 256) (k : Nat) : (a + 256 * b).testBit k = if k < 8 then a.testBit k else b.testBit (k - 8) := by
  have h := Nat.testBit_two_pow_mul_add b (show a < 2 ^ 8 from ha) k
  rw [show a + 256 * b = 2 ^ 8 * b + a by omega]; exact h
theorem and_jn {a b c d : Nat} (ha : a < 256) (hc : c < 256) : (a + 256 * b) &&& (c + 256 * d) = (a &&& c) + 256 * (b &&& d) := by
  have hac : a &&& c < 256 := Nat.and_lt_two_pow (n := 8) a hc
  apply Nat.eq_of_testBit_eq
  intro k
  rw [Nat.testBit_and, tb_jn ha, tb_jn hc, tb_jn hac]
  by_cases h : k < 8
  · simp only [h, if_true, Nat.testBit_and]
  · simp only [h, if_false, Nat.testBit_and]
def b_1 (b : Nat) : Nat := b - ((b / 2) &&& 85)
def b_2 (b : Nat) : Nat := (b &&& 51) + ((b / 4) &&& 51)
def b_3 (b : Nat) : Nat := (b + b / 16) &&& 15
def b_c (b : Nat) : Nat := fb_ct b.testBit 8
theorem b_a1 : ∀ b, b < 256 → ∀ r, r < 2 → ((b / 2 + 128 * r) &&& 85) = ((b / 2) &&& 85) := by decide +kernel
theorem b_a2 : ∀ b, b < 256 → ∀ r, r < 4 → ((b / 4 + 64 * r) &&& 51) = ((b / 4) &&& 51) := by decide +kernel
theorem b_a3 : ∀ b, b < 69 → ∀ r, r < 5 → ((b + b / 16 + 16 * r) &&& 15) = ((b + b / 16) &&& 15) := by decide +kernel
theorem b_k1 : ∀ b, b < 256 → b_1 b < 256 ∧ ((b / 2) &&& 85) ≤ b := by decide +kernel
theorem b_k2 : ∀ b, b < 256 → b_2 (b_1 b) < 69 ∧ b_2 (b_1 b) % 16 < 5 := by decide +kernel
theorem b_k3 : ∀ b, b < 256 → b_3 (b_2 (b_1 b)) = b_c b := by decide +kernel
theorem b_cl (b : Nat) : b_c b ≤ 8 := fb_ct_le _ _
theorem ln_1 : ∀ (l : List Nat), (∀ b ∈ l, b < 256) → ln l - ((ln l / 2) &&& ln (l.map fun _ => 85)) = ln (l.map b_1) ∧ ((ln l / 2) &&& ln (l.map fun _ => 85)) ≤ ln l
  | [], _ => ⟨rfl, Nat.le_refl _⟩
  | b :: t, h => by
    have hb : b < 256 := h b (List.mem_cons_self ..)
    obtain ⟨h1, h2⟩ := ln_1 t (fun x hx => h x (List.mem_cons_of_mem _ hx))
    simp only [List.map_cons, ln_cons]
    have e : (b + 256 * ln t) / 2 = (b / 2 + 128 * (ln t % 2)) + 256 * (ln t / 2) := by omega
    rw [e, and_jn (by omega) (by decide), b_a1 b hb _ (by omega), ← h1]
    have h3 := (b_k1 b hb).2
    have e2 : b_1 b = b - ((b / 2) &&& 85) := rfl
    rw [e2]
    omega
theorem ln_2 : ∀ (l : List Nat), (∀ b ∈ l, b < 256) → (ln l &&& ln (l.map fun _ => 51)) + ((ln l / 4) &&& ln (l.map fun _ => 51)) = ln (l.map b_2)
  | [], _ => rfl
  | b :: t, h => by
    have hb : b < 256 := h b (List.mem_cons_self ..)
    have h1 := ln_2 t (fun x hx => h x (List.mem_cons_of_mem _ hx))
    simp only [List.map_cons, ln_cons]
    have e : (b + 256 * ln t) / 4 = (b / 4 + 64 * (ln t % 4)) + 256 * (ln t / 4) := by omega
    rw [e, and_jn hb (by decide), and_jn (by omega) (by decide), b_a2 b hb _ (by omega), ← h1]
    have e2 : b_2 b = (b &&& 51) + ((b / 4) &&& 51) := rfl
    rw [e2]
    omega
theorem ln_3 : ∀ (l : List Nat), (∀ b ∈ l, b < 69 ∧ b % 16 < 5) → (ln l + ln l / 16) &&& ln (l.map fun _ => 15) = ln (l.map b_3)
  | [], _ => rfl
  | b :: t, h => by
    have hb := h b (List.mem_cons_self ..)
    have h1 := ln_3 t (fun x hx => h x (List.mem_cons_of_mem _ hx))
    simp only [List.map_cons, ln_cons]
    have hr : ln t % 16 < 5 := by
      cases t with
      | nil => show 0 % 16 < 5; decide
      | cons c u =>
        have := h c (List.mem_cons_of_mem _ (List.mem_cons_self ..))
        rw [ln_cons]
        omega
    have e : b + 256 * ln t + (b + 256 * ln t) / 16 = (b + b / 16 + 16 * (ln t % 16)) + 256 * (ln t + ln t / 16) := by omega
    rw [e, and_jn (by omega) (by decide), b_a3 b hb.1 _ hr, ← h1]
    rfl
theorem ln_ct : ∀ (l : List Nat), (∀ b ∈ l, b < 256) → fb_ct (ln l).testBit (8 * l.length) = (l.map b_c).foldr (· + ·) 0
  | [], _ => rfl
  | b :: t, h => by
    have hb : b < 256 := h b (List.mem_cons_self ..)
    have h1 := ln_ct t (fun x hx => h x (List.mem_cons_of_mem _ hx))
    simp only [List.map_cons, ln_cons, List.length_cons, List.foldr_cons]
    rw [show 8 * (t.length + 1) = 8 + 8 * t.length by omega, fb_ct_split, ← h1]
    congr 1
    · exact fb_ct_cong (fun k hk => by rw [tb_jn hb, if_pos hk])
    · exact fb_ct_cong (fun k hk => by rw [tb_jn hb, if_neg (by omega), Nat.add_sub_cancel_left])
theorem ln_ex : ∀ (k n : Nat), n < 256 ^ k → ∃ l : List Nat, l.length = k ∧ (∀ b ∈ l, b < 256) ∧ ln l = n
  | 0, n, h => ⟨[], rfl, fun b hb => absurd hb List.not_mem_nil, by show 0 = n; have : n < 1 := h; omega⟩
  | k + 1, n, h => by
    obtain ⟨l, h1, h2, h3⟩ := ln_ex k (n / 256) (by rw [Nat.pow_succ] at h; omega)
    refine ⟨n % 256 :: l, by rw [List.length_cons, h1], fun b hb => ?_, by rw [ln_cons, h3]; omega⟩
    rcases List.mem_cons.mp hb with e | e
    · omega
    · exact h2 b e
theorem mem_map_lt {l : List Nat} {f : Nat → Nat} {P : Nat → Prop} (h : ∀ b ∈ l, P (f b)) : ∀ b ∈ l.map f, P b := fun b hb => by
  obtain ⟨a, ha, rfl⟩ := List.mem_map.mp hb
  exact h a ha
theorem len_s {n : Nat} {l : List Nat} (h : l.length = n + 1) : ∃ a t, l = a :: t ∧ t.length = n := by
  cases l with
  | nil => cases h
  | cons a t => exact ⟨a, t, rfl, Nat.succ.inj h⟩
theorem dv_q {A r m y : Nat} (h : A = y + m * r) (hy : y < m) : A / m = r := by
  rw [h, Nat.add_mul_div_left _ _ (by omega), Nat.div_eq_of_lt hy, Nat.zero_add]
theorem bc_fin (x0 x1 x2 x3 x4 x5 x6 x7 A : Nat) (k0 : x0 ≤ 8) (k1 : x1 ≤ 8) (k2 : x2 ≤ 8) (k3 : x3 ≤ 8) (k4 : x4 ≤ 8) (k5 : x5 ≤ 8) (k6 : x6 ≤ 8) (k7 : x7 ≤ 8) (hA : A = x0 + 256 * (x1 + 256 * (x2 + 256 * (x3 + 256 * (x4 + 256 * (x5 + 256 * (x6 + 256 * x7))))))) : ((lN A + jushr (lN A) 8) + jushr (lN A + jushr (lN A) 8) 16 + jushr (lN A + jushr (lN A) 8 + jushr (lN A + jushr (lN A) 8) 16) 32).toInt32 &&& 127 = nI (x0 + (x1 + (x2 + (x3 + (x4 + (x5 + (x6 + x7))))))) := by
  have a1 : A / 2 ^ 8 = x1 + 256 * (x2 + 256 * (x3 + 256 * (x4 + 256 * (x5 + 256 * (x6 + 256 * x7))))) := dv_q (y := x0) hA (by omega)
  have a2 : A < 2 ^ 64 := by omega
  have v1 : jushr (lN A) 8 = lN (A / 2 ^ 8) := wb_shr (k := 8) a2 (by decide)
  rw [v1, a1, lN_add]
  obtain ⟨B, hB⟩ : ∃ B, B = A + (x1 + 256 * (x2 + 256 * (x3 + 256 * (x4 + 256 * (x5 + 256 * (x6 + 256 * x7)))))) := ⟨_, rfl⟩
  rw [← hB]
  clear v1 a1
  have b0 : B = (x0 + x1 + 256 * (x1 + x2)) + 2 ^ 16 * ((x2 + x3) + 256 * ((x3 + x4) + 256 * ((x4 + x5) + 256 * ((x5 + x6) + 256 * ((x6 + x7) + 256 * x7))))) := by omega
  clear hB hA a2
  have b1 : B / 2 ^ 16 = (x2 + x3) + 256 * ((x3 + x4) + 256 * ((x4 + x5) + 256 * ((x5 + x6) + 256 * ((x6 + x7) + 256 * x7)))) := dv_q b0 (by omega)
  have b2 : B < 2 ^ 64 := by omega
  have v2 : jushr (lN B) 16 = lN (B / 2 ^ 16) := wb_shr (k := 16) b2 (by decide)
  rw [v2, b1, lN_add]
  obtain ⟨C, hC⟩ : ∃ C, C = B + ((x2 + x3) + 256 * ((x3 + x4) + 256 * ((x4 + x5) + 256 * ((x5 + x6) + 256 * ((x6 + x7) + 256 * x7))))) := ⟨_, rfl⟩
  rw [← hC]
  clear v2 b1
  have c0 : C = (x0 + x1 + x2 + x3 + 256 * (x1 + x2 + x3 + x4 + 256 * (x2 + x3 + x4 + x5 + 256 * (x3 + x4 + x5 + x6)))) + 2 ^ 32 * (x4 + x5 + x6 + x7 + 256 * (x5 + x6 + x7 + 256 * (x6 + x7 + 256 * x7))) := by omega
  clear hC b0 b2
  have c1 : C / 2 ^ 32 = x4 + x5 + x6 + x7 + 256 * (x5 + x6 + x7 + 256 * (x6 + x7 + 256 * x7)) := dv_q c0 (by omega)
  have c2 : C < 2 ^ 64 := by omega
  have v3 : jushr (lN C) 32 = lN (C / 2 ^ 32) := wb_shr (k := 32) c2 (by decide)
  rw [v3, c1, lN_add, lN_i]
  obtain ⟨D, hD⟩ : ∃ D, D = C + (x4 + x5 + x6 + x7 + 256 * (x5 + x6 + x7 + 256 * (x6 + x7 + 256 * x7))) := ⟨_, rfl⟩
  rw [← hD, pk_and (nI D) (m := 127) 7 (by decide)]
  clear v3 c1 c2
  have d0 : ∃ z, D = (x0 + (x1 + (x2 + (x3 + (x4 + (x5 + (x6 + x7))))))) + 128 * z := ⟨2 * ((x1 + x2 + x3 + x4 + 256 * (x2 + x3 + x4 + x5 + 256 * (x3 + x4 + x5 + x6))) + 2 ^ 24 * (x4 + x5 + x6 + x7 + 256 * (x5 + x6 + x7 + 256 * (x6 + x7 + 256 * x7))) + (x5 + x6 + x7 + 256 * (x6 + x7 + 256 * x7))), by omega⟩
  obtain ⟨z, d0⟩ := d0
  have e : (nI D).toBitVec.toNat % 2 ^ 7 = x0 + (x1 + (x2 + (x3 + (x4 + (x5 + (x6 + x7)))))) := by
    have e1 : (nI D).toBitVec.toNat = D % 2 ^ 32 := BitVec.toNat_ofNat D 32
    rw [e1, Nat.mod_mod_of_dvd D (by decide : 2 ^ 7 ∣ 2 ^ 32), d0, show (2 : Nat) ^ 7 = 128 from rfl, Nat.add_mul_mod_self_left]
    exact Nat.mod_eq_of_lt (by omega)
  rw [e]
theorem f_bc0 (n : Nat) (hn : n < 2 ^ 64) : f_J13_bitCount_95d88 (lN n) = some (nI (pc (lN n))) := by
  obtain ⟨l, hl, hb, rfl⟩ := ln_ex 8 n hn
  have hpc : pc (lN (ln l)) = (l.map b_c).foldr (· + ·) 0 := by
    rw [← ln_ct l hb, hl]
    exact fb_ct_cong (fun k hk => mm_lN _ hk)
  have m1 : ln (l.map fun _ => 85) = 6148914691236517205 := by rw [List.map_const', hl]; decide +kernel
  have m2 : ln ((l.map b_1).map fun _ => 51) = 3689348814741910323 := by rw [List.map_const', List.length_map, hl]; decide +kernel
  have m3 : ln (((l.map b_1).map b_2).map fun _ => 15) = 1085102592571150095 := by rw [List.map_const', List.length_map, List.length_map, hl]; decide +kernel
  obtain ⟨s1, s1'⟩ := ln_1 l hb
  have hb1 : ∀ b ∈ l.map b_1, b < 256 := mem_map_lt (P := fun b => b < 256) (fun b h => (b_k1 b (hb b h)).1)
  have s2 := ln_2 (l.map b_1) hb1
  have hb2 : ∀ b ∈ (l.map b_1).map b_2, b < 69 ∧ b % 16 < 5 := mem_map_lt (P := fun b => b < 69 ∧ b % 16 < 5) (mem_map_lt (P := fun b => b_2 b < 69 ∧ b_2 b % 16 < 5) (fun b h => b_k2 b (hb b h)))
  have s3 := ln_3 ((l.map b_1).map b_2) hb2
  have e3 : ((l.map b_1).map b_2).map b_3 = l.map b_c := by
    rw [List.map_map, List.map_map]
    exact List.map_congr_left (fun b h => b_k3 b (hb b h))
  rw [m1] at s1 s1'
  rw [m2] at s2
  rw [m3, e3] at s3
  have q1 : ln (l.map b_1) < 2 ^ 64 := by omega
  have q2 : (ln (l.map b_1) &&& 3689348814741910323) ≤ 3689348814741910323 := Nat.and_le_right
  have q3 : ((ln (l.map b_1) / 4) &&& 3689348814741910323) ≤ 3689348814741910323 := Nat.and_le_right
  have q4 : ln ((l.map b_1).map b_2) ≤ 2 * 3689348814741910323 := by omega
  have t1 : lN (ln l) - (jushr (lN (ln l)) 1 &&& 6148914691236517205) = lN (ln (l.map b_1)) := by
    have : jushr (lN (ln l)) 1 = lN (ln l / 2 ^ 1) := wb_shr (k := 1) hn (by decide)
    rw [this, show (6148914691236517205 : Int64) = lN 6148914691236517205 from rfl, wb_and (by omega) (by decide), show (2 : Nat) ^ 1 = 2 from rfl, lN_sub s1', s1]
  have t2 : (lN (ln (l.map b_1)) &&& 3689348814741910323) + (jushr (lN (ln (l.map b_1))) 2 &&& 3689348814741910323) = lN (ln ((l.map b_1).map b_2)) := by
    have : jushr (lN (ln (l.map b_1))) 2 = lN (ln (l.map b_1) / 2 ^ 2) := wb_shr (k := 2) q1 (by decide)
    rw [this, show (3689348814741910323 : Int64) = lN 3689348814741910323 from rfl, wb_and q1 (by decide), wb_and (by omega) (by decide), show (2 : Nat) ^ 2 = 4 from rfl, lN_add, s2]
  have t3 : (lN (ln ((l.map b_1).map b_2)) + jushr (lN (ln ((l.map b_1).map b_2))) 4) &&& 1085102592571150095 = lN (ln (l.map b_c)) := by
    have : jushr (lN (ln ((l.map b_1).map b_2))) 4 = lN (ln ((l.map b_1).map b_2) / 2 ^ 4) := wb_shr (k := 4) (by omega) (by decide)
    rw [this, lN_add, show (2 : Nat) ^ 4 = 16 from rfl, show (1085102592571150095 : Int64) = lN 1085102592571150095 from rfl, wb_and (by omega) (by decide), s3]
  unfold f_J13_bitCount_95d88
  simp only [nm]
  rw [t1, t2, t3, hpc]
  clear t1 t2 t3 q1 q2 q3 q4 s1 s1' s2 s3 e3 hb2 hb1 m1 m2 m3 hpc hn hb
  obtain ⟨c0, l0, rfl, hl0⟩ := len_s hl
  obtain ⟨c1, l1, rfl, hl1⟩ := len_s hl0
  obtain ⟨c2, l2, rfl, hl2⟩ := len_s hl1
  obtain ⟨c3, l3, rfl, hl3⟩ := len_s hl2
  obtain ⟨c4, l4, rfl, hl4⟩ := len_s hl3
  obtain ⟨c5, l5, rfl, hl5⟩ := len_s hl4
  obtain ⟨c6, l6, rfl, hl6⟩ := len_s hl5
  obtain ⟨c7, l7, rfl, hl7⟩ := len_s hl6
  have hl8 := List.eq_nil_of_length_eq_zero hl7
  subst hl8
  congr 1
  exact bc_fin _ _ _ _ _ _ _ _ _ (b_cl c0) (b_cl c1) (b_cl c2) (b_cl c3) (b_cl c4) (b_cl c5) (b_cl c6) (b_cl c7) rfl
theorem f_bc (x : Int64) : f_J13_bitCount_95d88 x = some (nI (pc x)) := by
  obtain ⟨n, hn, rfl⟩ := wb_of x
  exact f_bc0 n hn
