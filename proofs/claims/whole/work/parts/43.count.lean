/-! the JDK's bit count, byte by byte -/
def ln : List Nat → Nat
  | [] => 0
  | b :: t => b + 256 * ln t
theorem ln_cons (b : Nat) (t : List Nat) : ln (b :: t) = b + 256 * ln t := rfl
theorem tb_jn {a b : Nat} (ha : a < 256) (k : Nat) : (a + 256 * b).testBit k = if k < 8 then a.testBit k else b.testBit (k - 8) := by
  have h := Nat.testBit_two_pow_mul_add b (show a < 2 ^ 8 from ha) k
  rw [show a + 256 * b = 2 ^ 8 * b + a by omega]; exact h
theorem and_jn {a b c d : Nat} (ha : a < 256) (hc : c < 256) : (a + 256 * b) &&& (c + 256 * d) = (a &&& c) + 256 * (b &&& d) := by
  have hac : a &&& c < 256 := Nat.and_lt_two_pow (n := 8) a hc
  apply Nat.eq_of_testBit_eq
  intro k
  rw [Nat.testBit_and, tb_jn ha, tb_jn hc, tb_jn hac]
  by_cases h : k < 8
  · simp only [h, if_true, Nat.testBit_and]
  · simp only [h, if_false, Nat.testBit_and]
def b_1 (b : Nat) : Nat := b - ((b / 2) &&& 85)
def b_2 (b : Nat) : Nat := (b &&& 51) + ((b / 4) &&& 51)
def b_3 (b : Nat) : Nat := (b + b / 16) &&& 15
def b_c (b : Nat) : Nat := fb_ct b.testBit 8
theorem b_a1 : ∀ b, b < 256 → ∀ r, r < 2 → ((b / 2 + 128 * r) &&& 85) = ((b / 2) &&& 85) := by decide +kernel
theorem b_a2 : ∀ b, b < 256 → ∀ r, r < 4 → ((b / 4 + 64 * r) &&& 51) = ((b / 4) &&& 51) := by decide +kernel
theorem b_a3 : ∀ b, b < 69 → ∀ r, r < 5 → ((b + b / 16 + 16 * r) &&& 15) = ((b + b / 16) &&& 15) := by decide +kernel
theorem b_k1 : ∀ b, b < 256 → b_1 b < 256 ∧ ((b / 2) &&& 85) ≤ b := by decide +kernel
theorem b_k2 : ∀ b, b < 256 → b_2 (b_1 b) < 69 ∧ b_2 (b_1 b) % 16 < 5 := by decide +kernel
theorem b_k3 : ∀ b, b < 256 → b_3 (b_2 (b_1 b)) = b_c b := by decide +kernel
theorem b_cl (b : Nat) : b_c b ≤ 8 := fb_ct_le _ _
theorem ln_1 : ∀ (l : List Nat), (∀ b ∈ l, b < 256) → ln l - ((ln l / 2) &&& ln (l.map fun _ => 85)) = ln (l.map b_1) ∧ ((ln l / 2) &&& ln (l.map fun _ => 85)) ≤ ln l
  | [], _ => ⟨rfl, Nat.le_refl _⟩
  | b :: t, h => by
    have hb : b < 256 := h b (List.mem_cons_self ..)
    obtain ⟨h1, h2⟩ := ln_1 t (fun x hx => h x (List.mem_cons_of_mem _ hx))
    simp only [List.map_cons, ln_cons]
    have e : (b + 256 * ln t) / 2 = (b / 2 + 128 * (ln t % 2)) + 256 * (ln t / 2) := by omega
    rw [e, and_jn (by omega) (by decide), b_a1 b hb _ (by omega), ← h1]
    have h3 := (b_k1 b hb).2
    have e2 : b_1 b = b - ((b / 2) &&& 85) := rfl
    rw [e2]
    omega
theorem ln_2 : ∀ (l : List Nat), (∀ b ∈ l, b < 256) → (ln l &&& ln (l.map fun _ => 51)) + ((ln l / 4) &&& ln (l.map fun _ => 51)) = ln (l.map b_2)
  | [], _ => rfl
  | b :: t, h => by
    have hb : b < 256 := h b (List.mem_cons_self ..)
    have h1 := ln_2 t (fun x hx => h x (List.mem_cons_of_mem _ hx))
    simp only [List.map_cons, ln_cons]
    have e : (b + 256 * ln t) / 4 = (b / 4 + 64 * (ln t % 4)) + 256 * (ln t / 4) := by omega
    rw [e, and_jn hb (by decide), and_jn (by omega) (by decide), b_a2 b hb _ (by omega), ← h1]
    have e2 : b_2 b = (b &&& 51) + ((b / 4) &&& 51) := rfl
    rw [e2]
    omega
theorem ln_3 : ∀ (l : List Nat), (∀ b ∈ l, b < 69 ∧ b % 16 < 5) → (ln l + ln l / 16) &&& ln (l.map fun _ => 15) = ln (l.map b_3)
  | [], _ => rfl
  | b :: t, h => by
    have hb := h b (List.mem_cons_self ..)
    have h1 := ln_3 t (fun x hx => h x (List.mem_cons_of_mem _ hx))
    simp only [List.map_cons, ln_cons]
    have hr : ln t % 16 < 5 := by
      cases t with
      | nil => show 0 % 16 < 5; decide
      | cons c u =>
        have := h c (List.mem_cons_of_mem _ (List.mem_cons_self ..))
        rw [ln_cons]
        omega
    have e : b + 256 * ln t + (b + 256 * ln t) / 16 = (b + b / 16 + 16 * (ln t % 16)) + 256 * (ln t + ln t / 16) := by omega
    rw [e, and_jn (by omega) (by decide), b_a3 b hb.1 _ hr, ← h1]
    rfl
theorem ln_ct : ∀ (l : List Nat), (∀ b ∈ l, b < 256) → fb_ct (ln l).testBit (8 * l.length) = (l.map b_c).foldr (· + ·) 0
  | [], _ => rfl
  | b :: t, h => by
    have hb : b < 256 := h b (List.mem_cons_self ..)
    have h1 := ln_ct t (fun x hx => h x (List.mem_cons_of_mem _ hx))
    simp only [List.map_cons, ln_cons, List.length_cons, List.foldr_cons]
    rw [show 8 * (t.length + 1) = 8 + 8 * t.length by omega, fb_ct_split, ← h1]
    congr 1
    · exact fb_ct_cong (fun k hk => by rw [tb_jn hb, if_pos hk])
    · exact fb_ct_cong (fun k hk => by rw [tb_jn hb, if_neg (by omega), Nat.add_sub_cancel_left])
theorem ln_ex : ∀ (k n : Nat), n < 256 ^ k → ∃ l : List Nat, l.length = k ∧ (∀ b ∈ l, b < 256) ∧ ln l = n
  | 0, n, h => ⟨[], rfl, fun b hb => absurd hb List.not_mem_nil, by show 0 = n; have : n < 1 := h; omega⟩
  | k + 1, n, h => by
    obtain ⟨l, h1, h2, h3⟩ := ln_ex k (n / 256) (by rw [Nat.pow_succ] at h; omega)
    refine ⟨n % 256 :: l, by rw [List.length_cons, h1], fun b hb => ?_, by rw [ln_cons, h3]; omega⟩
    rcases List.mem_cons.mp hb with e | e
    · omega
    · exact h2 b e
theorem mem_map_lt {l : List Nat} {f : Nat → Nat} {P : Nat → Prop} (h : ∀ b ∈ l, P (f b)) : ∀ b ∈ l.map f, P b := fun b hb => by
  obtain ⟨a, ha, rfl⟩ := List.mem_map.mp hb
  exact h a ha
theorem f_bc0 (n : Nat) (hn : n < 2 ^ 64) : f_J13_bitCount_95d88 (lN n) = some (nI (pc (lN n))) := by
  obtain ⟨l, hl, hb, rfl⟩ := ln_ex 8 n hn
  have hpc : pc (lN (ln l)) = (l.map b_c).foldr (· + ·) 0 := by
    rw [← ln_ct l hb, hl]
    exact fb_ct_cong (fun k hk => mm_lN _ hk)
  have m1 : ln (l.map fun _ => 85) = 6148914691236517205 := by
    match l, hl with
    | [_, _, _, _, _, _, _, _], _ => decide
  have m2 : ln ((l.map b_1).map fun _ => 51) = 3689348814741910323 := by
    match l, hl with
    | [_, _, _, _, _, _, _, _], _ => simp only [List.map_cons, List.map_nil]; decide
  have m3 : ln (((l.map b_1).map b_2).map fun _ => 15) = 1085102592571150095 := by
    match l, hl with
    | [_, _, _, _, _, _, _, _], _ => simp only [List.map_cons, List.map_nil]; decide
  obtain ⟨s1, s1'⟩ := ln_1 l hb
  have hb1 : ∀ b ∈ l.map b_1, b < 256 := mem_map_lt (fun b h => (b_k1 b (hb b h)).1)
  have s2 := ln_2 (l.map b_1) hb1
  have hb2 : ∀ b ∈ (l.map b_1).map b_2, b < 69 ∧ b % 16 < 5 := mem_map_lt (mem_map_lt (fun b h => b_k2 b (hb b h)))
  have s3 := ln_3 ((l.map b_1).map b_2) hb2
  have e3 : ((l.map b_1).map b_2).map b_3 = l.map b_c := by
    rw [List.map_map, List.map_map]
    exact List.map_congr_left (fun b h => b_k3 b (hb b h))
  rw [m1] at s1 s1'
  rw [m2] at s2
  rw [m3, e3] at s3
  have q1 : ln (l.map b_1) < 2 ^ 64 := by omega
  have q2 : (ln (l.map b_1) &&& 3689348814741910323) ≤ 3689348814741910323 := Nat.and_le_right
  have q3 : ((ln (l.map b_1) / 4) &&& 3689348814741910323) ≤ 3689348814741910323 := Nat.and_le_right
  unfold f_J13_bitCount_95d88
  simp only [nm]
  rw [show (6148914691236517205 : Int64) = lN 6148914691236517205 from rfl, show (3689348814741910323 : Int64) = lN 3689348814741910323 from rfl, show (1085102592571150095 : Int64) = lN 1085102592571150095 from rfl]
  have t1 : lN (ln l) - (jushr (lN (ln l)) 1 &&& lN 6148914691236517205) = lN (ln (l.map b_1)) := by
    have : jushr (lN (ln l)) 1 = lN (ln l / 2 ^ 1) := wb_shr (k := 1) hn (by decide)
    rw [this, wb_and (by omega) (by decide), show (2 : Nat) ^ 1 = 2 from rfl, lN_sub s1', s1]
  rw [t1]
  have t2 : (lN (ln (l.map b_1)) &&& lN 3689348814741910323) + (jushr (lN (ln (l.map b_1))) 2 &&& lN 3689348814741910323) = lN (ln ((l.map b_1).map b_2)) := by
    have : jushr (lN (ln (l.map b_1))) 2 = lN (ln (l.map b_1) / 2 ^ 2) := wb_shr (k := 2) q1 (by decide)
    rw [this, wb_and q1 (by decide), wb_and (by omega) (by decide), show (2 : Nat) ^ 2 = 4 from rfl, lN_add, s2]
  rw [t2]
  have q4 : ln ((l.map b_1).map b_2) ≤ 2 * 3689348814741910323 := by omega
  have t3 : (lN (ln ((l.map b_1).map b_2)) + jushr (lN (ln ((l.map b_1).map b_2))) 4) &&& lN 1085102592571150095 = lN (ln (l.map b_c)) := by
    have : jushr (lN (ln ((l.map b_1).map b_2))) 4 = lN (ln ((l.map b_1).map b_2) / 2 ^ 4) := wb_shr (k := 4) (by omega) (by decide)
    rw [this, lN_add, show (2 : Nat) ^ 4 = 16 from rfl, wb_and (by omega) (by decide), s3]
  rw [t3, hpc]
  match l, hl with
  | [c0, c1, c2, c3, c4, c5, c6, c7], _ =>
    simp only [List.map_cons, List.map_nil, ln, List.foldr_cons, List.foldr_nil]
    have k0 := b_cl c0
    have k1 := b_cl c1
    have k2 := b_cl c2
    have k3 := b_cl c3
    have k4 := b_cl c4
    have k5 := b_cl c5
    have k6 := b_cl c6
    have k7 := b_cl c7
    generalize b_c c0 = x0 at *
    generalize b_c c1 = x1 at *
    generalize b_c c2 = x2 at *
    generalize b_c c3 = x3 at *
    generalize b_c c4 = x4 at *
    generalize b_c c5 = x5 at *
    generalize b_c c6 = x6 at *
    generalize b_c c7 = x7 at *
    clear hpc m1 m2 m3 s1 s1' hb1 s2 hb2 s3 e3 q1 q2 q3 q4 t1 t2 t3 hb hn
    generalize hA : x0 + 256 * (x1 + 256 * (x2 + 256 * (x3 + 256 * (x4 + 256 * (x5 + 256 * (x6 + 256 * (x7 + 256 * 0))))))) = A
    have u1 : A < 2 ^ 62 := by omega
    have u2 : A / 2 ^ 8 = x1 + 256 * (x2 + 256 * (x3 + 256 * (x4 + 256 * (x5 + 256 * (x6 + 256 * x7))))) := by omega
    have v1 : jushr (lN A) 8 = lN (A / 2 ^ 8) := wb_shr (k := 8) (by omega) (by decide)
    rw [v1, lN_add]
    generalize hB : A + A / 2 ^ 8 = B
    have u3 : B < 2 ^ 63 := by omega
    have u4 : B / 2 ^ 16 = (x2 + x3) + 256 * ((x3 + x4) + 256 * ((x4 + x5) + 256 * ((x5 + x6) + 256 * ((x6 + x7) + 256 * x7)))) := by omega
    have v2 : jushr (lN B) 16 = lN (B / 2 ^ 16) := wb_shr (k := 16) (by omega) (by decide)
    rw [v2, lN_add]
    generalize hC : B + B / 2 ^ 16 = C
    have u5 : C < 2 ^ 63 + 2 ^ 48 := by omega
    have u6 : ∃ z, C = (x0 + x1 + x2 + x3) + 256 * ((x1 + x2 + x3 + x4) + 256 * ((x2 + x3 + x4 + x5) + 256 * ((x3 + x4 + x5 + x6) + 256 * ((x4 + x5 + x6 + x7) + 256 * z)))) ∧ z ≤ 2 ^ 30 := ⟨(x5 + x6 + x7) + 256 * ((x6 + x7) + 256 * x7), by omega, by omega⟩
    obtain ⟨z, u6, u7⟩ := u6
    have u8 : C / 2 ^ 32 = (x4 + x5 + x6 + x7) + 256 * z := by omega
    have v3 : jushr (lN C) 32 = lN (C / 2 ^ 32) := wb_shr (k := 32) (by omega) (by decide)
    rw [v3, lN_add, lN_i]
    generalize hD : C + C / 2 ^ 32 = D
    rw [pk_and (nI D) (m := 127) 7 (by decide)]
    congr 1
    show nI ((BitVec.ofNat 32 D).toNat % 2 ^ 7) = _
    rw [BitVec.toNat_ofNat]
    congr 1
    omega
theorem f_bc (x : Int64) : f_J13_bitCount_95d88 x = some (nI (pc x)) := by
  obtain ⟨n, hn, rfl⟩ := wb_of x
  exact f_bc0 n hn
