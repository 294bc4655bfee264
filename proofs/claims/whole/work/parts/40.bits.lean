theorem wb_tb (n : Nat) : (lN n).toBitVec = BitVec.ofNat 64 n := rfl
theorem wb_inj {a b : Int64} (h : a.toBitVec = b.toBitVec) : a = b := Int64.toBitVec_inj.mp h
theorem wb_tn {n : Nat} (h : n < 2 ^ 64) : (lN n).toBitVec.toNat = n := by rw [wb_tb, BitVec.toNat_ofNat, Nat.mod_eq_of_lt h]
theorem wb_of (x : Int64) : ∃ n, n < 2 ^ 64 ∧ x = lN n := ⟨x.toBitVec.toNat, x.toBitVec.isLt, wb_inj (by rw [wb_tb]; simp)⟩
theorem wb_of32 (x : Int32) : ∃ n, n < 2 ^ 32 ∧ x = nI n := ⟨x.toBitVec.toNat, x.toBitVec.isLt, Int32.toBitVec_inj.mp (by show _ = BitVec.ofNat 32 _; simp)⟩
theorem wb_c : ∀ k, k < 64 → ((nI k).toInt64 &&& 63) = lN k := by decide +kernel
theorem wb_cu : ∀ k, k < 64 → ((nI k).toInt64.toUInt64 &&& Int64.toUInt64 63) = UInt64.ofNat k := by decide +kernel
theorem wb_sm : ∀ k, k < 64 → (BitVec.ofNat 64 k).smod 64 = BitVec.ofNat 64 k := by decide +kernel
theorem wb_pw {a b : Nat} (h : a ≤ b) : 2 ^ b = 2 ^ a * 2 ^ (b - a) := by rw [← Nat.pow_add]; congr 1; omega
theorem wb_lt2 {a b : Nat} (h : a < b) : 2 ^ a < 2 ^ b := Nat.pow_lt_pow_right (by decide) h
theorem wb_mod (n : Nat) : lN n = lN (n % 2 ^ 64) := wb_inj (by rw [wb_tb, wb_tb]; apply BitVec.eq_of_toNat_eq; rw [BitVec.toNat_ofNat, BitVec.toNat_ofNat, Nat.mod_mod])
theorem wb_shr {n k : Nat} (hn : n < 2 ^ 64) (hk : k < 64) : ((lN n).toUInt64 >>> ((nI k).toInt64.toUInt64 &&& Int64.toUInt64 63)).toInt64 = lN (n / 2 ^ k) := by
  rw [wb_cu k hk]
  apply wb_inj
  apply BitVec.eq_of_toNat_eq
  show ((lN n).toUInt64 >>> UInt64.ofNat k).toNat = (BitVec.ofNat 64 _).toNat
  have h1 : (UInt64.ofNat k).toNat = k := by
    show (BitVec.ofNat 64 k).toNat = k
    rw [BitVec.toNat_ofNat, Nat.mod_eq_of_lt (by omega)]
  have h2 : (lN n).toUInt64.toNat = n := wb_tn hn
  rw [UInt64.toNat_shiftRight, h1, h2, Nat.mod_eq_of_lt hk, Nat.shiftRight_eq_div_pow, BitVec.toNat_ofNat, Nat.mod_eq_of_lt (Nat.lt_of_le_of_lt (Nat.div_le_self _ _) hn)]
theorem wb_shl (n : Nat) {k : Nat} (hk : k < 64) : lN n <<< ((nI k).toInt64 &&& 63) = lN (n * 2 ^ k) := by
  rw [wb_c k hk]
  apply wb_inj
  rw [Int64.toBitVec_shiftLeft, wb_tb, wb_tb, wb_tb, wb_sm k hk]
  apply BitVec.eq_of_toNat_eq
  rw [BitVec.shiftLeft_eq', BitVec.toNat_shiftLeft, BitVec.toNat_ofNat, BitVec.toNat_ofNat, BitVec.toNat_ofNat, Nat.mod_eq_of_lt (show k < 2 ^ 64 by omega), Nat.shiftLeft_eq, Nat.mul_mod, Nat.mod_mod, ← Nat.mul_mod]
theorem wb_and {a b : Nat} (ha : a < 2 ^ 64) (hb : b < 2 ^ 64) : lN a &&& lN b = lN (a &&& b) := by
  apply wb_inj
  rw [Int64.toBitVec_and, wb_tb, wb_tb, wb_tb]
  apply BitVec.eq_of_toNat_eq
  rw [BitVec.toNat_and, BitVec.toNat_ofNat, BitVec.toNat_ofNat, BitVec.toNat_ofNat, Nat.mod_eq_of_lt ha, Nat.mod_eq_of_lt hb, Nat.mod_eq_of_lt (Nat.and_lt_two_pow _ hb)]
theorem wb_or {a b : Nat} (ha : a < 2 ^ 64) (hb : b < 2 ^ 64) : lN a ||| lN b = lN (a ||| b) := by
  apply wb_inj
  rw [Int64.toBitVec_or, wb_tb, wb_tb, wb_tb]
  apply BitVec.eq_of_toNat_eq
  rw [BitVec.toNat_or, BitVec.toNat_ofNat, BitVec.toNat_ofNat, BitVec.toNat_ofNat, Nat.mod_eq_of_lt ha, Nat.mod_eq_of_lt hb, Nat.mod_eq_of_lt (Nat.or_lt_two_pow ha hb)]
theorem wb_mask {n k : Nat} (hn : n < 2 ^ 64) (hk : k < 64) : lN n &&& lN (2 ^ k - 1) = lN (n % 2 ^ k) := by
  rw [wb_and hn (by have := wb_lt2 hk; omega), Nat.and_two_pow_sub_one_eq_mod]
theorem wb_a1 {n : Nat} (hn : n < 2 ^ 64) : lN n &&& 1 = lN (n % 2) := wb_mask (k := 1) hn (by decide)
theorem wb_bit {n k : Nat} (hn : n < 2 ^ 64) (hk : k < 64) : ((lN n).toUInt64 >>> ((nI k).toInt64.toUInt64 &&& Int64.toUInt64 63)).toInt64 &&& 1 = lN (n / 2 ^ k % 2) := by
  rw [wb_shr hn hk, wb_a1 (Nat.lt_of_le_of_lt (Nat.div_le_self _ _) hn)]
def fb_ct (p : Nat → Bool) : Nat → Nat
  | 0 => 0
  | n + 1 => fb_ct p n + (if p n then 1 else 0)
theorem fb_ct_succ (p : Nat → Bool) (n : Nat) : fb_ct p (n + 1) = fb_ct p n + (if p n then 1 else 0) := rfl
theorem fb_ct_le (p : Nat → Bool) : ∀ n, fb_ct p n ≤ n
  | 0 => Nat.le_refl _
  | n + 1 => by
    have h := fb_ct_le p n
    rw [fb_ct_succ]
    split <;> omega
theorem fb_ct_step (p : Nat → Bool) (m : Nat) : ∀ n, fb_ct p m ≤ fb_ct p (m + n)
  | 0 => Nat.le_refl _
  | n + 1 => by
    have h := fb_ct_step p m n
    show fb_ct p m ≤ fb_ct p (m + n + 1)
    rw [fb_ct_succ]
    omega
theorem fb_ct_mono (p : Nat → Bool) {m n : Nat} (h : m ≤ n) : fb_ct p m ≤ fb_ct p n := by
  have := fb_ct_step p m (n - m)
  rwa [Nat.add_sub_cancel' h] at this
theorem fb_ct_cong {p q : Nat → Bool} : ∀ {n : Nat}, (∀ k, k < n → p k = q k) → fb_ct p n = fb_ct q n
  | 0, _ => rfl
  | n + 1, h => by
    rw [fb_ct_succ, fb_ct_succ, fb_ct_cong (fun k hk => h k (by omega)), h n (by omega)]
/-- one place changed -/
theorem fb_ct_out (p : Nat → Bool) (b : Bool) {i n : Nat} (h : n ≤ i) : fb_ct (fun k => if k = i then b else p k) n = fb_ct p n :=
  fb_ct_cong fun k hk => if_neg (by omega)
theorem fb_ct_upd (p : Nat → Bool) (b : Bool) {i : Nat} : ∀ {n : Nat}, i < n → fb_ct (fun k => if k = i then b else p k) n + (if p i then 1 else 0) = fb_ct p n + (if b then 1 else 0)
  | 0, h => absurd h (Nat.not_lt_zero i)
  | n + 1, h => by
    rw [fb_ct_succ, fb_ct_succ]
    rcases Nat.lt_or_ge i n with q | q
    · have := fb_ct_upd p b q
      have e : (if n = i then b else p n) = p n := if_neg (by omega)
      rw [e]
      omega
    · have e : i = n := by omega
      subst e
      rw [fb_ct_out p b (Nat.le_refl _)]
      simp only [if_true]
      omega
theorem fb_ct_sub {p q : Nat → Bool} : ∀ {n : Nat}, (∀ k, k < n → p k = true → q k = true) → fb_ct p n ≤ fb_ct q n
  | 0, _ => Nat.le_refl _
  | n + 1, h => by
    have h1 := fb_ct_sub (n := n) (p := p) (q := q) (fun k hk => h k (by omega))
    have h2 := h n (by omega)
    rw [fb_ct_succ, fb_ct_succ]
    cases hp : p n <;> cases hq : q n <;> simp_all <;> omega
theorem fb_ct_or {p q : Nat → Bool} : ∀ {n : Nat}, (∀ k, k < n → ¬ (p k = true ∧ q k = true)) → fb_ct (fun k => p k || q k) n = fb_ct p n + fb_ct q n
  | 0, _ => rfl
  | n + 1, h => by
    have h1 := fb_ct_or (n := n) (p := p) (q := q) (fun k hk => h k (by omega))
    have h2 := h n (by omega)
    rw [fb_ct_succ, fb_ct_succ, fb_ct_succ, h1]
    cases hp : p n <;> cases hq : q n <;> simp_all <;> omega
theorem fb_ct_not (p : Nat → Bool) : ∀ n, fb_ct p n + fb_ct (fun k => !p k) n = n
  | 0 => rfl
  | n + 1 => by
    have h := fb_ct_not p n
    rw [fb_ct_succ, fb_ct_succ]
    cases p n <;> simp <;> omega
theorem fb_ct_split (p : Nat → Bool) (m : Nat) : ∀ n, fb_ct p (m + n) = fb_ct p m + fb_ct (fun k => p (m + k)) n
  | 0 => rfl
  | n + 1 => by
    have h := fb_ct_split p m n
    show fb_ct p (m + n + 1) = _
    rw [fb_ct_succ, fb_ct_succ, h, Nat.add_assoc]
theorem fb_ct_zero {p : Nat → Bool} : ∀ {n : Nat}, fb_ct p n = 0 ↔ ∀ k, k < n → p k = false
  | 0 => ⟨fun _ k hk => absurd hk (Nat.not_lt_zero k), fun _ => rfl⟩
  | n + 1 => by
    have h := fb_ct_zero (p := p) (n := n)
    rw [fb_ct_succ]
    constructor
    · intro e k hk
      have e1 : fb_ct p n = 0 := by omega
      rcases Nat.lt_or_ge k n with q | q
      · exact h.mp e1 k q
      · have ek : k = n := by omega
        subst ek
        cases hp : p k
        · rfl
        · simp [hp] at e
    · intro a
      rw [h.mpr (fun k hk => a k (by omega)), a n (by omega)]
      rfl
theorem fb_ct_pos {p : Nat → Bool} {n : Nat} : 0 < fb_ct p n ↔ ∃ k, k < n ∧ p k = true := by
  constructor
  · intro h
    refine Classical.byContradiction fun hx => ?_
    have := fb_ct_zero.mpr (fun k hk => by
      cases hp : p k
      · rfl
      · exact absurd ⟨k, hk, hp⟩ hx : ∀ k, k < n → p k = false)
    omega
  · rintro ⟨k, hk, hp⟩
    rcases Nat.eq_zero_or_pos (fb_ct p n) with e | e
    · have := fb_ct_zero.mp e k hk
      rw [this] at hp
      cases hp
    · exact e
theorem fb_ct_all {p : Nat → Bool} {n : Nat} : fb_ct p n = n ↔ ∀ k, k < n → p k = true := by
  have h := fb_ct_not p n
  constructor
  · intro e k hk
    have z : fb_ct (fun k => !p k) n = 0 := by omega
    have := fb_ct_zero.mp z k hk
    cases hp : p k
    · simp [hp] at this
    · rfl
  · intro a
    have z : fb_ct (fun k => !p k) n = 0 := fb_ct_zero.mpr (fun k hk => by simp [a k hk])
    omega
/-- the k-th place with the property -/
theorem fb_ct_kth {p : Nat → Bool} {k : Nat} : ∀ {n : Nat}, k < fb_ct p n → ∃ i, i < n ∧ p i = true ∧ fb_ct p i = k
  | 0, h => absurd h (Nat.not_lt_zero k)
  | n + 1, h => by
    rcases Nat.lt_or_ge k (fb_ct p n) with q | q
    · obtain ⟨i, h1, h2⟩ := fb_ct_kth q
      exact ⟨i, by omega, h2⟩
    · rw [fb_ct_succ] at h
      cases hp : p n
      · simp [hp] at h; omega
      · simp [hp] at h
        exact ⟨n, by omega, hp, by omega⟩
theorem fb_ct_kth_one {p : Nat → Bool} {i j : Nat} (hi : p i = true) (hj : p j = true) (e : fb_ct p i = fb_ct p j) : i = j := by
  have key : ∀ a b : Nat, a < b → p a = true → fb_ct p a < fb_ct p b := by
    intro a b hab ha
    have h := fb_ct_mono p (show a + 1 ≤ b from hab)
    rw [fb_ct_succ, ha] at h
    simp at h
    omega
  rcases Nat.lt_trichotomy i j with q | q | q
  · have := key i j q hi; omega
  · exact q
  · have := key j i q hj; omega
/-! ===== sums over a range: one place changed, parts, bounds ===== -/
def fb_sm (f : Nat → Nat) : Nat → Nat
  | 0 => 0
  | n + 1 => fb_sm f n + f n
theorem fb_sm_succ (f : Nat → Nat) (n : Nat) : fb_sm f (n + 1) = fb_sm f n + f n := rfl
theorem fb_sm_cong {f g : Nat → Nat} : ∀ {n : Nat}, (∀ k, k < n → f k = g k) → fb_sm f n = fb_sm g n
  | 0, _ => rfl
  | n + 1, h => by rw [fb_sm_succ, fb_sm_succ, fb_sm_cong (fun k hk => h k (by omega)), h n (by omega)]
theorem fb_sm_out (f : Nat → Nat) (v : Nat) {i n : Nat} (h : n ≤ i) : fb_sm (fun k => if k = i then v else f k) n = fb_sm f n :=
  fb_sm_cong fun k hk => if_neg (by omega)
theorem fb_sm_upd (f : Nat → Nat) (v : Nat) {i : Nat} : ∀ {n : Nat}, i < n → fb_sm (fun k => if k = i then v else f k) n + f i = fb_sm f n + v
  | 0, h => absurd h (Nat.not_lt_zero i)
  | n + 1, h => by
    rw [fb_sm_succ, fb_sm_succ]
    rcases Nat.lt_or_ge i n with q | q
    · have := fb_sm_upd f v q
      have e : (if n = i then v else f n) = f n := if_neg (by omega)
      rw [e]
      omega
    · have e : i = n := by omega
      subst e
      rw [fb_sm_out f v (Nat.le_refl _)]
      simp only [if_true]
      omega
theorem fb_sm_add (f g : Nat → Nat) : ∀ n, fb_sm (fun k => f k + g k) n = fb_sm f n + fb_sm g n
  | 0 => rfl
  | n + 1 => by
    have h := fb_sm_add f g n
    rw [fb_sm_succ, fb_sm_succ, fb_sm_succ, h]
    omega
theorem fb_sm_le {f g : Nat → Nat} : ∀ {n : Nat}, (∀ k, k < n → f k ≤ g k) → fb_sm f n ≤ fb_sm g n
  | 0, _ => Nat.le_refl _
  | n + 1, h => by
    have h1 := fb_sm_le (n := n) (f := f) (g := g) (fun k hk => h k (by omega))
    have h2 := h n (by omega)
    rw [fb_sm_succ, fb_sm_succ]
    omega
theorem fb_sm_const (c : Nat) : ∀ n, fb_sm (fun _ => c) n = n * c
  | 0 => by rw [Nat.zero_mul]; rfl
  | n + 1 => by rw [fb_sm_succ, fb_sm_const c n, Nat.succ_mul]
theorem fb_sm_bound {f : Nat → Nat} {c n : Nat} (h : ∀ k, k < n → f k ≤ c) : fb_sm f n ≤ n * c := by
  rw [← fb_sm_const c n]
  exact fb_sm_le h
theorem fb_sm_mono (f : Nat → Nat) (m : Nat) : ∀ n, fb_sm f m ≤ fb_sm f (m + n)
  | 0 => Nat.le_refl _
  | n + 1 => by
    have h := fb_sm_mono f m n
    show fb_sm f m ≤ fb_sm f (m + n + 1)
    rw [fb_sm_succ]
    omega
theorem fb_sm_part (f : Nat → Nat) {i n : Nat} (h : i < n) : fb_sm f i + f i ≤ fb_sm f n := by
  have := fb_sm_mono f (i + 1) (n - (i + 1))
  rw [fb_sm_succ, show i + 1 + (n - (i + 1)) = n by omega] at this
  exact this
theorem fb_sm_split (f : Nat → Nat) (m : Nat) : ∀ n, fb_sm f (m + n) = fb_sm f m + fb_sm (fun k => f (m + k)) n
  | 0 => rfl
  | n + 1 => by
    have h := fb_sm_split f m n
    show fb_sm f (m + n + 1) = _
    rw [fb_sm_succ, fb_sm_succ, h, Nat.add_assoc]
theorem fb_sm_zero {f : Nat → Nat} {n : Nat} (h : fb_sm f n = 0) : ∀ k, k < n → f k = 0 := fun k hk => by
  have := fb_sm_part f hk
  omega
/-! sets of crossings: the bits of a long -/
def mm (x : Int64) (k : Nat) : Bool := x.toBitVec.getLsbD k
theorem mm_ext {x y : Int64} (h : ∀ k, k < 64 → mm x k = mm y k) : x = y := Int64.toBitVec_inj.mp (BitVec.eq_of_getLsbD_eq (fun i hi => h i hi))
theorem mm_big {x : Int64} {k : Nat} (h : 64 ≤ k) : mm x k = false := BitVec.getLsbD_of_ge _ _ h
theorem mm_lt {x : Int64} {k : Nat} (h : mm x k = true) : k < 64 := by
  rcases Nat.lt_or_ge k 64 with g | g
  · exact g
  · rw [mm_big g] at h; cases h
theorem mm_and (x y : Int64) (k : Nat) : mm (x &&& y) k = (mm x k && mm y k) := by unfold mm; rw [Int64.toBitVec_and, BitVec.getLsbD_and]
theorem mm_or (x y : Int64) (k : Nat) : mm (x ||| y) k = (mm x k || mm y k) := by unfold mm; rw [Int64.toBitVec_or, BitVec.getLsbD_or]
theorem mm_xor (x y : Int64) (k : Nat) : mm (x ^^^ y) k = (mm x k ^^ mm y k) := by unfold mm; rw [Int64.toBitVec_xor, BitVec.getLsbD_xor]
theorem mm_0 (k : Nat) : mm 0 k = false := BitVec.getLsbD_zero
theorem mm_m1 : ∀ k, k < 64 → mm (-1) k = true := by decide +kernel
theorem mm_not (x : Int64) {k : Nat} (hk : k < 64) : mm (x ^^^ (-1)) k = !mm x k := by rw [mm_xor, mm_m1 k hk]; cases mm x k <;> rfl
theorem mm_lN (n : Nat) {k : Nat} (hk : k < 64) : mm (lN n) k = n.testBit k := by unfold mm; rw [wb_tb, BitVec.getLsbD_ofNat]; simp [hk]
theorem mm_shl (x : Int64) {n k : Nat} (hn : n < 64) (hk : k < 64) : mm (jshl x (nI n)) k = (decide (n ≤ k) && mm x (k - n)) := by
  obtain ⟨a, ha, rfl⟩ := wb_of x
  show mm (lN a <<< ((nI n).toInt64 &&& 63)) k = _
  rw [wb_shl a hn, mm_lN _ hk, mm_lN _ (by omega), Nat.mul_comm, Nat.testBit_two_pow_mul]
theorem mm_ushr (x : Int64) {n : Nat} (hn : n < 64) (k : Nat) : mm (jushr x (nI n)) k = mm x (n + k) := by
  rcases Nat.lt_or_ge k 64 with hk | hk
  · obtain ⟨a, ha, rfl⟩ := wb_of x
    show mm ((lN a).toUInt64 >>> ((nI n).toInt64.toUInt64 &&& Int64.toUInt64 63)).toInt64 k = _
    rw [wb_shr ha hn, mm_lN _ hk, ← Nat.shiftRight_eq_div_pow, Nat.testBit_shiftRight]
    rcases Nat.lt_or_ge (n + k) 64 with g | g
    · rw [mm_lN _ g]
    · rw [mm_big g]; exact Nat.testBit_lt_two_pow (Nat.lt_of_lt_of_le ha (Nat.pow_le_pow_right (by decide) g))
  · rw [mm_big hk, mm_big (by omega)]
theorem mm_l63 : ∀ n, n < 64 → (((nI n).toInt64 &&& 63).toBitVec.smod 64).toNat = n := by decide +kernel
theorem mm_shr (x : Int64) {n k : Nat} (hn : n < 64) (hk : n + k < 64) : mm (jshr x (nI n)) k = mm x (n + k) := by
  unfold mm
  show (x >>> ((nI n).toInt64 &&& 63)).toBitVec.getLsbD k = _
  rw [Int64.toBitVec_shiftRight]
  show (x.toBitVec.sshiftRight (((nI n).toInt64 &&& 63).toBitVec.smod 64).toNat).getLsbD k = _
  rw [mm_l63 n hn, BitVec.getLsbD_sshiftRight]
  simp [hk, show k < 64 by omega]
theorem mm_one : ∀ j, j < 64 → mm 1 j = decide (j = 0) := by decide +kernel
theorem mm_bit {n k : Nat} (hn : n < 64) : mm (jshl 1 (nI n)) k = decide (k = n) := by
  rcases Nat.lt_or_ge k 64 with hk | hk
  · rw [mm_shl 1 hn hk, mm_one _ (by omega)]
    by_cases h1 : n ≤ k <;> by_cases h2 : k = n <;> simp [h1, h2] <;> omega
  · rw [mm_big hk]; simp; omega
theorem jshl1 {n : Nat} (hn : n < 64) : jshl 1 (nI n) = lN (2 ^ n) := by
  show (1 : Int64) <<< ((nI n).toInt64 &&& 63) = _
  rw [show (1 : Int64) = lN 1 from rfl, wb_shl 1 hn, Nat.one_mul]
theorem mm_ahead {n k : Nat} (hn : n < 64) : mm (jshl 1 (nI n) - 1) k = decide (k < n) := by
  rw [jshl1 hn, show (1 : Int64) = lN 1 from rfl, lN_sub (Nat.one_le_two_pow)]
  rcases Nat.lt_or_ge k 64 with hk | hk
  · rw [mm_lN _ hk, Nat.testBit_two_pow_sub_one]
  · rw [mm_big hk]; simp; omega
theorem and1_iff (y : Int64) : (y &&& 1 = 1) ↔ mm y 0 = true := by
  constructor
  · intro h
    have h2 := congrArg (fun z => mm z 0) h
    simp only [mm_and, mm_one 0 (by decide)] at h2
    simpa using h2
  · intro h
    apply mm_ext
    intro k hk
    rw [mm_and, mm_one k hk]
    by_cases g : k = 0
    · subst g; simp [h]
    · simp [g]
theorem and1_zero (y : Int64) : (y &&& 1 = 0) ↔ mm y 0 = false := by
  constructor
  · intro h
    have h2 := congrArg (fun z => mm z 0) h
    simp only [mm_and, mm_one 0 (by decide), mm_0] at h2
    simpa using h2
  · intro h
    apply mm_ext
    intro k hk
    rw [mm_and, mm_one k hk, mm_0]
    by_cases g : k = 0
    · subst g; simp [h]
    · simp [g]
theorem test_s (x : Int64) {k : Nat} (hk : k < 64) : ((jshr x (nI k)) &&& 1 = 1) ↔ mm x k = true := by rw [and1_iff, mm_shr x hk (by omega)]; rfl
theorem test_s0 (x : Int64) {k : Nat} (hk : k < 64) : ((jshr x (nI k)) &&& 1 = 0) ↔ mm x k = false := by rw [and1_zero, mm_shr x hk (by omega)]; rfl
theorem test_u (x : Int64) {k : Nat} (hk : k < 64) : ((jushr x (nI k)) &&& 1 = 0) ↔ mm x k = false := by rw [and1_zero, mm_ushr x hk]; rfl
theorem mm_zero_iff (x : Int64) : x = 0 ↔ ∀ k, k < 64 → mm x k = false := by
  constructor
  · intro h k _; rw [h, mm_0]
  · intro h; exact mm_ext (fun k hk => by rw [h k hk, mm_0])
theorem mm_ne {x : Int64} (h : ¬ x = 0) : ∃ k, k < 64 ∧ mm x k = true := by
  apply Classical.byContradiction
  intro g
  apply h
  rw [mm_zero_iff]
  intro k hk
  cases e : mm x k
  · rfl
  · exact absurd ⟨k, hk, e⟩ g
/-- a set within the first n crossings -/
def Sb (x : Int64) (n : Nat) : Prop := ∀ k, mm x k = true → k < n
theorem Sb.and {x y : Int64} {n : Nat} (h : Sb x n) : Sb (x &&& y) n := fun k hk => h k (by rw [mm_and] at hk; exact (Bool.and_eq_true_iff.mp hk).1)
theorem Sb.and2 {x y : Int64} {n : Nat} (h : Sb y n) : Sb (x &&& y) n := fun k hk => h k (by rw [mm_and] at hk; exact (Bool.and_eq_true_iff.mp hk).2)
theorem Sb.or {x y : Int64} {n : Nat} (h : Sb x n) (g : Sb y n) : Sb (x ||| y) n := fun k hk => by
  rw [mm_or] at hk
  rcases Bool.or_eq_true_iff.mp hk with z | z
  · exact h k z
  · exact g k z
theorem Sb.zero (n : Nat) : Sb 0 n := fun k hk => by rw [mm_0] at hk; cases hk
theorem Sb.bit {k n : Nat} (hk : k < n) (hn : n < 64) : Sb (jshl 1 (nI k)) n := fun j hj => by
  rw [mm_bit (by omega)] at hj
  have := of_decide_eq_true hj
  omega
/-- one set in another -/
def Le (x y : Int64) : Prop := ∀ k, mm x k = true → mm y k = true
theorem Le.rf (x : Int64) : Le x x := fun _ h => h
theorem Le.tr {x y z : Int64} (h : Le x y) (g : Le y z) : Le x z := fun k hk => g k (h k hk)
theorem Le.anti {x y : Int64} (h : Le x y) (g : Le y x) : x = y := mm_ext (fun k _ => by
  cases e1 : mm x k <;> cases e2 : mm y k <;> first | rfl | (have := h k e1; rw [e2] at this; cases this) | (have := g k e2; rw [e1] at this; cases this))
theorem Le.sb {x y : Int64} {n : Nat} (h : Le x y) (g : Sb y n) : Sb x n := fun k hk => g k (h k hk)
theorem Le.andL (x y : Int64) : Le (x &&& y) x := fun k hk => by rw [mm_and] at hk; exact (Bool.and_eq_true_iff.mp hk).1
theorem Le.andR (x y : Int64) : Le (x &&& y) y := fun k hk => by rw [mm_and] at hk; exact (Bool.and_eq_true_iff.mp hk).2
theorem Le.orL (x y : Int64) : Le x (x ||| y) := fun k hk => by rw [mm_or, hk]; rfl
theorem Le.orR (x y : Int64) : Le y (x ||| y) := fun k hk => by rw [mm_or, hk, Bool.or_true]
theorem Le.and {x y z : Int64} (h : Le x y) (g : Le x z) : Le x (y &&& z) := fun k hk => by rw [mm_and, h k hk, g k hk]; rfl
theorem Le.or {x y z : Int64} (h : Le x z) (g : Le y z) : Le (x ||| y) z := fun k hk => by
  rw [mm_or] at hk
  rcases Bool.or_eq_true_iff.mp hk with e | e
  · exact h k e
  · exact g k e
/-- how many crossings -/
def pc (x : Int64) : Nat := fb_ct (mm x) 64
theorem pc_le (x : Int64) : pc x ≤ 64 := fb_ct_le _ _
theorem pc_0 : pc 0 = 0 := fb_ct_zero.mpr (fun k _ => mm_0 k)
theorem pc_lt {x y : Int64} (h : Le x y) (hne : ¬ x = y) : pc x < pc y := by
  obtain ⟨k, hk, e⟩ : ∃ k, k < 64 ∧ ¬ mm x k = mm y k := by
    apply Classical.byContradiction
    intro g
    exact hne (mm_ext (fun k hk => Classical.byContradiction (fun e => g ⟨k, hk, e⟩)))
  have hy : mm y k = true := by
    cases h1 : mm y k
    · cases h2 : mm x k
      · exact absurd (h2.trans h1.symm) e
      · have := h k h2; rw [h1] at this; cases this
    · rfl
  have hx : mm x k = false := by
    cases h2 : mm x k
    · rfl
    · exact absurd (h2.trans hy.symm) e
  have h1 : fb_ct (mm x) 64 ≤ fb_ct (fun j => if j = k then false else mm y j) 64 := fb_ct_sub (fun j _ hj => by
    by_cases g : j = k
    · subst g; rw [hx] at hj; cases hj
    · simp only [g, if_false]; exact h j hj)
  have h2 := fb_ct_upd (mm y) false hk
  have h3 : (if mm y k = true then 1 else 0) = 1 := if_pos hy
  have h4 : (if false = true then 1 else 0) = 0 := rfl
  rw [h3, h4] at h2
  unfold pc
  omega
