/-! the reference's fight -/
abbrev At := (Nat → Int64) × (Nat → Int64) × (Nat → Int32) × (Nat → Int32)
abbrev Ft := Int32 × Int64 × Int64 × Int32 × Int32 × Int32 × (Nat → Int64) × (Nat → Int64) × (Nat → Int32) × (Nat → Int32)
def LT (mw mh ml ma : Int32) (nb : Nat → Int64) (c t n : Int32) (nF : Nat) (d bk va : Int32) (x y : Int64) (tk T sp : Int32) (A : At) : Option Ft := lp_X7_isTaken_16 mw mh ml ma nb c t n nF d bk va x y tk T sp A.1 A.2.1 A.2.2.1 A.2.2.2
section F7
variable {w h : Nat} {gd : Gd} {mw mh : Int32} {nb : Nat → Int64} {lw L0 : Nat} {op at' : Int32} {t n : Nat}
theorem lt_spent {va : Int32} (hva : va = 0 ∨ va = 1) (d bk : Int32) (x y : Int64) (tk T : Int32) (A : At) : ∀ nF, LT mw mh (nI lw) (nI L0) nb at' (nI t) (nI n) (nF + 1) d bk va x y tk T 1 A = some (va, x, y, tk, T, 1, A) := by
  intro nF
  unfold LT
  rw [lp_X7_isTaken_16]
  by_cases h : d < 0
  · rw [if_pos h, if_neg (fun z => z hva)]
  · rw [if_neg h, if_neg (by decide), if_neg (fun z => z hva)]
theorem f_isGone {bA wA : Nat → Int64} {i k : Nat} (hi : i < 130) (hk : k < 64) (hc : at' = 1 ∨ at' = 2) (B : Bd gd (w * h) (bA i) (wA i)) : f_X7_isGone bA wA (nI i) at' (nI k) = some (if Co (bA i) (wA i) k = at' then 0 else 1) := by
  have i1 := nI_in hi (by decide)
  have cl : (nI i).toNatClampNeg = i := nI_clamp (by omega)
  have key : ∀ u : Int64, u = Ow at' (bA i) (wA i) → (if jshr u (nI k) &&& 1 = 0 then some (1 : Int32) else some 0) = some (if Co (bA i) (wA i) k = at' then 0 else 1) := fun u hu => by
    have e := Co_iff B hc k
    rw [← hu] at e
    cases z : mm u k
    · rw [if_pos ((test_s0 u hk).mpr z), if_neg (fun q => by rw [e.mp q] at z; cases z)]
    · rw [if_neg (fun q => by rw [(test_s0 u hk).mp q] at z; cases z), if_pos (e.mpr z)]
  unfold f_X7_isGone
  rw [nm_eq]
  by_cases z : at' = 1
  · rw [if_pos z, if_neg i1, cl]
    exact key _ (if_pos z).symm
  · rw [if_neg z, if_neg i1, cl]
    exact key _ (if_neg z).symm
/-- back with what decides -/
theorem lt_dec {d : Nat} (hd : d < 7) (hL : L0 + d < 130) (va : Int32) (x y : Int64) (tk T : Int32) (A : At) (hm : A.2.2.1 (L0 + d) = Mv op (L0 + d)) (hv : ¬ va = Un1 op at' (L0 + d)) (nF : Nat) : LT mw mh (nI lw) (nI L0) nb at' (nI t) (nI n) (nF + 1) (nI d) 1 va x y tk T 0 A = LT mw mh (nI lw) (nI L0) nb at' (nI t) (nI n) nF (nI d + (-1)) 1 va x y tk T 0 A := by
  obtain ⟨bA, wA, mv, nx⟩ := A
  dsimp only at hm
  have i1 := nI_in hL (by decide)
  have cl : (nI (L0 + d)).toNatClampNeg = L0 + d := nI_clamp (by omega)
  unfold LT
  dsimp only
  rw [lp_X7_isTaken_16, if_neg (nI_pos (by omega)), if_pos rfl, nm_eq, nI_add, if_neg i1, nm_eq, cl, hm]
  unfold Un1 at hv
  by_cases z : Mv op (L0 + d) = at'
  · rw [if_pos z] at hv ⊢
    dsimp only
    rw [nm_eq, if_neg n10, if_neg hv]
    dsimp only
    rw [nm_eq, if_neg n10, if_neg n10, nm_eq]
  · rw [if_neg z] at hv ⊢
    dsimp only
    rw [nm_eq, if_neg n10, if_neg hv]
    dsimp only
    rw [nm_eq, if_neg n10, if_neg n10, nm_eq]
/-- nothing is left to try -/
theorem lt_end (N : NbOK w h mw mh nb) {d : Nat} (hd : d < 7) (hdn : d ≤ n) (hn : n ≤ 6) (hwh : w * h < 64) (hL : L0 + d < 130) (bk va : Int32) (x y : Int64) (tk T : Int32) (A : At) (hm : A.2.2.1 (L0 + d) = Mv op (L0 + d)) (hr : bk = 0 ∨ (bk = 1 ∧ va = Un1 op at' (L0 + d))) (he : A.2.2.2 d = nI (w * h + 1) ∨ (d = n ∧ ∃ i, i ≤ w * h ∧ A.2.2.2 d = nI i)) (nF : Nat) : LT mw mh (nI lw) (nI L0) nb at' (nI t) (nI n) (nF + 1) (nI d) bk va x y tk T 0 A = LT mw mh (nI lw) (nI L0) nb at' (nI t) (nI n) nF (nI d + (-1)) 1 (if d = n then 0 else Un1 op at' (L0 + d)) x y tk T 0 A := by
  obtain ⟨bA, wA, mv, nx⟩ := A
  dsimp only at hm he
  have i1 := nI_in hL (by decide)
  have j1 := nI_in hd (by decide)
  have cl : (nI (L0 + d)).toNatClampNeg = L0 + d := nI_clamp (by omega)
  have cd : (nI d).toNatClampNeg = d := nI_clamp (by omega)
  have hdn' : (nI n ≤ nI d) ↔ d = n := by rw [nI_leI (by omega) (by omega)]; omega
  have hde : (nI d = nI n) ↔ d = n := nI_eq (by omega) (by omega)
  unfold LT
  dsimp only
  rw [lp_X7_isTaken_16, if_neg (nI_pos (by omega)), if_pos rfl, nm_eq, nI_add, if_neg i1, nm_eq, cl, hm]
  unfold Un1 at hr ⊢
  by_cases z : Mv op (L0 + d) = at'
  · rw [if_pos z] at hr ⊢
    rw [if_pos z]
    dsimp only
    rcases hr with rfl | ⟨rfl, rfl⟩
    · rw [nm_eq, if_pos rfl]
      dsimp only
      rw [nm_eq, if_pos rfl, if_neg j1, f_size7 N, Option.bind_some, cd]
      rcases he with he | ⟨e0, i, hi, he⟩
      · rw [he, if_pos (nI_lt (by omega) (by omega))]
        rw [if_pos rfl, if_neg n10]
        by_cases e : d = n
        · rw [if_pos (hdn'.mpr e), nm_eq, if_pos e]
        · rw [if_neg (fun q => e (hdn'.mp q)), nm_eq, if_neg e]
      · rw [he, if_neg (nI_nlt (by omega) (by omega)), if_pos (hde.mpr e0)]
        rw [if_pos rfl, if_neg n10]
        by_cases e : d = n
        · rw [if_pos (hdn'.mpr e), nm_eq, if_pos e]
        · rw [if_neg (fun q => e (hdn'.mp q)), nm_eq, if_neg e]
    · rw [nm_eq, if_neg n10, if_pos rfl]
      dsimp only
      rw [nm_eq, if_pos rfl, if_neg j1, f_size7 N, Option.bind_some, cd]
      rcases he with he | ⟨e0, i, hi, he⟩
      · rw [he, if_pos (nI_lt (by omega) (by omega))]
        rw [if_pos rfl, if_neg n10]
        by_cases e : d = n
        · rw [if_pos (hdn'.mpr e), nm_eq, if_pos e]
        · rw [if_neg (fun q => e (hdn'.mp q)), nm_eq, if_neg e]
      · rw [he, if_neg (nI_nlt (by omega) (by omega)), if_pos (hde.mpr e0)]
        rw [if_pos rfl, if_neg n10]
        by_cases e : d = n
        · rw [if_pos (hdn'.mpr e), nm_eq, if_pos e]
        · rw [if_neg (fun q => e (hdn'.mp q)), nm_eq, if_neg e]
  · rw [if_neg z] at hr ⊢
    rw [if_neg z]
    dsimp only
    rcases hr with rfl | ⟨rfl, rfl⟩
    · rw [nm_eq, if_pos rfl]
      dsimp only
      rw [nm_eq, if_pos rfl, if_neg j1, f_size7 N, Option.bind_some, cd]
      rcases he with he | ⟨e0, i, hi, he⟩
      · rw [he, if_pos (nI_lt (by omega) (by omega))]
        rw [if_pos rfl, if_pos rfl, nm_eq]
        by_cases e : d = n
        · rw [if_pos e]
        · rw [if_neg e]
      · rw [he, if_neg (nI_nlt (by omega) (by omega)), if_pos (hde.mpr e0)]
        rw [if_pos rfl, if_pos rfl, nm_eq]
        by_cases e : d = n
        · rw [if_pos e]
        · rw [if_neg e]
    · rw [nm_eq, if_neg n10, if_pos rfl]
      dsimp only
      rw [nm_eq, if_pos rfl, if_neg j1, f_size7 N, Option.bind_some, cd]
      rcases he with he | ⟨e0, i, hi, he⟩
      · rw [he, if_pos (nI_lt (by omega) (by omega))]
        rw [if_pos rfl, if_pos rfl, nm_eq]
        by_cases e : d = n
        · rw [if_pos e]
        · rw [if_neg e]
      · rw [he, if_neg (nI_nlt (by omega) (by omega)), if_pos (hde.mpr e0)]
        rw [if_pos rfl, if_pos rfl, nm_eq]
        by_cases e : d = n
        · rw [if_pos e]
        · rw [if_neg e]
/-- an act is made -/
def FB (mw mh ml ma : Int32) (nb : Nat → Int64) (c t n : Int32) (nF d L1 : Nat) (va : Int32) (x y : Int64) (tk T : Int32) (xb xw : Int64) (bA wA : Nat → Int64) (mv' nx' : Nat → Int32) : Option Ft := (f_X7_counts T 0).bind fun q49 => (f_X7_isGone (vp_updL bA L1 xb) (vp_updL wA L1 xw) (nI L1) c t).bind fun q59 => if q59 = 0 then lp_X7_isTaken_16 mw mh ml ma nb c t n nF (nI (d + 1)) 0 va x y tk q49.1 q49.2 (vp_updL bA L1 xb) (vp_updL wA L1 xw) mv' (upd nx' (d + 1) 0) else lp_X7_isTaken_16 mw mh ml ma nb c t n nF (nI d) 1 1 x y tk q49.1 q49.2 (vp_updL bA L1 xb) (vp_updL wA L1 xw) mv' nx'
theorem lt_pass (N : NbOK w h mw mh nb) {d i : Nat} (hdn : d < n) (hn : n ≤ 6) (hwh : w * h < 64) (hL : L0 + d + 1 < 130) (bk va : Int32) (x y : Int64) (tk T : Int32) (bA wA : Nat → Int64) (mv nx : Nat → Int32) (hm : mv (L0 + d) = Mv op (L0 + d)) (hr : bk = 0 ∨ (bk = 1 ∧ va = Un1 op at' (L0 + d))) (hnx : nx d = nI i) (hi : i = w * h) (nF : Nat) : lp_X7_isTaken_16 mw mh (nI lw) (nI L0) nb at' (nI t) (nI n) (nF + 1) (nI d) bk va x y tk T 0 bA wA mv nx = FB mw mh (nI lw) (nI L0) nb at' (nI t) (nI n) nF d (L0 + d + 1) va x y tk T (bA (L0 + d)) (wA (L0 + d)) bA wA (upd mv (L0 + d + 1) (3 - Mv op (L0 + d))) (upd nx d (nI (i + 1))) := by
  have cl1 : (nI (L0 + d)).toNatClampNeg = L0 + d := nI_clamp (by omega)
  have cl2 : (nI (L0 + d + 1)).toNatClampNeg = L0 + d + 1 := nI_clamp (by omega)
  have cl3 : (nI d).toNatClampNeg = d := nI_clamp (by omega)
  have cl4 : (nI (d + 1)).toNatClampNeg = d + 1 := nI_clamp (by omega)
  have b1 : (nI d < 0) = False := eq_false (nI_pos (by omega))
  have b2 : (nI (L0 + d) < 0) = False := eq_false (nI_pos (by omega))
  have b3 : (nI (L0 + d + 1) < 0) = False := eq_false (nI_pos (by omega))
  have b4 : (nI (d + 1) < 0) = False := eq_false (nI_pos (by omega))
  have k1 : (130 ≤ L0 + d) = False := eq_false (by omega)
  have k2 : (130 ≤ L0 + d + 1) = False := eq_false (by omega)
  have k3 : (7 ≤ d) = False := eq_false (by omega)
  have k4 : (7 ≤ d + 1) = False := eq_false (by omega)
  have a1 : nI L0 + nI d = nI (L0 + d) := nI_add _ _
  have a2 : nI (L0 + d) + 1 = nI (L0 + d + 1) := nI_1 _
  have a3 : nI d + 1 = nI (d + 1) := nI_1 _
  have a4 : nI i + 1 = nI (i + 1) := nI_1 _
  have s1 : f_X7_size mw mh = some (nI (w * h)) := f_size7 N
  have q1 : (nI (w * h) < nI i) = False := eq_false (nI_nlt (by omega) (by omega))
  have q2 : (nI d = nI n) = False := eq_false (fun z => by have := (nI_eq (by omega) (by omega)).mp z; omega)
  have n10' : ((1 : Int32) = 0) = False := eq_false n10
  have hi' : (nI i = nI (w * h)) = True := eq_true (by rw [hi])
  rw [lp_X7_isTaken_16]
  unfold FB
  unfold Un1 at hr
  by_cases z : Mv op (L0 + d) = at'
  · have z' : (Mv op (L0 + d) = at') = True := eq_true z
    rw [if_pos z] at hr
    rcases hr with rfl | ⟨rfl, rfl⟩ <;> simp only [nm_eq, a1, a2, a3, a4, cl1, cl2, cl3, cl4, b1, b2, b3, b4, k1, k2, k3, k4, or_self, if_false, if_true, s1, q1, q2, n10', hm, z', hnx, hi', Option.bind_some, f_X7_other]
  · have z' : (Mv op (L0 + d) = at') = False := eq_false z
    rw [if_neg z] at hr
    rcases hr with rfl | ⟨rfl, rfl⟩ <;> simp only [nm_eq, a1, a2, a3, a4, cl1, cl2, cl3, cl4, b1, b2, b3, b4, k1, k2, k3, k4, or_self, if_false, if_true, s1, q1, q2, n10', hm, z', hnx, hi', Option.bind_some, f_X7_other]
theorem lt_lay (N : NbOK w h mw mh nb) {d i : Nat} (hdn : d < n) (hn : n ≤ 6) (hwh : w * h < 64) (hL : L0 + d + 1 < 130) (bk va : Int32) (x y : Int64) (tk T : Int32) (bA wA : Nat → Int64) (mv nx : Nat → Int32) (hm : mv (L0 + d) = Mv op (L0 + d)) (hr : bk = 0 ∨ (bk = 1 ∧ va = Un1 op at' (L0 + d))) (hnx : nx d = nI i) (hi : i < w * h) (nF : Nat) : lp_X7_isTaken_16 mw mh (nI lw) (nI L0) nb at' (nI t) (nI n) (nF + 1) (nI d) bk va x y tk T 0 bA wA mv nx = (f_X7_reason mw mh (nI lw) x y tk nb bA wA mv (nI (L0 + d)) (Mv op (L0 + d)) (nI i)).bind fun q69 => if q69.1 = 0 then FB mw mh (nI lw) (nI L0) nb at' (nI t) (nI n) nF d (L0 + d + 1) va q69.2.1 q69.2.2.1 q69.2.2.2 T q69.2.1 q69.2.2.1 bA wA (upd mv (L0 + d + 1) (3 - Mv op (L0 + d))) (upd nx d (nI (i + 1))) else lp_X7_isTaken_16 mw mh (nI lw) (nI L0) nb at' (nI t) (nI n) nF (nI d) 0 va q69.2.1 q69.2.2.1 q69.2.2.2 T 0 bA wA mv (upd nx d (nI (i + 1))) := by
  have cl1 : (nI (L0 + d)).toNatClampNeg = L0 + d := nI_clamp (by omega)
  have cl2 : (nI (L0 + d + 1)).toNatClampNeg = L0 + d + 1 := nI_clamp (by omega)
  have cl3 : (nI d).toNatClampNeg = d := nI_clamp (by omega)
  have cl4 : (nI (d + 1)).toNatClampNeg = d + 1 := nI_clamp (by omega)
  have b1 : (nI d < 0) = False := eq_false (nI_pos (by omega))
  have b2 : (nI (L0 + d) < 0) = False := eq_false (nI_pos (by omega))
  have b3 : (nI (L0 + d + 1) < 0) = False := eq_false (nI_pos (by omega))
  have b4 : (nI (d + 1) < 0) = False := eq_false (nI_pos (by omega))
  have k1 : (130 ≤ L0 + d) = False := eq_false (by omega)
  have k2 : (130 ≤ L0 + d + 1) = False := eq_false (by omega)
  have k3 : (7 ≤ d) = False := eq_false (by omega)
  have k4 : (7 ≤ d + 1) = False := eq_false (by omega)
  have a1 : nI L0 + nI d = nI (L0 + d) := nI_add _ _
  have a2 : nI (L0 + d) + 1 = nI (L0 + d + 1) := nI_1 _
  have a3 : nI d + 1 = nI (d + 1) := nI_1 _
  have a4 : nI i + 1 = nI (i + 1) := nI_1 _
  have s1 : f_X7_size mw mh = some (nI (w * h)) := f_size7 N
  have q1 : (nI (w * h) < nI i) = False := eq_false (nI_nlt (by omega) (by omega))
  have q2 : (nI d = nI n) = False := eq_false (fun z => by have := (nI_eq (by omega) (by omega)).mp z; omega)
  have n10' : ((1 : Int32) = 0) = False := eq_false n10
  have hi' : (nI i = nI (w * h)) = False := eq_false (fun z => by have := (nI_eq (by omega) (by omega)).mp z; omega)
  rw [lp_X7_isTaken_16]
  unfold FB
  unfold Un1 at hr
  by_cases z : Mv op (L0 + d) = at'
  · have z' : (Mv op (L0 + d) = at') = True := eq_true z
    rw [if_pos z] at hr
    rcases hr with rfl | ⟨rfl, rfl⟩ <;> simp only [nm_eq, a1, a2, a3, a4, cl1, cl2, cl3, cl4, b1, b2, b3, b4, k1, k2, k3, k4, or_self, if_false, if_true, s1, q1, q2, n10', hm, z', hnx, hi', Option.bind_some, f_X7_other]
  · have z' : (Mv op (L0 + d) = at') = False := eq_false z
    rw [if_neg z] at hr
    rcases hr with rfl | ⟨rfl, rfl⟩ <;> simp only [nm_eq, a1, a2, a3, a4, cl1, cl2, cl3, cl4, b1, b2, b3, b4, k1, k2, k3, k4, or_self, if_false, if_true, s1, q1, q2, n10', hm, z', hnx, hi', Option.bind_some, f_X7_other]
end F7
