/-! the reference's chase: its loop -/
abbrev Ar := (Nat → Int64) × (Nat → Int64) × (Nat → Int64) × (Nat → Int64) × (Nat → Int32) × (Nat → Int64) × (Nat → Int64) × (Nat → Int64) × (Nat → Int64) × (Nat → Int32) × (Nat → Int32)
abbrev Fn := Int32 × Int64 × Int64 × Int32 × Int32 × Int32 × (Nat → Int64) × (Nat → Int64) × (Nat → Int64) × (Nat → Int64) × (Nat → Int32) × (Nat → Int64) × (Nat → Int64) × (Nat → Int64) × (Nat → Int64) × (Nat → Int32) × (Nat → Int32)
def rA (A : Ar) (i : Nat) : Int64 × Int64 × Int64 × Int64 × Int32 × Int64 × Int64 × Int64 × Int64 × Int32 × Int32 := (A.1 i, A.2.1 i, A.2.2.1 i, A.2.2.2.1 i, A.2.2.2.2.1 i, A.2.2.2.2.2.1 i, A.2.2.2.2.2.2.1 i, A.2.2.2.2.2.2.2.1 i, A.2.2.2.2.2.2.2.2.1 i, A.2.2.2.2.2.2.2.2.2.1 i, A.2.2.2.2.2.2.2.2.2.2 i)
def Ag (d : Nat) (A A' : Ar) : Prop := ∀ i, i < d → rA A' i = rA A i
theorem Ag.rf (d : Nat) (A : Ar) : Ag d A A := fun _ _ => rfl
theorem Ag.tr {d : Nat} {A B C : Ar} (h1 : Ag d A B) (h2 : Ag d B C) : Ag d A C := fun i hi => (h2 i hi).trans (h1 i hi)
theorem Ag.mono {d e : Nat} {A B : Ar} (h : Ag e A B) (hd : d ≤ e) : Ag d A B := fun i hi => h i (by omega)
section C8
variable (mw mh : Int32) (nb : Nat → Int64) (c t n : Int32)
def LC (nF : Nat) (d fr ca : Int32) (x y : Int64) (tk T sp : Int32) (A : Ar) : Option Fn := lp_X7_isCaught_41 mw mh nb c t n nF d fr ca x y tk T sp A.1 A.2.1 A.2.2.1 A.2.2.2.1 A.2.2.2.2.1 A.2.2.2.2.2.1 A.2.2.2.2.2.2.1 A.2.2.2.2.2.2.2.1 A.2.2.2.2.2.2.2.2.1 A.2.2.2.2.2.2.2.2.2.1 A.2.2.2.2.2.2.2.2.2.2
end C8
section C9
variable {w h : Nat} {gd : Gd} {mw mh : Int32} {nb : Nat → Int64} {cc : Int32} {t n : Nat}
theorem lc_spent {ca : Int32} (hca : ca = 0 ∨ ca = 1) (d fr : Int32) (x y : Int64) (tk T : Int32) (A : Ar) : ∃ fin : Fn, (∀ nF, LC mw mh nb cc (nI t) (nI n) (nF + 1) d fr ca x y tk T 1 A = some fin) ∧ fin.2.2.2.2.1 = T ∧ fin.2.2.2.2.2.1 = 1 := by
  refine ⟨(ca, x, y, tk, T, 1, A), fun nF => ?_, rfl, rfl⟩
  unfold LC
  rw [lp_X7_isCaught_41]
  by_cases h : d < 0
  · rw [if_pos h, if_neg (fun z => z hca)]
  · rw [if_neg h, if_neg (by decide), if_neg (fun z => z hca)]
/-- fresh, and nothing to do: not caught -/
theorem lc_no (G : GdOK w h gd) {d : Nat} (hd : d < 21) (hdn : d ≤ n) (hn : n ≤ 20) (nF : Nat) (ca : Int32) (x y : Int64) (tk T : Int32) (A : Ar) (h1 : ¬ pc (A.2.2.2.2.2.1 d) = 1 ∨ n - d < 1) (h2 : ¬ pc (A.2.2.2.2.2.1 d) = 2 ∨ n - d < 2) : LC mw mh nb cc (nI t) (nI n) (nF + 1) (nI d) 1 ca x y tk T 0 A = LC mw mh nb cc (nI t) (nI n) nF (nI d + (-1)) 0 0 x y tk T 0 A := by
  obtain ⟨cB, cW, aB, aW, hA, bL, lB, lW, aL, fA, an⟩ := A
  dsimp only at h1 h2
  have i1 := nI_in hd (by decide)
  have cl : (nI d).toNatClampNeg = d := nI_clamp (by omega)
  have hpl := pc_le (bL d)
  have e0 : nI n - nI d = nI (n - d) := pk_sub hdn
  unfold LC
  dsimp only
  rw [lp_X7_isCaught_41, if_neg (nI_pos (by omega)), if_pos rfl, nm_eq, if_neg n10, if_neg i1, cl, f_many, Option.bind_some, e0]
  by_cases q1 : pc (bL d) = 1
  · have q2 : n - d < 1 := h1.resolve_left (fun z => z q1)
    rw [if_pos (show nI (pc (bL d)) = 1 by rw [q1]; decide), nm_eq, if_pos (show nI (n - d) < 1 from nI_lt (b := 1) q2 (by decide))]
    dsimp only
    rw [if_pos rfl, nm_eq]
  · rw [if_neg (show ¬ nI (pc (bL d)) = 1 from fun z => q1 ((nI_eq (b := 1) (by omega) (by decide)).mp z))]
    by_cases q3 : pc (bL d) = 2
    · have q4 : n - d < 2 := h2.resolve_left (fun z => z q3)
      rw [if_pos (show nI (pc (bL d)) = 2 by rw [q3]; decide), if_neg (show ¬ (2 : Int32) ≤ nI (n - d) from nI_ge (b := 2) q4 (by decide)), nm_eq]
    · rw [if_neg (show ¬ nI (pc (bL d)) = 2 from fun z => q3 ((nI_eq (b := 2) (by omega) (by decide)).mp z)), nm_eq]
/-- fresh, one breath left -/
theorem lc_one (G : GdOK w h gd) (N : NbOK w h mw mh nb) (hc : cc = 1 ∨ cc = 2) {d : Nat} (hd : d < 21) (hdn : d < n) (hn : n ≤ 20) {ah : Option (Int64 × Int64)} (A : Ar) (B : Bd gd (w * h) (A.1 d) (A.2.1 d)) (ha : AhOK ah (A.2.2.1 d) (A.2.2.2.1 d) (A.2.2.2.2.1 d)) {k0 : Nat} (hk : k0 < w * h) (h1 : pc (A.2.2.2.2.2.1 d) = 1) (hlow : f_X7_least (A.2.2.2.2.2.1 d) 0 = some (nI k0)) (ca : Int32) (x y : Int64) (tk : Int32) (T : Nat) (hT : T ≤ 600) : ∃ x' y' tk', ∀ nF, LC mw mh nb cc (nI t) (nI n) (nF + 1) (nI d) 1 ca x y tk (nI T) 0 A = if lgb gd (3 - cc) (A.1 d) (A.2.1 d) ah k0 = true then (if T < 600 then LC mw mh nb cc (nI t) (nI n) nF (nI d + (-1)) 0 1 x' y' tk' (nI (T + 1)) 0 A else LC mw mh nb cc (nI t) (nI n) nF (nI d + (-1)) 0 1 x' y' tk' (nI T) 1 A) else LC mw mh nb cc (nI t) (nI n) nF (nI d + (-1)) 0 0 x' y' tk' (nI T) 0 A := by
  obtain ⟨cB, cW, aB, aW, hA, bL, lB, lW, aL, fA, an⟩ := A
  dsimp only at h1 hlow B ha
  have i1 := nI_in hd (by decide)
  have cl : (nI d).toNatClampNeg = d := nI_clamp (by omega)
  have e0 : nI n - nI d = nI (n - d) := pk_sub (by omega)
  obtain ⟨x', y', tk', m1, m2⟩ := f_mayChase G N hc hd hk B ha x y tk
  refine ⟨x', y', tk', fun nF => ?_⟩
  have start : lp_X7_isCaught_41 mw mh nb cc (nI t) (nI n) (nF + 1) (nI d) 1 ca x y tk (nI T) 0 cB cW aB aW hA bL lB lW aL fA an = (f_X7_mayChase mw mh x y tk nb cB cW aB aW hA (nI d) cc (nI k0)).bind fun q92 => if q92.1 = 0 then lp_X7_isCaught_41 mw mh nb cc (nI t) (nI n) nF (nI d + (-1)) 0 0 q92.2.1 q92.2.2.1 q92.2.2.2 (nI T) 0 cB cW aB aW hA bL lB lW aL fA an else (f_X7_counts (nI T) 0).bind fun q87 => lp_X7_isCaught_41 mw mh nb cc (nI t) (nI n) nF (nI d + (-1)) 0 1 q92.2.1 q92.2.2.1 q92.2.2.2 q87.1 q87.2 cB cW aB aW hA bL lB lW aL fA an := by
    rw [lp_X7_isCaught_41, if_neg (nI_pos (by omega)), if_pos rfl, nm_eq, if_neg n10, if_neg i1, cl, f_many, Option.bind_some, e0, if_pos (show nI (pc (bL d)) = 1 by rw [h1]; decide), nm_eq, if_neg (show ¬ nI (n - d) < 1 from nI_nlt (b := 1) (by omega) (by omega)), if_neg (nI_inc hd (by omega)), hlow, Option.bind_some]
    congr 1
  unfold LC
  dsimp only
  rw [start]
  cases e : lgb gd (3 - cc) (cB d) (cW d) ah k0
  · rw [e, if_neg (show ¬ false = true by decide)] at m1
    rw [m1, Option.bind_some, if_pos rfl, if_neg (show ¬ false = true by decide)]
  · rw [e, if_pos rfl] at m1
    rw [m1, Option.bind_some, if_neg n10, if_pos rfl]
    by_cases hT2 : T < 600
    · rw [counts_t hT2, Option.bind_some, if_pos hT2]
    · rw [counts_f hT2 hT, Option.bind_some, if_neg hT2]
/-- fresh, two breaths left, and stones for them: as if back without having caught -/
theorem lc_two {d : Nat} (hd : d < 21) (hdn : d + 2 ≤ n) (hn : n ≤ 20) (nF : Nat) (ca : Int32) (x y : Int64) (tk T : Int32) (A : Ar) (h1 : pc (A.2.2.2.2.2.1 d) = 2) (h2 : A.2.2.2.2.2.2.2.2.2.2 d = 0) : LC mw mh nb cc (nI t) (nI n) (nF + 1) (nI d) 1 ca x y tk T 0 A = LC mw mh nb cc (nI t) (nI n) (nF + 1) (nI d) 0 0 x y tk T 0 A := by
  obtain ⟨cB, cW, aB, aW, hA, bL, lB, lW, aL, fA, an⟩ := A
  dsimp only at h1 h2
  have i1 := nI_in hd (by decide)
  have cl : (nI d).toNatClampNeg = d := nI_clamp (by omega)
  have e0 : nI n - nI d = nI (n - d) := pk_sub (by omega)
  unfold LC
  dsimp only
  conv => lhs; rw [lp_X7_isCaught_41, if_neg (nI_pos (by omega)), if_pos rfl, nm_eq, if_neg n10, if_neg i1, cl, f_many, Option.bind_some, e0, if_neg (show ¬ nI (pc (bL d)) = 1 by rw [h1]; decide), if_pos (show nI (pc (bL d)) = 2 by rw [h1]; decide), if_pos (show (2 : Int32) ≤ nI (n - d) from nI_le (a := 2) (by omega) (by omega))]
  conv => rhs; rw [lp_X7_isCaught_41, if_neg (nI_pos (by omega)), if_pos rfl, nm_eq, if_pos rfl, if_neg i1, cl, if_pos h2]
/-- back at a board whose breaths are tried: the state behind a stone that didn't catch -/
theorem lc_b {d : Nat} (hd : d < 21) (nF : Nat) (x y : Int64) (tk T : Int32) (cB cW aB aW : Nat → Int64) (hA : Nat → Int32) (bL lB lW aL : Nat → Int64) (fA an : Nat → Int32) : ∃ an' : Nat → Int32, an' d = 0 ∧ (∀ i, ¬ i = d → an' i = an i) ∧ lp_X7_isCaught_41 mw mh nb cc (nI t) (nI n) (nF + 1) (nI d) 0 0 x y tk T 0 cB cW aB aW hA bL lB lW aL fA an = (f_X7_least (bL d) 0).bind fun q35 => if q35 = -1 then lp_X7_isCaught_41 mw mh nb cc (nI t) (nI n) nF (nI d + (-1)) 0 0 x y tk T 0 cB cW aB aW hA bL lB lW aL fA an' else (f_X7_mayChase mw mh x y tk nb cB cW aB aW hA (nI d) cc q35).bind fun q40 => if q40.1 = 0 then lp_X7_isCaught_41 mw mh nb cc (nI t) (nI n) nF (nI d) 0 0 q40.2.1 q40.2.2.1 q40.2.2.2 T 0 cB cW aB aW hA (vp_updL bL d (bL d &&& (jshl 1 q35 ^^^ (-1)))) lB lW aL fA an' else (f_X7_counts T 0).bind fun q42 => (f_X7_chaseBreaths mw mh nb q40.2.1 q40.2.2.1 cc (nI t)).bind fun q47 => (f_X7_many q47).bind fun q48 => if q48 = 1 then (f_X7_findAnswers mw mh nb (vp_updL lB d q40.2.1) (vp_updL lW d q40.2.2.1) aL fA an' (nI d) cc (nI t)).bind fun q50 => lp_X7_isCaught_41 mw mh nb cc (nI t) (nI n) nF (nI d) 0 1 q40.2.1 q40.2.2.1 q40.2.2.2 q42.1 q42.2 cB cW aB aW hA (vp_updL bL d (bL d &&& (jshl 1 q35 ^^^ (-1)))) (vp_updL lB d q40.2.1) (vp_updL lW d q40.2.2.1) q50.1 q50.2.1 q50.2.2 else lp_X7_isCaught_41 mw mh nb cc (nI t) (nI n) nF (nI d) 0 0 q40.2.1 q40.2.2.1 q40.2.2.2 q42.1 q42.2 cB cW aB aW hA (vp_updL bL d (bL d &&& (jshl 1 q35 ^^^ (-1)))) (vp_updL lB d q40.2.1) (vp_updL lW d q40.2.2.1) aL fA an' := by
  have i1 := nI_in hd (by decide)
  have i2 := nI_inc hd (show d < 2 ^ 31 by omega)
  have cl : (nI d).toNatClampNeg = d := nI_clamp (by omega)
  have nb0 : vp_nar .boolean (0 : Int32) = 0 := by decide
  by_cases z : an d = 0
  · refine ⟨an, z, fun _ _ => rfl, ?_⟩
    rw [lp_X7_isCaught_41, if_neg (nI_pos (by omega)), if_pos rfl, nm_eq, if_pos rfl, if_neg i1, cl, if_pos z]
    dsimp only
    rw [if_neg i2, if_pos z, if_neg i2]
    congr 1
    funext q35
    by_cases z1 : q35 = -1
    · rw [if_pos z1, if_pos z1, nm_eq]
    · rw [if_neg z1, if_neg z1, if_neg i2, nm_eq, if_neg i2]
      congr 1
      funext q40
      by_cases z2 : q40.1 = 0
      · rw [if_pos z2, if_pos z2]
      · rw [if_neg z2, if_neg z2]
        congr 1
        funext q42
        simp only [nm_eq]
        rw [if_neg i2, if_neg i2]
  · have z0 : upd an d 0 d = 0 := pk_us
    refine ⟨upd an d 0, z0, fun i hi => pk_un hi, ?_⟩
    rw [lp_X7_isCaught_41, if_neg (nI_pos (by omega)), if_pos rfl, nm_eq, if_pos rfl, if_neg i1, cl, if_neg z, if_pos rfl, if_neg i2, nb0]
    dsimp only
    rw [if_neg i2, if_pos z0, if_neg i2]
    congr 1
    funext q35
    by_cases z1 : q35 = -1
    · rw [if_pos z1, if_pos z1, nm_eq]
    · rw [if_neg z1, if_neg z1, if_neg i2, nm_eq, if_neg i2]
      congr 1
      funext q40
      by_cases z2 : q40.1 = 0
      · rw [if_pos z2, if_pos z2]
      · rw [if_neg z2, if_neg z2]
        congr 1
        funext q42
        simp only [nm_eq]
        rw [if_neg i2, if_neg i2]
/-- the next answer -/
theorem lc_a {d : Nat} (hd : d < 21) (nF : Nat) (x y : Int64) (tk T : Int32) (cB cW aB aW : Nat → Int64) (hA : Nat → Int32) (bL lB lW aL : Nat → Int64) (fA an : Nat → Int32) (ha : an d = 1) : lp_X7_isCaught_41 mw mh nb cc (nI t) (nI n) (nF + 1) (nI d) 0 1 x y tk T 0 cB cW aB aW hA bL lB lW aL fA an = (f_X7_nextAnswer aL fA (nI d)).bind fun q52 => if q52.1 = -1 then lp_X7_isCaught_41 mw mh nb cc (nI t) (nI n) nF (nI d + (-1)) 0 1 x y tk T 0 cB cW aB aW hA bL lB lW q52.2.1 q52.2.2 an else (f_X7_mayAnswer mw mh x y tk nb cB cW lB lW (nI d) cc q52.1).bind fun q55 => if q55.1 = 0 then lp_X7_isCaught_41 mw mh nb cc (nI t) (nI n) nF (nI d) 0 1 q55.2.1 q55.2.2.1 q55.2.2.2 T 0 cB cW aB aW hA bL lB lW q52.2.1 q52.2.2 an else (f_X7_counts T 0).bind fun q57 => if nI (d + 1) < 0 ∨ 21 ≤ (nI (d + 1)).toNatClampNeg then none else (f_X7_comes mw mh nb cB cW bL an (nI (d + 1)) q55.2.1 q55.2.2.1 cc (nI t)).bind fun q65 => lp_X7_isCaught_41 mw mh nb cc (nI t) (nI n) nF (nI (d + 1)) 1 1 q55.2.1 q55.2.2.1 q55.2.2.2 q57.1 q57.2 q65.1 q65.2.1 (vp_updL aB (nI (d + 1)).toNatClampNeg (lB d)) (vp_updL aW (nI (d + 1)).toNatClampNeg (lW d)) (upd hA (nI (d + 1)).toNatClampNeg 1) q65.2.2.1 lB lW q52.2.1 q52.2.2 q65.2.2.2 := by
  have i1 := nI_in hd (by decide)
  have i2 := nI_inc hd (show d < 2 ^ 31 by omega)
  have cl : (nI d).toNatClampNeg = d := nI_clamp (by omega)
  have nb1 : vp_nar .boolean (1 : Int32) = 1 := by decide
  have z0 : ¬ an d = 0 := by rw [ha]; decide
  rw [lp_X7_isCaught_41, if_neg (nI_pos (by omega)), if_pos rfl, nm_eq, if_pos rfl, if_neg i1, cl, if_neg z0, if_neg n10]
  dsimp only
  rw [if_neg i2, if_neg z0]
  congr 1
  funext q52
  simp only [nm_eq]
  by_cases z1 : q52.1 = -1
  · rw [if_pos z1, if_pos z1]
  · rw [if_neg z1, if_neg z1]
    congr 1
    funext q55
    by_cases z2 : q55.1 = 0
    · rw [if_pos z2, if_pos z2]
    · rw [if_neg z2, if_neg z2]
      congr 1
      funext q57
      rw [if_neg i2, nI_1, nb1]
      by_cases z3 : nI (d + 1) < 0 ∨ 21 ≤ (nI (d + 1)).toNatClampNeg
      · rw [if_pos z3, if_pos z3]
      · rw [if_neg z3, if_neg z3, if_neg i2, if_neg z3]
end C9
