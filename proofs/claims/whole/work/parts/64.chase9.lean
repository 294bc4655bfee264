/-! the reference's chase tells what the abstract one tells -/
theorem rA_eq {A B : Ar} {i : Nat} (h : rA A i = rA B i) : A.1 i = B.1 i ∧ A.2.1 i = B.2.1 i ∧ A.2.2.1 i = B.2.2.1 i ∧ A.2.2.2.1 i = B.2.2.2.1 i ∧ A.2.2.2.2.1 i = B.2.2.2.2.1 i ∧ A.2.2.2.2.2.1 i = B.2.2.2.2.2.1 i ∧ A.2.2.2.2.2.2.1 i = B.2.2.2.2.2.2.1 i ∧ A.2.2.2.2.2.2.2.1 i = B.2.2.2.2.2.2.2.1 i ∧ A.2.2.2.2.2.2.2.2.1 i = B.2.2.2.2.2.2.2.2.1 i ∧ A.2.2.2.2.2.2.2.2.2.1 i = B.2.2.2.2.2.2.2.2.2.1 i ∧ A.2.2.2.2.2.2.2.2.2.2 i = B.2.2.2.2.2.2.2.2.2.2 i := by
  unfold rA at h
  simp only [Prod.mk.injEq] at h
  exact h
def Ct : Nat → Nat
  | 0 => 1
  | m + 1 => 2 * (2 + 51 * (1 + Ct m)) + 1
section CO
variable (mw mh : Int32) (nb : Nat → Int64) (cc : Int32) (t n : Nat)
def Sp5 (S : Nat → Option Fn) (c : Nat) (r : Int32 × Nat) : Prop := r.1 = -5 ∧ ∃ fin : Fn, (∀ F, S (F + c) = some fin) ∧ fin.2.2.2.2.1 = nI r.2 ∧ fin.2.2.2.2.2.1 = 1
def Out (d : Nat) (A : Ar) (S : Nat → Option Fn) (cb : Nat) (r : Int32 × Nat) : Prop := ∃ c, (1 ≤ c ∧ c ≤ cb) ∧ (Sp5 S c r ∨ ((r.1 = 0 ∨ r.1 = 1) ∧ ∃ x y tk A', Ag d A A' ∧ ∀ F, S (F + c) = LC mw mh nb cc (nI t) (nI n) F (nI d + (-1)) 0 r.1 x y tk (nI r.2) 0 A'))
def Oua (d : Nat) (A : Ar) (S : Nat → Option Fn) (cb : Nat) (r : Int32 × Nat) : Prop := ∃ c, c ≤ cb ∧ (Sp5 S c r ∨ (r.1 = 1 ∧ ∃ x y tk A', Ag d A A' ∧ ∀ F, S (F + c) = LC mw mh nb cc (nI t) (nI n) F (nI d + (-1)) 0 1 x y tk (nI r.2) 0 A') ∨ (r.1 = 0 ∧ ∃ x y tk A', Ag d A A' ∧ (A'.1 d = A.1 d ∧ A'.2.1 d = A.2.1 d ∧ A'.2.2.1 d = A.2.2.1 d ∧ A'.2.2.2.1 d = A.2.2.2.1 d ∧ A'.2.2.2.2.1 d = A.2.2.2.2.1 d ∧ A'.2.2.2.2.2.1 d = A.2.2.2.2.2.1 d) ∧ ∀ F, S (F + c) = LC mw mh nb cc (nI t) (nI n) F (nI d) 0 0 x y tk (nI r.2) 0 A'))
def Main (gd : Gd) (nn : Nat) (m : Nat) : Prop := ∀ (d : Nat) (A : Ar) (ca : Int32) (x y : Int64) (tk : Int32) (T : Nat) (ah : Option (Int64 × Int64)), d + m = n → Bd gd nn (A.1 d) (A.2.1 d) → AhOK ah (A.2.2.1 d) (A.2.2.2.1 d) (A.2.2.2.2.1 d) → A.2.2.2.2.2.1 d = Br gd t cc (A.1 d) (A.2.1 d) → A.2.2.2.2.2.2.2.2.2.2 d = 0 → T ≤ 600 → Out mw mh nb cc t n d A (fun F => LC mw mh nb cc (nI t) (nI n) F (nI d) 1 ca x y tk (nI T) 0 A) (Ct m) (CI gd nn t cc m (A.1 d) (A.2.1 d) ah T)
end CO
/-- the answers that are left -/
def Ks (nn : Nat) (ks : List Nat) (f : Int32) (a : Int64) : Prop := (f = -1 ∧ Sb a nn ∧ ks = bls a nn 0) ∨ ∃ k0, k0 < nn ∧ f = nI k0 ∧ Sb (a &&& (jshl 1 (nI k0) ^^^ (-1))) nn ∧ ks = k0 :: bls (a &&& (jshl 1 (nI k0) ^^^ (-1))) nn 0
section CP
variable {w h : Nat} {gd : Gd} {mw mh : Int32} {nb : Nat → Int64} {cc : Int32} {t n : Nat}
theorem f_nextAnswer (G : GdOK w h gd) {d : Nat} (hd : d < 21) {aL : Nat → Int64} {fA : Nat → Int32} {ks : List Nat} (hk : Ks (w * h) ks (fA d) (aL d)) : (ks = [] ∧ ∃ aL', f_X7_nextAnswer aL fA (nI d) = some (-1, aL', upd fA d (-1)) ∧ (∀ i, ¬ i = d → aL' i = aL i)) ∨ ∃ k ks', ks = k :: ks' ∧ k < w * h ∧ f_X7_nextAnswer aL fA (nI d) = some (nI k, vp_updL aL d (aL d &&& (jshl 1 (nI k) ^^^ (-1))), upd fA d (-1)) ∧ Ks (w * h) ks' (-1) (aL d &&& (jshl 1 (nI k) ^^^ (-1))) := by
  have hn := n_lt G
  have i1 := nI_in hd (by decide)
  have i2 := nI_inc hd (show d < 2 ^ 31 by omega)
  have cl : (nI d).toNatClampNeg = d := nI_clamp (by omega)
  unfold f_X7_nextAnswer
  rw [if_neg i1, nm_eq, cl]
  rcases hk with ⟨hf, hs, rfl⟩ | ⟨k0, hk0, hf, hs, rfl⟩
  · rw [if_pos hf, if_neg i2]
    rcases f_low G hs with ⟨k, a1, a2, a3, -, a5⟩ | ⟨a1, -, a3⟩
    · refine Or.inr ⟨k, _, bls_step hn a1 a2 a3, a1, ?_, Or.inl ⟨rfl, Sb.and hs, rfl⟩⟩
      rw [a5, Option.bind_some]
      dsimp only
      rw [if_neg i2, if_neg i2, if_neg (nI_m1 (by omega)), nm_eq, if_neg i2]
    · refine Or.inl ⟨by rw [a1]; exact bls_none _ _ (fun j _ _ => mm_0 j), vp_updL aL d (aL d &&& -1), ?_, fun i hi => pk_uLn hi⟩
      rw [a3, Option.bind_some]
      dsimp only
      rw [if_neg i2, if_neg i2, if_pos rfl, nm_eq, if_neg i2]
  · refine Or.inr ⟨k0, _, rfl, hk0, ?_, Or.inl ⟨rfl, hs, rfl⟩⟩
    rw [if_neg (show ¬ fA d = -1 by rw [hf]; exact nI_m1 (by omega)), if_neg i2]
    dsimp only
    rw [if_neg i2, if_neg i2, hf, if_neg (nI_m1 (by omega)), nm_eq, if_neg i2]
theorem sim_ans (G : GdOK w h gd) (N : NbOK w h mw mh nb) (hc : cc = 1 ∨ cc = 2) (hn20 : n ≤ 20) {m : Nat} (IH : Main mw mh nb cc t n gd (w * h) m) : ∀ (ks : List Nat) (d : Nat) (A : Ar) (x y : Int64) (tk : Int32) (T : Nat), d + (m + 1) = n → Bd gd (w * h) (A.2.2.2.2.2.2.1 d) (A.2.2.2.2.2.2.2.1 d) → A.2.2.2.2.2.2.2.2.2.2 d = 1 → Ks (w * h) ks (A.2.2.2.2.2.2.2.2.2.1 d) (A.2.2.2.2.2.2.2.2.1 d) → T ≤ 600 → Oua mw mh nb cc t n d A (fun F => LC mw mh nb cc (nI t) (nI n) F (nI d) 0 1 x y tk (nI T) 0 A) (ks.length * (1 + Ct m) + 1) (gq 1 (lgb gd cc (A.2.2.2.2.2.2.1 d) (A.2.2.2.2.2.2.2.1 d) (some (A.1 d, A.2.1 d))) (fun j T => CI gd (w * h) t cc m (Nb gd cc (A.2.2.2.2.2.2.1 d) (A.2.2.2.2.2.2.2.1 d) j) (Nw gd cc (A.2.2.2.2.2.2.1 d) (A.2.2.2.2.2.2.2.1 d) j) (some (A.2.2.2.2.2.2.1 d, A.2.2.2.2.2.2.2.1 d)) T) ks T) := by
  intro ks
  induction ks with
  | nil =>
    intro d A x y tk T hdm B ha hk hT
    obtain ⟨cB, cW, aB, aW, hA, bL, lB, lW, aL, fA, an⟩ := A
    dsimp only at B ha hk ⊢
    have hd : d < 21 := by omega
    rcases f_nextAnswer G hd hk with ⟨-, aL', e1, e2⟩ | ⟨k, ks', e, -⟩
    · rw [gq_nil]
      refine ⟨1, by omega, Or.inr (Or.inl ⟨rfl, x, y, tk, (cB, cW, aB, aW, hA, bL, lB, lW, aL', upd fA d (-1), an), ?_, fun F => ?_⟩)⟩
      · intro i hi
        unfold rA
        dsimp only
        rw [e2 i (by omega), pk_un (by omega)]
      · show lp_X7_isCaught_41 mw mh nb cc (nI t) (nI n) (F + 1) (nI d) 0 1 x y tk (nI T) 0 cB cW aB aW hA bL lB lW aL fA an = lp_X7_isCaught_41 mw mh nb cc (nI t) (nI n) F (nI d + (-1)) 0 1 x y tk (nI T) 0 cB cW aB aW hA bL lB lW aL' (upd fA d (-1)) an
        rw [lc_a hd F x y tk (nI T) cB cW aB aW hA bL lB lW aL fA an ha, e1, Option.bind_some, if_pos rfl]
    · cases e
  | cons k ks ihk =>
    intro d A x y tk T hdm B ha hk hT
    obtain ⟨cB, cW, aB, aW, hA, bL, lB, lW, aL, fA, an⟩ := A
    dsimp only at B ha hk ⊢
    have hd : d < 21 := by omega
    have hn := n_lt G
    rcases f_nextAnswer G hd hk with ⟨e, -⟩ | ⟨k', ks', e, hk', e1, e2⟩
    · cases e
    injection e with e3 e4
    subst e3 e4
    generalize hb1 : lB d = b1 at *
    generalize hw1 : lW d = w1 at *
    obtain ⟨x', y', tk', m1, m2⟩ := f_mayAnswer G N hc hd hk' (cB := cB) (cW := cW) (lB := lB) (lW := lW) (by rw [hb1, hw1]; exact B) x y tk
    rw [hb1, hw1] at m1 m2
    have step : ∀ F, LC mw mh nb cc (nI t) (nI n) (F + 1) (nI d) 0 1 x y tk (nI T) 0 (cB, cW, aB, aW, hA, bL, lB, lW, aL, fA, an) = (some (if lgb gd cc b1 w1 (some (cB d, cW d)) k = true then (1 : Int32) else 0, x', y', tk')).bind fun q55 => if q55.1 = 0 then lp_X7_isCaught_41 mw mh nb cc (nI t) (nI n) F (nI d) 0 1 q55.2.1 q55.2.2.1 q55.2.2.2 (nI T) 0 cB cW aB aW hA bL lB lW (vp_updL aL d (aL d &&& (jshl 1 (nI k) ^^^ (-1)))) (upd fA d (-1)) an else (f_X7_counts (nI T) 0).bind fun q57 => if nI (d + 1) < 0 ∨ 21 ≤ (nI (d + 1)).toNatClampNeg then none else (f_X7_comes mw mh nb cB cW bL an (nI (d + 1)) q55.2.1 q55.2.2.1 cc (nI t)).bind fun q65 => lp_X7_isCaught_41 mw mh nb cc (nI t) (nI n) F (nI (d + 1)) 1 1 q55.2.1 q55.2.2.1 q55.2.2.2 q57.1 q57.2 q65.1 q65.2.1 (vp_updL aB (nI (d + 1)).toNatClampNeg (lB d)) (vp_updL aW (nI (d + 1)).toNatClampNeg (lW d)) (upd hA (nI (d + 1)).toNatClampNeg 1) q65.2.2.1 lB lW (vp_updL aL d (aL d &&& (jshl 1 (nI k) ^^^ (-1)))) (upd fA d (-1)) q65.2.2.2 := fun F => by
      show lp_X7_isCaught_41 mw mh nb cc (nI t) (nI n) (F + 1) (nI d) 0 1 x y tk (nI T) 0 cB cW aB aW hA bL lB lW aL fA an = _
      rw [lc_a hd F x y tk (nI T) cB cW aB aW hA bL lB lW aL fA an ha, e1, Option.bind_some, if_neg (nI_m1 (by omega)), m1]
    have hA1 : Ag d (cB, cW, aB, aW, hA, bL, lB, lW, aL, fA, an) (cB, cW, aB, aW, hA, bL, lB, lW, vp_updL aL d (aL d &&& (jshl 1 (nI k) ^^^ (-1))), upd fA d (-1), an) := fun i hi => by
      unfold rA
      dsimp only
      rw [pk_uLn (by omega), pk_un (by omega)]
    rw [List.length_cons]
    cases el : lgb gd cc b1 w1 (some (cB d, cW d)) k
    · -- not an act
      have r := ihk d (cB, cW, aB, aW, hA, bL, lB, lW, vp_updL aL d (aL d &&& (jshl 1 (nI k) ^^^ (-1))), upd fA d (-1), an) x' y' tk' T hdm (by dsimp only; rw [hb1, hw1]; exact B) ha (by dsimp only; rw [pk_uLs, pk_us]; exact e2) hT
      dsimp only at r
      rw [hb1, hw1] at r
      rw [gq_skip el]
      have st : ∀ F, LC mw mh nb cc (nI t) (nI n) (F + 1) (nI d) 0 1 x y tk (nI T) 0 (cB, cW, aB, aW, hA, bL, lB, lW, aL, fA, an) = LC mw mh nb cc (nI t) (nI n) F (nI d) 0 1 x' y' tk' (nI T) 0 (cB, cW, aB, aW, hA, bL, lB, lW, vp_updL aL d (aL d &&& (jshl 1 (nI k) ^^^ (-1))), upd fA d (-1), an) := fun F => by
        rw [step F, el, if_neg (show ¬ false = true by decide), Option.bind_some, if_pos rfl]; rfl
      obtain ⟨c, c1, c2⟩ := r
      refine ⟨c + 1, by rw [Nat.add_mul]; omega, ?_⟩
      rcases c2 with ⟨s1, fin, s2, s3⟩ | ⟨s1, x2, y2, t2, A2, s2, s3⟩ | ⟨s1, x2, y2, t2, A2, s2, s3, s4⟩
      · exact Or.inl ⟨s1, fin, fun F => (st (F + c)).trans (s2 F), s3⟩
      · exact Or.inr (Or.inl ⟨s1, x2, y2, t2, A2, hA1.tr s2, fun F => (st (F + c)).trans (s3 F)⟩)
      · exact Or.inr (Or.inr ⟨s1, x2, y2, t2, A2, hA1.tr s2, s3, fun F => (st (F + c)).trans (s4 F)⟩)
    · obtain ⟨m3, m4⟩ := m2 el
      have hlc := cdec_of el
      have B2 := Bd_new G hc B hk' hlc.1 hlc.2.1
      by_cases hT2 : T < 600
      · have st : ∀ F, LC mw mh nb cc (nI t) (nI n) (F + 1) (nI d) 0 1 x y tk (nI T) 0 (cB, cW, aB, aW, hA, bL, lB, lW, aL, fA, an) = LC mw mh nb cc (nI t) (nI n) F (nI (d + 1)) 1 1 (Nb gd cc b1 w1 k) (Nw gd cc b1 w1 k) tk' (nI (T + 1)) 0 (vp_updL cB (d + 1) (Nb gd cc b1 w1 k), vp_updL cW (d + 1) (Nw gd cc b1 w1 k), vp_updL aB (d + 1) b1, vp_updL aW (d + 1) w1, upd hA (d + 1) 1, vp_updL bL (d + 1) (Br gd t cc (Nb gd cc b1 w1 k) (Nw gd cc b1 w1 k)), lB, lW, vp_updL aL d (aL d &&& (jshl 1 (nI k) ^^^ (-1))), upd fA d (-1), upd an (d + 1) 0) := fun F => by
          rw [step F, el, if_pos rfl, Option.bind_some, if_neg n10, counts_t hT2, Option.bind_some, if_neg (nI_in (by omega) (by decide)), nI_clamp (by omega), hb1, hw1, m3, m4, f_comes G N (by omega) B2, Option.bind_some]; rfl
        have r := IH (d + 1) (vp_updL cB (d + 1) (Nb gd cc b1 w1 k), vp_updL cW (d + 1) (Nw gd cc b1 w1 k), vp_updL aB (d + 1) b1, vp_updL aW (d + 1) w1, upd hA (d + 1) 1, vp_updL bL (d + 1) (Br gd t cc (Nb gd cc b1 w1 k) (Nw gd cc b1 w1 k)), lB, lW, vp_updL aL d (aL d &&& (jshl 1 (nI k) ^^^ (-1))), upd fA d (-1), upd an (d + 1) 0) 1 (Nb gd cc b1 w1 k) (Nw gd cc b1 w1 k) tk' (T + 1) (some (b1, w1)) (by omega) (by dsimp only; rw [pk_uLs, pk_uLs]; exact B2) (by dsimp only; rw [pk_uLs, pk_uLs, pk_us]; exact Or.inr ⟨rfl, rfl⟩) (by dsimp only; rw [pk_uLs, pk_uLs, pk_uLs]) (by dsimp only; rw [pk_us]) (by omega)
        dsimp only at r
        rw [pk_uLs, pk_uLs] at r
        have hle := CI_le gd (w * h) t cc m (Nb gd cc b1 w1 k) (Nw gd cc b1 w1 k) (some (b1, w1)) (T + 1) (by omega)
        generalize hR : CI gd (w * h) t cc m (Nb gd cc b1 w1 k) (Nw gd cc b1 w1 k) (some (b1, w1)) (T + 1) = R at *
        obtain ⟨c, c1, c2⟩ := r
        rcases c2 with ⟨s1, fin, s2, s3⟩ | ⟨s1, x2, y2, t2, A2, s2, s3⟩
        · rw [gq_out el hT2 (by rw [hR, s1]; decide), hR]
          exact ⟨c + 1, by rw [Nat.add_mul]; omega, Or.inl ⟨s1, fin, fun F => (st (F + c)).trans (s2 F), s3⟩⟩
        · have row := rA_eq (s2 d (by omega))
          dsimp only at row
          rw [pk_uLn (show d ≠ d + 1 by omega), pk_uLn (show d ≠ d + 1 by omega), pk_uLn (show d ≠ d + 1 by omega), pk_uLn (show d ≠ d + 1 by omega), pk_un (show d ≠ d + 1 by omega), pk_uLn (show d ≠ d + 1 by omega), pk_uLs, pk_us, pk_un (show d ≠ d + 1 by omega)] at row
          obtain ⟨w1', w2', w3', w4', w5', w6', w7', w8', w9', w10', w11'⟩ := row
          have hAg : Ag d (cB, cW, aB, aW, hA, bL, lB, lW, aL, fA, an) A2 := fun i hi => (s2 i (by omega)).trans (by
            unfold rA
            dsimp only
            rw [pk_uLn (by omega), pk_uLn (by omega), pk_uLn (by omega), pk_uLn (by omega), pk_un (by omega), pk_uLn (by omega), pk_uLn (by omega), pk_un (by omega), pk_un (by omega)])
          have bk : ∀ F, LC mw mh nb cc (nI t) (nI n) (F + c + 1) (nI d) 0 1 x y tk (nI T) 0 (cB, cW, aB, aW, hA, bL, lB, lW, aL, fA, an) = LC mw mh nb cc (nI t) (nI n) F (nI d) 0 R.1 x2 y2 t2 (nI R.2) 0 A2 := fun F => by
            refine (st (F + c)).trans ((s3 F).trans ?_)
            rw [pk_m1]
          rcases s1 with s1 | s1
          · rw [gq_out el hT2 (by rw [hR, s1]; decide), hR]
            refine ⟨c + 1, by rw [Nat.add_mul]; omega, Or.inr (Or.inr ⟨s1, x2, y2, t2, A2, hAg, ⟨w1', w2', w3', w4', w5', w6'⟩, fun F => ?_⟩)⟩
            have := bk F
            rw [s1] at this
            exact this
          · rw [gq_on el hT2 (by rw [hR, s1]), hR]
            have r2 := ihk d A2 x2 y2 t2 R.2 hdm (by rw [w7', w8', hb1, hw1]; exact B) (by rw [w11']; exact ha) (by rw [w9', w10']; exact e2) hle
            rw [w7', w8', hb1, hw1, w1', w2'] at r2
            obtain ⟨c', c1', c2'⟩ := r2
            have bk2 : ∀ F, LC mw mh nb cc (nI t) (nI n) (F + (c' + c + 1)) (nI d) 0 1 x y tk (nI T) 0 (cB, cW, aB, aW, hA, bL, lB, lW, aL, fA, an) = LC mw mh nb cc (nI t) (nI n) (F + c') (nI d) 0 1 x2 y2 t2 (nI R.2) 0 A2 := fun F => by
              have := bk (F + c')
              rw [s1] at this
              rw [show F + (c' + c + 1) = F + c' + c + 1 by omega]
              exact this
            refine ⟨c' + c + 1, by rw [Nat.add_mul]; omega, ?_⟩
            rcases c2' with ⟨u1, fin, u2, u3⟩ | ⟨u1, x3, y3, t3, A3, u2, u3⟩ | ⟨u1, x3, y3, t3, A3, u2, u3, u4⟩
            · exact Or.inl ⟨u1, fin, fun F => (bk2 F).trans (u2 F), u3⟩
            · exact Or.inr (Or.inl ⟨u1, x3, y3, t3, A3, hAg.tr u2, fun F => (bk2 F).trans (u3 F)⟩)
            · refine Or.inr (Or.inr ⟨u1, x3, y3, t3, A3, hAg.tr u2, ?_, fun F => (bk2 F).trans (u4 F)⟩)
              dsimp only
              exact ⟨u3.1.trans w1', u3.2.1.trans w2', u3.2.2.1.trans w3', u3.2.2.2.1.trans w4', u3.2.2.2.2.1.trans w5', u3.2.2.2.2.2.trans w6'⟩
      · rw [gq_full el hT2]
        have st : ∀ F, LC mw mh nb cc (nI t) (nI n) (F + 1) (nI d) 0 1 x y tk (nI T) 0 (cB, cW, aB, aW, hA, bL, lB, lW, aL, fA, an) = LC mw mh nb cc (nI t) (nI n) F (nI (d + 1)) 1 1 (Nb gd cc b1 w1 k) (Nw gd cc b1 w1 k) tk' (nI T) 1 (vp_updL cB (d + 1) (Nb gd cc b1 w1 k), vp_updL cW (d + 1) (Nw gd cc b1 w1 k), vp_updL aB (d + 1) b1, vp_updL aW (d + 1) w1, upd hA (d + 1) 1, vp_updL bL (d + 1) (Br gd t cc (Nb gd cc b1 w1 k) (Nw gd cc b1 w1 k)), lB, lW, vp_updL aL d (aL d &&& (jshl 1 (nI k) ^^^ (-1))), upd fA d (-1), upd an (d + 1) 0) := fun F => by
          rw [step F, el, if_pos rfl, Option.bind_some, if_neg n10, counts_f hT2 hT, Option.bind_some, if_neg (nI_in (by omega) (by decide)), nI_clamp (by omega), hb1, hw1, m3, m4, f_comes G N (by omega) B2, Option.bind_some]; rfl
        obtain ⟨fin, f1, f2, f3⟩ := lc_spent (mw := mw) (mh := mh) (nb := nb) (cc := cc) (t := t) (n := n) (Or.inr rfl) (nI (d + 1)) 1 (Nb gd cc b1 w1 k) (Nw gd cc b1 w1 k) tk' (nI T) (vp_updL cB (d + 1) (Nb gd cc b1 w1 k), vp_updL cW (d + 1) (Nw gd cc b1 w1 k), vp_updL aB (d + 1) b1, vp_updL aW (d + 1) w1, upd hA (d + 1) 1, vp_updL bL (d + 1) (Br gd t cc (Nb gd cc b1 w1 k) (Nw gd cc b1 w1 k)), lB, lW, vp_updL aL d (aL d &&& (jshl 1 (nI k) ^^^ (-1))), upd fA d (-1), upd an (d + 1) 0)
        refine ⟨2, ?_, Or.inl ⟨rfl, fin, fun F => (st (F + 1)).trans (f1 F), f2, f3⟩⟩
        rw [Nat.add_mul]
        omega
end CP
