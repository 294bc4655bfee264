/-! the reference's fight tells what the abstract one tells -/
def Cf : Nat → Nat
  | 0 => 1
  | m + 1 => 52 * (3 + Cf m) + 2
section FS
variable (mw mh : Int32) (nb : Nat → Int64) (lw L0 : Nat) (op at' : Int32) (t n : Nat)
def AgT (L0 d : Nat) (A A' : At) : Prop := (∀ i, i ≤ L0 + d → A'.1 i = A.1 i ∧ A'.2.1 i = A.2.1 i ∧ A'.2.2.1 i = A.2.2.1 i) ∧ ∀ i, i < d → A'.2.2.2 i = A.2.2.2 i
def OuT (d : Nat) (A : At) (S : Nat → Option Ft) (cb : Nat) (r : Int32 × Nat) (u : Int32) (k : Nat) : Prop := ∃ c, c ≤ cb ∧ ((r.1 = -5 ∧ ∃ fin : Ft, (∀ F, S (F + c) = some fin) ∧ fin.2.2.2.2.1 = nI r.2 ∧ fin.2.2.2.2.2.1 = 1 ∧ AgT L0 d A fin.2.2.2.2.2.2) ∨ ((r.1 = 0 ∨ r.1 = 1) ∧ ∃ x y tk A', AgT L0 d A A' ∧ (¬ r.1 = u → A'.2.2.2 d = nI (k + 1)) ∧ ∀ F, S (F + c) = LT mw mh (nI lw) (nI L0) nb at' (nI t) (nI n) F (nI d + (-1)) 1 r.1 x y tk (nI r.2) 0 A'))
def MaT (gd : Gd) (nn : Nat) (m : Nat) : Prop := ∀ (d : Nat) (B W : Nat → Int64) (A : At) (va : Int32) (x y : Int64) (tk : Int32) (T : Nat), d + m = n → Up (L0 + d) B W A.1 A.2.1 → Bd gd nn (B (L0 + d)) (W (L0 + d)) → (∀ i, i ≤ L0 + d → A.2.2.1 i = Mv op i) → A.2.2.2 d = nI 0 → (va = 0 ∨ va = 1) → T ≤ 600 → ∃ k u, OuT mw mh nb lw L0 at' t n d A (fun F => LT mw mh (nI lw) (nI L0) nb at' (nI t) (nI n) F (nI d) 0 va x y tk (nI T) 0 A) (Cf m) (TI gd nn lw op at' t m (L0 + d) B W T) u k ∧ ∀ m', m = m' + 1 → u = Un1 op at' (L0 + d) ∧ k = gk (Un1 op at' (L0 + d)) (lgf gd nn lw op (L0 + d) B W) (TF gd nn lw op at' t m' (L0 + d) B W) (up_to (nn + 1) 0) T
end FS
theorem AgT.rf (L0 d : Nat) (A : At) : AgT L0 d A A := ⟨fun _ _ => ⟨rfl, rfl, rfl⟩, fun _ _ => rfl⟩
theorem AgT.tr {L0 d : Nat} {A B C : At} (h1 : AgT L0 d A B) (h2 : AgT L0 d B C) : AgT L0 d A C := ⟨fun i hi => ⟨(h2.1 i hi).1.trans (h1.1 i hi).1, (h2.1 i hi).2.1.trans (h1.1 i hi).2.1, (h2.1 i hi).2.2.trans (h1.1 i hi).2.2⟩, fun i hi => (h2.2 i hi).trans (h1.2 i hi)⟩
theorem AgT.mono {L0 d e : Nat} {A B : At} (h : AgT L0 e A B) (hd : d ≤ e) : AgT L0 d A B := ⟨fun i hi => h.1 i (by omega), fun i hi => h.2 i (by omega)⟩
section FT
variable {w h : Nat} {gd : Gd} {mw mh : Int32} {nb : Nat → Int64} {lw L0 : Nat} {op at' : Int32} {t n : Nat}
theorem sim_fl (G : GdOK w h gd) (N : NbOK w h mw mh nb) (ho : op = 1 ∨ op = 2) (hat : at' = 1 ∨ at' = 2) (hlw : lw ≤ 2) (ht : t < w * h) (hn6 : n ≤ 6) (hL0 : L0 ≤ 120) {m : Nat} (IH : MaT mw mh nb lw L0 op at' t n gd (w * h) m) {d : Nat} (hdm : d + (m + 1) = n) (B W : Nat → Int64) (Bb : Bd gd (w * h) (B (L0 + d)) (W (L0 + d))) : ∀ (q i : Nat) (A : At) (bk va : Int32) (x y : Int64) (tk : Int32) (T : Nat), i + q = w * h + 1 → Up (L0 + d) B W A.1 A.2.1 → (∀ i, i ≤ L0 + d → A.2.2.1 i = Mv op i) → A.2.2.2 d = nI i → (bk = 0 ∨ (bk = 1 ∧ va = Un1 op at' (L0 + d))) → (va = 0 ∨ va = 1) → T ≤ 600 → OuT mw mh nb lw L0 at' t n d A (fun F => LT mw mh (nI lw) (nI L0) nb at' (nI t) (nI n) F (nI d) bk va x y tk (nI T) 0 A) (q * (3 + Cf m) + 1) (gq (Un1 op at' (L0 + d)) (lgf gd (w * h) lw op (L0 + d) B W) (TF gd (w * h) lw op at' t m (L0 + d) B W) (up_to q i) T) (Un1 op at' (L0 + d)) (gk (Un1 op at' (L0 + d)) (lgf gd (w * h) lw op (L0 + d) B W) (TF gd (w * h) lw op at' t m (L0 + d) B W) (up_to q i) T) := by
  have hwh := n_lt G
  have hu01 : Un1 op at' (L0 + d) = 0 ∨ Un1 op at' (L0 + d) = 1 := by
    unfold Un1
    split
    · exact Or.inr rfl
    · exact Or.inl rfl
  intro q
  induction q with
  | zero =>
    intro i A bk va x y tk T hiq U hm hnx hr hva hT
    show OuT mw mh nb lw L0 at' t n d A _ _ (gq _ _ _ [] T) _ _
    rw [gq_nil]
    refine ⟨1, by omega, Or.inr ⟨hu01, x, y, tk, A, AgT.rf _ _ _, fun z => absurd rfl z, fun F => ?_⟩⟩
    have e := lt_end (lw := lw) (t := t) (at' := at') (op := op) (L0 := L0) (d := d) (n := n) N (by omega) (by omega) hn6 hwh (by omega) bk va x y tk (nI T) A (hm _ (Nat.le_refl _)) hr (Or.inl (by rw [hnx]; congr 1)) F
    rw [if_neg (show ¬ d = n by omega)] at e
    exact e
  | succ q ih =>
    intro i A bk va x y tk T hiq U hm hnx hr hva hT
    obtain ⟨bA, wA, mv, nx⟩ := A
    dsimp only at U hm hnx ⊢
    rw [show up_to (q + 1) i = i :: up_to q (i + 1) from rfl]
    have e1 := (U (L0 + d) (Nat.le_refl _)).1
    have e2 := (U (L0 + d) (Nat.le_refl _)).2
    have hmL := hm (L0 + d) (Nat.le_refl _)
    have keep : ∀ j, j ≤ L0 + d → upd mv (L0 + d + 1) (3 - Mv op (L0 + d)) j = Mv op j := fun j hj => by rw [pk_un (by omega)]; exact hm j hj
    -- whether the act can be made, and what it leads to
    have act : (lgf gd (w * h) lw op (L0 + d) B W i = false ∧ ∃ x' y' tk', ∀ F, LT mw mh (nI lw) (nI L0) nb at' (nI t) (nI n) (F + 1) (nI d) bk va x y tk (nI T) 0 (bA, wA, mv, nx) = LT mw mh (nI lw) (nI L0) nb at' (nI t) (nI n) F (nI d) 0 va x' y' tk' (nI T) 0 (bA, wA, mv, upd nx d (nI (i + 1)))) ∨ (lgf gd (w * h) lw op (L0 + d) B W i = true ∧ ∃ x' y' tk', ∀ F, LT mw mh (nI lw) (nI L0) nb at' (nI t) (nI n) (F + 1) (nI d) bk va x y tk (nI T) 0 (bA, wA, mv, nx) = FB mw mh (nI lw) (nI L0) nb at' (nI t) (nI n) F d (L0 + d + 1) va x' y' tk' (nI T) (Xb gd (w * h) op (L0 + d) B W i) (Xw gd (w * h) op (L0 + d) B W i) bA wA (upd mv (L0 + d + 1) (3 - Mv op (L0 + d))) (upd nx d (nI (i + 1)))) := by
      by_cases hi : i = w * h
      · refine Or.inr ⟨if_pos hi, x, y, tk, fun F => ?_⟩
        rw [show Xb gd (w * h) op (L0 + d) B W i = B (L0 + d) from if_pos hi, show Xw gd (w * h) op (L0 + d) B W i = W (L0 + d) from if_pos hi, ← e1, ← e2]
        exact lt_pass N (by omega) hn6 hwh (by omega) bk va x y tk (nI T) bA wA mv nx hmL hr hnx hi F
      · obtain ⟨r, x', y', tk', r1, r2, r3⟩ := f_reason7 (L := L0 + d) (bl := bA) (wh := wA) G N (by omega) ho hm hlw (by rw [e1, e2]; exact Bb) (k := i) (by omega) x y tk
        have r4 : Why gd lw op (L0 + d) B W i r := Why_cong (fun j hj => (U j hj).1) (fun j hj => (U j hj).2) r2
        have hlg : lgf gd (w * h) lw op (L0 + d) B W i = cdec (Why gd lw op (L0 + d) B W i 0) := if_neg hi
        have st := fun F => lt_lay (lw := lw) (t := t) (at' := at') (op := op) (L0 := L0) (d := d) (n := n) (i := i) N (by omega) hn6 hwh (by omega) bk va x y tk (nI T) bA wA mv nx hmL hr hnx (by omega) F
        by_cases z : r = 0
        · subst z
          obtain ⟨r5, r6, -⟩ := r3 rfl
          rw [e1, e2] at r5 r6
          refine Or.inr ⟨by rw [hlg]; exact cdec_t r4, x', y', tk', fun F => ?_⟩
          rw [show Xb gd (w * h) op (L0 + d) B W i = Nb gd (Mv op (L0 + d)) (B (L0 + d)) (W (L0 + d)) i from if_neg hi, show Xw gd (w * h) op (L0 + d) B W i = Nw gd (Mv op (L0 + d)) (B (L0 + d)) (W (L0 + d)) i from if_neg hi, ← r5, ← r6]
          refine (st F).trans ?_
          rw [r1, Option.bind_some, if_pos rfl]
        · refine Or.inl ⟨by rw [hlg]; exact cdec_f (fun q => z (Why_eq r4 q)), x', y', tk', fun F => ?_⟩
          refine (st F).trans ?_
          rw [r1, Option.bind_some, if_neg z]; rfl
    rcases act with ⟨el, x', y', tk', st⟩ | ⟨el, x', y', tk', st0⟩
    · rw [gq_skip el, gk_skip el]
      obtain ⟨c, c1, c2⟩ := ih (i + 1) (bA, wA, mv, upd nx d (nI (i + 1))) 0 va x' y' tk' T (by omega) U hm pk_us (Or.inl rfl) hva hT
      have hA1 : AgT L0 d (bA, wA, mv, nx) (bA, wA, mv, upd nx d (nI (i + 1))) := ⟨fun _ _ => ⟨rfl, rfl, rfl⟩, fun j hj => pk_un (by omega)⟩
      refine ⟨c + 1, by rw [Nat.add_mul]; omega, ?_⟩
      rcases c2 with ⟨s1, fin, s2, s3, s4, s5⟩ | ⟨s1, x2, y2, t2, A2, s2, s3, s4⟩
      · exact Or.inl ⟨s1, fin, fun F => (st (F + c)).trans (s2 F), s3, s4, hA1.tr s5⟩
      · exact Or.inr ⟨s1, x2, y2, t2, A2, hA1.tr s2, s3, fun F => (st (F + c)).trans (s4 F)⟩
    · have BX := X_bd G ho Bb (show i ≤ w * h by omega) el
      have hTF : TF gd (w * h) lw op at' t m (L0 + d) B W i (T + 1) = if Co (Xb gd (w * h) op (L0 + d) B W i) (Xw gd (w * h) op (L0 + d) B W i) t = at' then TI gd (w * h) lw op at' t m (L0 + d + 1) (vp_updL B (L0 + d + 1) (Xb gd (w * h) op (L0 + d) B W i)) (vp_updL W (L0 + d + 1) (Xw gd (w * h) op (L0 + d) B W i)) (T + 1) else (1, T + 1) := rfl
      generalize hxb : Xb gd (w * h) op (L0 + d) B W i = xb at *
      generalize hxw : Xw gd (w * h) op (L0 + d) B W i = xw at *
      have U1 : Up (L0 + d + 1) (vp_updL B (L0 + d + 1) xb) (vp_updL W (L0 + d + 1) xw) (vp_updL bA (L0 + d + 1) xb) (vp_updL wA (L0 + d + 1) xw) := fun j hj => by
        by_cases e : j = L0 + d + 1
        · subst e; rw [pk_uLs, pk_uLs, pk_uLs, pk_uLs]; exact ⟨rfl, rfl⟩
        · rw [pk_uLn e, pk_uLn e, pk_uLn e, pk_uLn e]; exact U j (by omega)
      have hgone : f_X7_isGone (vp_updL bA (L0 + d + 1) xb) (vp_updL wA (L0 + d + 1) xw) (nI (L0 + d + 1)) at' (nI t) = some (if Co xb xw t = at' then 0 else 1) := by
        have := f_isGone (bA := vp_updL bA (L0 + d + 1) xb) (wA := vp_updL wA (L0 + d + 1) xw) (i := L0 + d + 1) (k := t) (at' := at') (gd := gd) (w := w) (h := h) (by omega) (by omega) hat (by rw [pk_uLs, pk_uLs]; exact BX)
        rw [pk_uLs, pk_uLs] at this
        exact this
      have hA2 : AgT L0 d (bA, wA, mv, nx) (vp_updL bA (L0 + d + 1) xb, vp_updL wA (L0 + d + 1) xw, upd mv (L0 + d + 1) (3 - Mv op (L0 + d)), upd nx d (nI (i + 1))) := ⟨fun j hj => ⟨pk_uLn (by omega), pk_uLn (by omega), pk_un (by omega)⟩, fun j hj => pk_un (by omega)⟩
      have hA3 : AgT L0 d (bA, wA, mv, nx) (vp_updL bA (L0 + d + 1) xb, vp_updL wA (L0 + d + 1) xw, upd mv (L0 + d + 1) (3 - Mv op (L0 + d)), upd (upd nx d (nI (i + 1))) (d + 1) 0) := ⟨fun j hj => ⟨pk_uLn (by omega), pk_uLn (by omega), pk_un (by omega)⟩, fun j hj => by dsimp only; rw [pk_un (by omega), pk_un (by omega)]⟩
      by_cases hT2 : T < 600
      · by_cases z : Co xb xw t = at'
        · -- the fight goes on behind it
          rw [if_pos z] at hTF hgone
          have st : ∀ F, LT mw mh (nI lw) (nI L0) nb at' (nI t) (nI n) (F + 1) (nI d) bk va x y tk (nI T) 0 (bA, wA, mv, nx) = LT mw mh (nI lw) (nI L0) nb at' (nI t) (nI n) F (nI (d + 1)) 0 va x' y' tk' (nI (T + 1)) 0 (vp_updL bA (L0 + d + 1) xb, vp_updL wA (L0 + d + 1) xw, upd mv (L0 + d + 1) (3 - Mv op (L0 + d)), upd (upd nx d (nI (i + 1))) (d + 1) 0) := fun F => by
            rw [st0 F]
            unfold FB
            rw [counts_t hT2, Option.bind_some, hgone, Option.bind_some, if_pos rfl]; rfl
          obtain ⟨k', u', r, -⟩ := IH (d + 1) (vp_updL B (L0 + d + 1) xb) (vp_updL W (L0 + d + 1) xw) (vp_updL bA (L0 + d + 1) xb, vp_updL wA (L0 + d + 1) xw, upd mv (L0 + d + 1) (3 - Mv op (L0 + d)), upd (upd nx d (nI (i + 1))) (d + 1) 0) va x' y' tk' (T + 1) (by omega) U1 (by show Bd gd (w * h) (vp_updL B (L0 + d + 1) xb (L0 + d + 1)) (vp_updL W (L0 + d + 1) xw (L0 + d + 1)); rw [pk_uLs, pk_uLs]; exact BX) (fun j hj => by
            dsimp only
            by_cases e : j = L0 + d + 1
            · subst e; rw [pk_us, Mv_succ ho]
            · exact keep j (by omega)) (by dsimp only; rw [pk_us]; rfl) hva (by omega)
          have r : OuT mw mh nb lw L0 at' t n (d + 1) _ _ _ (TI gd (w * h) lw op at' t m (L0 + d + 1) (vp_updL B (L0 + d + 1) xb) (vp_updL W (L0 + d + 1) xw) (T + 1)) _ _ := r
          rw [← hTF] at r
          have hle := TF_le gd (w * h) lw op at' t m (L0 + d) B W i (T + 1) (by omega)
          generalize hR : TF gd (w * h) lw op at' t m (L0 + d) B W i (T + 1) = R at *
          obtain ⟨c, c1, c2⟩ := r
          rcases c2 with ⟨s1, fin, s2, s3, s4, s5⟩ | ⟨s1, x2, y2, t2, A2, s2, -, s4⟩
          · have hne : ¬ R.1 = Un1 op at' (L0 + d) := by rw [s1]; rcases hu01 with e | e <;> rw [e] <;> decide
            rw [gq_out el hT2 (by rw [hR]; exact hne), gk_out el hT2 (by rw [hR]; exact hne), hR]
            exact ⟨c + 1, by rw [Nat.add_mul]; omega, Or.inl ⟨s1, fin, fun F => (st (F + c)).trans (s2 F), s3, s4, hA3.tr (s5.mono (by omega))⟩⟩
          · have hAg : AgT L0 d (bA, wA, mv, nx) A2 := hA3.tr (s2.mono (by omega))
            have hnx2 : A2.2.2.2 d = nI (i + 1) := by
              rw [s2.2 d (by omega)]
              dsimp only
              rw [pk_un (by omega), pk_us]
            have bk1 : ∀ F, LT mw mh (nI lw) (nI L0) nb at' (nI t) (nI n) (F + (c + 1)) (nI d) bk va x y tk (nI T) 0 (bA, wA, mv, nx) = LT mw mh (nI lw) (nI L0) nb at' (nI t) (nI n) F (nI d) 1 R.1 x2 y2 t2 (nI R.2) 0 A2 := fun F => by
              refine (st (F + c)).trans ((s4 F).trans ?_)
              rw [pk_m1]
            have hm2 : ∀ j, j ≤ L0 + d → A2.2.2.1 j = Mv op j := fun j hj => by rw [(hAg.1 j hj).2.2]; exact hm j hj
            have U2 : Up (L0 + d) B W A2.1 A2.2.1 := fun j hj => ⟨(hAg.1 j hj).1.trans (U j hj).1, (hAg.1 j hj).2.1.trans (U j hj).2⟩
            by_cases hne : R.1 = Un1 op at' (L0 + d)
            · rw [gq_on el hT2 (by rw [hR]; exact hne), gk_on el hT2 (by rw [hR]; exact hne), hR]
              obtain ⟨c', c1', c2'⟩ := ih (i + 1) A2 1 R.1 x2 y2 t2 R.2 (by omega) U2 hm2 hnx2 (Or.inr ⟨rfl, hne⟩) s1 hle
              have bk2 : ∀ F, LT mw mh (nI lw) (nI L0) nb at' (nI t) (nI n) (F + (c' + (c + 1))) (nI d) bk va x y tk (nI T) 0 (bA, wA, mv, nx) = LT mw mh (nI lw) (nI L0) nb at' (nI t) (nI n) (F + c') (nI d) 1 R.1 x2 y2 t2 (nI R.2) 0 A2 := fun F => by
                rw [← Nat.add_assoc]
                exact bk1 (F + c')
              refine ⟨c' + (c + 1), by rw [Nat.add_mul]; omega, ?_⟩
              rcases c2' with ⟨u1, fin, u2, u3, u4, u5⟩ | ⟨u1, x3, y3, t3, A3, u2, u3, u4⟩
              · exact Or.inl ⟨u1, fin, fun F => (bk2 F).trans (u2 F), u3, u4, hAg.tr u5⟩
              · exact Or.inr ⟨u1, x3, y3, t3, A3, hAg.tr u2, u3, fun F => (bk2 F).trans (u4 F)⟩
            · rw [gq_out el hT2 (by rw [hR]; exact hne), gk_out el hT2 (by rw [hR]; exact hne), hR]
              refine ⟨c + 2, by rw [Nat.add_mul]; omega, Or.inr ⟨s1, x2, y2, t2, A2, hAg, fun _ => hnx2, fun F => ?_⟩⟩
              have b1 := bk1 (F + 1)
              rw [show F + 1 + (c + 1) = F + (c + 2) by omega] at b1
              exact b1.trans (lt_dec (by omega) (by omega) R.1 x2 y2 t2 (nI R.2) A2 (hm2 _ (Nat.le_refl _)) hne F)
        · -- the group is gone
          rw [if_neg z] at hTF hgone
          have st : ∀ F, LT mw mh (nI lw) (nI L0) nb at' (nI t) (nI n) (F + 1) (nI d) bk va x y tk (nI T) 0 (bA, wA, mv, nx) = LT mw mh (nI lw) (nI L0) nb at' (nI t) (nI n) F (nI d) 1 1 x' y' tk' (nI (T + 1)) 0 (vp_updL bA (L0 + d + 1) xb, vp_updL wA (L0 + d + 1) xw, upd mv (L0 + d + 1) (3 - Mv op (L0 + d)), upd nx d (nI (i + 1))) := fun F => by
            rw [st0 F]
            unfold FB
            rw [counts_t hT2, Option.bind_some, hgone, Option.bind_some, if_neg n10]; rfl
          by_cases hne : (1 : Int32) = Un1 op at' (L0 + d)
          · rw [gq_on el hT2 (by rw [hTF]; exact hne), gk_on el hT2 (by rw [hTF]; exact hne), hTF]
            obtain ⟨c', c1', c2'⟩ := ih (i + 1) (vp_updL bA (L0 + d + 1) xb, vp_updL wA (L0 + d + 1) xw, upd mv (L0 + d + 1) (3 - Mv op (L0 + d)), upd nx d (nI (i + 1))) 1 1 x' y' tk' (T + 1) (by omega) (fun j hj => ⟨(hA2.1 j hj).1.trans (U j hj).1, (hA2.1 j hj).2.1.trans (U j hj).2⟩) keep pk_us (Or.inr ⟨rfl, hne⟩) (Or.inr rfl) (by omega)
            refine ⟨c' + 1, by rw [Nat.add_mul]; omega, ?_⟩
            rcases c2' with ⟨u1, fin, u2, u3, u4, u5⟩ | ⟨u1, x3, y3, t3, A3, u2, u3, u4⟩
            · exact Or.inl ⟨u1, fin, fun F => (st (F + c')).trans (u2 F), u3, u4, hA2.tr u5⟩
            · exact Or.inr ⟨u1, x3, y3, t3, A3, hA2.tr u2, u3, fun F => (st (F + c')).trans (u4 F)⟩
          · rw [gq_out el hT2 (by rw [hTF]; exact hne), gk_out el hT2 (by rw [hTF]; exact hne), hTF]
            refine ⟨2, by rw [Nat.add_mul]; omega, Or.inr ⟨Or.inr rfl, x', y', tk', (vp_updL bA (L0 + d + 1) xb, vp_updL wA (L0 + d + 1) xw, upd mv (L0 + d + 1) (3 - Mv op (L0 + d)), upd nx d (nI (i + 1))), hA2, fun _ => pk_us, fun F => ?_⟩⟩
            exact (st (F + 1)).trans (lt_dec (by omega) (by omega) 1 x' y' tk' (nI (T + 1)) _ (keep _ (Nat.le_refl _)) hne F)
      · rw [gq_full el hT2, gk_full el hT2]
        by_cases z : Co xb xw t = at'
        · rw [if_pos z] at hgone
          refine ⟨2, by rw [Nat.add_mul]; omega, Or.inl ⟨rfl, (va, x', y', tk', nI T, 1, (vp_updL bA (L0 + d + 1) xb, vp_updL wA (L0 + d + 1) xw, upd mv (L0 + d + 1) (3 - Mv op (L0 + d)), upd (upd nx d (nI (i + 1))) (d + 1) 0)), fun F => ?_, rfl, rfl, hA3⟩⟩
          refine (st0 (F + 1)).trans ?_
          unfold FB
          rw [counts_f hT2 hT, Option.bind_some, hgone, Option.bind_some, if_pos rfl]
          exact lt_spent (lw := lw) (L0 := L0) (t := t) (n := n) hva (nI (d + 1)) 0 x' y' tk' (nI T) (vp_updL bA (L0 + d + 1) xb, vp_updL wA (L0 + d + 1) xw, upd mv (L0 + d + 1) (3 - Mv op (L0 + d)), upd (upd nx d (nI (i + 1))) (d + 1) 0) F
        · rw [if_neg z] at hgone
          refine ⟨2, by rw [Nat.add_mul]; omega, Or.inl ⟨rfl, (1, x', y', tk', nI T, 1, (vp_updL bA (L0 + d + 1) xb, vp_updL wA (L0 + d + 1) xw, upd mv (L0 + d + 1) (3 - Mv op (L0 + d)), upd nx d (nI (i + 1)))), fun F => ?_, rfl, rfl, hA2⟩⟩
          refine (st0 (F + 1)).trans ?_
          unfold FB
          rw [counts_f hT2 hT, Option.bind_some, hgone, Option.bind_some, if_neg n10]
          exact lt_spent (lw := lw) (L0 := L0) (t := t) (n := n) (Or.inr rfl) (nI d) 1 x' y' tk' (nI T) (vp_updL bA (L0 + d + 1) xb, vp_updL wA (L0 + d + 1) xw, upd mv (L0 + d + 1) (3 - Mv op (L0 + d)), upd nx d (nI (i + 1))) F
theorem sim_ft (G : GdOK w h gd) (N : NbOK w h mw mh nb) (ho : op = 1 ∨ op = 2) (hat : at' = 1 ∨ at' = 2) (hlw : lw ≤ 2) (ht : t < w * h) (hn6 : n ≤ 6) (hL0 : L0 ≤ 120) : ∀ (m : Nat), MaT mw mh nb lw L0 op at' t n gd (w * h) m := by
  have hwh := n_lt G
  have h49 := G.1.2.2.2.2
  intro m
  induction m with
  | zero =>
    intro d B W A va x y tk T hdm U Bb hm hnx hva hT
    refine ⟨0, 0, ⟨1, Nat.le_refl _, Or.inr ⟨Or.inl rfl, x, y, tk, A, AgT.rf _ _ _, fun z => absurd rfl z, fun F => ?_⟩⟩, fun m' e => by omega⟩
    · have e := lt_end (lw := lw) (t := t) (at' := at') (op := op) (L0 := L0) (d := d) (n := n) N (by omega) (by omega) hn6 hwh (by omega) 0 va x y tk (nI T) A (hm _ (Nat.le_refl _)) (Or.inl rfl) (Or.inr ⟨by omega, 0, by omega, hnx⟩) F
      rw [if_pos (show d = n by omega)] at e
      exact e
  | succ m IH =>
    intro d B W A va x y tk T hdm U Bb hm hnx hva hT
    rw [TI_succ]
    refine ⟨gk (Un1 op at' (L0 + d)) (lgf gd (w * h) lw op (L0 + d) B W) (TF gd (w * h) lw op at' t m (L0 + d) B W) (up_to (w * h + 1) 0) T, Un1 op at' (L0 + d), ?_, fun m' e => ?_⟩
    · obtain ⟨c, c1, c2⟩ := sim_fl G N ho hat hlw ht hn6 hL0 IH hdm B W Bb (w * h + 1) 0 A 0 va x y tk T (by omega) U hm hnx (Or.inl rfl) hva hT
      refine ⟨c, Nat.le_trans c1 ?_, c2⟩
      show (w * h + 1) * (3 + Cf m) + 1 ≤ 52 * (3 + Cf m) + 2
      have := Nat.mul_le_mul_right (3 + Cf m) (show w * h + 1 ≤ 52 by omega)
      omega
    · have : m' = m := by omega
      subst this
      exact ⟨rfl, rfl⟩
end FT
