/-! the reference's chase: the breaths, and the whole of it -/
section CQ
variable {w h : Nat} {gd : Gd} {mw mh : Int32} {nb : Nat → Int64} {cc : Int32} {t n : Nat}
theorem sim_br (G : GdOK w h gd) (N : NbOK w h mw mh nb) (hc : cc = 1 ∨ cc = 2) (hn20 : n ≤ 20) {m : Nat} (IH : Main mw mh nb cc t n gd (w * h) m) (b v : Int64) (B : Bd gd (w * h) b v) (ah : Option (Int64 × Int64)) : ∀ (l : List Nat) (d : Nat) (A : Ar) (x y : Int64) (tk : Int32) (T : Nat), d + (m + 1) = n → A.1 d = b → A.2.1 d = v → AhOK ah (A.2.2.1 d) (A.2.2.2.1 d) (A.2.2.2.2.1 d) → Sb (A.2.2.2.2.2.1 d) (w * h) → l = bls (A.2.2.2.2.2.1 d) (w * h) 0 → T ≤ 600 → Out mw mh nb cc t n d A (fun F => LC mw mh nb cc (nI t) (nI n) F (nI d) 0 0 x y tk (nI T) 0 A) (l.length * (2 + 51 * (1 + Ct m)) + 1) (gq 0 (lgb gd (3 - cc) b v ah) (fun k T => AF gd (w * h) t cc m b v (Nb gd (3 - cc) b v k) (Nw gd (3 - cc) b v k) T) l T) := by
  have hn := n_lt G
  have h49 := G.1.2.2.2.2
  have hc3 : 3 - cc = 1 ∨ 3 - cc = 2 := by rcases hc with rfl | rfl <;> decide
  intro l
  induction l with
  | nil =>
    intro d A x y tk T hdm hb hv hah hs hl hT
    obtain ⟨cB, cW, aB, aW, hA, bL, lB, lW, aL, fA, an⟩ := A
    dsimp only at hb hv hah hs hl ⊢
    have hd : d < 21 := by omega
    rw [gq_nil]
    rcases f_low G hs with ⟨k, a1, a2, a3, -, -⟩ | ⟨-, -, a3⟩
    · rw [bls_step hn a1 a2 a3] at hl; cases hl
    · have key := fun F => lc_b (mw := mw) (mh := mh) (nb := nb) (cc := cc) (t := t) (n := n) hd F x y tk (nI T) cB cW aB aW hA bL lB lW aL fA an
      obtain ⟨an', z1, z2, z3⟩ := key 0
      refine ⟨1, by omega, Or.inr ⟨Or.inl rfl, x, y, tk, (cB, cW, aB, aW, hA, bL, lB, lW, aL, fA, an'), fun i hi => ?_, fun F => ?_⟩⟩
      · unfold rA
        dsimp only
        rw [z2 i (by omega)]
      · obtain ⟨an2, y1, y2, y3⟩ := key F
        have e : an2 = an' := by
          funext i
          by_cases q : i = d
          · rw [q, z1, y1]
          · rw [z2 i q, y2 i q]
        subst e
        show lp_X7_isCaught_41 mw mh nb cc (nI t) (nI n) (F + 1) (nI d) 0 0 x y tk (nI T) 0 cB cW aB aW hA bL lB lW aL fA an = _
        rw [y3, a3, Option.bind_some, if_pos rfl]; rfl
  | cons k l ihl =>
    intro d A x y tk T hdm hb hv hah hs hl hT
    obtain ⟨cB, cW, aB, aW, hA, bL, lB, lW, aL, fA, an⟩ := A
    dsimp only at hb hv hah hs hl ⊢
    have hd : d < 21 := by omega
    obtain ⟨k', a1, a2, a3, a5⟩ : ∃ k', k' < w * h ∧ mm (bL d) k' = true ∧ (∀ j, j < k' → mm (bL d) j = false) ∧ f_X7_least (bL d) 0 = some (nI k') := by
      rcases f_low G hs with ⟨k', a1, a2, a3, -, a5⟩ | ⟨a1, -, -⟩
      · exact ⟨k', a1, a2, a3, a5⟩
      · rw [a1, bls_none _ _ (fun j _ _ => mm_0 j)] at hl; cases hl
    rw [bls_step hn a1 a2 a3] at hl
    injection hl with e3 e4
    subst e3
    obtain ⟨x', y', tk', m1, m2⟩ := f_mayChase G N hc hd a1 (cB := cB) (cW := cW) (aB := aB) (aW := aW) (hA := hA) (ah := ah) (by rw [hb, hv]; exact B) hah x y tk
    rw [hb, hv] at m1 m2
    -- one an' for all fuels
    obtain ⟨an', z1, z2, -⟩ := lc_b (mw := mw) (mh := mh) (nb := nb) (cc := cc) (t := t) (n := n) hd 0 x y tk (nI T) cB cW aB aW hA bL lB lW aL fA an
    have step : ∀ F, LC mw mh nb cc (nI t) (nI n) (F + 1) (nI d) 0 0 x y tk (nI T) 0 (cB, cW, aB, aW, hA, bL, lB, lW, aL, fA, an) = (some (if lgb gd (3 - cc) b v ah k = true then (1 : Int32) else 0, x', y', tk')).bind fun q40 => if q40.1 = 0 then lp_X7_isCaught_41 mw mh nb cc (nI t) (nI n) F (nI d) 0 0 q40.2.1 q40.2.2.1 q40.2.2.2 (nI T) 0 cB cW aB aW hA (vp_updL bL d (bL d &&& (jshl 1 (nI k) ^^^ (-1)))) lB lW aL fA an' else (f_X7_counts (nI T) 0).bind fun q42 => (f_X7_chaseBreaths mw mh nb q40.2.1 q40.2.2.1 cc (nI t)).bind fun q47 => (f_X7_many q47).bind fun q48 => if q48 = 1 then (f_X7_findAnswers mw mh nb (vp_updL lB d q40.2.1) (vp_updL lW d q40.2.2.1) aL fA an' (nI d) cc (nI t)).bind fun q50 => lp_X7_isCaught_41 mw mh nb cc (nI t) (nI n) F (nI d) 0 1 q40.2.1 q40.2.2.1 q40.2.2.2 q42.1 q42.2 cB cW aB aW hA (vp_updL bL d (bL d &&& (jshl 1 (nI k) ^^^ (-1)))) (vp_updL lB d q40.2.1) (vp_updL lW d q40.2.2.1) q50.1 q50.2.1 q50.2.2 else lp_X7_isCaught_41 mw mh nb cc (nI t) (nI n) F (nI d) 0 0 q40.2.1 q40.2.2.1 q40.2.2.2 q42.1 q42.2 cB cW aB aW hA (vp_updL bL d (bL d &&& (jshl 1 (nI k) ^^^ (-1)))) (vp_updL lB d q40.2.1) (vp_updL lW d q40.2.2.1) aL fA an' := fun F => by
      obtain ⟨an2, y1, y2, y3⟩ := lc_b (mw := mw) (mh := mh) (nb := nb) (cc := cc) (t := t) (n := n) hd F x y tk (nI T) cB cW aB aW hA bL lB lW aL fA an
      have e : an2 = an' := by
        funext i
        by_cases q : i = d
        · rw [q, z1, y1]
        · rw [z2 i q, y2 i q]
      subst e
      show lp_X7_isCaught_41 mw mh nb cc (nI t) (nI n) (F + 1) (nI d) 0 0 x y tk (nI T) 0 cB cW aB aW hA bL lB lW aL fA an = _
      rw [y3, a5, Option.bind_some, if_neg (nI_m1 (by omega)), m1]
    rw [List.length_cons]
    have hz : Sb (bL d &&& (jshl 1 (nI k) ^^^ (-1))) (w * h) := Sb.and hs
    cases el : lgb gd (3 - cc) b v ah k
    · have r := ihl d (cB, cW, aB, aW, hA, vp_updL bL d (bL d &&& (jshl 1 (nI k) ^^^ (-1))), lB, lW, aL, fA, an') x' y' tk' T hdm hb hv hah (by dsimp only; rw [pk_uLs]; exact hz) (by dsimp only; rw [pk_uLs]; exact e4) hT
      rw [gq_skip el]
      have st : ∀ F, LC mw mh nb cc (nI t) (nI n) (F + 1) (nI d) 0 0 x y tk (nI T) 0 (cB, cW, aB, aW, hA, bL, lB, lW, aL, fA, an) = LC mw mh nb cc (nI t) (nI n) F (nI d) 0 0 x' y' tk' (nI T) 0 (cB, cW, aB, aW, hA, vp_updL bL d (bL d &&& (jshl 1 (nI k) ^^^ (-1))), lB, lW, aL, fA, an') := fun F => by
        rw [step F, el, if_neg (show ¬ false = true by decide), Option.bind_some, if_pos rfl]; rfl
      have hA1 : Ag d (cB, cW, aB, aW, hA, bL, lB, lW, aL, fA, an) (cB, cW, aB, aW, hA, vp_updL bL d (bL d &&& (jshl 1 (nI k) ^^^ (-1))), lB, lW, aL, fA, an') := fun i hi => by
        unfold rA
        dsimp only
        rw [pk_uLn (by omega), z2 i (by omega)]
      obtain ⟨c, c1, c2⟩ := r
      refine ⟨c + 1, by rw [Nat.add_mul]; omega, ?_⟩
      rcases c2 with ⟨s1, fin, s2, s3⟩ | ⟨s1, x2, y2, t2, A2, s2, s3⟩
      · exact Or.inl ⟨s1, fin, fun F => (st (F + c)).trans (s2 F), s3⟩
      · exact Or.inr ⟨s1, x2, y2, t2, A2, hA1.tr s2, fun F => (st (F + c)).trans (s3 F)⟩
    · obtain ⟨m3, m4⟩ := m2 el
      have hlc := cdec_of el
      have B1 := Bd_new G hc3 B a1 hlc.1 hlc.2.1
      generalize hb1 : Nb gd (3 - cc) b v k = b1 at *
      generalize hw1 : Nw gd (3 - cc) b v k = w1 at *
      subst m3 m4
      have hpl := pc_le (Br gd t cc x' y')
      -- the state behind the stone
      have beh : ∃ (A1 : Ar) (ca : Int32), (ca = 0 ∨ ca = 1) ∧ Ag d (cB, cW, aB, aW, hA, bL, lB, lW, aL, fA, an) A1 ∧ A1.1 d = b ∧ A1.2.1 d = v ∧ AhOK ah (A1.2.2.1 d) (A1.2.2.2.1 d) (A1.2.2.2.2.1 d) ∧ A1.2.2.2.2.2.1 d = bL d &&& (jshl 1 (nI k) ^^^ (-1)) ∧ A1.2.2.2.2.2.2.1 d = x' ∧ A1.2.2.2.2.2.2.2.1 d = y' ∧ ((pc (Br gd t cc x' y') = 1 ∧ ca = 1 ∧ A1.2.2.2.2.2.2.2.2.2.2 d = 1 ∧ Ks (w * h) (bls (Br gd t cc x' y') (w * h) 0 ++ bls (Tg gd (w * h) t cc x' y' &&& (Br gd t cc x' y' ^^^ (-1))) (w * h) 0) (A1.2.2.2.2.2.2.2.2.2.1 d) (A1.2.2.2.2.2.2.2.2.1 d)) ∨ (¬ pc (Br gd t cc x' y') = 1 ∧ ca = 0)) ∧ ∀ F, LC mw mh nb cc (nI t) (nI n) (F + 1) (nI d) 0 0 x y tk (nI T) 0 (cB, cW, aB, aW, hA, bL, lB, lW, aL, fA, an) = (f_X7_counts (nI T) 0).bind fun q42 => LC mw mh nb cc (nI t) (nI n) F (nI d) 0 ca x' y' tk' q42.1 q42.2 A1 := by
        by_cases q : pc (Br gd t cc x' y') = 1
        · obtain ⟨k0, k1, k2, k3⟩ := pc_one q
          have k4 := Br_sb G t cc x' y' k0 k2
          obtain ⟨aL', f1, f2, f3⟩ := f_findAnswers (aL := aL) (fA := fA) (an := an') (lB := vp_updL lB d x') (lW := vp_updL lW d y') (t := t) G N hc hd (by rw [pk_uLs, pk_uLs]; exact B1) (k0 := k0) (by rw [pk_uLs, pk_uLs]; exact k2) (by rw [pk_uLs, pk_uLs]; exact k3)
          rw [pk_uLs, pk_uLs] at f3
          refine ⟨(cB, cW, aB, aW, hA, vp_updL bL d (bL d &&& (jshl 1 (nI k) ^^^ (-1))), vp_updL lB d x', vp_updL lW d y', aL', upd fA d (nI k0), upd an' d 1), 1, Or.inr rfl, fun i hi => ?_, hb, hv, hah, pk_uLs, pk_uLs, pk_uLs, Or.inl ⟨q, rfl, pk_us, ?_⟩, fun F => ?_⟩
          · unfold rA
            dsimp only
            rw [pk_uLn (by omega), pk_uLn (by omega), pk_uLn (by omega), f2 i (by omega), pk_un (by omega), pk_un (by omega), z2 i (by omega)]
          · dsimp only
            rw [pk_us]
            refine Or.inr ⟨k0, k4, rfl, ?_, ?_⟩
            · rw [f3]
              intro j hj
              have hjt := Le.andL _ _ j hj
              rw [mm_Tg G cc t (Bd_own B1 cc) (Bd_own B1 (3 - cc))] at hjt
              obtain ⟨i, -, hi⟩ := hjt
              unfold Tv at hi
              split at hi
              · exact Fr_sb G _ _ j (Le.andR _ _ j hi)
              · rw [mm_0] at hi; cases hi
            · rw [f3]
              have hb0 : bls (Br gd t cc x' y') (w * h) 0 = [k0] := by
                rw [bls_low k2 (w * h) 0 (by omega) (by omega) (fun j _ hj => k3 j (by omega)), bls_none _ _ (fun j hj _ => k3 j (by omega))]
              rw [hb0]; rfl
          · rw [step F, el, if_pos rfl, Option.bind_some, if_neg n10]
            congr 1
            funext q42
            dsimp only
            rw [f_chaseBreaths G N B1, Option.bind_some, f_many, Option.bind_some, if_pos (show nI _ = 1 by rw [q]; decide), f1, Option.bind_some]; rfl
        · refine ⟨(cB, cW, aB, aW, hA, vp_updL bL d (bL d &&& (jshl 1 (nI k) ^^^ (-1))), vp_updL lB d x', vp_updL lW d y', aL, fA, an'), 0, Or.inl rfl, fun i hi => ?_, hb, hv, hah, pk_uLs, pk_uLs, pk_uLs, Or.inr ⟨q, rfl⟩, fun F => ?_⟩
          · unfold rA
            dsimp only
            rw [pk_uLn (by omega), pk_uLn (by omega), pk_uLn (by omega), z2 i (by omega)]
          · rw [step F, el, if_pos rfl, Option.bind_some, if_neg n10]
            congr 1
            funext q42
            dsimp only
            rw [f_chaseBreaths G N B1, Option.bind_some, f_many, Option.bind_some, if_neg (show ¬ nI (pc (Br gd t cc x' y')) = 1 from fun z => q ((nI_eq (b := 1) (by omega) (by decide)).mp z))]; rfl
      obtain ⟨A1, ca, hca, g1, g2, g3, g4, g5, g6, g7, g8, st0⟩ := beh
      by_cases hT2 : T < 600
      · have st : ∀ F, LC mw mh nb cc (nI t) (nI n) (F + 1) (nI d) 0 0 x y tk (nI T) 0 (cB, cW, aB, aW, hA, bL, lB, lW, aL, fA, an) = LC mw mh nb cc (nI t) (nI n) F (nI d) 0 ca x' y' tk' (nI (T + 1)) 0 A1 := fun F => by
          rw [st0 F, counts_t hT2, Option.bind_some]
        rcases g8 with ⟨q, rfl, q2, q3⟩ | ⟨q, rfl⟩
        · have hAF : AF gd (w * h) t cc m b v x' y' (T + 1) = gq 1 (lgb gd cc x' y' (some (b, v))) (fun j T => CI gd (w * h) t cc m (Nb gd cc x' y' j) (Nw gd cc x' y' j) (some (x', y')) T) (bls (Br gd t cc x' y') (w * h) 0 ++ bls (Tg gd (w * h) t cc x' y' &&& (Br gd t cc x' y' ^^^ (-1))) (w * h) 0) (T + 1) := if_pos q
          have r := sim_ans G N hc hn20 IH _ d A1 x' y' tk' (T + 1) hdm (by rw [g6, g7]; exact B1) q2 q3 (by omega)
          rw [g6, g7, g2, g3, ← hAF] at r
          have hle := AF_le gd (w * h) t cc m b v x' y' (T + 1) (by omega)
          have hlen : (bls (Br gd t cc x' y') (w * h) 0 ++ bls (Tg gd (w * h) t cc x' y' &&& (Br gd t cc x' y' ^^^ (-1))) (w * h) 0).length ≤ 50 := by
            rw [List.length_append]
            have l1 : (bls (Br gd t cc x' y') (w * h) 0).length = 1 := by
              rw [bls_pc]
              have := pc_n (Br_sb G t cc x' y') (by omega)
              rw [q] at this
              rw [this]
              exact fb_ct_cong (fun k _ => by rw [Nat.zero_add])
            have l2 := bls_len (Tg gd (w * h) t cc x' y' &&& (Br gd t cc x' y' ^^^ (-1))) (w * h) 0
            omega
          obtain ⟨c, c1, c2⟩ := r
          have hcb : c ≤ 50 * (1 + Ct m) + 1 := Nat.le_trans c1 (Nat.add_le_add_right (Nat.mul_le_mul_right _ hlen) 1)
          rcases c2 with ⟨s1, fin, s2, s3⟩ | ⟨s1, x2, y2, t2, A2, s2, s3⟩ | ⟨s1, x2, y2, t2, A2, s2, s3, s4⟩
          · rw [gq_out el hT2 (by rw [hb1, hw1, s1]; decide)]
            rw [hb1, hw1]
            exact ⟨c + 1, by rw [Nat.add_mul]; omega, Or.inl ⟨s1, fin, fun F => (st (F + c)).trans (s2 F), s3⟩⟩
          · rw [gq_out el hT2 (by rw [hb1, hw1, s1]; decide)]
            rw [hb1, hw1]
            refine ⟨c + 1, by rw [Nat.add_mul]; omega, Or.inr ⟨Or.inr s1, x2, y2, t2, A2, g1.tr s2, fun F => ?_⟩⟩
            rw [s1]
            exact (st (F + c)).trans (s3 F)
          · rw [gq_on el hT2 (by rw [hb1, hw1, s1])]
            rw [hb1, hw1]
            have r2 := ihl d A2 x2 y2 t2 (AF gd (w * h) t cc m b v x' y' (T + 1)).2 hdm (s3.1.trans g2) (s3.2.1.trans g3) (by rw [s3.2.2.1, s3.2.2.2.1, s3.2.2.2.2.1]; exact g4) (by rw [s3.2.2.2.2.2, g5]; exact hz) (by rw [s3.2.2.2.2.2, g5]; exact e4) hle
            obtain ⟨c', c1', c2'⟩ := r2
            have bk : ∀ F, LC mw mh nb cc (nI t) (nI n) (F + (c' + c + 1)) (nI d) 0 0 x y tk (nI T) 0 (cB, cW, aB, aW, hA, bL, lB, lW, aL, fA, an) = LC mw mh nb cc (nI t) (nI n) (F + c') (nI d) 0 0 x2 y2 t2 (nI (AF gd (w * h) t cc m b v x' y' (T + 1)).2) 0 A2 := fun F => by
              rw [show F + (c' + c + 1) = F + c' + c + 1 by omega]
              exact (st (F + c' + c)).trans (s4 (F + c'))
            refine ⟨c' + c + 1, by rw [Nat.add_mul]; omega, ?_⟩
            rcases c2' with ⟨u1, fin, u2, u3⟩ | ⟨u1, x3, y3, t3, A3, u2, u3⟩
            · exact Or.inl ⟨u1, fin, fun F => (bk F).trans (u2 F), u3⟩
            · exact Or.inr ⟨u1, x3, y3, t3, A3, (g1.tr s2).tr u2, fun F => (bk F).trans (u3 F)⟩
        · have hAF : AF gd (w * h) t cc m b v x' y' (T + 1) = (0, T + 1) := if_neg q
          rw [gq_on el hT2 (by rw [hb1, hw1, hAF])]
          rw [hb1, hw1, hAF]
          have r2 := ihl d A1 x' y' tk' (T + 1) hdm g2 g3 g4 (by rw [g5]; exact hz) (by rw [g5]; exact e4) (by omega)
          obtain ⟨c', c1', c2'⟩ := r2
          refine ⟨c' + 1, by rw [Nat.add_mul]; omega, ?_⟩
          rcases c2' with ⟨u1, fin, u2, u3⟩ | ⟨u1, x3, y3, t3, A3, u2, u3⟩
          · exact Or.inl ⟨u1, fin, fun F => (st (F + c')).trans (u2 F), u3⟩
          · exact Or.inr ⟨u1, x3, y3, t3, A3, g1.tr u2, fun F => (st (F + c')).trans (u3 F)⟩
      · rw [gq_full el hT2]
        obtain ⟨fin, f1, f2, f3⟩ := lc_spent (mw := mw) (mh := mh) (nb := nb) (cc := cc) (t := t) (n := n) hca (nI d) 0 x' y' tk' (nI T) A1
        refine ⟨2, ?_, Or.inl ⟨rfl, fin, fun F => ?_, f2, f3⟩⟩
        · rw [Nat.add_mul]; omega
        · show LC mw mh nb cc (nI t) (nI n) (F + 1 + 1) (nI d) 0 0 x y tk (nI T) 0 (cB, cW, aB, aW, hA, bL, lB, lW, aL, fA, an) = _
          rw [st0 (F + 1), counts_f hT2 hT, Option.bind_some]
          exact f1 F
theorem sim_main (G : GdOK w h gd) (N : NbOK w h mw mh nb) (hc : cc = 1 ∨ cc = 2) (hn20 : n ≤ 20) : ∀ (m : Nat), Main mw mh nb cc t n gd (w * h) m := by
  have hn := n_lt G
  intro m
  induction m with
  | zero =>
    intro d A ca x y tk T ah hdm B hah hbr han hT
    refine ⟨1, ⟨Nat.le_refl _, Nat.le_refl _⟩, Or.inr ⟨Or.inl rfl, x, y, tk, A, Ag.rf d A, fun F => ?_⟩⟩
    exact lc_no G (by omega) (by omega) hn20 F ca x y tk (nI T) A (Or.inr (by omega)) (Or.inr (by omega))
  | succ m IH =>
    intro d A ca x y tk T ah hdm B hah hbr han hT
    have hd : d < 21 := by omega
    have hpl := pc_le (Br gd t cc (A.1 d) (A.2.1 d))
    have hCt : 2 ≤ Ct (m + 1) := by show 2 ≤ 2 * (2 + 51 * (1 + Ct m)) + 1; omega
    rw [CI_succ]
    by_cases q1 : pc (Br gd t cc (A.1 d) (A.2.1 d)) = 1
    · rw [if_neg (by omega)]
      obtain ⟨k0, k1, k2, k3⟩ := pc_one q1
      have k4 := Br_sb G t cc (A.1 d) (A.2.1 d) k0 k2
      have hb0 : bls (Br gd t cc (A.1 d) (A.2.1 d)) (w * h) 0 = [k0] := by
        rw [bls_low k2 (w * h) 0 (by omega) (by omega) (fun j _ hj => k3 j (by omega)), bls_none _ _ (fun j hj _ => k3 j (by omega))]
      have hlow : f_X7_least (A.2.2.2.2.2.1 d) 0 = some (nI k0) := by
        rw [hbr]
        rcases f_low G (Br_sb G t cc (A.1 d) (A.2.1 d)) with ⟨t0, a1, a2, a3, a4, a5⟩ | ⟨a1, -, -⟩
        · have : t0 = k0 := Classical.byContradiction (fun z => by rw [k3 t0 z] at a2; cases a2)
          rw [a5, this]
        · rw [a1, mm_0] at k2; cases k2
      obtain ⟨x', y', tk', st⟩ := lc_one (t := t) (n := n) G N hc hd (by omega) hn20 A B hah k4 (by rw [hbr]; exact q1) hlow ca x y tk T hT
      rw [hb0]
      cases el : lgb gd (3 - cc) (A.1 d) (A.2.1 d) ah k0
      · rw [gq_skip el, gq_nil]
        refine ⟨1, by omega, Or.inr ⟨Or.inl rfl, x', y', tk', A, Ag.rf d A, fun F => ?_⟩⟩
        have := st F
        rw [el, if_neg (by decide)] at this
        exact this
      · by_cases hT2 : T < 600
        · rw [gq_out el hT2 (by rw [if_pos q1]; exact n10)]
          rw [if_pos q1]
          refine ⟨1, by omega, Or.inr ⟨Or.inr rfl, x', y', tk', A, Ag.rf d A, fun F => ?_⟩⟩
          have := st F
          rw [el, if_pos rfl, if_pos hT2] at this
          exact this
        · rw [gq_full el hT2]
          obtain ⟨fin, f1, f2, f3⟩ := lc_spent (mw := mw) (mh := mh) (nb := nb) (cc := cc) (t := t) (n := n) (Or.inr rfl) (nI d + (-1)) 0 x' y' tk' (nI T) A
          refine ⟨2, ⟨by omega, hCt⟩, Or.inl ⟨rfl, fin, fun F => ?_, f2, f3⟩⟩
          have := st (F + 1)
          rw [el, if_pos rfl, if_neg hT2] at this
          exact this.trans (f1 F)
    · by_cases q2 : pc (Br gd t cc (A.1 d) (A.2.1 d)) = 2 ∧ 1 ≤ m
      · rw [if_neg (by omega)]
        have r := sim_br G N hc hn20 IH (A.1 d) (A.2.1 d) B ah (bls (Br gd t cc (A.1 d) (A.2.1 d)) (w * h) 0) d A x y tk T hdm rfl rfl hah (by rw [hbr]; exact Br_sb G _ _ _ _) (by rw [hbr]) hT
        have hlen : (bls (Br gd t cc (A.1 d) (A.2.1 d)) (w * h) 0).length = 2 := by
          rw [bls_pc]
          have := pc_n (Br_sb G t cc (A.1 d) (A.2.1 d)) (by omega)
          rw [q2.1] at this
          rw [this]
          exact fb_ct_cong (fun k _ => by rw [Nat.zero_add])
        rw [hlen] at r
        have hF : (fun (k T : Nat) => if pc (Br gd t cc (A.1 d) (A.2.1 d)) = 1 then ((1 : Int32), T) else AF gd (w * h) t cc m (A.1 d) (A.2.1 d) (Nb gd (3 - cc) (A.1 d) (A.2.1 d) k) (Nw gd (3 - cc) (A.1 d) (A.2.1 d) k) T) = fun k T => AF gd (w * h) t cc m (A.1 d) (A.2.1 d) (Nb gd (3 - cc) (A.1 d) (A.2.1 d) k) (Nw gd (3 - cc) (A.1 d) (A.2.1 d) k) T := by
          funext k T
          exact if_neg q1
        rw [hF]
        obtain ⟨c, c1, c2⟩ := r
        -- the first look is the first of the breaths'
        have sw : ∀ F, LC mw mh nb cc (nI t) (nI n) (F + 1) (nI d) 1 ca x y tk (nI T) 0 A = LC mw mh nb cc (nI t) (nI n) (F + 1) (nI d) 0 0 x y tk (nI T) 0 A := fun F => lc_two hd (by omega) hn20 F ca x y tk (nI T) A (by rw [hbr]; exact q2.1) han
        obtain ⟨c, rfl⟩ : ∃ c', c = c' + 1 := ⟨c - 1, by omega⟩
        refine ⟨c + 1, c1, ?_⟩
        rcases c2 with ⟨u1, fin, u2, u3⟩ | ⟨u1, x3, y3, t3, A3, u2, u3⟩
        · exact Or.inl ⟨u1, fin, fun F => (sw (F + c)).trans (u2 F), u3⟩
        · exact Or.inr ⟨u1, x3, y3, t3, A3, u2, fun F => (sw (F + c)).trans (u3 F)⟩
      · have hno : pc (Br gd t cc (A.1 d) (A.2.1 d)) < 1 ∨ 2 < pc (Br gd t cc (A.1 d) (A.2.1 d)) ∨ m + 1 < pc (Br gd t cc (A.1 d) (A.2.1 d)) := by omega
        rw [if_pos hno]
        refine ⟨1, by omega, Or.inr ⟨Or.inl rfl, x, y, tk, A, Ag.rf d A, fun F => ?_⟩⟩
        exact lc_no G hd (by omega) hn20 F ca x y tk (nI T) A (Or.inl (by rw [hbr]; exact q1)) (by rw [hbr]; omega)
end CQ
