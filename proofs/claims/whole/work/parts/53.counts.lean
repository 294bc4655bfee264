section QW
variable {w h : Nat} {gd : Gd} {mw mh : Int32} {nb : Nat → Int64} {L : Nat} {bl wh bA wA : Nat → Int64}
theorem q_count (G : GdOK w h gd) (N : NbOK w h mw mh nb) {lw : Nat} {op : Int32} (hL : L ≤ 120) (hb : bl L = bA L) (hw : wh L = wA L) {tB tW mv ac at' : Nat → Int32} (b0 : tB 0 = 0) (w0 : tW 0 = 0) (hB : ∀ i, i < L → tB (i + 1) = tB i + Tk 1 bl wh i) (hW : ∀ i, i < L → tW (i + 1) = tW i + Tk 2 bl wh i) (hm : mv L = Mv op L) (ha : ∀ i, i < L → ac i = at' i) (a0 : Int32) : ∃ q, f_X6_count 127 (nI w) (nI h) (nI (w * h)) (nI lw) (nI L) op bl wh ac a0 = some q ∧ f_X7_count mw mh (nI lw) (nI L) at' bA wA mv tB tW a0 = some q := by
  have i1 := nI_in (show L < 130 by omega) (by decide)
  have i2 := nI_in (show L < 121 by omega) (by decide)
  have cl : (nI L).toNatClampNeg = L := nI_clamp (by omega)
  have x1 : ((f_X4_mover (nI L) op).bind fun q5 => some q5) = some (Mv op L) := by rw [f_mover op (by omega)]; rfl
  have x2 : ((f_X4_stonesOf 127 (nI L) bl wh 1).bind fun q7 => (f_J13_bitCount_95d88 q7).bind fun q8 => some q8) = some (nI (pc (bA L))) := by rw [f_stonesOf (by omega) (by decide), Ow_1, hb, Option.bind_some, f_bc]; rfl
  have x3 : ((f_X4_stonesOf 127 (nI L) bl wh 2).bind fun q7 => (f_J13_bitCount_95d88 q7).bind fun q8 => some q8) = some (nI (pc (wA L))) := by rw [f_stonesOf (by omega) (by decide), Ow_2, hw, Option.bind_some, f_bc]; rfl
  have x4 : ((f_X4_taken 127 (nI L) bl wh 1).bind fun q => some q) = some (tB L) := by rw [f_taken hL 1 tB b0 hB]; rfl
  have x5 : ((f_X4_taken 127 (nI L) bl wh 2).bind fun q => some q) = some (tW L) := by rw [f_taken hL 2 tW w0 hW]; rfl
  have y1 : (if (nI L < 0 ∨ 130 ≤ (nI L).toNatClampNeg) then none else some (mv (nI L).toNatClampNeg)) = some (Mv op L) := by rw [if_neg i1, cl, hm]
  have y2 : (if (nI L < 0 ∨ 130 ≤ (nI L).toNatClampNeg) then none else (f_X7_many (bA (nI L).toNatClampNeg)).bind fun q6 => some q6) = some (nI (pc (bA L))) := by rw [if_neg i1, cl, f_many]; rfl
  have y3 : (if (nI L < 0 ∨ 130 ≤ (nI L).toNatClampNeg) then none else (f_X7_many (wA (nI L).toNatClampNeg)).bind fun q6 => some q6) = some (nI (pc (wA L))) := by rw [if_neg i1, cl, f_many]; rfl
  have y4 : (if (nI L < 0 ∨ 121 ≤ (nI L).toNatClampNeg) then none else some (tB (nI L).toNatClampNeg)) = some (tB L) := by rw [if_neg i2, cl]
  have y5 : (if (nI L < 0 ∨ 121 ≤ (nI L).toNatClampNeg) then none else some (tW (nI L).toNatClampNeg)) = some (tW L) := by rw [if_neg i2, cl]
  obtain ⟨r6, r1, r2⟩ := f_passes N hL ha
  have x6 : ((f_X4_passesNow 127 (nI L) (nI (w * h)) ac).bind fun q => some q) = some r6 := by rw [r1]; rfl
  have y6 : ((f_X7_passes mw mh (nI L) at').bind fun q => some q) = some r6 := by rw [r2]; rfl
  have y7 : some mw = some (nI w) := by rw [N.1]
  have y8 : some mh = some (nI h) := by rw [N.2.1]
  unfold f_X6_count f_X7_count
  rcases in_cs a0 9 (by decide) with ⟨g1, -⟩ | ⟨g1, g2, g3, -⟩ | ⟨j, hj, rfl, g1, g2, -, g3⟩
  · have ne : ∀ k, k < 10 → ¬ a0 = nI k := fun k hk e => by rw [e] at g1; exact nI_pos (by omega) g1
    exact ⟨-2, if_pos g1, (if_neg (ne 0 (by decide))).trans ((if_neg (ne 1 (by decide))).trans ((if_neg (ne 2 (by decide))).trans ((if_neg (ne 3 (by decide))).trans ((if_neg (ne 4 (by decide))).trans ((if_neg (ne 5 (by decide))).trans ((if_neg (ne 6 (by decide))).trans ((if_neg (ne 7 (by decide))).trans ((if_neg (ne 8 (by decide))).trans ((if_neg (ne 9 (by decide))).trans (rfl))))))))))⟩
  · have ne : ∀ k, k < 10 → ¬ a0 = nI k := fun k hk e => by rw [e] at g2; exact g2 (nI_le (by omega) (by decide))
    exact ⟨-2, (if_neg g1).trans (if_neg g2), (if_neg (ne 0 (by decide))).trans ((if_neg (ne 1 (by decide))).trans ((if_neg (ne 2 (by decide))).trans ((if_neg (ne 3 (by decide))).trans ((if_neg (ne 4 (by decide))).trans ((if_neg (ne 5 (by decide))).trans ((if_neg (ne 6 (by decide))).trans ((if_neg (ne 7 (by decide))).trans ((if_neg (ne 8 (by decide))).trans ((if_neg (ne 9 (by decide))).trans (rfl))))))))))⟩
  · have hj5 : j = 0 ∨ j = 1 ∨ j = 2 ∨ j = 3 ∨ j = 4 ∨ j = 5 ∨ j = 6 ∨ j = 7 ∨ j = 8 ∨ j = 9 := by omega
    rcases hj5 with rfl | rfl | rfl | rfl | rfl | rfl | rfl | rfl | rfl | rfl
    · exact ⟨nI L, (if_neg g1).trans ((if_pos g2).trans ((if_pos (by decide)).trans (rfl))), (if_pos (by decide)).trans (rfl)⟩
    · exact ⟨Mv op L, (if_neg g1).trans ((if_pos g2).trans ((if_neg (by decide)).trans ((if_pos (by decide)).trans (x1)))), (if_neg (by decide)).trans ((if_pos (by decide)).trans (y1))⟩
    · exact ⟨nI (pc (bA L)), (if_neg g1).trans ((if_pos g2).trans ((if_neg (by decide)).trans ((if_neg (by decide)).trans ((if_pos (by decide)).trans (x2))))), (if_neg (by decide)).trans ((if_neg (by decide)).trans ((if_pos (by decide)).trans (y2)))⟩
    · exact ⟨nI (pc (wA L)), (if_neg g1).trans ((if_pos g2).trans ((if_neg (by decide)).trans ((if_neg (by decide)).trans ((if_neg (by decide)).trans ((if_pos (by decide)).trans (x3)))))), (if_neg (by decide)).trans ((if_neg (by decide)).trans ((if_neg (by decide)).trans ((if_pos (by decide)).trans (y3))))⟩
    · exact ⟨tB L, (if_neg g1).trans ((if_pos g2).trans ((if_neg (by decide)).trans ((if_neg (by decide)).trans ((if_neg (by decide)).trans ((if_neg (by decide)).trans ((if_pos (by decide)).trans (x4))))))), (if_neg (by decide)).trans ((if_neg (by decide)).trans ((if_neg (by decide)).trans ((if_neg (by decide)).trans ((if_pos (by decide)).trans (y4)))))⟩
    · exact ⟨tW L, (if_neg g1).trans ((if_pos g2).trans ((if_neg (by decide)).trans ((if_neg (by decide)).trans ((if_neg (by decide)).trans ((if_neg (by decide)).trans ((if_neg (by decide)).trans ((if_pos (by decide)).trans (x5)))))))), (if_neg (by decide)).trans ((if_neg (by decide)).trans ((if_neg (by decide)).trans ((if_neg (by decide)).trans ((if_neg (by decide)).trans ((if_pos (by decide)).trans (y5))))))⟩
    · exact ⟨r6, (if_neg g1).trans ((if_pos g2).trans ((if_neg (by decide)).trans ((if_neg (by decide)).trans ((if_neg (by decide)).trans ((if_neg (by decide)).trans ((if_neg (by decide)).trans ((if_neg (by decide)).trans ((if_pos (by decide)).trans (x6))))))))), (if_neg (by decide)).trans ((if_neg (by decide)).trans ((if_neg (by decide)).trans ((if_neg (by decide)).trans ((if_neg (by decide)).trans ((if_neg (by decide)).trans ((if_pos (by decide)).trans (y6)))))))⟩
    · exact ⟨nI w, (if_neg g1).trans ((if_pos g2).trans ((if_neg (by decide)).trans ((if_neg (by decide)).trans ((if_neg (by decide)).trans ((if_neg (by decide)).trans ((if_neg (by decide)).trans ((if_neg (by decide)).trans ((if_neg (by decide)).trans ((if_pos (by decide)).trans (rfl)))))))))), (if_neg (by decide)).trans ((if_neg (by decide)).trans ((if_neg (by decide)).trans ((if_neg (by decide)).trans ((if_neg (by decide)).trans ((if_neg (by decide)).trans ((if_neg (by decide)).trans ((if_pos (by decide)).trans (y7))))))))⟩
    · exact ⟨nI h, (if_neg g1).trans ((if_pos g2).trans ((if_neg (by decide)).trans ((if_neg (by decide)).trans ((if_neg (by decide)).trans ((if_neg (by decide)).trans ((if_neg (by decide)).trans ((if_neg (by decide)).trans ((if_neg (by decide)).trans ((if_neg (by decide)).trans ((if_pos (by decide)).trans (rfl))))))))))), (if_neg (by decide)).trans ((if_neg (by decide)).trans ((if_neg (by decide)).trans ((if_neg (by decide)).trans ((if_neg (by decide)).trans ((if_neg (by decide)).trans ((if_neg (by decide)).trans ((if_neg (by decide)).trans ((if_pos (by decide)).trans (y8)))))))))⟩
    · exact ⟨nI lw, (if_neg g1).trans ((if_pos g2).trans ((if_neg (by decide)).trans ((if_neg (by decide)).trans ((if_neg (by decide)).trans ((if_neg (by decide)).trans ((if_neg (by decide)).trans ((if_neg (by decide)).trans ((if_neg (by decide)).trans ((if_neg (by decide)).trans ((if_neg (by decide)).trans (rfl))))))))))), (if_neg (by decide)).trans ((if_neg (by decide)).trans ((if_neg (by decide)).trans ((if_neg (by decide)).trans ((if_neg (by decide)).trans ((if_neg (by decide)).trans ((if_neg (by decide)).trans ((if_neg (by decide)).trans ((if_neg (by decide)).trans ((if_pos (by decide)).trans (rfl))))))))))⟩
end QW
