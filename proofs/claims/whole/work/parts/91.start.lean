/-! THE CLAIM OUT OF ONE WALK OF THE LAW'S BODY. Your part is whole_start (and what it stands on); all else here is the same for every law, but numbers. -/
def R_law : String := "EyeBoardLaw"
def lw_P (b : Addr) (xs : List Int32) (args : Array Value) (s : State) : Prop := args = #[.ref b] ∧ s.IntsAt b xs ∧ xs.length ≤ 2048 ∧ (Jvm.Cond.and given_1 narrow_1).before args s = true
def lw_Q (_ : Array Value) (s : State) (o : Outcome) (t : State) : Prop := o = .returned (some (.int 1)) ∧ Framed s o t [] 600000 7302250
def lw_Z (below : List Frame) (a : Array Value) (s : State) : State → Prop := fun t => ∃ o, t.status = .running ∧ Ended t below o ∧ lw_Q a s o t
/-- the law's own end, with 1 on the stack, nothing written that was there before, its room as the claim has it -/
theorem lw_ret {p : Program} {l : Launch} {e : Env} {s : State} {m : MethodId} {below : List Frame} {meth : Method} {c : Code} {b : Nat} (hx : p.tables.exec = Jvm.exec) (hb : c.code = code) (hr : meth.sig.returnType = ret) (hlocks : meth.locks = false) {pc : Nat} {H : Heap} {ls : Array Slot} (hdg : decode code pc = .ok (.ireturn, 1)) : W p l e room_1 s m #[Value.ref b] below meth c H [] 600000 7302250 (lw_Z below #[Value.ref b] s) (F0 m pc ls [.int 1]) := by
  intro T hT X
  obtain ⟨fs, hret, hrun, hended, hW, hframe⟩ := X.leave (v := some (.int 1)) (hlocks := hlocks) (fun h => by rw [hr] at h; cases h)
  have hmeth' : T.vm.method? m = some meth := X.method'
  refine ⟨T.setFrames fs, ?_, .returned (some (.int 1)), hrun, hended, rfl, ⟨_, rfl⟩, hW, hframe⟩
  jvm_step X.here [X.here.top, hx, hb, hdg, hmeth', hr, ret, narrow_b1]
  (try refine ⟨rfl, ?_⟩); (try refine ⟨rfl, ?_⟩)
  first | (intro acts; rw [hret _ acts rfl rfl rfl]) | rw [hret _ _ rfl rfl rfl]
  exact Steps.refl _
/-- what holds at the law's entry: the machine, the code, the tables' words (any of lw_tbl by 'hts w (by decide +kernel)'), the script of L ints xs at the cell b, what the Statement gives of the start (any of its parts by flat_of_before) -/
def lw_At (p : Program) (s : State) (m : MethodId) (meth : Method) (c : Code) (b L : Nat) (xs : Nat → Int32) : Prop :=
  p.tables.exec = Jvm.exec ∧ c.code = code ∧ meth.sig.returnType = ret ∧ c.maxLocals = 4 ∧ s.vm.findClass R_law = some m.cls ∧ (∀ w ∈ lw_tbl, w.before #[Value.ref b] s = true) ∧ va_X b L xs s s.heap ∧ b < s.heap.size ∧ meth.locks = false ∧ (Jvm.Cond.and given_1 narrow_1).before #[Value.ref b] s = true
set_option maxHeartbeats 8000000 in
set_option maxRecDepth 200000 in
/-- from the entry, for every script of at most 2048 ints, the law comes to its end with true -/
theorem whole_start {p : Program} {e : Env} {s : State} {m : MethodId} {below : List Frame} {meth : Method} {c : Code} (l : Launch) {b L : Nat} {xs : Nat → Int32} (hL : L ≤ 2048) (C0 : lw_At p s m meth c b L xs) : W p l e room_1 s m #[Value.ref b] below meth c s.heap [] 0 0 (lw_Z below #[Value.ref b] s) (entryFrame m ([Value.ref b] : List Value).toArray 4) := by
  obtain ⟨hx, hb, hr, hml, hown, hts0, hX, hbl, hlocks, hgv⟩ := id C0
  have hb : c.code = cL_law := hb
  have hown : s.vm.findClass RL = some m.cls := hown
  have hts : ∀ w ∈ wsL_law, w.before #[Value.ref b] s = true := fun w h => hts0 w (wsL_law_in w h)
  have S : CallFix p m c cL_law 4 s #[Value.ref b] wsL_law RL := ⟨hx, hb, hml, hown, hts⟩
  have hN : NN s := ⟨va_Nw.of rfl (hts0 (.methodLinkNest RX4 78 yX6_other "EyeBoard") (by decide +kernel)), va_Nw.of rfl (hts0 (.methodLinkNest RX0 45 yX6_other "EyeBoard") (by decide +kernel)), va_Nw.of rfl (hts0 (.methodLinkNest RX6 11 yX2_init "EyeBoard") (by decide +kernel)), va_Nw.of rfl (hts0 (.methodLinkNest RX6 44 yX5_init "EyeBoard") (by decide +kernel))⟩
  have hA : ∀ q : Nat, s.heap.size ≤ q → (fun q : Nat => s.heap.size ≤ q) q := fun _ h => h
  have hbA : ¬ (fun q : Nat => s.heap.size ≤ q) b := Nat.not_le.mpr hbl
  obtain ⟨c0, iS0, hKn0⟩ := u_known (C := RX0) (T := TX0) (N := 5) (n := 5) hts0 inX0 (hts0 (.instantiable RX0 5) (by decide +kernel))
  obtain ⟨c1, iS1, hKn1⟩ := u_known (C := RX1) (T := TX1) (N := 6) (n := 6) hts0 inX1 (hts0 (.instantiable RX1 6) (by decide +kernel))
  obtain ⟨c2, iS2, hKn2⟩ := u_known (C := RX2) (T := TX2) (N := 6) (n := 6) hts0 inX2 (hts0 (.instantiable RX2 6) (by decide +kernel))
  obtain ⟨c3, iS3, hKn3⟩ := u_known (C := RX3) (T := TX3) (N := 1) (n := 1) hts0 inX3 (hts0 (.instantiable RX3 1) (by decide +kernel))
  obtain ⟨c4, iS4, hKn4⟩ := u_known (C := RX4) (T := TX4) (N := 9) (n := 9) hts0 inX4 (hts0 (.instantiable RX4 9) (by decide +kernel))
  obtain ⟨c5, iS5, hKn5⟩ := u_known (C := RX5) (T := TX5) (N := 1) (n := 1) hts0 inX5 (hts0 (.instantiable RX5 1) (by decide +kernel))
  obtain ⟨c6, iS6, hKn6⟩ := u_known (C := RX6) (T := TX6) (N := 7) (n := 7) hts0 inX6 (hts0 (.instantiable RX6 7) (by decide +kernel))
  obtain ⟨c7, iS7, hKn7⟩ := u_known (C := RX7) (T := TX7) (N := 29) (n := 29) hts0 inX7 (hts0 (.instantiable RX7 29) (by decide +kernel))
  obtain ⟨dC, dI, hKc⟩ : ∃ (dC : Nat → ClassId) (dI : Nat → Nat → Nat), ∀ (k : Nat) (q : vw_C), vwCl[k]? = some q → u_Kn s q.1 q.2.1 q.2.2 (dC k) (dI k) := by
    refine ⟨fun k => if k = 0 then c0 else if k = 1 then c1 else if k = 2 then c2 else if k = 3 then c3 else if k = 4 then c4 else if k = 5 then c5 else if k = 6 then c6 else c7, fun k => if k = 0 then iS0 else if k = 1 then iS1 else if k = 2 then iS2 else if k = 3 then iS3 else if k = 4 then iS4 else if k = 5 then iS5 else if k = 6 then iS6 else iS7, ?_⟩
    intro k q hq
    match k, hq with
    | 0, hq => cases hq; exact hKn0
    | 1, hq => cases hq; exact hKn1
    | 2, hq => cases hq; exact hKn2
    | 3, hq => cases hq; exact hKn3
    | 4, hq => cases hq; exact hKn4
    | 5, hq => cases hq; exact hKn5
    | 6, hq => cases hq; exact hKn6
    | 7, hq => cases hq; exact hKn7
    | k + 8, hq => simp [vwCl] at hq
  have hS : va_S (fun q : Nat => s.heap.size ≤ q) s.heap s.heap [] := va_S.rf
  have hK : va_K (dC, dI) vwCl [] s := ⟨hKc, fun k q h => by simp at h⟩
  have hP : va_P (dC, dI) vwCl [] s.heap := fun k q h => by simp at h
  have hD : va_D (fun q : Nat => s.heap.size ≤ q) [] := ⟨fun i j p q h => by simp at h, fun k q h => by simp at h⟩
  have hl := lv_entry ([.ref b]) (n := 4) (Nat.le_of_ble_eq_true rfl)
  rw [lg_entry_eq]
  generalize (lg_sl ([.ref b]) ++ List.replicate (4 - (lg_sl ([.ref b])).length) Slot.unset).toArray = ls at hl ⊢
  have hl : lv_has ls 4 [(0, .ref b)] := hl
  obtain ⟨gd, G, hm0⟩ := f_measure (w := 5) (h := 5) (by decide) (by decide) (by decide) (by decide) 0 0 0 0 0 0
  have hq_X2_measure : f_X2_measure 0 0 0 0 0 0 (5 : Int32) (5 : Int32) = some (gd.1, nI 5, nI (5 * 5), gd.2.1, gd.2.2.1, gd.2.2.2) := hm0
  obtain ⟨q_X2_measure, hqm⟩ : ∃ q, q = (gd.1, nI 5, nI (5 * 5), gd.2.1, gd.2.2.1, gd.2.2.2) := ⟨_, rfl⟩
  rw [← hqm] at hq_X2_measure
  have hq_X4_begin := f_begin (N0 := 127) (bl := fun _ => 0) (wh := fun _ => 0) (by decide) (by decide) 0 0 0 0 0 1 0
  obtain ⟨q_X4_begin, hqb⟩ : ∃ q, q = ((0 : Int32), (0 : Int32), (1 : Int32), vp_updL (fun _ => 0) 0 0, vp_updL (fun _ => 0) 0 0) := ⟨_, rfl⟩
  rw [← hqb] at hq_X4_begin
  obtain ⟨nb, Nb0, hl0⟩ := f_lays (w := 5) (h := 5) (by decide) (by decide) (by decide) (by decide) 5 5 0 0 (fun _ => 0) (fun _ => 0) (fun _ => 0) (fun _ => 0) (fun _ => 0) (fun _ => 0) 0
  have hq_X7_lays : f_X7_lays (5 : Int32) (5 : Int32) 0 0 (fun _ => 0) (fun _ => 0) (fun _ => 0) (fun _ => 0) (fun _ => 0) (fun _ => 0) (5 : Int32) (5 : Int32) (0 : Int32) = some (nI 5, nI 5, 0, 0, nb, vp_updL (fun _ => 0) 0 0, vp_updL (fun _ => 0) 0 0, upd (fun _ => 0) 0 1, upd (fun _ => 0) 0 0, upd (fun _ => 0) 0 0) := hl0
  obtain ⟨q_X7_lays, hql⟩ : ∃ q, q = (nI 5, nI 5, (0 : Int32), (0 : Int32), nb, vp_updL (fun _ => 0) 0 0, vp_updL (fun _ => 0) 0 0, upd (fun _ => 0) 0 1, upd (fun _ => 0) 0 0, upd (fun _ => 0) 0 0) := ⟨_, rfl⟩
  rw [← hql] at hq_X7_lays
  refine va_new (ci := 6) (fs := [.null, .null, .null, .null, .null, .null, .int 0]) (C := RX6) (T := TX6) (N := 7) hx hb hts0 inX6 tyX6 tyX6_ok hown (hts0 (.classLink RL 7 RX6) (by decide +kernel)) (hts0 (.instantiable RX6 7) (by decide +kernel)) (hts0 (.initialized RX6) (by decide +kernel)) hK hP hD hS hA rfl (fun j hj => by rcases (show j = 0 ∨ j = 1 ∨ j = 2 ∨ j = 3 ∨ j = 4 ∨ j = 5 ∨ j = 6 by omega) with rfl | rfl | rfl | rfl | rfl | rfl | rfl <;> rfl) (Nat.le_of_ble_eq_true rfl) (Nat.le_of_ble_eq_true rfl) dL_law_0 (fun q0 H hP hD hS => ?_)
  have hP : va_P (dC, dI) vwCl [(q0, .inr (6, [.null, .null, .null, .null, .null, .null, .int 0]))] H := hP
  have hD : va_D (fun q : Nat => s.heap.size ≤ q) [(q0, .inr (6, [.null, .null, .null, .null, .null, .null, .int 0]))] := hD
  refine lv_dup hx hb dL_law_3 rfl ?_
  refine icI_B (As := []) (rest := [.ref q0]) (B := (fun (A : Nat → Prop) (t : State) => ∃ (g1 g2 g3 g4 g5 g6 g7 g8 g9 g10 g11 g12 g13 : Nat) (k0 k1 k2 k3 k4 k5 : ClassId), va_P (dC, dI) vwCl (wd_X6 q0 g1 g2 g3 g4 g5 g6 g7 g8 g9 g10 g11 g12 g13 k0 k1 k2 k3 k4 k5 127 41 (-1 : Int32) q_X2_measure.1 q_X2_measure.2.1 q_X2_measure.2.2.1 q_X2_measure.2.2.2.1 q_X2_measure.2.2.2.2.1 q_X2_measure.2.2.2.2.2 q_X4_begin.1 q_X4_begin.2.1 q_X4_begin.2.2.1 0 0 q_X4_begin.2.2.2.1 q_X4_begin.2.2.2.2 (fun _ => 0) 0 0 0 0 0 0 0 0 (fun _ => 0) (fun _ => 0) (fun _ => 0) 0 0 0) t.heap ∧ va_K (dC, dI) vwCl (td_X6 k0 k1 k2 k3 k4 k5) t ∧ va_D A (wd_X6 q0 g1 g2 g3 g4 g5 g6 g7 g8 g9 g10 g11 g12 g13 k0 k1 k2 k3 k4 k5 127 41 (-1 : Int32) q_X2_measure.1 q_X2_measure.2.1 q_X2_measure.2.2.1 q_X2_measure.2.2.2.1 q_X2_measure.2.2.2.2.1 q_X2_measure.2.2.2.2.2 q_X4_begin.1 q_X4_begin.2.1 q_X4_begin.2.2.1 0 0 q_X4_begin.2.2.2.1 q_X4_begin.2.2.2.2 (fun _ => 0) 0 0 0 0 0 0 0 0 (fun _ => 0) (fun _ => 0) (fun _ => 0) 0 0 0))) S (c_X6_init l dC dI q0 H.size q_X2_measure hq_X2_measure q_X4_begin hq_X4_begin) (cwI 0 hts gL_law_X6_init rfl rfl rfl (hts0 (.initialized RX6) (by decide +kernel)) (hts0 (.methodLink RL 9 yX6_init) (by decide +kernel)) (hts0 (.instanceMethod yX6_init) (by decide +kernel)) rfl (by decide +kernel) ⟨(Nat.le_of_ble_eq_true rfl), (Nat.le_of_ble_eq_true rfl)⟩) hN hP hK hD hS hA (Nat.le_of_ble_eq_true rfl) (Nat.le_of_ble_eq_true rfl) [0] [] rfl rfl rfl rfl rfl (by decide) rfl hl.1 rfl (Nat.le_of_ble_eq_true rfl) dL_law_4 (fun H locs t ht hvm hB hj hS => ?_)
  obtain ⟨g1, g2, g3, g4, g5, g6, g7, g8, g9, g10, g11, g12, g13, k0, k1, k2, k3, k4, k5, hP1, hK1, hD1⟩ := hB
  rw [ht] at hP1
  obtain ⟨hP, hD⟩ := hj _ hP1 hD1
  have hK := hK.app (va_K.moved hvm.symm hK1)
  have hP : va_P (dC, dI) vwCl (wd_X6 q0 g1 g2 g3 g4 g5 g6 g7 g8 g9 g10 g11 g12 g13 k0 k1 k2 k3 k4 k5 127 41 (-1 : Int32) q_X2_measure.1 q_X2_measure.2.1 q_X2_measure.2.2.1 q_X2_measure.2.2.2.1 q_X2_measure.2.2.2.2.1 q_X2_measure.2.2.2.2.2 q_X4_begin.1 q_X4_begin.2.1 q_X4_begin.2.2.1 0 0 q_X4_begin.2.2.2.1 q_X4_begin.2.2.2.2 (fun _ => 0) 0 0 0 0 0 0 0 0 (fun _ => 0) (fun _ => 0) (fun _ => 0) 0 0 0) H := hP
  have hD : va_D (fun q : Nat => s.heap.size ≤ q) (wd_X6 q0 g1 g2 g3 g4 g5 g6 g7 g8 g9 g10 g11 g12 g13 k0 k1 k2 k3 k4 k5 127 41 (-1 : Int32) q_X2_measure.1 q_X2_measure.2.1 q_X2_measure.2.2.1 q_X2_measure.2.2.2.1 q_X2_measure.2.2.2.2.1 q_X2_measure.2.2.2.2.2 q_X4_begin.1 q_X4_begin.2.1 q_X4_begin.2.2.1 0 0 q_X4_begin.2.2.2.1 q_X4_begin.2.2.2.2 (fun _ => 0) 0 0 0 0 0 0 0 0 (fun _ => 0) (fun _ => 0) (fun _ => 0) 0 0 0) := hD
  have hK : va_K (dC, dI) vwCl (td_X6 k0 k1 k2 k3 k4 k5) s := hK
  clear hP1 hK1 hD1 hj ht hvm
  refine lv_astore_n (lv' := [(1, .ref q0), (0, .ref b)]) hx hb dL_law_7 rfl hl (by decide) rfl (fun ls hl => ?_)
  refine va_new (ci := 7) (fs := [.int 0, .int 0, .int 0, .null, .int 0, .null, .null, .null, .null, .null, .null, .long 0, .long 0, .int 0, .int 0, .int 0, .null, .null, .null, .null, .null, .null, .null, .null, .null, .null, .null, .int 0, .null]) (C := RX7) (T := TX7) (N := 29) hx hb hts0 inX7 tyX7 tyX7_ok hown (hts0 (.classLink RL 10 RX7) (by decide +kernel)) (hts0 (.instantiable RX7 29) (by decide +kernel)) (hts0 (.initialized RX7) (by decide +kernel)) hK hP hD hS hA rfl (fun j hj => by rcases (show j = 0 ∨ j = 1 ∨ j = 2 ∨ j = 3 ∨ j = 4 ∨ j = 5 ∨ j = 6 ∨ j = 7 ∨ j = 8 ∨ j = 9 ∨ j = 10 ∨ j = 11 ∨ j = 12 ∨ j = 13 ∨ j = 14 ∨ j = 15 ∨ j = 16 ∨ j = 17 ∨ j = 18 ∨ j = 19 ∨ j = 20 ∨ j = 21 ∨ j = 22 ∨ j = 23 ∨ j = 24 ∨ j = 25 ∨ j = 26 ∨ j = 27 ∨ j = 28 by omega) with rfl | rfl | rfl | rfl | rfl | rfl | rfl | rfl | rfl | rfl | rfl | rfl | rfl | rfl | rfl | rfl | rfl | rfl | rfl | rfl | rfl | rfl | rfl | rfl | rfl | rfl | rfl | rfl | rfl <;> rfl) (Nat.le_of_ble_eq_true rfl) (Nat.le_of_ble_eq_true rfl) dL_law_8 (fun q1 H hP hD hS => ?_)
  refine lv_dup hx hb dL_law_11 rfl ?_
  refine icI_B (As := []) (rest := [.ref q1]) (wc := [(q1, .inr (7, [.int 0, .int 0, .int 0, .null, .int 0, .null, .null, .null, .null, .null, .null, .long 0, .long 0, .int 0, .int 0, .int 0, .null, .null, .null, .null, .null, .null, .null, .null, .null, .null, .null, .int 0, .null]))]) (B := (fun (A : Nat → Prop) (t : State) => ∃ (ad : Nat → Nat) (cA : Nat → ClassId), ad 0 = q1 ∧ va_P (dC, dI) vwCl (wd_X7 ad cA q_X7_lays.1 q_X7_lays.2.1 q_X7_lays.2.2.1 q_X7_lays.2.2.2.1 0 0 0 0 0 (-1 : Int32) q_X7_lays.2.2.2.2.1 (fun _ => 0) q_X7_lays.2.2.2.2.2.1 q_X7_lays.2.2.2.2.2.2.1 q_X7_lays.2.2.2.2.2.2.2.1 q_X7_lays.2.2.2.2.2.2.2.2.1 q_X7_lays.2.2.2.2.2.2.2.2.2 (fun _ => 0) (fun _ => 0) (fun _ => 0) (fun _ => 0) (fun _ => 0) (fun _ => 0) (fun _ => 0) (fun _ => 0) (fun _ => 0) (fun _ => 0) (fun _ => 0) (fun _ => 0)) t.heap ∧ va_K (dC, dI) vwCl (td_X7 cA) t ∧ va_D A (wd_X7 ad cA q_X7_lays.1 q_X7_lays.2.1 q_X7_lays.2.2.1 q_X7_lays.2.2.2.1 0 0 0 0 0 (-1 : Int32) q_X7_lays.2.2.2.2.1 (fun _ => 0) q_X7_lays.2.2.2.2.2.1 q_X7_lays.2.2.2.2.2.2.1 q_X7_lays.2.2.2.2.2.2.2.1 q_X7_lays.2.2.2.2.2.2.2.2.1 q_X7_lays.2.2.2.2.2.2.2.2.2 (fun _ => 0) (fun _ => 0) (fun _ => 0) (fun _ => 0) (fun _ => 0) (fun _ => 0) (fun _ => 0) (fun _ => 0) (fun _ => 0) (fun _ => 0) (fun _ => 0) (fun _ => 0)))) S (c_X7_init l dC dI q1 H.size q_X7_lays hq_X7_lays) (cwI 0 hts gL_law_X7_init rfl rfl rfl (hts0 (.initialized RX7) (by decide +kernel)) (hts0 (.methodLink RL 12 yX7_init) (by decide +kernel)) (hts0 (.instanceMethod yX7_init) (by decide +kernel)) rfl (by decide +kernel) ⟨(Nat.le_of_ble_eq_true rfl), (Nat.le_of_ble_eq_true rfl)⟩) hN hP hK hD hS hA (Nat.le_of_ble_eq_true rfl) (Nat.le_of_ble_eq_true rfl) [14] [0, 1, 2, 3, 4, 5, 6, 7, 8, 9, 10, 11, 12, 13] rfl rfl rfl rfl rfl (by decide) rfl hl.1 rfl (Nat.le_of_ble_eq_true rfl) dL_law_12 (fun H locs t ht hvm hB hj hS => ?_)
  obtain ⟨ad, cA, had, hP1, hK1, hD1⟩ := hB
  subst had
  rw [ht] at hP1
  obtain ⟨hP, hD⟩ := hj _ hP1 hD1
  have hK := hK.app (va_K.moved hvm.symm hK1)
  have hP : va_P (dC, dI) vwCl (wd_L q0 g1 g2 g3 g4 g5 g6 g7 g8 g9 g10 g11 g12 g13 k0 k1 k2 k3 k4 k5 ad cA (-1 : Int32) q_X2_measure.1 q_X2_measure.2.1 q_X2_measure.2.2.1 q_X2_measure.2.2.2.1 q_X2_measure.2.2.2.2.1 q_X2_measure.2.2.2.2.2 q_X4_begin.1 q_X4_begin.2.1 q_X4_begin.2.2.1 0 0 q_X4_begin.2.2.2.1 q_X4_begin.2.2.2.2 (fun _ => 0) 0 0 0 0 0 0 0 0 (fun _ => 0) (fun _ => 0) (fun _ => 0) 0 0 0 q_X7_lays.1 q_X7_lays.2.1 q_X7_lays.2.2.1 q_X7_lays.2.2.2.1 0 0 0 0 0 (-1 : Int32) q_X7_lays.2.2.2.2.1 (fun _ => 0) q_X7_lays.2.2.2.2.2.1 q_X7_lays.2.2.2.2.2.2.1 q_X7_lays.2.2.2.2.2.2.2.1 q_X7_lays.2.2.2.2.2.2.2.2.1 q_X7_lays.2.2.2.2.2.2.2.2.2 (fun _ => 0) (fun _ => 0) (fun _ => 0) (fun _ => 0) (fun _ => 0) (fun _ => 0) (fun _ => 0) (fun _ => 0) (fun _ => 0) (fun _ => 0) (fun _ => 0) (fun _ => 0)) H := hP
  have hD : va_D (fun q : Nat => s.heap.size ≤ q) (wd_L q0 g1 g2 g3 g4 g5 g6 g7 g8 g9 g10 g11 g12 g13 k0 k1 k2 k3 k4 k5 ad cA (-1 : Int32) q_X2_measure.1 q_X2_measure.2.1 q_X2_measure.2.2.1 q_X2_measure.2.2.2.1 q_X2_measure.2.2.2.2.1 q_X2_measure.2.2.2.2.2 q_X4_begin.1 q_X4_begin.2.1 q_X4_begin.2.2.1 0 0 q_X4_begin.2.2.2.1 q_X4_begin.2.2.2.2 (fun _ => 0) 0 0 0 0 0 0 0 0 (fun _ => 0) (fun _ => 0) (fun _ => 0) 0 0 0 q_X7_lays.1 q_X7_lays.2.1 q_X7_lays.2.2.1 q_X7_lays.2.2.2.1 0 0 0 0 0 (-1 : Int32) q_X7_lays.2.2.2.2.1 (fun _ => 0) q_X7_lays.2.2.2.2.2.1 q_X7_lays.2.2.2.2.2.2.1 q_X7_lays.2.2.2.2.2.2.2.1 q_X7_lays.2.2.2.2.2.2.2.2.1 q_X7_lays.2.2.2.2.2.2.2.2.2 (fun _ => 0) (fun _ => 0) (fun _ => 0) (fun _ => 0) (fun _ => 0) (fun _ => 0) (fun _ => 0) (fun _ => 0) (fun _ => 0) (fun _ => 0) (fun _ => 0) (fun _ => 0)) := hD
  have hK : va_K (dC, dI) vwCl (td_L k0 k1 k2 k3 k4 k5 cA) s := hK
  clear hP1 hK1 hD1 hj ht hvm
  refine lv_astore_n (lv' := [(2, .ref (ad 0)), (1, .ref q0), (0, .ref b)]) hx hb dL_law_15 rfl hl (by decide) rfl (fun ls hl => ?_)
  refine lv_iconst (v := (0 : Int32)) hx hb dL_law_16 (by decide) ?_
  refine lv_istore_n (lv' := [(3, .int (0 : Int32)), (2, .ref (ad 0)), (1, .ref q0), (0, .ref b)]) hx hb dL_law_17 rfl hl (by decide) rfl (fun ls hl => ?_)
  subst hqm hqb hql
  refine law_loop dC dI _ _ _ _ _ _ _ _ _ _ _ _ _ _ _ _ _ _ _ _ _ _ _ _ _ _ _ _ _ _ _ _ _ _ _ _ _ _ _ _ _ _ _ _ _ _ _ _ _ _ _ _ _ _ _ _ _ _ _ _ _ _ _ _ _ _ _ _ _ _ _ _ _ _ _ _ _ _ _ _ b L xs 0 1 rfl (Nat.le_of_ble_eq_true rfl) (Nat.le_of_ble_eq_true rfl) ⟨(Nat.le_of_ble_eq_true rfl), (Nat.le_of_ble_eq_true rfl)⟩ S hN hP hK hD hA hS hX hbl hbA (lv_sub hl [3, 2, 1, 0] rfl) (fun H locs pc ls hd _ _ hS => va_forget (fun q hq => hS.2.2 q hq) (W.widen (k := 600000) (n := 7302250) (Nat.le_of_ble_eq_true rfl) (Nat.le_of_ble_eq_true rfl) (lw_ret hx hb hr hlocks hd))) ?_
  have hFU := FU_ge
  refine law_ok xs L hL FU 0 _ _ _ _ _ _ _ _ _ _ _ _ _ _ _ _ _ _ _ _ _ _ _ _ _ _ _ _ _ _ _ _ _ _ _ _ _ _ _ _ _ _ _ _ _ _ _ _ _ _ _ _ _ _ _ _ _ _ (Nat.zero_le _) (by omega) ⟨5, 5, 0, 0, 1, gd, rfl, rfl, rfl, rfl, rfl, rfl, rfl, rfl, rfl, rfl, rfl, rfl, rfl, ?_⟩
  refine ⟨G, Nb0, by omega, by omega, Or.inl rfl, fun i hi => ?_, fun i hi => ?_, fun i hi => absurd hi (Nat.not_lt_zero i), ?_, ?_⟩
  · have : i = 0 := by omega
    subst this
    dsimp only
    rw [pk_uLs]
    exact ⟨rfl, rfl⟩
  · have : i = 0 := by omega
    subst this
    dsimp only
    rw [pk_uLs, pk_us]
    exact ⟨Bd_0 gd _, rfl⟩
  · dsimp only
    rw [pk_us]
  · dsimp only
    rw [pk_us]
set_option maxHeartbeats 4000000 in
theorem lw_walk (l : Launch) (b : Addr) (xs : List Int32) : MetFree l x (headSpec (Jvm.Cond.code x code maxLocals ret :: tables_1) room_1) (lw_P b xs) (fun _ _ _ _ _ => True) lw_Q := by
  refine MetFree.of_bodyS (code := code) (maxLocals := maxLocals) (ret := ret) (by decide) ?_ ?_
  · intro args s m h hn
    obtain ⟨meth, c, h1, h2, h3, h4, h5, h6, -, -⟩ := Cond.code_spec hn (atoms_spec (ws := Jvm.Cond.code x code maxLocals ret :: tables_1) h _ List.mem_cons_self)
    exact ⟨meth, c, h1, h2, h3, h4, h5, h6⟩
  · intro p e s m args below meth c s₁ B hml0 hP _
    obtain ⟨rfl, hx, hbd, hgv⟩ := hP
    obtain ⟨scr, harrAt, hlist, hof, hsmall⟩ := hx
    obtain ⟨hcb, hkn, -, -⟩ := State.arrayAt?_spec harrAt
    have hown : s.vm.findClass R_law = some m.cls := findClass_of_methodNamed B.named
    have hts0 : ∀ c ∈ (Jvm.Cond.code x code maxLocals ret :: tables_1), c.before #[Value.ref b] s = true := atoms_spec (ws := Jvm.Cond.code x code maxLocals ret :: tables_1) B.pre
    have hts : ∀ w ∈ lw_tbl, w.before #[Value.ref b] s = true := k2_hts_sels lw_privs (fun w hw => hts0 w (List.mem_cons_of_mem _ hw)) lw_privs_ok
    have hml : c.maxLocals = 4 := B.maxLocals_eq (hts0 _ List.mem_cons_self)
    have X₀ : Stand p l e room_1 s m #[Value.ref b] below meth c s₁ [] 0 0 := Stand.of_body B
    have hh0 : s₁.heap = s.heap := by rw [B.state]; rfl
    have hsz : scr.slots.size = xs.length := by rw [← Array.length_toList, hlist, List.length_map]
    have hval : ∀ j : Nat, j < xs.length → scr.slots[j]? = some (.int (xs.getD j 0)) := fun j hj => by
      rw [← Array.getElem?_toList, hlist]
      simp [hj]
    have hbl : b < s.heap.size := (Array.getElem?_eq_some_iff.mp hcb).1
    have hX : va_X b xs.length (fun j => xs.getD j 0) s s.heap := ⟨scr, hcb, hof, hkn, hsz, hval⟩
    have K : W p l e room_1 s m #[Value.ref b] below meth c s₁.heap [] 0 0 (lw_Z below #[Value.ref b] s) (entryFrame m ([Value.ref b] : List Value).toArray 4) := by
      rw [hh0]
      exact whole_start l hbd ⟨B.exec, B.bytes, B.returns, hml, hown, hts, hX, hbl, B.notSynchronized, hgv⟩
    obtain ⟨t, a1, o, b1, b2, b3⟩ := K s₁ rfl X₀
    exact ⟨t, o, a1, b1, b2, b3⟩
theorem lw_pre_spec {args : Array Value} {s : State} (h : (Jvm.Cond.and given_1 narrow_1).before args s = true) (hr : rest_1_c.before args s = true) : ∃ (b : Addr) (xs : List Int32), lw_P b xs args s := by
  have hs := flat_of_before _ h
  have hq := flat_of_before _ hr
  have hc : (Cond.count 1).before args s = true := hs _ (by decide +kernel)
  have harr : (Cond.arrayOf (.arg 0) .int).before args s = true := hs _ (by decide +kernel)
  have hle : (Cond.le (.length (.arg 0)) (.int 2048)).before args s = true := hs _ (by decide +kernel)
  have hlen : (Cond.isInt (.length (.arg 0))).before args s = true := hq _ (by decide +kernel)
  have hall : (Cond.all (.arg 0) (.isInt (.elem (.arg 0) (.index 0)))).before args s = true := hq _ (by decide +kernel)
  obtain ⟨b, xs, hb, hx⟩ := State.ints_of_pre rfl harr hlen hall
  have hsm : xs.length < 2 ^ 31 := hx.choose_spec.2.2.2
  have hev : (Term.length (.arg 0)).eval args s none [] s = some (.int xs.length.toInt32) := hx.length_eval hb
  have hv := Cond.le_ints hev (show (Term.int 2048).eval args s none [] s = some (.int 2048) from rfl)
  have hd : xs.length.toInt32 ≤ 2048 := by
    simpa [Cond.before, Cond.holds, hv] using hle
  have hN : xs.length ≤ 2048 := (Int32.ofNat_le_ofNat hsm (by decide)).mp (show Int32.ofNat xs.length ≤ Int32.ofNat 2048 from hd)
  exact ⟨b, xs, Cond.one_arg hc (show args[0]? = some (.ref b) from hb), hx, hN, h⟩
theorem lw_comes (l : Launch) : Comes l x (Jvm.Cond.code x code maxLocals ret :: tables_1) room_1 (fun tb e args s => Calls_1 tb e args s ∧ rest_1 tb e args s ∧ Pre_1 tb e args s)
    (fun _ _ args s o t => lw_Q args s o t) := by
  intro p e ha hc hk s m args below hf hfit hheap happ hpre
  obtain ⟨b, xs, hP⟩ := lw_pre_spec hpre.2.2 hpre.2.1
  obtain ⟨k, o, h1, h2, h3, hQ⟩ := lw_walk l b xs p e ha hc hk s m args below hf ((Spec.applies_iff_loose hf).mp happ).1 hP trivial
  exact ⟨k, o, h1, h2, h3, hQ⟩
theorem lw_frame {s t : State} {o : Outcome} {args : Array Value} (h : Framed s o t [] 600000 7302250) :
    Framed s o t (fieldLocs frame_1_writes args s ++ arrayLocs frame_1_arrays args s ++ staticLocs frame_1_statics s) 600000 7302250 := h
theorem lw_limb (L : Cond) (hL : ∀ (args : Array Value) (s t : State), L.after args s (.returned (some (.int 1))) t = true) :
    ArmFor flags0 classFile x code maxLocals ret World_1 tables_1 room_1 Calls_1 rest_1 Pre_1
      (fun tb e a s o t => postC L tb e a s o t ∧ Framed s o t (fieldLocs frame_1_writes a s ++ arrayLocs frame_1_arrays a s ++ staticLocs frame_1_statics s) 600000 7302250) := by
  intro l _ _ _ p e ha hc hk s m args below hf hfit hheap happ hpre
  obtain ⟨k, o, h1, h2, h3, rfl, hF⟩ := lw_comes l p e ha hc hk s m args below hf hfit hheap happ hpre
  exact ⟨k, _, h1, h2, h3, hL args s _, lw_frame hF⟩
theorem i_vc : Claimed_1_1 ∧ Claimed_1_2 := ⟨lw_limb limb_1_1 (fun args s t => by simp [limb_1_1, Cond.after, Cond.holds, Cond.value]), lw_limb limb_1_2 (fun args s t => Cond.after_iff.mpr (by
  first | (rw [show limb_1_2 = Cond.eq .result (.int 1) from rfl, Cond.eq_ints (x := 1) (y := 1) rfl rfl]; simp; done) | (simp [limb_1_2, Cond.value, Term.eval]; done)))⟩
