/-! Constructors: worlds that grow. -/
def adL (l : List Nat) : Nat → Nat := fun k => l.getD k 0
def caL (l : List ClassId) : Nat → ClassId := fun k => l.getD k 0
theorem nw_J (cA : ClassId) (N : Nat) : vp_cell cA (N, .inr (.inl (fun _ => 0))) = arrV cA N (fun _ => defaultValue .long) := by rw [vp_cell_l]; rfl
theorem nw_I (cA : ClassId) (N : Nat) : vp_cell cA (N, .inl (fun _ => 0)) = arrV cA N (fun _ => defaultValue .int) := by rw [vp_cell_i]; rfl
theorem nw_Z (cA : ClassId) (N : Nat) : vp_cell cA (N, .inl (fun _ => 0)) = arrV cA N (fun _ => defaultValue .boolean) := by rw [vp_cell_i]; rfl
abbrev rowW0 (b : Nat) : va_W := [(b, .inr (4, [.null, .null, .null, .null, .int 0, .int 0, .int 0, .long 0, .long 0]))]
abbrev rowW1 (b g N q1 q2 q3 : Nat) (k1 k2 k3 : ClassId) : va_W := [(b, .inr (4, [.ref g, .ref q1, .ref q2, .ref q3, .int 0, .int 0, .int 0, .long 0, .long 0])), (q1, .inl (k1, N, .inr (.inl (fun _ => 0)))), (q2, .inl (k2, N, .inr (.inl (fun _ => 0)))), (q3, .inl (k3, N, .inl (fun _ => 0)))]
def rowB (dC : Nat → ClassId) (dI : Nat → Nat → Nat) (b g N : Nat) (A : Nat → Prop) (t : State) : Prop := ∃ (q1 q2 q3 : Nat) (k1 k2 k3 : ClassId), va_P (dC, dI) vwCl (rowW1 b g N q1 q2 q3 k1 k2 k3) t.heap ∧ va_K (dC, dI) vwCl [(k1, .long), (k2, .long), (k3, .int)] t ∧ va_D A (rowW1 b g N q1 q2 q3 k1 k2 k3)
section IB
variable {p : Program} {l : Launch} {e : Env} {R : Room} {s : State} {m : MethodId} {args : Array Value} {below : List Frame} {meth : Method} {c : Code} {H H0 : Heap} {locs : List Loc} {cells slots : Nat} {Q : State → Prop}
variable {D : va_G} {ws wc w1 : va_W} {tys tc : List (ClassId × FieldType)} {A : Nat → Prop} {cc bytes : ByteArray} {nL maxL index n pc : Nat} {own : String} {y : MethodName} {rm : Room} {wsy Ts : List Cond} {b : Addr} {As rest st0 : List Value} {ls : Array Slot}
theorem icI_v {ws2 : va_W} (S : CallFix p m c cc nL s args Ts own) (hM : Met l y wsy rm (PrI D wc tc H.size (.ref b :: As)) (QIv D wc tc H.size w1) 0 0 (va_A wc H.size)) (cw : CallB R s args own index y bytes maxL none wsy rm 0 0 n ∧ y.name = "<init>" ∧ (Cond.instanceMethod y).before args s = true)
    (hN : NN s) (hP : va_P D vwCl ws H) (hK : va_K D vwCl tys s) (hD : va_D A ws) (hS : va_S A H0 H locs) (hA : ∀ q, H0.size ≤ q → A q) (hcs : cells ≤ R.cells ∧ slots ≤ R.slots) (iw ir perm : List Nat) (hiw : iw.filterMap (fun i => ws[i]?) = wc) (hiw2 : iw.map (fun i => ws[i]?) = wc.map some) (hnd : va_nd iw = true)
    (hir : ir.map (fun i => ws[i]?) = (ir.filterMap (fun i => ws[i]?)).map some) (hnr : va_nd ir = true) (hdis : ∀ i ∈ ir, i ∉ iw) (hpm : perm.filterMap (fun i => (ir.filterMap (fun i => ws[i]?) ++ w1)[i]?) = ws2) (hpm2 : perm.map (fun i => (ir.filterMap (fun i => ws[i]?) ++ w1)[i]?) = ws2.map some) (hnp : va_nd perm = true)
    (it : List Nat) (hit : it.filterMap (fun i => tys[i]?) = tc) (hn : As.length = n) (hls : ls.size = nL) (hst : st0 = As.reverse ++ .ref b :: rest) (hsum : (rest.map fun v => v.category).sum ≤ 8) (hdg : decode cc pc = .ok (.invokespecial index, 3))
    (kk : ∀ (H1 : Heap) (locs1 : List Loc), va_P D vwCl ws2 H1 → va_D A ws2 → va_S A H0 H1 locs1 → W p l e R s m args below meth c H1 locs1 cells slots Q (F0 m (pc + 3) ls rest)) : W p l e R s m args below meth c H locs cells slots Q (F0 m pc ls st0) := by
  have hFc := va_free (wc := wc) hD hS hA iw hiw2
  refine va_callv (va_runI (As := As) (rest := rest) S hM cw ⟨PrI.blind, fun U hU hW => ⟨rfl, NN.warm hW hN, by rw [hU], by rw [hU]; exact hP.sub iw hiw, va_K.moved hW.alike (hK.sub it hit), (hD.sub iw hnd hiw2).weaken (fun _ _ _ _ => trivial)⟩⟩ rfl hn hls hst (lv_room hsum) hdg hcs) hS (fun q _ h => hFc q h) hFc (fun u t H1 locs1 ht hvm hw hB hz1 hk1 hS => ?_)
  obtain ⟨hP1, hK1, hD1⟩ := hB
  rw [ht] at hP1
  obtain ⟨hP, hD⟩ := va_join (wc := wc) hP hD iw ir hiw2 hir hnr hdis hk1 hFc hP1 hD1
  exact kk H1 locs1 (hP.sub perm hpm) (hD.sub perm hnp hpm2) hS
theorem icI_vN {host : String} {ws2 : va_W} (S : CallFix p m c cc nL s args Ts own) (hM : Met l y wsy rm (PrI D wc tc H.size (.ref b :: As)) (QIv D wc tc H.size w1) 0 0 (va_A wc H.size)) (cw : va_CN R s args own index y host bytes maxL none wsy rm 0 0 n ∧ y.name = "<init>" ∧ (Cond.instanceMethod y).before args s = true)
    (hN : NN s) (hP : va_P D vwCl ws H) (hK : va_K D vwCl tys s) (hD : va_D A ws) (hS : va_S A H0 H locs) (hA : ∀ q, H0.size ≤ q → A q) (hcs : cells ≤ R.cells ∧ slots ≤ R.slots) (iw ir perm : List Nat) (hiw : iw.filterMap (fun i => ws[i]?) = wc) (hiw2 : iw.map (fun i => ws[i]?) = wc.map some) (hnd : va_nd iw = true)
    (hir : ir.map (fun i => ws[i]?) = (ir.filterMap (fun i => ws[i]?)).map some) (hnr : va_nd ir = true) (hdis : ∀ i ∈ ir, i ∉ iw) (hpm : perm.filterMap (fun i => (ir.filterMap (fun i => ws[i]?) ++ w1)[i]?) = ws2) (hpm2 : perm.map (fun i => (ir.filterMap (fun i => ws[i]?) ++ w1)[i]?) = ws2.map some) (hnp : va_nd perm = true)
    (it : List Nat) (hit : it.filterMap (fun i => tys[i]?) = tc) (hn : As.length = n) (hls : ls.size = nL) (hst : st0 = As.reverse ++ .ref b :: rest) (hsum : (rest.map fun v => v.category).sum ≤ 8) (hdg : decode cc pc = .ok (.invokespecial index, 3))
    (kk : ∀ (H1 : Heap) (locs1 : List Loc), va_P D vwCl ws2 H1 → va_D A ws2 → va_S A H0 H1 locs1 → W p l e R s m args below meth c H1 locs1 cells slots Q (F0 m (pc + 3) ls rest)) : W p l e R s m args below meth c H locs cells slots Q (F0 m pc ls st0) := by
  have hFc := va_free (wc := wc) hD hS hA iw hiw2
  refine va_callv (va_runIN (As := As) (rest := rest) S hM cw ⟨PrI.blind, fun U hU hW => ⟨rfl, NN.warm hW hN, by rw [hU], by rw [hU]; exact hP.sub iw hiw, va_K.moved hW.alike (hK.sub it hit), (hD.sub iw hnd hiw2).weaken (fun _ _ _ _ => trivial)⟩⟩ rfl hn hls hst (lv_room hsum) hdg hcs) hS (fun q _ h => hFc q h) hFc (fun u t H1 locs1 ht hvm hw hB hz1 hk1 hS => ?_)
  obtain ⟨hP1, hK1, hD1⟩ := hB
  rw [ht] at hP1
  obtain ⟨hP, hD⟩ := va_join (wc := wc) hP hD iw ir hiw2 hir hnr hdis hk1 hFc hP1 hD1
  exact kk H1 locs1 (hP.sub perm hpm) (hD.sub perm hnp hpm2) hS
/-- a constructor that makes cells: what it leaves, behind the caller's rest -/
theorem icI_B {B : (Nat → Prop) → State → Prop} {mc ms : Nat} (S : CallFix p m c cc nL s args Ts own) (hM : Met l y wsy rm (PrI D wc [] H.size (.ref b :: As)) (va_Qv (fun (_ : Unit) => True) (fun _ t => B (va_A wc H.size) t) (va_A wc H.size)) mc ms (va_A wc H.size)) (cw : CallB R s args own index y bytes maxL none wsy rm mc ms n ∧ y.name = "<init>" ∧ (Cond.instanceMethod y).before args s = true)
    (hN : NN s) (hP : va_P D vwCl ws H) (hK : va_K D vwCl tys s) (hD : va_D A ws) (hS : va_S A H0 H locs) (hA : ∀ q, H0.size ≤ q → A q) (hc1 : cells + mc ≤ R.cells) (hc2 : slots + ms ≤ R.slots) (iw ir : List Nat) (hiw : iw.filterMap (fun i => ws[i]?) = wc) (hiw2 : iw.map (fun i => ws[i]?) = wc.map some) (hnd : va_nd iw = true)
    (hir : ir.map (fun i => ws[i]?) = (ir.filterMap (fun i => ws[i]?)).map some) (hnr : va_nd ir = true) (hdis : ∀ i ∈ ir, i ∉ iw) (hn : As.length = n) (hls : ls.size = nL) (hst : st0 = As.reverse ++ .ref b :: rest) (hsum : (rest.map fun v => v.category).sum ≤ 8) (hdg : decode cc pc = .ok (.invokespecial index, 3))
    (kk : ∀ (H1 : Heap) (locs1 : List Loc) (t : State), t.heap = H1 → s.vm.Alike t.vm → B (va_A wc H.size) t → (∀ w1 : va_W, va_P D vwCl w1 H1 → va_D (va_A wc H.size) w1 → va_P D vwCl (ir.filterMap (fun i => ws[i]?) ++ w1) H1 ∧ va_D A (ir.filterMap (fun i => ws[i]?) ++ w1)) → va_S A H0 H1 locs1 → W p l e R s m args below meth c H1 locs1 (cells + mc) (slots + ms) Q (F0 m (pc + 3) ls rest)) : W p l e R s m args below meth c H locs cells slots Q (F0 m pc ls st0) := by
  have hFc := va_free (wc := wc) hD hS hA iw hiw2
  refine va_callv (va_runI (As := As) (rest := rest) S hM cw ⟨PrI.blind, fun U hU hW => ⟨rfl, NN.warm hW hN, by rw [hU], by rw [hU]; exact hP.sub iw hiw, va_K.moved hW.alike (hK.sub [] rfl), (hD.sub iw hnd hiw2).weaken (fun _ _ _ _ => trivial)⟩⟩ rfl hn hls hst (lv_room hsum) hdg ⟨hc1, hc2⟩) hS (fun q _ h => hFc q h) hFc (fun u t H1 locs1 ht hvm hw hB hz1 hk1 hS => ?_)
  exact kk H1 locs1 t ht hvm hB (fun w1 hP1 hD1 => va_join (wc := wc) hP hD iw ir hiw2 hir hnr hdis hk1 hFc hP1 hD1) hS
theorem icI_row {dC : Nat → ClassId} {dI : Nat → Nat → Nat} {g N : Nat} (S : CallFix p m c cc nL s args Ts own)
    (hM : Met l y wsy rm (PrI (dC, dI) (rowW0 b) [] H.size (.ref b :: As)) (va_Qv (fun (_ : Unit) => True) (fun _ t => rowB dC dI b g N (va_A (rowW0 b) H.size) t) (va_A (rowW0 b) H.size)) 3 (3 * N) (va_A (rowW0 b) H.size))
    (cw : CallB R s args own index y bytes maxL none wsy rm 3 (3 * N) n ∧ y.name = "<init>" ∧ (Cond.instanceMethod y).before args s = true)
    (hN : NN s) (hP : va_P (dC, dI) vwCl ws H) (hK : va_K (dC, dI) vwCl tys s) (hD : va_D A ws) (hS : va_S A H0 H locs) (hA : ∀ q, H0.size ≤ q → A q) (hc1 : cells + 3 ≤ R.cells) (hc2 : slots + 3 * N ≤ R.slots) (i : Nat) (ir : List Nat) (hi : ws[i]? = some (b, .inr (4, [.null, .null, .null, .null, .int 0, .int 0, .int 0, .long 0, .long 0])))
    (hir : ir.map (fun i => ws[i]?) = (ir.filterMap (fun i => ws[i]?)).map some) (hnr : va_nd ir = true) (hdis : ∀ j ∈ ir, j ∉ [i]) (hn : As.length = n) (hls : ls.size = nL) (hst : st0 = As.reverse ++ .ref b :: rest) (hsum : (rest.map fun v => v.category).sum ≤ 8) (hdg : decode cc pc = .ok (.invokespecial index, 3))
    (kk : ∀ (q1 q2 q3 : Nat) (k1 k2 k3 : ClassId) (H1 : Heap) (locs1 : List Loc), va_P (dC, dI) vwCl (ir.filterMap (fun i => ws[i]?) ++ rowW1 b g N q1 q2 q3 k1 k2 k3) H1 → va_K (dC, dI) vwCl (tys ++ [(k1, .long), (k2, .long), (k3, .int)]) s → va_D A (ir.filterMap (fun i => ws[i]?) ++ rowW1 b g N q1 q2 q3 k1 k2 k3) → va_S A H0 H1 locs1 → W p l e R s m args below meth c H1 locs1 (cells + 3) (slots + 3 * N) Q (F0 m (pc + 3) ls rest)) : W p l e R s m args below meth c H locs cells slots Q (F0 m pc ls st0) := by
  refine icI_B (wc := rowW0 b) (B := rowB dC dI b g N) S hM cw hN hP hK hD hS hA hc1 hc2 [i] ir (by simp [hi, rowW0]) (by simp [hi, rowW0]) rfl hir hnr hdis hn hls hst hsum hdg (fun H1 locs1 t ht hvm hB hj hS => ?_)
  obtain ⟨q1, q2, q3, k1, k2, k3, hP1, hK1, hD1⟩ := hB
  rw [ht] at hP1
  obtain ⟨hP2, hD2⟩ := hj _ hP1 hD1
  exact kk q1 q2 q3 k1 k2 k3 H1 locs1 hP2 (hK.app (va_K.moved hvm.symm hK1)) hD2 hS
end IB
section MKN
variable {l : Launch} {y : MethodName} {wsy ws' : List Cond} {rm : Room} {D : va_G} {wc : va_W} {tc : List (ClassId × FieldType)} {av : List Value} {cc : ByteArray} {nL sz mc ms : Nat}
theorem mkN_v {B : (Nat → Prop) → State → Prop} (hy : plainName y.cls = true) (hw : wsy = Cond.code y cc nL none :: ws') (hent : (lg_sl av).length ≤ nL)
    (body : ∀ (p : Program) (e : Env) (R : Room) (s : State) (m : MethodId) (args : Array Value) (below : List Frame) (meth : Method) (c : Code) (H0 H : Heap) (locs : List Loc) (A : Nat → Prop) (Q : State → Prop) (ls : Array Slot), rm.frames ≤ R.frames → rm.locals ≤ R.locals → rm.cells ≤ R.cells → rm.slots ≤ R.slots → CallFix p m c cc nL s args wsy y.cls → NN s → meth.name = y.name → va_P D vwCl wc H → va_K D vwCl tc s → va_D A wc → (∀ q, H0.size ≤ q → A q) → va_S A H0 H locs → lv_has ls nL (lv_args 0 av) →
      (∀ (H : Heap) (locs : List Loc) (pc : Nat) (ls : Array Slot), decode cc pc = .ok (.return_, 1) → (∀ t : State, t.heap = H → s.vm.Alike t.vm → B A t) → va_S A H0 H locs → W p l e R s m args below meth c H locs mc ms Q (F0 m pc ls [])) → W p l e R s m args below meth c H locs 0 0 Q (F0 m 0 ls [])) :
    Met l y wsy rm (PrI D wc tc sz av) (va_Qv (fun (_ : Unit) => True) (fun _ t => B (va_A wc sz) t) (va_A wc sz)) mc ms (va_A wc sz) := by
  refine Met.ofW (cc := cc) (maxL := nL) (ret := none) hy hw ?_
  intro p e s m args below meth c s₁ B9 hml hv
  obtain ⟨rfl, hN, hsz, hP, hK, hD0⟩ := hv
  have hx := B9.exec
  have hb := B9.bytes
  have hret := B9.returns
  have hts := atoms_spec (ws := wsy) B9.pre
  have hown : s.vm.findClass y.cls = some m.cls := findClass_of_methodNamed B9.named
  have hlocks := B9.notSynchronized
  have hin : meth.name = y.name := (name_of_methodNamed B9.named B9.method).1
  subst hsz
  have hD := hD0.self (sz := s.heap.size)
  have hl := lv_entry av (n := nL) hent
  rw [lg_entry_eq]
  exact body p e _ s m _ below meth c s.heap s.heap [] (va_A wc s.heap.size) _ _ (Nat.le_refl _) (Nat.le_refl _) (Nat.le_refl _) (Nat.le_refl _) ⟨hx, hb, hml, hown, hts⟩ hN hin hP hK hD (fun q h => Or.inr h) va_S.rf hl (fun H locs pc ls hd hB hS => W.vret hx hb hret (fun t ht hW => ⟨⟨(), rfl, trivial, hB t ht hW.alike⟩, hS.F ht⟩) hS.2.2 hd)
end MKN
abbrev rm_X2_init : Room := { frames := 1, cells := 0, slots := 0, locals := 32 }
set_option maxHeartbeats 4000000 in
set_option maxRecDepth 100000 in
theorem c_X2_init (l : Launch) (dC : Nat → ClassId) (dI : Nat → Nat → Nat) (h0 : Nat) (sz : Nat) : Met l yX2_init wsX2_init rm_X2_init (PrI (dC, dI) [(h0, .inr (2, [.int 0, .int 0, .int 0, .long 0, .long 0, .long 0]))] [] sz [.ref h0]) (QIv (dC, dI) [(h0, .inr (2, [.int 0, .int 0, .int 0, .long 0, .long 0, .long 0]))] [] sz [(h0, .inr (2, [.int 0, .int 0, .int 0, .long 0, .long 0, .long 0]))]) 0 0 (va_A [(h0, .inr (2, [.int 0, .int 0, .int 0, .long 0, .long 0, .long 0]))] sz) := by
  refine mkN_v (B := fun A t => va_P (dC, dI) vwCl [(h0, .inr (2, [.int 0, .int 0, .int 0, .long 0, .long 0, .long 0]))] t.heap ∧ va_K (dC, dI) vwCl [] t ∧ va_D A [(h0, .inr (2, [.int 0, .int 0, .int 0, .long 0, .long 0, .long 0]))]) (cc := cX2_init) (nL := 1) (by decide) rfl (Nat.le_of_ble_eq_true rfl) ?_
  intro p e R s m args below meth c H0 H locs A Q ls hRf hRl hRc hRs S hN hin hP hK hD hA hS hl kret
  have hl : lv_has ls 1 [(0, .ref h0)] := hl
  obtain ⟨hx, hb, hml, hown, hts⟩ := S
  have hown : s.vm.findClass RX2 = some m.cls := hown
  have S : CallFix p m c cX2_init 1 s args wsX2_init RX2 := ⟨hx, hb, hml, hown, hts⟩
  refine lv_aload_n hx hb dX2_init_0 rfl (lv_at hl 0 rfl) ?_
  refine W.objInit hx hb hown (hts (.methodLink RX2 3 objectInit) (by decide +kernel)) (hts (.instanceMethod objectInit) (by decide +kernel)) (hts (.code objectInit ⟨#[0xb1]⟩ 1 none) (by decide +kernel)) rfl (by rw [hml]; exact hl.1) rfl dX2_init_1 (Nat.le_trans (m := rm_X2_init.frames) (by decide) hRf) (Nat.le_trans (m := rm_X2_init.locals) (Nat.le_of_ble_eq_true rfl) hRl) ?_
  refine W.eq (g2 := F0 m 4 ls []) rfl ?_
  exact kret _ _ _ _ dX2_init_4 (fun t ht hvm => ⟨by rw [ht]; exact hP, va_K.moved hvm hK, hD⟩) hS
abbrev rm_X5_init : Room := { frames := 1, cells := 0, slots := 0, locals := 32 }
set_option maxHeartbeats 4000000 in
set_option maxRecDepth 100000 in
theorem c_X5_init (l : Launch) (dC : Nat → ClassId) (dI : Nat → Nat → Nat) (h0 : Nat) (sz : Nat) : Met l yX5_init wsX5_init rm_X5_init (PrI (dC, dI) [(h0, .inr (5, [.int 0]))] [] sz [.ref h0]) (QIv (dC, dI) [(h0, .inr (5, [.int 0]))] [] sz [(h0, .inr (5, [.int 0]))]) 0 0 (va_A [(h0, .inr (5, [.int 0]))] sz) := by
  refine mkN_v (B := fun A t => va_P (dC, dI) vwCl [(h0, .inr (5, [.int 0]))] t.heap ∧ va_K (dC, dI) vwCl [] t ∧ va_D A [(h0, .inr (5, [.int 0]))]) (cc := cX5_init) (nL := 1) (by decide) rfl (Nat.le_of_ble_eq_true rfl) ?_
  intro p e R s m args below meth c H0 H locs A Q ls hRf hRl hRc hRs S hN hin hP hK hD hA hS hl kret
  have hl : lv_has ls 1 [(0, .ref h0)] := hl
  obtain ⟨hx, hb, hml, hown, hts⟩ := S
  have hown : s.vm.findClass RX5 = some m.cls := hown
  have S : CallFix p m c cX5_init 1 s args wsX5_init RX5 := ⟨hx, hb, hml, hown, hts⟩
  refine lv_aload_n hx hb dX5_init_0 rfl (lv_at hl 0 rfl) ?_
  refine W.objInit hx hb hown (hts (.methodLink RX5 3 objectInit) (by decide +kernel)) (hts (.instanceMethod objectInit) (by decide +kernel)) (hts (.code objectInit ⟨#[0xb1]⟩ 1 none) (by decide +kernel)) rfl (by rw [hml]; exact hl.1) rfl dX5_init_1 (Nat.le_trans (m := rm_X5_init.frames) (by decide) hRf) (Nat.le_trans (m := rm_X5_init.locals) (Nat.le_of_ble_eq_true rfl) hRl) ?_
  refine W.eq (g2 := F0 m 4 ls []) rfl ?_
  exact kret _ _ _ _ dX5_init_4 (fun t ht hvm => ⟨by rw [ht]; exact hP, va_K.moved hvm hK, hD⟩) hS
abbrev rm_X3_init : Room := { frames := 1, cells := 0, slots := 0, locals := 32 }
set_option maxHeartbeats 4000000 in
set_option maxRecDepth 100000 in
theorem c_X3_init (l : Launch) (dC : Nat → ClassId) (dI : Nat → Nat → Nat) (h0 : Nat) (hg : Nat) (sz : Nat) : Met l yX3_init wsX3_init rm_X3_init (PrI (dC, dI) [(h0, .inr (3, [.null]))] [] sz [.ref h0, .ref hg]) (QIv (dC, dI) [(h0, .inr (3, [.null]))] [] sz [(h0, .inr (3, [.ref hg]))]) 0 0 (va_A [(h0, .inr (3, [.null]))] sz) := by
  refine mkN_v (B := fun A t => va_P (dC, dI) vwCl [(h0, .inr (3, [.ref hg]))] t.heap ∧ va_K (dC, dI) vwCl [] t ∧ va_D A [(h0, .inr (3, [.ref hg]))]) (cc := cX3_init) (nL := 2) (by decide) rfl (Nat.le_of_ble_eq_true rfl) ?_
  intro p e R s m args below meth c H0 H locs A Q ls hRf hRl hRc hRs S hN hin hP hK hD hA hS hl kret
  have hl : lv_has ls 2 [(0, .ref h0), (1, .ref hg)] := hl
  obtain ⟨hx, hb, hml, hown, hts⟩ := S
  have hown : s.vm.findClass RX3 = some m.cls := hown
  have S : CallFix p m c cX3_init 2 s args wsX3_init RX3 := ⟨hx, hb, hml, hown, hts⟩
  have huX3 : ∀ w ∈ u_ws RX3 TX3 1, w ∈ wsX3_init := by decide +kernel
  have hf9 := hts (.fieldLink RX3 9 "EyeBoard$Life" "grid" "LEyeBoard$Grid;") (by decide +kernel)
  refine lv_aload_n hx hb dX3_init_0 rfl (lv_at hl 0 rfl) ?_
  refine W.objInit hx hb hown (hts (.methodLink RX3 3 objectInit) (by decide +kernel)) (hts (.instanceMethod objectInit) (by decide +kernel)) (hts (.code objectInit ⟨#[0xb1]⟩ 1 none) (by decide +kernel)) rfl (by rw [hml]; exact hl.1) rfl dX3_init_1 (Nat.le_trans (m := rm_X3_init.frames) (by decide) hRf) (Nat.le_trans (m := rm_X3_init.locals) (Nat.le_of_ble_eq_true rfl) hRl) ?_
  refine W.eq (g2 := F0 m 4 ls []) rfl ?_
  refine lv_aload_n hx hb dX3_init_4 rfl (lv_at hl 0 rfl) ?_
  refine lv_aload_n hx hb dX3_init_5 rfl (lv_at hl 1 rfl) ?_
  refine va_putF (D := (dC, dI)) (ci := 3) (v := .ref hg) (ty := (.object "EyeBoard$Grid")) (C := RX3) (T := TX3) (N := 1) hx hb hts huX3 tyX3 tyX3_ok nmX3 hown hK hP hD hS 0 rfl rfl 0 (by decide) hf9 (fun _ h9 => h9) rfl hin rfl (by decide +kernel) rfl rfl (Nat.le_of_ble_eq_true rfl) dX3_init_6 (fun H locs hP hD hS => ?_)
  have hP : va_P (dC, dI) vwCl [(h0, .inr (3, [.ref hg]))] H := hP
  have hD : va_D A [(h0, .inr (3, [.ref hg]))] := hD
  exact kret _ _ _ _ dX3_init_9 (fun t ht hvm => ⟨by rw [ht]; exact hP, va_K.moved hvm hK, hD⟩) hS
abbrev rm_X0_init : Room := { frames := 1, cells := 0, slots := 0, locals := 32 }
set_option maxHeartbeats 4000000 in
set_option maxRecDepth 100000 in
theorem c_X0_init (l : Launch) (dC : Nat → ClassId) (dI : Nat → Nat → Nat) (h0 : Nat) (hg hrow ht : Nat) (sz : Nat) : Met l yX0_init wsX0_init rm_X0_init (PrI (dC, dI) [(h0, .inr (0, [.null, .null, .null, .int 0, .int 0]))] [] sz [.ref h0, .ref hg, .ref hrow, .ref ht]) (QIv (dC, dI) [(h0, .inr (0, [.null, .null, .null, .int 0, .int 0]))] [] sz [(h0, .inr (0, [.ref hg, .ref hrow, .ref ht, .int 0, .int 0]))]) 0 0 (va_A [(h0, .inr (0, [.null, .null, .null, .int 0, .int 0]))] sz) := by
  refine mkN_v (B := fun A t => va_P (dC, dI) vwCl [(h0, .inr (0, [.ref hg, .ref hrow, .ref ht, .int 0, .int 0]))] t.heap ∧ va_K (dC, dI) vwCl [] t ∧ va_D A [(h0, .inr (0, [.ref hg, .ref hrow, .ref ht, .int 0, .int 0]))]) (cc := cX0_init) (nL := 4) (by decide) rfl (Nat.le_of_ble_eq_true rfl) ?_
  intro p e R s m args below meth c H0 H locs A Q ls hRf hRl hRc hRs S hN hin hP hK hD hA hS hl kret
  have hl : lv_has ls 4 [(0, .ref h0), (1, .ref hg), (2, .ref hrow), (3, .ref ht)] := hl
  obtain ⟨hx, hb, hml, hown, hts⟩ := S
  have hown : s.vm.findClass RX0 = some m.cls := hown
  have S : CallFix p m c cX0_init 4 s args wsX0_init RX0 := ⟨hx, hb, hml, hown, hts⟩
  have huX0 : ∀ w ∈ u_ws RX0 TX0 5, w ∈ wsX0_init := by decide +kernel
  have hf9 := hts (.fieldLink RX0 9 "EyeBoard$Chase" "grid" "LEyeBoard$Grid;") (by decide +kernel)
  have hf15 := hts (.fieldLink RX0 15 "EyeBoard$Chase" "row" "LEyeBoard$Row;") (by decide +kernel)
  have hf19 := hts (.fieldLink RX0 19 "EyeBoard$Chase" "tried" "LEyeBoard$Tries;") (by decide +kernel)
  refine lv_aload_n hx hb dX0_init_0 rfl (lv_at hl 0 rfl) ?_
  refine W.objInit hx hb hown (hts (.methodLink RX0 3 objectInit) (by decide +kernel)) (hts (.instanceMethod objectInit) (by decide +kernel)) (hts (.code objectInit ⟨#[0xb1]⟩ 1 none) (by decide +kernel)) rfl (by rw [hml]; exact hl.1) rfl dX0_init_1 (Nat.le_trans (m := rm_X0_init.frames) (by decide) hRf) (Nat.le_trans (m := rm_X0_init.locals) (Nat.le_of_ble_eq_true rfl) hRl) ?_
  refine W.eq (g2 := F0 m 4 ls []) rfl ?_
  refine lv_aload_n hx hb dX0_init_4 rfl (lv_at hl 0 rfl) ?_
  refine lv_aload_n hx hb dX0_init_5 rfl (lv_at hl 1 rfl) ?_
  refine va_putF (D := (dC, dI)) (ci := 0) (v := .ref hg) (ty := (.object "EyeBoard$Grid")) (C := RX0) (T := TX0) (N := 5) hx hb hts huX0 tyX0 tyX0_ok nmX0 hown hK hP hD hS 0 rfl rfl 0 (by decide) hf9 (fun _ h9 => h9) rfl hin rfl (by decide +kernel) rfl rfl (Nat.le_of_ble_eq_true rfl) dX0_init_6 (fun H locs hP hD hS => ?_)
  have hP : va_P (dC, dI) vwCl [(h0, .inr (0, [.ref hg, .null, .null, .int 0, .int 0]))] H := hP
  have hD : va_D A [(h0, .inr (0, [.ref hg, .null, .null, .int 0, .int 0]))] := hD
  refine lv_aload_n hx hb dX0_init_9 rfl (lv_at hl 0 rfl) ?_
  refine lv_aload_n hx hb dX0_init_10 rfl (lv_at hl 2 rfl) ?_
  refine va_putF (D := (dC, dI)) (ci := 0) (v := .ref hrow) (ty := (.object "EyeBoard$Row")) (C := RX0) (T := TX0) (N := 5) hx hb hts huX0 tyX0 tyX0_ok nmX0 hown hK hP hD hS 0 rfl rfl 1 (by decide) hf15 (fun _ h9 => h9) rfl hin rfl (by decide +kernel) rfl rfl (Nat.le_of_ble_eq_true rfl) dX0_init_11 (fun H locs hP hD hS => ?_)
  have hP : va_P (dC, dI) vwCl [(h0, .inr (0, [.ref hg, .ref hrow, .null, .int 0, .int 0]))] H := hP
  have hD : va_D A [(h0, .inr (0, [.ref hg, .ref hrow, .null, .int 0, .int 0]))] := hD
  refine lv_aload_n hx hb dX0_init_14 rfl (lv_at hl 0 rfl) ?_
  refine lv_aload_n hx hb dX0_init_15 rfl (lv_at hl 3 rfl) ?_
  refine va_putF (D := (dC, dI)) (ci := 0) (v := .ref ht) (ty := (.object "EyeBoard$Tries")) (C := RX0) (T := TX0) (N := 5) hx hb hts huX0 tyX0 tyX0_ok nmX0 hown hK hP hD hS 0 rfl rfl 2 (by decide) hf19 (fun _ h9 => h9) rfl hin rfl (by decide +kernel) rfl rfl (Nat.le_of_ble_eq_true rfl) dX0_init_16 (fun H locs hP hD hS => ?_)
  have hP : va_P (dC, dI) vwCl [(h0, .inr (0, [.ref hg, .ref hrow, .ref ht, .int 0, .int 0]))] H := hP
  have hD : va_D A [(h0, .inr (0, [.ref hg, .ref hrow, .ref ht, .int 0, .int 0]))] := hD
  exact kret _ _ _ _ dX0_init_19 (fun t ht hvm => ⟨by rw [ht]; exact hP, va_K.moved hvm hK, hD⟩) hS
abbrev rm_X1_init : Room := { frames := 1, cells := 0, slots := 0, locals := 32 }
set_option maxHeartbeats 4000000 in
set_option maxRecDepth 100000 in
theorem c_X1_init (l : Launch) (dC : Nat → ClassId) (dI : Nat → Nat → Nat) (h0 : Nat) (hg hrow ht : Nat) (sz : Nat) : Met l yX1_init wsX1_init rm_X1_init (PrI (dC, dI) [(h0, .inr (1, [.null, .null, .null, .int 0, .int 0, .int 0]))] [] sz [.ref h0, .ref hg, .ref hrow, .ref ht]) (QIv (dC, dI) [(h0, .inr (1, [.null, .null, .null, .int 0, .int 0, .int 0]))] [] sz [(h0, .inr (1, [.ref hg, .ref hrow, .ref ht, .int 0, .int 0, .int 0]))]) 0 0 (va_A [(h0, .inr (1, [.null, .null, .null, .int 0, .int 0, .int 0]))] sz) := by
  refine mkN_v (B := fun A t => va_P (dC, dI) vwCl [(h0, .inr (1, [.ref hg, .ref hrow, .ref ht, .int 0, .int 0, .int 0]))] t.heap ∧ va_K (dC, dI) vwCl [] t ∧ va_D A [(h0, .inr (1, [.ref hg, .ref hrow, .ref ht, .int 0, .int 0, .int 0]))]) (cc := cX1_init) (nL := 4) (by decide) rfl (Nat.le_of_ble_eq_true rfl) ?_
  intro p e R s m args below meth c H0 H locs A Q ls hRf hRl hRc hRs S hN hin hP hK hD hA hS hl kret
  have hl : lv_has ls 4 [(0, .ref h0), (1, .ref hg), (2, .ref hrow), (3, .ref ht)] := hl
  obtain ⟨hx, hb, hml, hown, hts⟩ := S
  have hown : s.vm.findClass RX1 = some m.cls := hown
  have S : CallFix p m c cX1_init 4 s args wsX1_init RX1 := ⟨hx, hb, hml, hown, hts⟩
  have huX1 : ∀ w ∈ u_ws RX1 TX1 6, w ∈ wsX1_init := by decide +kernel
  have hf9 := hts (.fieldLink RX1 9 "EyeBoard$Fight" "grid" "LEyeBoard$Grid;") (by decide +kernel)
  have hf15 := hts (.fieldLink RX1 15 "EyeBoard$Fight" "row" "LEyeBoard$Row;") (by decide +kernel)
  have hf19 := hts (.fieldLink RX1 19 "EyeBoard$Fight" "tried" "LEyeBoard$Tries;") (by decide +kernel)
  refine lv_aload_n hx hb dX1_init_0 rfl (lv_at hl 0 rfl) ?_
  refine W.objInit hx hb hown (hts (.methodLink RX1 3 objectInit) (by decide +kernel)) (hts (.instanceMethod objectInit) (by decide +kernel)) (hts (.code objectInit ⟨#[0xb1]⟩ 1 none) (by decide +kernel)) rfl (by rw [hml]; exact hl.1) rfl dX1_init_1 (Nat.le_trans (m := rm_X1_init.frames) (by decide) hRf) (Nat.le_trans (m := rm_X1_init.locals) (Nat.le_of_ble_eq_true rfl) hRl) ?_
  refine W.eq (g2 := F0 m 4 ls []) rfl ?_
  refine lv_aload_n hx hb dX1_init_4 rfl (lv_at hl 0 rfl) ?_
  refine lv_aload_n hx hb dX1_init_5 rfl (lv_at hl 1 rfl) ?_
  refine va_putF (D := (dC, dI)) (ci := 1) (v := .ref hg) (ty := (.object "EyeBoard$Grid")) (C := RX1) (T := TX1) (N := 6) hx hb hts huX1 tyX1 tyX1_ok nmX1 hown hK hP hD hS 0 rfl rfl 0 (by decide) hf9 (fun _ h9 => h9) rfl hin rfl (by decide +kernel) rfl rfl (Nat.le_of_ble_eq_true rfl) dX1_init_6 (fun H locs hP hD hS => ?_)
  have hP : va_P (dC, dI) vwCl [(h0, .inr (1, [.ref hg, .null, .null, .int 0, .int 0, .int 0]))] H := hP
  have hD : va_D A [(h0, .inr (1, [.ref hg, .null, .null, .int 0, .int 0, .int 0]))] := hD
  refine lv_aload_n hx hb dX1_init_9 rfl (lv_at hl 0 rfl) ?_
  refine lv_aload_n hx hb dX1_init_10 rfl (lv_at hl 2 rfl) ?_
  refine va_putF (D := (dC, dI)) (ci := 1) (v := .ref hrow) (ty := (.object "EyeBoard$Row")) (C := RX1) (T := TX1) (N := 6) hx hb hts huX1 tyX1 tyX1_ok nmX1 hown hK hP hD hS 0 rfl rfl 1 (by decide) hf15 (fun _ h9 => h9) rfl hin rfl (by decide +kernel) rfl rfl (Nat.le_of_ble_eq_true rfl) dX1_init_11 (fun H locs hP hD hS => ?_)
  have hP : va_P (dC, dI) vwCl [(h0, .inr (1, [.ref hg, .ref hrow, .null, .int 0, .int 0, .int 0]))] H := hP
  have hD : va_D A [(h0, .inr (1, [.ref hg, .ref hrow, .null, .int 0, .int 0, .int 0]))] := hD
  refine lv_aload_n hx hb dX1_init_14 rfl (lv_at hl 0 rfl) ?_
  refine lv_aload_n hx hb dX1_init_15 rfl (lv_at hl 3 rfl) ?_
  refine va_putF (D := (dC, dI)) (ci := 1) (v := .ref ht) (ty := (.object "EyeBoard$Tries")) (C := RX1) (T := TX1) (N := 6) hx hb hts huX1 tyX1 tyX1_ok nmX1 hown hK hP hD hS 0 rfl rfl 2 (by decide) hf19 (fun _ h9 => h9) rfl hin rfl (by decide +kernel) rfl rfl (Nat.le_of_ble_eq_true rfl) dX1_init_16 (fun H locs hP hD hS => ?_)
  have hP : va_P (dC, dI) vwCl [(h0, .inr (1, [.ref hg, .ref hrow, .ref ht, .int 0, .int 0, .int 0]))] H := hP
  have hD : va_D A [(h0, .inr (1, [.ref hg, .ref hrow, .ref ht, .int 0, .int 0, .int 0]))] := hD
  exact kret _ _ _ _ dX1_init_19 (fun t ht hvm => ⟨by rw [ht]; exact hP, va_K.moved hvm hK, hD⟩) hS
abbrev rm_X4_init (N : Nat) : Room := { frames := 1, cells := 3, slots := 3 * N, locals := 32 }
set_option maxHeartbeats 4000000 in
set_option maxRecDepth 100000 in
theorem c_X4_init (l : Launch) (dC : Nat → ClassId) (dI : Nat → Nat → Nat) (h0 hg : Nat) (sz : Nat) (N : Nat) (mx : Int32) (hmx : jmax mx 0 + 1 = nI N) (hN0 : 0 < N) (hN1 : N < 1000) : Met l yX4_init wsX4_init (rm_X4_init N) (PrI (dC, dI) (rowW0 h0) [] sz [.ref h0, .ref hg, .int mx]) (va_Qv (fun (_ : Unit) => True) (fun _ t => (rowB dC dI h0 hg N) (va_A (rowW0 h0) sz) t) (va_A (rowW0 h0) sz)) 3 (3 * N) (va_A (rowW0 h0) sz) := by
  have hneg : ¬ nI N < 0 := nI_pos (by omega)
  have hcl : (nI N).toNatClampNeg = N := nI_clamp (by omega)
  refine mkN_v (B := (rowB dC dI h0 hg N)) (cc := cX4_init) (nL := 4) (by decide) rfl (Nat.le_of_ble_eq_true rfl) ?_
  intro p e R s m args below meth c H0 H locs A Q ls hRf hRl hRc hRs S hN hin hP hK hD hA hS hl kret
  have hl : lv_has ls 4 [(0, .ref h0), (1, .ref hg), (2, .int mx)] := hl
  obtain ⟨hx, hb, hml, hown, hts⟩ := S
  have hRs : 3 * N ≤ R.slots := hRs
  have hsl0 : 0 + N ≤ R.slots := by omega
  have hsl1 : 0 + N + N ≤ R.slots := by omega
  have hsl2 : 0 + N + N + N ≤ R.slots := by omega
  have hby0 : N * componentBytes .long ≤ 536870912 := by show N * 8 ≤ 536870912; omega
  have hby1 := hby0
  have hby2 : N * componentBytes .int ≤ 536870912 := by show N * 4 ≤ 536870912; omega
  have hown : s.vm.findClass RX4 = some m.cls := hown
  have S : CallFix p m c cX4_init 4 s args wsX4_init RX4 := ⟨hx, hb, hml, hown, hts⟩
  have huX4 : ∀ w ∈ u_ws RX4 TX4 9, w ∈ wsX4_init := by decide +kernel
  have hf9 := hts (.fieldLink RX4 9 "EyeBoard$Row" "grid" "LEyeBoard$Grid;") (by decide +kernel)
  have hmx1 := hts (.methodLink RX4 15 Lib.Math.max.name) (by decide +kernel)
  have hmx2 := hts (.static Lib.Math.max.name) (by decide +kernel)
  have hmx3 := hts (.initialized "java/lang/Math") (by decide +kernel)
  have hmx4 := hts (.code Lib.Math.max.name Lib.Math.max.code 2 (some .int)) (by decide +kernel)
  have hf21 := hts (.fieldLink RX4 21 "EyeBoard$Row" "black" "[J") (by decide +kernel)
  have hf25 := hts (.fieldLink RX4 25 "EyeBoard$Row" "white" "[J") (by decide +kernel)
  have hf28 := hts (.fieldLink RX4 28 "EyeBoard$Row" "acts" "[I") (by decide +kernel)
  refine lv_aload_n hx hb dX4_init_0 rfl (lv_at hl 0 rfl) ?_
  refine W.objInit hx hb hown (hts (.methodLink RX4 3 objectInit) (by decide +kernel)) (hts (.instanceMethod objectInit) (by decide +kernel)) (hts (.code objectInit ⟨#[0xb1]⟩ 1 none) (by decide +kernel)) rfl (by rw [hml]; exact hl.1) rfl dX4_init_1 (Nat.le_trans (m := (rm_X4_init N).frames) (Nat.le_of_ble_eq_true rfl) hRf) (Nat.le_trans (m := (rm_X4_init N).locals) (Nat.le_of_ble_eq_true rfl) hRl) ?_
  refine W.eq (g2 := F0 m 4 ls []) rfl ?_
  refine lv_aload_n hx hb dX4_init_4 rfl (lv_at hl 0 rfl) ?_
  refine lv_aload_n hx hb dX4_init_5 rfl (lv_at hl 1 rfl) ?_
  refine va_putF (D := (dC, dI)) (ci := 4) (v := .ref hg) (ty := (.object "EyeBoard$Grid")) (C := RX4) (T := TX4) (N := 9) hx hb hts huX4 tyX4 tyX4_ok nmX4 hown hK hP hD hS 0 rfl rfl 0 (by decide) hf9 (fun _ h9 => h9) rfl hin rfl (by decide +kernel) rfl rfl (Nat.le_of_ble_eq_true rfl) dX4_init_6 (fun H locs hP hD hS => ?_)
  have hP : va_P (dC, dI) vwCl [(h0, .inr (4, [.ref hg, .null, .null, .null, .int 0, .int 0, .int 0, .long 0, .long 0]))] H := hP
  have hD : va_D A [(h0, .inr (4, [.ref hg, .null, .null, .null, .int 0, .int 0, .int 0, .long 0, .long 0]))] := hD
  refine lv_iload_n hx hb dX4_init_9 rfl (lv_at hl 2 rfl) ?_
  refine lv_iconst (v := (0 : Int32)) hx hb dX4_init_10 (by decide) ?_
  refine va_mmax hx hb (hml.trans hl.1.symm) hown hmx1 hmx2 hmx3 hmx4 (Nat.le_trans (m := (rm_X4_init N).frames) (Nat.le_of_ble_eq_true rfl) hRf) (Nat.le_trans (m := (rm_X4_init N).locals) (Nat.le_of_ble_eq_true rfl) hRl) (Nat.zero_le _) (Nat.zero_le _) dX4_init_11 ?_
  refine lv_iconst (v := (1 : Int32)) hx hb dX4_init_14 (by decide) ?_
  refine lv_iadd hx hb dX4_init_15 ?_
  rw [show jmax mx (0 : Int32) + (1 : Int32) = nI N from hmx]
  refine lv_istore_n (lv' := [(3, .int (nI N)), (0, .ref h0), (1, .ref hg), (2, .int mx)]) hx hb dX4_init_16 rfl hl (by decide) rfl (fun ls hl => ?_)
  refine lv_aload_n hx hb dX4_init_17 rfl (lv_at hl 1 rfl) ?_
  refine lv_iload_n hx hb dX4_init_18 rfl (lv_at hl 0 rfl) ?_
  refine va_newa (atype := .long) (a0 := (N, .inr (.inl (fun _ => 0)))) (N' := N) (ty := .long) hx hb (hts (.arrayClass .long) (by decide +kernel)) rfl hK hP hD hS hA (fun cA => nw_J cA N) hneg hcl hby0 (Nat.le_trans (Nat.le_of_ble_eq_true rfl) hRc) hsl0 dX4_init_19 (fun q1 k2 H hK hP hD hS => ?_)
  have hK : va_K (dC, dI) vwCl [(k2, .long)] s := hK
  have hP : va_P (dC, dI) vwCl [(h0, .inr (4, [.ref hg, .null, .null, .null, .int 0, .int 0, .int 0, .long 0, .long 0])), (q1, .inl (k2, N, .inr (.inl (fun _ => 0))))] H := hP
  have hD : va_D A [(h0, .inr (4, [.ref hg, .null, .null, .null, .int 0, .int 0, .int 0, .long 0, .long 0])), (q1, .inl (k2, N, .inr (.inl (fun _ => 0))))] := hD
  refine va_putF (D := (dC, dI)) (ci := 4) (v := .ref q1) (ty := (.array .long)) (C := RX4) (T := TX4) (N := 9) hx hb hts huX4 tyX4 tyX4_ok nmX4 hown hK hP hD hS 0 rfl rfl 1 (by decide) hf21 (fun _ h9 => h9) rfl hin rfl (by decide +kernel) rfl rfl (Nat.le_of_ble_eq_true rfl) dX4_init_21 (fun H locs hP hD hS => ?_)
  have hP : va_P (dC, dI) vwCl [(h0, .inr (4, [.ref hg, .ref q1, .null, .null, .int 0, .int 0, .int 0, .long 0, .long 0])), (q1, .inl (k2, N, .inr (.inl (fun _ => 0))))] H := hP
  have hD : va_D A [(h0, .inr (4, [.ref hg, .ref q1, .null, .null, .int 0, .int 0, .int 0, .long 0, .long 0])), (q1, .inl (k2, N, .inr (.inl (fun _ => 0))))] := hD
  refine lv_aload_n hx hb dX4_init_24 rfl (lv_at hl 1 rfl) ?_
  refine lv_iload_n hx hb dX4_init_25 rfl (lv_at hl 0 rfl) ?_
  refine va_newa (atype := .long) (a0 := (N, .inr (.inl (fun _ => 0)))) (N' := N) (ty := .long) hx hb (hts (.arrayClass .long) (by decide +kernel)) rfl hK hP hD hS hA (fun cA => nw_J cA N) hneg hcl hby1 (Nat.le_trans (Nat.le_of_ble_eq_true rfl) hRc) hsl1 dX4_init_26 (fun q3 k4 H hK hP hD hS => ?_)
  have hK : va_K (dC, dI) vwCl [(k2, .long), (k4, .long)] s := hK
  have hP : va_P (dC, dI) vwCl [(h0, .inr (4, [.ref hg, .ref q1, .null, .null, .int 0, .int 0, .int 0, .long 0, .long 0])), (q1, .inl (k2, N, .inr (.inl (fun _ => 0)))), (q3, .inl (k4, N, .inr (.inl (fun _ => 0))))] H := hP
  have hD : va_D A [(h0, .inr (4, [.ref hg, .ref q1, .null, .null, .int 0, .int 0, .int 0, .long 0, .long 0])), (q1, .inl (k2, N, .inr (.inl (fun _ => 0)))), (q3, .inl (k4, N, .inr (.inl (fun _ => 0))))] := hD
  refine va_putF (D := (dC, dI)) (ci := 4) (v := .ref q3) (ty := (.array .long)) (C := RX4) (T := TX4) (N := 9) hx hb hts huX4 tyX4 tyX4_ok nmX4 hown hK hP hD hS 0 rfl rfl 2 (by decide) hf25 (fun _ h9 => h9) rfl hin rfl (by decide +kernel) rfl rfl (Nat.le_of_ble_eq_true rfl) dX4_init_28 (fun H locs hP hD hS => ?_)
  have hP : va_P (dC, dI) vwCl [(h0, .inr (4, [.ref hg, .ref q1, .ref q3, .null, .int 0, .int 0, .int 0, .long 0, .long 0])), (q1, .inl (k2, N, .inr (.inl (fun _ => 0)))), (q3, .inl (k4, N, .inr (.inl (fun _ => 0))))] H := hP
  have hD : va_D A [(h0, .inr (4, [.ref hg, .ref q1, .ref q3, .null, .int 0, .int 0, .int 0, .long 0, .long 0])), (q1, .inl (k2, N, .inr (.inl (fun _ => 0)))), (q3, .inl (k4, N, .inr (.inl (fun _ => 0))))] := hD
  refine lv_aload_n hx hb dX4_init_31 rfl (lv_at hl 1 rfl) ?_
  refine lv_iload_n hx hb dX4_init_32 rfl (lv_at hl 0 rfl) ?_
  refine va_newa (atype := .int) (a0 := (N, .inl (fun _ => 0))) (N' := N) (ty := .int) hx hb (hts (.arrayClass .int) (by decide +kernel)) rfl hK hP hD hS hA (fun cA => nw_I cA N) hneg hcl hby2 (Nat.le_trans (Nat.le_of_ble_eq_true rfl) hRc) hsl2 dX4_init_33 (fun q5 k6 H hK hP hD hS => ?_)
  have hK : va_K (dC, dI) vwCl [(k2, .long), (k4, .long), (k6, .int)] s := hK
  have hP : va_P (dC, dI) vwCl [(h0, .inr (4, [.ref hg, .ref q1, .ref q3, .null, .int 0, .int 0, .int 0, .long 0, .long 0])), (q1, .inl (k2, N, .inr (.inl (fun _ => 0)))), (q3, .inl (k4, N, .inr (.inl (fun _ => 0)))), (q5, .inl (k6, N, .inl (fun _ => 0)))] H := hP
  have hD : va_D A [(h0, .inr (4, [.ref hg, .ref q1, .ref q3, .null, .int 0, .int 0, .int 0, .long 0, .long 0])), (q1, .inl (k2, N, .inr (.inl (fun _ => 0)))), (q3, .inl (k4, N, .inr (.inl (fun _ => 0)))), (q5, .inl (k6, N, .inl (fun _ => 0)))] := hD
  refine va_putF (D := (dC, dI)) (ci := 4) (v := .ref q5) (ty := (.array .int)) (C := RX4) (T := TX4) (N := 9) hx hb hts huX4 tyX4 tyX4_ok nmX4 hown hK hP hD hS 0 rfl rfl 3 (by decide) hf28 (fun _ h9 => h9) rfl hin rfl (by decide +kernel) rfl rfl (Nat.le_of_ble_eq_true rfl) dX4_init_35 (fun H locs hP hD hS => ?_)
  have hP : va_P (dC, dI) vwCl [(h0, .inr (4, [.ref hg, .ref q1, .ref q3, .ref q5, .int 0, .int 0, .int 0, .long 0, .long 0])), (q1, .inl (k2, N, .inr (.inl (fun _ => 0)))), (q3, .inl (k4, N, .inr (.inl (fun _ => 0)))), (q5, .inl (k6, N, .inl (fun _ => 0)))] H := hP
  have hD : va_D A [(h0, .inr (4, [.ref hg, .ref q1, .ref q3, .ref q5, .int 0, .int 0, .int 0, .long 0, .long 0])), (q1, .inl (k2, N, .inr (.inl (fun _ => 0)))), (q3, .inl (k4, N, .inr (.inl (fun _ => 0)))), (q5, .inl (k6, N, .inl (fun _ => 0)))] := hD
  refine W.widen (k := 3) (n := 3 * N) (by decide) (by omega) ?_
  exact kret _ _ _ _ dX4_init_38 (fun t ht hvm => ⟨q1, q3, q5, k2, k4, k6, by rw [ht]; exact hP, va_K.moved hvm hK, hD⟩) hS
