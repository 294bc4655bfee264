/-! What the printed walks use: mirrors of the methods are functions into Option; a row takes a mirror's equation one step on. -/
def nm {α β : Type} (e : α) (f : α → Option β) : Option β := f e
theorem nm_use {α β : Type} {e x : α} {f : α → Option β} {r : β} (h : nm e f = some r) (hx : x = e) : f x = some r := by subst hx; exact h
theorem nm_ex {α β : Type} {e : α} {f : α → Option β} {r : β} (h : nm e f = some r) : ∃ K, K = e ∧ f K = some r := ⟨e, rfl, h⟩
theorem ite_p {β : Type} {c : Prop} {_ : Decidable c} {a b : Option β} {r : β} (h : (if c then a else b) = some r) (hc : c) : a = some r := by rw [if_pos hc] at h; exact h
theorem ite_n {β : Type} {c : Prop} {_ : Decidable c} {a b : Option β} {r : β} (h : (if c then a else b) = some r) (hc : ¬ c) : b = some r := by rw [if_neg hc] at h; exact h
theorem ite_g {β : Type} {c : Prop} {_ : Decidable c} {b : Option β} {r : β} (h : (if c then none else b) = some r) : (¬ c) ∧ b = some r := by
  by_cases hc : c
  · rw [if_pos hc] at h; cases h
  · rw [if_neg hc] at h; exact ⟨hc, h⟩
theorem bd_use {α β : Type} {x : Option α} {k : α → Option β} {r : β} (h : x.bind k = some r) : ∃ q, x = some q ∧ k q = some r := by
  cases x with
  | none => cases h
  | some q => exact ⟨q, rfl, h⟩
abbrev jshl (x : Int64) (y : Int32) : Int64 := x <<< (y.toInt64 &&& 63)
abbrev jshr (x : Int64) (y : Int32) : Int64 := x >>> (y.toInt64 &&& 63)
abbrev jushr (x : Int64) (y : Int32) : Int64 := (x.toUInt64 >>> (y.toInt64.toUInt64 &&& Int64.toUInt64 63)).toInt64
abbrev jmax (x y : Int32) : Int32 := if x < y then y else x
abbrev jrem (x y : Int32) : Int32 := x - x / y * y
theorem cmp_t {x y : Int64} (h : lg_cmp x y = 0) : x = y := (lg_cmp_eq x y).mp h
theorem cmp_f {x y : Int64} (h : ¬ lg_cmp x y = 0) : ¬ x = y := fun e => h ((lg_cmp_eq x y).mpr e)
theorem nar_z {x : Int32} (h : ¬ ¬ (x = 0 ∨ x = 1)) : narrow .boolean (.int x) = .int x := by
  rcases Decidable.not_not.mp h with rfl | rfl <;> rfl
theorem nar_0 : narrow .boolean (.int 0) = .int 0 := rfl
theorem nar_1 : narrow .boolean (.int 1) = .int 1 := rfl
theorem tb_ne {x k : Int32} (h : ¬ x = k) : ¬ x.toInt = k.toInt := fun e => h (Int32.toInt_inj.mp e)
/-- the links to a nest mate's private members -/
def NN (U : State) : Prop := va_Nw (.methodLinkNest RX4 78 yX6_other "EyeBoard") U ∧ va_Nw (.methodLinkNest RX0 45 yX6_other "EyeBoard") U ∧ va_Nw (.methodLinkNest RX6 11 yX2_init "EyeBoard") U ∧ va_Nw (.methodLinkNest RX6 44 yX5_init "EyeBoard") U
theorem NN.warm {s U : State} (hW : s.WarmedH U.vm) (h : NN s) : NN U := ⟨va_Nw.warmM hW h.1, va_Nw.warmM hW h.2.1, va_Nw.warmM hW h.2.2.1, va_Nw.warmM hW h.2.2.2⟩
theorem NN.same {u U : State} (h : u.vm = U.vm) (hN : NN u) : NN U := ⟨va_Nw.same rfl h hN.1, va_Nw.same rfl h hN.2.1, va_Nw.same rfl h hN.2.2.1, va_Nw.same rfl h hN.2.2.2⟩
/-- what a read-only method wants of its start -/
def PrP (D : va_G) (ws : va_W) (tys : List (ClassId × FieldType)) (av : List Value) : Array Value → State → Prop := va_Pc av (fun U => NN U ∧ va_P D vwCl ws U.heap ∧ va_K D vwCl tys U)
theorem PrP.blind {D : va_G} {ws : va_W} {tys : List (ClassId × FieldType)} {av : List Value} : FrameBlind (PrP D ws tys av) := fun a U g mk q => by
  obtain ⟨h0, hN, hP, hK⟩ := q
  exact ⟨h0, NN.same (u := U) (U := U.calling g mk a) rfl hN, hP, va_K.moved (u := U) (U := U.calling g mk a) (Vm.Alike.refl U.vm) hK⟩
/-- what a method that writes wants of its start, and what it leaves -/
def PrI (D : va_G) (ws : va_W) (tys : List (ClassId × FieldType)) (sz : Nat) (av : List Value) : Array Value → State → Prop := va_Pc av (fun U => NN U ∧ U.heap.size = sz ∧ va_P D vwCl ws U.heap ∧ va_K D vwCl tys U ∧ va_D (fun _ => True) ws)
theorem PrI.blind {D : va_G} {ws : va_W} {tys : List (ClassId × FieldType)} {sz : Nat} {av : List Value} : FrameBlind (PrI D ws tys sz av) := fun a U g mk q => by
  obtain ⟨h0, hN, hz, hP, hK, hD⟩ := q
  exact ⟨h0, NN.same (u := U) (U := U.calling g mk a) rfl hN, hz, hP, va_K.moved (u := U) (U := U.calling g mk a) (Vm.Alike.refl U.vm) hK, hD⟩
def QIi (D : va_G) (ws : va_W) (tys : List (ClassId × FieldType)) (sz : Nat) (r : Int32) (w1 : va_W) : Array Value → State → Outcome → State → Prop := va_Qi (fun x (_ : Unit) => x = r) (fun _ t => va_P D vwCl w1 t.heap ∧ va_K D vwCl tys t ∧ va_D (va_A ws sz) w1) (va_A ws sz)
def QIv (D : va_G) (ws : va_W) (tys : List (ClassId × FieldType)) (sz : Nat) (w1 : va_W) : Array Value → State → Outcome → State → Prop := va_Qv (fun (_ : Unit) => True) (fun _ t => va_P D vwCl w1 t.heap ∧ va_K D vwCl tys t ∧ va_D (va_A ws sz) w1) (va_A ws sz)
section BS
variable {p : Program} {l : Launch} {e : Env} {R : Room} {s : State} {m : MethodId} {args : Array Value} {below : List Frame} {meth : Method} {c : Code} {H H0 : Heap} {locs : List Loc} {cells slots : Nat} {Q : State → Prop}
variable {D : va_G} {ws wc w1 : va_W} {tys tc : List (ClassId × FieldType)} {A : Nat → Prop} {cc bytes : ByteArray} {nL maxL index n pc : Nat} {own C : String} {y : MethodName} {ret : Option FieldType} {rm : Room} {wsy Ts : List Cond} {b : Addr} {As rest st0 : List Value} {ls : Array Slot}
theorem pcV_i {q : Int32} (S : CallFix p m c cc nL s args Ts own) (hM : Met l y wsy rm (PrP D wc tc (.ref b :: As)) (vp_Si (fun x => x = q)) 0 0 (fun _ => False)) (cw : CallW R s args own C index y bytes maxL ret wsy rm 0 0 n)
    (hN : NN s) (hP : va_P D vwCl ws H) (hK : va_K D vwCl tys s) (hcs : cells ≤ R.cells ∧ slots ≤ R.slots) (iw : List Nat) (hiw : iw.filterMap (fun i => ws[i]?) = wc) (it : List Nat) (hit : it.filterMap (fun i => tys[i]?) = tc)
    (q0 ci : Nat) {T : u_T} {N : Nat} {fs : List Value} (hc : vwCl[ci]? = some (C, T, N)) (he : ws[q0]? = some (b, .inr (ci, fs))) (hn : As.length = n) (hls : ls.size = nL) (hst : st0 = As.reverse ++ .ref b :: rest) (hsum : (rest.map fun v => v.category).sum ≤ 8) (hdg : decode cc pc = .ok (.invokevirtual index, 3))
    (kk : W p l e R s m args below meth c H locs cells slots Q (F0 m (pc + 3) ls (.int q :: rest))) : W p l e R s m args below meth c H locs cells slots Q (F0 m pc ls st0) := by
  refine vp_callSi (W.runV (As := As) (rest := rest) S hM cw ⟨PrP.blind, va_recv hK hP hc he, fun U hU hW => ⟨rfl, NN.warm hW hN, by rw [hU]; exact hP.sub iw hiw, va_K.moved hW.alike (hK.sub it hit)⟩⟩ rfl hn hls hst (lv_room hsum) hdg hcs) (fun r er => ?_)
  subst er; exact kk
theorem pcV_l {q : Int64} (S : CallFix p m c cc nL s args Ts own) (hM : Met l y wsy rm (PrP D wc tc (.ref b :: As)) (vp_Sl (fun x => x = q)) 0 0 (fun _ => False)) (cw : CallW R s args own C index y bytes maxL ret wsy rm 0 0 n)
    (hN : NN s) (hP : va_P D vwCl ws H) (hK : va_K D vwCl tys s) (hcs : cells ≤ R.cells ∧ slots ≤ R.slots) (iw : List Nat) (hiw : iw.filterMap (fun i => ws[i]?) = wc) (it : List Nat) (hit : it.filterMap (fun i => tys[i]?) = tc)
    (q0 ci : Nat) {T : u_T} {N : Nat} {fs : List Value} (hc : vwCl[ci]? = some (C, T, N)) (he : ws[q0]? = some (b, .inr (ci, fs))) (hn : As.length = n) (hls : ls.size = nL) (hst : st0 = As.reverse ++ .ref b :: rest) (hsum : (rest.map fun v => v.category).sum ≤ 8) (hdg : decode cc pc = .ok (.invokevirtual index, 3))
    (kk : W p l e R s m args below meth c H locs cells slots Q (F0 m (pc + 3) ls (.long q :: rest))) : W p l e R s m args below meth c H locs cells slots Q (F0 m pc ls st0) := by
  refine vp_callSl (W.runV (As := As) (rest := rest) S hM cw ⟨PrP.blind, va_recv hK hP hc he, fun U hU hW => ⟨rfl, NN.warm hW hN, by rw [hU]; exact hP.sub iw hiw, va_K.moved hW.alike (hK.sub it hit)⟩⟩ rfl hn hls hst (lv_room hsum) hdg hcs) (fun r er => ?_)
  subst er; exact kk
theorem pcS_i {q : Int32} (S : CallFix p m c cc nL s args Ts own) (hM : Met l y wsy rm (PrP D [] [] As) (vp_Si (fun x => x = q)) 0 0 (fun _ => False)) (cw : CallB R s args own index y bytes maxL ret wsy rm 0 0 n ∧ (Cond.static y).before args s = true)
    (hN : NN s) (hP : va_P D vwCl ws H) (hK : va_K D vwCl tys s) (hcs : cells ≤ R.cells ∧ slots ≤ R.slots) (hn : As.length = n) (hls : ls.size = nL) (hst : st0 = As.reverse ++ rest) (hsum : (rest.map fun v => v.category).sum ≤ 8) (hdg : decode cc pc = .ok (.invokestatic index, 3))
    (kk : W p l e R s m args below meth c H locs cells slots Q (F0 m (pc + 3) ls (.int q :: rest))) : W p l e R s m args below meth c H locs cells slots Q (F0 m pc ls st0) := by
  refine vp_callSi (W.runS (As := As) (rest := rest) S hM cw ⟨PrP.blind, fun U hU hW => ⟨rfl, NN.warm hW hN, by rw [hU]; exact hP.sub [] rfl, va_K.moved hW.alike (hK.sub [] rfl)⟩⟩ rfl hn hls hst (lv_room hsum) hdg hcs) (fun r er => ?_)
  subst er; exact kk
theorem pcS_l {q : Int64} (S : CallFix p m c cc nL s args Ts own) (hM : Met l y wsy rm (PrP D [] [] As) (vp_Sl (fun x => x = q)) 0 0 (fun _ => False)) (cw : CallB R s args own index y bytes maxL ret wsy rm 0 0 n ∧ (Cond.static y).before args s = true)
    (hN : NN s) (hP : va_P D vwCl ws H) (hK : va_K D vwCl tys s) (hcs : cells ≤ R.cells ∧ slots ≤ R.slots) (hn : As.length = n) (hls : ls.size = nL) (hst : st0 = As.reverse ++ rest) (hsum : (rest.map fun v => v.category).sum ≤ 8) (hdg : decode cc pc = .ok (.invokestatic index, 3))
    (kk : W p l e R s m args below meth c H locs cells slots Q (F0 m (pc + 3) ls (.long q :: rest))) : W p l e R s m args below meth c H locs cells slots Q (F0 m pc ls st0) := by
  refine vp_callSl (W.runS (As := As) (rest := rest) S hM cw ⟨PrP.blind, fun U hU hW => ⟨rfl, NN.warm hW hN, by rw [hU]; exact hP.sub [] rfl, va_K.moved hW.alike (hK.sub [] rfl)⟩⟩ rfl hn hls hst (lv_room hsum) hdg hcs) (fun r er => ?_)
  subst er; exact kk
theorem pcN_i {q : Int32} {host : String} (S : CallFix p m c cc nL s args Ts own) (hM : Met l y wsy rm (PrP D [] [] As) (vp_Si (fun x => x = q)) 0 0 (fun _ => False)) (cw : va_CN R s args own index y host bytes maxL ret wsy rm 0 0 n ∧ (Cond.static y).before args s = true ∧ True)
    (hN : NN s) (hP : va_P D vwCl ws H) (hK : va_K D vwCl tys s) (hcs : cells ≤ R.cells ∧ slots ≤ R.slots) (hn : As.length = n) (hls : ls.size = nL) (hst : st0 = As.reverse ++ rest) (hsum : (rest.map fun v => v.category).sum ≤ 8) (hdg : decode cc pc = .ok (.invokestatic index, 3))
    (kk : W p l e R s m args below meth c H locs cells slots Q (F0 m (pc + 3) ls (.int q :: rest))) : W p l e R s m args below meth c H locs cells slots Q (F0 m pc ls st0) := by
  refine vp_callSi (va_Run.run (va_runSN (As := As) (rest := rest) S hM cw ⟨PrP.blind, fun U hU hW => ⟨rfl, NN.warm hW hN, by rw [hU]; exact hP.sub [] rfl, va_K.moved hW.alike (hK.sub [] rfl)⟩⟩ rfl hn hls hst (lv_room hsum) hdg hcs)) (fun r er => ?_)
  subst er; exact kk
/-- a call that writes: its cells, and the caller's rest, in the order 'perm' -/
theorem icV_i {r : Int32} {ws2 : va_W} (S : CallFix p m c cc nL s args Ts own) (hM : Met l y wsy rm (PrI D wc tc H.size (.ref b :: As)) (QIi D wc tc H.size r w1) 0 0 (va_A wc H.size)) (cw : CallW R s args own C index y bytes maxL ret wsy rm 0 0 n)
    (hN : NN s) (hP : va_P D vwCl ws H) (hK : va_K D vwCl tys s) (hD : va_D A ws) (hS : va_S A H0 H locs) (hA : ∀ q, H0.size ≤ q → A q) (hcs : cells ≤ R.cells ∧ slots ≤ R.slots) (iw ir perm : List Nat) (hiw : iw.filterMap (fun i => ws[i]?) = wc) (hiw2 : iw.map (fun i => ws[i]?) = wc.map some) (hnd : va_nd iw = true)
    (hir : ir.map (fun i => ws[i]?) = (ir.filterMap (fun i => ws[i]?)).map some) (hnr : va_nd ir = true) (hdis : ∀ i ∈ ir, i ∉ iw) (hpm : perm.filterMap (fun i => (ir.filterMap (fun i => ws[i]?) ++ w1)[i]?) = ws2) (hpm2 : perm.map (fun i => (ir.filterMap (fun i => ws[i]?) ++ w1)[i]?) = ws2.map some) (hnp : va_nd perm = true)
    (it : List Nat) (hit : it.filterMap (fun i => tys[i]?) = tc)
    (q0 ci : Nat) {T : u_T} {N : Nat} {fs : List Value} (hc : vwCl[ci]? = some (C, T, N)) (he : ws[q0]? = some (b, .inr (ci, fs))) (hn : As.length = n) (hls : ls.size = nL) (hst : st0 = As.reverse ++ .ref b :: rest) (hsum : (rest.map fun v => v.category).sum ≤ 8) (hdg : decode cc pc = .ok (.invokevirtual index, 3))
    (kk : ∀ (H1 : Heap) (locs1 : List Loc), va_P D vwCl ws2 H1 → va_D A ws2 → va_S A H0 H1 locs1 → W p l e R s m args below meth c H1 locs1 cells slots Q (F0 m (pc + 3) ls (.int r :: rest))) : W p l e R s m args below meth c H locs cells slots Q (F0 m pc ls st0) := by
  have hFc := va_free (wc := wc) hD hS hA iw hiw2
  refine va_calli (va_runV (As := As) (rest := rest) S hM cw ⟨PrI.blind, va_recv hK hP hc he, fun U hU hW => ⟨rfl, NN.warm hW hN, by rw [hU], by rw [hU]; exact hP.sub iw hiw, va_K.moved hW.alike (hK.sub it hit), (hD.sub iw hnd hiw2).weaken (fun _ _ _ _ => trivial)⟩⟩ rfl hn hls hst (lv_room hsum) hdg hcs) hS (fun q _ h => hFc q h) hFc (fun r' u t H1 locs1 ht hvm hw hB hz1 hk1 hS => ?_)
  obtain ⟨hP1, hK1, hD1⟩ := hB
  rw [ht] at hP1
  obtain ⟨hP, hD⟩ := va_join (wc := wc) hP hD iw ir hiw2 hir hnr hdis hk1 hFc hP1 hD1
  subst hw
  exact kk H1 locs1 (hP.sub perm hpm) (hD.sub perm hnp hpm2) hS
theorem icV_v {ws2 : va_W} (S : CallFix p m c cc nL s args Ts own) (hM : Met l y wsy rm (PrI D wc tc H.size (.ref b :: As)) (QIv D wc tc H.size w1) 0 0 (va_A wc H.size)) (cw : CallW R s args own C index y bytes maxL ret wsy rm 0 0 n)
    (hN : NN s) (hP : va_P D vwCl ws H) (hK : va_K D vwCl tys s) (hD : va_D A ws) (hS : va_S A H0 H locs) (hA : ∀ q, H0.size ≤ q → A q) (hcs : cells ≤ R.cells ∧ slots ≤ R.slots) (iw ir perm : List Nat) (hiw : iw.filterMap (fun i => ws[i]?) = wc) (hiw2 : iw.map (fun i => ws[i]?) = wc.map some) (hnd : va_nd iw = true)
    (hir : ir.map (fun i => ws[i]?) = (ir.filterMap (fun i => ws[i]?)).map some) (hnr : va_nd ir = true) (hdis : ∀ i ∈ ir, i ∉ iw) (hpm : perm.filterMap (fun i => (ir.filterMap (fun i => ws[i]?) ++ w1)[i]?) = ws2) (hpm2 : perm.map (fun i => (ir.filterMap (fun i => ws[i]?) ++ w1)[i]?) = ws2.map some) (hnp : va_nd perm = true)
    (it : List Nat) (hit : it.filterMap (fun i => tys[i]?) = tc)
    (q0 ci : Nat) {T : u_T} {N : Nat} {fs : List Value} (hc : vwCl[ci]? = some (C, T, N)) (he : ws[q0]? = some (b, .inr (ci, fs))) (hn : As.length = n) (hls : ls.size = nL) (hst : st0 = As.reverse ++ .ref b :: rest) (hsum : (rest.map fun v => v.category).sum ≤ 8) (hdg : decode cc pc = .ok (.invokevirtual index, 3))
    (kk : ∀ (H1 : Heap) (locs1 : List Loc), va_P D vwCl ws2 H1 → va_D A ws2 → va_S A H0 H1 locs1 → W p l e R s m args below meth c H1 locs1 cells slots Q (F0 m (pc + 3) ls rest)) : W p l e R s m args below meth c H locs cells slots Q (F0 m pc ls st0) := by
  have hFc := va_free (wc := wc) hD hS hA iw hiw2
  refine va_callv (va_runV (As := As) (rest := rest) S hM cw ⟨PrI.blind, va_recv hK hP hc he, fun U hU hW => ⟨rfl, NN.warm hW hN, by rw [hU], by rw [hU]; exact hP.sub iw hiw, va_K.moved hW.alike (hK.sub it hit), (hD.sub iw hnd hiw2).weaken (fun _ _ _ _ => trivial)⟩⟩ rfl hn hls hst (lv_room hsum) hdg hcs) hS (fun q _ h => hFc q h) hFc (fun u t H1 locs1 ht hvm hw hB hz1 hk1 hS => ?_)
  obtain ⟨hP1, hK1, hD1⟩ := hB
  rw [ht] at hP1
  obtain ⟨hP, hD⟩ := va_join (wc := wc) hP hD iw ir hiw2 hir hnr hdis hk1 hFc hP1 hD1
  exact kk H1 locs1 (hP.sub perm hpm) (hD.sub perm hnp hpm2) hS
end BS
section MK
variable {l : Launch} {y : MethodName} {wsy ws' : List Cond} {rm : Room} {D : va_G} {wc w1 : va_W} {tc : List (ClassId × FieldType)} {av : List Value} {cc : ByteArray} {nL sz : Nat}
/-- a read-only method's contract out of its body -/
theorem mkP_i {q : Int32} (hy : plainName y.cls = true) (hw : wsy = Cond.code y cc nL (some .int) :: ws') (hent : (lg_sl av).length ≤ nL)
    (body : ∀ (p : Program) (e : Env) (R : Room) (s : State) (m : MethodId) (args : Array Value) (below : List Frame) (meth : Method) (c : Code) (H : Heap) (Q : State → Prop) (ls : Array Slot), rm.frames ≤ R.frames → rm.locals ≤ R.locals → CallFix p m c cc nL s args wsy y.cls → NN s → va_P D vwCl wc H → va_K D vwCl tc s → lv_has ls nL (lv_args 0 av) →
      (∀ (pc : Nat) (ls : Array Slot), decode cc pc = .ok (.ireturn, 1) → W p l e R s m args below meth c H [] 0 0 Q (F0 m pc ls [.int q])) → W p l e R s m args below meth c H [] 0 0 Q (F0 m 0 ls [])) :
    Met l y wsy rm (PrP D wc tc av) (vp_Si (fun x => x = q)) 0 0 (fun _ => False) := by
  refine Met.ofW (cc := cc) (maxL := nL) (ret := some .int) hy hw ?_
  intro p e s m args below meth c s₁ B hml hv
  obtain ⟨rfl, hN, hP, hK⟩ := hv
  have hx := B.exec
  have hb := B.bytes
  have hret := B.returns
  have hts := atoms_spec (ws := wsy) B.pre
  have hown : s.vm.findClass y.cls = some m.cls := findClass_of_methodNamed B.named
  have hlocks := B.notSynchronized
  have hl := lv_entry av (n := nL) hent
  rw [lg_entry_eq]
  exact body p e _ s m _ below meth c s.heap _ _ (Nat.le_refl _) (Nat.le_refl _) ⟨hx, hb, hml, hown, hts⟩ hN hP hK hl (fun pc ls hd => W.iret hx hb hret (fun t ht hW => ⟨_, rfl, rfl, ht⟩) (fun q h => by cases h) hd)
theorem mkP_z {q : Int32} (hy : plainName y.cls = true) (hw : wsy = Cond.code y cc nL (some .boolean) :: ws') (hent : (lg_sl av).length ≤ nL)
    (body : ∀ (p : Program) (e : Env) (R : Room) (s : State) (m : MethodId) (args : Array Value) (below : List Frame) (meth : Method) (c : Code) (H : Heap) (Q : State → Prop) (ls : Array Slot), rm.frames ≤ R.frames → rm.locals ≤ R.locals → CallFix p m c cc nL s args wsy y.cls → NN s → va_P D vwCl wc H → va_K D vwCl tc s → lv_has ls nL (lv_args 0 av) →
      (∀ (pc : Nat) (ls : Array Slot), decode cc pc = .ok (.ireturn, 1) → narrow .boolean (.int q) = .int q → W p l e R s m args below meth c H [] 0 0 Q (F0 m pc ls [.int q])) → W p l e R s m args below meth c H [] 0 0 Q (F0 m 0 ls [])) :
    Met l y wsy rm (PrP D wc tc av) (vp_Si (fun x => x = q)) 0 0 (fun _ => False) := by
  refine Met.ofW (cc := cc) (maxL := nL) (ret := some .boolean) hy hw ?_
  intro p e s m args below meth c s₁ B hml hv
  obtain ⟨rfl, hN, hP, hK⟩ := hv
  have hx := B.exec
  have hb := B.bytes
  have hret := B.returns
  have hts := atoms_spec (ws := wsy) B.pre
  have hown : s.vm.findClass y.cls = some m.cls := findClass_of_methodNamed B.named
  have hlocks := B.notSynchronized
  have hl := lv_entry av (n := nL) hent
  rw [lg_entry_eq]
  exact body p e _ s m _ below meth c s.heap _ _ (Nat.le_refl _) (Nat.le_refl _) ⟨hx, hb, hml, hown, hts⟩ hN hP hK hl (fun pc ls hd hz => W.zret hx hb hret hz (fun t ht hW => ⟨_, rfl, rfl, ht⟩) (fun q h => by cases h) hd)
theorem mkP_l {q : Int64} (hy : plainName y.cls = true) (hw : wsy = Cond.code y cc nL (some .long) :: ws') (hent : (lg_sl av).length ≤ nL)
    (body : ∀ (p : Program) (e : Env) (R : Room) (s : State) (m : MethodId) (args : Array Value) (below : List Frame) (meth : Method) (c : Code) (H : Heap) (Q : State → Prop) (ls : Array Slot), rm.frames ≤ R.frames → rm.locals ≤ R.locals → CallFix p m c cc nL s args wsy y.cls → NN s → va_P D vwCl wc H → va_K D vwCl tc s → lv_has ls nL (lv_args 0 av) →
      (∀ (pc : Nat) (ls : Array Slot), decode cc pc = .ok (.lreturn, 1) → W p l e R s m args below meth c H [] 0 0 Q (F0 m pc ls [.long q])) → W p l e R s m args below meth c H [] 0 0 Q (F0 m 0 ls [])) :
    Met l y wsy rm (PrP D wc tc av) (vp_Sl (fun x => x = q)) 0 0 (fun _ => False) := by
  refine Met.ofW (cc := cc) (maxL := nL) (ret := some .long) hy hw ?_
  intro p e s m args below meth c s₁ B hml hv
  obtain ⟨rfl, hN, hP, hK⟩ := hv
  have hx := B.exec
  have hb := B.bytes
  have hret := B.returns
  have hts := atoms_spec (ws := wsy) B.pre
  have hown : s.vm.findClass y.cls = some m.cls := findClass_of_methodNamed B.named
  have hlocks := B.notSynchronized
  have hl := lv_entry av (n := nL) hent
  rw [lg_entry_eq]
  exact body p e _ s m _ below meth c s.heap _ _ (Nat.le_refl _) (Nat.le_refl _) ⟨hx, hb, hml, hown, hts⟩ hN hP hK hl (fun pc ls hd => W.lret hx hb hret (fun t ht hW => ⟨_, rfl, rfl, ht⟩) (fun q h => by cases h) hd)
/-- a writing method's contract out of its body -/
theorem mkI_i {r : Int32} (hy : plainName y.cls = true) (hw : wsy = Cond.code y cc nL (some .int) :: ws') (hent : (lg_sl av).length ≤ nL)
    (body : ∀ (p : Program) (e : Env) (R : Room) (s : State) (m : MethodId) (args : Array Value) (below : List Frame) (meth : Method) (c : Code) (H0 H : Heap) (locs : List Loc) (A : Nat → Prop) (Q : State → Prop) (ls : Array Slot), rm.frames ≤ R.frames → rm.locals ≤ R.locals → CallFix p m c cc nL s args wsy y.cls → NN s → va_P D vwCl wc H → va_K D vwCl tc s → va_D A wc → (∀ q, H0.size ≤ q → A q) → va_S A H0 H locs → lv_has ls nL (lv_args 0 av) →
      (∀ (H : Heap) (locs : List Loc) (pc : Nat) (ls : Array Slot), decode cc pc = .ok (.ireturn, 1) → va_P D vwCl w1 H → va_D A w1 → va_S A H0 H locs → W p l e R s m args below meth c H locs 0 0 Q (F0 m pc ls [.int r])) → W p l e R s m args below meth c H locs 0 0 Q (F0 m 0 ls [])) :
    Met l y wsy rm (PrI D wc tc sz av) (QIi D wc tc sz r w1) 0 0 (va_A wc sz) := by
  refine Met.ofW (cc := cc) (maxL := nL) (ret := some .int) hy hw ?_
  intro p e s m args below meth c s₁ B hml hv
  obtain ⟨rfl, hN, hsz, hP, hK, hD0⟩ := hv
  have hx := B.exec
  have hb := B.bytes
  have hret := B.returns
  have hts := atoms_spec (ws := wsy) B.pre
  have hown : s.vm.findClass y.cls = some m.cls := findClass_of_methodNamed B.named
  have hlocks := B.notSynchronized
  subst hsz
  have hD := hD0.self (sz := s.heap.size)
  have hl := lv_entry av (n := nL) hent
  rw [lg_entry_eq]
  exact body p e _ s m _ below meth c s.heap s.heap [] (va_A wc s.heap.size) _ _ (Nat.le_refl _) (Nat.le_refl _) ⟨hx, hb, hml, hown, hts⟩ hN hP hK hD (fun q h => Or.inr h) va_S.rf hl (fun H locs pc ls hd hP9 hD9 hS => W.iret hx hb hret (fun t ht hW => ⟨⟨_, (), rfl, rfl, by rw [ht]; exact hP9, va_K.moved hW.alike hK, hD9⟩, hS.F ht⟩) hS.2.2 hd)
theorem mkI_z {r : Int32} (hy : plainName y.cls = true) (hw : wsy = Cond.code y cc nL (some .boolean) :: ws') (hent : (lg_sl av).length ≤ nL)
    (body : ∀ (p : Program) (e : Env) (R : Room) (s : State) (m : MethodId) (args : Array Value) (below : List Frame) (meth : Method) (c : Code) (H0 H : Heap) (locs : List Loc) (A : Nat → Prop) (Q : State → Prop) (ls : Array Slot), rm.frames ≤ R.frames → rm.locals ≤ R.locals → CallFix p m c cc nL s args wsy y.cls → NN s → va_P D vwCl wc H → va_K D vwCl tc s → va_D A wc → (∀ q, H0.size ≤ q → A q) → va_S A H0 H locs → lv_has ls nL (lv_args 0 av) →
      (∀ (H : Heap) (locs : List Loc) (pc : Nat) (ls : Array Slot), decode cc pc = .ok (.ireturn, 1) → va_P D vwCl w1 H → va_D A w1 → va_S A H0 H locs → narrow .boolean (.int r) = .int r → W p l e R s m args below meth c H locs 0 0 Q (F0 m pc ls [.int r])) → W p l e R s m args below meth c H locs 0 0 Q (F0 m 0 ls [])) :
    Met l y wsy rm (PrI D wc tc sz av) (QIi D wc tc sz r w1) 0 0 (va_A wc sz) := by
  refine Met.ofW (cc := cc) (maxL := nL) (ret := some .boolean) hy hw ?_
  intro p e s m args below meth c s₁ B hml hv
  obtain ⟨rfl, hN, hsz, hP, hK, hD0⟩ := hv
  have hx := B.exec
  have hb := B.bytes
  have hret := B.returns
  have hts := atoms_spec (ws := wsy) B.pre
  have hown : s.vm.findClass y.cls = some m.cls := findClass_of_methodNamed B.named
  have hlocks := B.notSynchronized
  subst hsz
  have hD := hD0.self (sz := s.heap.size)
  have hl := lv_entry av (n := nL) hent
  rw [lg_entry_eq]
  exact body p e _ s m _ below meth c s.heap s.heap [] (va_A wc s.heap.size) _ _ (Nat.le_refl _) (Nat.le_refl _) ⟨hx, hb, hml, hown, hts⟩ hN hP hK hD (fun q h => Or.inr h) va_S.rf hl (fun H locs pc ls hd hP9 hD9 hS hz => W.zret hx hb hret hz (fun t ht hW => ⟨⟨_, (), rfl, rfl, by rw [ht]; exact hP9, va_K.moved hW.alike hK, hD9⟩, hS.F ht⟩) hS.2.2 hd)
theorem mkI_v (hy : plainName y.cls = true) (hw : wsy = Cond.code y cc nL none :: ws') (hent : (lg_sl av).length ≤ nL)
    (body : ∀ (p : Program) (e : Env) (R : Room) (s : State) (m : MethodId) (args : Array Value) (below : List Frame) (meth : Method) (c : Code) (H0 H : Heap) (locs : List Loc) (A : Nat → Prop) (Q : State → Prop) (ls : Array Slot), rm.frames ≤ R.frames → rm.locals ≤ R.locals → CallFix p m c cc nL s args wsy y.cls → NN s → va_P D vwCl wc H → va_K D vwCl tc s → va_D A wc → (∀ q, H0.size ≤ q → A q) → va_S A H0 H locs → lv_has ls nL (lv_args 0 av) →
      (∀ (H : Heap) (locs : List Loc) (pc : Nat) (ls : Array Slot), decode cc pc = .ok (.return_, 1) → va_P D vwCl w1 H → va_D A w1 → va_S A H0 H locs → W p l e R s m args below meth c H locs 0 0 Q (F0 m pc ls [])) → W p l e R s m args below meth c H locs 0 0 Q (F0 m 0 ls [])) :
    Met l y wsy rm (PrI D wc tc sz av) (QIv D wc tc sz w1) 0 0 (va_A wc sz) := by
  refine Met.ofW (cc := cc) (maxL := nL) (ret := none) hy hw ?_
  intro p e s m args below meth c s₁ B hml hv
  obtain ⟨rfl, hN, hsz, hP, hK, hD0⟩ := hv
  have hx := B.exec
  have hb := B.bytes
  have hret := B.returns
  have hts := atoms_spec (ws := wsy) B.pre
  have hown : s.vm.findClass y.cls = some m.cls := findClass_of_methodNamed B.named
  have hlocks := B.notSynchronized
  subst hsz
  have hD := hD0.self (sz := s.heap.size)
  have hl := lv_entry av (n := nL) hent
  rw [lg_entry_eq]
  exact body p e _ s m _ below meth c s.heap s.heap [] (va_A wc s.heap.size) _ _ (Nat.le_refl _) (Nat.le_refl _) ⟨hx, hb, hml, hown, hts⟩ hN hP hK hD (fun q h => Or.inr h) va_S.rf hl (fun H locs pc ls hd hP9 hD9 hS => W.vret hx hb hret (fun t ht hW => ⟨⟨(), rfl, trivial, by rw [ht]; exact hP9, va_K.moved hW.alike hK, hD9⟩, hS.F ht⟩) hS.2.2 hd)
end MK
