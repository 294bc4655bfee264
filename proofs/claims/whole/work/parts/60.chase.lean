/-! a search over a row of crossings -/
noncomputable def cdec (P : Prop) : Bool := @decide P (Classical.propDecidable P)
theorem cdec_t {P : Prop} (h : P) : cdec P = true := @decide_eq_true P (Classical.propDecidable P) h
theorem cdec_f {P : Prop} (h : ¬ P) : cdec P = false := @decide_eq_false P (Classical.propDecidable P) h
theorem cdec_of {P : Prop} (h : cdec P = true) : P := @of_decide_eq_true P (Classical.propDecidable P) h
theorem cdec_nf {P : Prop} (h : cdec P = false) : ¬ P := @of_decide_eq_false P (Classical.propDecidable P) h
def bls (x : Int64) : Nat → Nat → List Nat
  | 0, _ => []
  | m + 1, i => if mm x i = true then i :: bls x m (i + 1) else bls x m (i + 1)
def gq (stop : Int32) (lg : Nat → Bool) (F : Nat → Nat → Int32 × Nat) : List Nat → Nat → Int32 × Nat
  | [], T => (stop, T)
  | k :: ks, T => if lg k = true then (if T < 600 then (if (F k (T + 1)).1 = stop then gq stop lg F ks (F k (T + 1)).2 else F k (T + 1)) else (-5, T)) else gq stop lg F ks T
theorem bls_0 (x : Int64) (i : Nat) : bls x 0 i = [] := rfl
theorem bls_t {x : Int64} {m i : Nat} (h : mm x i = true) : bls x (m + 1) i = i :: bls x m (i + 1) := by rw [bls, if_pos h]
theorem bls_f {x : Int64} {m i : Nat} (h : mm x i = false) : bls x (m + 1) i = bls x m (i + 1) := by rw [bls, if_neg (by rw [h]; decide)]
theorem gq_nil (stop : Int32) (lg : Nat → Bool) (F : Nat → Nat → Int32 × Nat) (T : Nat) : gq stop lg F [] T = (stop, T) := rfl
theorem gq_skip {stop : Int32} {lg : Nat → Bool} {F : Nat → Nat → Int32 × Nat} {k : Nat} {ks : List Nat} {T : Nat} (h : lg k = false) : gq stop lg F (k :: ks) T = gq stop lg F ks T := by rw [gq, if_neg (by rw [h]; decide)]
theorem gq_full {stop : Int32} {lg : Nat → Bool} {F : Nat → Nat → Int32 × Nat} {k : Nat} {ks : List Nat} {T : Nat} (h : lg k = true) (hT : ¬ T < 600) : gq stop lg F (k :: ks) T = (-5, T) := by rw [gq, if_pos h, if_neg hT]
theorem gq_on {stop : Int32} {lg : Nat → Bool} {F : Nat → Nat → Int32 × Nat} {k : Nat} {ks : List Nat} {T : Nat} (h : lg k = true) (hT : T < 600) (hF : (F k (T + 1)).1 = stop) : gq stop lg F (k :: ks) T = gq stop lg F ks (F k (T + 1)).2 := by rw [gq, if_pos h, if_pos hT, if_pos hF]
theorem gq_out {stop : Int32} {lg : Nat → Bool} {F : Nat → Nat → Int32 × Nat} {k : Nat} {ks : List Nat} {T : Nat} (h : lg k = true) (hT : T < 600) (hF : ¬ (F k (T + 1)).1 = stop) : gq stop lg F (k :: ks) T = F k (T + 1) := by rw [gq, if_pos h, if_pos hT, if_neg hF]
theorem gq_le {stop : Int32} {lg : Nat → Bool} {F : Nat → Nat → Int32 × Nat} (hF : ∀ k T, T ≤ 600 → (F k T).2 ≤ 600) : ∀ (l : List Nat) (T : Nat), T ≤ 600 → (gq stop lg F l T).2 ≤ 600
  | [], T, h => h
  | k :: ks, T, h => by
    cases e : lg k
    · rw [gq_skip e]; exact gq_le hF ks T h
    · by_cases hT : T < 600
      · by_cases q : (F k (T + 1)).1 = stop
        · rw [gq_on e hT q]; exact gq_le hF ks _ (hF k _ (by omega))
        · rw [gq_out e hT q]; exact hF k _ (by omega)
      · rw [gq_full e hT]; exact h
theorem gq_cong {stop : Int32} {lg : Nat → Bool} {F F' : Nat → Nat → Int32 × Nat} : ∀ (l : List Nat) (T : Nat), (∀ k ∈ l, ∀ T, F k T = F' k T) → gq stop lg F l T = gq stop lg F' l T
  | [], _, _ => rfl
  | k :: ks, T, h => by
    rw [gq, gq, h k (List.mem_cons_self ..) (T + 1), gq_cong ks _ (fun j hj => h j (List.mem_cons_of_mem _ hj)), gq_cong ks _ (fun j hj => h j (List.mem_cons_of_mem _ hj))]
/-! the abstract chase: told, and the tries -/
section CH
variable (gd : Gd) (n t : Nat) (cc : Int32)
def Br (gd : Gd) (t : Nat) (cc : Int32) (b v : Int64) : Int64 := Bs gd (Cm gd (Ow cc b v) t) &&& Fr gd b v
def Lc (gd : Gd) (c : Int32) (b v : Int64) (ah : Option (Int64 × Int64)) (k : Nat) : Prop := ¬ Oc b v k ∧ ¬ Su gd c b v k ∧ ¬ ah = some (Nb gd c b v k, Nw gd c b v k)
noncomputable def lgb (gd : Gd) (c : Int32) (b v : Int64) (ah : Option (Int64 × Int64)) (k : Nat) : Bool := cdec (Lc gd c b v ah k)
/-- where a stone takes a group that touches the chased one -/
def Tv (gd : Gd) (fr x : Int64) : Int64 := if pc (Bs gd x &&& fr) = 1 then Bs gd x &&& fr else 0
def Tg (gd : Gd) (n t : Nat) (cc : Int32) (b v : Int64) : Int64 := Un (fun k => Tv gd (Fr gd b v) (Pf gd (Sp gd (Bs gd (Cm gd (Ow cc b v) t)) (Ow (3 - cc) b v)) k)) n
noncomputable def CI : Nat → Int64 → Int64 → Option (Int64 × Int64) → Nat → Int32 × Nat
  | 0, _, _, _, T => (0, T)
  | m + 1, b, v, ah, T => if pc (Br gd t cc b v) < 1 ∨ 2 < pc (Br gd t cc b v) ∨ m + 1 < pc (Br gd t cc b v) then (0, T) else gq 0 (lgb gd (3 - cc) b v ah) (fun k T => if pc (Br gd t cc b v) = 1 then (1, T) else if pc (Br gd t cc (Nb gd (3 - cc) b v k) (Nw gd (3 - cc) b v k)) = 1 then gq 1 (lgb gd cc (Nb gd (3 - cc) b v k) (Nw gd (3 - cc) b v k) (some (b, v))) (fun j T => CI m (Nb gd cc (Nb gd (3 - cc) b v k) (Nw gd (3 - cc) b v k) j) (Nw gd cc (Nb gd (3 - cc) b v k) (Nw gd (3 - cc) b v k) j) (some (Nb gd (3 - cc) b v k, Nw gd (3 - cc) b v k)) T) (bls (Br gd t cc (Nb gd (3 - cc) b v k) (Nw gd (3 - cc) b v k)) n 0 ++ bls (Tg gd n t cc (Nb gd (3 - cc) b v k) (Nw gd (3 - cc) b v k) &&& (Br gd t cc (Nb gd (3 - cc) b v k) (Nw gd (3 - cc) b v k) ^^^ (-1))) n 0) T else (0, T)) (bls (Br gd t cc b v) n 0) T
noncomputable def AF (m : Nat) (b v : Int64) (b' v' : Int64) (T : Nat) : Int32 × Nat := if pc (Br gd t cc b' v') = 1 then gq 1 (lgb gd cc b' v' (some (b, v))) (fun j T => CI gd n t cc m (Nb gd cc b' v' j) (Nw gd cc b' v' j) (some (b', v')) T) (bls (Br gd t cc b' v') n 0 ++ bls (Tg gd n t cc b' v' &&& (Br gd t cc b' v' ^^^ (-1))) n 0) T else (0, T)
theorem CI_succ (m : Nat) (b v : Int64) (ah : Option (Int64 × Int64)) (T : Nat) : CI gd n t cc (m + 1) b v ah T = if pc (Br gd t cc b v) < 1 ∨ 2 < pc (Br gd t cc b v) ∨ m + 1 < pc (Br gd t cc b v) then (0, T) else gq 0 (lgb gd (3 - cc) b v ah) (fun k T => if pc (Br gd t cc b v) = 1 then (1, T) else AF gd n t cc m b v (Nb gd (3 - cc) b v k) (Nw gd (3 - cc) b v k) T) (bls (Br gd t cc b v) n 0) T := rfl
theorem CI_le : ∀ (m : Nat) (b v : Int64) (ah : Option (Int64 × Int64)) (T : Nat), T ≤ 600 → (CI gd n t cc m b v ah T).2 ≤ 600
  | 0, _, _, _, _, h => h
  | m + 1, b, v, ah, T, h => by
    rw [CI_succ]
    split
    · exact h
    · refine gq_le (fun k T hT => ?_) _ _ h
      split
      · exact hT
      · unfold AF
        split
        · exact gq_le (fun j T hT => CI_le m _ _ _ _ hT) _ _ hT
        · exact hT
theorem AF_le (m : Nat) (b v b' v' : Int64) (T : Nat) (hT : T ≤ 600) : (AF gd n t cc m b v b' v' T).2 ≤ 600 := by
  unfold AF
  split
  · exact gq_le (fun j T hT => CI_le gd n t cc m _ _ _ _ hT) _ _ hT
  · exact hT
end CH
/-! the class's chase -/
def Ah (bl wh : Nat → Int64) : Nat → Option (Int64 × Int64)
  | 0 => none
  | L + 1 => some (bl L, wh L)
theorem Rf0_iff {op : Int32} {L : Nat} {bl wh : Nat → Int64} {x y : Int64} : Rf 0 op L bl wh x y ↔ Ah bl wh L = some (x, y) := by
  cases L with
  | zero => exact ⟨fun ⟨i, hi, _⟩ => absurd hi (Nat.not_lt_zero i), fun q => by cases q⟩
  | succ m =>
    constructor
    · rintro ⟨i, h1, h2, h3, h4, h5⟩
      have := h2 rfl
      have e : i = m := by omega
      subst e
      show some (bl i, wh i) = _
      rw [h4, h5]
    · intro q
      have q : some (bl m, wh m) = some (x, y) := q
      have q1 := Option.some.inj q
      exact ⟨m, by omega, fun _ => rfl, fun z => absurd z (by decide), congrArg Prod.fst q1, congrArg Prod.snd q1⟩
section CC
variable {w h : Nat} {gd : Gd}
theorem Why_lc {op : Int32} {L : Nat} {bl wh : Nat → Int64} {k : Nat} {r : Int32} (a : Why gd 0 op L bl wh k r) : r = 0 ↔ Lc gd (Mv op L) (bl L) (wh L) (Ah bl wh L) k := by
  unfold Lc
  rw [← Rf0_iff (op := op)]
  rcases a with ⟨a1, a2⟩ | ⟨a1, a2, a3⟩ | ⟨a1, a2, a3, a4⟩ | ⟨a1, a2, a3, a4⟩
  · exact ⟨fun q => by rw [a2] at q; exact absurd q (by decide), fun q => absurd a1 q.1⟩
  · exact ⟨fun q => by rw [a3] at q; exact absurd q (by decide), fun q => absurd a2 q.2.1⟩
  · exact ⟨fun q => by rw [a4] at q; exact absurd q (by decide), fun q => absurd a3 q.2.2⟩
  · exact ⟨fun _ => ⟨a1, a2, a3⟩, fun _ => a4⟩
/-- what a row holds up to its latest board -/
def Up (L : Nat) (bl wh bl' wh' : Nat → Int64) : Prop := ∀ i, i ≤ L → bl' i = bl i ∧ wh' i = wh i
theorem Up.rf (L : Nat) (bl wh : Nat → Int64) : Up L bl wh bl wh := fun _ _ => ⟨rfl, rfl⟩
theorem Up.tr {L : Nat} {a b c d e f : Nat → Int64} (h1 : Up L a b c d) (h2 : Up L c d e f) : Up L a b e f := fun i hi => ⟨(h2 i hi).1.trans (h1 i hi).1, (h2 i hi).2.trans (h1 i hi).2⟩
theorem Up.mono {L L' : Nat} {a b c d : Nat → Int64} (h : Up L' a b c d) (hl : L ≤ L') : Up L a b c d := fun i hi => h i (by omega)
theorem Up.upd (L : Nat) (bl wh : Nat → Int64) (x y : Int64) : Up L bl wh (vp_updL bl (L + 1) x) (vp_updL wh (L + 1) y) := fun i hi => ⟨pk_uLn (by omega), pk_uLn (by omega)⟩
theorem Ah_up {L : Nat} {bl wh bl' wh' : Nat → Int64} (h : Up L bl wh bl' wh') : Ah bl' wh' L = Ah bl wh L := by
  cases L with
  | zero => rfl
  | succ m =>
    show some (bl' m, wh' m) = some (bl m, wh m)
    rw [(h m (by omega)).1, (h m (by omega)).2]
theorem add_chase (G : GdOK w h gd) {op : Int32} (ho : op = 1 ∨ op = 2) {L : Nat} (hL : L + 1 < 41) {bl wh bl' wh' : Nat → Int64} (U : Up L bl wh bl' wh') (B : Bd gd (w * h) (bl L) (wh L)) {k : Nat} (hk : k < w * h) (x y : Int64) (ac : Nat → Int32) : ∃ x' y', f_X4_add 41 0 (nI L) op x y gd.1 (nI (w * h)) gd.2.1 gd.2.2.1 gd.2.2.2 bl' wh' ac (nI k) = if lgb gd (Mv op L) (bl L) (wh L) (Ah bl wh L) k = true then some (1, nI (L + 1), x', y', vp_updL bl' (L + 1) (Nb gd (Mv op L) (bl L) (wh L) k), vp_updL wh' (L + 1) (Nw gd (Mv op L) (bl L) (wh L) k), upd ac L (nI k)) else some (0, nI L, x', y', bl', wh', ac) := by
  have e1 := (U L (Nat.le_refl _)).1
  have e2 := (U L (Nat.le_refl _)).2
  obtain ⟨r, x', y', r1, r2⟩ := f_add_lay (lw := 0) (N0 := 41) (bl := bl') (wh := wh') (op := op) G hL (by decide) ho (by decide) (by rw [e1, e2]; exact B) hk x y ac
  rw [e1, e2] at r2
  refine ⟨x', y', r2.trans ?_⟩
  have r3 := Why_lc r1
  rw [e1, e2, Ah_up U] at r3
  by_cases z : r = 0
  · rw [if_pos z, if_pos (show lgb gd (Mv op L) (bl L) (wh L) (Ah bl wh L) k = true from cdec_t (r3.mp z))]
  · rw [if_neg z, if_neg (by rw [show lgb gd (Mv op L) (bl L) (wh L) (Ah bl wh L) k = false from cdec_f (fun q => z (r3.mpr q))]; decide)]
theorem oneMore_t {T : Nat} (hT : T < 600) : f_X5_oneMore (nI T) = some (1, nI (T + 1)) := by
  unfold f_X5_oneMore
  rw [if_pos (show nI T < 600 from nI_lt (b := 600) hT (by decide)), nm_eq, nI_1]
theorem oneMore_f {T : Nat} (hT : ¬ T < 600) (h2 : T ≤ 600) : f_X5_oneMore (nI T) = some (0, nI T) := by
  unfold f_X5_oneMore
  rw [if_neg (show ¬ nI T < 600 from nI_nlt (b := 600) (by omega) (by omega))]
/-- the loop over the breaths -/
theorem lp_caught (G : GdOK w h gd) {op : Int32} (ho : op = 1 ∨ op = 2) {L t : Nat} {cc a0 : Int32} (hL : L + 1 < 41) {bl wh : Nat → Int64} (B : Bd gd (w * h) (bl L) (wh L)) {br : Int64} (hbr : Sb br (w * h)) {mny : Nat} (hmn : mny < 2 ^ 31) (rc : Nat → Int32 → Int32 → Int32 → Int32 → Int64 → Int64 → Int64 → Int32 → Int32 → Int32 → Int64 → Int64 → (Nat → Int64) → (Nat → Int64) → (Nat → Int32) → Int32 → Int32 → Option (Int32 × Int32 × Int64 × Int64 × (Nat → Int64) × (Nat → Int64) × (Nat → Int32) × Int32)) (F : Nat → Nat → Int32 × Nat) (hF2 : ∀ k T, T ≤ 600 → (F k T).2 ≤ 600) (hF1 : mny = 1 → ∀ k T, F k T = (1, T)) (hrc : ¬ mny = 1 → ∀ k T x y bl' wh' ac, k < w * h → lgb gd (Mv op L) (bl L) (wh L) (Ah bl wh L) k = true → T ≤ 600 → Up L bl wh bl' wh' → ∃ x' y' bl'' wh'' ac', rc 41 (nI t) cc gd.1 (nI (w * h)) gd.2.1 gd.2.2.1 gd.2.2.2 0 (nI (L + 1)) op x y (vp_updL bl' (L + 1) (Nb gd (Mv op L) (bl L) (wh L) k)) (vp_updL wh' (L + 1) (Nw gd (Mv op L) (bl L) (wh L) k)) ac (nI T) a0 = some ((F k T).1, nI (L + 1), x', y', bl'', wh'', ac', nI (F k T).2) ∧ Up L bl wh bl'' wh'') : ∀ (nF i T : Nat) (x y : Int64) (bl' wh' : Nat → Int64) (ac : Nat → Int32), i ≤ w * h → w * h - i < nF → T ≤ 600 → Up L bl wh bl' wh' → ∃ x' y' bl'' wh'' ac', lp_X0_caughtIn_52 41 (nI t) cc gd.1 (nI (w * h)) gd.2.1 gd.2.2.1 gd.2.2.2 0 op a0 rc br (nI mny) nF 0 (nI i) (nI L) x y bl' wh' ac (nI T) = some ((gq 0 (lgb gd (Mv op L) (bl L) (wh L) (Ah bl wh L)) F (bls br (w * h - i) i) T).1, nI L, x', y', bl'', wh'', ac', nI (gq 0 (lgb gd (Mv op L) (bl L) (wh L) (Ah bl wh L)) F (bls br (w * h - i) i) T).2) ∧ Up L bl wh bl'' wh'' := by
  have hn := n_lt G
  intro nF
  induction nF with
  | zero => intro i T x y bl' wh' ac h1 h2; omega
  | succ nF ih =>
    intro i T x y bl' wh' ac h1 h2 h3 U
    by_cases hi : i = w * h
    · subst hi
      rw [Nat.sub_self, bls_0, gq_nil]
      refine ⟨x, y, bl', wh', ac, ?_, U⟩
      rw [lp_X0_caughtIn_52, if_pos (nI_le (Nat.le_refl _) (by omega))]
    · obtain ⟨m, hm⟩ : ∃ m, w * h - i = m + 1 := ⟨w * h - i - 1, by omega⟩
      have hm' : w * h - (i + 1) = m := by omega
      rw [hm]
      cases e : mm br i
      · rw [bls_f e, ← hm']
        obtain ⟨x', y', bl'', wh'', ac', r1, r2⟩ := ih (i + 1) T x y bl' wh' ac (by omega) (by omega) h3 U
        refine ⟨x', y', bl'', wh'', ac', ?_, r2⟩
        rw [lp_X0_caughtIn_52, if_neg (nI_ge (by omega) (by omega)), if_pos rfl, holds_f (by omega) e, Option.bind_some, if_pos rfl, nm_eq, nI_1]
        exact r1
      · rw [bls_t e]
        obtain ⟨x1, y1, ra⟩ := add_chase G ho hL U B (k := i) (by omega) x y ac
        have start : lp_X0_caughtIn_52 41 (nI t) cc gd.1 (nI (w * h)) gd.2.1 gd.2.2.1 gd.2.2.2 0 op a0 rc br (nI mny) (nF + 1) 0 (nI i) (nI L) x y bl' wh' ac (nI T) = (f_X4_add 41 0 (nI L) op x y gd.1 (nI (w * h)) gd.2.1 gd.2.2.1 gd.2.2.2 bl' wh' ac (nI i)).bind fun q23 =>
          if q23.1 = 0 then (
            nm (nI i + 1) fun x41 =>
            lp_X0_caughtIn_52 41 (nI t) cc gd.1 (nI (w * h)) gd.2.1 gd.2.2.1 gd.2.2.2 0 op a0 rc br (nI mny) nF 0 x41 q23.2.1 q23.2.2.1 q23.2.2.2.1 q23.2.2.2.2.1 q23.2.2.2.2.2.1 q23.2.2.2.2.2.2 (nI T)
          )
          else (
            (f_X5_oneMore (nI T)).bind fun q25 =>
            nm (fun (v26 : Int32) (w27 : Int32) (w28 : Int64) (w29 : Int64) (w30 : Nat → Int64) (w31 : Nat → Int64) (w32 : Nat → Int32) (w33 : Int32) =>
            (f_X4_takeBack w27).bind fun q35 =>
            nm (nI i + 1) fun x36 =>
            lp_X0_caughtIn_52 41 (nI t) cc gd.1 (nI (w * h)) gd.2.1 gd.2.2.1 gd.2.2.2 0 op a0 rc br (nI mny) nF v26 x36 q35 w28 w29 w30 w31 w32 w33
            ) fun K34 =>
            if q25.1 = 0 then (
              K34 (-5 : Int32) q23.2.1 q23.2.2.1 q23.2.2.2.1 q23.2.2.2.2.1 q23.2.2.2.2.2.1 q23.2.2.2.2.2.2 q25.2
            )
            else (
              if nI mny = (1 : Int32) then (
                K34 (1 : Int32) q23.2.1 q23.2.2.1 q23.2.2.2.1 q23.2.2.2.2.1 q23.2.2.2.2.2.1 q23.2.2.2.2.2.2 q25.2
              )
              else (
                (rc 41 (nI t) cc gd.1 (nI (w * h)) gd.2.1 gd.2.2.1 gd.2.2.2 0 q23.2.1 op q23.2.2.1 q23.2.2.2.1 q23.2.2.2.2.1 q23.2.2.2.2.2.1 q23.2.2.2.2.2.2 q25.2 a0).bind fun q39 =>
                nm (q39.1) fun x40 =>
                K34 x40 q39.2.1 q39.2.2.1 q39.2.2.2.1 q39.2.2.2.2.1 q39.2.2.2.2.2.1 q39.2.2.2.2.2.2.1 q39.2.2.2.2.2.2.2
              )
            )
          ) := by
          rw [lp_X0_caughtIn_52, if_neg (nI_ge (by omega) (by omega)), if_pos rfl, holds_t e, Option.bind_some, if_neg n10]
        have stopped : ∀ (v : Int32) (T' : Nat) (x y : Int64) (bl' wh' : Nat → Int64) (ac : Nat → Int32), ¬ v = 0 → lp_X0_caughtIn_52 41 (nI t) cc gd.1 (nI (w * h)) gd.2.1 gd.2.2.1 gd.2.2.2 0 op a0 rc br (nI mny) nF v (nI (i + 1)) (nI L) x y bl' wh' ac (nI T') = some (v, nI L, x, y, bl', wh', ac, nI T') := fun v T' x y bl' wh' ac hv => by
          obtain ⟨k, rfl⟩ : ∃ k, nF = k + 1 := ⟨nF - 1, by omega⟩
          rw [lp_X0_caughtIn_52]
          by_cases z : i + 1 = w * h
          · rw [if_pos (nI_le (by omega) (by omega))]
          · rw [if_neg (nI_ge (by omega) (by omega)), if_neg hv]
        cases el : lgb gd (Mv op L) (bl L) (wh L) (Ah bl wh L) i
        · rw [el, if_neg (by decide)] at ra
          rw [gq_skip el, ← hm']
          obtain ⟨x', y', bl'', wh'', ac', r1, r2⟩ := ih (i + 1) T x1 y1 bl' wh' ac (by omega) (by omega) h3 U
          refine ⟨x', y', bl'', wh'', ac', ?_, r2⟩
          rw [start, ra, Option.bind_some, if_pos rfl, nm_eq, nI_1]
          exact r1
        · rw [el, if_pos rfl] at ra
          by_cases hT : T < 600
          · -- the value of this stone
            have val : ∃ x2 y2 b2 w2 a2, lp_X0_caughtIn_52 41 (nI t) cc gd.1 (nI (w * h)) gd.2.1 gd.2.2.1 gd.2.2.2 0 op a0 rc br (nI mny) (nF + 1) 0 (nI i) (nI L) x y bl' wh' ac (nI T) = lp_X0_caughtIn_52 41 (nI t) cc gd.1 (nI (w * h)) gd.2.1 gd.2.2.1 gd.2.2.2 0 op a0 rc br (nI mny) nF (F i (T + 1)).1 (nI (i + 1)) (nI L) x2 y2 b2 w2 a2 (nI (F i (T + 1)).2) ∧ Up L bl wh b2 w2 := by
              rw [start, ra, Option.bind_some, if_neg n10, oneMore_t hT, Option.bind_some]
              simp only [nm_eq]
              rw [if_neg n10]
              by_cases z : mny = 1
              · rw [if_pos (by rw [z]; decide), f_takeBack (by omega), Option.bind_some, nI_1, hF1 z i (T + 1)]
                exact ⟨_, _, _, _, _, rfl, U.tr (Up.upd L bl' wh' _ _)⟩
              · rw [if_neg (show ¬ nI mny = 1 from fun q => z ((nI_eq (b := 1) hmn (by decide)).mp q))]
                obtain ⟨x2, y2, b2, w2, a2, s1, s2⟩ := hrc z i (T + 1) x1 y1 bl' wh' (upd ac L (nI i)) (by omega) el (by omega) U
                rw [s1, Option.bind_some, f_takeBack (by omega), Option.bind_some, nI_1]
                exact ⟨x2, y2, b2, w2, a2, rfl, s2⟩
            obtain ⟨x2, y2, b2, w2, a2, v1, v2⟩ := val
            rw [v1]
            by_cases q : (F i (T + 1)).1 = 0
            · rw [gq_on el hT q, q, ← hm']
              exact ih (i + 1) _ x2 y2 b2 w2 a2 (by omega) (by omega) (hF2 i _ (by omega)) v2
            · rw [gq_out el hT q, stopped _ _ _ _ _ _ _ q]
              exact ⟨_, _, _, _, _, rfl, v2⟩
          · rw [gq_full el hT, start, ra, Option.bind_some, if_neg n10, oneMore_f hT h3, Option.bind_some]
            simp only [nm_eq]
            rw [if_pos trivial, f_takeBack (by omega), Option.bind_some, nI_1, stopped _ _ _ _ _ _ _ (by decide)]
            exact ⟨_, _, _, _, _, rfl, U.tr (Up.upd L bl' wh' _ _)⟩
end CC
