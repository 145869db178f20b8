/-! the rules that a walk uses: a block of instructions and its end -/
def isbT (rt : Option FieldType) (x : Int32) : Prop := rt = some .int ∨ (rt = some .boolean ∧ isb x = true)
theorem al0 : ∀ g ∈ ([] : List Bool), g = true := fun _ h => by cases h
theorem al1 {a : Bool} (ha : a = true) : ∀ g ∈ [a], g = true := fun g h => by
  rw [List.mem_singleton.mp h]; exact ha
theorem alc {a : Bool} {l : List Bool} (ha : a = true) (hl : ∀ g ∈ l, g = true) : ∀ g ∈ a :: l, g = true := fun g h => by
  rcases List.mem_cons.mp h with rfl | h
  · exact ha
  · exact hl g h
/-- the value that a switch goes by: pairs of a number and a place -/
def swOK (pe : Nat) (dflt lo hi : Int) (offs : List Int) : Nat → List (Int32 × Nat) → Bool
  | i, [] => decide (i = offs.length ∧ hi + 1 = lo + i)
  | i, (v, t) :: r => decide (v.toInt = lo + i ∧ offs[i]? = some ((t : Int) - pe)) && swOK pe dflt lo hi offs (i + 1) r
theorem sw_in {pe : Nat} {dflt lo hi : Int} {offs : List Int} : ∀ (ts : List (Int32 × Nat)) (i : Nat), swOK pe dflt lo hi offs i ts = true → ∀ (x : Int32), lo + i ≤ x.toInt → x.toInt ≤ hi → ∃ (j : Nat) (v : Int32) (t : Nat), ts[j]? = some (v, t) ∧ x = v ∧ offs[(x.toInt - lo).toNat]? = some ((t : Int) - pe) := by
  intro ts
  induction ts with
  | nil =>
    intro i h x h1 h2
    simp only [swOK, decide_eq_true_eq] at h
    omega
  | cons q r ih =>
    intro i h x h1 h2
    obtain ⟨v, t⟩ := q
    simp only [swOK, Bool.and_eq_true, decide_eq_true_eq] at h
    obtain ⟨⟨h3, h4⟩, h5⟩ := h
    by_cases hx : x.toInt = lo + i
    · refine ⟨0, v, t, rfl, Int32.toInt_inj.mp (hx.trans h3.symm), ?_⟩
      rw [hx, show (lo + (i : Int) - lo).toNat = i by omega]
      exact h4
    · obtain ⟨j, v2, t2, g1, g2, g3⟩ := ih (i + 1) h5 x (by omega) h2
      exact ⟨j + 1, v2, t2, by simpa using g1, g2, g3⟩
theorem sw_ge {pe : Nat} {dflt lo hi : Int} {offs : List Int} : ∀ (ts : List (Int32 × Nat)) (i : Nat), swOK pe dflt lo hi offs i ts = true → ∀ (j : Nat) (v : Int32) (t : Nat), ts[j]? = some (v, t) → lo + i ≤ v.toInt ∧ v.toInt ≤ hi := by
  intro ts
  induction ts with
  | nil => intro i h j v t hj; simp at hj
  | cons q r ih =>
    intro i h j v t hj
    obtain ⟨v2, t2⟩ := q
    simp only [swOK, Bool.and_eq_true, decide_eq_true_eq] at h
    obtain ⟨⟨h3, h4⟩, h5⟩ := h
    have hend : ∀ (r : List (Int32 × Nat)) (i : Nat), swOK pe dflt lo hi offs i r = true → lo + i ≤ hi + 1 := by
      intro r
      induction r with
      | nil => intro i h; simp only [swOK, decide_eq_true_eq] at h; omega
      | cons q r ih2 =>
        intro i h
        obtain ⟨v3, t3⟩ := q
        simp only [swOK, Bool.and_eq_true, decide_eq_true_eq] at h
        have := ih2 (i + 1) h.2
        omega
    cases j with
    | zero =>
      simp only [List.getElem?_cons_zero] at hj
      cases hj
      have := hend r (i + 1) h5
      omega
    | succ j =>
      simp only [List.getElem?_cons_succ] at hj
      have := ih (i + 1) h5 j v t hj
      omega
theorem lk_in {pe : Nat} {dflt : Int} {x : Int32} : ∀ (ts : List (Int32 × Nat)), (∃ (j : Nat) (v : Int32) (t : Nat), ts[j]? = some (v, t) ∧ x = v ∧ Op.lookupswitch.offset (ts.map (fun q => (q.1.toInt, (q.2 : Int) - pe))) dflt x.toInt = (t : Int) - pe) ∨ ((∀ (j : Nat) (v : Int32) (t : Nat), ts[j]? = some (v, t) → ¬ x = v) ∧ Op.lookupswitch.offset (ts.map (fun q => (q.1.toInt, (q.2 : Int) - pe))) dflt x.toInt = dflt) := by
  intro ts
  induction ts with
  | nil => exact Or.inr ⟨fun j v t h => by simp at h, rfl⟩
  | cons q r ih =>
    obtain ⟨v, t⟩ := q
    by_cases hx : x = v
    · subst hx
      exact Or.inl ⟨0, x, t, rfl, rfl, by simp [Op.lookupswitch.offset]⟩
    · have hne : ¬ v.toInt = x.toInt := fun e => hx (Int32.toInt_inj.mp e.symm)
      have hstep : Op.lookupswitch.offset (((v, t) :: r).map (fun q => (q.1.toInt, (q.2 : Int) - pe))) dflt x.toInt = Op.lookupswitch.offset (r.map (fun q => (q.1.toInt, (q.2 : Int) - pe))) dflt x.toInt := by
        simp [Op.lookupswitch.offset, hne, fun e : x.toInt = v.toInt => hne e.symm]
      rcases ih with ⟨j, v2, t2, g1, g2, g3⟩ | ⟨g1, g2⟩
      · exact Or.inl ⟨j + 1, v2, t2, by simpa using g1, g2, hstep.trans g3⟩
      · refine Or.inr ⟨fun j v2 t2 hj => ?_, hstep.trans g2⟩
        cases j with
        | zero => simp only [List.getElem?_cons_zero] at hj; cases hj; exact hx
        | succ j => simp only [List.getElem?_cons_succ] at hj; exact g1 j v2 t2 hj
section CLR
variable {E : ET} {oc : Nat} {cc : ByteArray} {lev : Nat} {ret : Option FieldType} {RP : Option sv → IT → ZT → Prop} {G : Nat → LV → List sv → IT → ZT → Prop}
variable {pc pe ln : Nat} {la : Instr} {ops : List op} {lv lv' : LV} {st st' : List sv} {I I' I2 : IT} {Z Z' Z2 : ZT} {gs : List Bool} {r : Option sv} {rest : List sv}
theorem Cl.wk (C : Cl E oc cc lev ret RP G) {lvT : LV} (mm : List Bool) (hm : mk mm lv = lvT) (hn : lvT.length = lv.length) (k : G pc lvT st I Z) : G pc lv st I Z := by
  obtain ⟨R, p, e, s, m, args, below, meth, c, nL, Qc, hR, rfl, S, hC, hr, hlk, hRP⟩ := C
  exact GO.wk mm hm hn k
theorem Cl.fall (C : Cl E oc cc lev ret RP G) (hd : dcd oc cc pc ops pe la ln = true) (hb : runb ops lv st I Z = some (gs, lv', st', I', Z')) (hg : ∀ g ∈ gs, g = true) (k : G pe lv' st' I' Z') : G pc lv st I Z := by
  obtain ⟨R, p, e, s, m, args, below, meth, c, nL, Qc, hR, rfl, S, hC, hr, hlk, hRP⟩ := C
  exact runb_ok S hC ops pc lv st I Z gs hd hb hg k
theorem Cl.goto (C : Cl E oc cc lev ret RP G) {off : Int} {tgt : Nat} (hd : dcd oc cc pc ops pe (.goto off) 3 = true) (hb : runb ops lv st I Z = some (gs, lv', st', I', Z')) (hg : ∀ g ∈ gs, g = true) (ht : (pe : Int) + off = (tgt : Int)) (k : G tgt lv' st' I' Z') : G pc lv st I Z := by
  refine C.fall hd hb hg ?_
  obtain ⟨R, p, e, s, m, args, below, meth, c, nL, Qc, hR, rfl, S, hC, hr, hlk, hRP⟩ := C
  intro H locs ls hW hS hl
  exact lv_goto S.1 S.2.1 (dcd_last ops pc hd) ht (k H locs ls hW hS hl)
theorem Cl.icmp (C : Cl E oc cc lev ret RP G) {cnd : Jvm.ClassFile.Cond} {off : Int} {tgt : Nat} {x y : Int32} {q : List sv} (hd : dcd oc cc pc ops pe (.if_icmp cnd off) 3 = true) (hb : runb ops lv st I Z = some (gs, lv', vI y :: vI x :: q, I', Z')) (hg : ∀ g ∈ gs, g = true) (ht : (pe : Int) + off = (tgt : Int))
    (kt : cp cnd x y → G tgt lv' q I' Z') (kf : ¬ cp cnd x y → G (pe + 3) lv' q I' Z') : G pc lv st I Z := by
  refine C.fall hd hb hg ?_
  obtain ⟨R, p, e, s, m, args, below, meth, c, nL, Qc, hR, rfl, S, hC, hr, hlk, hRP⟩ := C
  exact GO.icmp S (dcd_last ops pc hd) ht kt kf
theorem Cl.ifc (C : Cl E oc cc lev ret RP G) {cnd : Jvm.ClassFile.Cond} {off : Int} {tgt : Nat} {x : Int32} {q : List sv} (hd : dcd oc cc pc ops pe (.ifCond cnd off) 3 = true) (hb : runb ops lv st I Z = some (gs, lv', vI x :: q, I', Z')) (hg : ∀ g ∈ gs, g = true) (ht : (pe : Int) + off = (tgt : Int))
    (kt : cp cnd x 0 → G tgt lv' q I' Z') (kf : ¬ cp cnd x 0 → G (pe + 3) lv' q I' Z') : G pc lv st I Z := by
  refine C.fall hd hb hg ?_
  obtain ⟨R, p, e, s, m, args, below, meth, c, nL, Qc, hR, rfl, S, hC, hr, hlk, hRP⟩ := C
  exact GO.ifc S (dcd_last ops pc hd) ht kt kf
theorem Cl.tsw (C : Cl E oc cc lev ret RP G) {dflt lo hi : Int} {offs : Array Int} {len : Nat} {x : Int32} {q : List sv} (ts : List (Int32 × Nat)) (dt : Nat) (hd : dcd oc cc pc ops pe (.tableswitch dflt lo hi offs) len = true) (hb : runb ops lv st I Z = some (gs, lv', vI x :: q, I', Z')) (hg : ∀ g ∈ gs, g = true) (hs : swOK pe dflt lo hi offs.toList 0 ts = true) (hdt : (pe : Int) + dflt = (dt : Int))
    (k : ∀ (j : Nat) (v : Int32) (t : Nat), ts[j]? = some (v, t) → x = v → G t lv' q I' Z') (kd : (∀ (j : Nat) (v : Int32) (t : Nat), ts[j]? = some (v, t) → ¬ x = v) → G dt lv' q I' Z') : G pc lv st I Z := by
  refine C.fall hd hb hg ?_
  have hdl := dcd_last ops pc hd
  obtain ⟨R, p, e, s, m, args, below, meth, c, nL, Qc, hR, rfl, S, hC, hr, hlk, hRP⟩ := C
  intro H locs ls hW hS hl
  by_cases h1 : x.toInt < lo
  · refine lv_tableOut S.1 S.2.1 hdl (Or.inl h1) hdt (kd (fun j v t hj e => ?_) H locs ls hW hS hl)
    have := sw_ge ts 0 hs j v t hj
    rw [e] at h1
    omega
  · by_cases h2 : hi < x.toInt
    · refine lv_tableOut S.1 S.2.1 hdl (Or.inr h2) hdt (kd (fun j v t hj e => ?_) H locs ls hW hS hl)
      have := sw_ge ts 0 hs j v t hj
      rw [e] at h2
      omega
    · obtain ⟨j, v, t, g1, g2, g3⟩ := sw_in ts 0 hs x (by omega) (by omega)
      exact lv_tableIn S.1 S.2.1 hdl h1 h2 (off := (t : Int) - pe) (by rw [← Array.getElem?_toList]; exact g3) (by omega) (k j v t g1 g2 H locs ls hW hS hl)
theorem Cl.lsw (C : Cl E oc cc lev ret RP G) {dflt : Int} {ps : Array (Int × Int)} {len : Nat} {x : Int32} {q : List sv} (ts : List (Int32 × Nat)) (dt : Nat) (hd : dcd oc cc pc ops pe (.lookupswitch dflt ps) len = true) (hb : runb ops lv st I Z = some (gs, lv', vI x :: q, I', Z')) (hg : ∀ g ∈ gs, g = true) (hp : (ps.toList.zip (ps.toList.drop 1)).all (fun (a, next) => a.1 < next.1) = true) (hs : ps.toList = ts.map (fun q => (q.1.toInt, (q.2 : Int) - pe))) (hdt : (pe : Int) + dflt = (dt : Int))
    (k : ∀ (j : Nat) (v : Int32) (t : Nat), ts[j]? = some (v, t) → x = v → G t lv' q I' Z') (kd : (∀ (j : Nat) (v : Int32) (t : Nat), ts[j]? = some (v, t) → ¬ x = v) → G dt lv' q I' Z') : G pc lv st I Z := by
  refine C.fall hd hb hg ?_
  have hdl := dcd_last ops pc hd
  obtain ⟨R, p, e, s, m, args, below, meth, c, nL, Qc, hR, rfl, S, hC, hr, hlk, hRP⟩ := C
  intro H locs ls hW hS hl
  rcases lk_in (x := x) (pe := pe) (dflt := dflt) ts with ⟨j, v, t, g1, g2, g3⟩ | ⟨g1, g2⟩
  · exact lv_lookup S.1 S.2.1 hdl hp (off := (t : Int) - pe) (by rw [hs]; exact g3) (by omega) (k j v t g1 g2 H locs ls hW hS hl)
  · exact lv_lookup S.1 S.2.1 hdl hp (off := dflt) (by rw [hs]; exact g2) hdt (kd g1 H locs ls hW hS hl)
theorem Cl.iret (C : Cl E oc cc lev ret RP G) {x : Int32} (hd : dcd oc cc pc ops pe .ireturn 1 = true) (hb : runb ops lv st I Z = some (gs, lv', [vI x], I', Z')) (hg : ∀ g ∈ gs, g = true) (hx : isbT ret x) (hp : RP (some (vI x)) I' Z') : G pc lv st I Z := by
  refine C.fall hd hb hg ?_
  have hdl := dcd_last ops pc hd
  obtain ⟨R, p, e, s, m, args, below, meth, c, nL, Qc, hR, rfl, S, hC, hr, hlk, hRP⟩ := C
  intro H locs ls hW hS hl
  have hq : ∀ t : State, t.heap = H → s.WarmedH t.vm → Qc args s (.returned (some (.int x))) t := fun t ht _ => hRP _ _ _ hp t (by rw [ht]; exact hW) (hS.F ht)
  rcases hx with rfl | ⟨rfl, hx⟩
  · exact W.zret (v := x) S.1 S.2.1 hr rfl hq hS.2.2 hdl hlk
  · refine W.zret (v := x) S.1 S.2.1 hr ?_ hq hS.2.2 hdl hlk
    simp only [isb, Bool.or_eq_true, decide_eq_true_eq] at hx
    rcases hx with rfl | rfl <;> decide +kernel
theorem Cl.vret (C : Cl E oc cc lev none RP G) (hd : dcd oc cc pc ops pe .return_ 1 = true) (hb : runb ops lv st I Z = some (gs, lv', [], I', Z')) (hg : ∀ g ∈ gs, g = true) (hp : RP none I' Z') : G pc lv st I Z := by
  refine C.fall hd hb hg ?_
  have hdl := dcd_last ops pc hd
  obtain ⟨R, p, e, s, m, args, below, meth, c, nL, Qc, hR, rfl, S, hC, hr, hlk, hRP⟩ := C
  intro H locs ls hW hS hl
  exact W.vret S.1 S.2.1 hr (fun t ht _ => hRP _ _ _ hp t (by rw [ht]; exact hW) (hS.F ht)) hS.2.2 hdl hlk
theorem Cl.aret (C : Cl E oc cc lev (some (.array .int)) RP G) {ci p : Nat} {bb : Bool} (hd : dcd oc cc pc ops pe .areturn 1 = true) (hb : runb ops lv st I Z = some (gs, lv', [vR ci bb p], I', Z')) (hg : ∀ g ∈ gs, g = true) (hp : RP (some (vR ci bb p)) I' Z') : G pc lv st I Z := by
  refine C.fall hd hb hg ?_
  have hdl := dcd_last ops pc hd
  obtain ⟨R, p, e, s, m, args, below, meth, c, nL, Qc, hR, rfl, S, hC, hr, hlk, hRP⟩ := C
  intro H locs ls hW hS hl
  exact W.aret S.1 S.2.1 hr (Or.inr ⟨_, rfl⟩) (Or.inr ⟨_, rfl⟩) (fun t ht _ => hRP _ _ _ hp t (by rw [ht]; exact hW) (hS.F ht)) hS.2.2 hdl hlk
theorem Cl.callv (C : Cl E oc cc lev ret RP G) {lev2 idx ci maxL n : Nat} {bb : Bool} {y : MethodName} {bytes : ByteArray} {rt : Option FieldType} {as stk : List sv} (hd : dcd oc cc pc ops pe (.invokevirtual idx) 3 = true) (hb : runb ops lv st I Z = some (gs, lv', stk, I', Z')) (hg : ∀ g ∈ gs, g = true) (hM : Ctr E lev2 y bytes maxL rt (vR ci bb 0 :: as) I' Z' r I2 Z2) (hs : stk = as.reverse ++ vR ci bb 0 :: rest) (hlev : lev2 + 1 ≤ lev) (hy : MFv y bytes maxL rt n ci) (hn : as.length = n) (hlink : Cond.methodLink (ownN oc) idx y ∈ lw_tbl) (hbb : ci = 5 ∨ bb = false) (hrest : catS (eq E) rest ≤ 8)
    (k : G (pe + 3) lv' (r.toList ++ rest) I2 Z2) : G pc lv st I Z := by
  refine C.fall hd hb hg ?_
  have hdl := dcd_last ops pc hd
  obtain ⟨R, p, e, s, m, args, below, meth, c, nL, Qc, hR, rfl, S, hC, hr, hlk, hRP⟩ := C
  subst hs
  exact GO.callv S hC hdl hM hR hlev hy hn hlink hbb hrest k
theorem Cl.calls (C : Cl E oc cc lev ret RP G) {lev2 idx maxL n : Nat} {y : MethodName} {bytes : ByteArray} {rt : Option FieldType} {as stk : List sv} (hd : dcd oc cc pc ops pe (.invokestatic idx) 3 = true) (hb : runb ops lv st I Z = some (gs, lv', stk, I', Z')) (hg : ∀ g ∈ gs, g = true) (hM : Ctr E lev2 y bytes maxL rt as I' Z' r I2 Z2) (hs : stk = as.reverse ++ rest) (hlev : lev2 + 1 ≤ lev) (hy : MFs y bytes maxL rt n) (hn : as.length = n) (hlink : Cond.methodLink (ownN oc) idx y ∈ lw_tbl) (hrest : catS (eq E) rest ≤ 8)
    (k : G (pe + 3) lv' (r.toList ++ rest) I2 Z2) : G pc lv st I Z := by
  refine C.fall hd hb hg ?_
  have hdl := dcd_last ops pc hd
  obtain ⟨R, p, e, s, m, args, below, meth, c, nL, Qc, hR, rfl, S, hC, hr, hlk, hRP⟩ := C
  subst hs
  exact GO.calls S hC hdl hM hR hlev hy hn hlink hrest k
theorem Cl.callN (C : Cl E 5 cc lev ret RP G) {lev2 maxL n : Nat} {bytes : ByteArray} {rt : Option FieldType} {as stk : List sv} (hd : dcd 5 cc pc ops pe (.invokestatic 67) 3 = true) (hb : runb ops lv st I Z = some (gs, lv', stk, I', Z')) (hg : ∀ g ∈ gs, g = true) (hM : Ctr E lev2 yX9_spanFits bytes maxL rt as I' Z' r I2 Z2) (hs : stk = as.reverse ++ rest) (hlev : lev2 + 1 ≤ lev) (hy : MFs yX9_spanFits bytes maxL rt n) (hn : as.length = n) (hrest : catS (eq E) rest ≤ 8)
    (k : G (pe + 3) lv' (r.toList ++ rest) I2 Z2) : G pc lv st I Z := by
  refine C.fall hd hb hg ?_
  have hdl := dcd_last ops pc hd
  obtain ⟨R, p, e, s, m, args, below, meth, c, nL, Qc, hR, rfl, S, hC, hr, hlk, hRP⟩ := C
  subst hs
  exact GO.callN S hC hdl hM hR hlev hy hn hrest k
end CLR
/-- the locals at a method's entry -/
def entL : List sv → LV
  | [] => []
  | Sum.inr (Sum.inl x) :: r => some (vL x) :: none :: entL r
  | v :: r => some v :: entL r
def ent (av : List sv) (n : Nat) : LV := entL av ++ List.replicate (n - (entL av).length) none
theorem entL_at {q : Nat → Bool → Nat → Nat} : ∀ (av : List sv) (k i : Nat) (v : sv), (entL av)[i]? = some (some v) → (k + i, toV q v) ∈ lv_args k (av.map (toV q)) := by
  intro av
  induction av with
  | nil => intro k i v h; simp [entL] at h
  | cons a r ih =>
    intro k i v h
    rcases a with x | x | x
    · cases i with
      | zero => simp only [entL, List.getElem?_cons_zero] at h; cases h; exact List.mem_cons_self
      | succ i =>
        simp only [entL, List.getElem?_cons_succ] at h
        have := ih (k + 1) i v h
        rw [show k + (i + 1) = k + 1 + i by omega]
        exact List.mem_cons_of_mem _ this
    · cases i with
      | zero => simp only [entL, List.getElem?_cons_zero] at h; cases h; exact List.mem_cons_self
      | succ i =>
        cases i with
        | zero => simp [entL] at h
        | succ i =>
          simp only [entL, List.getElem?_cons_succ] at h
          have := ih (k + 2) i v h
          rw [show k + (i + 1 + 1) = k + 2 + i by omega]
          exact List.mem_cons_of_mem _ this
    · cases i with
      | zero => simp only [entL, List.getElem?_cons_zero] at h; cases h; exact List.mem_cons_self
      | succ i =>
        simp only [entL, List.getElem?_cons_succ] at h
        have := ih (k + 1) i v h
        rw [show k + (i + 1) = k + 1 + i by omega]
        exact List.mem_cons_of_mem _ this
theorem entL_len {q : Nat → Bool → Nat → Nat} : ∀ (av : List sv), (lg_sl (av.map (toV q))).length = (entL av).length := by
  intro av
  induction av with
  | nil => rfl
  | cons a r ih =>
    rcases a with x | x | x
    · simp only [lg_sl, List.map_cons, List.flatMap_cons, entL, List.length_append, List.length_cons] at ih ⊢
      rw [ih]
      simp [toV, Value.category]
      omega
    · simp only [lg_sl, List.map_cons, List.flatMap_cons, entL, List.length_append, List.length_cons] at ih ⊢
      rw [ih]
      simp [toV, Value.category]
      omega
    · simp only [lg_sl, List.map_cons, List.flatMap_cons, entL, List.length_append, List.length_cons] at ih ⊢
      rw [ih]
      simp [toV, Value.category]
      omega
theorem Ctr.of {E : ET} (oc : Nat) {lev : Nat} {y : MethodName} {cc : ByteArray} {maxL : Nat} {ret : Option FieldType} {av : List sv} {I : IT} {Z : ZT} {r : Option sv} {I' : IT} {Z' : ZT} (lv0 : LV) (hcls : y.cls = ownN oc) (hpl : _root_.Jvm.plainName y.cls = true) (hlv : ent av maxL = lv0) (hmax : (entL av).length ≤ maxL)
    (body : ∀ G, Cl E oc cc lev ret (fun r2 I2 Z2 => r2 = r ∧ I2 = I' ∧ Z2 = Z') G → G 0 lv0 [] I Z) : Ctr E lev y cc maxL ret av I Z r I' Z' := by
  refine Met.ofW (cc := cc) (maxL := maxL) (ret := ret) hpl rfl ?_
  intro p e s m args below meth c s₁ B hml hv
  obtain ⟨rfl, hP, hC⟩ := hv
  have hts := atoms_spec (ws := Cond.code y cc maxL ret :: wt) B.pre
  have hown : s.vm.findClass (ownN oc) = some m.cls := by rw [← hcls]; exact findClass_of_methodNamed B.named
  have h1 := body (GO E p e (rmL lev) s m (av.map (toV (eq E))).toArray below meth c maxL (MQ below (PostC E r I' Z') (av.map (toV (eq E))).toArray s 0 0 (eA E))) ⟨rmL lev, p, e, s, m, _, below, meth, c, maxL, PostC E r I' Z', ⟨Nat.le_refl _, Nat.le_refl _⟩, rfl, ⟨B.exec, B.bytes, hml, hown, fun w hw => hts w (List.mem_cons_of_mem _ hw)⟩, hC, B.returns, B.notSynchronized, fun r2 I2 Z2 h t h1 h2 => by
    obtain ⟨rfl, rfl, rfl⟩ := h
    exact ⟨rfl, h1, h2⟩⟩
  rw [lg_entry_eq]
  have hl := lv_entry (av.map (toV (eq E))) (n := maxL) (by rw [entL_len]; exact hmax)
  refine h1 s.heap [] _ hP va_S.rf ⟨?_, _, hl, fun i v hi => ?_⟩
  · rw [← hlv, ent, List.length_append, List.length_replicate]
    omega
  · rw [← hlv, ent] at hi
    have hi2 : (entL av)[i]? = some (some v) := by
      rw [List.getElem?_append] at hi
      split at hi
      · exact hi
      · rw [List.getElem?_replicate] at hi
        split at hi <;> cases hi
    have := entL_at (q := eq E) av 0 i v hi2
    simpa using this
