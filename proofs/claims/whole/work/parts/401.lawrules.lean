/-! the law's own walk: its machine, its rules -/
def CL (E : ET) (b0 L : Nat) (xs : Nat → Int32) (G : Nat → LV → List sv → IT → ZT → Prop) : Prop :=
  ∃ (p : Program) (e : Env) (s : State) (m : MethodId) (below : List Frame) (meth : Method) (c : Code),
    G = GO E p e room_1 s m #[Value.ref b0] below meth c 4 (lw_Z below #[Value.ref b0] s) ∧ CallFix p m c code 4 s #[Value.ref b0] wt (ownN 13) ∧ Cq E s ∧ meth.sig.returnType = ret ∧ meth.locks = false ∧ va_X b0 L xs s s.heap ∧ b0 < s.heap.size ∧ ez E = s.heap.size ∧ eq E 22 false 0 = b0
section CLL
variable {E : ET} {b0 L : Nat} {xs : Nat → Int32} {G : Nat → LV → List sv → IT → ZT → Prop}
variable {pc pe ln : Nat} {la : Instr} {ops : List op} {lv lv' : LV} {st st' : List sv} {I I' I2 : IT} {Z Z' Z2 : ZT} {gs : List Bool} {r : Option sv} {rest : List sv}
theorem CL.run (C : CL E b0 L xs G) (hd : dcd 13 code pc ops pe la ln = true) (hb : runb ops lv st I Z = some (gs, lv', st', I', Z')) (hg : ∀ g ∈ gs, g = true) (k : G pe lv' st' I' Z') : G pc lv st I Z := by
  obtain ⟨p, e, s, m, below, meth, c, rfl, S, hC, hr, hlk, hX, hbl, hez, hq⟩ := C
  exact runb_ok S hC ops pc lv st I Z gs hd hb hg k
theorem CL.arg (C : CL E b0 L xs G) {i : Int32} {q : List sv} (hd : dcd 13 code pc ops pe .iaload 1 = true) (hb : runb ops lv st I Z = some (gs, lv', vI i :: vR 22 false 0 :: q, I', Z')) (hg : ∀ g ∈ gs, g = true) (hi : vb i L = true) (k : G (pe + 1) lv' (vI (xs i.toNatClampNeg) :: q) I' Z') : G pc lv st I Z := by
  refine C.run hd hb hg ?_
  obtain ⟨p, e, s, m, below, meth, c, rfl, S, hC, hr, hlk, hX, hbl, hez, hq⟩ := C
  intro H locs ls hW hS hl
  show W p (eL E) e room_1 s m #[Value.ref b0] below meth c H locs _ _ _ (F0 m pe ls (.int i :: .ref (eq E 22 false 0) :: q.map (toV (eq E))))
  rw [hq]
  exact va_sld S.1 S.2.1 hX hbl (by show ¬ ez E ≤ b0; omega) hS (vb_in hi) (dcd_last ops pc hd) (k H locs ls hW hS hl)
theorem CL.len (C : CL E b0 L xs G) {q : List sv} (hd : dcd 13 code pc ops pe .arraylength 1 = true) (hb : runb ops lv st I Z = some (gs, lv', vR 22 false 0 :: q, I', Z')) (hg : ∀ g ∈ gs, g = true) (k : G (pe + 1) lv' (vI (nI L) :: q) I' Z') : G pc lv st I Z := by
  refine C.run hd hb hg ?_
  obtain ⟨p, e, s, m, below, meth, c, rfl, S, hC, hr, hlk, hX, hbl, hez, hq⟩ := C
  intro H locs ls hW hS hl
  show W p (eL E) e room_1 s m #[Value.ref b0] below meth c H locs _ _ _ (F0 m pe ls (.ref (eq E 22 false 0) :: q.map (toV (eq E))))
  rw [hq]
  exact va_slen S.1 S.2.1 hX hbl (by show ¬ ez E ≤ b0; omega) hS (dcd_last ops pc hd) (k H locs ls hW hS hl)
theorem CL.icmp (C : CL E b0 L xs G) {cnd : Jvm.ClassFile.Cond} {off : Int} {tgt : Nat} {x y : Int32} {q : List sv} (hd : dcd 13 code pc ops pe (.if_icmp cnd off) 3 = true) (hb : runb ops lv st I Z = some (gs, lv', vI y :: vI x :: q, I', Z')) (hg : ∀ g ∈ gs, g = true) (ht : (pe : Int) + off = (tgt : Int))
    (kt : cp cnd x y → G tgt lv' q I' Z') (kf : ¬ cp cnd x y → G (pe + 3) lv' q I' Z') : G pc lv st I Z := by
  refine C.run hd hb hg ?_
  obtain ⟨p, e, s, m, below, meth, c, rfl, S, hC, hr, hlk, hX, hbl, hez, hq⟩ := C
  exact GO.icmp S (dcd_last ops pc hd) ht kt kf
theorem CL.goto (C : CL E b0 L xs G) {off : Int} {tgt : Nat} (hd : dcd 13 code pc ops pe (.goto off) 3 = true) (hb : runb ops lv st I Z = some (gs, lv', st', I', Z')) (hg : ∀ g ∈ gs, g = true) (ht : (pe : Int) + off = (tgt : Int)) (k : G tgt lv' st' I' Z') : G pc lv st I Z := by
  refine C.run hd hb hg ?_
  obtain ⟨p, e, s, m, below, meth, c, rfl, S, hC, hr, hlk, hX, hbl, hez, hq⟩ := C
  intro H locs ls hW hS hl
  exact lv_goto S.1 S.2.1 (dcd_last ops pc hd) ht (k H locs ls hW hS hl)
theorem CL.tsw (C : CL E b0 L xs G) {dflt lo hi : Int} {offs : Array Int} {len : Nat} {x : Int32} {q : List sv} (ts : List (Int32 × Nat)) (dt : Nat) (hd : dcd 13 code pc ops pe (.tableswitch dflt lo hi offs) len = true) (hb : runb ops lv st I Z = some (gs, lv', vI x :: q, I', Z')) (hg : ∀ g ∈ gs, g = true) (hs : swOK pe dflt lo hi offs.toList 0 ts = true) (hdt : (pe : Int) + dflt = (dt : Int))
    (k : ∀ (j : Nat) (v : Int32) (t : Nat), ts[j]? = some (v, t) → x = v → G t lv' q I' Z') (kd : (∀ (j : Nat) (v : Int32) (t : Nat), ts[j]? = some (v, t) → ¬ x = v) → G dt lv' q I' Z') : G pc lv st I Z := by
  refine C.run hd hb hg ?_
  have hdl := dcd_last ops pc hd
  obtain ⟨p, e, s, m, below, meth, c, rfl, S, hC, hr, hlk, hX, hbl, hez, hq⟩ := C
  intro H locs ls hW hS hl
  by_cases h1 : x.toInt < lo
  · refine lv_tableOut S.1 S.2.1 hdl (Or.inl h1) hdt (kd (fun j v t hj e => ?_) H locs ls hW hS hl)
    have := sw_ge ts 0 hs j v t hj
    rw [e] at h1
    omega
  · by_cases h2 : hi < x.toInt
    · refine lv_tableOut S.1 S.2.1 hdl (Or.inr h2) hdt (kd (fun j v t hj e => ?_) H locs ls hW hS hl)
      have := sw_ge ts 0 hs j v t hj
      rw [e] at h2
      omega
    · obtain ⟨j, v, t, g1, g2, g3⟩ := sw_in ts 0 hs x (by omega) (by omega)
      exact lv_tableIn S.1 S.2.1 hdl h1 h2 (off := (t : Int) - pe) (by rw [← Array.getElem?_toList]; exact g3) (by omega) (k j v t g1 g2 H locs ls hW hS hl)
theorem CL.callv (C : CL E b0 L xs G) {lev2 idx ci maxL n : Nat} {y : MethodName} {bytes : ByteArray} {rt : Option FieldType} {as stk : List sv} (hd : dcd 13 code pc ops pe (.invokevirtual idx) 3 = true) (hb : runb ops lv st I Z = some (gs, lv', stk, I', Z')) (hg : ∀ g ∈ gs, g = true) (hM : Ctr E lev2 y bytes maxL rt (vR ci false 0 :: as) I' Z' r I2 Z2) (hs : stk = as.reverse ++ vR ci false 0 :: rest) (hlev : lev2 + 1 ≤ 1000) (hy : MFv y bytes maxL rt n ci) (hn : as.length = n) (hlink : Cond.methodLink (ownN 13) idx y ∈ lw_tbl) (hrest : catS (eq E) rest ≤ 8)
    (k : G (pe + 3) lv' (r.toList ++ rest) I2 Z2) : G pc lv st I Z := by
  refine C.run hd hb hg ?_
  have hdl := dcd_last ops pc hd
  obtain ⟨p, e, s, m, below, meth, c, rfl, S, hC, hr, hlk, hX, hbl, hez, hq⟩ := C
  subst hs
  exact GO.callv S hC hdl hM (lev := 1000) ⟨Nat.le_of_ble_eq_true rfl, Nat.le_of_ble_eq_true rfl⟩ hlev hy hn hlink (Or.inr rfl) hrest k
theorem CL.ret1 (C : CL E b0 L xs G) (hd : dcd 13 code pc ops pe .ireturn 1 = true) (hb : runb ops lv st I Z = some (gs, lv', [vI 1], I', Z')) (hg : ∀ g ∈ gs, g = true) : G pc lv st I Z := by
  refine C.run hd hb hg ?_
  have hdl := dcd_last ops pc hd
  obtain ⟨p, e, s, m, below, meth, c, rfl, S, hC, hr, hlk, hX, hbl, hez, hq⟩ := C
  intro H locs ls hW hS hl
  refine va_forget (fun q hq2 => ?_) (lw_ret S.1 S.2.1 hr hlk hdl)
  have := hS.2.2 q hq2
  rw [← hez]
  exact this
end CLL
