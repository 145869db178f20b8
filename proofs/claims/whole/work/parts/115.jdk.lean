/-! String constants: the JDK's own methods over them -/
/-- the letter x of constant k -/
def sch (k : Nat) (x : Int32) : Int32 := (sbyt.getD k []).getD x.toNatClampNeg 0
theorem jl_in : Cond.fieldLink RJ0 9 "java/lang/String" "value" "[B" ∈ lw_tbl ∧ Cond.fieldLink RJ0 15 "java/lang/String" "coder" "B" ∈ lw_tbl ∧ Cond.fieldLink RJ0 38 "java/lang/String" "COMPACT_STRINGS" "Z" ∈ lw_tbl ∧ Cond.fieldLink RJ0 1053 "jdk/internal/util/Preconditions" "SIOOBE_FORMATTER" "Ljava/util/function/BiFunction;" ∈ lw_tbl :=
  ⟨List.mem_of_getElem? (i := 1570) (by decide +kernel), List.mem_of_getElem? (i := 1571) (by decide +kernel), List.mem_of_getElem? (i := 456) (by decide +kernel), List.mem_of_getElem? (i := 472) (by decide +kernel)⟩
section CLJ
variable {E : ET} {oc : Nat} {cc : ByteArray} {lev : Nat} {ret : Option FieldType} {RP : Option sv → IT → ZT → Prop} {G : Nat → LV → List sv → IT → ZT → Prop}
variable {pc pe ln : Nat} {ops : List op} {lv lv' : LV} {st st' q : List sv} {I I' : IT} {Z Z' : ZT} {gs : List Bool} {k : Nat}
theorem Cl.sval (C : Cl E 14 cc lev ret RP G) (hk : k < 9) (hd : dcd 14 cc pc ops pe (.getfield 9) 3 = true) (hb : runb ops lv st I Z = some (gs, lv', vR 20 false k :: q, I', Z')) (hg : ∀ g ∈ gs, g = true) (kk : G (pe + 3) lv' (vR 21 false k :: q) I' Z') : G pc lv st I Z := by
  refine C.fall hd hb hg ?_
  have hdl := dcd_last ops pc hd
  obtain ⟨R, p, e, s, m, args, below, meth, c, nL, Qc, hR, rfl, S, hC, hr, hlk, hRP⟩ := C
  intro H locs ls hW hS hl
  exact vk_getf S.1 S.2.1 (hC.2.2.2.2.2.1.1 k hk).2.2.1 hS S.2.2.2.1 (S.2.2.2.2 _ (wt_of jl_in.1 rfl)) (fun _ h => h) hdl (kk H locs ls hW hS hl)
theorem Cl.scod (C : Cl E 14 cc lev ret RP G) (hk : k < 9) (hd : dcd 14 cc pc ops pe (.getfield 15) 3 = true) (hb : runb ops lv st I Z = some (gs, lv', vR 20 false k :: q, I', Z')) (hg : ∀ g ∈ gs, g = true) (kk : G (pe + 3) lv' (vI 0 :: q) I' Z') : G pc lv st I Z := by
  refine C.fall hd hb hg ?_
  have hdl := dcd_last ops pc hd
  obtain ⟨R, p, e, s, m, args, below, meth, c, nL, Qc, hR, rfl, S, hC, hr, hlk, hRP⟩ := C
  intro H locs ls hW hS hl
  exact vk_getf S.1 S.2.1 (hC.2.2.2.2.2.1.1 k hk).2.1 hS S.2.2.2.1 (S.2.2.2.2 _ (wt_of jl_in.2.1 rfl)) (fun _ h => h) hdl (kk H locs ls hW hS hl)
theorem Cl.scmp (C : Cl E 14 cc lev ret RP G) (hd : dcd 14 cc pc ops pe (.getstatic 38) 3 = true) (hb : runb ops lv st I Z = some (gs, lv', q, I', Z')) (hg : ∀ g ∈ gs, g = true) (kk : G (pe + 3) lv' (vI 1 :: q) I' Z') : G pc lv st I Z := by
  refine C.fall hd hb hg ?_
  have hdl := dcd_last ops pc hd
  obtain ⟨R, p, e, s, m, args, below, meth, c, nL, Qc, hR, rfl, S, hC, hr, hlk, hRP⟩ := C
  intro H locs ls hW hS hl
  exact va_gets S.1 S.2.1 hC.2.2.2.2.2.2.1 hS S.2.2.2.1 (S.2.2.2.2 _ (wt_of jl_in.2.2.1 rfl)) (fun _ h => h) hdl (kk H locs ls hW hS hl)
theorem Cl.alen (C : Cl E oc cc lev ret RP G) (hk : k < 9) (hd : dcd oc cc pc ops pe .arraylength 1 = true) (hb : runb ops lv st I Z = some (gs, lv', vR 21 false k :: q, I', Z')) (hg : ∀ g ∈ gs, g = true) (kk : G (pe + 1) lv' (vI (nI (slen.getD k 0)) :: q) I' Z') : G pc lv st I Z := by
  refine C.fall hd hb hg ?_
  have hdl := dcd_last ops pc hd
  obtain ⟨R, p, e, s, m, args, below, meth, c, nL, Qc, hR, rfl, S, hC, hr, hlk, hRP⟩ := C
  intro H locs ls hW hS hl
  exact va_tlen S.1 S.2.1 (hC.2.2.2.2.2.1.1 k hk).2.2.2 hS rfl hdl (kk H locs ls hW hS hl)
theorem Cl.abyt (C : Cl E oc cc lev ret RP G) (hk : k < 9) {i : Int32} (hd : dcd oc cc pc ops pe .baload 1 = true) (hb : runb ops lv st I Z = some (gs, lv', vI i :: vR 21 false k :: q, I', Z')) (hg : ∀ g ∈ gs, g = true) (hi : vb i (slen.getD k 0) = true) (kk : G (pe + 1) lv' (vI (sch k i) :: q) I' Z') : G pc lv st I Z := by
  refine C.fall hd hb hg ?_
  have hdl := dcd_last ops pc hd
  obtain ⟨R, p, e, s, m, args, below, meth, c, nL, Qc, hR, rfl, S, hC, hr, hlk, hRP⟩ := C
  intro H locs ls hW hS hl
  exact va_tb S.1 S.2.1 (hC.2.2.2.2.2.1.1 k hk).2.2.2 hS (vb_in hi) rfl hdl (kk H locs ls hW hS hl)
end CLJ
/-- what the tables say of a method of String that is called -/
def MFj (y : MethodName) (bytes : ByteArray) (maxL : Nat) (rt : Option FieldType) (n : Nat) : Prop := y.cls = RJ0 ∧ Cond.instanceMethod y ∈ lw_tbl ∧ Cond.selects y.cls y y ∈ lw_tbl ∧ Cond.initialized y.cls ∈ lw_tbl ∧ Cond.code y bytes maxL rt ∈ lw_tbl ∧ y.cls ≠ "java/lang/invoke/MethodHandle" ∧ y.cls ≠ "java/lang/invoke/VarHandle" ∧ (parseMethodDescriptor y.desc).map (fun d => d.parameters.length) = some n ∧ maxL ≤ 45
theorem Cl.callj {E : ET} {oc : Nat} {cc : ByteArray} {lev : Nat} {ret : Option FieldType} {RP : Option sv → IT → ZT → Prop} {G : Nat → LV → List sv → IT → ZT → Prop} {pc pe : Nat} {ops : List op} {lv lv' : LV} {st rest : List sv} {I I' I2 : IT} {Z Z' Z2 : ZT} {gs : List Bool} {r : Option sv} (C : Cl E oc cc lev ret RP G) {lev2 idx maxL n k : Nat} {y : MethodName} {bytes : ByteArray} {rt : Option FieldType} {as stk : List sv} (hk : k < 9) (hd : dcd oc cc pc ops pe (.invokevirtual idx) 3 = true) (hb : runb ops lv st I Z = some (gs, lv', stk, I', Z')) (hg : ∀ g ∈ gs, g = true) (hM : Ctr E lev2 y bytes maxL rt (vR 20 false k :: as) I' Z' r I2 Z2) (hs : stk = as.reverse ++ vR 20 false k :: rest) (hlev : lev2 + 1 ≤ lev) (hy : MFj y bytes maxL rt n) (hn : as.length = n) (hlink : Cond.methodLink (ownN oc) idx y ∈ lw_tbl) (hrest : catS (eq E) rest ≤ 8)
    (kk : G (pe + 3) lv' (r.toList ++ rest) I2 Z2) : G pc lv st I Z := by
  refine C.fall hd hb hg ?_
  have hdl := dcd_last ops pc hd
  obtain ⟨R, p, e, s, m, args, below, meth, c, nL, Qc, hR, rfl, S, hC, hr, hlk, hRP⟩ := C
  subst hs
  refine GO.ofRun (a := (Value.ref (eq E 20 false k) :: as.map (toV (eq E))).toArray) (fun H locs ls hW hS hl => ?_) kk
  obtain ⟨hy0, hy1, hy2, hy3, hy4, hy5, hy6, hy7, hy8⟩ := hy
  have hG : GoodIn wt (wsV (ownN oc) idx RJ0 y (Cond.code y bytes maxL rt :: wt)) := by
    intro w hw
    rcases List.mem_append.mp hw with h | h
    · have hw2 : w ∈ wt := by
        rw [← hy0] at h
        simp only [List.mem_cons, List.not_mem_nil, or_false] at h
        rcases h with rfl | rfl | rfl | rfl
        · exact wt_of hlink rfl
        · exact wt_of hy1 rfl
        · exact wt_of hy2 rfl
        · exact wt_of hy3 rfl
      exact ⟨hw2, good_of_word (wt_good hw2)⟩
    · exact wt_sub hy4 w h
  refine va_runV (As := as.map (toV (eq E))) (C := RJ0) (b := eq E 20 false k) S hM (cwV (R := R) n S.2.2.2.2 hG rfl rfl rfl ⟨hy0, hy5, hy6, hy7⟩ ⟨Nat.le_trans hlev hR.1, ?_⟩) ⟨PreC.blind, vk_recv hC.2.2.2.2.2.1 hk hS, fun U hU hWm => ⟨rfl, by rw [hU]; exact hW, hC.go hU hS hWm⟩⟩ rfl (by rw [List.length_map]; exact hn) hl.size ?_ (lv_room hrest) hdl ⟨Nat.le_refl _, Nat.le_refl _⟩
  · show 8 + (maxL + 11) + 64 * lev2 ≤ R.locals
    have := hR.2
    omega
  · show (as.reverse ++ vR 20 false k :: rest).map (toV (eq E)) = (as.map (toV (eq E))).reverse ++ .ref (eq E 20 false k) :: rest.map (toV (eq E))
    rw [List.map_append, List.map_reverse]
    rfl
theorem Cl.i2c {E : ET} {oc : Nat} {cc : ByteArray} {lev : Nat} {ret : Option FieldType} {RP : Option sv → IT → ZT → Prop} {G : Nat → LV → List sv → IT → ZT → Prop} {pc pe : Nat} {ops : List op} {lv lv' : LV} {st q : List sv} {I I' : IT} {Z Z' : ZT} {gs : List Bool} (C : Cl E oc cc lev ret RP G) {x y : Int32} (hd : dcd oc cc pc ops pe .i2c 1 = true) (hb : runb ops lv st I Z = some (gs, lv', vI x :: q, I', Z')) (hg : ∀ g ∈ gs, g = true) (hy : (x.toUInt32 % 65536).toInt32 = y) (kk : G (pe + 1) lv' (vI y :: q) I' Z') : G pc lv st I Z := by
  refine C.fall hd hb hg ?_
  have hdl := dcd_last ops pc hd
  obtain ⟨R, p, e, s, m, args, below, meth, c, nL, Qc, hR, rfl, S, hC, hr, hlk, hRP⟩ := C
  intro H locs ls hW hS hl
  exact lv_i2c S.1 S.2.1 hdl hy (kk H locs ls hW hS hl)
theorem Cl.iretn {E : ET} {oc : Nat} {cc : ByteArray} {lev : Nat} {ty : FieldType} {RP : Option sv → IT → ZT → Prop} {G : Nat → LV → List sv → IT → ZT → Prop} {pc pe : Nat} {ops : List op} {lv lv' : LV} {st : List sv} {I I' : IT} {Z Z' : ZT} {gs : List Bool} (C : Cl E oc cc lev (some ty) RP G) {x : Int32} (hd : dcd oc cc pc ops pe .ireturn 1 = true) (hb : runb ops lv st I Z = some (gs, lv', [vI x], I', Z')) (hg : ∀ g ∈ gs, g = true) (hx : narrow ty (.int x) = .int x) (hp : RP (some (vI x)) I' Z') : G pc lv st I Z := by
  refine C.fall hd hb hg ?_
  have hdl := dcd_last ops pc hd
  obtain ⟨R, p, e, s, m, args, below, meth, c, nL, Qc, hR, rfl, S, hC, hr, hlk, hRP⟩ := C
  intro H locs ls hW hS hl
  have hq : ∀ t : State, t.heap = H → s.WarmedH t.vm → Qc args s (.returned (some (.int x))) t := fun t ht _ => hRP _ _ _ hp t (by rw [ht]; exact hW) (hS.F ht)
  exact W.zret (v := x) S.1 S.2.1 hr hx hq hS.2.2 hdl hlk
/-! a method that takes a value of which nothing is known -/
def CtrV (E : ET) (lev : Nat) (y : MethodName) (cc : ByteArray) (maxL : Nat) (ret : Option FieldType) (As : List Value) (I : IT) (Z : ZT) (r : Option sv) (I' : IT) (Z' : ZT) : Prop :=
  Met (eL E) y (Cond.code y cc maxL ret :: wt) (rmL lev) (va_Pc As (PreC E I Z)) (PostC E r I' Z') 0 0 (eA E)
theorem CtrV.of {E : ET} (oc : Nat) {lev : Nat} {y : MethodName} {cc : ByteArray} {maxL : Nat} {ret : Option FieldType} {As : List Value} {I : IT} {Z : ZT} {r : Option sv} {I' : IT} {Z' : ZT} (lv0 : LV) (hcls : y.cls = ownN oc) (hpl : _root_.Jvm.plainName y.cls = true) (hlen : lv0.length = maxL) (hmax : (lg_sl As).length ≤ maxL) (hat : ∀ (i : Nat) (v : sv), lv0[i]? = some (some v) → (i, toV (eq E) v) ∈ lv_args 0 As)
    (body : ∀ G, Cl E oc cc lev ret (fun r2 I2 Z2 => r2 = r ∧ I2 = I' ∧ Z2 = Z') G → G 0 lv0 [] I Z) : CtrV E lev y cc maxL ret As I Z r I' Z' := by
  refine Met.ofW (cc := cc) (maxL := maxL) (ret := ret) hpl rfl ?_
  intro p e s m args below meth c s₁ B hml hv
  obtain ⟨rfl, hP, hC⟩ := hv
  have hts := atoms_spec (ws := Cond.code y cc maxL ret :: wt) B.pre
  have hown : s.vm.findClass (ownN oc) = some m.cls := by rw [← hcls]; exact findClass_of_methodNamed B.named
  have h1 := body (GO E p e (rmL lev) s m As.toArray below meth c maxL (MQ below (PostC E r I' Z') As.toArray s 0 0 (eA E))) ⟨rmL lev, p, e, s, m, _, below, meth, c, maxL, PostC E r I' Z', ⟨Nat.le_refl _, Nat.le_refl _⟩, rfl, ⟨B.exec, B.bytes, hml, hown, fun w hw => hts w (List.mem_cons_of_mem _ hw)⟩, hC, B.returns, B.notSynchronized, fun r2 I2 Z2 h t h1 h2 => by
    obtain ⟨rfl, rfl, rfl⟩ := h
    exact ⟨rfl, h1, h2⟩⟩
  rw [lg_entry_eq]
  have hl := lv_entry As (n := maxL) hmax
  exact h1 s.heap [] _ hP va_S.rf ⟨hlen, _, hl, hat⟩
theorem W_ofRun {E : ET} {p : Program} {e : Env} {R : Room} {s : State} {m : MethodId} {args : Array Value} {below : List Frame} {meth : Method} {c : Code} {nL : Nat} {Q : State → Prop} {pe : Nat} {lv : LV} {rest : List sv} {r : Option sv} {I2 : IT} {Z2 : ZT} {a : Array Value} {stV : List Value} {H : Heap} {locs : List Loc} {ls : Array Slot}
    (hrun : va_Run p (eL E) e R s m args below meth c H locs R.cells R.slots 0 0 (F0 m pe ls stV) (rest.map (toV (eq E))) (PostC E r I2 Z2 a) (eA E)) (hS : va_S (eA E) s.heap H locs) (hl : lhas (eq E) ls nL lv)
    (k : GO E p e R s m args below meth c nL Q (pe + 3) lv (r.toList ++ rest) I2 Z2) : W p (eL E) e R s m args below meth c H locs R.cells R.slots Q (F0 m pe ls stV) := by
  intro T hT X
  obtain ⟨v, st₀, t, T', L, h0, X', hL, e1, e2, ⟨hv, hP', hF⟩, stp⟩ := hrun T hT X
  have hv2 : v = r.map (toV (eq E)) := Outcome.returned.inj hv
  subst hv2
  have hS' : va_S (eA E) s.heap T'.heap (locs ++ L) := by
    refine ⟨?_, fun q h1 h2 => ?_, fun l hl => ?_⟩
    · rw [e1]; exact Nat.le_trans hS.1 (by rw [← h0]; exact hF.1)
    · rw [e1, hF.2 q (by rw [h0]; exact Nat.lt_of_lt_of_le h1 hS.1) h2, h0]
      exact hS.2.1 q h1 h2
    · rcases List.mem_append.mp hl with h | h
      · exact hS.2.2 l h
      · exact hL l h
  obtain ⟨t2, a1, b1⟩ := k T'.heap (locs ++ L) ls (by rw [e1]; exact hP') hS' hl T' rfl X'
  refine ⟨t2, stp t2 ?_, b1⟩
  have he : (r.toList ++ rest).map (toV (eq E)) = (r.map (toV (eq E))).toList ++ rest.map (toV (eq E)) := by cases r <;> rfl
  rw [he] at a1
  exact a1
theorem k_J_p_0 : dcd 16 cJ3_checkIndex_8e157 0 [(.iload_n 0, 1, (0, 0, 0, 0), 0, 0)] 1 (.ifCond .lt 8) 3 = true := by decide +kernel
theorem k_J_p_4 : dcd 16 cJ3_checkIndex_8e157 4 [(.iload_n 0, 1, (0, 0, 0, 0), 0, 0), (.iload_n 1, 1, (1, 0, 0, 0), 0, 0)] 6 (.if_icmp .lt 10) 3 = true := by decide +kernel
theorem k_J_p_16 : dcd 16 cJ3_checkIndex_8e157 16 [(.iload_n 0, 1, (0, 0, 0, 0), 0, 0)] 17 (.ireturn) 1 = true := by decide +kernel
theorem c_J3_chk {E : ET} {I : IT} {Z : ZT} {x n : Int32} {v : Value} (hv : v.category = 1) (h0 : ¬ x < 0) (hn : x < n) : CtrV E 0 yJ3_checkIndex_8e157 cJ3_checkIndex_8e157 3 (some .int) [.int x, .int n, v] I Z (some (vI x)) I Z := by
  refine CtrV.of 16 [some (vI x), some (vI n), none] rfl (by decide +kernel) rfl ?_ (fun i w hi => ?_) (fun G C => ?_)
  · simp only [lg_sl, List.flatMap_cons, List.flatMap_nil, hv]
    exact Nat.le_of_ble_eq_true rfl
  · match i, hi with
    | 0, hi => cases hi; exact List.mem_cons_self
    | 1, hi => cases hi; exact List.mem_cons_of_mem _ List.mem_cons_self
    | 2, hi => cases hi
    | k + 3, hi => simp at hi
  · refine C.ifc (tgt := 9) k_J_p_0 (gs := []) (lv' := [some (vI x), some (vI n), none]) (x := x) (q := []) (I' := I) (Z' := Z) rfl al0 (by decide) (fun c => absurd c h0) (fun _ => ?_)
    refine C.icmp (tgt := 16) k_J_p_4 (gs := []) (lv' := [some (vI x), some (vI n), none]) (x := x) (y := n) (q := []) (I' := I) (Z' := Z) rfl al0 (by decide) (fun _ => ?_) (fun c => absurd hn c)
    exact C.iret k_J_p_16 (x := x) (gs := []) (lv' := [some (vI x), some (vI n), none]) (I' := I) (Z' := Z) rfl al0 (Or.inl rfl) ⟨rfl, rfl, rfl⟩
theorem mf_J3_chk : MFs yJ3_checkIndex_8e157 cJ3_checkIndex_8e157 3 (some .int) 3 := ⟨(List.mem_of_getElem? (i := 475) (by decide +kernel)), (List.mem_of_getElem? (i := 66) (by decide +kernel)), (in_t2 (List.mem_of_getElem? (i := 185) rfl)), by decide +kernel, by decide +kernel, by decide +kernel, by decide⟩
theorem ln_14_1059 : Cond.methodLink (ownN 14) 1059 yJ3_checkIndex_8e157 ∈ lw_tbl := List.mem_of_getElem? (i := 474) (by decide +kernel)
theorem Cl.chk {E : ET} {cc : ByteArray} {lev : Nat} {ret : Option FieldType} {RP : Option sv → IT → ZT → Prop} {G : Nat → LV → List sv → IT → ZT → Prop} {pc pe : Nat} {ops : List op} {lv lv' : LV} {st : List sv} {I I' : IT} {Z Z' : ZT} {gs : List Bool} (C : Cl E 14 cc lev ret RP G) {x n : Int32} (hd : dcd 14 cc pc ops pe (.getstatic 1053) 3 = true) (hd2 : decode cc (pe + 3) = .ok (.invokestatic 1059, 3)) (hb : runb ops lv st I Z = some (gs, lv', [vI n, vI x], I', Z')) (hg : ∀ g ∈ gs, g = true) (h0 : ¬ x < 0) (hn : x < n) (hlev : 1 ≤ lev) (kk : G (pe + 3 + 3) lv' [vI x] I' Z') : G pc lv st I Z := by
  refine C.fall hd hb hg ?_
  have hdl := dcd_last ops pc hd
  obtain ⟨R, p, e, s, m, args, below, meth, c, nL, Qc, hR, rfl, S, hC, hr, hlk, hRP⟩ := C
  obtain ⟨v, hv, hZ⟩ := hC.2.2.2.2.2.2.2
  intro H locs ls hW hS hl
  refine va_gets S.1 S.2.1 hZ hS S.2.2.2.1 (S.2.2.2.2 _ (wt_of jl_in.2.2.2 rfl)) (fun _ h => h) hdl ?_
  obtain ⟨hy1, hy3, hy4, hy5, hy6, hy7, hy8⟩ := mf_J3_chk
  refine W_ofRun (rest := []) (r := some (vI x)) (I2 := I') (Z2 := Z') (va_runS (As := [.int x, .int n, v]) S (c_J3_chk (E := E) (I := I') (Z := Z') hv h0 hn) ⟨callB_of (R := R) 3 S.2.2.2.2 (wt_sub hy4) rfl rfl rfl (S.2.2.2.2 _ (wt_of hy3 rfl)) (S.2.2.2.2 _ (wt_of ln_14_1059 rfl)) ⟨hy5, hy6, hy7⟩ ⟨Nat.le_trans hlev hR.1, ?_⟩, S.2.2.2.2 _ (wt_of hy1 rfl)⟩ ⟨PreC.blind, fun U hU hWm => ⟨rfl, by rw [hU]; exact hW, hC.go hU hS hWm⟩⟩ rfl rfl hl.size rfl (lv_room (Nat.le_of_ble_eq_true rfl)) hd2 ⟨Nat.le_refl _, Nat.le_refl _⟩) hS hl kk
  show 8 + (3 + 11) + 64 * 0 ≤ R.locals
  have := hR.2
  omega
section SJ
variable {E : ET} {I : IT} {Z : ZT} {k : Nat}
theorem k_J_c_0 : dcd 14 cJ0_coder_7d493 0 [] 0 (.getstatic 38) 3 = true := by decide +kernel
theorem k_J_c_3 : dcd 14 cJ0_coder_7d493 3 [] 3 (.ifCond .eq 10) 3 = true := by decide +kernel
theorem k_J_c_6 : dcd 14 cJ0_coder_7d493 6 [(.aload_n 0, 1, (0, 0, 0, 0), 0, 0)] 7 (.getfield 15) 3 = true := by decide +kernel
theorem k_J_c_10 : dcd 14 cJ0_coder_7d493 10 [] 10 (.goto 4) 3 = true := by decide +kernel
theorem k_J_c_14 : dcd 14 cJ0_coder_7d493 14 [] 14 (.ireturn) 1 = true := by decide +kernel
theorem c_J0_coder (hk : k < 9) : Ctr E 0 yJ0_coder_7d493 cJ0_coder_7d493 1 (some .byte) [vR 20 false k] I Z (some (vI 0)) I Z := by
  refine Ctr.of 14 [some (vR 20 false k)] rfl (by decide +kernel) rfl (Nat.le_of_ble_eq_true rfl) (fun G C => ?_)
  refine C.scmp k_J_c_0 (gs := []) (lv' := [some (vR 20 false k)]) (q := []) (I' := I) (Z' := Z) rfl al0 ?_
  refine C.ifc (tgt := 13) k_J_c_3 (gs := []) (lv' := [some (vR 20 false k)]) (x := 1) (q := []) (I' := I) (Z' := Z) rfl al0 (by decide) (fun c => absurd c (show ¬ (1 : Int32) = 0 by decide)) (fun _ => ?_)
  refine C.scod hk k_J_c_6 (gs := []) (lv' := [some (vR 20 false k)]) (q := []) (I' := I) (Z' := Z) rfl al0 ?_
  refine C.goto (tgt := 14) k_J_c_10 (gs := []) (lv' := [some (vR 20 false k)]) (st' := [vI 0]) (I' := I) (Z' := Z) rfl al0 (by decide) ?_
  exact C.iretn k_J_c_14 (x := 0) (gs := []) (lv' := [some (vR 20 false k)]) (I' := I) (Z' := Z) rfl al0 (by decide +kernel) ⟨rfl, rfl, rfl⟩
theorem k_J_i_0 : dcd 14 cJ0_isLatin1_aae02 0 [] 0 (.getstatic 38) 3 = true := by decide +kernel
theorem k_J_i_3 : dcd 14 cJ0_isLatin1_aae02 3 [] 3 (.ifCond .eq 14) 3 = true := by decide +kernel
theorem k_J_i_6 : dcd 14 cJ0_isLatin1_aae02 6 [(.aload_n 0, 1, (0, 0, 0, 0), 0, 0)] 7 (.getfield 15) 3 = true := by decide +kernel
theorem k_J_i_10 : dcd 14 cJ0_isLatin1_aae02 10 [] 10 (.ifCond .ne 7) 3 = true := by decide +kernel
theorem k_J_i_13 : dcd 14 cJ0_isLatin1_aae02 13 [(.iconst 1, 1, (0, 0, 0, 0), 1, 0)] 14 (.goto 4) 3 = true := by decide +kernel
theorem k_J_i_18 : dcd 14 cJ0_isLatin1_aae02 18 [] 18 (.ireturn) 1 = true := by decide +kernel
theorem c_J0_isLatin1 (hk : k < 9) : Ctr E 0 yJ0_isLatin1_aae02 cJ0_isLatin1_aae02 1 (some .boolean) [vR 20 false k] I Z (some (vI 1)) I Z := by
  refine Ctr.of 14 [some (vR 20 false k)] rfl (by decide +kernel) rfl (Nat.le_of_ble_eq_true rfl) (fun G C => ?_)
  refine C.scmp k_J_i_0 (gs := []) (lv' := [some (vR 20 false k)]) (q := []) (I' := I) (Z' := Z) rfl al0 ?_
  refine C.ifc (tgt := 17) k_J_i_3 (gs := []) (lv' := [some (vR 20 false k)]) (x := 1) (q := []) (I' := I) (Z' := Z) rfl al0 (by decide) (fun c => absurd c (show ¬ (1 : Int32) = 0 by decide)) (fun _ => ?_)
  refine C.scod hk k_J_i_6 (gs := []) (lv' := [some (vR 20 false k)]) (q := []) (I' := I) (Z' := Z) rfl al0 ?_
  refine C.ifc (tgt := 17) k_J_i_10 (gs := []) (lv' := [some (vR 20 false k)]) (x := 0) (q := []) (I' := I) (Z' := Z) rfl al0 (by decide) (fun c => absurd rfl c) (fun _ => ?_)
  refine C.goto (tgt := 18) k_J_i_13 (gs := []) (lv' := [some (vR 20 false k)]) (st' := [vI 1]) (I' := I) (Z' := Z) rfl al0 (by decide) ?_
  exact C.iretn k_J_i_18 (x := 1) (gs := []) (lv' := [some (vR 20 false k)]) (I' := I) (Z' := Z) rfl al0 (by decide +kernel) ⟨rfl, rfl, rfl⟩
theorem mf_J0_coder : MFj yJ0_coder_7d493 cJ0_coder_7d493 1 (some .byte) 0 := ⟨rfl, (List.mem_of_getElem? (i := 453) (by decide +kernel)), (List.mem_of_getElem? (i := 454) (by decide +kernel)), (List.mem_of_getElem? (i := 64) (by decide +kernel)), (in_t2 (List.mem_of_getElem? (i := 164) rfl)), by decide +kernel, by decide +kernel, by decide +kernel, by decide⟩
theorem mf_J0_isLatin1 : MFj yJ0_isLatin1_aae02 cJ0_isLatin1_aae02 1 (some .boolean) 0 := ⟨rfl, (List.mem_of_getElem? (i := 463) (by decide +kernel)), (List.mem_of_getElem? (i := 464) (by decide +kernel)), (List.mem_of_getElem? (i := 64) (by decide +kernel)), (in_t2 (List.mem_of_getElem? (i := 174) rfl)), by decide +kernel, by decide +kernel, by decide +kernel, by decide⟩
theorem mf_J0_length : MFj yJ0_length_8abf5 cJ0_length_8abf5 1 (some .int) 0 := ⟨rfl, (List.mem_of_getElem? (i := 449) (by decide +kernel)), (List.mem_of_getElem? (i := 450) (by decide +kernel)), (List.mem_of_getElem? (i := 64) (by decide +kernel)), (in_t2 (List.mem_of_getElem? (i := 160) rfl)), by decide +kernel, by decide +kernel, by decide +kernel, by decide⟩
theorem mf_J0_charAt : MFj yJ0_charAt_5068e cJ0_charAt_5068e 2 (some .char) 1 := ⟨rfl, (List.mem_of_getElem? (i := 459) (by decide +kernel)), (List.mem_of_getElem? (i := 460) (by decide +kernel)), (List.mem_of_getElem? (i := 64) (by decide +kernel)), (in_t2 (List.mem_of_getElem? (i := 170) rfl)), by decide +kernel, by decide +kernel, by decide +kernel, by decide⟩
theorem mf_J0_chk : MFs yJ0_checkIndex_df160 cJ0_checkIndex_df160 2 none 2 := ⟨(List.mem_of_getElem? (i := 470) (by decide +kernel)), (List.mem_of_getElem? (i := 64) (by decide +kernel)), (in_t2 (List.mem_of_getElem? (i := 180) rfl)), by decide +kernel, by decide +kernel, by decide +kernel, by decide⟩
theorem mf_J1_charAt : MFs yJ1_charAt_3b067 cJ1_charAt_3b067 2 (some .char) 2 := ⟨(List.mem_of_getElem? (i := 467) (by decide +kernel)), (List.mem_of_getElem? (i := 65) (by decide +kernel)), (in_t2 (List.mem_of_getElem? (i := 177) rfl)), by decide +kernel, by decide +kernel, by decide +kernel, by decide⟩
theorem ln_14_335 : Cond.methodLink (ownN 14) 335 yJ0_coder_7d493 ∈ lw_tbl := List.mem_of_getElem? (i := 452) (by decide +kernel)
theorem ln_14_492 : Cond.methodLink (ownN 14) 492 yJ0_isLatin1_aae02 ∈ lw_tbl := List.mem_of_getElem? (i := 462) (by decide +kernel)
theorem ln_14_495 : Cond.methodLink (ownN 14) 495 yJ1_charAt_3b067 ∈ lw_tbl := List.mem_of_getElem? (i := 466) (by decide +kernel)
theorem ln_15_9 : Cond.methodLink (ownN 15) 9 yJ0_checkIndex_df160 ∈ lw_tbl := List.mem_of_getElem? (i := 469) (by decide +kernel)
theorem ln_3_82 : Cond.methodLink (ownN 3) 82 yJ0_length_8abf5 ∈ lw_tbl := List.mem_of_getElem? (i := 448) (by decide +kernel)
theorem ln_3_87 : Cond.methodLink (ownN 3) 87 yJ0_charAt_5068e ∈ lw_tbl := List.mem_of_getElem? (i := 458) (by decide +kernel)
theorem k_J_l_0 : dcd 14 cJ0_length_8abf5 0 [(.aload_n 0, 1, (0, 0, 0, 0), 0, 0)] 1 (.getfield 9) 3 = true := by decide +kernel
theorem k_J_l_4 : dcd 14 cJ0_length_8abf5 4 [] 4 (.arraylength) 1 = true := by decide +kernel
theorem k_J_l_5 : dcd 14 cJ0_length_8abf5 5 [(.aload_n 0, 1, (0, 0, 0, 0), 0, 0)] 6 (.invokevirtual 335) 3 = true := by decide +kernel
theorem k_J_l_9 : dcd 14 cJ0_length_8abf5 9 [(.ishr, 1, (0, 0, 0, 0), 0, 0)] 10 (.ireturn) 1 = true := by decide +kernel
theorem sl_shr : ∀ k, k < 9 → nI (slen.getD k 0) >>> ((0 : Int32) &&& 31) = nI (slen.getD k 0) := by decide +kernel
theorem c_J0_length (hk : k < 9) : Ctr E 1 yJ0_length_8abf5 cJ0_length_8abf5 1 (some .int) [vR 20 false k] I Z (some (vI (nI (slen.getD k 0)))) I Z := by
  refine Ctr.of 14 [some (vR 20 false k)] rfl (by decide +kernel) rfl (Nat.le_of_ble_eq_true rfl) (fun G C => ?_)
  refine C.sval hk k_J_l_0 (gs := []) (lv' := [some (vR 20 false k)]) (q := []) (I' := I) (Z' := Z) rfl al0 ?_
  refine C.alen hk k_J_l_4 (gs := []) (lv' := [some (vR 20 false k)]) (q := []) (I' := I) (Z' := Z) rfl al0 ?_
  refine C.callj hk k_J_l_5 (stk := [vR 20 false k, vI (nI (slen.getD k 0))]) (as := []) (rest := [vI (nI (slen.getD k 0))]) (gs := []) (lv' := [some (vR 20 false k)]) (I' := I) (Z' := Z) rfl al0 (c_J0_coder hk) rfl (by decide) mf_J0_coder rfl ln_14_335 (Nat.le_of_ble_eq_true rfl) ?_
  exact C.iret k_J_l_9 (x := nI (slen.getD k 0) >>> ((0 : Int32) &&& 31)) (gs := []) (lv' := [some (vR 20 false k)]) (I' := I) (Z' := Z) rfl al0 (Or.inl rfl) ⟨congrArg (fun z => some (vI z)) (sl_shr k hk), rfl, rfl⟩
theorem k_J_k_0 : dcd 14 cJ0_checkIndex_df160 0 [(.iload_n 0, 1, (0, 0, 0, 0), 0, 0), (.iload_n 1, 1, (1, 0, 0, 0), 0, 0)] 2 (.getstatic 1053) 3 = true := by decide +kernel
theorem k_J_k_5 : decode cJ0_checkIndex_df160 5 = .ok (.invokestatic 1059, 3) := by decide +kernel
theorem k_J_k_8 : dcd 14 cJ0_checkIndex_df160 8 [(.pop, 1, (0, 0, 0, 0), 0, 0)] 9 (.return_) 1 = true := by decide +kernel
theorem c_J0_chk {x n : Int32} (h0 : ¬ x < 0) (hn : x < n) : Ctr E 1 yJ0_checkIndex_df160 cJ0_checkIndex_df160 2 none [vI x, vI n] I Z none I Z := by
  refine Ctr.of 14 [some (vI x), some (vI n)] rfl (by decide +kernel) rfl (Nat.le_of_ble_eq_true rfl) (fun G C => ?_)
  refine C.chk k_J_k_0 k_J_k_5 (gs := []) (lv' := [some (vI x), some (vI n)]) (I' := I) (Z' := Z) rfl al0 h0 hn (by decide) ?_
  exact C.vret k_J_k_8 (gs := []) (lv' := [some (vI x), some (vI n)]) (I' := I) (Z' := Z) rfl al0 ⟨rfl, rfl, rfl⟩
theorem sch_ok : ∀ k, k < 9 → ∀ j, j < 8 → ((((sbyt.getD k []).getD j 0) &&& 255).toUInt32 % 65536).toInt32 = (sbyt.getD k []).getD j 0 ∧ narrow .char (.int ((sbyt.getD k []).getD j 0)) = .int ((sbyt.getD k []).getD j 0) := by decide +kernel
theorem sl_7 : ∀ k, k < 9 → slen.getD k 0 ≤ 7 := by decide +kernel
theorem vb_two {x : Int32} {n : Nat} (h : vb x n = true) : ¬ x < 0 ∧ x.toNatClampNeg < n := by
  unfold vb at h
  simp only [Bool.not_eq_true', Bool.or_eq_false_iff, decide_eq_false_iff_not] at h
  exact ⟨h.1, by omega⟩
theorem vb_ltn {x : Int32} {n : Nat} (hn : n < 1000) (h : vb x n = true) : x < nI n := by
  have h2 := vb_in h
  rw [vp_in_iff] at h2
  rw [Int32.lt_iff_toInt_lt, nI_toInt (by omega)]
  exact h2.2
theorem k_J_a_0 : dcd 15 cJ1_charAt_3b067 0 [(.iload_n 1, 1, (1, 0, 0, 0), 0, 0), (.aload_n 0, 1, (0, 0, 0, 0), 0, 0)] 2 (.arraylength) 1 = true := by decide +kernel
theorem k_J_a_3 : dcd 15 cJ1_charAt_3b067 3 [] 3 (.invokestatic 9) 3 = true := by decide +kernel
theorem k_J_a_6 : dcd 15 cJ1_charAt_3b067 6 [(.aload_n 0, 1, (0, 0, 0, 0), 0, 0), (.iload_n 1, 1, (1, 0, 0, 0), 0, 0)] 8 (.baload) 1 = true := by decide +kernel
theorem k_J_a_9 : dcd 15 cJ1_charAt_3b067 9 [(.sipush 255, 3, (0, 0, 0, 0), 255, 0), (.iand, 1, (0, 0, 0, 0), 0, 0)] 13 (.i2c) 1 = true := by decide +kernel
theorem k_J_a_14 : dcd 15 cJ1_charAt_3b067 14 [] 14 (.ireturn) 1 = true := by decide +kernel
theorem c_J1_charAt {x : Int32} (hk : k < 9) (hx : vb x (slen.getD k 0) = true) : Ctr E 2 yJ1_charAt_3b067 cJ1_charAt_3b067 2 (some .char) [vR 21 false k, vI x] I Z (some (vI (sch k x))) I Z := by
  have h7 := sl_7 k hk
  have hv := vb_two hx
  have hs := sch_ok k hk x.toNatClampNeg (by omega)
  refine Ctr.of 15 [some (vR 21 false k), some (vI x)] rfl (by decide +kernel) rfl (Nat.le_of_ble_eq_true rfl) (fun G C => ?_)
  refine C.alen hk k_J_a_0 (gs := []) (lv' := [some (vR 21 false k), some (vI x)]) (q := [vI x]) (I' := I) (Z' := Z) rfl al0 ?_
  refine C.calls k_J_a_3 (stk := [vI (nI (slen.getD k 0)), vI x]) (as := [vI x, vI (nI (slen.getD k 0))]) (rest := []) (gs := []) (lv' := [some (vR 21 false k), some (vI x)]) (I' := I) (Z' := Z) rfl al0 (c_J0_chk hv.1 (vb_ltn (by omega) hx)) rfl (by decide) mf_J0_chk rfl ln_15_9 (Nat.le_of_ble_eq_true rfl) ?_
  refine C.abyt hk k_J_a_6 (i := x) (gs := []) (lv' := [some (vR 21 false k), some (vI x)]) (q := []) (I' := I) (Z' := Z) rfl al0 hx ?_
  refine C.i2c k_J_a_9 (x := sch k x &&& 255) (y := sch k x) (gs := []) (lv' := [some (vR 21 false k), some (vI x)]) (q := []) (I' := I) (Z' := Z) rfl al0 hs.1 ?_
  exact C.iretn k_J_a_14 (x := sch k x) (gs := []) (lv' := [some (vR 21 false k), some (vI x)]) (I' := I) (Z' := Z) rfl al0 hs.2 ⟨rfl, rfl, rfl⟩
theorem k_J_b_0 : dcd 14 cJ0_charAt_5068e 0 [(.aload_n 0, 1, (0, 0, 0, 0), 0, 0)] 1 (.invokevirtual 492) 3 = true := by decide +kernel
theorem k_J_b_4 : dcd 14 cJ0_charAt_5068e 4 [] 4 (.ifCond .eq 12) 3 = true := by decide +kernel
theorem k_J_b_7 : dcd 14 cJ0_charAt_5068e 7 [(.aload_n 0, 1, (0, 0, 0, 0), 0, 0)] 8 (.getfield 9) 3 = true := by decide +kernel
theorem k_J_b_11 : dcd 14 cJ0_charAt_5068e 11 [(.iload_n 1, 1, (1, 0, 0, 0), 0, 0)] 12 (.invokestatic 495) 3 = true := by decide +kernel
theorem k_J_b_15 : dcd 14 cJ0_charAt_5068e 15 [] 15 (.ireturn) 1 = true := by decide +kernel
theorem c_J0_charAt {x : Int32} (hk : k < 9) (hx : vb x (slen.getD k 0) = true) : Ctr E 3 yJ0_charAt_5068e cJ0_charAt_5068e 2 (some .char) [vR 20 false k, vI x] I Z (some (vI (sch k x))) I Z := by
  have h7 := sl_7 k hk
  have hv := vb_two hx
  have hs := sch_ok k hk x.toNatClampNeg (by omega)
  refine Ctr.of 14 [some (vR 20 false k), some (vI x)] rfl (by decide +kernel) rfl (Nat.le_of_ble_eq_true rfl) (fun G C => ?_)
  refine C.callj hk k_J_b_0 (stk := [vR 20 false k]) (as := []) (rest := []) (gs := []) (lv' := [some (vR 20 false k), some (vI x)]) (I' := I) (Z' := Z) rfl al0 (c_J0_isLatin1 hk) rfl (by decide) mf_J0_isLatin1 rfl ln_14_492 (Nat.le_of_ble_eq_true rfl) ?_
  refine C.ifc (tgt := 16) k_J_b_4 (gs := []) (lv' := [some (vR 20 false k), some (vI x)]) (x := 1) (q := []) (I' := I) (Z' := Z) rfl al0 (by decide) (fun c => absurd c (show ¬ (1 : Int32) = 0 by decide)) (fun _ => ?_)
  refine C.sval hk k_J_b_7 (gs := []) (lv' := [some (vR 20 false k), some (vI x)]) (q := []) (I' := I) (Z' := Z) rfl al0 ?_
  refine C.calls k_J_b_11 (stk := [vI x, vR 21 false k]) (as := [vR 21 false k, vI x]) (rest := []) (gs := []) (lv' := [some (vR 20 false k), some (vI x)]) (I' := I) (Z' := Z) rfl al0 (c_J1_charAt hk hx) rfl (by decide) mf_J1_charAt rfl ln_14_495 (Nat.le_of_ble_eq_true rfl) ?_
  exact C.iretn k_J_b_15 (x := sch k x) (gs := []) (lv' := [some (vR 20 false k), some (vI x)]) (I' := I) (Z' := Z) rfl al0 hs.2 ⟨rfl, rfl, rfl⟩
end SJ
