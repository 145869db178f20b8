/-! blocks, ends of blocks, calls; contracts; the machine as a method's walk sees it (Cl) -/
section GOB
variable {E : ET} {p : Program} {e : Env} {R : Room} {s : State} {m : MethodId} {args : Array Value} {below : List Frame} {meth : Method} {c : Code} {nL : Nat} {Q : State → Prop}
variable {cc : ByteArray} {oc : Nat} {pc pe ln : Nat} {la : Instr} {ops : List op} {lv lv' : LV} {st st' : List sv} {I I' : IT} {Z Z' : ZT} {gs : List Bool}
theorem runb_ok (S : CallFix p m c cc nL s args wt (ownN oc)) (hC : Cq E s) : ∀ (ops : List op) (pc : Nat) (lv : LV) (st : List sv) (I : IT) (Z : ZT) (gs : List Bool), dcd oc cc pc ops pe la ln = true → runb ops lv st I Z = some (gs, lv', st', I', Z') → (∀ g ∈ gs, g = true) →
    GO E p e R s m args below meth c nL Q pe lv' st' I' Z' → GO E p e R s m args below meth c nL Q pc lv st I Z := by
  intro ops
  induction ops with
  | nil =>
    intro pc lv st I Z gs hd hr hg kk
    simp only [dcd, decide_eq_true_eq] at hd
    simp only [runb] at hr
    cases hr
    rw [hd.1]
    exact kk
  | cons o os ih =>
    intro pc lv st I Z gs hd hr hg kk
    obtain ⟨ins, len, ⟨a, b, k, n⟩, x, y⟩ := o
    simp only [dcd, Bool.and_eq_true, decide_eq_true_eq] at hd
    obtain ⟨⟨hd1, hd2⟩, hd3, hd4⟩ := hd
    simp only [runb] at hr
    split at hr
    · cases hr
    · next gs1 lv1 st1 I1 Z1 h1 =>
      split at hr
      · cases hr
      · next gs2 lv2 st2 I2 Z2 h2 =>
        cases hr
        exact stp_ok S hC hd1 hd2 hd3 h1 (fun g h => hg g (List.mem_append_left _ h)) (ih _ _ _ _ _ _ hd4 h2 (fun g h => hg g (List.mem_append_right _ h)) kk)
theorem dcd_last : ∀ (ops : List op) (pc : Nat), dcd oc cc pc ops pe la ln = true → decode cc pe = .ok (la, ln) := by
  intro ops
  induction ops with
  | nil => intro pc h; simp only [dcd, decide_eq_true_eq] at h; exact h.2
  | cons o os ih =>
    intro pc h
    obtain ⟨ins, len, ⟨a, b, k, n⟩, x, y⟩ := o
    simp only [dcd, Bool.and_eq_true, decide_eq_true_eq] at h
    exact ih _ h.2.2
/-- the condition of a branch -/
def cp : Jvm.ClassFile.Cond → Int32 → Int32 → Prop
  | .eq, x, y => x = y
  | .ne, x, y => ¬ x = y
  | .lt, x, y => x < y
  | .ge, x, y => y ≤ x
  | .gt, x, y => y < x
  | .le, x, y => x ≤ y
theorem GO.icmp (S : CallFix p m c cc nL s args wt (ownN oc)) {cnd : Jvm.ClassFile.Cond} {off : Int} {tgt : Nat} {x y : Int32} {r : List sv} (hd : decode cc pe = .ok (.if_icmp cnd off, 3)) (ht : (pe : Int) + off = (tgt : Int))
    (kt : cp cnd x y → GO E p e R s m args below meth c nL Q tgt lv r I Z) (kf : ¬ cp cnd x y → GO E p e R s m args below meth c nL Q (pe + 3) lv r I Z) : GO E p e R s m args below meth c nL Q pe lv (vI y :: vI x :: r) I Z := by
  intro H locs ls hW hS hl
  cases cnd with
  | eq => exact lv_icmp_eq S.1 S.2.1 hd ht (fun h => kt h H locs ls hW hS hl) (fun h => kf h H locs ls hW hS hl)
  | ne => exact lv_icmp_ne S.1 S.2.1 hd ht (fun h => kt h H locs ls hW hS hl) (fun h => kf (fun z => z h) H locs ls hW hS hl)
  | lt => exact lv_icmp_lt S.1 S.2.1 hd ht (fun h => kt h H locs ls hW hS hl) (fun h => kf h H locs ls hW hS hl)
  | ge => exact lv_icmp_ge S.1 S.2.1 hd ht (fun h => kt h H locs ls hW hS hl) (fun h => kf h H locs ls hW hS hl)
  | gt => exact lv_icmp_gt S.1 S.2.1 hd ht (fun h => kt h H locs ls hW hS hl) (fun h => kf h H locs ls hW hS hl)
  | le => exact lv_icmp_le S.1 S.2.1 hd ht (fun h => kt h H locs ls hW hS hl) (fun h => kf h H locs ls hW hS hl)
theorem GO.ifc (S : CallFix p m c cc nL s args wt (ownN oc)) {cnd : Jvm.ClassFile.Cond} {off : Int} {tgt : Nat} {x : Int32} {r : List sv} (hd : decode cc pe = .ok (.ifCond cnd off, 3)) (ht : (pe : Int) + off = (tgt : Int))
    (kt : cp cnd x 0 → GO E p e R s m args below meth c nL Q tgt lv r I Z) (kf : ¬ cp cnd x 0 → GO E p e R s m args below meth c nL Q (pe + 3) lv r I Z) : GO E p e R s m args below meth c nL Q pe lv (vI x :: r) I Z := by
  intro H locs ls hW hS hl
  cases cnd with
  | eq => exact lv_if_eq S.1 S.2.1 hd ht (fun h => kt h H locs ls hW hS hl) (fun h => kf h H locs ls hW hS hl)
  | ne => exact lv_if_ne S.1 S.2.1 hd ht (fun h => kt h H locs ls hW hS hl) (fun h => kf (fun z => z h) H locs ls hW hS hl)
  | lt => exact lv_if_lt S.1 S.2.1 hd ht (fun h => kt h H locs ls hW hS hl) (fun h => kf h H locs ls hW hS hl)
  | ge => exact lv_if_ge S.1 S.2.1 hd ht (fun h => kt h H locs ls hW hS hl) (fun h => kf h H locs ls hW hS hl)
  | gt => exact lv_if_gt S.1 S.2.1 hd ht (fun h => kt h H locs ls hW hS hl) (fun h => kf h H locs ls hW hS hl)
  | le => exact lv_if_le S.1 S.2.1 hd ht (fun h => kt h H locs ls hW hS hl) (fun h => kf h H locs ls hW hS hl)
end GOB
abbrev rmL (lev : Nat) : Room := { frames := lev, cells := 0, slots := 0, locals := 64 * lev }
def PreC (E : ET) (I : IT) (Z : ZT) (U : State) : Prop := va_P (eD E) vwCl (wsOf E I Z) U.heap ∧ Cq E U
def PostC (E : ET) (r : Option sv) (I : IT) (Z : ZT) : Array Value → State → Outcome → State → Prop := fun _ st oc t => oc = .returned (r.map (toV (eq E))) ∧ va_P (eD E) vwCl (wsOf E I Z) t.heap ∧ va_F (eA E) st t
/-- THE CONTRACT of a method: at the pure state I Z with these arguments it answers r and leaves I' Z' -/
def Ctr (E : ET) (lev : Nat) (y : MethodName) (cc : ByteArray) (maxL : Nat) (ret : Option FieldType) (av : List sv) (I : IT) (Z : ZT) (r : Option sv) (I' : IT) (Z' : ZT) : Prop :=
  Met (eL E) y (Cond.code y cc maxL ret :: wt) (rmL lev) (va_Pc (av.map (toV (eq E))) (PreC E I Z)) (PostC E r I' Z') 0 0 (eA E)
/-- what a walk may use of the machine -/
def Cl (E : ET) (oc : Nat) (cc : ByteArray) (lev : Nat) (ret : Option FieldType) (RP : Option sv → IT → ZT → Prop) (G : Nat → LV → List sv → IT → ZT → Prop) : Prop :=
  ∃ (R : Room) (p : Program) (e : Env) (s : State) (m : MethodId) (args : Array Value) (below : List Frame) (meth : Method) (c : Code) (nL : Nat) (Qc : Array Value → State → Outcome → State → Prop),
    (lev ≤ R.frames ∧ 64 * lev ≤ R.locals) ∧ G = GO E p e R s m args below meth c nL (MQ below Qc args s R.cells R.slots (eA E)) ∧ CallFix p m c cc nL s args wt (ownN oc) ∧ Cq E s ∧ meth.sig.returnType = ret ∧ meth.locks = false ∧
    ∀ (r : Option sv) (I : IT) (Z : ZT), RP r I Z → ∀ t : State, va_P (eD E) vwCl (wsOf E I Z) t.heap → va_F (eA E) s t → Qc args s (.returned (r.map (toV (eq E)))) t
/-- what the tables say of a method that is called -/
def MFv (y : MethodName) (bytes : ByteArray) (maxL : Nat) (rt : Option FieldType) (n ci : Nat) : Prop := y.cls = (clT ci).1 ∧ ci < 11 ∧ Cond.instanceMethod y ∈ lw_tbl ∧ Cond.selects y.cls y y ∈ lw_tbl ∧ Cond.initialized y.cls ∈ lw_tbl ∧ Cond.code y bytes maxL rt ∈ lw_tbl ∧ y.cls ≠ "java/lang/invoke/MethodHandle" ∧ y.cls ≠ "java/lang/invoke/VarHandle" ∧ (parseMethodDescriptor y.desc).map (fun d => d.parameters.length) = some n ∧ maxL ≤ 45
def MFs (y : MethodName) (bytes : ByteArray) (maxL : Nat) (rt : Option FieldType) (n : Nat) : Prop := Cond.static y ∈ lw_tbl ∧ Cond.initialized y.cls ∈ lw_tbl ∧ Cond.code y bytes maxL rt ∈ lw_tbl ∧ y.cls ≠ "java/lang/invoke/MethodHandle" ∧ y.cls ≠ "java/lang/invoke/VarHandle" ∧ (parseMethodDescriptor y.desc).map (fun d => d.parameters.length) = some n ∧ maxL ≤ 45
theorem wt_sub {y : MethodName} {bytes : ByteArray} {maxL : Nat} {rt : Option FieldType} (h : Cond.code y bytes maxL rt ∈ lw_tbl) : GoodIn wt (Cond.code y bytes maxL rt :: wt) := by
  intro w hw
  have h1 : w ∈ wt := by
    rcases List.mem_cons.mp hw with rfl | h2
    · exact wt_of h rfl
    · exact h2
  exact ⟨h1, good_of_word (wt_good h1)⟩
def catS (q : Nat → Bool → Nat → Nat) (r : List sv) : Nat := ((r.map (toV q)).map fun v => v.category).sum
section GOC
variable {E : ET} {p : Program} {e : Env} {R : Room} {s : State} {m : MethodId} {args : Array Value} {below : List Frame} {meth : Method} {c : Code} {nL : Nat} {Q : State → Prop}
variable {cc : ByteArray} {oc lev : Nat} {pc pe ln : Nat} {la : Instr} {ops : List op} {lv lv' : LV} {st st' : List sv} {I I' I2 : IT} {Z Z' Z2 : ZT} {gs : List Bool} {r : Option sv} {rest : List sv}
theorem PreC.blind {av : List Value} : FrameBlind (va_Pc av (PreC E I Z)) := fun a U g mk h => ⟨h.1, h.2.1, h.2.2.calling g mk a⟩
theorem GO.ofRun {a : Array Value} (hrun : ∀ (H : Heap) (locs : List Loc) (ls : Array Slot), va_P (eD E) vwCl (wsOf E I Z) H → va_S (eA E) s.heap H locs → lhas (eq E) ls nL lv → va_Run p (eL E) e R s m args below meth c H locs R.cells R.slots 0 0 (F0 m pe ls (st.map (toV (eq E)))) (rest.map (toV (eq E))) (PostC E r I2 Z2 a) (eA E))
    (k : GO E p e R s m args below meth c nL Q (pe + 3) lv (r.toList ++ rest) I2 Z2) : GO E p e R s m args below meth c nL Q pe lv st I Z := by
  intro H locs ls hW hS hl T hT X
  obtain ⟨v, st₀, t, T', L, h0, X', hL, e1, e2, ⟨hv, hP', hF⟩, stp⟩ := hrun H locs ls hW hS hl T hT X
  have hv2 : v = r.map (toV (eq E)) := Outcome.returned.inj hv
  subst hv2
  have hS' : va_S (eA E) s.heap T'.heap (locs ++ L) := by
    refine ⟨?_, fun q h1 h2 => ?_, fun l hl => ?_⟩
    · rw [e1]; exact Nat.le_trans hS.1 (by rw [← h0]; exact hF.1)
    · rw [e1, hF.2 q (by rw [h0]; exact Nat.lt_of_lt_of_le h1 hS.1) h2, h0]
      exact hS.2.1 q h1 h2
    · rcases List.mem_append.mp hl with h | h
      · exact hS.2.2 l h
      · exact hL l h
  obtain ⟨t2, a1, b1⟩ := k T'.heap (locs ++ L) ls (by rw [e1]; exact hP') hS' hl T' rfl X'
  refine ⟨t2, stp t2 ?_, b1⟩
  have he : (r.toList ++ rest).map (toV (eq E)) = (r.map (toV (eq E))).toList ++ rest.map (toV (eq E)) := by cases r <;> rfl
  rw [he] at a1
  exact a1
theorem GO.callv (S : CallFix p m c cc nL s args wt (ownN oc)) (hC : Cq E s) {lev2 idx ci maxL n : Nat} {bb : Bool} {y : MethodName} {bytes : ByteArray} {rt : Option FieldType} {as : List sv} (hd : decode cc pe = .ok (.invokevirtual idx, 3)) (hM : Ctr E lev2 y bytes maxL rt (vR ci bb 0 :: as) I Z r I2 Z2) (hR : lev ≤ R.frames ∧ 64 * lev ≤ R.locals) (hlev : lev2 + 1 ≤ lev) (hy : MFv y bytes maxL rt n ci) (hn : as.length = n) (hlink : Cond.methodLink (ownN oc) idx y ∈ lw_tbl) (hb : ci = 5 ∨ bb = false) (hrest : catS (eq E) rest ≤ 8)
    (k : GO E p e R s m args below meth c nL Q (pe + 3) lv (r.toList ++ rest) I2 Z2) : GO E p e R s m args below meth c nL Q pe lv (as.reverse ++ vR ci bb 0 :: rest) I Z := by
  refine GO.ofRun (a := (Value.ref (eq E ci bb 0) :: as.map (toV (eq E))).toArray) (fun H locs ls hW hS hl => ?_) k
  obtain ⟨hy0, hci, hy1, hy2, hy3, hy4, hy5, hy6, hy7, hy8⟩ := hy
  obtain ⟨i, h1, h2⟩ := ws_at (E := E) (I := I) (Z := Z) (LO_o hci hb)
  have hG : GoodIn wt (wsV (ownN oc) idx (clT ci).1 y (Cond.code y bytes maxL rt :: wt)) := by
    intro w hw
    rcases List.mem_append.mp hw with h | h
    · have hw2 : w ∈ wt := by
        rw [← hy0] at h
        simp only [List.mem_cons, List.not_mem_nil, or_false] at h
        rcases h with rfl | rfl | rfl | rfl
        · exact wt_of hlink rfl
        · exact wt_of hy1 rfl
        · exact wt_of hy2 rfl
        · exact wt_of hy3 rfl
      exact ⟨hw2, good_of_word (wt_good hw2)⟩
    · exact wt_sub hy4 w h
  refine va_runV (As := as.map (toV (eq E))) (C := (clT ci).1) (b := eq E ci bb 0) S hM (cwV (R := R) n S.2.2.2.2 hG rfl rfl rfl ⟨hy0, hy5, hy6, hy7⟩ ⟨Nat.le_trans hlev hR.1, ?_⟩) ⟨PreC.blind, va_recv hC.1 hW (clT_at ci hci) h2, fun U hU hWm => ⟨rfl, by rw [hU]; exact hW, hC.go hU hS hWm⟩⟩ rfl (by rw [List.length_map]; exact hn) hl.size ?_ (lv_room hrest) hd ⟨Nat.le_refl _, Nat.le_refl _⟩
  · show 8 + (maxL + 11) + 64 * lev2 ≤ R.locals
    have := hR.2
    omega
  · show (as.reverse ++ vR ci bb 0 :: rest).map (toV (eq E)) = (as.map (toV (eq E))).reverse ++ .ref (eq E ci bb 0) :: rest.map (toV (eq E))
    rw [List.map_append, List.map_reverse]
    rfl
theorem GO.calls (S : CallFix p m c cc nL s args wt (ownN oc)) (hC : Cq E s) {lev2 idx maxL n : Nat} {y : MethodName} {bytes : ByteArray} {rt : Option FieldType} {as : List sv} (hd : decode cc pe = .ok (.invokestatic idx, 3)) (hM : Ctr E lev2 y bytes maxL rt as I Z r I2 Z2) (hR : lev ≤ R.frames ∧ 64 * lev ≤ R.locals) (hlev : lev2 + 1 ≤ lev) (hy : MFs y bytes maxL rt n) (hn : as.length = n) (hlink : Cond.methodLink (ownN oc) idx y ∈ lw_tbl) (hrest : catS (eq E) rest ≤ 8)
    (k : GO E p e R s m args below meth c nL Q (pe + 3) lv (r.toList ++ rest) I2 Z2) : GO E p e R s m args below meth c nL Q pe lv (as.reverse ++ rest) I Z := by
  refine GO.ofRun (a := (as.map (toV (eq E))).toArray) (fun H locs ls hW hS hl => ?_) k
  obtain ⟨hy1, hy3, hy4, hy5, hy6, hy7, hy8⟩ := hy
  refine va_runS (As := as.map (toV (eq E))) S hM ⟨callB_of (R := R) n S.2.2.2.2 (wt_sub hy4) rfl rfl rfl (S.2.2.2.2 _ (wt_of hy3 rfl)) (S.2.2.2.2 _ (wt_of hlink rfl)) ⟨hy5, hy6, hy7⟩ ⟨Nat.le_trans hlev hR.1, ?_⟩, S.2.2.2.2 _ (wt_of hy1 rfl)⟩ ⟨PreC.blind, fun U hU hWm => ⟨rfl, by rw [hU]; exact hW, hC.go hU hS hWm⟩⟩ rfl (by rw [List.length_map]; exact hn) hl.size ?_ (lv_room hrest) hd ⟨Nat.le_refl _, Nat.le_refl _⟩
  · show 8 + (maxL + 11) + 64 * lev2 ≤ R.locals
    have := hR.2
    omega
  · show (as.reverse ++ rest).map (toV (eq E)) = (as.map (toV (eq E))).reverse ++ rest.map (toV (eq E))
    rw [List.map_append, List.map_reverse]
theorem GO.callN (S : CallFix p m c cc nL s args wt RX5) (hC : Cq E s) {lev2 maxL n : Nat} {bytes : ByteArray} {rt : Option FieldType} {as : List sv} (hd : decode cc pe = .ok (.invokestatic 67, 3)) (hM : Ctr E lev2 yX9_spanFits bytes maxL rt as I Z r I2 Z2) (hR : lev ≤ R.frames ∧ 64 * lev ≤ R.locals) (hlev : lev2 + 1 ≤ lev) (hy : MFs yX9_spanFits bytes maxL rt n) (hn : as.length = n) (hrest : catS (eq E) rest ≤ 8)
    (k : GO E p e R s m args below meth c nL Q (pe + 3) lv (r.toList ++ rest) I2 Z2) : GO E p e R s m args below meth c nL Q pe lv (as.reverse ++ rest) I Z := by
  refine GO.ofRun (a := (as.map (toV (eq E))).toArray) (fun H locs ls hW hS hl => ?_) k
  obtain ⟨hy1, hy3, hy4, hy5, hy6, hy7, hy8⟩ := hy
  refine va_runSN (As := as.map (toV (eq E))) S hM ⟨va_cnB (R := R) n S.2.2.2.2 (wt_sub hy4) rfl rfl rfl hC.2.2.2.1 (S.2.2.2.2 _ (wt_of hy3 rfl)) ⟨hy5, hy6, hy7⟩ ⟨Nat.le_trans hlev hR.1, ?_⟩, S.2.2.2.2 _ (wt_of hy1 rfl), trivial⟩ ⟨PreC.blind, fun U hU hWm => ⟨rfl, by rw [hU]; exact hW, hC.go hU hS hWm⟩⟩ rfl (by rw [List.length_map]; exact hn) hl.size ?_ (lv_room hrest) hd ⟨Nat.le_refl _, Nat.le_refl _⟩
  · show 8 + (maxL + 11) + 64 * lev2 ≤ R.locals
    have := hR.2
    omega
  · show (as.reverse ++ rest).map (toV (eq E)) = (as.map (toV (eq E))).reverse ++ rest.map (toV (eq E))
    rw [List.map_append, List.map_reverse]
end GOC
