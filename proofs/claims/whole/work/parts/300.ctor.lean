/-! constructors: worlds that grow, each new cell at the heap's end -/
def dfl (ci : Nat) : List Value := (FK.getD ci []).map (fun k => if k.1 = 0 then .int 0 else .null)
theorem dfl_ok : ∀ ci, ci < 11 → ∀ j, j < (clT ci).2.2 → defaultValue (ty_cl ci j) = vp_V (dfl ci) j := by decide +kernel
theorem kcls_tys {E : ET} {U : State} (hK : va_K (eD E) vwCl (etys E) U) {kd : Nat} {ty : FieldType} (h : (kd = 1 ∧ ty = .int) ∨ (kd = 2 ∧ ty = .byte) ∨ (kd = 3 ∧ ty = .boolean)) : va_RA U (kcls E kd) ty := by
  rcases h with ⟨rfl, rfl⟩ | ⟨rfl, rfl⟩ | ⟨rfl, rfl⟩
  · exact (hK.2 1 _ rfl).2
  · exact (hK.2 0 _ rfl).2
  · exact (hK.2 2 _ rfl).2
set_option maxRecDepth 100000 in
theorem arr_in : Cond.arrayClass .int ∈ lw_tbl ∧ Cond.arrayClass .byte ∈ lw_tbl ∧ Cond.arrayClass .boolean ∈ lw_tbl := by decide +kernel
section COS
variable {E : ET} {p : Program} {e : Env} {R : Room} {s : State} {m : MethodId} {args : Array Value} {below : List Frame} {meth : Method} {c : Code} {nL : Nat} {Q : State → Prop}
variable {cc : ByteArray} {own : String} {pc : Nat} {A : Nat → Prop} {ls : Array Slot} {h0 : Nat} {ws : va_W} {N nc ns : Nat} {st : List Value}
/-- the machine in a constructor: N cells are there, of which ws is known -/
def CO (E : ET) (p : Program) (e : Env) (R : Room) (s : State) (m : MethodId) (args : Array Value) (below : List Frame) (meth : Method) (c : Code) (Q : State → Prop) (A : Nat → Prop) (ls : Array Slot) (ws : va_W) (N nc ns pc : Nat) (st : List Value) : Prop :=
  ∀ (H : Heap) (locs : List Loc), H.size = N → va_P (eD E) vwCl ws H → va_D A ws → va_S A s.heap H locs → W p (eL E) e R s m args below meth c H locs nc ns Q (F0 m pc ls st)
theorem CO.to {ws' : va_W} (h : ws = ws') (k : CO E p e R s m args below meth c Q A ls ws' N nc ns pc st) : CO E p e R s m args below meth c Q A ls ws N nc ns pc st := h ▸ k
theorem CO.aload (S : CallFix p m c cc nL s args wt own) (hl : lv_has ls nL [(0, .ref h0)]) (hd : decode cc pc = .ok (.aload_n 0, 1)) (k : CO E p e R s m args below meth c Q A ls ws N nc ns (pc + 1) (.ref h0 :: st)) : CO E p e R s m args below meth c Q A ls ws N nc ns pc st :=
  fun H locs h1 h2 h3 h4 => lv_aload_n S.1 S.2.1 hd rfl (lv_at hl 0 rfl) (k H locs h1 h2 h3 h4)
theorem CO.iconst (S : CallFix p m c cc nL s args wt own) {i : Int} {v : Int32} (hd : decode cc pc = .ok (.iconst i, 1)) (hv : Int32.ofInt i = v) (k : CO E p e R s m args below meth c Q A ls ws N nc ns (pc + 1) (.int v :: st)) : CO E p e R s m args below meth c Q A ls ws N nc ns pc st :=
  fun H locs h1 h2 h3 h4 => lv_iconst S.1 S.2.1 hd hv (k H locs h1 h2 h3 h4)
theorem CO.bipush (S : CallFix p m c cc nL s args wt own) {i : Int} {v : Int32} (hd : decode cc pc = .ok (.bipush i, 2)) (hv : (Int8.ofInt i).toInt32 = v) (k : CO E p e R s m args below meth c Q A ls ws N nc ns (pc + 2) (.int v :: st)) : CO E p e R s m args below meth c Q A ls ws N nc ns pc st :=
  fun H locs h1 h2 h3 h4 => lv_bipush S.1 S.2.1 hd hv (k H locs h1 h2 h3 h4)
theorem CO.sipush (S : CallFix p m c cc nL s args wt own) {i : Int} {v : Int32} (hd : decode cc pc = .ok (.sipush i, 3)) (hv : (Int16.ofInt i).toInt32 = v) (k : CO E p e R s m args below meth c Q A ls ws N nc ns (pc + 3) (.int v :: st)) : CO E p e R s m args below meth c Q A ls ws N nc ns pc st :=
  fun H locs h1 h2 h3 h4 => lv_sipush S.1 S.2.1 hd hv (k H locs h1 h2 h3 h4)
theorem CO.dup (S : CallFix p m c cc nL s args wt own) {a : Nat} (hd : decode cc pc = .ok (.dup, 1)) (k : CO E p e R s m args below meth c Q A ls ws N nc ns (pc + 1) (.ref a :: .ref a :: st)) : CO E p e R s m args below meth c Q A ls ws N nc ns pc (.ref a :: st) :=
  fun H locs h1 h2 h3 h4 => lv_dup S.1 S.2.1 hd rfl (k H locs h1 h2 h3 h4)
theorem CO.obj (S : CallFix p m c cc nL s args wt own) (hl : lv_has ls nL [(0, .ref h0)]) {idx : Nat} (hlink : Cond.methodLink own idx objectInit ∈ lw_tbl) (hob : Cond.instanceMethod objectInit ∈ lw_tbl ∧ Cond.code objectInit ⟨#[0xb1]⟩ 1 none ∈ lw_tbl) (hd0 : decode cc pc = .ok (.aload_n 0, 1)) (hd : decode cc (pc + 1) = .ok (.invokespecial idx, 3)) (hf : 1 ≤ R.frames) (hlo : 12 ≤ R.locals)
    (k : CO E p e R s m args below meth c Q A ls ws N nc ns (pc + 4) []) : CO E p e R s m args below meth c Q A ls ws N nc ns pc [] := by
  refine CO.aload S hl hd0 ?_
  intro H locs h1 h2 h3 h4
  exact W.objInit S.1 S.2.1 S.2.2.2.1 (S.2.2.2.2 _ (wt_of hlink rfl)) (S.2.2.2.2 _ (wt_of hob.1 rfl)) (S.2.2.2.2 _ (wt_of hob.2 rfl)) rfl (by rw [S.2.2.1]; exact hl.1) rfl hd hf hlo (k H locs h1 h2 h3 h4)
theorem CO.newarr (S : CallFix p m c cc nL s args wt own) (hK : va_K (eD E) vwCl (etys E) s) (hA : ∀ q, s.heap.size ≤ q → A q) {aty : ArrayType} {ty : FieldType} {kd n : Nat} {x : Int32} (hd : decode cc pc = .ok (.newarray aty, 2)) (hty : newarray.typeOf aty = ty) (hkd : (kd = 1 ∧ ty = .int) ∨ (kd = 2 ∧ ty = .byte) ∨ (kd = 3 ∧ ty = .boolean)) (hx : ¬ x < 0) (hn : x.toNatClampNeg = n) (hb : n * componentBytes ty ≤ 536870912) (hc : nc + 1 ≤ R.cells) (hs : ns + n ≤ R.slots)
    (k : CO E p e R s m args below meth c Q A ls (ws ++ [(N, .inl (kcls E kd, n, .inl (fun _ => 0)))]) (N + 1) (nc + 1) (ns + n) (pc + 2) (.ref N :: st)) : CO E p e R s m args below meth c Q A ls ws N nc ns pc (.int x :: st) := by
  intro H locs h1 hP hD hS
  subst hty
  have harr : (Cond.arrayClass (newarray.typeOf aty)).before args s = true := by
    refine S.2.2.2.2 _ (wt_of ?_ rfl)
    rcases hkd with ⟨-, e⟩ | ⟨-, e⟩ | ⟨-, e⟩ <;> rw [e]
    · exact arr_in.1
    · exact arr_in.2.1
    · exact arr_in.2.2
  refine va_newaK S.1 S.2.1 harr rfl hd rfl hx hn hb hc hs h1 fun H1 cA e1 z1 o1 hAr hNm => ?_
  have hcA : cA = kcls E kd := by
    have hra := kcls_tys hK hkd
    rcases hkd with ⟨rfl, e⟩ | ⟨rfl, e⟩ | ⟨rfl, e⟩ <;> rw [e] at hra hNm <;> exact Option.some.inj (hNm.symm.trans hra)
  subst hcA
  have hk : ∀ (k : Nat) (x : Nat × va_E), ws[k]? = some x → H1[x.1]? = H[x.1]? := fun k x hx => o1 x.1 (by rw [← h1]; exact (hP k x hx).lt)
  refine k H1 locs z1 ((hP.kept hk).app (fun k x hx => ?_)) (hD.push hP h1.symm (hA _ (by rw [← h1]; exact hS.1))) ⟨Nat.le_trans hS.1 (by omega), fun x g1 g2 => (o1 x (by rw [← h1]; exact Nat.lt_of_lt_of_le g1 hS.1)).trans (hS.2.1 x g1 g2), hS.2.2⟩
  have hz : k < 1 := (List.getElem?_eq_some_iff.mp hx).1
  rw [show k = 0 by omega] at hx
  cases hx
  show H1[N]? = some (vp_cell _ _)
  rw [e1, vp_cell_i]
  rcases hkd with ⟨-, e⟩ | ⟨-, e⟩ | ⟨-, e⟩ <;> rw [e] <;> rfl
theorem CO.put (S : CallFix p m c cc nL s args wt own) (hK : va_K (eD E) vwCl (etys E) s) (hin : meth.name = "<init>") {idx ci j : Nat} {v : Value} {fs : List Value} (hd : decode cc pc = .ok (.putfield idx, 3)) (hlink : Cond.fieldLink own idx ((clT ci).2.1 j).1 ((clT ci).2.1 j).2.1 ((clT ci).2.1 j).2.2.1 ∈ lw_tbl) (hc : ci < 11) (hj : j < (clT ci).2.2) (hdecl : ((clT ci).2.1 j).1 = own) (hn : narrow (ty_cl ci j) v = v) (hfit : fits (ty_cl ci j) v = true) (he : ws[0]? = some (h0, .inr (ci, fs))) (hl : j < fs.length)
    (k : CO E p e R s m args below meth c Q A ls (ws.set 0 (h0, .inr (ci, fs.set j v))) N nc ns (pc + 3) st) : CO E p e R s m args below meth c Q A ls ws N nc ns pc (v :: .ref h0 :: st) := by
  intro H locs hz hP hD hS0
  have hts := S.2.2.2.2
  have hcl := clT_at ci hc
  have hap := va_apart (own := own) hts (in_wt hc) (ty_cl ci) (ty_cl_ok ci _ _ _ hcl) (nm_cl ci _ _ _ hcl) hK hcl
  obtain ⟨r, h1, cell, q1, q2, q3, q4⟩ := hP 0 _ he
  have hr : r = clT ci := Option.some.inj (h1.symm.trans hcl)
  subst hr
  obtain ⟨hS, hfc, kC, hkC, hkind⟩ := hK.1 ci _ hcl
  obtain ⟨cf, kf, fi, f, hi, hsl⟩ := hS j hj
  have hst := (u_facts hfc hkC (u_lays hts (in_wt hc) hj) hi).1
  have h6 := u_fits hfc hkC hkind (u_lays hts (in_wt hc) hj) hi (ty_cl_ok ci _ _ _ hcl j hj) hn hfit
  have hcf : hasFlag f.accessFlags Acc.final = false ∨ (m.cls = cf ∧ meth.name = "<init>") := by
    have hlay := hts _ (in_wt hc _ (u_in_lay hj))
    unfold u_lay at hlay
    split at hlay
    · right
      refine ⟨?_, hin⟩
      obtain ⟨_, _, c', _, _, _, -, -, hf', -, -, -, hown2, -⟩ := Cond.laysFinal_spec hlay
      have e1 : c' = cf := by have := hi.symm.trans hf'; simp at this; exact this.1.symm
      rw [hdecl] at hown2
      rw [← e1]
      exact Option.some.inj (S.2.2.2.1.symm.trans hown2)
    · left
      exact (u_store hfc hkC hkind hlay hi (ty_cl_ok ci _ _ _ hcl j hj) hn hfit).1
  refine W.putf S.1 S.2.1 S.2.2.2.1 (hts _ (wt_of hlink rfl)) hi hst hcf q1 (by rw [q3]; exact fun h => by cases h) (by rw [hsl]; exact k2_hasslot (q4 j hj)) h6.1 (by rw [q2, q3]; exact h6.2) rfl rfl hd ?_
  have ha : h0 < H.size := (Array.getElem?_eq_some_iff.mp q1).1
  have e3 : ∀ q : Nat, q ≠ h0 → (H.setIfInBounds h0 (cell.setSlot f.slot v))[q]? = H[q]? := fun q hq => Array.getElem?_setIfInBounds_ne (fun z => hq z.symm)
  have e1 : (H.setIfInBounds h0 (cell.setSlot f.slot v))[h0]? = some (cell.setSlot f.slot v) := by simp [Array.getElem?_setIfInBounds, ha]
  have e2 : (H.setIfInBounds h0 (cell.setSlot f.slot v)).size = H.size := by simp
  rw [hsl] at e1 e2 e3 ⊢
  exact k _ _ (e2.trans hz) (hP.set hD he ⟨_, hcl, t_OB.to (V := updV (vp_V fs) j v) ⟨_, e1, q2, q3, t_set q4 hap hj v⟩ (fun i _ => vp_updV_set hl v i)⟩ e3) (hD.set he) (hS0.put e2 e3 (hD.2 0 _ he))
theorem CO.iast (S : CallFix p m c cc nL s args wt own) (hK : va_K (eD E) vwCl (etys E) s) {i : Nat} {x v : Int32} {a n : Nat} {f : Nat → Int32} (hd : decode cc pc = .ok (.iastore, 1)) (he : ws[i]? = some (a, .inl (eI E, n, .inl f))) (hx : vb x n = true)
    (k : CO E p e R s m args below meth c Q A ls (ws.set i (a, .inl (eI E, n, .inl (upd f x.toNatClampNeg v)))) N nc ns (pc + 1) st) : CO E p e R s m args below meth c Q A ls ws N nc ns pc (.int v :: .int x :: .ref a :: st) := by
  intro H locs hz hP hD hS
  refine W.iast S.1 S.2.1 (hP i _ he) ((hK.2 1 _ rfl).1 n (fun j => .int (f j))) (fun q => by cases q) (by show ¬ (x < 0 ∨ (arrV _ _ _).slots.size ≤ _); rw [arrV_size]; exact vb_in hx) rfl rfl hd fun H1 e z oq => ?_
  refine k H1 _ (z.trans hz) (hP.set hD he ?_ oq) (hD.set he) (hS.put z oq (hD.2 i _ he))
  show H1[a]? = some (vp_cell _ _)
  rw [e, vp_cell_i, vp_cell_i, arrV_store]
  congr 2
  funext q
  by_cases hq : q = x.toNatClampNeg
  · subst hq
    simp [updV, upd]
  · simp [updV, upd, hq]
theorem CO.null (S : CallFix p m c cc nL s args wt own) (hd : decode cc pc = .ok (.aconst_null, 1)) (k : CO E p e R s m args below meth c Q A ls ws N nc ns (pc + 1) (.null :: st)) : CO E p e R s m args below meth c Q A ls ws N nc ns pc st :=
  fun H locs h1 h2 h3 h4 => lv_null S.1 S.2.1 hd (k H locs h1 h2 h3 h4)
end COS
/-- THE CONTRACT of a constructor without arguments: its object at h0 is the heap's last cell; nk cells of ms slots come behind it; then the cells wc are there -/
def Ctc (E : ET) (Y : State → Prop) (lev ci nk ms : Nat) (y : MethodName) (cc : ByteArray) (maxL h0 : Nat) (wc : va_W) : Prop :=
  Met (eL E) y (Cond.code y cc maxL none :: wt) { frames := lev, cells := nk, slots := ms, locals := 64 * lev } (va_Pc [.ref h0] (fun U => U.heap.size = h0 + 1 ∧ va_P (eD E) vwCl [(h0, .inr (ci, dfl ci))] U.heap ∧ va_K (eD E) vwCl (etys E) U ∧ Y U))
    (fun _ st oc t => oc = .returned none ∧ t.heap.size = h0 + 1 + nk ∧ va_P (eD E) vwCl wc t.heap ∧ va_D (fun a => h0 ≤ a) wc ∧ va_F (fun a => h0 ≤ a) st t) nk ms (fun a => h0 ≤ a)
/-- what a constructor's walk may use -/
def Cn (E : ET) (Y : State → Prop) (oc : Nat) (cc : ByteArray) (lev maxL h0 nk ms : Nat) (wc : va_W) (K : va_W → Nat → Nat → Nat → Nat → List Value → Prop) : Prop :=
  ∃ (p : Program) (e : Env) (s : State) (m : MethodId) (args : Array Value) (below : List Frame) (meth : Method) (c : Code) (ls : Array Slot),
    K = CO E p e { frames := lev, cells := nk, slots := ms, locals := 64 * lev } s m args below meth c (MQ below (fun _ st oc t => oc = .returned none ∧ t.heap.size = h0 + 1 + nk ∧ va_P (eD E) vwCl wc t.heap ∧ va_D (fun a => h0 ≤ a) wc ∧ va_F (fun a => h0 ≤ a) st t) args s nk ms (fun a => h0 ≤ a)) (fun a => h0 ≤ a) ls ∧
    CallFix p m c cc maxL s args wt (ownN oc) ∧ va_K (eD E) vwCl (etys E) s ∧ meth.name = "<init>" ∧ lv_has ls maxL [(0, .ref h0)] ∧ meth.sig.returnType = none ∧ meth.locks = false ∧ s.heap.size = h0 + 1 ∧ Y s
theorem Ctc.of {E : ET} {Y : State → Prop} (oc : Nat) {lev ci nk ms : Nat} {y : MethodName} {cc : ByteArray} {maxL h0 : Nat} {wc : va_W} (hcls : y.cls = ownN oc) (hname : y.name = "<init>") (hpl : _root_.Jvm.plainName y.cls = true) (hm : 1 ≤ maxL)
    (body : ∀ K, Cn E Y oc cc lev maxL h0 nk ms wc K → K [(h0, .inr (ci, dfl ci))] (h0 + 1) 0 0 0 []) : Ctc E Y lev ci nk ms y cc maxL h0 wc := by
  refine Met.ofW (cc := cc) (maxL := maxL) (ret := none) hpl rfl ?_
  intro p e s m args below meth c s₁ B hml hv
  obtain ⟨rfl, hsz, hP, hK, hY⟩ := hv
  have hts := atoms_spec (ws := Cond.code y cc maxL none :: wt) B.pre
  have hown : s.vm.findClass (ownN oc) = some m.cls := by rw [← hcls]; exact findClass_of_methodNamed B.named
  have hin : meth.name = "<init>" := (name_of_methodNamed B.named B.method).1.trans hname
  rw [lg_entry_eq]
  have hl := lv_entry [Value.ref h0] (n := maxL) hm
  refine body _ ⟨p, e, s, m, _, below, meth, c, _, rfl, ⟨B.exec, B.bytes, hml, hown, fun w hw => hts w (List.mem_cons_of_mem _ hw)⟩, hK, hin, hl, B.returns, B.notSynchronized, hsz, hY⟩ s.heap [] hsz hP ⟨?_, ?_⟩ va_S.rf
  · intro i j p q hi hj hpq
    have h1 := (List.getElem?_eq_some_iff.mp hi).1
    have h2 := (List.getElem?_eq_some_iff.mp hj).1
    simp at h1 h2
    omega
  · intro k q hk
    have h1 := (List.getElem?_eq_some_iff.mp hk).1
    simp at h1
    subst h1
    cases hk
    exact Nat.le_refl _
theorem ob_in : Cond.instanceMethod objectInit ∈ lw_tbl ∧ Cond.code objectInit ⟨#[0xb1]⟩ 1 none ∈ lw_tbl := by decide +kernel
section CNR
variable {E : ET} {Y : State → Prop} {oc : Nat} {cc : ByteArray} {lev maxL h0 nk ms : Nat} {wc : va_W} {K : va_W → Nat → Nat → Nat → Nat → List Value → Prop} {ws : va_W} {N nc ns pc : Nat} {st : List Value}
theorem Cn.to (C : Cn E Y oc cc lev maxL h0 nk ms wc K) (ws' : va_W) (N' nc' ns' pc' : Nat) (st' : List Value) (h : ws = ws') (h1 : N = N') (h2 : nc = nc') (h3 : ns = ns') (h4 : pc = pc') (h5 : st = st') (k : K ws' N' nc' ns' pc' st') : K ws N nc ns pc st := by
  subst h h1 h2 h3 h4 h5
  exact k
theorem Cn.obj (C : Cn E Y oc cc lev maxL h0 nk ms wc K) {idx : Nat} (hlink : Cond.methodLink (ownN oc) idx objectInit ∈ lw_tbl) (hd0 : decode cc pc = .ok (.aload_n 0, 1)) (hd : decode cc (pc + 1) = .ok (.invokespecial idx, 3)) (hlev : 1 ≤ lev) (k : K ws N nc ns (pc + 4) []) : K ws N nc ns pc [] := by
  obtain ⟨p, e, s, m, args, below, meth, c, ls, rfl, S, hK, hin, hl, hr, hlk, hsz, hY⟩ := C
  exact CO.obj S hl hlink ob_in hd0 hd hlev (by show 12 ≤ 64 * lev; omega) k
theorem Cn.aload (C : Cn E Y oc cc lev maxL h0 nk ms wc K) (hd : decode cc pc = .ok (.aload_n 0, 1)) (k : K ws N nc ns (pc + 1) (.ref h0 :: st)) : K ws N nc ns pc st := by
  obtain ⟨p, e, s, m, args, below, meth, c, ls, rfl, S, hK, hin, hl, hr, hlk, hsz, hY⟩ := C
  exact CO.aload S hl hd k
theorem Cn.iconst (C : Cn E Y oc cc lev maxL h0 nk ms wc K) {i : Int} {v : Int32} (hd : decode cc pc = .ok (.iconst i, 1)) (hv : Int32.ofInt i = v) (k : K ws N nc ns (pc + 1) (.int v :: st)) : K ws N nc ns pc st := by
  obtain ⟨p, e, s, m, args, below, meth, c, ls, rfl, S, hK, hin, hl, hr, hlk, hsz, hY⟩ := C
  exact CO.iconst S hd hv k
theorem Cn.bipush (C : Cn E Y oc cc lev maxL h0 nk ms wc K) {i : Int} {v : Int32} (hd : decode cc pc = .ok (.bipush i, 2)) (hv : (Int8.ofInt i).toInt32 = v) (k : K ws N nc ns (pc + 2) (.int v :: st)) : K ws N nc ns pc st := by
  obtain ⟨p, e, s, m, args, below, meth, c, ls, rfl, S, hK, hin, hl, hr, hlk, hsz, hY⟩ := C
  exact CO.bipush S hd hv k
theorem Cn.sipush (C : Cn E Y oc cc lev maxL h0 nk ms wc K) {i : Int} {v : Int32} (hd : decode cc pc = .ok (.sipush i, 3)) (hv : (Int16.ofInt i).toInt32 = v) (k : K ws N nc ns (pc + 3) (.int v :: st)) : K ws N nc ns pc st := by
  obtain ⟨p, e, s, m, args, below, meth, c, ls, rfl, S, hK, hin, hl, hr, hlk, hsz, hY⟩ := C
  exact CO.sipush S hd hv k
theorem Cn.dup (C : Cn E Y oc cc lev maxL h0 nk ms wc K) {a : Nat} (hd : decode cc pc = .ok (.dup, 1)) (k : K ws N nc ns (pc + 1) (.ref a :: .ref a :: st)) : K ws N nc ns pc (.ref a :: st) := by
  obtain ⟨p, e, s, m, args, below, meth, c, ls, rfl, S, hK, hin, hl, hr, hlk, hsz, hY⟩ := C
  exact CO.dup S hd k
theorem Cn.null (C : Cn E Y oc cc lev maxL h0 nk ms wc K) (hd : decode cc pc = .ok (.aconst_null, 1)) (k : K ws N nc ns (pc + 1) (.null :: st)) : K ws N nc ns pc st := by
  obtain ⟨p, e, s, m, args, below, meth, c, ls, rfl, S, hK, hin, hl, hr, hlk, hsz, hY⟩ := C
  exact CO.null S hd k
theorem Cn.newarr (C : Cn E Y oc cc lev maxL h0 nk ms wc K) {aty : ArrayType} {ty : FieldType} {kd n : Nat} {x : Int32} (hd : decode cc pc = .ok (.newarray aty, 2)) (hty : newarray.typeOf aty = ty) (hkd : (kd = 1 ∧ ty = .int) ∨ (kd = 2 ∧ ty = .byte) ∨ (kd = 3 ∧ ty = .boolean)) (hx : ¬ x < 0) (hn : x.toNatClampNeg = n) (hb : n * componentBytes ty ≤ 536870912) (hc : nc + 1 ≤ nk) (hs : ns + n ≤ ms)
    (k : K (ws ++ [(N, .inl (kcls E kd, n, .inl (fun _ => 0)))]) (N + 1) (nc + 1) (ns + n) (pc + 2) (.ref N :: st)) : K ws N nc ns pc (.int x :: st) := by
  obtain ⟨p, e, s, m, args, below, meth, c, ls, rfl, S, hK, hin, hl, hr, hlk, hsz, hY⟩ := C
  exact CO.newarr S hK (fun q hq => by show h0 ≤ q; omega) hd hty hkd hx hn hb hc hs k
theorem Cn.put (C : Cn E Y oc cc lev maxL h0 nk ms wc K) {idx ci j : Nat} {v : Value} {fs : List Value} (hd : decode cc pc = .ok (.putfield idx, 3)) (hfl : (oc, idx, ci, j) ∈ fltab) (hdecl : ((clT ci).2.1 j).1 = ownN oc) (hn : narrow (ty_cl ci j) v = v) (hfit : fits (ty_cl ci j) v = true) (he : ws[0]? = some (h0, .inr (ci, fs))) (hl2 : j < fs.length)
    (k : K (ws.set 0 (h0, .inr (ci, fs.set j v))) N nc ns (pc + 3) st) : K ws N nc ns pc (v :: .ref h0 :: st) := by
  obtain ⟨p, e, s, m, args, below, meth, c, ls, rfl, S, hK, hin, hl, hr, hlk, hsz, hY⟩ := C
  exact CO.put S hK hin hd (fl_ok _ hfl) (fl_lt _ hfl).1 (fl_lt _ hfl).2 hdecl hn hfit he hl2 k
theorem Cn.iast (C : Cn E Y oc cc lev maxL h0 nk ms wc K) {i : Nat} {x v : Int32} {a n : Nat} {f : Nat → Int32} (hd : decode cc pc = .ok (.iastore, 1)) (he : ws[i]? = some (a, .inl (eI E, n, .inl f))) (hx : vb x n = true)
    (k : K (ws.set i (a, .inl (eI E, n, .inl (upd f x.toNatClampNeg v)))) N nc ns (pc + 1) st) : K ws N nc ns pc (.int v :: .int x :: .ref a :: st) := by
  obtain ⟨p, e, s, m, args, below, meth, c, ls, rfl, S, hK, hin, hl, hr, hlk, hsz, hY⟩ := C
  exact CO.iast S hK hd he hx k
theorem Cn.ret (C : Cn E Y oc cc lev maxL h0 nk ms wc K) (hd : decode cc pc = .ok (.return_, 1)) (hw : ws = wc) (hN : N = h0 + 1 + nk) : K ws N nk ms pc [] := by
  obtain ⟨p, e, s, m, args, below, meth, c, ls, rfl, S, hK, hin, hl, hr, hlk, hsz, hY⟩ := C
  subst hw
  intro H locs h1 hP hD hS
  exact W.vret S.1 S.2.1 hr (fun t ht _ => ⟨rfl, by rw [ht, h1, hN], by rw [ht]; exact hP, hD, hS.F ht⟩) hS.2.2 hd hlk
theorem Cn.new (C : Cn E Y oc cc lev maxL h0 nk ms wc K) {idx ci : Nat} (hd : decode cc pc = .ok (.new idx, 3)) (hc : ci < 11) (hcl : Cond.classLink (ownN oc) idx (clT ci).1 ∈ lw_tbl ∧ Cond.instantiable (clT ci).1 (clT ci).2.2 ∈ lw_tbl ∧ Cond.initialized (clT ci).1 ∈ lw_tbl) (hk1 : nc + 1 ≤ nk) (hk2 : ns + (clT ci).2.2 ≤ ms)
    (k : K (ws ++ [(N, .inr (ci, dfl ci))]) (N + 1) (nc + 1) (ns + (clT ci).2.2) (pc + 3) (.ref N :: st)) : K ws N nc ns pc st := by
  obtain ⟨p, e, s, m, args, below, meth, c, ls, rfl, S, hK, hin, hl, hr, hlk, hsz, hY⟩ := C
  intro H locs h1 hP hD hS
  have hts := S.2.2.2.2
  have hKn := hK.1 ci _ (clT_at ci hc)
  refine W.newcK S.1 S.2.1 S.2.2.2.1 (hts _ (wt_of hcl.1 rfl)) (hts _ (wt_of hcl.2.1 rfl)) (hts _ (wt_of hcl.2.2 rfl)) rfl hd hk1 hk2 hKn.2.1 h1 fun H1 kC hkC e1 z1 o1 => ?_
  have hk : ∀ (k : Nat) (x : Nat × va_E), ws[k]? = some x → H1[x.1]? = H[x.1]? := fun k x hx => o1 x.1 (by rw [← h1]; exact (hP k x hx).lt)
  refine k H1 locs z1 ((hP.kept hk).app (fun k x hx => ?_)) (hD.push hP h1.symm (by have := hS.1; show h0 ≤ N; omega)) ⟨by have := hS.1; omega, fun x g1 g2 => (o1 x (by have := hS.1; omega)).trans (hS.2.1 x g1 g2), hS.2.2⟩
  have hz : k < 1 := (List.getElem?_eq_some_iff.mp hx).1
  rw [show k = 0 by omega] at hx
  cases hx
  exact ⟨_, clT_at ci hc, (u_born (ty_cl ci) hts (in_wt hc) hKn hkC e1 (ty_cl_ok ci _ _ _ (clT_at ci hc))).to (dfl_ok ci hc)⟩
theorem Cn.callN (C : Cn E Y oc cc lev maxL h0 nk ms wc K) {lev2 ci k2 m2 idx a : Nat} {y : MethodName} {bytes : ByteArray} {wr wc2 : va_W} (hd : decode cc pc = .ok (.invokespecial idx, 3)) (hYn : ∀ U, Y U → va_Nw (.methodLinkNest (ownN oc) idx y RX9) U) (hM : Ctc E (fun _ => True) lev2 ci k2 m2 y bytes 1 a wc2) (hlev : lev2 + 1 ≤ lev) (hy : Cond.code y bytes 1 none ∈ lw_tbl ∧ Cond.initialized y.cls ∈ lw_tbl ∧ Cond.instanceMethod y ∈ lw_tbl) (hy2 : y.cls ≠ "java/lang/invoke/MethodHandle" ∧ y.cls ≠ "java/lang/invoke/VarHandle" ∧ (parseMethodDescriptor y.desc).map (fun d => d.parameters.length) = some 0) (hyn : y.name = "<init>") (hws : ws = wr ++ [(a, .inr (ci, dfl ci))]) (hN : N = a + 1) (hc : nc + k2 ≤ nk) (hs : ns + m2 ≤ ms) (hrest : (st.map fun v => v.category).sum ≤ 8)
    (k : K (wr ++ wc2) (N + k2) (nc + k2) (ns + m2) (pc + 3) st) : K ws N nc ns pc (.ref a :: st) := by
  obtain ⟨p, e, s, m, args, below, meth, c, ls, rfl, S, hK, hin, hl, hr, hlk, hsz, hY⟩ := C
  intro H locs h1 hP hD hS
  subst hws
  have hi : (wr ++ [(a, .inr (ci, dfl ci))] : va_W)[wr.length]? = some (a, .inr (ci, dfl ci)) := by simp
  have hPa : va_P (eD E) vwCl [(a, .inr (ci, dfl ci))] H := fun i q hq => hP (wr.length + i) q (by rw [List.getElem?_append_right (Nat.le_add_right _ _)]; simpa using hq)
  have hwr : ∀ (i : Nat) (q : Nat × va_E), wr[i]? = some q → (wr ++ [(a, .inr (ci, dfl ci))] : va_W)[i]? = some q := fun i q hq => by
    rw [List.getElem?_append_left (List.getElem?_eq_some_iff.mp hq).1]; exact hq
  have hlt : ∀ (i : Nat) (q : Nat × va_E), wr[i]? = some q → q.1 < a := fun i q hq => by
    have g1 := (hP i q (hwr i q hq)).lt
    have g2 : q.1 ≠ a := fun e0 => by
      have := hD.1 i wr.length q _ (hwr i q hq) hi e0
      have := (List.getElem?_eq_some_iff.mp hq).1
      omega
    omega
  have hah : h0 ≤ a := hD.2 wr.length _ hi
  have hrun := va_runIN (p := p) (l := eL E) (e := e) (R := { frames := lev, cells := nk, slots := ms, locals := 64 * lev }) (meth := meth) (locs := locs) (below := below) (cells := nc) (slots := ns) (H := H) (As := []) (rest := st) (b := a) (host := RX9) (g := F0 m pc ls (.ref a :: st)) S hM
    ⟨va_cnB (R := { frames := lev, cells := nk, slots := ms, locals := 64 * lev }) 0 S.2.2.2.2 (wt_sub hy.1) rfl rfl rfl (hYn s hY) (S.2.2.2.2 _ (wt_of hy.2.1 rfl)) hy2 ⟨hlev, by show 8 + (1 + 11) + 64 * lev2 ≤ 64 * lev; omega⟩, hyn, S.2.2.2.2 _ (wt_of hy.2.2 rfl)⟩
    ⟨fun a2 U g mk q => by obtain ⟨q0, q1, q2, q3, q4⟩ := q; exact ⟨q0, q1, q2, va_K.moved (u := U) (U := U.calling g mk a2) (Vm.Alike.refl U.vm) q3, trivial⟩, fun U hU hWm => ⟨rfl, by rw [hU, h1, hN], by rw [hU]; exact hPa, va_K.moved hWm.alike hK, trivial⟩⟩ rfl rfl hl.1 rfl (lv_room hrest) hd ⟨hc, hs⟩
  intro T hT X
  obtain ⟨v, st₀, t, T', L, e0, X', hL, e1, e2, ⟨hv, hz, hP', hD', hF⟩, stp⟩ := hrun T hT X
  have hv2 : v = none := Outcome.returned.inj hv
  subst hv2
  have hkeep : ∀ q : Nat, q < a → t.heap[q]? = H[q]? := fun q hq => by rw [hF.2 q (by rw [e0, h1]; omega) (by show ¬ a ≤ q; omega), e0]
  have hPn : va_P (eD E) vwCl (wr ++ wc2) T'.heap := by
    rw [e1]
    exact va_P.app (fun i q hq => (hP i q (hwr i q hq)).kept (hkeep q.1 (hlt i q hq))) hP'
  have hDn : va_D (fun a => h0 ≤ a) (wr ++ wc2) := by
    refine va_D.app ⟨fun i j p q hi hj e0 => hD.1 i j p q (hwr i p hi) (hwr j q hj) e0, fun i q hq => hD.2 i q (hwr i q hq)⟩ (hD'.weaken (fun _ _ _ h => Nat.le_trans hah h)) (fun i j p q hi hj e0 => ?_)
    have g1 := hlt i p hi
    have g2 := hD'.2 j q hj
    have g3 : a ≤ q.1 := g2
    omega
  have hSn : va_S (fun a => h0 ≤ a) s.heap T'.heap (locs ++ L) := by
    refine ⟨?_, fun q g1 g2 => ?_, fun l hl2 => ?_⟩
    · rw [e1, hz]; have := hS.1; omega
    · have g3 : ¬ h0 ≤ q := g2
      rw [e1, hkeep q (by omega)]; exact hS.2.1 q g1 g2
    · rcases List.mem_append.mp hl2 with h | h
      · exact hS.2.2 l h
      · exact Nat.le_trans hah (hL l h)
  obtain ⟨t2, a1, b1⟩ := k T'.heap (locs ++ L) (by rw [e1, hz]; omega) hPn hDn hSn T' rfl X'
  exact ⟨t2, stp t2 a1, b1⟩
end CNR
