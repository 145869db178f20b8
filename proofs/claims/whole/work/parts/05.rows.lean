/-! what stays of the law's start: a link between nest mates, the String constants, one static -/
def sidx (k : Nat) : Nat := [91, 97, 99, 101, 103, 105, 107, 109, 157].getD k 0
def stxt (k : Nat) : String := ["prop", "stands", "cue", "walkers", "move", "tail", "most", "speech", "talk"].getD k ""
def slen : List Nat := [4, 6, 3, 7, 4, 4, 4, 6, 4]
def sbyt : List (List Int32) := [[112, 114, 111, 112], [115, 116, 97, 110, 100, 115], [99, 117, 101], [119, 97, 108, 107, 101, 114, 115], [109, 111, 118, 101], [116, 97, 105, 108], [109, 111, 115, 116], [115, 112, 101, 101, 99, 104], [116, 97, 108, 107]]
def XF (E : ET) (U : State) : Prop := va_Nw (.methodLinkNest RX5 67 yX9_spanFits RX9) U ∧ (∀ k, k < 9 → vk_R RX3 (sidx k) (stxt k) (eq E 20 false k) U) ∧ vk_S 9 slen sbyt (fun k => eq E 20 false k) (fun k => eq E 21 false k) (eA E) U U.heap ∧ va_Z "java/lang/String" "COMPACT_STRINGS" "Z" (.int 1) (eA E) U U.heap ∧ ∃ v : Value, v.category = 1 ∧ va_Z "jdk/internal/util/Preconditions" "SIOOBE_FORMATTER" "Ljava/util/function/BiFunction;" v (eA E) U U.heap
theorem XF.go {E : ET} {s U : State} {H : Heap} {locs : List Loc} (h : XF E s) (hU : U.heap = H) (hS : va_S (eA E) s.heap H locs) (hW : s.WarmedH U.vm) : XF E U := by
  obtain ⟨h1, h2, h3, h4, v, hv, h5⟩ := h
  refine ⟨va_Nw.warmM hW h1, fun k hk => (h2 k hk).warm hW, ?_, ?_, v, hv, ?_⟩
  · rw [hU]; exact (h3.kept hS.2.1).moved hW.alike
  · rw [hU]; exact (h4.kept hS.2.1).moved hW.alike
  · rw [hU]; exact (h5.kept hS.2.1).moved hW.alike
theorem XF.calling {E : ET} {U : State} (h : XF E U) (g : JFrame) (mk : MethodId) (a : Array Value) : XF E (U.calling g mk a) := by
  obtain ⟨h1, h2, h3, h4, v, hv, h5⟩ := h
  exact ⟨va_Nw.same rfl rfl h1, fun k hk => (h2 k hk).same rfl, vk_S.moved (u := U) (U := U.calling g mk a) (Vm.Alike.refl U.vm) h3, va_Z.moved (u := U) (U := U.calling g mk a) (Vm.Alike.refl U.vm) h4, v, hv, va_Z.moved (u := U) (U := U.calling g mk a) (Vm.Alike.refl U.vm) h5⟩
def Cq (E : ET) (s : State) : Prop := va_K (eD E) vwCl (etys E) s ∧ QD E ∧ ez E ≤ s.heap.size ∧ XF E s
theorem Cq.go {E : ET} {s U : State} {H : Heap} {locs : List Loc} (h : Cq E s) (hU : U.heap = H) (hS : va_S (eA E) s.heap H locs) (hW : s.WarmedH U.vm) : Cq E U :=
  ⟨va_K.moved hW.alike h.1, h.2.1, by rw [hU]; exact Nat.le_trans h.2.2.1 hS.1, h.2.2.2.go hU hS hW⟩
theorem Cq.calling {E : ET} {U : State} (h : Cq E U) (g : JFrame) (mk : MethodId) (a : Array Value) : Cq E (U.calling g mk a) :=
  ⟨va_K.moved (u := U) (U := U.calling g mk a) (Vm.Alike.refl U.vm) h.1, h.2.1, h.2.2.1, h.2.2.2.calling g mk a⟩
/-- the machine at a place of a method, with the pure state: it comes to Q -/
def GO (E : ET) (p : Program) (e : Env) (R : Room) (s : State) (m : MethodId) (args : Array Value) (below : List Frame) (meth : Method) (c : Code) (nL : Nat) (Q : State → Prop) (pc : Nat) (lv : LV) (st : List sv) (I : IT) (Z : ZT) : Prop :=
  ∀ (H : Heap) (locs : List Loc) (ls : Array Slot), va_P (eD E) vwCl (wsOf E I Z) H → va_S (eA E) s.heap H locs → lhas (eq E) ls nL lv → W p (eL E) e R s m args below meth c H locs R.cells R.slots Q (F0 m pc ls (st.map (toV (eq E))))
theorem uws_good {C : String} {T : u_T} {N : Nat} : ∀ w ∈ u_ws C T N, goodWord w = true := by
  intro w hw
  obtain ⟨k, -, rfl⟩ := List.mem_map.mp hw
  unfold u_lay
  split <;> rfl
theorem in_wt {ci : Nat} (h : ci < 11) : ∀ w ∈ u_ws (clT ci).1 (clT ci).2.1 (clT ci).2.2, w ∈ wt := fun w hw => wt_of (in_cl ci _ _ _ (clT_at ci h) w hw) (uws_good w hw)
theorem fs_at {q : Nat → Bool → Nat → Nat} {I : IT} {Z : ZT} {ci j : Nat} {b : Bool} (hc : ci < 11) (hj : j < (clT ci).2.2) : ((List.range (FK.getD ci []).length).map (fv q I Z ci b))[j]? = some (fv q I Z ci b j) := by
  rw [clT_len ci hc] at hj
  rw [List.getElem?_map, List.getElem?_range hj]
  rfl
theorem fs_set {q : Nat → Bool → Nat → Nat} {I I' : IT} {Z Z' : ZT} {ci j : Nat} {b : Bool} (n : Nat) (hoff : ∀ i, i ≠ j → fv q I' Z' ci b i = fv q I Z ci b i) : ((List.range n).map (fv q I Z ci b)).set j (fv q I' Z' ci b j) = (List.range n).map (fv q I' Z' ci b) := by
  apply List.ext_getElem?
  intro i
  rw [List.getElem?_set]
  by_cases hi : j = i
  · subst hi
    rw [if_pos rfl]
    by_cases hn : j < n
    · rw [if_pos (by simpa using hn), List.getElem?_map, List.getElem?_range hn]
      rfl
    · rw [if_neg (by simpa using hn), List.getElem?_map, List.getElem?_eq_none (by simpa using hn)]
      rfl
  · rw [if_neg hi, List.getElem?_map, List.getElem?_map]
    cases h : (List.range n)[i]? with
    | none => rfl
    | some z =>
      have hz : z = i := by
        obtain ⟨h1, h2⟩ := List.getElem?_eq_some_iff.mp h
        simpa using h2.symm
      subst hz
      simp [hoff z (fun e => hi e.symm)]
section GOR
variable {E : ET} {p : Program} {e : Env} {R : Room} {s : State} {m : MethodId} {args : Array Value} {below : List Frame} {meth : Method} {c : Code} {nL : Nat} {Q : State → Prop}
variable {cc : ByteArray} {own : String} {pc : Nat} {lv : LV} {st : List sv} {I : IT} {Z : ZT}
theorem GO.get (S : CallFix p m c cc nL s args wt own) (hC : Cq E s) {idx ci j : Nat} {bb : Bool} (hd : decode cc pc = .ok (.getfield idx, 3)) (hlink : Cond.fieldLink own idx ((clT ci).2.1 j).1 ((clT ci).2.1 j).2.1 ((clT ci).2.1 j).2.2.1 ∈ lw_tbl) (hc : ci < 11) (hj : j < (clT ci).2.2) (hb : ci = 5 ∨ bb = false) {v : sv} (hv : fv (eq E) I Z ci bb j = toV (eq E) v)
    (k : GO E p e R s m args below meth c nL Q (pc + 3) lv (v :: st) I Z) : GO E p e R s m args below meth c nL Q pc lv (vR ci bb 0 :: st) I Z := by
  intro H locs ls hW hS hl
  obtain ⟨i, h1, h2⟩ := ws_at (E := E) (I := I) (Z := Z) (LO_o hc hb)
  exact va_get (D := eD E) (ci := ci) (v := toV (eq E) v) (C := (clT ci).1) (T := (clT ci).2.1) (N := (clT ci).2.2) S.1 S.2.1 S.2.2.2.2 (in_wt hc) S.2.2.2.1 hC.1 hW i h2 (clT_at ci hc) j hj (S.2.2.2.2 _ (wt_of hlink rfl)) (fun _ h => h) (by rw [← hv]; exact fs_at hc hj) hd (k H locs ls hW hS hl)
theorem GO.put (S : CallFix p m c cc nL s args wt own) (hC : Cq E s) {idx ci j : Nat} {bb : Bool} {I' : IT} {Z' : ZT} {ty : FieldType} {v : sv} (hd : decode cc pc = .ok (.putfield idx, 3)) (hlink : Cond.fieldLink own idx ((clT ci).2.1 j).1 ((clT ci).2.1 j).2.1 ((clT ci).2.1 j).2.2.1 ∈ lw_tbl) (hc : ci < 11) (hj : j < (clT ci).2.2) (hb : ci = 5 ∨ bb = false)
    (hfin : ((clT ci).2.1 j).2.2.2 = false) (hty : ty_cl ci j = ty) (hn : narrow ty (toV (eq E) v) = toV (eq E) v) (hfit : fits ty (toV (eq E) v) = true)
    (hv : fv (eq E) I' Z' ci bb j = toV (eq E) v) (hoff : ∀ i, i ≠ j → fv (eq E) I' Z' ci bb i = fv (eq E) I Z ci bb i) (hcell : ∀ t' ∈ LO, t' ≠ (ci, bb, 0) → cellOf E I' Z' t' = cellOf E I Z t')
    (k : GO E p e R s m args below meth c nL Q (pc + 3) lv st I' Z') : GO E p e R s m args below meth c nL Q pc lv (v :: vR ci bb 0 :: st) I Z := by
  intro H locs ls hW hS hl
  obtain ⟨i, h1, h2⟩ := ws_at (E := E) (I := I) (Z := Z) (LO_o hc hb)
  refine va_put (D := eD E) (ci := ci) (v := toV (eq E) v) (ty := ty) (C := (clT ci).1) (T := (clT ci).2.1) (N := (clT ci).2.2) S.1 S.2.1 S.2.2.2.2 (in_wt hc) (ty_cl ci) (ty_cl_ok ci _ _ _ (clT_at ci hc)) (nm_cl ci _ _ _ (clT_at ci hc)) S.2.2.2.1 hC.1 hW (hC.2.1.D I Z) hS i h2 (clT_at ci hc) j hj (S.2.2.2.2 _ (wt_of hlink rfl)) (fun _ h => h) hfin (by rw [← hty]; exact ty_cl_ok ci _ _ _ (clT_at ci hc) j hj) hn hfit (by rw [List.length_map, List.length_range, ← clT_len ci hc]; exact hj) hd (fun H1 locs1 hP1 _ hS1 => ?_)
  have he : (wsOf E I Z).set i (ad E (ci, bb, 0), .inr (ci, ((List.range (FK.getD ci []).length).map (fv (eq E) I Z ci bb)).set j (toV (eq E) v))) = wsOf E I' Z' := by
    rw [← hv, fs_set _ hoff]
    exact ws_set (t := (ci, bb, 0)) h1 hcell
  exact k H1 locs1 ls (by rw [← he]; exact hP1) hS1 hl
theorem GO.putI (S : CallFix p m c cc nL s args wt own) (hC : Cq E s) {idx ci j : Nat} {bb : Bool} {v : Int32} (hd : decode cc pc = .ok (.putfield idx, 3)) (hlink : Cond.fieldLink own idx ((clT ci).2.1 j).1 ((clT ci).2.1 j).2.1 ((clT ci).2.1 j).2.2.1 ∈ lw_tbl) (hc : ci < 11) (hj : j < (clT ci).2.2) (hb : ci = 5 ∨ bb = false) (hk : (fk ci j).1 = 0)
    (k : GO E p e R s m args below meth c nL Q (pc + 3) lv st (up I ci bb 0 j v) Z) : GO E p e R s m args below meth c nL Q pc lv (vI v :: vR ci bb 0 :: st) I Z := by
  obtain ⟨hty, hfin⟩ := kind0_ty ci hc j hj hk
  have hk2 : fk ci j = (0, (fk ci j).2) := by rw [← hk]
  refine GO.put (ty := .int) (v := vI v) S hC hd hlink hc hj hb hfin hty rfl rfl ?_ ?_ ?_ k
  · unfold fv
    rw [hk2]
    show Value.int (up I ci bb 0 j v ci bb 0 j) = .int v
    simp [up]
  · intro i hi
    unfold fv
    split
    · rw [show up I ci bb 0 j v ci bb 0 i = I ci bb 0 i by simp [up, hi]]
    · rfl
  · intro t' _ ht
    exact cell_I (up_off ht)
theorem GO.putZ (S : CallFix p m c cc nL s args wt own) (hC : Cq E s) {idx ci j : Nat} {Z' : ZT} {c3 : Nat} {b3 : Bool} {p3 : Nat} {ty : FieldType} (hd : decode cc pc = .ok (.putfield idx, 3)) (hlink : Cond.fieldLink own idx ((clT ci).2.1 j).1 ((clT ci).2.1 j).2.1 ((clT ci).2.1 j).2.2.1 ∈ lw_tbl) (hc : ci < 11) (hj : j < (clT ci).2.2)
    (hfin : ((clT ci).2.1 j).2.2.2 = false) (hty : ty_cl ci j = ty) (hrt : (∃ n, ty = .object n) ∨ ∃ t, ty = .array t)
    (hv : fv (eq E) I Z' ci false j = .ref (eq E c3 b3 p3)) (hoff : ∀ i, i ≠ j → fv (eq E) I Z' ci false i = fv (eq E) I Z ci false i) (hcell : ∀ t' ∈ LO, t' ≠ (ci, false, 0) → cellOf E I Z' t' = cellOf E I Z t')
    (k : GO E p e R s m args below meth c nL Q (pc + 3) lv st I Z') : GO E p e R s m args below meth c nL Q pc lv (vR c3 b3 p3 :: vR ci false 0 :: st) I Z := by
  refine GO.put (ty := ty) (v := vR c3 b3 p3) S hC hd hlink hc hj (Or.inr rfl) hfin hty ?_ ?_ hv hoff hcell k
  · rcases hrt with ⟨n, rfl⟩ | ⟨t, rfl⟩ <;> rfl
  · rcases hrt with ⟨n, rfl⟩ | ⟨t, rfl⟩ <;> rfl
theorem GO.cellA {ci j n kd : Nat} {bb : Bool} (hk : fk ci j = (kd, n)) (hkd : kd = 1 ∨ kd = 2 ∨ kd = 3) (hb : ci = 5 ∨ bb = false) : ∃ i : Nat, LO[i]? = some (ci, bb, j + 1) ∧ (wsOf E I Z)[i]? = some (eq E ci bb (j + 1), .inl (kcls E kd, n, .inl (I ci bb (j + 1)))) := by
  obtain ⟨i, h1, h2⟩ := ws_at (E := E) (I := I) (Z := Z) (LO_a (ci := ci) (j := j) (bb := bb) (by rw [hk]; exact hkd) hb)
  refine ⟨i, h1, ?_⟩
  rw [h2]
  simp only [cellOf, hk]
theorem GO.setA {ci j n kd i : Nat} {bb : Bool} (hk : fk ci j = (kd, n)) (h1 : LO[i]? = some (ci, bb, j + 1)) (x : Nat) (v : Int32) : (wsOf E I Z).set i (eq E ci bb (j + 1), .inl (kcls E kd, n, .inl (upd (I ci bb (j + 1)) x v))) = wsOf E (up I ci bb (j + 1) x v) Z := by
  rw [← ws_set (I' := up I ci bb (j + 1) x v) (Z' := Z) h1 (fun t' _ ht => cell_I (up_off ht))]
  simp only [cellOf, hk, up_at]
theorem GO.iald (S : CallFix p m c cc nL s args wt own) (hC : Cq E s) {ci j n : Nat} {bb : Bool} {x : Int32} (hd : decode cc pc = .ok (.iaload, 1)) (hk : fk ci j = (1, n)) (hb : ci = 5 ∨ bb = false) (hx : vb x n = true)
    (k : GO E p e R s m args below meth c nL Q (pc + 1) lv (vI (I ci bb (j + 1) x.toNatClampNeg) :: st) I Z) : GO E p e R s m args below meth c nL Q pc lv (vI x :: vR ci bb (j + 1) :: st) I Z := by
  intro H locs ls hW hS hl
  obtain ⟨i, h1, h2⟩ := GO.cellA (E := E) (I := I) (Z := Z) hk (by decide) hb
  exact va_iald S.1 S.2.1 hC.1 hW i 1 h2 rfl (vb_in hx) hd (k H locs ls hW hS hl)
theorem GO.bald (S : CallFix p m c cc nL s args wt own) (hC : Cq E s) {ci j n : Nat} {bb : Bool} {x : Int32} (hd : decode cc pc = .ok (.baload, 1)) (hk : fk ci j = (2, n)) (hb : ci = 5 ∨ bb = false) (hx : vb x n = true)
    (k : GO E p e R s m args below meth c nL Q (pc + 1) lv (vI (I ci bb (j + 1) x.toNatClampNeg) :: st) I Z) : GO E p e R s m args below meth c nL Q pc lv (vI x :: vR ci bb (j + 1) :: st) I Z := by
  intro H locs ls hW hS hl
  obtain ⟨i, h1, h2⟩ := GO.cellA (E := E) (I := I) (Z := Z) hk (by decide) hb
  exact va_bald S.1 S.2.1 hC.1 hW i 0 h2 rfl (vb_in hx) hd (k H locs ls hW hS hl)
theorem GO.zald (S : CallFix p m c cc nL s args wt own) (hC : Cq E s) {ci j n : Nat} {bb : Bool} {x : Int32} (hd : decode cc pc = .ok (.baload, 1)) (hk : fk ci j = (3, n)) (hb : ci = 5 ∨ bb = false) (hx : vb x n = true)
    (k : GO E p e R s m args below meth c nL Q (pc + 1) lv (vI (I ci bb (j + 1) x.toNatClampNeg) :: st) I Z) : GO E p e R s m args below meth c nL Q pc lv (vI x :: vR ci bb (j + 1) :: st) I Z := by
  intro H locs ls hW hS hl
  obtain ⟨i, h1, h2⟩ := GO.cellA (E := E) (I := I) (Z := Z) hk (by decide) hb
  exact va_zald S.1 S.2.1 hC.1 hW i 2 h2 rfl (vb_in hx) hd (k H locs ls hW hS hl)
theorem GO.iast (S : CallFix p m c cc nL s args wt own) (hC : Cq E s) {ci j n : Nat} {bb : Bool} {x v : Int32} (hd : decode cc pc = .ok (.iastore, 1)) (hk : fk ci j = (1, n)) (hb : ci = 5 ∨ bb = false) (hx : vb x n = true)
    (k : GO E p e R s m args below meth c nL Q (pc + 1) lv st (up I ci bb (j + 1) x.toNatClampNeg v) Z) : GO E p e R s m args below meth c nL Q pc lv (vI v :: vI x :: vR ci bb (j + 1) :: st) I Z := by
  intro H locs ls hW hS hl
  obtain ⟨i, h1, h2⟩ := GO.cellA (E := E) (I := I) (Z := Z) hk (by decide) hb
  refine va_iast S.1 S.2.1 hC.1 hW (hC.2.1.D I Z) hS i 1 h2 rfl (vb_in hx) hd (fun H1 locs1 hP1 _ hS1 => ?_)
  exact k H1 locs1 ls (by rw [← GO.setA hk h1]; exact hP1) hS1 hl
theorem GO.bast (S : CallFix p m c cc nL s args wt own) (hC : Cq E s) {ci j n : Nat} {bb : Bool} {x v : Int32} (hd : decode cc pc = .ok (.bastore, 1)) (hk : fk ci j = (2, n)) (hb : ci = 5 ∨ bb = false) (hx : vb x n = true)
    (k : GO E p e R s m args below meth c nL Q (pc + 1) lv st (up I ci bb (j + 1) x.toNatClampNeg (nB v)) Z) : GO E p e R s m args below meth c nL Q pc lv (vI v :: vI x :: vR ci bb (j + 1) :: st) I Z := by
  intro H locs ls hW hS hl
  obtain ⟨i, h1, h2⟩ := GO.cellA (E := E) (I := I) (Z := Z) hk (by decide) hb
  refine va_bast S.1 S.2.1 hC.1 hW (hC.2.1.D I Z) hS i 0 h2 rfl (vb_in hx) hd (fun H1 locs1 hP1 _ hS1 => ?_)
  exact k H1 locs1 ls (by rw [← GO.setA hk h1]; exact hP1) hS1 hl
theorem GO.zast (S : CallFix p m c cc nL s args wt own) (hC : Cq E s) {ci j n : Nat} {bb : Bool} {x v : Int32} (hd : decode cc pc = .ok (.bastore, 1)) (hk : fk ci j = (3, n)) (hb : ci = 5 ∨ bb = false) (hx : vb x n = true)
    (k : GO E p e R s m args below meth c nL Q (pc + 1) lv st (up I ci bb (j + 1) x.toNatClampNeg (nZ v)) Z) : GO E p e R s m args below meth c nL Q pc lv (vI v :: vI x :: vR ci bb (j + 1) :: st) I Z := by
  intro H locs ls hW hS hl
  obtain ⟨i, h1, h2⟩ := GO.cellA (E := E) (I := I) (Z := Z) hk (by decide) hb
  refine va_zast S.1 S.2.1 hC.1 hW (hC.2.1.D I Z) hS i 2 h2 rfl (vb_in hx) hd (fun H1 locs1 hP1 _ hS1 => ?_)
  exact k H1 locs1 ls (by rw [← GO.setA hk h1]; exact hP1) hS1 hl
theorem GO.alen (S : CallFix p m c cc nL s args wt own) (hC : Cq E s) {ci j n kd : Nat} {bb : Bool} {x : Int32} (hd : decode cc pc = .ok (.arraylength, 1)) (hk : fk ci j = (kd, n)) (hkd : kd = 1 ∨ kd = 2 ∨ kd = 3) (hb : ci = 5 ∨ bb = false) (hx : Int32.ofNat n = x)
    (k : GO E p e R s m args below meth c nL Q (pc + 1) lv (vI x :: st) I Z) : GO E p e R s m args below meth c nL Q pc lv (vR ci bb (j + 1) :: st) I Z := by
  intro H locs ls hW hS hl
  obtain ⟨i, h1, h2⟩ := GO.cellA (E := E) (I := I) (Z := Z) hk hkd hb
  rcases hkd with rfl | rfl | rfl
  · exact va_alen S.1 S.2.1 hC.1 hW i 1 h2 rfl hx hd (k H locs ls hW hS hl)
  · exact va_alen S.1 S.2.1 hC.1 hW i 0 h2 rfl hx hd (k H locs ls hW hS hl)
  · exact va_alen S.1 S.2.1 hC.1 hW i 2 h2 rfl hx hd (k H locs ls hW hS hl)
theorem GO.ldcS (S : CallFix p m c cc nL s args wt RX3) (hC : Cq E s) {k : Nat} (hk : k < 9) (hd : decode cc pc = .ok (.ldc (sidx k), 2))
    (kk : GO E p e R s m args below meth c nL Q (pc + 2) lv (vR 20 false k :: st) I Z) : GO E p e R s m args below meth c nL Q pc lv st I Z := by
  intro H locs ls hW hS hl
  exact va_ldcS S.1 S.2.1 S.2.2.2.1 (hC.2.2.2.2.1 k hk) hd (kk H locs ls hW hS hl)
theorem GO.wk {lvT : LV} (mm : List Bool) (hm : mk mm lv = lvT) (hn : lvT.length = lv.length) (k : GO E p e R s m args below meth c nL Q pc lvT st I Z) : GO E p e R s m args below meth c nL Q pc lv st I Z :=
  fun H locs ls hW hS hl => k H locs ls hW hS (hl.mk mm hm hn)
end GOR
