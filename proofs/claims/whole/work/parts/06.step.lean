/-! which instruction an op stands for, checked by the kernel once a block -/
def okop (oc : Nat) (ins : Instr) (a b k n : Nat) (x : Int32) (y : Int64) : Bool := match ins with
  | .iconst i => decide (Int32.ofInt i = x)
  | .bipush i => decide ((Int8.ofInt i).toInt32 = x)
  | .sipush i => decide ((Int16.ofInt i).toInt32 = x)
  | .ldc i => (match k with
    | 0 => decide (Cond.constant (ownN oc) i x ∈ lw_tbl)
    | _ => decide (oc = 3 ∧ a < 9 ∧ sidx a = i))
  | .ldc_w i => decide (Cond.constant (ownN oc) i x ∈ lw_tbl)
  | .lconst i => decide (Int64.ofNat (i : Nat) = y)
  | .ldc2_w i => decide (Cond.constantLong (ownN oc) i y ∈ lw_tbl)
  | .iload i => decide (i = a)
  | .iload_n i => decide ((i : Nat) = a)
  | .lload i => decide (i = a)
  | .lload_n i => decide ((i : Nat) = a)
  | .aload i => decide (i = a)
  | .aload_n i => decide ((i : Nat) = a)
  | .istore i => decide (i = a)
  | .istore_n i => decide ((i : Nat) = a)
  | .lstore i => decide (i = a)
  | .astore_n i => decide ((i : Nat) = a)
  | .iinc i d => decide (i = a ∧ Int32.ofInt d = x)
  | .getfield i => fltab.contains (oc, i, a, b) && decide (fk a b = (k, n))
  | .putfield i => fltab.contains (oc, i, a, b) && decide (fk a b = (k, n))
  | .iaload => decide (b ≠ 0 ∧ fk a (b - 1) = (1, n))
  | .iastore => decide (b ≠ 0 ∧ fk a (b - 1) = (1, n))
  | .baload => decide (b ≠ 0 ∧ fk a (b - 1) = (k, n) ∧ (k = 2 ∨ k = 3))
  | .bastore => decide (b ≠ 0 ∧ fk a (b - 1) = (k, n) ∧ (k = 2 ∨ k = 3))
  | .arraylength => decide (b ≠ 0 ∧ fk a (b - 1) = (k, n) ∧ (k = 1 ∨ k = 2 ∨ k = 3) ∧ Int32.ofNat n = x)
  | _ => true
def ilen : Instr → Nat
  | .bipush _ | .ldc _ | .iload _ | .lload _ | .aload _ | .istore _ | .lstore _ => 2
  | .sipush _ | .ldc_w _ | .ldc2_w _ | .iinc _ _ | .getfield _ | .putfield _ => 3
  | _ => 1
def dcd (oc : Nat) (cc : ByteArray) : Nat → List op → Nat → Instr → Nat → Bool
  | pc, [], pe, la, ln => decide (pc = pe ∧ decode cc pe = .ok (la, ln))
  | pc, (ins, len, (a, b, k, n), x, y) :: os, pe, la, ln => decide (decode cc pc = .ok (ins, len) ∧ len = ilen ins) && (okop oc ins a b k n x y && dcd oc cc (pc + len) os pe la ln)
theorem sBin_inv {f : Int32 → Int32 → Int32} {lv : LV} {st : List sv} {I : IT} {Z : ZT} {gs : List Bool} {lv' : LV} {st' : List sv} {I' : IT} {Z' : ZT} (h : sBin f lv st I Z = some (gs, lv', st', I', Z')) : ∃ x y r, st = vI y :: vI x :: r ∧ gs = [] ∧ lv' = lv ∧ st' = vI (f x y) :: r ∧ I' = I ∧ Z' = Z := by
  unfold sBin at h
  split at h
  · cases h; exact ⟨_, _, _, rfl, rfl, rfl, rfl, rfl, rfl⟩
  · cases h
theorem sDiv_inv {f : Int32 → Int32 → Int32} {lv : LV} {st : List sv} {I : IT} {Z : ZT} {gs : List Bool} {lv' : LV} {st' : List sv} {I' : IT} {Z' : ZT} (h : sDiv f lv st I Z = some (gs, lv', st', I', Z')) : ∃ x y r, st = vI y :: vI x :: r ∧ gs = [nz y] ∧ lv' = lv ∧ st' = vI (f x y) :: r ∧ I' = I ∧ Z' = Z := by
  unfold sDiv at h
  split at h
  · cases h; exact ⟨_, _, _, rfl, rfl, rfl, rfl, rfl, rfl⟩
  · cases h
theorem sUn_inv {f : Int32 → Int32} {lv : LV} {st : List sv} {I : IT} {Z : ZT} {gs : List Bool} {lv' : LV} {st' : List sv} {I' : IT} {Z' : ZT} (h : sUn f lv st I Z = some (gs, lv', st', I', Z')) : ∃ x r, st = vI x :: r ∧ gs = [] ∧ lv' = lv ∧ st' = vI (f x) :: r ∧ I' = I ∧ Z' = Z := by
  unfold sUn at h
  split at h
  · cases h; exact ⟨_, _, rfl, rfl, rfl, rfl, rfl, rfl⟩
  · cases h
theorem sBinL_inv {f : Int64 → Int64 → Int64} {lv : LV} {st : List sv} {I : IT} {Z : ZT} {gs : List Bool} {lv' : LV} {st' : List sv} {I' : IT} {Z' : ZT} (h : sBinL f lv st I Z = some (gs, lv', st', I', Z')) : ∃ x y r, st = vL y :: vL x :: r ∧ gs = [] ∧ lv' = lv ∧ st' = vL (f x y) :: r ∧ I' = I ∧ Z' = Z := by
  unfold sBinL at h
  split at h
  · cases h; exact ⟨_, _, _, rfl, rfl, rfl, rfl, rfl, rfl⟩
  · cases h
section GOS
variable {E : ET} {p : Program} {e : Env} {R : Room} {s : State} {m : MethodId} {args : Array Value} {below : List Frame} {meth : Method} {c : Code} {nL : Nat} {Q : State → Prop}
variable {cc : ByteArray} {own : String} {pc : Nat} {lv lv' : LV} {st st' : List sv} {I I' : IT} {Z Z' : ZT} {gs : List Bool}
theorem GO.st1 (S : CallFix p m c cc nL s args wt own) {i : Nat} {v : sv} {lv1 : LV} {r : List sv} {pc2 : Nat} (hl1 : lst1 lv i v = some lv1)
    (row : ∀ (H : Heap) (locs : List Loc) (ls : Array Slot) (l : List (Nat × Value)), lv_has ls nL l → i < nL → (∀ ls' : Array Slot, lv_has ls' nL ((i, toV (eq E) v) :: l.filter (fun q => !(q.1 == i) && !(q.1 + 1 == i && q.2.category == 2))) → W p (eL E) e R s m args below meth c H locs R.cells R.slots Q (F0 m pc2 ls' (r.map (toV (eq E))))) → W p (eL E) e R s m args below meth c H locs R.cells R.slots Q (F0 m pc ls (st.map (toV (eq E)))))
    (k : GO E p e R s m args below meth c nL Q pc2 lv1 r I Z) : GO E p e R s m args below meth c nL Q pc lv st I Z := by
  obtain ⟨h1, h2, rfl⟩ := lst1_inv hl1
  intro H locs ls hW hS hl
  obtain ⟨hn, l, hl0, hl2⟩ := hl
  exact row H locs ls l hl0 (by rw [← hn]; exact h1) (fun ls' h' => k H locs ls' hW hS (lhas.st1 (ls := ls) hn h1 hl2 h2 h'))
theorem fk_k5 : ∀ ci, ci < 11 → ∀ j, j < 47 → (fk ci j).1 = 5 → ci = 3 ∧ j = 0 := by decide +kernel
theorem fk_k6 : ∀ ci, ci < 11 → ∀ j, j < 47 → (fk ci j).1 = 6 → ci = 3 ∧ j = 1 := by decide +kernel
theorem fk_k8 : ∀ ci, ci < 11 → ∀ j, j < 47 → (fk ci j).1 = 8 → ci = 9 ∧ j = 8 := by decide +kernel
theorem fk_k9 : ∀ ci, ci < 11 → ∀ j, j < 47 → (fk ci j).1 = 9 → ci = 9 ∧ j = 9 := by decide +kernel
theorem fk_ne (c : Nat) {i j kd : Nat} (hone : ∀ ci, ci < 11 → ∀ j, j < 47 → (fk ci j).1 = kd → ci = c ∧ j = i) (h0 : kd ≠ 0) (hj : j ≠ i) : (fk c j).1 ≠ kd := fun e => hj (hone c (fk_cl e h0).1 j (fk_cl e h0).2 e).2
theorem fv_5 {q : Nat → Bool → Nat → Nat} {I : IT} {Z : ZT} {ci i : Nat} {x : Bool} (h : (fk ci i).1 ≠ 5) : fv q I (Z.1, Z.2.1, x, Z.2.2.2) ci false i = fv q I Z ci false i := by
  unfold fv
  split
  · rfl
  · next k n hk =>
    have h5 : k + 1 ≠ 5 := fun e => h (by rw [hk]; exact e)
    have he : fRef ci i (k + 1) n false (Z.1, Z.2.1, x, Z.2.2.2) = fRef ci i (k + 1) n false Z := by
      unfold fRef
      split <;> first | rfl | exact absurd ‹_› h5
    rw [he]
theorem fv_6 {q : Nat → Bool → Nat → Nat} {I : IT} {Z : ZT} {ci i : Nat} {x : Option Bool} (h : (fk ci i).1 ≠ 6) : fv q I (Z.1, Z.2.1, Z.2.2.1, x) ci false i = fv q I Z ci false i := by
  unfold fv
  split
  · rfl
  · next k n hk =>
    have h5 : k + 1 ≠ 6 := fun e => h (by rw [hk]; exact e)
    have he : fRef ci i (k + 1) n false (Z.1, Z.2.1, Z.2.2.1, x) = fRef ci i (k + 1) n false Z := by
      unfold fRef
      split <;> first | rfl | exact absurd ‹_› h5
    rw [he]
theorem fv_8 {q : Nat → Bool → Nat → Nat} {I : IT} {Z : ZT} {ci i : Nat} {x : Bool} (h : (fk ci i).1 ≠ 8) : fv q I (x, Z.2.1, Z.2.2.1, Z.2.2.2) ci false i = fv q I Z ci false i := by
  unfold fv
  split
  · rfl
  · next k n hk =>
    have h5 : k + 1 ≠ 8 := fun e => h (by rw [hk]; exact e)
    have he : fRef ci i (k + 1) n false (x, Z.2.1, Z.2.2.1, Z.2.2.2) = fRef ci i (k + 1) n false Z := by
      unfold fRef
      split <;> first | rfl | exact absurd ‹_› h5
    rw [he]
theorem fv_9 {q : Nat → Bool → Nat → Nat} {I : IT} {Z : ZT} {ci i : Nat} {x : Bool} (h : (fk ci i).1 ≠ 9) : fv q I (Z.1, x, Z.2.2.1, Z.2.2.2) ci false i = fv q I Z ci false i := by
  unfold fv
  split
  · rfl
  · next k n hk =>
    have h5 : k + 1 ≠ 9 := fun e => h (by rw [hk]; exact e)
    have he : fRef ci i (k + 1) n false (Z.1, x, Z.2.2.1, Z.2.2.2) = fRef ci i (k + 1) n false Z := by
      unfold fRef
      split <;> first | rfl | exact absurd ‹_› h5
    rw [he]
theorem off3 {t' : Nat × Bool × Nat} (hL : t' ∈ LO) {c : Nat} (hc : c ≠ 5) (hne : t' ≠ (c, false, 0)) : t'.1 ≠ c ∨ t'.2.2 ≠ 0 := by
  by_cases h1 : t'.1 = c
  · right
    intro h2
    have h3 := (LO_lt t' hL).2 (by rw [h1]; exact hc)
    exact hne (by obtain ⟨a, b, d⟩ := t'; simp only at h1 h2 h3; rw [h1, h2, h3])
  · exact Or.inl h1
theorem putf_ok {oc i : Nat} {a b k n : Nat} {x : Int32} {y : Int64} (S : CallFix p m c cc nL s args wt (ownN oc)) (hC : Cq E s) (hd : decode cc pc = .ok (.putfield i, 3)) (ho : okop oc (.putfield i) a b k n x y = true) (h : stp (.putfield i, 3, (a, b, k, n), x, y) lv st I Z = some (gs, lv', st', I', Z'))
    (kk : GO E p e R s m args below meth c nL Q (pc + 3) lv' st' I' Z') : GO E p e R s m args below meth c nL Q pc lv st I Z := by
  simp only [okop, Bool.and_eq_true, decide_eq_true_eq, List.contains_iff_mem] at ho
  obtain ⟨ho1, ho2⟩ := ho
  have hlt := fl_lt _ ho1
  have hl := fl_ok _ ho1
  simp only [stp, sPut] at h
  split at h
  · split at h
    · split at h
      · next hr =>
        obtain ⟨rfl, rfl, hb⟩ := rf_LO hr
        cases h
        exact GO.putI S hC hd hl hlt.1 hlt.2 hb (by rw [ho2]) kk
      · cases h
    · cases h
  · split at h
    · split at h
      · next hr =>
        obtain ⟨rfl, rfl, hb⟩ := rf_LO hr
        cases h
        have hk : (fk _ b).1 = 5 := congrArg Prod.fst ho2
        obtain ⟨rfl, rfl⟩ := fk_k5 _ hlt.1 b (fk_cl hk (by decide)).2 hk
        have hbb : _ = false := hb.resolve_left (by decide)
        subst hbb
        exact GO.putZ S hC hd hl hlt.1 hlt.2 rfl (ty := .array .byte) rfl (Or.inr ⟨_, rfl⟩) rfl (fun j hj => fv_5 (fk_ne 3 fk_k5 (by decide) hj)) (fun t' hL ht => cell_Z3 (off3 hL (by decide) ht)) kk
      · cases h
    · cases h
  · split at h
    · split at h
      · next hr =>
        obtain ⟨rfl, rfl, hb⟩ := rf_LO hr
        cases h
        have hk : (fk _ b).1 = 6 := congrArg Prod.fst ho2
        obtain ⟨rfl, rfl⟩ := fk_k6 _ hlt.1 b (fk_cl hk (by decide)).2 hk
        have hbb : _ = false := hb.resolve_left (by decide)
        subst hbb
        exact GO.putZ S hC hd hl hlt.1 hlt.2 rfl (ty := .object RX5) rfl (Or.inl ⟨_, rfl⟩) rfl (fun j hj => fv_6 (fk_ne 3 fk_k6 (by decide) hj)) (fun t' hL ht => cell_Z3 (off3 hL (by decide) ht)) kk
      · cases h
    · cases h
  · split at h
    · split at h
      · next hr =>
        obtain ⟨rfl, rfl, hb⟩ := rf_LO hr
        cases h
        have hk : (fk _ b).1 = 8 := congrArg Prod.fst ho2
        obtain ⟨rfl, rfl⟩ := fk_k8 _ hlt.1 b (fk_cl hk (by decide)).2 hk
        have hbb : _ = false := hb.resolve_left (by decide)
        subst hbb
        exact GO.putZ S hC hd hl hlt.1 hlt.2 rfl (ty := .object RX5) rfl (Or.inl ⟨_, rfl⟩) rfl (fun j hj => fv_8 (fk_ne 9 fk_k8 (by decide) hj)) (fun t' hL ht => cell_Z9 (off3 hL (by decide) ht)) kk
      · cases h
    · cases h
  · split at h
    · split at h
      · next hr =>
        obtain ⟨rfl, rfl, hb⟩ := rf_LO hr
        cases h
        have hk : (fk _ b).1 = 9 := congrArg Prod.fst ho2
        obtain ⟨rfl, rfl⟩ := fk_k9 _ hlt.1 b (fk_cl hk (by decide)).2 hk
        have hbb : _ = false := hb.resolve_left (by decide)
        subst hbb
        exact GO.putZ S hC hd hl hlt.1 hlt.2 rfl (ty := .object RX5) rfl (Or.inl ⟨_, rfl⟩) rfl (fun j hj => fv_9 (fk_ne 9 fk_k9 (by decide) hj)) (fun t' hL ht => cell_Z9 (off3 hL (by decide) ht)) kk
      · cases h
    · cases h
  · cases h
theorem stp_ok {oc : Nat} {ins : Instr} {len a b k n : Nat} {x : Int32} {y : Int64} (S : CallFix p m c cc nL s args wt (ownN oc)) (hC : Cq E s) (hd : decode cc pc = .ok (ins, len)) (hlen : len = ilen ins) (ho : okop oc ins a b k n x y = true) (h : stp (ins, len, (a, b, k, n), x, y) lv st I Z = some (gs, lv', st', I', Z')) (hg : ∀ g ∈ gs, g = true)
    (kk : GO E p e R s m args below meth c nL Q (pc + len) lv' st' I' Z') : GO E p e R s m args below meth c nL Q pc lv st I Z := by
  subst hlen
  cases ins
  case iconst i =>
    simp only [stp] at h
    simp only [okop, decide_eq_true_eq] at ho
    cases h
    intro H locs ls hW hS hl
    exact lv_iconst S.1 S.2.1 hd ho (kk H locs ls hW hS hl)
  case bipush i =>
    simp only [stp] at h
    simp only [okop, decide_eq_true_eq] at ho
    cases h
    intro H locs ls hW hS hl
    exact lv_bipush S.1 S.2.1 hd ho (kk H locs ls hW hS hl)
  case sipush i =>
    simp only [stp] at h
    simp only [okop, decide_eq_true_eq] at ho
    cases h
    intro H locs ls hW hS hl
    exact lv_sipush S.1 S.2.1 hd ho (kk H locs ls hW hS hl)
  case lconst i =>
    simp only [stp] at h
    simp only [okop, decide_eq_true_eq] at ho
    cases h
    intro H locs ls hW hS hl
    exact lv_lconst S.1 S.2.1 hd ho (kk H locs ls hW hS hl)
  case ldc_w i =>
    simp only [stp] at h
    simp only [okop, decide_eq_true_eq] at ho
    cases h
    intro H locs ls hW hS hl
    exact lv_ldcw S.1 S.2.1 S.2.2.2.1 (S.2.2.2.2 _ (wt_of ho rfl)) hd (kk H locs ls hW hS hl)
  case ldc2_w i =>
    simp only [stp] at h
    simp only [okop, decide_eq_true_eq] at ho
    cases h
    intro H locs ls hW hS hl
    exact lv_ldc2 S.1 S.2.1 S.2.2.2.1 (S.2.2.2.2 _ (wt_of ho rfl)) hd (kk H locs ls hW hS hl)
  case ldc i =>
    cases k with
    | zero =>
      simp only [stp] at h
      simp only [okop, decide_eq_true_eq] at ho
      cases h
      intro H locs ls hW hS hl
      exact lv_ldc S.1 S.2.1 S.2.2.2.1 (S.2.2.2.2 _ (wt_of ho rfl)) hd (kk H locs ls hW hS hl)
    | succ k =>
      simp only [stp] at h
      simp only [okop, decide_eq_true_eq] at ho
      obtain ⟨rfl, h9, rfl⟩ := ho
      cases h
      exact GO.ldcS S hC h9 hd kk
  case iload i =>
    simp only [stp, sLdI] at h
    simp only [okop, decide_eq_true_eq] at ho
    subst ho
    split at h
    · next z hz =>
      cases h
      intro H locs ls hW hS hl
      exact lv_iload S.1 S.2.1 hd (hl.at hz) (kk H locs ls hW hS hl)
    · cases h
  case iload_n i =>
    simp only [stp, sLdI] at h
    simp only [okop, decide_eq_true_eq] at ho
    subst ho
    split at h
    · next z hz =>
      cases h
      intro H locs ls hW hS hl
      exact lv_iload_n S.1 S.2.1 hd rfl (hl.at hz) (kk H locs ls hW hS hl)
    · cases h
  case lload i =>
    simp only [stp, sLdL] at h
    simp only [okop, decide_eq_true_eq] at ho
    subst ho
    split at h
    · next z hz =>
      cases h
      intro H locs ls hW hS hl
      exact lv_lload S.1 S.2.1 hd (hl.at hz) (kk H locs ls hW hS hl)
    · cases h
  case lload_n i =>
    simp only [stp, sLdL] at h
    simp only [okop, decide_eq_true_eq] at ho
    subst ho
    split at h
    · next z hz =>
      cases h
      intro H locs ls hW hS hl
      exact lv_lload_n S.1 S.2.1 hd rfl (hl.at hz) (kk H locs ls hW hS hl)
    · cases h
  case aload i =>
    simp only [stp, sLdA] at h
    simp only [okop, decide_eq_true_eq] at ho
    subst ho
    split at h
    · next z hz =>
      cases h
      intro H locs ls hW hS hl
      exact lv_aload S.1 S.2.1 hd (hl.at hz) (kk H locs ls hW hS hl)
    · cases h
  case aload_n i =>
    simp only [stp, sLdA] at h
    simp only [okop, decide_eq_true_eq] at ho
    subst ho
    split at h
    · next z hz =>
      cases h
      intro H locs ls hW hS hl
      exact lv_aload_n S.1 S.2.1 hd rfl (hl.at hz) (kk H locs ls hW hS hl)
    · cases h
  case istore i =>
    simp only [stp, sStI] at h
    simp only [okop, decide_eq_true_eq] at ho
    subst ho
    split at h
    · split at h
      · next hl1 =>
        cases h
        exact GO.st1 S hl1 (fun H locs ls l h1 h2 k2 => lv_istore S.1 S.2.1 hd h1 h2 rfl k2) kk
      · cases h
    · cases h
  case istore_n i =>
    simp only [stp, sStI] at h
    simp only [okop, decide_eq_true_eq] at ho
    subst ho
    split at h
    · split at h
      · next hl1 =>
        cases h
        exact GO.st1 S hl1 (fun H locs ls l h1 h2 k2 => lv_istore_n S.1 S.2.1 hd rfl h1 h2 rfl k2) kk
      · cases h
    · cases h
  case astore_n i =>
    simp only [stp, sStA] at h
    simp only [okop, decide_eq_true_eq] at ho
    subst ho
    split at h
    · split at h
      · next hl1 =>
        cases h
        exact GO.st1 S hl1 (fun H locs ls l h1 h2 k2 => lv_astore_n S.1 S.2.1 hd rfl h1 h2 rfl k2) kk
      · cases h
    · cases h
  case lstore i =>
    simp only [stp, sStL] at h
    simp only [okop, decide_eq_true_eq] at ho
    subst ho
    split at h
    · split at h
      · next hl1 =>
        cases h
        obtain ⟨h1, h2, rfl⟩ := lst2_inv hl1
        intro H locs ls hW hS hl
        obtain ⟨hn, l, hl0, hl2⟩ := hl
        exact lv_lstore S.1 S.2.1 hd hl0 (by rw [← hn]; exact h1) rfl (fun ls' h' => kk H locs ls' hW hS (lhas.st2 (ls := ls) hn h1 hl2 h2 h'))
      · cases h
    · cases h
  case iinc i d =>
    simp only [stp, sInc] at h
    simp only [okop, decide_eq_true_eq] at ho
    obtain ⟨rfl, rfl⟩ := ho
    split at h
    · next z hz =>
      split at h
      · next hl1 =>
        cases h
        obtain ⟨h1, h2, rfl⟩ := lst1_inv hl1
        intro H locs ls hW hS hl
        obtain ⟨hn, l, hl0, hl2⟩ := hl
        obtain ⟨j, hj⟩ := List.getElem?_of_mem (hl2 _ _ hz)
        exact lv_iinc S.1 S.2.1 hd hl0 hj rfl (by rw [← hn]; exact h1) rfl (fun ls' h' => kk H locs ls' hW hS (lhas.st1 (ls := ls) (v := vI _) hn h1 hl2 h2 h'))
      · cases h
    · cases h
  case iadd =>
    simp only [stp] at h
    obtain ⟨x1, y1, r, rfl, rfl, rfl, rfl, rfl, rfl⟩ := sBin_inv h
    intro H locs ls hW hS hl
    exact lv_iadd S.1 S.2.1 hd (kk H locs ls hW hS hl)
  case isub =>
    simp only [stp] at h
    obtain ⟨x1, y1, r, rfl, rfl, rfl, rfl, rfl, rfl⟩ := sBin_inv h
    intro H locs ls hW hS hl
    exact lv_isub S.1 S.2.1 hd (kk H locs ls hW hS hl)
  case imul =>
    simp only [stp] at h
    obtain ⟨x1, y1, r, rfl, rfl, rfl, rfl, rfl, rfl⟩ := sBin_inv h
    intro H locs ls hW hS hl
    exact lv_imul S.1 S.2.1 hd (kk H locs ls hW hS hl)
  case iand =>
    simp only [stp] at h
    obtain ⟨x1, y1, r, rfl, rfl, rfl, rfl, rfl, rfl⟩ := sBin_inv h
    intro H locs ls hW hS hl
    exact lv_iand S.1 S.2.1 hd (kk H locs ls hW hS hl)
  case ior =>
    simp only [stp] at h
    obtain ⟨x1, y1, r, rfl, rfl, rfl, rfl, rfl, rfl⟩ := sBin_inv h
    intro H locs ls hW hS hl
    exact lv_ior S.1 S.2.1 hd (kk H locs ls hW hS hl)
  case ixor =>
    simp only [stp] at h
    obtain ⟨x1, y1, r, rfl, rfl, rfl, rfl, rfl, rfl⟩ := sBin_inv h
    intro H locs ls hW hS hl
    exact lv_ixor S.1 S.2.1 hd (kk H locs ls hW hS hl)
  case ishl =>
    simp only [stp] at h
    obtain ⟨x1, y1, r, rfl, rfl, rfl, rfl, rfl, rfl⟩ := sBin_inv h
    intro H locs ls hW hS hl
    exact lv_ishl S.1 S.2.1 hd (kk H locs ls hW hS hl)
  case ishr =>
    simp only [stp] at h
    obtain ⟨x1, y1, r, rfl, rfl, rfl, rfl, rfl, rfl⟩ := sBin_inv h
    intro H locs ls hW hS hl
    exact lv_ishr S.1 S.2.1 hd (kk H locs ls hW hS hl)
  case iushr =>
    simp only [stp] at h
    obtain ⟨x1, y1, r, rfl, rfl, rfl, rfl, rfl, rfl⟩ := sBin_inv h
    intro H locs ls hW hS hl
    exact lv_iushr S.1 S.2.1 hd rfl (kk H locs ls hW hS hl)
  case idiv =>
    simp only [stp] at h
    obtain ⟨x1, y1, r, rfl, rfl, rfl, rfl, rfl, rfl⟩ := sDiv_inv h
    intro H locs ls hW hS hl
    exact lv_idiv S.1 S.2.1 hd (nz_ne (hg _ List.mem_cons_self)) (kk H locs ls hW hS hl)
  case irem =>
    simp only [stp] at h
    obtain ⟨x1, y1, r, rfl, rfl, rfl, rfl, rfl, rfl⟩ := sDiv_inv h
    intro H locs ls hW hS hl
    exact lv_irem S.1 S.2.1 hd (nz_ne (hg _ List.mem_cons_self)) (kk H locs ls hW hS hl)
  case ineg =>
    simp only [stp] at h
    obtain ⟨x1, r, rfl, rfl, rfl, rfl, rfl, rfl⟩ := sUn_inv h
    intro H locs ls hW hS hl
    exact lv_ineg S.1 S.2.1 hd (kk H locs ls hW hS hl)
  case i2b =>
    simp only [stp] at h
    obtain ⟨x1, r, rfl, rfl, rfl, rfl, rfl, rfl⟩ := sUn_inv h
    intro H locs ls hW hS hl
    exact lv_i2b S.1 S.2.1 hd rfl (kk H locs ls hW hS hl)
  case i2s =>
    simp only [stp] at h
    obtain ⟨x1, r, rfl, rfl, rfl, rfl, rfl, rfl⟩ := sUn_inv h
    intro H locs ls hW hS hl
    exact lv_i2s S.1 S.2.1 hd rfl (kk H locs ls hW hS hl)
  case ladd =>
    simp only [stp] at h
    obtain ⟨x1, y1, r, rfl, rfl, rfl, rfl, rfl, rfl⟩ := sBinL_inv h
    intro H locs ls hW hS hl
    exact lv_ladd S.1 S.2.1 hd (kk H locs ls hW hS hl)
  case land =>
    simp only [stp] at h
    obtain ⟨x1, y1, r, rfl, rfl, rfl, rfl, rfl, rfl⟩ := sBinL_inv h
    intro H locs ls hW hS hl
    exact lv_land S.1 S.2.1 hd (kk H locs ls hW hS hl)
  case lor =>
    simp only [stp] at h
    obtain ⟨x1, y1, r, rfl, rfl, rfl, rfl, rfl, rfl⟩ := sBinL_inv h
    intro H locs ls hW hS hl
    exact lv_lor S.1 S.2.1 hd (kk H locs ls hW hS hl)
  case lshl =>
    simp only [stp, sLshl] at h
    split at h
    · cases h
      intro H locs ls hW hS hl
      exact lv_lshl S.1 S.2.1 hd rfl (kk H locs ls hW hS hl)
    · cases h
  case i2l =>
    simp only [stp, sI2L] at h
    split at h
    · cases h
      intro H locs ls hW hS hl
      exact lv_i2l S.1 S.2.1 hd rfl (kk H locs ls hW hS hl)
    · cases h
  case l2i =>
    simp only [stp, sL2I] at h
    split at h
    · cases h
      intro H locs ls hW hS hl
      exact lv_l2i S.1 S.2.1 hd rfl (kk H locs ls hW hS hl)
    · cases h
  case lshr =>
    simp only [stp, sLshr] at h
    split at h
    · cases h
      intro H locs ls hW hS hl
      exact lv_lshr S.1 S.2.1 hd rfl (kk H locs ls hW hS hl)
    · cases h
  case lcmp =>
    simp only [stp, sLcmp] at h
    split at h
    · cases h
      intro H locs ls hW hS hl
      exact W.lcmp S.1 S.2.1 hd (kk H locs ls hW hS hl)
    · cases h
  case dup =>
    simp only [stp, sDup] at h
    split at h
    · cases h
      intro H locs ls hW hS hl
      exact lv_dup S.1 S.2.1 hd rfl (kk H locs ls hW hS hl)
    · cases h
      intro H locs ls hW hS hl
      exact lv_dup S.1 S.2.1 hd rfl (kk H locs ls hW hS hl)
    · cases h
  case dup2 =>
    simp only [stp, sDup2] at h
    split at h
    · cases h
      intro H locs ls hW hS hl
      exact lv_dup2_11 S.1 S.2.1 hd rfl rfl (kk H locs ls hW hS hl)
    · cases h
  case pop =>
    simp only [stp, sPop] at h
    split at h
    · cases h
      intro H locs ls hW hS hl
      exact lv_pop S.1 S.2.1 hd rfl (kk H locs ls hW hS hl)
    · cases h
  case getfield i =>
    simp only [stp, sGet] at h
    simp only [okop, Bool.and_eq_true, decide_eq_true_eq, List.contains_iff_mem] at ho
    obtain ⟨ho1, ho2⟩ := ho
    have hlt := fl_lt _ ho1
    split at h
    · next c2 bb p2 r =>
      split at h
      · next hr =>
        obtain ⟨rfl, rfl, hb⟩ := rf_LO hr
        split at h
        · cases h
          refine GO.get S hC hd (fl_ok _ ho1) hlt.1 hlt.2 hb (v := vI _) ?_ kk
          unfold fv
          rw [ho2]
          rfl
        · next k2 =>
          split at h
          · next z hz =>
            cases h
            obtain ⟨c3, b3, p3⟩ := z
            refine GO.get S hC hd (fl_ok _ ho1) hlt.1 hlt.2 hb (v := vR c3 b3 p3) ?_ kk
            unfold fv
            rw [ho2]
            simp only [hz]
            rfl
          · cases h
      · cases h
    · cases h
  case iaload =>
    simp only [stp, sAld] at h
    simp only [okop, decide_eq_true_eq] at ho
    obtain ⟨hb0, hk⟩ := ho
    obtain ⟨b, rfl⟩ : ∃ j, b = j + 1 := ⟨b - 1, by omega⟩
    split at h
    · split at h
      · next hr =>
        obtain ⟨rfl, rfl, hb⟩ := rf_LO hr
        cases h
        exact GO.iald S hC hd hk hb (hg _ List.mem_cons_self) kk
      · cases h
    · cases h
  case baload =>
    simp only [stp, sAld] at h
    simp only [okop, decide_eq_true_eq] at ho
    obtain ⟨hb0, hk, hk2⟩ := ho
    obtain ⟨b, rfl⟩ : ∃ j, b = j + 1 := ⟨b - 1, by omega⟩
    split at h
    · split at h
      · next hr =>
        obtain ⟨rfl, rfl, hb⟩ := rf_LO hr
        cases h
        rcases hk2 with rfl | rfl
        · exact GO.bald S hC hd hk hb (hg _ List.mem_cons_self) kk
        · exact GO.zald S hC hd hk hb (hg _ List.mem_cons_self) kk
      · cases h
    · cases h
  case iastore =>
    simp only [stp, sAst] at h
    simp only [okop, decide_eq_true_eq] at ho
    obtain ⟨hb0, hk⟩ := ho
    obtain ⟨b, rfl⟩ : ∃ j, b = j + 1 := ⟨b - 1, by omega⟩
    split at h
    · split at h
      · next hr =>
        obtain ⟨rfl, rfl, hb⟩ := rf_LO hr
        cases h
        exact GO.iast S hC hd hk hb (hg _ List.mem_cons_self) kk
      · cases h
    · cases h
  case bastore =>
    simp only [okop, decide_eq_true_eq] at ho
    obtain ⟨hb0, hk, hk2⟩ := ho
    obtain ⟨b, rfl⟩ : ∃ j, b = j + 1 := ⟨b - 1, by omega⟩
    rcases hk2 with rfl | rfl
    · simp only [stp, sAst] at h
      split at h
      · split at h
        · next hr =>
          obtain ⟨rfl, rfl, hb⟩ := rf_LO hr
          cases h
          exact GO.bast S hC hd hk hb (hg _ List.mem_cons_self) kk
        · cases h
      · cases h
    · simp only [stp, sAst] at h
      split at h
      · split at h
        · next hr =>
          obtain ⟨rfl, rfl, hb⟩ := rf_LO hr
          cases h
          exact GO.zast S hC hd hk hb (hg _ List.mem_cons_self) kk
        · cases h
      · cases h
  case arraylength =>
    simp only [stp, sLen] at h
    simp only [okop, decide_eq_true_eq] at ho
    obtain ⟨hb0, hk, hk2, hx⟩ := ho
    obtain ⟨b, rfl⟩ : ∃ j, b = j + 1 := ⟨b - 1, by omega⟩
    split at h
    · split at h
      · next hr =>
        obtain ⟨rfl, rfl, hb⟩ := rf_LO hr
        cases h
        exact GO.alen S hC hd hk hk2 hb hx kk
      · cases h
    · cases h
  case putfield i =>
    exact putf_ok S hC hd ho h kk
  all_goals (simp only [stp] at h; cases h)
end GOS
