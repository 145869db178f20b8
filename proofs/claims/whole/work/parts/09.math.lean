/-! Math.max, min, abs: rows of the kit -/
def imax (x y : Int32) : Int32 := if x < y then y else x
def imin (x y : Int32) : Int32 := if y < x then y else x
def iabs (x : Int32) : Int32 := if 0 ≤ x then x else 0 - x
set_option maxRecDepth 100000 in
theorem mth_max : Cond.static Lib.Math.max.name ∈ lw_tbl ∧ Cond.initialized "java/lang/Math" ∈ lw_tbl ∧ Cond.code Lib.Math.max.name Lib.Math.max.code 2 (some .int) ∈ lw_tbl := by decide +kernel
set_option maxRecDepth 100000 in
theorem mth_min : Cond.static Lib.Math.min.name ∈ lw_tbl ∧ Cond.initialized "java/lang/Math" ∈ lw_tbl ∧ Cond.code Lib.Math.min.name Lib.Math.min.code 2 (some .int) ∈ lw_tbl := by decide +kernel
set_option maxRecDepth 100000 in
theorem mth_abs : Cond.static Lib.Math.abs.name ∈ lw_tbl ∧ Cond.initialized "java/lang/Math" ∈ lw_tbl ∧ Cond.code Lib.Math.abs.name Lib.Math.abs.code 1 (some .int) ∈ lw_tbl := by decide +kernel
section CLM
variable {E : ET} {oc : Nat} {cc : ByteArray} {lev : Nat} {ret : Option FieldType} {RP : Option sv → IT → ZT → Prop} {G : Nat → LV → List sv → IT → ZT → Prop}
variable {pc pe ln : Nat} {ops : List op} {lv lv' : LV} {st st' : List sv} {I I' : IT} {Z Z' : ZT} {gs : List Bool} {rest : List sv}
theorem Cl.mmax (C : Cl E oc cc lev ret RP G) {idx : Nat} {x y : Int32} (hd : dcd oc cc pc ops pe (.invokestatic idx) 3 = true) (hb : runb ops lv st I Z = some (gs, lv', vI y :: vI x :: rest, I', Z')) (hg : ∀ g ∈ gs, g = true) (hlink : Cond.methodLink (ownN oc) idx Lib.Math.max.name ∈ lw_tbl) (hlev : 1 ≤ lev) (hrest : catS (eq E) rest ≤ 8)
    (k : G (pe + 3) lv' (vI (imax x y) :: rest) I' Z') : G pc lv st I Z := by
  refine C.fall hd hb hg ?_
  have hdl := dcd_last ops pc hd
  obtain ⟨R, p, e, s, m, args, below, meth, c, nL, Qc, hR, rfl, S, hC, hr, hlk, hRP⟩ := C
  intro H locs ls hW hS hl
  exact va_mmax S.1 S.2.1 (S.2.2.1.trans hl.size.symm) S.2.2.2.1 (S.2.2.2.2 _ (wt_of hlink rfl)) (S.2.2.2.2 _ (wt_of mth_max.1 rfl)) (S.2.2.2.2 _ (wt_of mth_max.2.1 rfl)) (S.2.2.2.2 _ (wt_of mth_max.2.2 rfl)) (Nat.le_trans hlev hR.1) (by have := hR.2; show catS (eq E) rest + 13 ≤ R.locals; omega) (Nat.le_refl _) (Nat.le_refl _) hdl (k H locs ls hW hS hl)
theorem Cl.mmin (C : Cl E oc cc lev ret RP G) {idx : Nat} {x y : Int32} (hd : dcd oc cc pc ops pe (.invokestatic idx) 3 = true) (hb : runb ops lv st I Z = some (gs, lv', vI y :: vI x :: rest, I', Z')) (hg : ∀ g ∈ gs, g = true) (hlink : Cond.methodLink (ownN oc) idx Lib.Math.min.name ∈ lw_tbl) (hlev : 1 ≤ lev) (hrest : catS (eq E) rest ≤ 8)
    (k : G (pe + 3) lv' (vI (imin x y) :: rest) I' Z') : G pc lv st I Z := by
  refine C.fall hd hb hg ?_
  have hdl := dcd_last ops pc hd
  obtain ⟨R, p, e, s, m, args, below, meth, c, nL, Qc, hR, rfl, S, hC, hr, hlk, hRP⟩ := C
  intro H locs ls hW hS hl
  exact va_mmin S.1 S.2.1 (S.2.2.1.trans hl.size.symm) S.2.2.2.1 (S.2.2.2.2 _ (wt_of hlink rfl)) (S.2.2.2.2 _ (wt_of mth_min.1 rfl)) (S.2.2.2.2 _ (wt_of mth_min.2.1 rfl)) (S.2.2.2.2 _ (wt_of mth_min.2.2 rfl)) (Nat.le_trans hlev hR.1) (by have := hR.2; show catS (eq E) rest + 13 ≤ R.locals; omega) (Nat.le_refl _) (Nat.le_refl _) hdl (k H locs ls hW hS hl)
theorem Cl.mabs (C : Cl E oc cc lev ret RP G) {idx : Nat} {x : Int32} (hd : dcd oc cc pc ops pe (.invokestatic idx) 3 = true) (hb : runb ops lv st I Z = some (gs, lv', vI x :: rest, I', Z')) (hg : ∀ g ∈ gs, g = true) (hlink : Cond.methodLink (ownN oc) idx Lib.Math.abs.name ∈ lw_tbl) (hlev : 1 ≤ lev) (hrest : catS (eq E) rest ≤ 8)
    (k : G (pe + 3) lv' (vI (iabs x) :: rest) I' Z') : G pc lv st I Z := by
  refine C.fall hd hb hg ?_
  have hdl := dcd_last ops pc hd
  obtain ⟨R, p, e, s, m, args, below, meth, c, nL, Qc, hR, rfl, S, hC, hr, hlk, hRP⟩ := C
  intro H locs ls hW hS hl
  exact va_mabs S.1 S.2.1 (S.2.2.1.trans hl.size.symm) S.2.2.2.1 (S.2.2.2.2 _ (wt_of hlink rfl)) (S.2.2.2.2 _ (wt_of mth_abs.1 rfl)) (S.2.2.2.2 _ (wt_of mth_abs.2.1 rfl)) (S.2.2.2.2 _ (wt_of mth_abs.2.2 rfl)) (Nat.le_trans hlev hR.1) (by have := hR.2; show catS (eq E) rest + 13 ≤ R.locals; omega) (Nat.le_refl _) (Nat.le_refl _) hdl (k H locs ls hW hS hl)
end CLM
