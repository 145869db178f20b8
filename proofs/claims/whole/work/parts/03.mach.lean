/-! THE PURE MACHINE: values (int, long, a cell by class, twin, part), the state I (class, twin, part, place), the four moving references Z -/
abbrev sv : Type := Int32 ⊕ (Int64 ⊕ (Nat × Bool × Nat))
abbrev vI (x : Int32) : sv := Sum.inl x
abbrev vL (x : Int64) : sv := Sum.inr (Sum.inl x)
abbrev vR (ci : Nat) (b : Bool) (p : Nat) : sv := Sum.inr (Sum.inr (ci, b, p))
abbrev IT : Type := Nat → Bool → Nat → Nat → Int32
abbrev ZT : Type := Bool × Bool × Bool × Option Bool
abbrev LV : Type := List (Option sv)
abbrev op : Type := Instr × Nat × (Nat × Nat × Nat × Nat) × Int32 × Int64
abbrev RS : Type := Option (List Bool × LV × List sv × IT × ZT)
def up (I : IT) (ci : Nat) (b : Bool) (p i : Nat) (v : Int32) : IT := fun c2 b2 p2 i2 => if c2 = ci ∧ b2 = b ∧ p2 = p ∧ i2 = i then v else I c2 b2 p2 i2
def vb (i : Int32) (n : Nat) : Bool := !(decide (i < 0) || decide (n ≤ i.toNatClampNeg))
theorem vb_in {i : Int32} {n : Nat} (h : vb i n = true) : vp_in i n := by
  unfold vb at h
  unfold vp_in
  intro h2
  rcases h2 with h2 | h2 <;> simp [h2] at h
def isb (x : Int32) : Bool := decide (x = 0) || decide (x = 1)
def nz (x : Int32) : Bool := !(decide (x = 0))
theorem nz_ne {x : Int32} (h : nz x = true) : ¬ x = 0 := by
  intro h2
  simp [nz, h2] at h
/-- of each class its fields: what each is (0 an int, 1 2 3 its own row of ints, bytes, truth values; 5 .. 9 a reference) and the length of the row, or the class -/
def FK : List (List (Nat × Nat)) := [[(1, 24), (1, 24), (1, 2), (1, 169)], [(1, 500)], [(1, 8), (1, 8), (0, 0)], [(5, 0), (6, 0), (0, 0), (0, 0), (0, 0), (0, 0), (0, 0), (0, 0), (0, 0), (0, 0), (0, 0)], [(1, 9), (1, 9), (1, 9), (1, 9), (1, 27), (1, 9), (0, 0), (0, 0), (0, 0), (0, 0)], [(1, 8), (1, 8), (1, 8), (1, 16), (1, 16), (1, 16), (1, 16), (1, 16), (1, 8), (1, 8), (1, 8), (0, 0), (0, 0), (0, 0), (0, 0), (0, 0), (0, 0), (0, 0)], [(1, 160), (1, 4), (1, 4)], [(1, 12), (1, 12), (1, 2), (1, 164)], [(2, 400), (0, 0)], [(7, 8), (7, 3), (7, 4), (7, 7), (7, 1), (7, 2), (7, 0), (7, 6), (8, 0), (9, 0), (0, 0), (0, 0)], [(0, 0), (1, 8), (1, 8), (0, 0), (1, 80), (0, 0), (1, 24), (1, 4), (0, 0), (1, 8), (1, 8), (0, 0), (1, 80), (0, 0), (1, 24), (1, 4), (3, 4), (1, 400), (0, 0), (0, 0), (0, 0), (0, 0), (0, 0), (0, 0), (0, 0), (0, 0), (1, 9), (1, 9), (1, 27), (1, 9), (0, 0), (1, 2), (1, 24), (1, 164), (1, 164), (0, 0), (1, 8), (1, 8), (1, 2), (1, 24), (1, 24), (1, 169), (1, 12), (1, 4), (1, 4), (1, 160), (0, 0)]]
def fk (ci j : Nat) : Nat × Nat := (FK.getD ci []).getD j (0, 0)
def LO : List (Nat × Bool × Nat) := [(0, false, 0), (0, false, 1), (0, false, 2), (0, false, 3), (0, false, 4), (1, false, 0), (1, false, 1), (2, false, 0), (2, false, 1), (2, false, 2), (3, false, 0), (4, false, 0), (4, false, 1), (4, false, 2), (4, false, 3), (4, false, 4), (4, false, 5), (4, false, 6), (5, false, 0), (5, false, 1), (5, false, 2), (5, false, 3), (5, false, 4), (5, false, 5), (5, false, 6), (5, false, 7), (5, false, 8), (5, false, 9), (5, false, 10), (5, false, 11), (5, true, 0), (5, true, 1), (5, true, 2), (5, true, 3), (5, true, 4), (5, true, 5), (5, true, 6), (5, true, 7), (5, true, 8), (5, true, 9), (5, true, 10), (5, true, 11), (6, false, 0), (6, false, 1), (6, false, 2), (6, false, 3), (7, false, 0), (7, false, 1), (7, false, 2), (7, false, 3), (7, false, 4), (8, false, 0), (8, false, 1), (9, false, 0), (10, false, 0), (10, false, 2), (10, false, 3), (10, false, 5), (10, false, 7), (10, false, 8), (10, false, 10), (10, false, 11), (10, false, 13), (10, false, 15), (10, false, 16), (10, false, 17), (10, false, 18), (10, false, 27), (10, false, 28), (10, false, 29), (10, false, 30), (10, false, 32), (10, false, 33), (10, false, 34), (10, false, 35), (10, false, 37), (10, false, 38), (10, false, 39), (10, false, 40), (10, false, 41), (10, false, 42), (10, false, 43), (10, false, 44), (10, false, 45), (10, false, 46)]
theorem LO_nodup : LO.Nodup := by decide +kernel
def rfOK (c2 p2 ci p : Nat) (bb : Bool) : Bool := Nat.beq c2 ci && (Nat.beq p2 p && (Nat.beq ci 5 || !bb))
def isLg : Option (Option sv) → Bool
  | some (some (Sum.inr (Sum.inl _))) => true
  | _ => false
def lgB (lv : LV) : Nat → Bool
  | 0 => false
  | k + 1 => isLg lv[k]?
def lst1 (lv : LV) (i : Nat) (v : sv) : Option LV := match lv[i]? with
  | none => none
  | some _ => match lgB lv i with
    | true => none
    | false => some (lv.set i (some v))
def lst2 (lv : LV) (i : Nat) (v : sv) : Option LV := match lv[i + 1]? with
  | none => none
  | some _ => match lgB lv i with
    | true => none
    | false => some ((lv.set i (some v)).set (i + 1) none)
def sBin (f : Int32 → Int32 → Int32) (lv : LV) (st : List sv) (I : IT) (Z : ZT) : RS := match st with
  | Sum.inl y :: Sum.inl x :: r => some ([], lv, vI (f x y) :: r, I, Z)
  | _ => none
def sDiv (f : Int32 → Int32 → Int32) (lv : LV) (st : List sv) (I : IT) (Z : ZT) : RS := match st with
  | Sum.inl y :: Sum.inl x :: r => some ([nz y], lv, vI (f x y) :: r, I, Z)
  | _ => none
def sUn (f : Int32 → Int32) (lv : LV) (st : List sv) (I : IT) (Z : ZT) : RS := match st with
  | Sum.inl x :: r => some ([], lv, vI (f x) :: r, I, Z)
  | _ => none
def sBinL (f : Int64 → Int64 → Int64) (lv : LV) (st : List sv) (I : IT) (Z : ZT) : RS := match st with
  | Sum.inr (Sum.inl y) :: Sum.inr (Sum.inl x) :: r => some ([], lv, vL (f x y) :: r, I, Z)
  | _ => none
def sI2L (lv : LV) (st : List sv) (I : IT) (Z : ZT) : RS := match st with
  | Sum.inl x :: r => some ([], lv, vL x.toInt64 :: r, I, Z)
  | _ => none
def sL2I (lv : LV) (st : List sv) (I : IT) (Z : ZT) : RS := match st with
  | Sum.inr (Sum.inl x) :: r => some ([], lv, vI x.toInt32 :: r, I, Z)
  | _ => none
def sLshr (lv : LV) (st : List sv) (I : IT) (Z : ZT) : RS := match st with
  | Sum.inl y :: Sum.inr (Sum.inl x) :: r => some ([], lv, vL (x >>> (y.toInt64 &&& 63)) :: r, I, Z)
  | _ => none
def sLshl (lv : LV) (st : List sv) (I : IT) (Z : ZT) : RS := match st with
  | Sum.inl y :: Sum.inr (Sum.inl x) :: r => some ([], lv, vL (x <<< (y.toInt64 &&& 63)) :: r, I, Z)
  | _ => none
def sLcmp (lv : LV) (st : List sv) (I : IT) (Z : ZT) : RS := match st with
  | Sum.inr (Sum.inl y) :: Sum.inr (Sum.inl x) :: r => some ([], lv, vI (lg_cmp x y) :: r, I, Z)
  | _ => none
def sDup (lv : LV) (st : List sv) (I : IT) (Z : ZT) : RS := match st with
  | Sum.inl x :: r => some ([], lv, vI x :: vI x :: r, I, Z)
  | Sum.inr (Sum.inr x) :: r => some ([], lv, Sum.inr (Sum.inr x) :: Sum.inr (Sum.inr x) :: r, I, Z)
  | _ => none
def sDup2 (lv : LV) (st : List sv) (I : IT) (Z : ZT) : RS := match st with
  | Sum.inl x :: Sum.inr (Sum.inr y) :: r => some ([], lv, vI x :: Sum.inr (Sum.inr y) :: vI x :: Sum.inr (Sum.inr y) :: r, I, Z)
  | _ => none
def sPop (lv : LV) (st : List sv) (I : IT) (Z : ZT) : RS := match st with
  | Sum.inl _ :: r => some ([], lv, r, I, Z)
  | _ => none
def sLdI (i : Nat) (lv : LV) (st : List sv) (I : IT) (Z : ZT) : RS := match lv[i]? with
  | some (some (Sum.inl x)) => some ([], lv, vI x :: st, I, Z)
  | _ => none
def sLdL (i : Nat) (lv : LV) (st : List sv) (I : IT) (Z : ZT) : RS := match lv[i]? with
  | some (some (Sum.inr (Sum.inl x))) => some ([], lv, vL x :: st, I, Z)
  | _ => none
def sLdA (i : Nat) (lv : LV) (st : List sv) (I : IT) (Z : ZT) : RS := match lv[i]? with
  | some (some (Sum.inr (Sum.inr x))) => some ([], lv, Sum.inr (Sum.inr x) :: st, I, Z)
  | _ => none
def sStI (i : Nat) (lv : LV) (st : List sv) (I : IT) (Z : ZT) : RS := match st with
  | Sum.inl x :: r => (match lst1 lv i (vI x) with
    | some lv' => some ([], lv', r, I, Z)
    | none => none)
  | _ => none
def sStL (i : Nat) (lv : LV) (st : List sv) (I : IT) (Z : ZT) : RS := match st with
  | Sum.inr (Sum.inl x) :: r => (match lst2 lv i (vL x) with
    | some lv' => some ([], lv', r, I, Z)
    | none => none)
  | _ => none
def sStA (i : Nat) (lv : LV) (st : List sv) (I : IT) (Z : ZT) : RS := match st with
  | Sum.inr (Sum.inr x) :: r => (match lst1 lv i (Sum.inr (Sum.inr x)) with
    | some lv' => some ([], lv', r, I, Z)
    | none => none)
  | _ => none
def sInc (i : Nat) (c : Int32) (lv : LV) (st : List sv) (I : IT) (Z : ZT) : RS := match lv[i]? with
  | some (some (Sum.inl x)) => (match lst1 lv i (vI (x + c)) with
    | some lv' => some ([], lv', st, I, Z)
    | none => none)
  | _ => none
/-- what a field of kind k holds, if it is a reference -/
def fRef (ci j k n : Nat) (bb : Bool) (Z : ZT) : Option (Nat × Bool × Nat) := match k with
  | 1 => some (ci, bb, j + 1)
  | 2 => some (ci, bb, j + 1)
  | 3 => some (ci, bb, j + 1)
  | 5 => (match Z.2.2.1 with
    | true => some (8, false, 1)
    | false => none)
  | 6 => (match Z.2.2.2 with
    | some b => some (5, b, 0)
    | none => none)
  | 7 => some (n, false, 0)
  | 8 => some (5, Z.1, 0)
  | 9 => some (5, Z.2.1, 0)
  | _ => none
def sGet (ci j k n : Nat) (lv : LV) (st : List sv) (I : IT) (Z : ZT) : RS := match st with
  | Sum.inr (Sum.inr (c2, bb, p2)) :: r => (match rfOK c2 p2 ci 0 bb with
    | true => (match k with
      | 0 => some ([], lv, vI (I ci bb 0 j) :: r, I, Z)
      | k2 + 1 => (match fRef ci j (k2 + 1) n bb Z with
        | some x => some ([], lv, Sum.inr (Sum.inr x) :: r, I, Z)
        | none => none))
    | false => none)
  | _ => none
def sPut (ci j k : Nat) (lv : LV) (st : List sv) (I : IT) (Z : ZT) : RS := match k with
  | 0 => (match st with
    | Sum.inl v :: Sum.inr (Sum.inr (c2, bb, p2)) :: r => (match rfOK c2 p2 ci 0 bb with
      | true => some ([], lv, r, up I ci bb 0 j v, Z)
      | false => none)
    | _ => none)
  | 5 => (match st with
    | Sum.inr (Sum.inr (8, false, 1)) :: Sum.inr (Sum.inr (c2, bb, p2)) :: r => (match rfOK c2 p2 ci 0 bb with
      | true => some ([], lv, r, I, (Z.1, Z.2.1, true, Z.2.2.2))
      | false => none)
    | _ => none)
  | 6 => (match st with
    | Sum.inr (Sum.inr (5, b3, 0)) :: Sum.inr (Sum.inr (c2, bb, p2)) :: r => (match rfOK c2 p2 ci 0 bb with
      | true => some ([], lv, r, I, (Z.1, Z.2.1, Z.2.2.1, some b3))
      | false => none)
    | _ => none)
  | 8 => (match st with
    | Sum.inr (Sum.inr (5, b3, 0)) :: Sum.inr (Sum.inr (c2, bb, p2)) :: r => (match rfOK c2 p2 ci 0 bb with
      | true => some ([], lv, r, I, (b3, Z.2.1, Z.2.2.1, Z.2.2.2))
      | false => none)
    | _ => none)
  | 9 => (match st with
    | Sum.inr (Sum.inr (5, b3, 0)) :: Sum.inr (Sum.inr (c2, bb, p2)) :: r => (match rfOK c2 p2 ci 0 bb with
      | true => some ([], lv, r, I, (Z.1, b3, Z.2.2.1, Z.2.2.2))
      | false => none)
    | _ => none)
  | _ => none
def sAld (ci p n : Nat) (lv : LV) (st : List sv) (I : IT) (Z : ZT) : RS := match st with
  | Sum.inl i :: Sum.inr (Sum.inr (c2, bb, p2)) :: r => (match rfOK c2 p2 ci p bb with
    | true => some ([vb i n], lv, vI (I ci bb p i.toNatClampNeg) :: r, I, Z)
    | false => none)
  | _ => none
def sAst (f : Int32 → Int32) (ci p n : Nat) (lv : LV) (st : List sv) (I : IT) (Z : ZT) : RS := match st with
  | Sum.inl v :: Sum.inl i :: Sum.inr (Sum.inr (c2, bb, p2)) :: r => (match rfOK c2 p2 ci p bb with
    | true => some ([vb i n], lv, r, up I ci bb p i.toNatClampNeg (f v), Z)
    | false => none)
  | _ => none
def sLen (ci p : Nat) (x : Int32) (lv : LV) (st : List sv) (I : IT) (Z : ZT) : RS := match st with
  | Sum.inr (Sum.inr (c2, bb, p2)) :: r => (match rfOK c2 p2 ci p bb with
    | true => some ([], lv, vI x :: r, I, Z)
    | false => none)
  | _ => none
/-- what a byte cell keeps of an int -/
abbrev nB (x : Int32) : Int32 := vp_nar .byte x
abbrev nZ (x : Int32) : Int32 := vp_nar .boolean x
def stp (o : op) (lv : LV) (st : List sv) (I : IT) (Z : ZT) : RS := match o with
  | (ins, _, (a, b, k, n), x, y) => match ins with
    | .iconst _ => some ([], lv, vI x :: st, I, Z)
    | .bipush _ => some ([], lv, vI x :: st, I, Z)
    | .sipush _ => some ([], lv, vI x :: st, I, Z)
    | .ldc _ => (match k with
      | 0 => some ([], lv, vI x :: st, I, Z)
      | _ => some ([], lv, vR 20 false a :: st, I, Z))
    | .ldc_w _ => some ([], lv, vI x :: st, I, Z)
    | .lconst _ => some ([], lv, vL y :: st, I, Z)
    | .ldc2_w _ => some ([], lv, vL y :: st, I, Z)
    | .iload _ => sLdI a lv st I Z
    | .iload_n _ => sLdI a lv st I Z
    | .lload _ => sLdL a lv st I Z
    | .lload_n _ => sLdL a lv st I Z
    | .aload _ => sLdA a lv st I Z
    | .aload_n _ => sLdA a lv st I Z
    | .istore _ => sStI a lv st I Z
    | .istore_n _ => sStI a lv st I Z
    | .lstore _ => sStL a lv st I Z
    | .astore_n _ => sStA a lv st I Z
    | .iinc _ _ => sInc a x lv st I Z
    | .iadd => sBin (fun x y => x + y) lv st I Z
    | .isub => sBin (fun x y => x - y) lv st I Z
    | .imul => sBin (fun x y => x * y) lv st I Z
    | .iand => sBin (fun x y => x &&& y) lv st I Z
    | .ior => sBin (fun x y => x ||| y) lv st I Z
    | .ixor => sBin (fun x y => x ^^^ y) lv st I Z
    | .ishl => sBin (fun x y => x <<< (y &&& 31)) lv st I Z
    | .ishr => sBin (fun x y => x >>> (y &&& 31)) lv st I Z
    | .iushr => sBin (fun x y => (x.toUInt32 >>> (y.toUInt32 &&& Int32.toUInt32 31)).toInt32) lv st I Z
    | .idiv => sDiv (fun x y => x / y) lv st I Z
    | .irem => sDiv (fun x y => x - x / y * y) lv st I Z
    | .ineg => sUn (fun x => -x) lv st I Z
    | .i2b => sUn (fun x => x.toInt8.toInt32) lv st I Z
    | .i2s => sUn (fun x => x.toInt16.toInt32) lv st I Z
    | .i2l => sI2L lv st I Z
    | .l2i => sL2I lv st I Z
    | .ladd => sBinL (fun x y => x + y) lv st I Z
    | .land => sBinL (fun x y => x &&& y) lv st I Z
    | .lshr => sLshr lv st I Z
    | .lshl => sLshl lv st I Z
    | .lor => sBinL (fun x y => x ||| y) lv st I Z
    | .lcmp => sLcmp lv st I Z
    | .dup => sDup lv st I Z
    | .dup2 => sDup2 lv st I Z
    | .pop => sPop lv st I Z
    | .getfield _ => sGet a b k n lv st I Z
    | .putfield _ => sPut a b k lv st I Z
    | .iaload => sAld a b n lv st I Z
    | .baload => sAld a b n lv st I Z
    | .iastore => sAst (fun v => v) a b n lv st I Z
    | .bastore => (match k with
      | 2 => sAst (fun v => nB v) a b n lv st I Z
      | _ => sAst (fun v => nZ v) a b n lv st I Z)
    | .arraylength => sLen a b x lv st I Z
    | _ => none
def runb : List op → LV → List sv → IT → ZT → RS
  | [], lv, st, I, Z => some ([], lv, st, I, Z)
  | o :: os, lv, st, I, Z => match stp o lv st I Z with
    | none => none
    | some (gs, lv1, st1, I1, Z1) => match runb os lv1 st1 I1 Z1 with
      | none => none
      | some (gs2, lv2, st2, I2, Z2) => some (gs ++ gs2, lv2, st2, I2, Z2)
/-- fewer known locals -/
def mk : List Bool → LV → LV
  | [], _ => []
  | _, [] => []
  | true :: m, v :: lv => v :: mk m lv
  | false :: m, _ :: lv => none :: mk m lv
