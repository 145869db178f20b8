def wc0 (E : ET) (h0 : Nat) : va_W := [(h0, .inr (0, [.ref (h0 + 1), .ref (h0 + 2), .ref (h0 + 3), .ref (h0 + 4)])), (h0 + 1, .inl (kcls E 1, 24, .inl (fun _ => 0))), (h0 + 2, .inl (kcls E 1, 24, .inl (fun _ => 0))), (h0 + 3, .inl (kcls E 1, 2, .inl (fun _ => 0))), (h0 + 4, .inl (kcls E 1, 169, .inl (fun _ => 0)))]
set_option maxRecDepth 20000 in
set_option maxHeartbeats 4000000 in
theorem n_X0_init {E : ET} {h0 : Nat} : Ctc E (fun _ => True) 1 0 4 219 yX0_init cX0_init 1 h0 (wc0 E h0) := by
  refine Ctc.of 0 rfl rfl (by decide +kernel) (by decide) (fun K C => ?_)
  refine C.to [(h0, .inr (0, [.null, .null, .null, .null]))] (h0 + 1) 0 0 0 [] rfl rfl rfl rfl rfl rfl ?_
  refine C.obj (idx := 5) (by decide +kernel) (by decide +kernel) (by decide +kernel) (by decide) ?_
  refine C.aload (by decide +kernel) ?_
  refine C.bipush (i := 24) (v := 24) (by decide +kernel) (by decide +kernel) ?_
  refine C.newarr (aty := .int) (ty := .int) (kd := 1) (n := 24) (by decide +kernel) rfl (by decide) (by decide +kernel) (by decide +kernel) (by decide +kernel) (by decide) (by decide) ?_
  refine C.to [(h0, .inr (0, [.null, .null, .null, .null])), (h0 + 1, .inl (kcls E 1, 24, .inl (fun _ => 0)))] (h0 + 2) 1 24 9 [.ref (h0 + 1), .ref h0] rfl rfl rfl rfl rfl rfl ?_
  refine C.put (idx := 11) (ci := 0) (j := 0) (by decide +kernel) (by decide +kernel) (by decide +kernel) rfl rfl rfl (Nat.le_of_ble_eq_true rfl) ?_
  refine C.to [(h0, .inr (0, [.ref (h0 + 1), .null, .null, .null])), (h0 + 1, .inl (kcls E 1, 24, .inl (fun _ => 0)))] (h0 + 2) 1 24 12 [] rfl rfl rfl rfl rfl rfl ?_
  refine C.aload (by decide +kernel) ?_
  refine C.bipush (i := 24) (v := 24) (by decide +kernel) (by decide +kernel) ?_
  refine C.newarr (aty := .int) (ty := .int) (kd := 1) (n := 24) (by decide +kernel) rfl (by decide) (by decide +kernel) (by decide +kernel) (by decide +kernel) (by decide) (by decide) ?_
  refine C.to [(h0, .inr (0, [.ref (h0 + 1), .null, .null, .null])), (h0 + 1, .inl (kcls E 1, 24, .inl (fun _ => 0))), (h0 + 2, .inl (kcls E 1, 24, .inl (fun _ => 0)))] (h0 + 3) 2 48 17 [.ref (h0 + 2), .ref h0] rfl rfl rfl rfl rfl rfl ?_
  refine C.put (idx := 15) (ci := 0) (j := 1) (by decide +kernel) (by decide +kernel) (by decide +kernel) rfl rfl rfl (Nat.le_of_ble_eq_true rfl) ?_
  refine C.to [(h0, .inr (0, [.ref (h0 + 1), .ref (h0 + 2), .null, .null])), (h0 + 1, .inl (kcls E 1, 24, .inl (fun _ => 0))), (h0 + 2, .inl (kcls E 1, 24, .inl (fun _ => 0)))] (h0 + 3) 2 48 20 [] rfl rfl rfl rfl rfl rfl ?_
  refine C.aload (by decide +kernel) ?_
  refine C.iconst (i := 2) (v := 2) (by decide +kernel) (by decide +kernel) ?_
  refine C.newarr (aty := .int) (ty := .int) (kd := 1) (n := 2) (by decide +kernel) rfl (by decide) (by decide +kernel) (by decide +kernel) (by decide +kernel) (by decide) (by decide) ?_
  refine C.to [(h0, .inr (0, [.ref (h0 + 1), .ref (h0 + 2), .null, .null])), (h0 + 1, .inl (kcls E 1, 24, .inl (fun _ => 0))), (h0 + 2, .inl (kcls E 1, 24, .inl (fun _ => 0))), (h0 + 3, .inl (kcls E 1, 2, .inl (fun _ => 0)))] (h0 + 4) 3 50 24 [.ref (h0 + 3), .ref h0] rfl rfl rfl rfl rfl rfl ?_
  refine C.put (idx := 18) (ci := 0) (j := 2) (by decide +kernel) (by decide +kernel) (by decide +kernel) rfl rfl rfl (Nat.le_of_ble_eq_true rfl) ?_
  refine C.to [(h0, .inr (0, [.ref (h0 + 1), .ref (h0 + 2), .ref (h0 + 3), .null])), (h0 + 1, .inl (kcls E 1, 24, .inl (fun _ => 0))), (h0 + 2, .inl (kcls E 1, 24, .inl (fun _ => 0))), (h0 + 3, .inl (kcls E 1, 2, .inl (fun _ => 0)))] (h0 + 4) 3 50 27 [] rfl rfl rfl rfl rfl rfl ?_
  refine C.aload (by decide +kernel) ?_
  refine C.sipush (i := 169) (v := 169) (by decide +kernel) (by decide +kernel) ?_
  refine C.newarr (aty := .int) (ty := .int) (kd := 1) (n := 169) (by decide +kernel) rfl (by decide) (by decide +kernel) (by decide +kernel) (by decide +kernel) (by decide) (by decide) ?_
  refine C.to [(h0, .inr (0, [.ref (h0 + 1), .ref (h0 + 2), .ref (h0 + 3), .null])), (h0 + 1, .inl (kcls E 1, 24, .inl (fun _ => 0))), (h0 + 2, .inl (kcls E 1, 24, .inl (fun _ => 0))), (h0 + 3, .inl (kcls E 1, 2, .inl (fun _ => 0))), (h0 + 4, .inl (kcls E 1, 169, .inl (fun _ => 0)))] (h0 + 5) 4 219 33 [.ref (h0 + 4), .ref h0] rfl rfl rfl rfl rfl rfl ?_
  refine C.put (idx := 21) (ci := 0) (j := 3) (by decide +kernel) (by decide +kernel) (by decide +kernel) rfl rfl rfl (Nat.le_of_ble_eq_true rfl) ?_
  refine C.to [(h0, .inr (0, [.ref (h0 + 1), .ref (h0 + 2), .ref (h0 + 3), .ref (h0 + 4)])), (h0 + 1, .inl (kcls E 1, 24, .inl (fun _ => 0))), (h0 + 2, .inl (kcls E 1, 24, .inl (fun _ => 0))), (h0 + 3, .inl (kcls E 1, 2, .inl (fun _ => 0))), (h0 + 4, .inl (kcls E 1, 169, .inl (fun _ => 0)))] (h0 + 5) 4 219 36 [] rfl rfl rfl rfl rfl rfl ?_
  exact C.ret (by decide +kernel) rfl rfl
def wc1 (E : ET) (h0 : Nat) : va_W := [(h0, .inr (1, [.ref (h0 + 1)])), (h0 + 1, .inl (kcls E 1, 500, .inl (fun _ => 0)))]
set_option maxRecDepth 20000 in
set_option maxHeartbeats 4000000 in
theorem n_X1_init {E : ET} {h0 : Nat} : Ctc E (fun _ => True) 1 1 1 500 yX1_init cX1_init 1 h0 (wc1 E h0) := by
  refine Ctc.of 1 rfl rfl (by decide +kernel) (by decide) (fun K C => ?_)
  refine C.to [(h0, .inr (1, [.null]))] (h0 + 1) 0 0 0 [] rfl rfl rfl rfl rfl rfl ?_
  refine C.obj (idx := 3) (by decide +kernel) (by decide +kernel) (by decide +kernel) (by decide) ?_
  refine C.aload (by decide +kernel) ?_
  refine C.sipush (i := 500) (v := 500) (by decide +kernel) (by decide +kernel) ?_
  refine C.newarr (aty := .int) (ty := .int) (kd := 1) (n := 500) (by decide +kernel) rfl (by decide) (by decide +kernel) (by decide +kernel) (by decide +kernel) (by decide) (by decide) ?_
  refine C.to [(h0, .inr (1, [.null])), (h0 + 1, .inl (kcls E 1, 500, .inl (fun _ => 0)))] (h0 + 2) 1 500 10 [.ref (h0 + 1), .ref h0] rfl rfl rfl rfl rfl rfl ?_
  refine C.put (idx := 9) (ci := 1) (j := 0) (by decide +kernel) (by decide +kernel) (by decide +kernel) rfl rfl rfl (Nat.le_of_ble_eq_true rfl) ?_
  refine C.to [(h0, .inr (1, [.ref (h0 + 1)])), (h0 + 1, .inl (kcls E 1, 500, .inl (fun _ => 0)))] (h0 + 2) 1 500 13 [] rfl rfl rfl rfl rfl rfl ?_
  exact C.ret (by decide +kernel) rfl rfl
def wc2 (E : ET) (h0 : Nat) : va_W := [(h0, .inr (2, [.ref (h0 + 1), .ref (h0 + 2), .int 0])), (h0 + 1, .inl (kcls E 1, 8, .inl (fun _ => 0))), (h0 + 2, .inl (kcls E 1, 8, .inl (fun _ => 0)))]
set_option maxRecDepth 20000 in
set_option maxHeartbeats 4000000 in
theorem n_X2_init {E : ET} {h0 : Nat} : Ctc E (fun _ => True) 1 2 2 16 yX2_init cX2_init 1 h0 (wc2 E h0) := by
  refine Ctc.of 2 rfl rfl (by decide +kernel) (by decide) (fun K C => ?_)
  refine C.to [(h0, .inr (2, [.null, .null, .int 0]))] (h0 + 1) 0 0 0 [] rfl rfl rfl rfl rfl rfl ?_
  refine C.obj (idx := 3) (by decide +kernel) (by decide +kernel) (by decide +kernel) (by decide) ?_
  refine C.aload (by decide +kernel) ?_
  refine C.bipush (i := 8) (v := 8) (by decide +kernel) (by decide +kernel) ?_
  refine C.newarr (aty := .int) (ty := .int) (kd := 1) (n := 8) (by decide +kernel) rfl (by decide) (by decide +kernel) (by decide +kernel) (by decide +kernel) (by decide) (by decide) ?_
  refine C.to [(h0, .inr (2, [.null, .null, .int 0])), (h0 + 1, .inl (kcls E 1, 8, .inl (fun _ => 0)))] (h0 + 2) 1 8 9 [.ref (h0 + 1), .ref h0] rfl rfl rfl rfl rfl rfl ?_
  refine C.put (idx := 11) (ci := 2) (j := 0) (by decide +kernel) (by decide +kernel) (by decide +kernel) rfl rfl rfl (Nat.le_of_ble_eq_true rfl) ?_
  refine C.to [(h0, .inr (2, [.ref (h0 + 1), .null, .int 0])), (h0 + 1, .inl (kcls E 1, 8, .inl (fun _ => 0)))] (h0 + 2) 1 8 12 [] rfl rfl rfl rfl rfl rfl ?_
  refine C.aload (by decide +kernel) ?_
  refine C.bipush (i := 8) (v := 8) (by decide +kernel) (by decide +kernel) ?_
  refine C.newarr (aty := .int) (ty := .int) (kd := 1) (n := 8) (by decide +kernel) rfl (by decide) (by decide +kernel) (by decide +kernel) (by decide +kernel) (by decide) (by decide) ?_
  refine C.to [(h0, .inr (2, [.ref (h0 + 1), .null, .int 0])), (h0 + 1, .inl (kcls E 1, 8, .inl (fun _ => 0))), (h0 + 2, .inl (kcls E 1, 8, .inl (fun _ => 0)))] (h0 + 3) 2 16 17 [.ref (h0 + 2), .ref h0] rfl rfl rfl rfl rfl rfl ?_
  refine C.put (idx := 15) (ci := 2) (j := 1) (by decide +kernel) (by decide +kernel) (by decide +kernel) rfl rfl rfl (Nat.le_of_ble_eq_true rfl) ?_
  refine C.to [(h0, .inr (2, [.ref (h0 + 1), .ref (h0 + 2), .int 0])), (h0 + 1, .inl (kcls E 1, 8, .inl (fun _ => 0))), (h0 + 2, .inl (kcls E 1, 8, .inl (fun _ => 0)))] (h0 + 3) 2 16 20 [] rfl rfl rfl rfl rfl rfl ?_
  refine C.aload (by decide +kernel) ?_
  refine C.iconst (i := 0) (v := 0) (by decide +kernel) (by decide +kernel) ?_
  refine C.put (idx := 18) (ci := 2) (j := 2) (by decide +kernel) (by decide +kernel) (by decide +kernel) rfl rfl rfl (Nat.le_of_ble_eq_true rfl) ?_
  refine C.to [(h0, .inr (2, [.ref (h0 + 1), .ref (h0 + 2), .int 0])), (h0 + 1, .inl (kcls E 1, 8, .inl (fun _ => 0))), (h0 + 2, .inl (kcls E 1, 8, .inl (fun _ => 0)))] (h0 + 3) 2 16 25 [] rfl rfl rfl rfl rfl rfl ?_
  exact C.ret (by decide +kernel) rfl rfl
def wc3 (E : ET) (h0 : Nat) : va_W := [(h0, .inr (3, [.null, .null, .int 0, .int 0, .int 0, .int 0, .int 0, .int 0, .int 0, .int 0, .int 0]))]
set_option maxRecDepth 20000 in
set_option maxHeartbeats 4000000 in
theorem n_X3_init {E : ET} {h0 : Nat} : Ctc E (fun _ => True) 1 3 0 0 yX3_init cX3_init 1 h0 (wc3 E h0) := by
  refine Ctc.of 3 rfl rfl (by decide +kernel) (by decide) (fun K C => ?_)
  refine C.to [(h0, .inr (3, [.null, .null, .int 0, .int 0, .int 0, .int 0, .int 0, .int 0, .int 0, .int 0, .int 0]))] (h0 + 1) 0 0 0 [] rfl rfl rfl rfl rfl rfl ?_
  refine C.obj (idx := 3) (by decide +kernel) (by decide +kernel) (by decide +kernel) (by decide) ?_
  refine C.aload (by decide +kernel) ?_
  refine C.null (by decide +kernel) ?_
  refine C.put (idx := 9) (ci := 3) (j := 0) (by decide +kernel) (by decide +kernel) (by decide +kernel) rfl rfl rfl (Nat.le_of_ble_eq_true rfl) ?_
  refine C.to [(h0, .inr (3, [.null, .null, .int 0, .int 0, .int 0, .int 0, .int 0, .int 0, .int 0, .int 0, .int 0]))] (h0 + 1) 0 0 9 [] rfl rfl rfl rfl rfl rfl ?_
  refine C.aload (by decide +kernel) ?_
  refine C.null (by decide +kernel) ?_
  refine C.put (idx := 15) (ci := 3) (j := 1) (by decide +kernel) (by decide +kernel) (by decide +kernel) rfl rfl rfl (Nat.le_of_ble_eq_true rfl) ?_
  refine C.to [(h0, .inr (3, [.null, .null, .int 0, .int 0, .int 0, .int 0, .int 0, .int 0, .int 0, .int 0, .int 0]))] (h0 + 1) 0 0 14 [] rfl rfl rfl rfl rfl rfl ?_
  refine C.aload (by decide +kernel) ?_
  refine C.iconst (i := 0) (v := 0) (by decide +kernel) (by decide +kernel) ?_
  refine C.put (idx := 19) (ci := 3) (j := 2) (by decide +kernel) (by decide +kernel) (by decide +kernel) rfl rfl rfl (Nat.le_of_ble_eq_true rfl) ?_
  refine C.to [(h0, .inr (3, [.null, .null, .int 0, .int 0, .int 0, .int 0, .int 0, .int 0, .int 0, .int 0, .int 0]))] (h0 + 1) 0 0 19 [] rfl rfl rfl rfl rfl rfl ?_
  refine C.aload (by decide +kernel) ?_
  refine C.iconst (i := 0) (v := 0) (by decide +kernel) (by decide +kernel) ?_
  refine C.put (idx := 23) (ci := 3) (j := 3) (by decide +kernel) (by decide +kernel) (by decide +kernel) rfl rfl rfl (Nat.le_of_ble_eq_true rfl) ?_
  refine C.to [(h0, .inr (3, [.null, .null, .int 0, .int 0, .int 0, .int 0, .int 0, .int 0, .int 0, .int 0, .int 0]))] (h0 + 1) 0 0 24 [] rfl rfl rfl rfl rfl rfl ?_
  refine C.aload (by decide +kernel) ?_
  refine C.iconst (i := 0) (v := 0) (by decide +kernel) (by decide +kernel) ?_
  refine C.put (idx := 26) (ci := 3) (j := 4) (by decide +kernel) (by decide +kernel) (by decide +kernel) rfl rfl rfl (Nat.le_of_ble_eq_true rfl) ?_
  refine C.to [(h0, .inr (3, [.null, .null, .int 0, .int 0, .int 0, .int 0, .int 0, .int 0, .int 0, .int 0, .int 0]))] (h0 + 1) 0 0 29 [] rfl rfl rfl rfl rfl rfl ?_
  refine C.aload (by decide +kernel) ?_
  refine C.iconst (i := 0) (v := 0) (by decide +kernel) (by decide +kernel) ?_
  refine C.put (idx := 29) (ci := 3) (j := 5) (by decide +kernel) (by decide +kernel) (by decide +kernel) rfl rfl rfl (Nat.le_of_ble_eq_true rfl) ?_
  refine C.to [(h0, .inr (3, [.null, .null, .int 0, .int 0, .int 0, .int 0, .int 0, .int 0, .int 0, .int 0, .int 0]))] (h0 + 1) 0 0 34 [] rfl rfl rfl rfl rfl rfl ?_
  refine C.aload (by decide +kernel) ?_
  refine C.iconst (i := 0) (v := 0) (by decide +kernel) (by decide +kernel) ?_
  refine C.put (idx := 32) (ci := 3) (j := 6) (by decide +kernel) (by decide +kernel) (by decide +kernel) rfl rfl rfl (Nat.le_of_ble_eq_true rfl) ?_
  refine C.to [(h0, .inr (3, [.null, .null, .int 0, .int 0, .int 0, .int 0, .int 0, .int 0, .int 0, .int 0, .int 0]))] (h0 + 1) 0 0 39 [] rfl rfl rfl rfl rfl rfl ?_
  refine C.aload (by decide +kernel) ?_
  refine C.iconst (i := 0) (v := 0) (by decide +kernel) (by decide +kernel) ?_
  refine C.put (idx := 35) (ci := 3) (j := 7) (by decide +kernel) (by decide +kernel) (by decide +kernel) rfl rfl rfl (Nat.le_of_ble_eq_true rfl) ?_
  refine C.to [(h0, .inr (3, [.null, .null, .int 0, .int 0, .int 0, .int 0, .int 0, .int 0, .int 0, .int 0, .int 0]))] (h0 + 1) 0 0 44 [] rfl rfl rfl rfl rfl rfl ?_
  refine C.aload (by decide +kernel) ?_
  refine C.iconst (i := 0) (v := 0) (by decide +kernel) (by decide +kernel) ?_
  refine C.put (idx := 38) (ci := 3) (j := 8) (by decide +kernel) (by decide +kernel) (by decide +kernel) rfl rfl rfl (Nat.le_of_ble_eq_true rfl) ?_
  refine C.to [(h0, .inr (3, [.null, .null, .int 0, .int 0, .int 0, .int 0, .int 0, .int 0, .int 0, .int 0, .int 0]))] (h0 + 1) 0 0 49 [] rfl rfl rfl rfl rfl rfl ?_
  refine C.aload (by decide +kernel) ?_
  refine C.iconst (i := 0) (v := 0) (by decide +kernel) (by decide +kernel) ?_
  refine C.put (idx := 41) (ci := 3) (j := 9) (by decide +kernel) (by decide +kernel) (by decide +kernel) rfl rfl rfl (Nat.le_of_ble_eq_true rfl) ?_
  refine C.to [(h0, .inr (3, [.null, .null, .int 0, .int 0, .int 0, .int 0, .int 0, .int 0, .int 0, .int 0, .int 0]))] (h0 + 1) 0 0 54 [] rfl rfl rfl rfl rfl rfl ?_
  refine C.aload (by decide +kernel) ?_
  refine C.iconst (i := 0) (v := 0) (by decide +kernel) (by decide +kernel) ?_
  refine C.put (idx := 44) (ci := 3) (j := 10) (by decide +kernel) (by decide +kernel) (by decide +kernel) rfl rfl rfl (Nat.le_of_ble_eq_true rfl) ?_
  refine C.to [(h0, .inr (3, [.null, .null, .int 0, .int 0, .int 0, .int 0, .int 0, .int 0, .int 0, .int 0, .int 0]))] (h0 + 1) 0 0 59 [] rfl rfl rfl rfl rfl rfl ?_
  exact C.ret (by decide +kernel) rfl rfl
def wc4 (E : ET) (h0 : Nat) : va_W := [(h0, .inr (4, [.ref (h0 + 1), .ref (h0 + 2), .ref (h0 + 3), .ref (h0 + 4), .ref (h0 + 5), .ref (h0 + 6), .int 0, .int 1, .int 0, .int (-4)])), (h0 + 1, .inl (kcls E 1, 9, .inl (fun _ => 0))), (h0 + 2, .inl (kcls E 1, 9, .inl (fun _ => 0))), (h0 + 3, .inl (kcls E 1, 9, .inl (fun _ => 0))), (h0 + 4, .inl (kcls E 1, 9, .inl (fun _ => 0))), (h0 + 5, .inl (kcls E 1, 27, .inl (fun _ => 0))), (h0 + 6, .inl (kcls E 1, 9, .inl (fun _ => 0)))]
set_option maxRecDepth 20000 in
set_option maxHeartbeats 4000000 in
theorem n_X4_init {E : ET} {h0 : Nat} : Ctc E (fun _ => True) 1 4 6 72 yX4_init cX4_init 1 h0 (wc4 E h0) := by
  refine Ctc.of 4 rfl rfl (by decide +kernel) (by decide) (fun K C => ?_)
  refine C.to [(h0, .inr (4, [.null, .null, .null, .null, .null, .null, .int 0, .int 0, .int 0, .int 0]))] (h0 + 1) 0 0 0 [] rfl rfl rfl rfl rfl rfl ?_
  refine C.obj (idx := 3) (by decide +kernel) (by decide +kernel) (by decide +kernel) (by decide) ?_
  refine C.aload (by decide +kernel) ?_
  refine C.bipush (i := 9) (v := 9) (by decide +kernel) (by decide +kernel) ?_
  refine C.newarr (aty := .int) (ty := .int) (kd := 1) (n := 9) (by decide +kernel) rfl (by decide) (by decide +kernel) (by decide +kernel) (by decide +kernel) (by decide) (by decide) ?_
  refine C.to [(h0, .inr (4, [.null, .null, .null, .null, .null, .null, .int 0, .int 0, .int 0, .int 0])), (h0 + 1, .inl (kcls E 1, 9, .inl (fun _ => 0)))] (h0 + 2) 1 9 9 [.ref (h0 + 1), .ref h0] rfl rfl rfl rfl rfl rfl ?_
  refine C.put (idx := 9) (ci := 4) (j := 0) (by decide +kernel) (by decide +kernel) (by decide +kernel) rfl rfl rfl (Nat.le_of_ble_eq_true rfl) ?_
  refine C.to [(h0, .inr (4, [.ref (h0 + 1), .null, .null, .null, .null, .null, .int 0, .int 0, .int 0, .int 0])), (h0 + 1, .inl (kcls E 1, 9, .inl (fun _ => 0)))] (h0 + 2) 1 9 12 [] rfl rfl rfl rfl rfl rfl ?_
  refine C.aload (by decide +kernel) ?_
  refine C.bipush (i := 9) (v := 9) (by decide +kernel) (by decide +kernel) ?_
  refine C.newarr (aty := .int) (ty := .int) (kd := 1) (n := 9) (by decide +kernel) rfl (by decide) (by decide +kernel) (by decide +kernel) (by decide +kernel) (by decide) (by decide) ?_
  refine C.to [(h0, .inr (4, [.ref (h0 + 1), .null, .null, .null, .null, .null, .int 0, .int 0, .int 0, .int 0])), (h0 + 1, .inl (kcls E 1, 9, .inl (fun _ => 0))), (h0 + 2, .inl (kcls E 1, 9, .inl (fun _ => 0)))] (h0 + 3) 2 18 17 [.ref (h0 + 2), .ref h0] rfl rfl rfl rfl rfl rfl ?_
  refine C.put (idx := 15) (ci := 4) (j := 1) (by decide +kernel) (by decide +kernel) (by decide +kernel) rfl rfl rfl (Nat.le_of_ble_eq_true rfl) ?_
  refine C.to [(h0, .inr (4, [.ref (h0 + 1), .ref (h0 + 2), .null, .null, .null, .null, .int 0, .int 0, .int 0, .int 0])), (h0 + 1, .inl (kcls E 1, 9, .inl (fun _ => 0))), (h0 + 2, .inl (kcls E 1, 9, .inl (fun _ => 0)))] (h0 + 3) 2 18 20 [] rfl rfl rfl rfl rfl rfl ?_
  refine C.aload (by decide +kernel) ?_
  refine C.bipush (i := 9) (v := 9) (by decide +kernel) (by decide +kernel) ?_
  refine C.newarr (aty := .int) (ty := .int) (kd := 1) (n := 9) (by decide +kernel) rfl (by decide) (by decide +kernel) (by decide +kernel) (by decide +kernel) (by decide) (by decide) ?_
  refine C.to [(h0, .inr (4, [.ref (h0 + 1), .ref (h0 + 2), .null, .null, .null, .null, .int 0, .int 0, .int 0, .int 0])), (h0 + 1, .inl (kcls E 1, 9, .inl (fun _ => 0))), (h0 + 2, .inl (kcls E 1, 9, .inl (fun _ => 0))), (h0 + 3, .inl (kcls E 1, 9, .inl (fun _ => 0)))] (h0 + 4) 3 27 25 [.ref (h0 + 3), .ref h0] rfl rfl rfl rfl rfl rfl ?_
  refine C.put (idx := 18) (ci := 4) (j := 2) (by decide +kernel) (by decide +kernel) (by decide +kernel) rfl rfl rfl (Nat.le_of_ble_eq_true rfl) ?_
  refine C.to [(h0, .inr (4, [.ref (h0 + 1), .ref (h0 + 2), .ref (h0 + 3), .null, .null, .null, .int 0, .int 0, .int 0, .int 0])), (h0 + 1, .inl (kcls E 1, 9, .inl (fun _ => 0))), (h0 + 2, .inl (kcls E 1, 9, .inl (fun _ => 0))), (h0 + 3, .inl (kcls E 1, 9, .inl (fun _ => 0)))] (h0 + 4) 3 27 28 [] rfl rfl rfl rfl rfl rfl ?_
  refine C.aload (by decide +kernel) ?_
  refine C.bipush (i := 9) (v := 9) (by decide +kernel) (by decide +kernel) ?_
  refine C.newarr (aty := .int) (ty := .int) (kd := 1) (n := 9) (by decide +kernel) rfl (by decide) (by decide +kernel) (by decide +kernel) (by decide +kernel) (by decide) (by decide) ?_
  refine C.to [(h0, .inr (4, [.ref (h0 + 1), .ref (h0 + 2), .ref (h0 + 3), .null, .null, .null, .int 0, .int 0, .int 0, .int 0])), (h0 + 1, .inl (kcls E 1, 9, .inl (fun _ => 0))), (h0 + 2, .inl (kcls E 1, 9, .inl (fun _ => 0))), (h0 + 3, .inl (kcls E 1, 9, .inl (fun _ => 0))), (h0 + 4, .inl (kcls E 1, 9, .inl (fun _ => 0)))] (h0 + 5) 4 36 33 [.ref (h0 + 4), .ref h0] rfl rfl rfl rfl rfl rfl ?_
  refine C.put (idx := 21) (ci := 4) (j := 3) (by decide +kernel) (by decide +kernel) (by decide +kernel) rfl rfl rfl (Nat.le_of_ble_eq_true rfl) ?_
  refine C.to [(h0, .inr (4, [.ref (h0 + 1), .ref (h0 + 2), .ref (h0 + 3), .ref (h0 + 4), .null, .null, .int 0, .int 0, .int 0, .int 0])), (h0 + 1, .inl (kcls E 1, 9, .inl (fun _ => 0))), (h0 + 2, .inl (kcls E 1, 9, .inl (fun _ => 0))), (h0 + 3, .inl (kcls E 1, 9, .inl (fun _ => 0))), (h0 + 4, .inl (kcls E 1, 9, .inl (fun _ => 0)))] (h0 + 5) 4 36 36 [] rfl rfl rfl rfl rfl rfl ?_
  refine C.aload (by decide +kernel) ?_
  refine C.bipush (i := 27) (v := 27) (by decide +kernel) (by decide +kernel) ?_
  refine C.newarr (aty := .int) (ty := .int) (kd := 1) (n := 27) (by decide +kernel) rfl (by decide) (by decide +kernel) (by decide +kernel) (by decide +kernel) (by decide) (by decide) ?_
  refine C.to [(h0, .inr (4, [.ref (h0 + 1), .ref (h0 + 2), .ref (h0 + 3), .ref (h0 + 4), .null, .null, .int 0, .int 0, .int 0, .int 0])), (h0 + 1, .inl (kcls E 1, 9, .inl (fun _ => 0))), (h0 + 2, .inl (kcls E 1, 9, .inl (fun _ => 0))), (h0 + 3, .inl (kcls E 1, 9, .inl (fun _ => 0))), (h0 + 4, .inl (kcls E 1, 9, .inl (fun _ => 0))), (h0 + 5, .inl (kcls E 1, 27, .inl (fun _ => 0)))] (h0 + 6) 5 63 41 [.ref (h0 + 5), .ref h0] rfl rfl rfl rfl rfl rfl ?_
  refine C.put (idx := 24) (ci := 4) (j := 4) (by decide +kernel) (by decide +kernel) (by decide +kernel) rfl rfl rfl (Nat.le_of_ble_eq_true rfl) ?_
  refine C.to [(h0, .inr (4, [.ref (h0 + 1), .ref (h0 + 2), .ref (h0 + 3), .ref (h0 + 4), .ref (h0 + 5), .null, .int 0, .int 0, .int 0, .int 0])), (h0 + 1, .inl (kcls E 1, 9, .inl (fun _ => 0))), (h0 + 2, .inl (kcls E 1, 9, .inl (fun _ => 0))), (h0 + 3, .inl (kcls E 1, 9, .inl (fun _ => 0))), (h0 + 4, .inl (kcls E 1, 9, .inl (fun _ => 0))), (h0 + 5, .inl (kcls E 1, 27, .inl (fun _ => 0)))] (h0 + 6) 5 63 44 [] rfl rfl rfl rfl rfl rfl ?_
  refine C.aload (by decide +kernel) ?_
  refine C.bipush (i := 9) (v := 9) (by decide +kernel) (by decide +kernel) ?_
  refine C.newarr (aty := .int) (ty := .int) (kd := 1) (n := 9) (by decide +kernel) rfl (by decide) (by decide +kernel) (by decide +kernel) (by decide +kernel) (by decide) (by decide) ?_
  refine C.to [(h0, .inr (4, [.ref (h0 + 1), .ref (h0 + 2), .ref (h0 + 3), .ref (h0 + 4), .ref (h0 + 5), .null, .int 0, .int 0, .int 0, .int 0])), (h0 + 1, .inl (kcls E 1, 9, .inl (fun _ => 0))), (h0 + 2, .inl (kcls E 1, 9, .inl (fun _ => 0))), (h0 + 3, .inl (kcls E 1, 9, .inl (fun _ => 0))), (h0 + 4, .inl (kcls E 1, 9, .inl (fun _ => 0))), (h0 + 5, .inl (kcls E 1, 27, .inl (fun _ => 0))), (h0 + 6, .inl (kcls E 1, 9, .inl (fun _ => 0)))] (h0 + 7) 6 72 49 [.ref (h0 + 6), .ref h0] rfl rfl rfl rfl rfl rfl ?_
  refine C.put (idx := 27) (ci := 4) (j := 5) (by decide +kernel) (by decide +kernel) (by decide +kernel) rfl rfl rfl (Nat.le_of_ble_eq_true rfl) ?_
  refine C.to [(h0, .inr (4, [.ref (h0 + 1), .ref (h0 + 2), .ref (h0 + 3), .ref (h0 + 4), .ref (h0 + 5), .ref (h0 + 6), .int 0, .int 0, .int 0, .int 0])), (h0 + 1, .inl (kcls E 1, 9, .inl (fun _ => 0))), (h0 + 2, .inl (kcls E 1, 9, .inl (fun _ => 0))), (h0 + 3, .inl (kcls E 1, 9, .inl (fun _ => 0))), (h0 + 4, .inl (kcls E 1, 9, .inl (fun _ => 0))), (h0 + 5, .inl (kcls E 1, 27, .inl (fun _ => 0))), (h0 + 6, .inl (kcls E 1, 9, .inl (fun _ => 0)))] (h0 + 7) 6 72 52 [] rfl rfl rfl rfl rfl rfl ?_
  refine C.aload (by decide +kernel) ?_
  refine C.iconst (i := 0) (v := 0) (by decide +kernel) (by decide +kernel) ?_
  refine C.put (idx := 30) (ci := 4) (j := 6) (by decide +kernel) (by decide +kernel) (by decide +kernel) rfl rfl rfl (Nat.le_of_ble_eq_true rfl) ?_
  refine C.to [(h0, .inr (4, [.ref (h0 + 1), .ref (h0 + 2), .ref (h0 + 3), .ref (h0 + 4), .ref (h0 + 5), .ref (h0 + 6), .int 0, .int 0, .int 0, .int 0])), (h0 + 1, .inl (kcls E 1, 9, .inl (fun _ => 0))), (h0 + 2, .inl (kcls E 1, 9, .inl (fun _ => 0))), (h0 + 3, .inl (kcls E 1, 9, .inl (fun _ => 0))), (h0 + 4, .inl (kcls E 1, 9, .inl (fun _ => 0))), (h0 + 5, .inl (kcls E 1, 27, .inl (fun _ => 0))), (h0 + 6, .inl (kcls E 1, 9, .inl (fun _ => 0)))] (h0 + 7) 6 72 57 [] rfl rfl rfl rfl rfl rfl ?_
  refine C.aload (by decide +kernel) ?_
  refine C.iconst (i := 1) (v := 1) (by decide +kernel) (by decide +kernel) ?_
  refine C.put (idx := 34) (ci := 4) (j := 7) (by decide +kernel) (by decide +kernel) (by decide +kernel) rfl rfl rfl (Nat.le_of_ble_eq_true rfl) ?_
  refine C.to [(h0, .inr (4, [.ref (h0 + 1), .ref (h0 + 2), .ref (h0 + 3), .ref (h0 + 4), .ref (h0 + 5), .ref (h0 + 6), .int 0, .int 1, .int 0, .int 0])), (h0 + 1, .inl (kcls E 1, 9, .inl (fun _ => 0))), (h0 + 2, .inl (kcls E 1, 9, .inl (fun _ => 0))), (h0 + 3, .inl (kcls E 1, 9, .inl (fun _ => 0))), (h0 + 4, .inl (kcls E 1, 9, .inl (fun _ => 0))), (h0 + 5, .inl (kcls E 1, 27, .inl (fun _ => 0))), (h0 + 6, .inl (kcls E 1, 9, .inl (fun _ => 0)))] (h0 + 7) 6 72 62 [] rfl rfl rfl rfl rfl rfl ?_
  refine C.aload (by decide +kernel) ?_
  refine C.iconst (i := 0) (v := 0) (by decide +kernel) (by decide +kernel) ?_
  refine C.put (idx := 37) (ci := 4) (j := 8) (by decide +kernel) (by decide +kernel) (by decide +kernel) rfl rfl rfl (Nat.le_of_ble_eq_true rfl) ?_
  refine C.to [(h0, .inr (4, [.ref (h0 + 1), .ref (h0 + 2), .ref (h0 + 3), .ref (h0 + 4), .ref (h0 + 5), .ref (h0 + 6), .int 0, .int 1, .int 0, .int 0])), (h0 + 1, .inl (kcls E 1, 9, .inl (fun _ => 0))), (h0 + 2, .inl (kcls E 1, 9, .inl (fun _ => 0))), (h0 + 3, .inl (kcls E 1, 9, .inl (fun _ => 0))), (h0 + 4, .inl (kcls E 1, 9, .inl (fun _ => 0))), (h0 + 5, .inl (kcls E 1, 27, .inl (fun _ => 0))), (h0 + 6, .inl (kcls E 1, 9, .inl (fun _ => 0)))] (h0 + 7) 6 72 67 [] rfl rfl rfl rfl rfl rfl ?_
  refine C.aload (by decide +kernel) ?_
  refine C.bipush (i := (-4)) (v := (-4)) (by decide +kernel) (by decide +kernel) ?_
  refine C.put (idx := 40) (ci := 4) (j := 9) (by decide +kernel) (by decide +kernel) (by decide +kernel) rfl rfl rfl (Nat.le_of_ble_eq_true rfl) ?_
  refine C.to [(h0, .inr (4, [.ref (h0 + 1), .ref (h0 + 2), .ref (h0 + 3), .ref (h0 + 4), .ref (h0 + 5), .ref (h0 + 6), .int 0, .int 1, .int 0, .int (-4)])), (h0 + 1, .inl (kcls E 1, 9, .inl (fun _ => 0))), (h0 + 2, .inl (kcls E 1, 9, .inl (fun _ => 0))), (h0 + 3, .inl (kcls E 1, 9, .inl (fun _ => 0))), (h0 + 4, .inl (kcls E 1, 9, .inl (fun _ => 0))), (h0 + 5, .inl (kcls E 1, 27, .inl (fun _ => 0))), (h0 + 6, .inl (kcls E 1, 9, .inl (fun _ => 0)))] (h0 + 7) 6 72 73 [] rfl rfl rfl rfl rfl rfl ?_
  exact C.ret (by decide +kernel) rfl rfl
def wc5 (E : ET) (h0 : Nat) : va_W := [(h0, .inr (5, [.ref (h0 + 1), .ref (h0 + 2), .ref (h0 + 3), .ref (h0 + 4), .ref (h0 + 5), .ref (h0 + 6), .ref (h0 + 7), .ref (h0 + 8), .ref (h0 + 9), .ref (h0 + 10), .ref (h0 + 11), .int 0, .int 0, .int 0, .int 2, .int 2, .int 1, .int 99])), (h0 + 1, .inl (kcls E 1, 8, .inl (fun _ => 0))), (h0 + 2, .inl (kcls E 1, 8, .inl (fun _ => 0))), (h0 + 3, .inl (kcls E 1, 8, .inl (fun _ => 0))), (h0 + 4, .inl (kcls E 1, 16, .inl (fun _ => 0))), (h0 + 5, .inl (kcls E 1, 16, .inl (fun _ => 0))), (h0 + 6, .inl (kcls E 1, 16, .inl (fun _ => 0))), (h0 + 7, .inl (kcls E 1, 16, .inl (fun _ => 0))), (h0 + 8, .inl (kcls E 1, 16, .inl (fun _ => 0))), (h0 + 9, .inl (kcls E 1, 8, .inl (fun _ => 0))), (h0 + 10, .inl (kcls E 1, 8, .inl (fun _ => 0))), (h0 + 11, .inl (kcls E 1, 8, .inl (fun _ => 0)))]
set_option maxRecDepth 20000 in
set_option maxHeartbeats 4000000 in
theorem n_X5_init {E : ET} {h0 : Nat} : Ctc E (fun _ => True) 1 5 11 128 yX5_init cX5_init 1 h0 (wc5 E h0) := by
  refine Ctc.of 5 rfl rfl (by decide +kernel) (by decide) (fun K C => ?_)
  refine C.to [(h0, .inr (5, [.null, .null, .null, .null, .null, .null, .null, .null, .null, .null, .null, .int 0, .int 0, .int 0, .int 0, .int 0, .int 0, .int 0]))] (h0 + 1) 0 0 0 [] rfl rfl rfl rfl rfl rfl ?_
  refine C.obj (idx := 3) (by decide +kernel) (by decide +kernel) (by decide +kernel) (by decide) ?_
  refine C.aload (by decide +kernel) ?_
  refine C.bipush (i := 8) (v := 8) (by decide +kernel) (by decide +kernel) ?_
  refine C.newarr (aty := .int) (ty := .int) (kd := 1) (n := 8) (by decide +kernel) rfl (by decide) (by decide +kernel) (by decide +kernel) (by decide +kernel) (by decide) (by decide) ?_
  refine C.to [(h0, .inr (5, [.null, .null, .null, .null, .null, .null, .null, .null, .null, .null, .null, .int 0, .int 0, .int 0, .int 0, .int 0, .int 0, .int 0])), (h0 + 1, .inl (kcls E 1, 8, .inl (fun _ => 0)))] (h0 + 2) 1 8 9 [.ref (h0 + 1), .ref h0] rfl rfl rfl rfl rfl rfl ?_
  refine C.put (idx := 9) (ci := 5) (j := 0) (by decide +kernel) (by decide +kernel) (by decide +kernel) rfl rfl rfl (Nat.le_of_ble_eq_true rfl) ?_
  refine C.to [(h0, .inr (5, [.ref (h0 + 1), .null, .null, .null, .null, .null, .null, .null, .null, .null, .null, .int 0, .int 0, .int 0, .int 0, .int 0, .int 0, .int 0])), (h0 + 1, .inl (kcls E 1, 8, .inl (fun _ => 0)))] (h0 + 2) 1 8 12 [] rfl rfl rfl rfl rfl rfl ?_
  refine C.aload (by decide +kernel) ?_
  refine C.bipush (i := 8) (v := 8) (by decide +kernel) (by decide +kernel) ?_
  refine C.newarr (aty := .int) (ty := .int) (kd := 1) (n := 8) (by decide +kernel) rfl (by decide) (by decide +kernel) (by decide +kernel) (by decide +kernel) (by decide) (by decide) ?_
  refine C.to [(h0, .inr (5, [.ref (h0 + 1), .null, .null, .null, .null, .null, .null, .null, .null, .null, .null, .int 0, .int 0, .int 0, .int 0, .int 0, .int 0, .int 0])), (h0 + 1, .inl (kcls E 1, 8, .inl (fun _ => 0))), (h0 + 2, .inl (kcls E 1, 8, .inl (fun _ => 0)))] (h0 + 3) 2 16 17 [.ref (h0 + 2), .ref h0] rfl rfl rfl rfl rfl rfl ?_
  refine C.put (idx := 15) (ci := 5) (j := 1) (by decide +kernel) (by decide +kernel) (by decide +kernel) rfl rfl rfl (Nat.le_of_ble_eq_true rfl) ?_
  refine C.to [(h0, .inr (5, [.ref (h0 + 1), .ref (h0 + 2), .null, .null, .null, .null, .null, .null, .null, .null, .null, .int 0, .int 0, .int 0, .int 0, .int 0, .int 0, .int 0])), (h0 + 1, .inl (kcls E 1, 8, .inl (fun _ => 0))), (h0 + 2, .inl (kcls E 1, 8, .inl (fun _ => 0)))] (h0 + 3) 2 16 20 [] rfl rfl rfl rfl rfl rfl ?_
  refine C.aload (by decide +kernel) ?_
  refine C.bipush (i := 8) (v := 8) (by decide +kernel) (by decide +kernel) ?_
  refine C.newarr (aty := .int) (ty := .int) (kd := 1) (n := 8) (by decide +kernel) rfl (by decide) (by decide +kernel) (by decide +kernel) (by decide +kernel) (by decide) (by decide) ?_
  refine C.to [(h0, .inr (5, [.ref (h0 + 1), .ref (h0 + 2), .null, .null, .null, .null, .null, .null, .null, .null, .null, .int 0, .int 0, .int 0, .int 0, .int 0, .int 0, .int 0])), (h0 + 1, .inl (kcls E 1, 8, .inl (fun _ => 0))), (h0 + 2, .inl (kcls E 1, 8, .inl (fun _ => 0))), (h0 + 3, .inl (kcls E 1, 8, .inl (fun _ => 0)))] (h0 + 4) 3 24 25 [.ref (h0 + 3), .ref h0] rfl rfl rfl rfl rfl rfl ?_
  refine C.put (idx := 18) (ci := 5) (j := 2) (by decide +kernel) (by decide +kernel) (by decide +kernel) rfl rfl rfl (Nat.le_of_ble_eq_true rfl) ?_
  refine C.to [(h0, .inr (5, [.ref (h0 + 1), .ref (h0 + 2), .ref (h0 + 3), .null, .null, .null, .null, .null, .null, .null, .null, .int 0, .int 0, .int 0, .int 0, .int 0, .int 0, .int 0])), (h0 + 1, .inl (kcls E 1, 8, .inl (fun _ => 0))), (h0 + 2, .inl (kcls E 1, 8, .inl (fun _ => 0))), (h0 + 3, .inl (kcls E 1, 8, .inl (fun _ => 0)))] (h0 + 4) 3 24 28 [] rfl rfl rfl rfl rfl rfl ?_
  refine C.aload (by decide +kernel) ?_
  refine C.bipush (i := 16) (v := 16) (by decide +kernel) (by decide +kernel) ?_
  refine C.newarr (aty := .int) (ty := .int) (kd := 1) (n := 16) (by decide +kernel) rfl (by decide) (by decide +kernel) (by decide +kernel) (by decide +kernel) (by decide) (by decide) ?_
  refine C.to [(h0, .inr (5, [.ref (h0 + 1), .ref (h0 + 2), .ref (h0 + 3), .null, .null, .null, .null, .null, .null, .null, .null, .int 0, .int 0, .int 0, .int 0, .int 0, .int 0, .int 0])), (h0 + 1, .inl (kcls E 1, 8, .inl (fun _ => 0))), (h0 + 2, .inl (kcls E 1, 8, .inl (fun _ => 0))), (h0 + 3, .inl (kcls E 1, 8, .inl (fun _ => 0))), (h0 + 4, .inl (kcls E 1, 16, .inl (fun _ => 0)))] (h0 + 5) 4 40 33 [.ref (h0 + 4), .ref h0] rfl rfl rfl rfl rfl rfl ?_
  refine C.put (idx := 21) (ci := 5) (j := 3) (by decide +kernel) (by decide +kernel) (by decide +kernel) rfl rfl rfl (Nat.le_of_ble_eq_true rfl) ?_
  refine C.to [(h0, .inr (5, [.ref (h0 + 1), .ref (h0 + 2), .ref (h0 + 3), .ref (h0 + 4), .null, .null, .null, .null, .null, .null, .null, .int 0, .int 0, .int 0, .int 0, .int 0, .int 0, .int 0])), (h0 + 1, .inl (kcls E 1, 8, .inl (fun _ => 0))), (h0 + 2, .inl (kcls E 1, 8, .inl (fun _ => 0))), (h0 + 3, .inl (kcls E 1, 8, .inl (fun _ => 0))), (h0 + 4, .inl (kcls E 1, 16, .inl (fun _ => 0)))] (h0 + 5) 4 40 36 [] rfl rfl rfl rfl rfl rfl ?_
  refine C.aload (by decide +kernel) ?_
  refine C.bipush (i := 16) (v := 16) (by decide +kernel) (by decide +kernel) ?_
  refine C.newarr (aty := .int) (ty := .int) (kd := 1) (n := 16) (by decide +kernel) rfl (by decide) (by decide +kernel) (by decide +kernel) (by decide +kernel) (by decide) (by decide) ?_
  refine C.to [(h0, .inr (5, [.ref (h0 + 1), .ref (h0 + 2), .ref (h0 + 3), .ref (h0 + 4), .null, .null, .null, .null, .null, .null, .null, .int 0, .int 0, .int 0, .int 0, .int 0, .int 0, .int 0])), (h0 + 1, .inl (kcls E 1, 8, .inl (fun _ => 0))), (h0 + 2, .inl (kcls E 1, 8, .inl (fun _ => 0))), (h0 + 3, .inl (kcls E 1, 8, .inl (fun _ => 0))), (h0 + 4, .inl (kcls E 1, 16, .inl (fun _ => 0))), (h0 + 5, .inl (kcls E 1, 16, .inl (fun _ => 0)))] (h0 + 6) 5 56 41 [.ref (h0 + 5), .ref h0] rfl rfl rfl rfl rfl rfl ?_
  refine C.put (idx := 24) (ci := 5) (j := 4) (by decide +kernel) (by decide +kernel) (by decide +kernel) rfl rfl rfl (Nat.le_of_ble_eq_true rfl) ?_
  refine C.to [(h0, .inr (5, [.ref (h0 + 1), .ref (h0 + 2), .ref (h0 + 3), .ref (h0 + 4), .ref (h0 + 5), .null, .null, .null, .null, .null, .null, .int 0, .int 0, .int 0, .int 0, .int 0, .int 0, .int 0])), (h0 + 1, .inl (kcls E 1, 8, .inl (fun _ => 0))), (h0 + 2, .inl (kcls E 1, 8, .inl (fun _ => 0))), (h0 + 3, .inl (kcls E 1, 8, .inl (fun _ => 0))), (h0 + 4, .inl (kcls E 1, 16, .inl (fun _ => 0))), (h0 + 5, .inl (kcls E 1, 16, .inl (fun _ => 0)))] (h0 + 6) 5 56 44 [] rfl rfl rfl rfl rfl rfl ?_
  refine C.aload (by decide +kernel) ?_
  refine C.bipush (i := 16) (v := 16) (by decide +kernel) (by decide +kernel) ?_
  refine C.newarr (aty := .int) (ty := .int) (kd := 1) (n := 16) (by decide +kernel) rfl (by decide) (by decide +kernel) (by decide +kernel) (by decide +kernel) (by decide) (by decide) ?_
  refine C.to [(h0, .inr (5, [.ref (h0 + 1), .ref (h0 + 2), .ref (h0 + 3), .ref (h0 + 4), .ref (h0 + 5), .null, .null, .null, .null, .null, .null, .int 0, .int 0, .int 0, .int 0, .int 0, .int 0, .int 0])), (h0 + 1, .inl (kcls E 1, 8, .inl (fun _ => 0))), (h0 + 2, .inl (kcls E 1, 8, .inl (fun _ => 0))), (h0 + 3, .inl (kcls E 1, 8, .inl (fun _ => 0))), (h0 + 4, .inl (kcls E 1, 16, .inl (fun _ => 0))), (h0 + 5, .inl (kcls E 1, 16, .inl (fun _ => 0))), (h0 + 6, .inl (kcls E 1, 16, .inl (fun _ => 0)))] (h0 + 7) 6 72 49 [.ref (h0 + 6), .ref h0] rfl rfl rfl rfl rfl rfl ?_
  refine C.put (idx := 27) (ci := 5) (j := 5) (by decide +kernel) (by decide +kernel) (by decide +kernel) rfl rfl rfl (Nat.le_of_ble_eq_true rfl) ?_
  refine C.to [(h0, .inr (5, [.ref (h0 + 1), .ref (h0 + 2), .ref (h0 + 3), .ref (h0 + 4), .ref (h0 + 5), .ref (h0 + 6), .null, .null, .null, .null, .null, .int 0, .int 0, .int 0, .int 0, .int 0, .int 0, .int 0])), (h0 + 1, .inl (kcls E 1, 8, .inl (fun _ => 0))), (h0 + 2, .inl (kcls E 1, 8, .inl (fun _ => 0))), (h0 + 3, .inl (kcls E 1, 8, .inl (fun _ => 0))), (h0 + 4, .inl (kcls E 1, 16, .inl (fun _ => 0))), (h0 + 5, .inl (kcls E 1, 16, .inl (fun _ => 0))), (h0 + 6, .inl (kcls E 1, 16, .inl (fun _ => 0)))] (h0 + 7) 6 72 52 [] rfl rfl rfl rfl rfl rfl ?_
  refine C.aload (by decide +kernel) ?_
  refine C.bipush (i := 16) (v := 16) (by decide +kernel) (by decide +kernel) ?_
  refine C.newarr (aty := .int) (ty := .int) (kd := 1) (n := 16) (by decide +kernel) rfl (by decide) (by decide +kernel) (by decide +kernel) (by decide +kernel) (by decide) (by decide) ?_
  refine C.to [(h0, .inr (5, [.ref (h0 + 1), .ref (h0 + 2), .ref (h0 + 3), .ref (h0 + 4), .ref (h0 + 5), .ref (h0 + 6), .null, .null, .null, .null, .null, .int 0, .int 0, .int 0, .int 0, .int 0, .int 0, .int 0])), (h0 + 1, .inl (kcls E 1, 8, .inl (fun _ => 0))), (h0 + 2, .inl (kcls E 1, 8, .inl (fun _ => 0))), (h0 + 3, .inl (kcls E 1, 8, .inl (fun _ => 0))), (h0 + 4, .inl (kcls E 1, 16, .inl (fun _ => 0))), (h0 + 5, .inl (kcls E 1, 16, .inl (fun _ => 0))), (h0 + 6, .inl (kcls E 1, 16, .inl (fun _ => 0))), (h0 + 7, .inl (kcls E 1, 16, .inl (fun _ => 0)))] (h0 + 8) 7 88 57 [.ref (h0 + 7), .ref h0] rfl rfl rfl rfl rfl rfl ?_
  refine C.put (idx := 30) (ci := 5) (j := 6) (by decide +kernel) (by decide +kernel) (by decide +kernel) rfl rfl rfl (Nat.le_of_ble_eq_true rfl) ?_
  refine C.to [(h0, .inr (5, [.ref (h0 + 1), .ref (h0 + 2), .ref (h0 + 3), .ref (h0 + 4), .ref (h0 + 5), .ref (h0 + 6), .ref (h0 + 7), .null, .null, .null, .null, .int 0, .int 0, .int 0, .int 0, .int 0, .int 0, .int 0])), (h0 + 1, .inl (kcls E 1, 8, .inl (fun _ => 0))), (h0 + 2, .inl (kcls E 1, 8, .inl (fun _ => 0))), (h0 + 3, .inl (kcls E 1, 8, .inl (fun _ => 0))), (h0 + 4, .inl (kcls E 1, 16, .inl (fun _ => 0))), (h0 + 5, .inl (kcls E 1, 16, .inl (fun _ => 0))), (h0 + 6, .inl (kcls E 1, 16, .inl (fun _ => 0))), (h0 + 7, .inl (kcls E 1, 16, .inl (fun _ => 0)))] (h0 + 8) 7 88 60 [] rfl rfl rfl rfl rfl rfl ?_
  refine C.aload (by decide +kernel) ?_
  refine C.bipush (i := 16) (v := 16) (by decide +kernel) (by decide +kernel) ?_
  refine C.newarr (aty := .int) (ty := .int) (kd := 1) (n := 16) (by decide +kernel) rfl (by decide) (by decide +kernel) (by decide +kernel) (by decide +kernel) (by decide) (by decide) ?_
  refine C.to [(h0, .inr (5, [.ref (h0 + 1), .ref (h0 + 2), .ref (h0 + 3), .ref (h0 + 4), .ref (h0 + 5), .ref (h0 + 6), .ref (h0 + 7), .null, .null, .null, .null, .int 0, .int 0, .int 0, .int 0, .int 0, .int 0, .int 0])), (h0 + 1, .inl (kcls E 1, 8, .inl (fun _ => 0))), (h0 + 2, .inl (kcls E 1, 8, .inl (fun _ => 0))), (h0 + 3, .inl (kcls E 1, 8, .inl (fun _ => 0))), (h0 + 4, .inl (kcls E 1, 16, .inl (fun _ => 0))), (h0 + 5, .inl (kcls E 1, 16, .inl (fun _ => 0))), (h0 + 6, .inl (kcls E 1, 16, .inl (fun _ => 0))), (h0 + 7, .inl (kcls E 1, 16, .inl (fun _ => 0))), (h0 + 8, .inl (kcls E 1, 16, .inl (fun _ => 0)))] (h0 + 9) 8 104 65 [.ref (h0 + 8), .ref h0] rfl rfl rfl rfl rfl rfl ?_
  refine C.put (idx := 33) (ci := 5) (j := 7) (by decide +kernel) (by decide +kernel) (by decide +kernel) rfl rfl rfl (Nat.le_of_ble_eq_true rfl) ?_
  refine C.to [(h0, .inr (5, [.ref (h0 + 1), .ref (h0 + 2), .ref (h0 + 3), .ref (h0 + 4), .ref (h0 + 5), .ref (h0 + 6), .ref (h0 + 7), .ref (h0 + 8), .null, .null, .null, .int 0, .int 0, .int 0, .int 0, .int 0, .int 0, .int 0])), (h0 + 1, .inl (kcls E 1, 8, .inl (fun _ => 0))), (h0 + 2, .inl (kcls E 1, 8, .inl (fun _ => 0))), (h0 + 3, .inl (kcls E 1, 8, .inl (fun _ => 0))), (h0 + 4, .inl (kcls E 1, 16, .inl (fun _ => 0))), (h0 + 5, .inl (kcls E 1, 16, .inl (fun _ => 0))), (h0 + 6, .inl (kcls E 1, 16, .inl (fun _ => 0))), (h0 + 7, .inl (kcls E 1, 16, .inl (fun _ => 0))), (h0 + 8, .inl (kcls E 1, 16, .inl (fun _ => 0)))] (h0 + 9) 8 104 68 [] rfl rfl rfl rfl rfl rfl ?_
  refine C.aload (by decide +kernel) ?_
  refine C.bipush (i := 8) (v := 8) (by decide +kernel) (by decide +kernel) ?_
  refine C.newarr (aty := .int) (ty := .int) (kd := 1) (n := 8) (by decide +kernel) rfl (by decide) (by decide +kernel) (by decide +kernel) (by decide +kernel) (by decide) (by decide) ?_
  refine C.to [(h0, .inr (5, [.ref (h0 + 1), .ref (h0 + 2), .ref (h0 + 3), .ref (h0 + 4), .ref (h0 + 5), .ref (h0 + 6), .ref (h0 + 7), .ref (h0 + 8), .null, .null, .null, .int 0, .int 0, .int 0, .int 0, .int 0, .int 0, .int 0])), (h0 + 1, .inl (kcls E 1, 8, .inl (fun _ => 0))), (h0 + 2, .inl (kcls E 1, 8, .inl (fun _ => 0))), (h0 + 3, .inl (kcls E 1, 8, .inl (fun _ => 0))), (h0 + 4, .inl (kcls E 1, 16, .inl (fun _ => 0))), (h0 + 5, .inl (kcls E 1, 16, .inl (fun _ => 0))), (h0 + 6, .inl (kcls E 1, 16, .inl (fun _ => 0))), (h0 + 7, .inl (kcls E 1, 16, .inl (fun _ => 0))), (h0 + 8, .inl (kcls E 1, 16, .inl (fun _ => 0))), (h0 + 9, .inl (kcls E 1, 8, .inl (fun _ => 0)))] (h0 + 10) 9 112 73 [.ref (h0 + 9), .ref h0] rfl rfl rfl rfl rfl rfl ?_
  refine C.put (idx := 36) (ci := 5) (j := 8) (by decide +kernel) (by decide +kernel) (by decide +kernel) rfl rfl rfl (Nat.le_of_ble_eq_true rfl) ?_
  refine C.to [(h0, .inr (5, [.ref (h0 + 1), .ref (h0 + 2), .ref (h0 + 3), .ref (h0 + 4), .ref (h0 + 5), .ref (h0 + 6), .ref (h0 + 7), .ref (h0 + 8), .ref (h0 + 9), .null, .null, .int 0, .int 0, .int 0, .int 0, .int 0, .int 0, .int 0])), (h0 + 1, .inl (kcls E 1, 8, .inl (fun _ => 0))), (h0 + 2, .inl (kcls E 1, 8, .inl (fun _ => 0))), (h0 + 3, .inl (kcls E 1, 8, .inl (fun _ => 0))), (h0 + 4, .inl (kcls E 1, 16, .inl (fun _ => 0))), (h0 + 5, .inl (kcls E 1, 16, .inl (fun _ => 0))), (h0 + 6, .inl (kcls E 1, 16, .inl (fun _ => 0))), (h0 + 7, .inl (kcls E 1, 16, .inl (fun _ => 0))), (h0 + 8, .inl (kcls E 1, 16, .inl (fun _ => 0))), (h0 + 9, .inl (kcls E 1, 8, .inl (fun _ => 0)))] (h0 + 10) 9 112 76 [] rfl rfl rfl rfl rfl rfl ?_
  refine C.aload (by decide +kernel) ?_
  refine C.bipush (i := 8) (v := 8) (by decide +kernel) (by decide +kernel) ?_
  refine C.newarr (aty := .int) (ty := .int) (kd := 1) (n := 8) (by decide +kernel) rfl (by decide) (by decide +kernel) (by decide +kernel) (by decide +kernel) (by decide) (by decide) ?_
  refine C.to [(h0, .inr (5, [.ref (h0 + 1), .ref (h0 + 2), .ref (h0 + 3), .ref (h0 + 4), .ref (h0 + 5), .ref (h0 + 6), .ref (h0 + 7), .ref (h0 + 8), .ref (h0 + 9), .null, .null, .int 0, .int 0, .int 0, .int 0, .int 0, .int 0, .int 0])), (h0 + 1, .inl (kcls E 1, 8, .inl (fun _ => 0))), (h0 + 2, .inl (kcls E 1, 8, .inl (fun _ => 0))), (h0 + 3, .inl (kcls E 1, 8, .inl (fun _ => 0))), (h0 + 4, .inl (kcls E 1, 16, .inl (fun _ => 0))), (h0 + 5, .inl (kcls E 1, 16, .inl (fun _ => 0))), (h0 + 6, .inl (kcls E 1, 16, .inl (fun _ => 0))), (h0 + 7, .inl (kcls E 1, 16, .inl (fun _ => 0))), (h0 + 8, .inl (kcls E 1, 16, .inl (fun _ => 0))), (h0 + 9, .inl (kcls E 1, 8, .inl (fun _ => 0))), (h0 + 10, .inl (kcls E 1, 8, .inl (fun _ => 0)))] (h0 + 11) 10 120 81 [.ref (h0 + 10), .ref h0] rfl rfl rfl rfl rfl rfl ?_
  refine C.put (idx := 39) (ci := 5) (j := 9) (by decide +kernel) (by decide +kernel) (by decide +kernel) rfl rfl rfl (Nat.le_of_ble_eq_true rfl) ?_
  refine C.to [(h0, .inr (5, [.ref (h0 + 1), .ref (h0 + 2), .ref (h0 + 3), .ref (h0 + 4), .ref (h0 + 5), .ref (h0 + 6), .ref (h0 + 7), .ref (h0 + 8), .ref (h0 + 9), .ref (h0 + 10), .null, .int 0, .int 0, .int 0, .int 0, .int 0, .int 0, .int 0])), (h0 + 1, .inl (kcls E 1, 8, .inl (fun _ => 0))), (h0 + 2, .inl (kcls E 1, 8, .inl (fun _ => 0))), (h0 + 3, .inl (kcls E 1, 8, .inl (fun _ => 0))), (h0 + 4, .inl (kcls E 1, 16, .inl (fun _ => 0))), (h0 + 5, .inl (kcls E 1, 16, .inl (fun _ => 0))), (h0 + 6, .inl (kcls E 1, 16, .inl (fun _ => 0))), (h0 + 7, .inl (kcls E 1, 16, .inl (fun _ => 0))), (h0 + 8, .inl (kcls E 1, 16, .inl (fun _ => 0))), (h0 + 9, .inl (kcls E 1, 8, .inl (fun _ => 0))), (h0 + 10, .inl (kcls E 1, 8, .inl (fun _ => 0)))] (h0 + 11) 10 120 84 [] rfl rfl rfl rfl rfl rfl ?_
  refine C.aload (by decide +kernel) ?_
  refine C.bipush (i := 8) (v := 8) (by decide +kernel) (by decide +kernel) ?_
  refine C.newarr (aty := .int) (ty := .int) (kd := 1) (n := 8) (by decide +kernel) rfl (by decide) (by decide +kernel) (by decide +kernel) (by decide +kernel) (by decide) (by decide) ?_
  refine C.to [(h0, .inr (5, [.ref (h0 + 1), .ref (h0 + 2), .ref (h0 + 3), .ref (h0 + 4), .ref (h0 + 5), .ref (h0 + 6), .ref (h0 + 7), .ref (h0 + 8), .ref (h0 + 9), .ref (h0 + 10), .null, .int 0, .int 0, .int 0, .int 0, .int 0, .int 0, .int 0])), (h0 + 1, .inl (kcls E 1, 8, .inl (fun _ => 0))), (h0 + 2, .inl (kcls E 1, 8, .inl (fun _ => 0))), (h0 + 3, .inl (kcls E 1, 8, .inl (fun _ => 0))), (h0 + 4, .inl (kcls E 1, 16, .inl (fun _ => 0))), (h0 + 5, .inl (kcls E 1, 16, .inl (fun _ => 0))), (h0 + 6, .inl (kcls E 1, 16, .inl (fun _ => 0))), (h0 + 7, .inl (kcls E 1, 16, .inl (fun _ => 0))), (h0 + 8, .inl (kcls E 1, 16, .inl (fun _ => 0))), (h0 + 9, .inl (kcls E 1, 8, .inl (fun _ => 0))), (h0 + 10, .inl (kcls E 1, 8, .inl (fun _ => 0))), (h0 + 11, .inl (kcls E 1, 8, .inl (fun _ => 0)))] (h0 + 12) 11 128 89 [.ref (h0 + 11), .ref h0] rfl rfl rfl rfl rfl rfl ?_
  refine C.put (idx := 42) (ci := 5) (j := 10) (by decide +kernel) (by decide +kernel) (by decide +kernel) rfl rfl rfl (Nat.le_of_ble_eq_true rfl) ?_
  refine C.to [(h0, .inr (5, [.ref (h0 + 1), .ref (h0 + 2), .ref (h0 + 3), .ref (h0 + 4), .ref (h0 + 5), .ref (h0 + 6), .ref (h0 + 7), .ref (h0 + 8), .ref (h0 + 9), .ref (h0 + 10), .ref (h0 + 11), .int 0, .int 0, .int 0, .int 0, .int 0, .int 0, .int 0])), (h0 + 1, .inl (kcls E 1, 8, .inl (fun _ => 0))), (h0 + 2, .inl (kcls E 1, 8, .inl (fun _ => 0))), (h0 + 3, .inl (kcls E 1, 8, .inl (fun _ => 0))), (h0 + 4, .inl (kcls E 1, 16, .inl (fun _ => 0))), (h0 + 5, .inl (kcls E 1, 16, .inl (fun _ => 0))), (h0 + 6, .inl (kcls E 1, 16, .inl (fun _ => 0))), (h0 + 7, .inl (kcls E 1, 16, .inl (fun _ => 0))), (h0 + 8, .inl (kcls E 1, 16, .inl (fun _ => 0))), (h0 + 9, .inl (kcls E 1, 8, .inl (fun _ => 0))), (h0 + 10, .inl (kcls E 1, 8, .inl (fun _ => 0))), (h0 + 11, .inl (kcls E 1, 8, .inl (fun _ => 0)))] (h0 + 12) 11 128 92 [] rfl rfl rfl rfl rfl rfl ?_
  refine C.aload (by decide +kernel) ?_
  refine C.iconst (i := 0) (v := 0) (by decide +kernel) (by decide +kernel) ?_
  refine C.put (idx := 45) (ci := 5) (j := 11) (by decide +kernel) (by decide +kernel) (by decide +kernel) rfl rfl rfl (Nat.le_of_ble_eq_true rfl) ?_
  refine C.to [(h0, .inr (5, [.ref (h0 + 1), .ref (h0 + 2), .ref (h0 + 3), .ref (h0 + 4), .ref (h0 + 5), .ref (h0 + 6), .ref (h0 + 7), .ref (h0 + 8), .ref (h0 + 9), .ref (h0 + 10), .ref (h0 + 11), .int 0, .int 0, .int 0, .int 0, .int 0, .int 0, .int 0])), (h0 + 1, .inl (kcls E 1, 8, .inl (fun _ => 0))), (h0 + 2, .inl (kcls E 1, 8, .inl (fun _ => 0))), (h0 + 3, .inl (kcls E 1, 8, .inl (fun _ => 0))), (h0 + 4, .inl (kcls E 1, 16, .inl (fun _ => 0))), (h0 + 5, .inl (kcls E 1, 16, .inl (fun _ => 0))), (h0 + 6, .inl (kcls E 1, 16, .inl (fun _ => 0))), (h0 + 7, .inl (kcls E 1, 16, .inl (fun _ => 0))), (h0 + 8, .inl (kcls E 1, 16, .inl (fun _ => 0))), (h0 + 9, .inl (kcls E 1, 8, .inl (fun _ => 0))), (h0 + 10, .inl (kcls E 1, 8, .inl (fun _ => 0))), (h0 + 11, .inl (kcls E 1, 8, .inl (fun _ => 0)))] (h0 + 12) 11 128 97 [] rfl rfl rfl rfl rfl rfl ?_
  refine C.aload (by decide +kernel) ?_
  refine C.iconst (i := 0) (v := 0) (by decide +kernel) (by decide +kernel) ?_
  refine C.put (idx := 49) (ci := 5) (j := 12) (by decide +kernel) (by decide +kernel) (by decide +kernel) rfl rfl rfl (Nat.le_of_ble_eq_true rfl) ?_
  refine C.to [(h0, .inr (5, [.ref (h0 + 1), .ref (h0 + 2), .ref (h0 + 3), .ref (h0 + 4), .ref (h0 + 5), .ref (h0 + 6), .ref (h0 + 7), .ref (h0 + 8), .ref (h0 + 9), .ref (h0 + 10), .ref (h0 + 11), .int 0, .int 0, .int 0, .int 0, .int 0, .int 0, .int 0])), (h0 + 1, .inl (kcls E 1, 8, .inl (fun _ => 0))), (h0 + 2, .inl (kcls E 1, 8, .inl (fun _ => 0))), (h0 + 3, .inl (kcls E 1, 8, .inl (fun _ => 0))), (h0 + 4, .inl (kcls E 1, 16, .inl (fun _ => 0))), (h0 + 5, .inl (kcls E 1, 16, .inl (fun _ => 0))), (h0 + 6, .inl (kcls E 1, 16, .inl (fun _ => 0))), (h0 + 7, .inl (kcls E 1, 16, .inl (fun _ => 0))), (h0 + 8, .inl (kcls E 1, 16, .inl (fun _ => 0))), (h0 + 9, .inl (kcls E 1, 8, .inl (fun _ => 0))), (h0 + 10, .inl (kcls E 1, 8, .inl (fun _ => 0))), (h0 + 11, .inl (kcls E 1, 8, .inl (fun _ => 0)))] (h0 + 12) 11 128 102 [] rfl rfl rfl rfl rfl rfl ?_
  refine C.aload (by decide +kernel) ?_
  refine C.iconst (i := 0) (v := 0) (by decide +kernel) (by decide +kernel) ?_
  refine C.put (idx := 52) (ci := 5) (j := 13) (by decide +kernel) (by decide +kernel) (by decide +kernel) rfl rfl rfl (Nat.le_of_ble_eq_true rfl) ?_
  refine C.to [(h0, .inr (5, [.ref (h0 + 1), .ref (h0 + 2), .ref (h0 + 3), .ref (h0 + 4), .ref (h0 + 5), .ref (h0 + 6), .ref (h0 + 7), .ref (h0 + 8), .ref (h0 + 9), .ref (h0 + 10), .ref (h0 + 11), .int 0, .int 0, .int 0, .int 0, .int 0, .int 0, .int 0])), (h0 + 1, .inl (kcls E 1, 8, .inl (fun _ => 0))), (h0 + 2, .inl (kcls E 1, 8, .inl (fun _ => 0))), (h0 + 3, .inl (kcls E 1, 8, .inl (fun _ => 0))), (h0 + 4, .inl (kcls E 1, 16, .inl (fun _ => 0))), (h0 + 5, .inl (kcls E 1, 16, .inl (fun _ => 0))), (h0 + 6, .inl (kcls E 1, 16, .inl (fun _ => 0))), (h0 + 7, .inl (kcls E 1, 16, .inl (fun _ => 0))), (h0 + 8, .inl (kcls E 1, 16, .inl (fun _ => 0))), (h0 + 9, .inl (kcls E 1, 8, .inl (fun _ => 0))), (h0 + 10, .inl (kcls E 1, 8, .inl (fun _ => 0))), (h0 + 11, .inl (kcls E 1, 8, .inl (fun _ => 0)))] (h0 + 12) 11 128 107 [] rfl rfl rfl rfl rfl rfl ?_
  refine C.aload (by decide +kernel) ?_
  refine C.iconst (i := 2) (v := 2) (by decide +kernel) (by decide +kernel) ?_
  refine C.put (idx := 55) (ci := 5) (j := 14) (by decide +kernel) (by decide +kernel) (by decide +kernel) rfl rfl rfl (Nat.le_of_ble_eq_true rfl) ?_
  refine C.to [(h0, .inr (5, [.ref (h0 + 1), .ref (h0 + 2), .ref (h0 + 3), .ref (h0 + 4), .ref (h0 + 5), .ref (h0 + 6), .ref (h0 + 7), .ref (h0 + 8), .ref (h0 + 9), .ref (h0 + 10), .ref (h0 + 11), .int 0, .int 0, .int 0, .int 2, .int 0, .int 0, .int 0])), (h0 + 1, .inl (kcls E 1, 8, .inl (fun _ => 0))), (h0 + 2, .inl (kcls E 1, 8, .inl (fun _ => 0))), (h0 + 3, .inl (kcls E 1, 8, .inl (fun _ => 0))), (h0 + 4, .inl (kcls E 1, 16, .inl (fun _ => 0))), (h0 + 5, .inl (kcls E 1, 16, .inl (fun _ => 0))), (h0 + 6, .inl (kcls E 1, 16, .inl (fun _ => 0))), (h0 + 7, .inl (kcls E 1, 16, .inl (fun _ => 0))), (h0 + 8, .inl (kcls E 1, 16, .inl (fun _ => 0))), (h0 + 9, .inl (kcls E 1, 8, .inl (fun _ => 0))), (h0 + 10, .inl (kcls E 1, 8, .inl (fun _ => 0))), (h0 + 11, .inl (kcls E 1, 8, .inl (fun _ => 0)))] (h0 + 12) 11 128 112 [] rfl rfl rfl rfl rfl rfl ?_
  refine C.aload (by decide +kernel) ?_
  refine C.iconst (i := 2) (v := 2) (by decide +kernel) (by decide +kernel) ?_
  refine C.put (idx := 58) (ci := 5) (j := 15) (by decide +kernel) (by decide +kernel) (by decide +kernel) rfl rfl rfl (Nat.le_of_ble_eq_true rfl) ?_
  refine C.to [(h0, .inr (5, [.ref (h0 + 1), .ref (h0 + 2), .ref (h0 + 3), .ref (h0 + 4), .ref (h0 + 5), .ref (h0 + 6), .ref (h0 + 7), .ref (h0 + 8), .ref (h0 + 9), .ref (h0 + 10), .ref (h0 + 11), .int 0, .int 0, .int 0, .int 2, .int 2, .int 0, .int 0])), (h0 + 1, .inl (kcls E 1, 8, .inl (fun _ => 0))), (h0 + 2, .inl (kcls E 1, 8, .inl (fun _ => 0))), (h0 + 3, .inl (kcls E 1, 8, .inl (fun _ => 0))), (h0 + 4, .inl (kcls E 1, 16, .inl (fun _ => 0))), (h0 + 5, .inl (kcls E 1, 16, .inl (fun _ => 0))), (h0 + 6, .inl (kcls E 1, 16, .inl (fun _ => 0))), (h0 + 7, .inl (kcls E 1, 16, .inl (fun _ => 0))), (h0 + 8, .inl (kcls E 1, 16, .inl (fun _ => 0))), (h0 + 9, .inl (kcls E 1, 8, .inl (fun _ => 0))), (h0 + 10, .inl (kcls E 1, 8, .inl (fun _ => 0))), (h0 + 11, .inl (kcls E 1, 8, .inl (fun _ => 0)))] (h0 + 12) 11 128 117 [] rfl rfl rfl rfl rfl rfl ?_
  refine C.aload (by decide +kernel) ?_
  refine C.iconst (i := 1) (v := 1) (by decide +kernel) (by decide +kernel) ?_
  refine C.put (idx := 61) (ci := 5) (j := 16) (by decide +kernel) (by decide +kernel) (by decide +kernel) rfl rfl rfl (Nat.le_of_ble_eq_true rfl) ?_
  refine C.to [(h0, .inr (5, [.ref (h0 + 1), .ref (h0 + 2), .ref (h0 + 3), .ref (h0 + 4), .ref (h0 + 5), .ref (h0 + 6), .ref (h0 + 7), .ref (h0 + 8), .ref (h0 + 9), .ref (h0 + 10), .ref (h0 + 11), .int 0, .int 0, .int 0, .int 2, .int 2, .int 1, .int 0])), (h0 + 1, .inl (kcls E 1, 8, .inl (fun _ => 0))), (h0 + 2, .inl (kcls E 1, 8, .inl (fun _ => 0))), (h0 + 3, .inl (kcls E 1, 8, .inl (fun _ => 0))), (h0 + 4, .inl (kcls E 1, 16, .inl (fun _ => 0))), (h0 + 5, .inl (kcls E 1, 16, .inl (fun _ => 0))), (h0 + 6, .inl (kcls E 1, 16, .inl (fun _ => 0))), (h0 + 7, .inl (kcls E 1, 16, .inl (fun _ => 0))), (h0 + 8, .inl (kcls E 1, 16, .inl (fun _ => 0))), (h0 + 9, .inl (kcls E 1, 8, .inl (fun _ => 0))), (h0 + 10, .inl (kcls E 1, 8, .inl (fun _ => 0))), (h0 + 11, .inl (kcls E 1, 8, .inl (fun _ => 0)))] (h0 + 12) 11 128 122 [] rfl rfl rfl rfl rfl rfl ?_
  refine C.aload (by decide +kernel) ?_
  refine C.bipush (i := 99) (v := 99) (by decide +kernel) (by decide +kernel) ?_
  refine C.put (idx := 64) (ci := 5) (j := 17) (by decide +kernel) (by decide +kernel) (by decide +kernel) rfl rfl rfl (Nat.le_of_ble_eq_true rfl) ?_
  refine C.to [(h0, .inr (5, [.ref (h0 + 1), .ref (h0 + 2), .ref (h0 + 3), .ref (h0 + 4), .ref (h0 + 5), .ref (h0 + 6), .ref (h0 + 7), .ref (h0 + 8), .ref (h0 + 9), .ref (h0 + 10), .ref (h0 + 11), .int 0, .int 0, .int 0, .int 2, .int 2, .int 1, .int 99])), (h0 + 1, .inl (kcls E 1, 8, .inl (fun _ => 0))), (h0 + 2, .inl (kcls E 1, 8, .inl (fun _ => 0))), (h0 + 3, .inl (kcls E 1, 8, .inl (fun _ => 0))), (h0 + 4, .inl (kcls E 1, 16, .inl (fun _ => 0))), (h0 + 5, .inl (kcls E 1, 16, .inl (fun _ => 0))), (h0 + 6, .inl (kcls E 1, 16, .inl (fun _ => 0))), (h0 + 7, .inl (kcls E 1, 16, .inl (fun _ => 0))), (h0 + 8, .inl (kcls E 1, 16, .inl (fun _ => 0))), (h0 + 9, .inl (kcls E 1, 8, .inl (fun _ => 0))), (h0 + 10, .inl (kcls E 1, 8, .inl (fun _ => 0))), (h0 + 11, .inl (kcls E 1, 8, .inl (fun _ => 0)))] (h0 + 12) 11 128 128 [] rfl rfl rfl rfl rfl rfl ?_
  exact C.ret (by decide +kernel) rfl rfl
def wc6 (E : ET) (h0 : Nat) : va_W := [(h0, .inr (6, [.ref (h0 + 1), .ref (h0 + 2), .ref (h0 + 3)])), (h0 + 1, .inl (kcls E 1, 160, .inl (fun _ => 0))), (h0 + 2, .inl (kcls E 1, 4, .inl (fun _ => 0))), (h0 + 3, .inl (kcls E 1, 4, .inl (upd (upd (upd (upd (fun _ => 0) (Int32.toNatClampNeg 0) (-1)) (Int32.toNatClampNeg 1) (-1)) (Int32.toNatClampNeg 2) (-1)) (Int32.toNatClampNeg 3) (-1))))]
set_option maxRecDepth 20000 in
set_option maxHeartbeats 4000000 in
theorem n_X6_init {E : ET} {h0 : Nat} : Ctc E (fun _ => True) 1 6 3 168 yX6_init cX6_init 1 h0 (wc6 E h0) := by
  refine Ctc.of 6 rfl rfl (by decide +kernel) (by decide) (fun K C => ?_)
  refine C.to [(h0, .inr (6, [.null, .null, .null]))] (h0 + 1) 0 0 0 [] rfl rfl rfl rfl rfl rfl ?_
  refine C.obj (idx := 3) (by decide +kernel) (by decide +kernel) (by decide +kernel) (by decide) ?_
  refine C.aload (by decide +kernel) ?_
  refine C.sipush (i := 160) (v := 160) (by decide +kernel) (by decide +kernel) ?_
  refine C.newarr (aty := .int) (ty := .int) (kd := 1) (n := 160) (by decide +kernel) rfl (by decide) (by decide +kernel) (by decide +kernel) (by decide +kernel) (by decide) (by decide) ?_
  refine C.to [(h0, .inr (6, [.null, .null, .null])), (h0 + 1, .inl (kcls E 1, 160, .inl (fun _ => 0)))] (h0 + 2) 1 160 10 [.ref (h0 + 1), .ref h0] rfl rfl rfl rfl rfl rfl ?_
  refine C.put (idx := 11) (ci := 6) (j := 0) (by decide +kernel) (by decide +kernel) (by decide +kernel) rfl rfl rfl (Nat.le_of_ble_eq_true rfl) ?_
  refine C.to [(h0, .inr (6, [.ref (h0 + 1), .null, .null])), (h0 + 1, .inl (kcls E 1, 160, .inl (fun _ => 0)))] (h0 + 2) 1 160 13 [] rfl rfl rfl rfl rfl rfl ?_
  refine C.aload (by decide +kernel) ?_
  refine C.iconst (i := 4) (v := 4) (by decide +kernel) (by decide +kernel) ?_
  refine C.newarr (aty := .int) (ty := .int) (kd := 1) (n := 4) (by decide +kernel) rfl (by decide) (by decide +kernel) (by decide +kernel) (by decide +kernel) (by decide) (by decide) ?_
  refine C.to [(h0, .inr (6, [.ref (h0 + 1), .null, .null])), (h0 + 1, .inl (kcls E 1, 160, .inl (fun _ => 0))), (h0 + 2, .inl (kcls E 1, 4, .inl (fun _ => 0)))] (h0 + 3) 2 164 17 [.ref (h0 + 2), .ref h0] rfl rfl rfl rfl rfl rfl ?_
  refine C.put (idx := 15) (ci := 6) (j := 1) (by decide +kernel) (by decide +kernel) (by decide +kernel) rfl rfl rfl (Nat.le_of_ble_eq_true rfl) ?_
  refine C.to [(h0, .inr (6, [.ref (h0 + 1), .ref (h0 + 2), .null])), (h0 + 1, .inl (kcls E 1, 160, .inl (fun _ => 0))), (h0 + 2, .inl (kcls E 1, 4, .inl (fun _ => 0)))] (h0 + 3) 2 164 20 [] rfl rfl rfl rfl rfl rfl ?_
  refine C.aload (by decide +kernel) ?_
  refine C.iconst (i := 4) (v := 4) (by decide +kernel) (by decide +kernel) ?_
  refine C.newarr (aty := .int) (ty := .int) (kd := 1) (n := 4) (by decide +kernel) rfl (by decide) (by decide +kernel) (by decide +kernel) (by decide +kernel) (by decide) (by decide) ?_
  refine C.to [(h0, .inr (6, [.ref (h0 + 1), .ref (h0 + 2), .null])), (h0 + 1, .inl (kcls E 1, 160, .inl (fun _ => 0))), (h0 + 2, .inl (kcls E 1, 4, .inl (fun _ => 0))), (h0 + 3, .inl (kcls E 1, 4, .inl (fun _ => 0)))] (h0 + 4) 3 168 24 [.ref (h0 + 3), .ref h0] rfl rfl rfl rfl rfl rfl ?_
  refine C.dup (by decide +kernel) ?_
  refine C.iconst (i := 0) (v := 0) (by decide +kernel) (by decide +kernel) ?_
  refine C.iconst (i := (-1)) (v := (-1)) (by decide +kernel) (by decide +kernel) ?_
  refine C.iast (i := 3) (by decide +kernel) rfl (by decide +kernel) ?_
  refine C.to [(h0, .inr (6, [.ref (h0 + 1), .ref (h0 + 2), .null])), (h0 + 1, .inl (kcls E 1, 160, .inl (fun _ => 0))), (h0 + 2, .inl (kcls E 1, 4, .inl (fun _ => 0))), (h0 + 3, .inl (kcls E 1, 4, .inl (upd (fun _ => 0) (Int32.toNatClampNeg 0) (-1))))] (h0 + 4) 3 168 28 [.ref (h0 + 3), .ref h0] rfl rfl rfl rfl rfl rfl ?_
  refine C.dup (by decide +kernel) ?_
  refine C.iconst (i := 1) (v := 1) (by decide +kernel) (by decide +kernel) ?_
  refine C.iconst (i := (-1)) (v := (-1)) (by decide +kernel) (by decide +kernel) ?_
  refine C.iast (i := 3) (by decide +kernel) rfl (by decide +kernel) ?_
  refine C.to [(h0, .inr (6, [.ref (h0 + 1), .ref (h0 + 2), .null])), (h0 + 1, .inl (kcls E 1, 160, .inl (fun _ => 0))), (h0 + 2, .inl (kcls E 1, 4, .inl (fun _ => 0))), (h0 + 3, .inl (kcls E 1, 4, .inl (upd (upd (fun _ => 0) (Int32.toNatClampNeg 0) (-1)) (Int32.toNatClampNeg 1) (-1))))] (h0 + 4) 3 168 32 [.ref (h0 + 3), .ref h0] rfl rfl rfl rfl rfl rfl ?_
  refine C.dup (by decide +kernel) ?_
  refine C.iconst (i := 2) (v := 2) (by decide +kernel) (by decide +kernel) ?_
  refine C.iconst (i := (-1)) (v := (-1)) (by decide +kernel) (by decide +kernel) ?_
  refine C.iast (i := 3) (by decide +kernel) rfl (by decide +kernel) ?_
  refine C.to [(h0, .inr (6, [.ref (h0 + 1), .ref (h0 + 2), .null])), (h0 + 1, .inl (kcls E 1, 160, .inl (fun _ => 0))), (h0 + 2, .inl (kcls E 1, 4, .inl (fun _ => 0))), (h0 + 3, .inl (kcls E 1, 4, .inl (upd (upd (upd (fun _ => 0) (Int32.toNatClampNeg 0) (-1)) (Int32.toNatClampNeg 1) (-1)) (Int32.toNatClampNeg 2) (-1))))] (h0 + 4) 3 168 36 [.ref (h0 + 3), .ref h0] rfl rfl rfl rfl rfl rfl ?_
  refine C.dup (by decide +kernel) ?_
  refine C.iconst (i := 3) (v := 3) (by decide +kernel) (by decide +kernel) ?_
  refine C.iconst (i := (-1)) (v := (-1)) (by decide +kernel) (by decide +kernel) ?_
  refine C.iast (i := 3) (by decide +kernel) rfl (by decide +kernel) ?_
  refine C.to [(h0, .inr (6, [.ref (h0 + 1), .ref (h0 + 2), .null])), (h0 + 1, .inl (kcls E 1, 160, .inl (fun _ => 0))), (h0 + 2, .inl (kcls E 1, 4, .inl (fun _ => 0))), (h0 + 3, .inl (kcls E 1, 4, .inl (upd (upd (upd (upd (fun _ => 0) (Int32.toNatClampNeg 0) (-1)) (Int32.toNatClampNeg 1) (-1)) (Int32.toNatClampNeg 2) (-1)) (Int32.toNatClampNeg 3) (-1))))] (h0 + 4) 3 168 40 [.ref (h0 + 3), .ref h0] rfl rfl rfl rfl rfl rfl ?_
  refine C.put (idx := 18) (ci := 6) (j := 2) (by decide +kernel) (by decide +kernel) (by decide +kernel) rfl rfl rfl (Nat.le_of_ble_eq_true rfl) ?_
  refine C.to [(h0, .inr (6, [.ref (h0 + 1), .ref (h0 + 2), .ref (h0 + 3)])), (h0 + 1, .inl (kcls E 1, 160, .inl (fun _ => 0))), (h0 + 2, .inl (kcls E 1, 4, .inl (fun _ => 0))), (h0 + 3, .inl (kcls E 1, 4, .inl (upd (upd (upd (upd (fun _ => 0) (Int32.toNatClampNeg 0) (-1)) (Int32.toNatClampNeg 1) (-1)) (Int32.toNatClampNeg 2) (-1)) (Int32.toNatClampNeg 3) (-1))))] (h0 + 4) 3 168 43 [] rfl rfl rfl rfl rfl rfl ?_
  exact C.ret (by decide +kernel) rfl rfl
def wc7 (E : ET) (h0 : Nat) : va_W := [(h0, .inr (7, [.ref (h0 + 1), .ref (h0 + 2), .ref (h0 + 3), .ref (h0 + 4)])), (h0 + 1, .inl (kcls E 1, 12, .inl (fun _ => 0))), (h0 + 2, .inl (kcls E 1, 12, .inl (fun _ => 0))), (h0 + 3, .inl (kcls E 1, 2, .inl (fun _ => 0))), (h0 + 4, .inl (kcls E 1, 164, .inl (fun _ => 0)))]
set_option maxRecDepth 20000 in
set_option maxHeartbeats 4000000 in
theorem n_X7_init {E : ET} {h0 : Nat} : Ctc E (fun _ => True) 1 7 4 190 yX7_init cX7_init 1 h0 (wc7 E h0) := by
  refine Ctc.of 7 rfl rfl (by decide +kernel) (by decide) (fun K C => ?_)
  refine C.to [(h0, .inr (7, [.null, .null, .null, .null]))] (h0 + 1) 0 0 0 [] rfl rfl rfl rfl rfl rfl ?_
  refine C.obj (idx := 3) (by decide +kernel) (by decide +kernel) (by decide +kernel) (by decide) ?_
  refine C.aload (by decide +kernel) ?_
  refine C.bipush (i := 12) (v := 12) (by decide +kernel) (by decide +kernel) ?_
  refine C.newarr (aty := .int) (ty := .int) (kd := 1) (n := 12) (by decide +kernel) rfl (by decide) (by decide +kernel) (by decide +kernel) (by decide +kernel) (by decide) (by decide) ?_
  refine C.to [(h0, .inr (7, [.null, .null, .null, .null])), (h0 + 1, .inl (kcls E 1, 12, .inl (fun _ => 0)))] (h0 + 2) 1 12 9 [.ref (h0 + 1), .ref h0] rfl rfl rfl rfl rfl rfl ?_
  refine C.put (idx := 11) (ci := 7) (j := 0) (by decide +kernel) (by decide +kernel) (by decide +kernel) rfl rfl rfl (Nat.le_of_ble_eq_true rfl) ?_
  refine C.to [(h0, .inr (7, [.ref (h0 + 1), .null, .null, .null])), (h0 + 1, .inl (kcls E 1, 12, .inl (fun _ => 0)))] (h0 + 2) 1 12 12 [] rfl rfl rfl rfl rfl rfl ?_
  refine C.aload (by decide +kernel) ?_
  refine C.bipush (i := 12) (v := 12) (by decide +kernel) (by decide +kernel) ?_
  refine C.newarr (aty := .int) (ty := .int) (kd := 1) (n := 12) (by decide +kernel) rfl (by decide) (by decide +kernel) (by decide +kernel) (by decide +kernel) (by decide) (by decide) ?_
  refine C.to [(h0, .inr (7, [.ref (h0 + 1), .null, .null, .null])), (h0 + 1, .inl (kcls E 1, 12, .inl (fun _ => 0))), (h0 + 2, .inl (kcls E 1, 12, .inl (fun _ => 0)))] (h0 + 3) 2 24 17 [.ref (h0 + 2), .ref h0] rfl rfl rfl rfl rfl rfl ?_
  refine C.put (idx := 15) (ci := 7) (j := 1) (by decide +kernel) (by decide +kernel) (by decide +kernel) rfl rfl rfl (Nat.le_of_ble_eq_true rfl) ?_
  refine C.to [(h0, .inr (7, [.ref (h0 + 1), .ref (h0 + 2), .null, .null])), (h0 + 1, .inl (kcls E 1, 12, .inl (fun _ => 0))), (h0 + 2, .inl (kcls E 1, 12, .inl (fun _ => 0)))] (h0 + 3) 2 24 20 [] rfl rfl rfl rfl rfl rfl ?_
  refine C.aload (by decide +kernel) ?_
  refine C.iconst (i := 2) (v := 2) (by decide +kernel) (by decide +kernel) ?_
  refine C.newarr (aty := .int) (ty := .int) (kd := 1) (n := 2) (by decide +kernel) rfl (by decide) (by decide +kernel) (by decide +kernel) (by decide +kernel) (by decide) (by decide) ?_
  refine C.to [(h0, .inr (7, [.ref (h0 + 1), .ref (h0 + 2), .null, .null])), (h0 + 1, .inl (kcls E 1, 12, .inl (fun _ => 0))), (h0 + 2, .inl (kcls E 1, 12, .inl (fun _ => 0))), (h0 + 3, .inl (kcls E 1, 2, .inl (fun _ => 0)))] (h0 + 4) 3 26 24 [.ref (h0 + 3), .ref h0] rfl rfl rfl rfl rfl rfl ?_
  refine C.put (idx := 18) (ci := 7) (j := 2) (by decide +kernel) (by decide +kernel) (by decide +kernel) rfl rfl rfl (Nat.le_of_ble_eq_true rfl) ?_
  refine C.to [(h0, .inr (7, [.ref (h0 + 1), .ref (h0 + 2), .ref (h0 + 3), .null])), (h0 + 1, .inl (kcls E 1, 12, .inl (fun _ => 0))), (h0 + 2, .inl (kcls E 1, 12, .inl (fun _ => 0))), (h0 + 3, .inl (kcls E 1, 2, .inl (fun _ => 0)))] (h0 + 4) 3 26 27 [] rfl rfl rfl rfl rfl rfl ?_
  refine C.aload (by decide +kernel) ?_
  refine C.sipush (i := 164) (v := 164) (by decide +kernel) (by decide +kernel) ?_
  refine C.newarr (aty := .int) (ty := .int) (kd := 1) (n := 164) (by decide +kernel) rfl (by decide) (by decide +kernel) (by decide +kernel) (by decide +kernel) (by decide) (by decide) ?_
  refine C.to [(h0, .inr (7, [.ref (h0 + 1), .ref (h0 + 2), .ref (h0 + 3), .null])), (h0 + 1, .inl (kcls E 1, 12, .inl (fun _ => 0))), (h0 + 2, .inl (kcls E 1, 12, .inl (fun _ => 0))), (h0 + 3, .inl (kcls E 1, 2, .inl (fun _ => 0))), (h0 + 4, .inl (kcls E 1, 164, .inl (fun _ => 0)))] (h0 + 5) 4 190 33 [.ref (h0 + 4), .ref h0] rfl rfl rfl rfl rfl rfl ?_
  refine C.put (idx := 21) (ci := 7) (j := 3) (by decide +kernel) (by decide +kernel) (by decide +kernel) rfl rfl rfl (Nat.le_of_ble_eq_true rfl) ?_
  refine C.to [(h0, .inr (7, [.ref (h0 + 1), .ref (h0 + 2), .ref (h0 + 3), .ref (h0 + 4)])), (h0 + 1, .inl (kcls E 1, 12, .inl (fun _ => 0))), (h0 + 2, .inl (kcls E 1, 12, .inl (fun _ => 0))), (h0 + 3, .inl (kcls E 1, 2, .inl (fun _ => 0))), (h0 + 4, .inl (kcls E 1, 164, .inl (fun _ => 0)))] (h0 + 5) 4 190 36 [] rfl rfl rfl rfl rfl rfl ?_
  exact C.ret (by decide +kernel) rfl rfl
def wc8 (E : ET) (h0 : Nat) : va_W := [(h0, .inr (8, [.ref (h0 + 1), .int 0])), (h0 + 1, .inl (kcls E 2, 400, .inl (fun _ => 0)))]
set_option maxRecDepth 20000 in
set_option maxHeartbeats 4000000 in
theorem n_X8_init {E : ET} {h0 : Nat} : Ctc E (fun _ => True) 1 8 1 400 yX8_init cX8_init 1 h0 (wc8 E h0) := by
  refine Ctc.of 8 rfl rfl (by decide +kernel) (by decide) (fun K C => ?_)
  refine C.to [(h0, .inr (8, [.null, .int 0]))] (h0 + 1) 0 0 0 [] rfl rfl rfl rfl rfl rfl ?_
  refine C.obj (idx := 3) (by decide +kernel) (by decide +kernel) (by decide +kernel) (by decide) ?_
  refine C.aload (by decide +kernel) ?_
  refine C.sipush (i := 400) (v := 400) (by decide +kernel) (by decide +kernel) ?_
  refine C.newarr (aty := .byte) (ty := .byte) (kd := 2) (n := 400) (by decide +kernel) rfl (by decide) (by decide +kernel) (by decide +kernel) (by decide +kernel) (by decide) (by decide) ?_
  refine C.to [(h0, .inr (8, [.null, .int 0])), (h0 + 1, .inl (kcls E 2, 400, .inl (fun _ => 0)))] (h0 + 2) 1 400 10 [.ref (h0 + 1), .ref h0] rfl rfl rfl rfl rfl rfl ?_
  refine C.put (idx := 11) (ci := 8) (j := 0) (by decide +kernel) (by decide +kernel) (by decide +kernel) rfl rfl rfl (Nat.le_of_ble_eq_true rfl) ?_
  refine C.to [(h0, .inr (8, [.ref (h0 + 1), .int 0])), (h0 + 1, .inl (kcls E 2, 400, .inl (fun _ => 0)))] (h0 + 2) 1 400 13 [] rfl rfl rfl rfl rfl rfl ?_
  refine C.aload (by decide +kernel) ?_
  refine C.iconst (i := 0) (v := 0) (by decide +kernel) (by decide +kernel) ?_
  refine C.put (idx := 15) (ci := 8) (j := 1) (by decide +kernel) (by decide +kernel) (by decide +kernel) rfl rfl rfl (Nat.le_of_ble_eq_true rfl) ?_
  refine C.to [(h0, .inr (8, [.ref (h0 + 1), .int 0])), (h0 + 1, .inl (kcls E 2, 400, .inl (fun _ => 0)))] (h0 + 2) 1 400 18 [] rfl rfl rfl rfl rfl rfl ?_
  exact C.ret (by decide +kernel) rfl rfl
