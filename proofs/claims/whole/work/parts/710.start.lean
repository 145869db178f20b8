/-! the law's start: both objects are made -/
theorem d_law_0 : decode code 0 = .ok (.new 7, 3) := by decide +kernel
theorem d_law_3 : decode code 3 = .ok (.dup, 1) := by decide +kernel
theorem d_law_4 : decode code 4 = .ok (.invokespecial 9, 3) := by decide +kernel
theorem d_law_7 : decode code 7 = .ok (.astore_n 1, 1) := by decide +kernel
theorem d_law_8 : decode code 8 = .ok (.new 10, 3) := by decide +kernel
theorem d_law_11 : decode code 11 = .ok (.dup, 1) := by decide +kernel
theorem d_law_12 : decode code 12 = .ok (.invokespecial 12, 3) := by decide +kernel
theorem d_law_15 : decode code 15 = .ok (.astore_n 2, 1) := by decide +kernel
theorem d_law_16 : decode code 16 = .ok (.iconst 0, 1) := by decide +kernel
theorem d_law_17 : decode code 17 = .ok (.istore_n 3, 1) := by decide +kernel
theorem in_9 : Cond.classLink RL 7 (clT 9).1 ∈ lw_tbl ∧ Cond.instantiable (clT 9).1 (clT 9).2.2 ∈ lw_tbl ∧ Cond.initialized (clT 9).1 ∈ lw_tbl := ⟨List.mem_of_getElem? (i := 69) (by decide +kernel), in_ins 9 (by omega), List.mem_of_getElem? (i := 52) (by decide +kernel)⟩
theorem in_10 : Cond.classLink RL 10 (clT 10).1 ∈ lw_tbl ∧ Cond.instantiable (clT 10).1 (clT 10).2.2 ∈ lw_tbl ∧ Cond.initialized (clT 10).1 ∈ lw_tbl := ⟨List.mem_of_getElem? (i := 1029) (by decide +kernel), in_ins 10 (by omega), List.mem_of_getElem? (i := 62) (by decide +kernel)⟩
theorem in_c9 : Cond.code yX9_init cX9_init 1 none ∈ lw_tbl ∧ Cond.initialized yX9_init.cls ∈ lw_tbl ∧ Cond.instanceMethod yX9_init ∈ lw_tbl ∧ Cond.methodLink RL 9 yX9_init ∈ lw_tbl := ⟨in_t1 (List.mem_of_getElem? (i := 22) rfl), List.mem_of_getElem? (i := 52) (by decide +kernel), List.mem_of_getElem? (i := 72) (by decide +kernel), List.mem_of_getElem? (i := 71) (by decide +kernel)⟩
theorem in_c10 : Cond.code yX10_init cX10_init 2 none ∈ lw_tbl ∧ Cond.initialized yX10_init.cls ∈ lw_tbl ∧ Cond.instanceMethod yX10_init ∈ lw_tbl ∧ Cond.methodLink RL 12 yX10_init ∈ lw_tbl := ⟨in_t5 (List.mem_of_getElem? (i := 22) rfl), List.mem_of_getElem? (i := 62) (by decide +kernel), List.mem_of_getElem? (i := 1032) (by decide +kernel), List.mem_of_getElem? (i := 1031) (by decide +kernel)⟩
theorem nm_9 : yX9_init.cls ≠ "java/lang/invoke/MethodHandle" ∧ yX9_init.cls ≠ "java/lang/invoke/VarHandle" ∧ (parseMethodDescriptor yX9_init.desc).map (fun d => d.parameters.length) = some 0 := by decide +kernel
theorem nm_10 : yX10_init.cls ≠ "java/lang/invoke/MethodHandle" ∧ yX10_init.cls ≠ "java/lang/invoke/VarHandle" ∧ (parseMethodDescriptor yX10_init.desc).map (fun d => d.parameters.length) = some 0 := by decide +kernel
section STA
variable {E : ET} {p : Program} {e : Env} {R : Room} {s : State} {m : MethodId} {args : Array Value} {below : List Frame} {meth : Method} {c : Code} {nL : Nat} {Q : State → Prop}
variable {cc : ByteArray} {own : String} {pc : Nat} {A : Nat → Prop} {ls : Array Slot} {ws : va_W} {N nc ns : Nat} {st : List Value} {H : Heap} {locs : List Loc}
/-- a new object, at the heap's end -/
theorem W_newc (S : CallFix p m c cc nL s args wt own) (hK : va_K (eD E) vwCl (etys E) s) (hA : ∀ q, s.heap.size ≤ q → A q) {idx ci : Nat} (hd : decode cc pc = .ok (.new idx, 3)) (hc : ci < 11) (hcl : Cond.classLink own idx (clT ci).1 ∈ lw_tbl ∧ Cond.instantiable (clT ci).1 (clT ci).2.2 ∈ lw_tbl ∧ Cond.initialized (clT ci).1 ∈ lw_tbl) (hk1 : nc + 1 ≤ R.cells) (hk2 : ns + (clT ci).2.2 ≤ R.slots) (h1 : H.size = N) (hP : va_P (eD E) vwCl ws H) (hD : va_D A ws) (hS : va_S A s.heap H locs)
    (k : ∀ H1 : Heap, H1.size = N + 1 → va_P (eD E) vwCl (ws ++ [(N, .inr (ci, dfl ci))]) H1 → va_D A (ws ++ [(N, .inr (ci, dfl ci))]) → va_S A s.heap H1 locs → W p (eL E) e R s m args below meth c H1 locs (nc + 1) (ns + (clT ci).2.2) Q (F0 m (pc + 3) ls (.ref N :: st))) : W p (eL E) e R s m args below meth c H locs nc ns Q (F0 m pc ls st) := by
  have hts := S.2.2.2.2
  have hKn := hK.1 ci _ (clT_at ci hc)
  refine W.newcK S.1 S.2.1 S.2.2.2.1 (hts _ (wt_of hcl.1 rfl)) (hts _ (wt_of hcl.2.1 rfl)) (hts _ (wt_of hcl.2.2 rfl)) rfl hd hk1 hk2 hKn.2.1 h1 fun H1 kC hkC e1 z1 o1 => ?_
  have hk : ∀ (k : Nat) (x : Nat × va_E), ws[k]? = some x → H1[x.1]? = H[x.1]? := fun k x hx => o1 x.1 (by rw [← h1]; exact (hP k x hx).lt)
  refine k H1 z1 ((hP.kept hk).app (fun k x hx => ?_)) (hD.push hP h1.symm (hA N (by have := hS.1; omega))) ⟨by have := hS.1; omega, fun x g1 g2 => (o1 x (by have := hS.1; omega)).trans (hS.2.1 x g1 g2), hS.2.2⟩
  have hz : k < 1 := (List.getElem?_eq_some_iff.mp hx).1
  rw [show k = 0 by omega] at hx
  cases hx
  exact ⟨_, clT_at ci hc, (u_born (ty_cl ci) hts (in_wt hc) hKn hkC e1 (ty_cl_ok ci _ _ _ (clT_at ci hc))).to (dfl_ok ci hc)⟩
theorem W_init9 {B : Nat} (S : CallFix p m c code 4 s args wt RL) (hK : va_K (eD E) vwCl (etys E) s) (hN : NEST s) (hB : s.heap.size = B) (h1 : H.size = B + 1) (hP : va_P (eD E) vwCl [(B, .inr (9, dfl 9))] H) (hS : va_S (fun a => B ≤ a) s.heap H locs) (hl : ls.size = 4) (hf : nc + 53 ≤ room_1.cells ∧ ns + 1895 ≤ room_1.slots)
    (k : ∀ (H1 : Heap) (locs1 : List Loc), H1.size = B + 54 → va_P (eD E) vwCl (wc9 E B) H1 → va_D (fun a => B ≤ a) (wc9 E B) → va_S (fun a => B ≤ a) s.heap H1 locs1 → W p (eL E) e room_1 s m args below meth c H1 locs1 (nc + 53) (ns + 1895) Q (F0 m 7 ls [.ref B])) : W p (eL E) e room_1 s m args below meth c H locs nc ns Q (F0 m 4 ls [.ref B, .ref B]) := by
  obtain ⟨g1, g2, g3, g4⟩ := in_c9
  have hrun := va_runI (p := p) (l := eL E) (e := e) (R := room_1) (meth := meth) (locs := locs) (below := below) (cells := nc) (slots := ns) (H := H) (As := []) (rest := [.ref B]) (b := B) (g := F0 m 4 ls [.ref B, .ref B]) S (n_X9_init (E := E) (h0 := B))
    ⟨callB_of (R := room_1) 0 S.2.2.2.2 (wt_sub g1) rfl rfl rfl (S.2.2.2.2 _ (wt_of g2 rfl)) (S.2.2.2.2 _ (wt_of g4 rfl)) nm_9 ⟨Nat.le_of_ble_eq_true rfl, Nat.le_of_ble_eq_true rfl⟩, rfl, S.2.2.2.2 _ (wt_of g3 rfl)⟩
    ⟨fun a2 U g mk q => by obtain ⟨q0, q1, q2, q3, q4⟩ := q; exact ⟨q0, q1, q2, va_K.moved (u := U) (U := U.calling g mk a2) (Vm.Alike.refl U.vm) q3, fun t ht => va_Nw.same rfl rfl (q4 t ht)⟩, fun U hU hWm => ⟨rfl, by rw [hU, h1], by rw [hU]; exact hP, va_K.moved hWm.alike hK, fun t ht => va_Nw.warmM hWm (hN t ht)⟩⟩ rfl rfl hl rfl (lv_room (Nat.le_of_ble_eq_true rfl)) d_law_4 hf
  intro T hT X
  obtain ⟨v, st₀, t, T', L, e0, X', hL, e1, e2, ⟨hv, hz, hP', hD', hF⟩, stp⟩ := hrun T hT X
  have hv2 : v = none := Outcome.returned.inj hv
  subst hv2
  have hSn : va_S (fun a => B ≤ a) s.heap T'.heap (locs ++ L) := by
    refine ⟨?_, fun q a1 a2 => ?_, fun l hl2 => ?_⟩
    · rw [e1, hz]; have := hS.1; omega
    · have a3 : ¬ B ≤ q := a2
      rw [e1, hF.2 q (by rw [e0, h1]; omega) a3, e0]
      exact hS.2.1 q a1 a2
    · rcases List.mem_append.mp hl2 with h | h
      · exact hS.2.2 l h
      · exact hL l h
  obtain ⟨t2, a1, b1⟩ := k T'.heap (locs ++ L) (by rw [e1, hz]) (by rw [e1]; exact hP') hD' hSn T' rfl X'
  exact ⟨t2, stp t2 a1, b1⟩
theorem W_init10 {l : Launch} {D : va_G} {cy : ClassId × ClassId × ClassId} {kK kV : Nat → Nat} {kS B : Nat} {X : IT} (hX : f_X10_init I0 = some X) (S : CallFix p m c code 4 s args wt RL) (hC : Cq (mkE l D cy kK kV kS B) s) (h1 : H.size = B + 55) (hP : va_P D vwCl ((B + 54, .inr (10, dfl 10)) :: wc9 (mkE l D cy kK kV kS B) B) H) (hD : va_D (eA (mkE l D cy kK kV kS B)) ((B + 54, .inr (10, dfl 10)) :: wc9 (mkE l D cy kK kV kS B) B)) (hS : va_S (eA (mkE l D cy kK kV kS B)) s.heap H locs) (hl : ls.size = 4) (hf : nc + 30 ≤ room_1.cells ∧ ns + 1475 ≤ room_1.slots)
    (k : ∀ (H1 : Heap) (locs1 : List Loc), va_P D vwCl (wsOf (mkE l D cy kK kV kS B) X Z0) H1 → va_S (eA (mkE l D cy kK kV kS B)) s.heap H1 locs1 → W p l e room_1 s m args below meth c H1 locs1 (nc + 30) (ns + 1475) Q (F0 m 15 ls [.ref (B + 54)])) : W p l e room_1 s m args below meth c H locs nc ns Q (F0 m 12 ls [.ref (B + 54), .ref (B + 54)]) := by
  obtain ⟨g1, g2, g3, g4⟩ := in_c10
  have hrun := va_runI (p := p) (l := l) (e := e) (R := room_1) (meth := meth) (locs := locs) (below := below) (cells := nc) (slots := ns) (H := H) (As := []) (rest := [.ref (B + 54)]) (b := B + 54) (g := F0 m 12 ls [.ref (B + 54), .ref (B + 54)]) S (n_X10_init (l := l) (D := D) (cy := cy) (kK := kK) (kV := kV) (kS := kS) (B := B) hX)
    ⟨callB_of (R := room_1) 0 S.2.2.2.2 (wt_sub g1) rfl rfl rfl (S.2.2.2.2 _ (wt_of g2 rfl)) (S.2.2.2.2 _ (wt_of g4 rfl)) nm_10 ⟨Nat.le_of_ble_eq_true rfl, Nat.le_of_ble_eq_true rfl⟩, rfl, S.2.2.2.2 _ (wt_of g3 rfl)⟩
    ⟨fun a2 U g mk q => by obtain ⟨q0, q1, q2, q3, q4⟩ := q; exact ⟨q0, q1, q2, q3, q4.calling g mk a2⟩, fun U hU hWm => ⟨rfl, by rw [hU, h1], by rw [hU]; exact hP, hD, hC.go hU hS hWm⟩⟩ rfl rfl hl rfl (lv_room (Nat.le_of_ble_eq_true rfl)) d_law_12 hf
  intro T hT X2
  obtain ⟨v, st₀, t, T', L, e0, X', hL, e1, e2, ⟨hv, hP', hF⟩, stp⟩ := hrun T hT X2
  have hv2 : v = none := Outcome.returned.inj hv
  subst hv2
  have hSn : va_S (eA (mkE l D cy kK kV kS B)) s.heap T'.heap (locs ++ L) := by
    refine ⟨?_, fun q a1 a2 => ?_, fun l hl2 => ?_⟩
    · rw [e1]; exact Nat.le_trans hS.1 (by rw [← e0]; exact hF.1)
    · rw [e1, hF.2 q (by rw [e0]; exact Nat.lt_of_lt_of_le a1 hS.1) a2, e0]
      exact hS.2.1 q a1 a2
    · rcases List.mem_append.mp hl2 with h | h
      · exact hS.2.2 l h
      · exact hL l h
  obtain ⟨t2, a1, b1⟩ := k T'.heap (locs ++ L) (by rw [e1]; exact hP') hSn T' rfl X'
  exact ⟨t2, stp t2 a1, b1⟩
end STA
def nine : List Nat := [54, 0, 1, 2, 3, 4, 5, 6, 7, 8, 9, 10, 11, 12, 13, 14, 15, 16, 17, 18, 19, 20, 21, 22, 23, 24, 25, 26, 27, 28, 29, 30, 31, 32, 33, 34, 35, 36, 37, 38, 39, 40, 41, 42, 43, 44, 45, 46, 47, 48, 49, 50, 51, 52, 53]
set_option maxRecDepth 100000 in
set_option maxHeartbeats 8000000 in
theorem nine_P {E : ET} {B : Nat} : nine.filterMap (fun i => (wc9 E B ++ [(B + 54, .inr (10, dfl 10))] : va_W)[i]?) = (B + 54, .inr (10, dfl 10)) :: wc9 E B := rfl
set_option maxRecDepth 100000 in
set_option maxHeartbeats 8000000 in
theorem nine_D {E : ET} {B : Nat} : nine.map (fun i => (wc9 E B ++ [(B + 54, .inr (10, dfl 10))] : va_W)[i]?) = ((B + 54, .inr (10, dfl 10)) :: wc9 E B).map some := rfl
set_option maxRecDepth 100000 in
set_option maxHeartbeats 4000000 in
theorem whole_start {p : Program} {e : Env} {s : State} {m : MethodId} {below : List Frame} {meth : Method} {c : Code} (l : Launch) (hflags : l.flags = flags0) {b L : Nat} {xs : Nat → Int32} (hL : L ≤ 320) (C0 : lw_At p s m meth c b L xs) : W p l e room_1 s m #[Value.ref b] below meth c s.heap [] 0 0 (lw_Z below #[Value.ref b] s) (entryFrame m ([Value.ref b] : List Value).toArray 4) := by
  obtain ⟨hx, hb, hr, hml, hown, hts, hX, hbl, hlocks, hgv⟩ := id C0
  obtain ⟨D, cy, hK⟩ := K_of hts
  obtain ⟨kK, kV, hXF⟩ := XF_of hts hgv
  obtain ⟨X, hX0, hRel⟩ := st_init
  obtain ⟨B, hB⟩ : ∃ B, s.heap.size = B := ⟨_, rfl⟩
  have hC : Cq (mkE l D cy kK kV b B) s := ⟨hK, mkE_QD, Nat.le_of_eq hB.symm, hXF _ (fun _ => rfl) (fun _ => rfl) hB.symm⟩
  have S : CallFix p m c code 4 s #[Value.ref b] wt RL := ⟨hx, hb, hml, hown, fun w hw => hts w (wt_in hw)⟩
  have C : CL (mkE l D cy kK kV b B) b L xs (GO (mkE l D cy kK kV b B) p e room_1 s m #[Value.ref b] below meth c 4 (lw_Z below #[Value.ref b] s)) := ⟨p, e, s, m, below, meth, c, rfl, S, hC, hr, hlocks, hX, hbl, hB.symm, rfl⟩
  have hl := lv_entry ([.ref b]) (n := 4) (Nat.le_of_ble_eq_true rfl)
  rw [lg_entry_eq]
  generalize (lg_sl ([.ref b]) ++ List.replicate (4 - (lg_sl ([.ref b])).length) Slot.unset).toArray = ls at hl ⊢
  have hl : lv_has ls 4 [(0, .ref b)] := hl
  refine W_newc (E := mkE l D cy kK kV b B) (ws := []) (A := fun a => B ≤ a) S hK (fun q hq => by show B ≤ q; omega) d_law_0 (by omega) in_9 (Nat.le_of_ble_eq_true rfl) (Nat.le_of_ble_eq_true rfl) hB (fun k q h => by simp at h) ⟨fun i j p q h => by simp at h, fun k q h => by simp at h⟩ va_S.rf (fun H1 z1 hP1 hD1 hS1 => ?_)
  refine lv_dup hx hb d_law_3 rfl ?_
  refine W_init9 (E := mkE l D cy kK kV b B) S hK (NEST_of hts) hB z1 hP1 hS1 hl.1 ⟨Nat.le_of_ble_eq_true rfl, Nat.le_of_ble_eq_true rfl⟩ (fun H2 locs2 z2 hP2 hD2 hS2 => ?_)
  refine lv_astore_n (lv' := [(1, .ref B), (0, .ref b)]) hx hb d_law_7 rfl hl (by decide) rfl (fun ls hl => ?_)
  refine W_newc (E := mkE l D cy kK kV b B) (ws := wc9 (mkE l D cy kK kV b B) B) (A := fun a => B ≤ a) S hK (fun q hq => by show B ≤ q; omega) d_law_8 (by omega) in_10 (Nat.le_of_ble_eq_true rfl) (Nat.le_of_ble_eq_true rfl) z2 hP2 hD2 hS2 (fun H3 z3 hP3 hD3 hS3 => ?_)
  refine lv_dup hx hb d_law_11 rfl ?_
  refine W_init10 hX0 S hC z3 (hP3.sub nine nine_P) (hD3.sub nine (by decide) nine_D) hS3 hl.1 ⟨Nat.le_of_ble_eq_true rfl, Nat.le_of_ble_eq_true rfl⟩ (fun H4 locs4 hP4 hS4 => ?_)
  refine lv_astore_n (lv' := [(2, .ref (B + 54)), (1, .ref B), (0, .ref b)]) hx hb d_law_15 rfl hl (by decide) rfl (fun ls hl => ?_)
  refine lv_iconst (v := 0) hx hb d_law_16 (by decide) ?_
  refine lv_istore_n (lv' := [(3, .int 0), (2, .ref (B + 54)), (1, .ref B), (0, .ref b)]) hx hb d_law_17 rfl hl (by decide) rfl (fun ls hl => ?_)
  refine W.widen (k := room_1.cells) (n := room_1.slots) (Nat.le_of_ble_eq_true rfl) (Nat.le_of_ble_eq_true rfl) ?_
  refine law_loop C all_steps hL 65 0 (by omega) (by omega) X Z0 hRel H4 locs4 ls hP4 hS4 ⟨rfl, _, hl, fun i v hi => ?_⟩
  match i, hi with
  | 0, hi => cases hi; exact List.mem_cons_of_mem _ (List.mem_cons_of_mem _ (List.mem_cons_of_mem _ List.mem_cons_self))
  | 1, hi => cases hi; exact List.mem_cons_of_mem _ (List.mem_cons_of_mem _ List.mem_cons_self)
  | 2, hi => cases hi; exact List.mem_cons_of_mem _ List.mem_cons_self
  | 3, hi =>
    cases hi
    have h0 : nI (5 * 0) = 0 := nI_0
    show (3, Value.int (nI (5 * 0))) ∈ _
    rw [h0]
    exact List.mem_cons_self
  | i + 4, hi => simp at hi
