/-! the law's start: what its words and its premises give -/
abbrev stF : List Cond := flatC (Jvm.Cond.and given_1 narrow_1)
abbrev stT (k : Nat) : Term := .string RX3 (sidx k)
theorem in_sx : ∀ i, i < 9 → Cond.exactly (stT i) "java/lang/String" ∈ stF := by decide +kernel
theorem in_sc : ∀ i, i < 9 → Cond.eq (.field (stT i) "java/lang/String" "coder" "B") (.int 0) ∈ stF := by decide +kernel
theorem in_sa : ∀ i, i < 9 → Cond.arrayOf (.field (stT i) "java/lang/String" "value" "[B") .byte ∈ stF := by decide +kernel
theorem in_sl : ∀ i, i < 9 → Cond.eq (.length (.field (stT i) "java/lang/String" "value" "[B")) (.int (Int32.ofNat (slen.getD i 0))) ∈ stF := by decide +kernel
theorem in_se : ∀ i, i < 9 → ∀ j, j < slen.getD i 0 → Cond.eq (.elem (.field (stT i) "java/lang/String" "value" "[B") (.int (Int32.ofNat j))) (.int ((sbyt.getD i []).getD j 0)) ∈ stF := by decide +kernel
theorem in_sn : ∀ i, i < 9 → ∀ j, j < 9 → i ≠ j → Cond.not (Cond.eq (stT i) (stT j)) ∈ stF ∨ Cond.not (Cond.eq (stT j) (stT i)) ∈ stF := by decide +kernel
theorem in_s2 : Cond.eq (.static "java/lang/String" "COMPACT_STRINGS" "Z") (.int 1) ∈ stF ∧ Cond.isRef (.static "jdk/internal/util/Preconditions" "SIOOBE_FORMATTER" "Ljava/util/function/BiFunction;") ∈ stF := by decide +kernel
theorem in_sr : ∀ k, k < 9 → Cond.stringRef RX3 (sidx k) (stxt k) ∈ lw_tbl := by
  intro k hk
  match k, hk with
  | 0, _ => exact List.mem_of_getElem? (i := 443) (by decide +kernel)
  | 1, _ => exact List.mem_of_getElem? (i := 496) (by decide +kernel)
  | 2, _ => exact List.mem_of_getElem? (i := 497) (by decide +kernel)
  | 3, _ => exact List.mem_of_getElem? (i := 498) (by decide +kernel)
  | 4, _ => exact List.mem_of_getElem? (i := 499) (by decide +kernel)
  | 5, _ => exact List.mem_of_getElem? (i := 500) (by decide +kernel)
  | 6, _ => exact List.mem_of_getElem? (i := 501) (by decide +kernel)
  | 7, _ => exact List.mem_of_getElem? (i := 502) (by decide +kernel)
  | 8, _ => exact List.mem_of_getElem? (i := 531) (by decide +kernel)
  | k + 9, h => exact absurd h (by omega)
theorem in_ly : Cond.laysStatic "java/lang/String" "COMPACT_STRINGS" "Z" ∈ lw_tbl ∧ Cond.initialized "java/lang/String" ∈ lw_tbl ∧ Cond.laysStatic "jdk/internal/util/Preconditions" "SIOOBE_FORMATTER" "Ljava/util/function/BiFunction;" ∈ lw_tbl ∧ Cond.initialized "jdk/internal/util/Preconditions" ∈ lw_tbl ∧ Cond.methodLinkNest RX5 67 yX9_spanFits RX9 ∈ lw_tbl :=
  ⟨List.mem_of_getElem? (i := 457) (by decide +kernel), List.mem_of_getElem? (i := 64) (by decide +kernel), List.mem_of_getElem? (i := 473) (by decide +kernel), List.mem_of_getElem? (i := 66) (by decide +kernel), List.mem_of_getElem? (i := 1019) (by decide +kernel)⟩
theorem in_nest : ∀ t ∈ nestT, Cond.methodLinkNest RX9 t.1 t.2 RX9 ∈ lw_tbl := by
  intro t ht
  unfold nestT at ht
  simp only [List.mem_cons, List.not_mem_nil, or_false] at ht
  rcases ht with rfl | rfl | rfl | rfl | rfl | rfl | rfl | rfl | rfl
  · exact List.mem_of_getElem? (i := 79) (by decide +kernel)
  · exact List.mem_of_getElem? (i := 95) (by decide +kernel)
  · exact List.mem_of_getElem? (i := 138) (by decide +kernel)
  · exact List.mem_of_getElem? (i := 177) (by decide +kernel)
  · exact List.mem_of_getElem? (i := 197) (by decide +kernel)
  · exact List.mem_of_getElem? (i := 207) (by decide +kernel)
  · exact List.mem_of_getElem? (i := 224) (by decide +kernel)
  · exact List.mem_of_getElem? (i := 244) (by decide +kernel)
  · exact List.mem_of_getElem? (i := 261) (by decide +kernel)
theorem in_ins : ∀ ci, ci < 11 → Cond.instantiable (clT ci).1 (clT ci).2.2 ∈ lw_tbl := by
  intro ci h
  match ci, h with
  | 0, _ => exact List.mem_of_getElem? (i := 223) (by decide +kernel)
  | 1, _ => exact List.mem_of_getElem? (i := 196) (by decide +kernel)
  | 2, _ => exact List.mem_of_getElem? (i := 206) (by decide +kernel)
  | 3, _ => exact List.mem_of_getElem? (i := 94) (by decide +kernel)
  | 4, _ => exact List.mem_of_getElem? (i := 137) (by decide +kernel)
  | 5, _ => exact List.mem_of_getElem? (i := 260) (by decide +kernel)
  | 6, _ => exact List.mem_of_getElem? (i := 243) (by decide +kernel)
  | 7, _ => exact List.mem_of_getElem? (i := 176) (by decide +kernel)
  | 8, _ => exact List.mem_of_getElem? (i := 78) (by decide +kernel)
  | 9, _ => exact List.mem_of_getElem? (i := 70) (by decide +kernel)
  | 10, _ => exact List.mem_of_getElem? (i := 1030) (by decide +kernel)
  | k + 11, h => exact absurd h (by omega)
section STF
variable {s : State} {args : Array Value}
theorem NEST_of (hts : ∀ w ∈ lw_tbl, w.before args s = true) : NEST s := fun t ht => va_Nw.of rfl (hts _ (in_nest t ht))
theorem XF_of (hts : ∀ w ∈ lw_tbl, w.before args s = true) (hgv : (Jvm.Cond.and given_1 narrow_1).before args s = true) : ∃ kK kV : Nat → Nat, ∀ E : ET, (∀ k, eq E 20 false k = kK k) → (∀ k, eq E 21 false k = kV k) → ez E = s.heap.size → XF E s := by
  have hs : ∀ w ∈ stF, w.before args s = true := flat_of_before _ hgv
  have hA : ∀ a : Nat, a < s.heap.size → ¬ (fun a => s.heap.size ≤ a) a := fun a h => Nat.not_le.mpr h
  obtain ⟨kK, kV, hS, hev⟩ := vk_Sof (args := args) (s := s) (N := 9) (tm := stT) (len := slen) (byt := sbyt) (A := fun a => s.heap.size ≤ a) (by decide +kernel) (fun i hi => hs _ (in_sx i hi)) (fun i hi => hs _ (in_sc i hi)) (fun i hi => hs _ (in_sa i hi)) (fun i hi => hs _ (in_sl i hi)) (fun i hi j hj => hs _ (in_se i hi j hj)) (fun i j hi hj hn => (in_sn i hi j hj hn).imp (hs _) (hs _)) hA
  refine ⟨kK, kV, fun E e1 e2 e3 => ⟨va_Nw.of rfl (hts _ in_ly.2.2.2.2), fun k hk => ?_, ?_, ?_, ?_⟩⟩
  · rw [e1]
    exact vk_R.of (hts _ (in_sr k hk)) (hev k hk)
  · have f1 : (fun k => eq E 20 false k) = kK := funext e1
    have f2 : (fun k => eq E 21 false k) = kV := funext e2
    have f3 : eA E = fun a => s.heap.size ≤ a := by
      funext a
      show (ez E ≤ a) = _
      rw [e3]
    rw [f1, f2, f3]
    exact hS
  · refine va_Zof (hts _ in_ly.1) (hts _ in_ly.2.1) (va_eqi (hs _ in_s2.1)) (fun a h => ?_)
    show ¬ ez E ≤ a
    rw [e3]
    omega
  · have h := va_Zqof (A := eA E) (hts _ in_ly.2.2.1) (hts _ in_ly.2.2.2.1) (hs _ in_s2.2) (fun a h => by
      show ¬ ez E ≤ a
      rw [e3]
      omega)
    rcases h with h | ⟨t, h⟩
    · exact ⟨.null, rfl, h⟩
    · exact ⟨.ref t, rfl, h⟩
theorem arr_of {ty : FieldType} (h : (Cond.arrayClass ty).before args s = true) (hk : ∀ c, s.vm.findClass ("[" ++ ty.toString) = some c → va_RA s c ty) : ∃ c, ArrOfT s c ty ∧ va_RA s c ty := by
  obtain ⟨c, k, comp, h1, h2, h3⟩ := Cond.arrayClass_spec h
  exact ⟨c, fun n z => ⟨fun k h => (by cases h), k, h2, comp, h3⟩, hk c h1⟩
theorem K_of (hts : ∀ w ∈ lw_tbl, w.before args s = true) : ∃ (D : va_G) (cy : ClassId × ClassId × ClassId), va_K D vwCl [(cy.1, .byte), (cy.2.1, .int), (cy.2.2, .boolean)] s := by
  obtain ⟨cB, b1, b2⟩ := arr_of (hts _ arr_in.2.1) (fun c h => h)
  obtain ⟨cI, i1, i2⟩ := arr_of (hts _ arr_in.1) (fun c h => h)
  obtain ⟨cZ, z1, z2⟩ := arr_of (hts _ arr_in.2.2) (fun c h => h)
  have h : ∀ ci : Nat, ∃ q : ClassId × (Nat → Nat), ci < 11 → u_Kn s (clT ci).1 (clT ci).2.1 (clT ci).2.2 q.1 q.2 := by
    intro ci
    by_cases hc : ci < 11
    · obtain ⟨c, i, hk⟩ := u_known (C := (clT ci).1) (T := (clT ci).2.1) (N := (clT ci).2.2) (n := (clT ci).2.2) hts (in_cl ci _ _ _ (clT_at ci hc)) (hts _ (in_ins ci hc))
      exact ⟨(c, i), fun _ => hk⟩
    · exact ⟨(cB, fun _ => 0), fun z => absurd z hc⟩
  refine ⟨(fun ci => (Classical.choose (h ci)).1, fun ci => (Classical.choose (h ci)).2), (cB, cI, cZ), fun ci q hq => ?_, fun k q hk => ?_⟩
  · have hc : ci < 11 := (List.getElem?_eq_some_iff.mp hq).1
    have e : q = clT ci := Option.some.inj (hq.symm.trans (clT_at ci hc))
    subst e
    exact Classical.choose_spec (h ci) hc
  · match k, hk with
    | 0, hk => cases hk; exact ⟨b1, b2⟩
    | 1, hk => cases hk; exact ⟨i1, i2⟩
    | 2, hk => cases hk; exact ⟨z1, z2⟩
    | k + 3, hk => simp at hk
end STF
