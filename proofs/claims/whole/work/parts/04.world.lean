def fltab : List (Nat × Nat × Nat × Nat) := [(0, 11, 0, 0), (0, 15, 0, 1), (0, 18, 0, 2), (0, 21, 0, 3), (1, 9, 1, 0), (1, 15, 5, 12), (1, 25, 5, 3), (2, 11, 2, 0), (2, 15, 2, 1), (2, 18, 2, 2), (3, 9, 3, 0), (3, 15, 3, 1), (3, 19, 3, 2), (3, 23, 3, 3), (3, 26, 3, 4), (3, 29, 3, 5), (3, 32, 3, 6), (3, 35, 3, 7), (3, 38, 3, 8), (3, 41, 3, 9), (3, 44, 3, 10), (3, 114, 5, 11), (3, 123, 5, 12), (3, 129, 5, 13), (3, 149, 5, 1), (3, 159, 5, 7), (3, 166, 5, 14), (3, 168, 5, 15), (3, 170, 5, 16), (3, 172, 5, 17), (4, 9, 4, 0), (4, 15, 4, 1), (4, 18, 4, 2), (4, 21, 4, 3), (4, 24, 4, 4), (4, 27, 4, 5), (4, 30, 4, 6), (4, 34, 4, 7), (4, 37, 4, 8), (4, 40, 4, 9), (4, 51, 5, 14), (4, 68, 5, 12), (4, 71, 5, 3), (5, 9, 5, 0), (5, 15, 5, 1), (5, 18, 5, 2), (5, 21, 5, 3), (5, 24, 5, 4), (5, 27, 5, 5), (5, 30, 5, 6), (5, 33, 5, 7), (5, 36, 5, 8), (5, 39, 5, 9), (5, 42, 5, 10), (5, 45, 5, 11), (5, 49, 5, 12), (5, 52, 5, 13), (5, 55, 5, 14), (5, 58, 5, 15), (5, 61, 5, 16), (5, 64, 5, 17), (6, 11, 6, 0), (6, 15, 6, 1), (6, 18, 6, 2), (7, 11, 7, 0), (7, 15, 7, 1), (7, 18, 7, 2), (7, 21, 7, 3), (8, 11, 8, 0), (8, 15, 8, 1), (9, 10, 9, 0), (9, 19, 9, 1), (9, 26, 9, 2), (9, 33, 9, 3), (9, 40, 9, 4), (9, 47, 9, 5), (9, 54, 9, 6), (9, 61, 9, 7), (9, 68, 9, 8), (9, 72, 9, 9), (9, 75, 9, 10), (9, 79, 9, 11), (9, 90, 8, 1), (9, 93, 8, 0), (9, 101, 3, 9), (9, 104, 3, 10), (9, 110, 3, 8), (9, 117, 5, 0), (9, 121, 5, 2), (9, 127, 5, 3), (9, 130, 5, 4), (9, 133, 5, 5), (9, 136, 5, 6), (9, 139, 5, 7), (9, 142, 5, 14), (9, 145, 5, 15), (9, 148, 5, 16), (9, 151, 5, 17), (9, 161, 5, 12), (9, 178, 4, 8), (9, 295, 0, 2), (9, 338, 5, 11), (9, 341, 5, 13), (9, 344, 7, 2), (9, 345, 2, 2), (9, 348, 6, 2), (10, 7, 10, 1), (10, 13, 10, 2), (10, 16, 10, 4), (10, 19, 10, 6), (10, 22, 10, 7), (10, 25, 10, 9), (10, 28, 10, 10), (10, 31, 10, 12), (10, 34, 10, 14), (10, 37, 10, 15), (10, 40, 10, 16), (10, 44, 10, 17), (10, 47, 10, 26), (10, 50, 10, 27), (10, 53, 10, 28), (10, 56, 10, 29), (10, 59, 10, 31), (10, 62, 10, 32), (10, 65, 10, 33), (10, 68, 10, 34), (10, 71, 10, 36), (10, 74, 10, 37), (10, 77, 10, 38), (10, 80, 10, 39), (10, 83, 10, 40), (10, 86, 10, 41), (10, 89, 10, 42), (10, 92, 10, 43), (10, 95, 10, 44), (10, 98, 10, 45), (10, 107, 10, 8), (10, 111, 10, 11), (10, 114, 10, 13), (10, 117, 10, 0), (10, 120, 10, 3), (10, 123, 10, 5), (10, 126, 10, 18), (10, 135, 10, 23), (10, 138, 10, 20), (10, 141, 10, 24), (10, 144, 10, 19), (10, 159, 10, 21), (10, 170, 10, 22), (10, 245, 10, 25), (10, 258, 10, 30), (10, 339, 10, 35), (10, 364, 10, 46)]
def ownN : Nat → String
  | 0 => RX0
  | 1 => RX1
  | 2 => RX2
  | 3 => RX3
  | 4 => RX4
  | 5 => RX5
  | 6 => RX6
  | 7 => RX7
  | 8 => RX8
  | 9 => RX9
  | 10 => RX10
  | 11 => RJ6
  | 14 => RJ0
  | 15 => RJ1
  | 16 => RJ3
  | _ => RL
def clT (ci : Nat) : vw_C := vwCl.getD ci (RX0, TX0, 0)
set_option maxRecDepth 100000 in
theorem fl_ok : ∀ t ∈ fltab, Cond.fieldLink (ownN t.1) t.2.1 ((clT t.2.2.1).2.1 t.2.2.2).1 ((clT t.2.2.1).2.1 t.2.2.2).2.1 ((clT t.2.2.1).2.1 t.2.2.2).2.2.1 ∈ lw_tbl := by decide +kernel
theorem fl_lt : ∀ t ∈ fltab, t.2.2.1 < 11 ∧ t.2.2.2 < (clT t.2.2.1).2.2 := by decide +kernel
theorem clT_at : ∀ ci, ci < 11 → vwCl[ci]? = some (clT ci) := by
  intro ci h
  match ci, h with
  | 0, _ => rfl
  | 1, _ => rfl
  | 2, _ => rfl
  | 3, _ => rfl
  | 4, _ => rfl
  | 5, _ => rfl
  | 6, _ => rfl
  | 7, _ => rfl
  | 8, _ => rfl
  | 9, _ => rfl
  | 10, _ => rfl
  | k + 11, h => exact absurd h (by omega)
theorem clT_len : ∀ ci, ci < 11 → (clT ci).2.2 = (FK.getD ci []).length := by decide +kernel
theorem kind0_ty : ∀ ci, ci < 11 → ∀ j, j < (clT ci).2.2 → (fk ci j).1 = 0 → ty_cl ci j = .int ∧ ((clT ci).2.1 j).2.2.2 = false := by decide +kernel
theorem LO_lt : ∀ t ∈ LO, t.1 < 11 ∧ (t.1 ≠ 5 → t.2.1 = false) := by decide +kernel
theorem LO_obj : ∀ ci, ci < 11 → (ci, false, 0) ∈ LO := by decide +kernel
theorem LO_obj5 : ∀ b, ((5, b, 0) : Nat × Bool × Nat) ∈ LO := by decide +kernel
theorem LO_arr0 : ∀ ci, ci < 11 → ∀ j, j < 47 → ((fk ci j).1 = 0 ∨ 4 < (fk ci j).1 ∨ (ci, false, j + 1) ∈ LO) := by decide +kernel
theorem LO_arr5 : ∀ j, j < 47 → ((fk 5 j).1 = 0 ∨ 4 < (fk 5 j).1 ∨ (5, true, j + 1) ∈ LO) := by decide +kernel
theorem fk_out {ci j : Nat} (h : ¬ (ci < 11 ∧ j < 47)) : fk ci j = (0, 0) := by
  unfold fk
  by_cases hc : ci < 11
  · have hj : ¬ j < 47 := fun hj => h ⟨hc, hj⟩
    have hl : ∀ ci, ci < 11 → (FK.getD ci []).length ≤ 47 := by decide +kernel
    have h2 := hl ci hc
    rw [List.getD_eq_getElem?_getD, List.getElem?_eq_none (by omega)]
    rfl
  · have h0 : FK.getD ci [] = [] := by
      rw [List.getD_eq_getElem?_getD, List.getElem?_eq_none (by have : FK.length = 11 := rfl; omega)]
      rfl
    rw [h0]
    rfl
theorem rf_LO {c2 p2 ci p : Nat} {bb : Bool} (h : rfOK c2 p2 ci p bb = true) : c2 = ci ∧ p2 = p ∧ (ci = 5 ∨ bb = false) := by
  unfold rfOK at h
  simp only [Bool.and_eq_true, Bool.or_eq_true, Bool.not_eq_true'] at h
  exact ⟨Nat.eq_of_beq_eq_true h.1, Nat.eq_of_beq_eq_true h.2.1, h.2.2.imp Nat.eq_of_beq_eq_true id⟩
theorem LO_o {ci : Nat} {bb : Bool} (hc : ci < 11) (h : ci = 5 ∨ bb = false) : (ci, bb, 0) ∈ LO := by
  rcases h with rfl | rfl
  · exact LO_obj5 bb
  · exact LO_obj ci hc
theorem LO_a {ci j : Nat} {bb : Bool} (hk : (fk ci j).1 = 1 ∨ (fk ci j).1 = 2 ∨ (fk ci j).1 = 3) (h : ci = 5 ∨ bb = false) : (ci, bb, j + 1) ∈ LO := by
  have hr : ci < 11 ∧ j < 47 := by
    by_cases hr : ci < 11 ∧ j < 47
    · exact hr
    · rw [fk_out hr] at hk
      simp at hk
  cases bb with
  | false =>
    rcases LO_arr0 ci hr.1 j hr.2 with h1 | h1 | h1
    · omega
    · omega
    · exact h1
  | true =>
    rcases h with h | h
    · subst h
      rcases LO_arr5 j hr.2 with h1 | h1 | h1
      · omega
      · omega
      · exact h1
    · cases h
/-! the environment: launch, class numbers, the classes of rows, the address of each cell, where the heap of the law's start ends -/
abbrev ET : Type := Launch × va_G × (ClassId × ClassId × ClassId) × (Nat → Bool → Nat → Nat) × Nat
abbrev eL (E : ET) : Launch := E.1
abbrev eD (E : ET) : va_G := E.2.1
abbrev eB (E : ET) : ClassId := E.2.2.1.1
abbrev eI (E : ET) : ClassId := E.2.2.1.2.1
abbrev eZ (E : ET) : ClassId := E.2.2.1.2.2
abbrev eq (E : ET) : Nat → Bool → Nat → Nat := E.2.2.2.1
abbrev ez (E : ET) : Nat := E.2.2.2.2
abbrev eA (E : ET) : Nat → Prop := fun a => ez E ≤ a
abbrev etys (E : ET) : List (ClassId × FieldType) := [(eB E, .byte), (eI E, .int), (eZ E, .boolean)]
def toV (q : Nat → Bool → Nat → Nat) : sv → Value
  | Sum.inl x => .int x
  | Sum.inr (Sum.inl x) => .long x
  | Sum.inr (Sum.inr (ci, b, p)) => .ref (q ci b p)
def fv (q : Nat → Bool → Nat → Nat) (I : IT) (Z : ZT) (ci : Nat) (b : Bool) (j : Nat) : Value := match fk ci j with
  | (0, _) => .int (I ci b 0 j)
  | (k + 1, n) => match fRef ci j (k + 1) n b Z with
    | some (c2, b2, p2) => .ref (q c2 b2 p2)
    | none => .null
def kcls (E : ET) : Nat → ClassId
  | 2 => eB E
  | 3 => eZ E
  | _ => eI E
def cellOf (E : ET) (I : IT) (Z : ZT) (t : Nat × Bool × Nat) : va_E := match t.2.2 with
  | 0 => .inr (t.1, (List.range (FK.getD t.1 []).length).map (fv (eq E) I Z t.1 t.2.1))
  | j + 1 => .inl (kcls E (fk t.1 j).1, (fk t.1 j).2, .inl (I t.1 t.2.1 (j + 1)))
abbrev ad (E : ET) (t : Nat × Bool × Nat) : Nat := eq E t.1 t.2.1 t.2.2
def wsOf (E : ET) (I : IT) (Z : ZT) : va_W := LO.map (fun t => (ad E t, cellOf E I Z t))
theorem ws_at {E : ET} {I : IT} {Z : ZT} {t : Nat × Bool × Nat} (h : t ∈ LO) : ∃ k : Nat, LO[k]? = some t ∧ (wsOf E I Z)[k]? = some (ad E t, cellOf E I Z t) := by
  obtain ⟨k, hk⟩ := List.getElem?_of_mem h
  exact ⟨k, hk, by simp [wsOf, hk]⟩
theorem LO_inj0 : ∀ i, i < 85 → ∀ j, j < 85 → LO[i]? = LO[j]? → i = j := by decide +kernel
theorem LO_inj {i j : Nat} {t : Nat × Bool × Nat} (hi : LO[i]? = some t) (hj : LO[j]? = some t) : i = j := by
  obtain ⟨hi1, hi2⟩ := List.getElem?_eq_some_iff.mp hi
  obtain ⟨hj1, hj2⟩ := List.getElem?_eq_some_iff.mp hj
  exact LO_inj0 i hi1 j hj1 (hi.trans hj.symm)
theorem ws_set {E : ET} {I I' : IT} {Z Z' : ZT} {k : Nat} {t : Nat × Bool × Nat} (hk : LO[k]? = some t) (hoff : ∀ t' ∈ LO, t' ≠ t → cellOf E I' Z' t' = cellOf E I Z t') : (wsOf E I Z).set k (ad E t, cellOf E I' Z' t) = wsOf E I' Z' := by
  apply List.ext_getElem?
  intro i
  rw [List.getElem?_set]
  by_cases hi : k = i
  · subst hi
    have hlt : k < (wsOf E I Z).length := by
      rw [wsOf, List.length_map]
      exact (List.getElem?_eq_some_iff.mp hk).1
    rw [if_pos rfl, if_pos hlt, wsOf, List.getElem?_map, hk]
    rfl
  · rw [if_neg hi]
    cases h : LO[i]? with
    | none => simp [wsOf, h]
    | some t' =>
      have hne : t' ≠ t := fun e => hi (LO_inj (e ▸ hk) h)
      simp [wsOf, h, hoff t' (List.mem_of_getElem? h) hne]
theorem up_off {I : IT} {ci : Nat} {b : Bool} {p i : Nat} {v : Int32} {c2 : Nat} {b2 : Bool} {p2 : Nat} (h : ((c2, b2, p2) : Nat × Bool × Nat) ≠ (ci, b, p)) : up I ci b p i v c2 b2 p2 = I c2 b2 p2 := by
  funext i2
  unfold up
  rw [if_neg]
  rintro ⟨rfl, rfl, rfl, -⟩
  exact h rfl
theorem up_at {I : IT} {ci : Nat} {b : Bool} {p i : Nat} {v : Int32} : up I ci b p i v ci b p = upd (I ci b p) i v := by
  funext i2
  unfold up upd
  by_cases h : i2 = i
  · subst h; simp
  · simp [h]
theorem cell_I {E : ET} {I I' : IT} {Z : ZT} {t : Nat × Bool × Nat} (h : I' t.1 t.2.1 t.2.2 = I t.1 t.2.1 t.2.2) : cellOf E I' Z t = cellOf E I Z t := by
  obtain ⟨c, b, p⟩ := t
  cases p with
  | zero =>
    simp only at h
    simp only [cellOf]
    refine congrArg (fun l => Sum.inr (c, l)) (List.map_congr_left fun j _ => ?_)
    unfold fv
    split
    · rw [h]
    · rfl
  | succ j =>
    simp only at h
    simp only [cellOf, h]
theorem fk_56 : ∀ c, c < 11 → ∀ j, j < 47 → ((fk c j).1 = 5 ∨ (fk c j).1 = 6) → c = 3 := by decide +kernel
theorem fk_89 : ∀ c, c < 11 → ∀ j, j < 47 → ((fk c j).1 = 8 ∨ (fk c j).1 = 9) → c = 9 := by decide +kernel
theorem fk_cl {c j k : Nat} (h : (fk c j).1 = k) (h0 : k ≠ 0) : c < 11 ∧ j < 47 := by
  by_cases hr : c < 11 ∧ j < 47
  · exact hr
  · rw [fk_out hr] at h
    exact absurd h.symm h0
theorem cell_Z3 {E : ET} {I : IT} {Z : ZT} {x : Bool} {y : Option Bool} {t : Nat × Bool × Nat} (h : t.1 ≠ 3 ∨ t.2.2 ≠ 0) : cellOf E I (Z.1, Z.2.1, x, y) t = cellOf E I Z t := by
  obtain ⟨c, b, p⟩ := t
  cases p with
  | succ j => rfl
  | zero =>
    have hc : c ≠ 3 := by rcases h with h | h; exact h; exact absurd rfl h
    simp only [cellOf]
    refine congrArg (fun l => Sum.inr (c, l)) (List.map_congr_left fun j _ => ?_)
    unfold fv
    split
    · rfl
    · next k n hk =>
      have h5 : k + 1 ≠ 5 := fun e => hc (fk_56 c (fk_cl (by rw [hk]) (by omega)).1 j (fk_cl (c := c) (j := j) (by rw [hk]) (by omega)).2 (Or.inl (by rw [hk]; exact e)))
      have h6 : k + 1 ≠ 6 := fun e => hc (fk_56 c (fk_cl (by rw [hk]) (by omega)).1 j (fk_cl (c := c) (j := j) (by rw [hk]) (by omega)).2 (Or.inr (by rw [hk]; exact e)))
      have he : fRef c j (k + 1) n b (Z.1, Z.2.1, x, y) = fRef c j (k + 1) n b Z := by
        unfold fRef
        split <;> first | rfl | exact absurd ‹_› h5 | exact absurd ‹_› h6
      rw [he]
theorem cell_Z9 {E : ET} {I : IT} {Z : ZT} {x y : Bool} {t : Nat × Bool × Nat} (h : t.1 ≠ 9 ∨ t.2.2 ≠ 0) : cellOf E I (x, y, Z.2.2.1, Z.2.2.2) t = cellOf E I Z t := by
  obtain ⟨c, b, p⟩ := t
  cases p with
  | succ j => rfl
  | zero =>
    have hc : c ≠ 9 := by rcases h with h | h; exact h; exact absurd rfl h
    simp only [cellOf]
    refine congrArg (fun l => Sum.inr (c, l)) (List.map_congr_left fun j _ => ?_)
    unfold fv
    split
    · rfl
    · next k n hk =>
      have h5 : k + 1 ≠ 8 := fun e => hc (fk_89 c (fk_cl (by rw [hk]) (by omega)).1 j (fk_cl (c := c) (j := j) (by rw [hk]) (by omega)).2 (Or.inl (by rw [hk]; exact e)))
      have h6 : k + 1 ≠ 9 := fun e => hc (fk_89 c (fk_cl (by rw [hk]) (by omega)).1 j (fk_cl (c := c) (j := j) (by rw [hk]) (by omega)).2 (Or.inr (by rw [hk]; exact e)))
      have he : fRef c j (k + 1) n b (x, y, Z.2.2.1, Z.2.2.2) = fRef c j (k + 1) n b Z := by
        unfold fRef
        split <;> first | rfl | exact absurd ‹_› h5 | exact absurd ‹_› h6
      rw [he]
/-- the cells are apart and new -/
def QD (E : ET) : Prop := (∀ t ∈ LO, ∀ t' ∈ LO, ad E t = ad E t' → t = t') ∧ ∀ t ∈ LO, ez E ≤ ad E t
theorem QD.D {E : ET} (h : QD E) (I : IT) (Z : ZT) : va_D (eA E) (wsOf E I Z) := by
  refine ⟨fun i j p q hi hj hpq => ?_, fun k q hk => ?_⟩
  · rw [wsOf, List.getElem?_map] at hi hj
    cases h1 : LO[i]? with
    | none => rw [h1] at hi; cases hi
    | some t =>
      cases h2 : LO[j]? with
      | none => rw [h2] at hj; cases hj
      | some t' =>
        rw [h1] at hi
        rw [h2] at hj
        cases hi
        cases hj
        have e := h.1 t (List.mem_of_getElem? h1) t' (List.mem_of_getElem? h2) hpq
        subst e
        exact LO_inj h1 h2
  · rw [wsOf, List.getElem?_map] at hk
    cases h1 : LO[k]? with
    | none => rw [h1] at hk; cases hk
    | some t =>
      rw [h1] at hk
      cases hk
      exact h.2 t (List.mem_of_getElem? h1)
def lhas (q : Nat → Bool → Nat → Nat) (ls : Array Slot) (nL : Nat) (lv : LV) : Prop := lv.length = nL ∧ ∃ l : List (Nat × Value), lv_has ls nL l ∧ ∀ (i : Nat) (v : sv), lv[i]? = some (some v) → (i, toV q v) ∈ l
theorem lhas.at {q : Nat → Bool → Nat → Nat} {ls : Array Slot} {nL : Nat} {lv : LV} (h : lhas q ls nL lv) {i : Nat} {v : sv} (hi : lv[i]? = some (some v)) : ls[i]? = some (.val (toV q v)) := by
  obtain ⟨-, l, h1, h2⟩ := h
  exact h1.2.2 (i, toV q v) (h2 i v hi)
theorem lhas.size {q : Nat → Bool → Nat → Nat} {ls : Array Slot} {nL : Nat} {lv : LV} (h : lhas q ls nL lv) : ls.size = nL := by
  obtain ⟨-, l, h1, -⟩ := h
  exact h1.1
theorem isLg_cat {q : Nat → Bool → Nat → Nat} {v : sv} (h : isLg (some (some v)) = false) : (toV q v).category = 1 := by
  rcases v with x | x | ⟨c, b, p⟩
  · rfl
  · simp [isLg] at h
  · rfl
theorem toV_cat2 {q : Nat → Bool → Nat → Nat} {v : sv} (h : (toV q v).category = 2) : isLg (some (some v)) = true := by
  rcases v with x | x | ⟨c, b, p⟩
  · simp [toV, Value.category] at h
  · rfl
  · simp [toV, Value.category] at h
theorem lst1_inv {lv lv' : LV} {i : Nat} {v : sv} (h : lst1 lv i v = some lv') : i < lv.length ∧ lgB lv i = false ∧ lv' = lv.set i (some v) := by
  unfold lst1 at h
  split at h
  · cases h
  · next z hz =>
    split at h
    · cases h
    · next hg =>
      cases h
      exact ⟨(List.getElem?_eq_some_iff.mp hz).1, hg, rfl⟩
theorem lst2_inv {lv lv' : LV} {i : Nat} {v : sv} (h : lst2 lv i v = some lv') : i + 1 < lv.length ∧ lgB lv i = false ∧ lv' = (lv.set i (some v)).set (i + 1) none := by
  unfold lst2 at h
  split at h
  · cases h
  · next z hz =>
    split at h
    · cases h
    · next hg =>
      cases h
      exact ⟨(List.getElem?_eq_some_iff.mp hz).1, hg, rfl⟩
theorem lhas.st1 {q : Nat → Bool → Nat → Nat} {ls ls' : Array Slot} {nL : Nat} {lv : LV} {l : List (Nat × Value)} {i : Nat} {v : sv} (hn : lv.length = nL) (hi : i < lv.length) (hl : ∀ (i : Nat) (v : sv), lv[i]? = some (some v) → (i, toV q v) ∈ l) (hg : lgB lv i = false)
    (h' : lv_has ls' nL ((i, toV q v) :: l.filter (fun q => !(q.1 == i) && !(q.1 + 1 == i && q.2.category == 2)))) : lhas q ls' nL (lv.set i (some v)) := by
  refine ⟨by rw [List.length_set]; exact hn, _, h', fun j w hj => ?_⟩
  rw [List.getElem?_set] at hj
  by_cases hij : i = j
  · subst hij
    rw [if_pos rfl, if_pos hi] at hj
    cases hj
    exact List.mem_cons_self
  · rw [if_neg hij] at hj
    refine List.mem_cons_of_mem _ (List.mem_filter.mpr ⟨hl j w hj, ?_⟩)
    have h1 : (j == i) = false := by simpa using fun e : j = i => hij e.symm
    simp only [h1, Bool.not_false, Bool.true_and, Bool.not_eq_true', Bool.and_eq_false_iff]
    by_cases h2 : j + 1 = i
    · right
      subst h2
      simp only [lgB, hj] at hg
      have h3 := isLg_cat (q := q) hg
      simp [h3]
    · left
      simpa using h2
theorem lhas.st2 {q : Nat → Bool → Nat → Nat} {ls ls' : Array Slot} {nL : Nat} {lv : LV} {l : List (Nat × Value)} {i : Nat} {v : sv} (hn : lv.length = nL) (hi : i + 1 < lv.length) (hl : ∀ (i : Nat) (v : sv), lv[i]? = some (some v) → (i, toV q v) ∈ l) (hg : lgB lv i = false)
    (h' : lv_has ls' nL ((i, toV q v) :: l.filter (fun q => !(q.1 == i) && (!(q.1 == i + 1) && !(q.1 + 1 == i && q.2.category == 2))))) : lhas q ls' nL ((lv.set i (some v)).set (i + 1) none) := by
  refine ⟨by rw [List.length_set, List.length_set]; exact hn, _, h', fun j w hj => ?_⟩
  rw [List.getElem?_set] at hj
  by_cases hij1 : i + 1 = j
  · subst hij1
    rw [if_pos rfl] at hj
    split at hj <;> cases hj
  · rw [if_neg hij1, List.getElem?_set] at hj
    by_cases hij : i = j
    · subst hij
      rw [if_pos rfl, if_pos (by omega)] at hj
      cases hj
      exact List.mem_cons_self
    · rw [if_neg hij] at hj
      refine List.mem_cons_of_mem _ (List.mem_filter.mpr ⟨hl j w hj, ?_⟩)
      have h1 : (j == i) = false := by simpa using fun e : j = i => hij e.symm
      have h0 : (j == i + 1) = false := by simpa using fun e : j = i + 1 => hij1 e.symm
      simp only [h1, h0, Bool.not_false, Bool.true_and, Bool.not_eq_true', Bool.and_eq_false_iff]
      by_cases h2 : j + 1 = i
      · right
        subst h2
        simp only [lgB, hj] at hg
        have h3 := isLg_cat (q := q) hg
        simp [h3]
      · left
        simpa using h2
theorem mk_at {m : List Bool} : ∀ {lv : LV} {i : Nat} {v : sv}, (mk m lv)[i]? = some (some v) → lv[i]? = some (some v) := by
  induction m with
  | nil => intro lv i v h; simp [mk] at h
  | cons b m ih =>
    intro lv i v h
    cases lv with
    | nil => cases b <;> simp [mk] at h
    | cons x lv =>
      cases b with
      | true =>
        cases i with
        | zero => simpa [mk] using h
        | succ i => simp only [mk, List.getElem?_cons_succ] at h ⊢; exact ih h
      | false =>
        cases i with
        | zero => simp [mk] at h
        | succ i => simp only [mk, List.getElem?_cons_succ] at h ⊢; exact ih h
theorem lhas.mk {q : Nat → Bool → Nat → Nat} {ls : Array Slot} {nL : Nat} {lv lvT : LV} (m : List Bool) (h : lhas q ls nL lv) (e : mk m lv = lvT) (hn : lvT.length = lv.length) : lhas q ls nL lvT := by
  obtain ⟨h0, l, h1, h2⟩ := h
  exact ⟨hn.trans h0, l, h1, fun i v hi => h2 i v (mk_at (m := m) (by rw [e]; exact hi))⟩

