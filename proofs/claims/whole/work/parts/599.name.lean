/-! text: names -/
def sl (k : Nat) : Nat := slen.getD k 0
def wl (k j : Nat) : Int := ((sbyt.getD k []).getD j 0).toInt
theorem sl_b {k : Nat} (h : k < 9) : sl k ≤ 7 := by
  have : ∀ k : Nat, k < 9 → sl k ≤ 7 := by decide +kernel
  exact this k h
theorem wl_b {k j : Nat} (h : k < 9) (hj : j < 8) : 0 ≤ wl k j ∧ wl k j < 128 := by
  have : ∀ k : Nat, k < 9 → ∀ j : Nat, j < 8 → 0 ≤ wl k j ∧ wl k j < 128 := by decide +kernel
  exact this k h j hj
theorem sch_n {k j : Nat} (hj : j < 8) : sch k (jI j) = jI (wl k j) := by
  unfold sch wl
  rw [jI_cl (by omega) (by omega), tn_nat]
  exact jI_of _
def isWb (v : Nat → Int) (n k p : Nat) : Bool := decide (t_k v n p = 1 ∧ t_e v n p = t_s v n p + sl k ∧ ∀ j, j < sl k → v (t_s v n p + j) = wl k j)
section NM
variable {I : IT} {v : Nat → Int} {n p k : Nat}
theorem s3_isName (h : CB I v n) (ht : TK I v n p) (hp : p ≤ n) (hk : k < 9) : f_X3_isName I k = some (bi (isWb v n k p = true)) := by
  have hs := sl_b hk
  have hn := h.1
  have he := t_e_le (v := v) hp
  have h6 := t_e_ge (v := v) (n := n) (p := p)
  have hk4 := t_k_le (v := v) (n := n) (p := p)
  unfold isWb bi
  simp only [decide_eq_true_iff]
  have u : f_X3_isName I k = if I 3 false 0 4 = 1 then (if I 3 false 0 3 - I 3 false 0 5 = nI (sl k) then f_X3_isName_L I k fuel 0 else some 0) else some 0 := by
    unfold f_X3_isName
    rw [decide_eq_true hk, gd_tt]
    rfl
  rw [u]
  simp (disch := omega) only [ht.2.1, ht.1, ht.2.2.1, jI_nI, jI_lit, jI_sub, jI_eq]
  by_cases c1 : t_k v n p = 1
  · rw [if_pos (by omega)]
    by_cases c2 : t_e v n p = t_s v n p + sl k
    · rw [if_pos (by omega)]
      have q := ht.2.2.1
      generalize t_s v n p = s at *
      have st : ∀ m j, j < sl k → f_X3_isName_L I k (m + 1) (jI j) = if v (s + j) = wl k j then f_X3_isName_L I k m (jI ((j + 1 : Nat) : Int)) else some 0 := fun m j hj => by
        have hv := h.2.2 (s + j) (by omega)
        have hb := sgn_b hv.1 hv.2.1
        have hw := wl_b (j := j) hk (by omega)
        have e1 : ¬ ((sl k : Nat) : Int) ≤ j := by omega
        have e3 : ((s : Int) + j).toNat = s + j := by omega
        have e4 : (sgn (v (s + j)) = wl k j) = (v (s + j) = wl k j) := propext (sgn_e hv.1 hv.2.1 hw.1 hw.2)
        have e5 : slen.getD k 0 = sl k := rfl
        simp (disch := omega) only [f_X3_isName_L, e5, jI_nI, jI_le, if_neg e1, q, jI_add, jI_vb, gd_tt, jI_cl, e3, hv.2.2, sch_n, jI_eq, e4, jI_lit, nc1]
      rcases first_or (fun j => ¬ v (s + j) = wl k j) (sl k) with ⟨j0, a1, a2, a3⟩ | a
      · rw [if_neg (fun z => a2 (z.2.2 j0 a1))]
        refine loop_fu (fun m j => f_X3_isName_L I k m (jI j)) j0 (some (jI 0)) 0 (Nat.zero_le _) (by omega) (fun m j hj => ?_) (fun m => ?_)
        · rw [st m j (by omega), if_pos (Classical.not_not.mp (a3 j hj))]
        · rw [st m j0 a1, if_neg a2]
          rfl
      · rw [if_pos ⟨c1, c2, fun j hj => Classical.not_not.mp (a j hj)⟩]
        refine loop_fu (fun m j => f_X3_isName_L I k m (jI j)) (sl k) (some (jI 1)) 0 (Nat.zero_le _) (by omega) (fun m j hj => ?_) (fun m => ?_)
        · rw [st m j hj, if_pos (Classical.not_not.mp (a j hj))]
        · have e1 : ((sl k : Nat) : Int) ≤ (sl k : Int) := Int.le_refl _
          have e5 : slen.getD k 0 = sl k := rfl
          simp (disch := omega) only [f_X3_isName_L, e5, jI_nI, jI_le, if_pos e1, jI_lit]
    · rw [if_neg (by omega), if_neg (fun z => c2 z.2.1)]
  · rw [if_neg (by omega), if_neg (fun z => c1 z.1)]
/-- which line a name begins: 0 to 7, or 8 -/
def lkS (v : Nat → Int) (n p : Nat) : Nat := if isWb v n 0 p = true then 0 else if isWb v n 1 p = true then 1 else if isWb v n 2 p = true then 2 else if isWb v n 3 p = true then 3 else if isWb v n 4 p = true then 4 else if isWb v n 5 p = true then 5 else if isWb v n 6 p = true then 6 else if isWb v n 7 p = true then 7 else 8
theorem s3_lineKind (h : CB I v n) (ht : TK I v n p) (hp : p ≤ n) : f_X3_lineKind I = some (jI (if lkS v n p = 8 then -4 else (lkS v n p : Int))) := by
  have e : ∀ k, k < 9 → f_X3_isName I k = some (bi (isWb v n k p = true)) := fun k hk => s3_isName h ht hp hk
  unfold f_X3_lineKind lkS
  simp only [e 0 (by omega), e 1 (by omega), e 2 (by omega), e 3 (by omega), e 4 (by omega), e 5 (by omega), e 6 (by omega), e 7 (by omega), bd_some, bi_0, ite_not]
  repeat' split
  all_goals first | rfl | (exfalso; omega)
end NM
