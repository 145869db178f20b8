/-! passes, plan, does: what they share -/
section PLS
variable {I : IT} {b : Bool} {D : DT} {S : Nat}
theorem pcn_row (hD : DB D) (hS : S < 2 ^ d_nC D) : (rowF (d_bg D) S (d_nC D)).1 = pcn S := by
  have hnb := hD.nb
  rw [rowF_len]
  unfold pcn
  have h := cnt_add (fun i => S.testBit i) (d_nC D) (16 - d_nC D)
  rw [show d_nC D + (16 - d_nC D) = 16 by omega] at h
  have h0 : cnt (fun i => S.testBit (d_nC D + i)) (16 - d_nC D) = 0 := cnt_0.2 (fun i _ => Nat.testBit_lt_two_pow (Nat.lt_of_lt_of_le hS (pw_le (Nat.le_add_right _ _))))
  rw [h, h0, Nat.add_zero]
/-- whether a set can be planned -/
def cbp (D : DT) (v : Int) : Bool := decide ((0 ≤ v ∧ v < ((2 ^ d_nC D : Nat) : Int)) ∧ pcn v.toNat ≤ 9)
theorem cbp_i {v : Int} : cbp D v = true ↔ ((0 ≤ v ∧ v < ((2 ^ d_nC D : Nat) : Int)) ∧ pcn v.toNat ≤ 9) := by
  unfold cbp
  exact decide_eq_true_iff
theorem cbp_nat {v : Int} (h0 : cbp D v = true) : ∃ S : Nat, v = S ∧ S < 2 ^ d_nC D ∧ pcn S ≤ 9 := by
  have h := cbp_i.1 h0
  obtain ⟨S, rfl⟩ := Int.eq_ofNat_of_zero_le h.1.1
  have h2 := h.2
  rw [tn_nat] at h2
  exact ⟨S, rfl, by have := h.1.2; omega, h2⟩
theorem s9_canBePlanned (hD : DB D) (hC : R5 I b D) {v : Int} (h1 : -2147483648 ≤ v) (h2 : v < 2147483648) : f_X9_canBePlanned I b (jI v) = some (bi (cbp D v = true)) := by
  have hnb := hD.nb
  unfold f_X9_canBePlanned
  rw [s5_holdsCues hD hC h1 h2, bd_some]
  by_cases c : 0 ≤ v ∧ v < ((2 ^ d_nC D : Nat) : Int)
  · obtain ⟨S, rfl⟩ := Int.eq_ofNat_of_zero_le c.1
    have hS : S < 2 ^ d_nC D := by have := c.2; omega
    have hS2 : S < 65536 := Nat.lt_of_lt_of_le hS (pw_le hnb.2.1)
    have hp := pcn_le S
    rw [if_neg (by rw [bi_0]; exact fun z => z c), s_bitCount hS2, bd_some]
    have e9 : ((9 : Int32) < jI (pcn S)) = (9 < (pcn S : Int)) := by
      simp (disch := omega) only [jI_lit, jI_lt]
    by_cases c2 : pcn S ≤ 9
    · rw [if_neg (by rw [e9]; omega), bi_t (show cbp D S = true from cbp_i.2 ⟨c, c2⟩)]
      rfl
    · rw [if_pos (by rw [e9]; omega), bi_f (show ¬ cbp D S = true from fun z => c2 (cbp_i.1 z).2)]
      rfl
  · rw [if_pos (by rw [bi_0]; exact c), bi_f (show ¬ cbp D v = true from fun z => c (cbp_i.1 z).1)]
    rfl
theorem sM_isSet (hD : DB D) (hM : RM I D) {v : Int} (h1 : -2147483648 ≤ v) (h2 : v < 2147483648) : f_X10_isSet I (jI v) = some (bi (cbp D v = true)) := by
  have hnb := hD.nb
  unfold f_X10_isSet
  rw [sM_areCues hD hM h1 h2, bd_some]
  by_cases c : 0 ≤ v ∧ v < ((2 ^ d_nC D : Nat) : Int)
  · obtain ⟨S, rfl⟩ := Int.eq_ofNat_of_zero_le c.1
    have hS : S < 2 ^ d_nC D := by have := c.2; omega
    have hS2 : S < 65536 := Nat.lt_of_lt_of_le hS (pw_le hnb.2.1)
    have hp := pcn_le S
    rw [if_neg (by rw [bi_0]; exact fun z => z c), sM_countOf hS2, bd_some]
    have e9 : ((9 : Int32) < jI (pcn S)) = (9 < (pcn S : Int)) := by
      simp (disch := omega) only [jI_lit, jI_lt]
    by_cases c2 : pcn S ≤ 9
    · rw [if_neg (by rw [e9]; omega), bi_t (show cbp D S = true from cbp_i.2 ⟨c, c2⟩)]
      rfl
    · rw [if_pos (by rw [e9]; omega), bi_f (show ¬ cbp D S = true from fun z => c2 (cbp_i.1 z).2)]
      rfl
  · rw [if_pos (by rw [bi_0]; exact c), bi_f (show ¬ cbp D v = true from fun z => c (cbp_i.1 z).1)]
    rfl
theorem offP.rel {u : IT} (h : offP I u) (hR : RelD I b D) : RelD u b D := hR.ag (fun c2 b2 p2 i2 hf => h c2 b2 p2 i2 (fun z => by
  rcases z with ⟨z1, z2 | z2 | z2 | z2 | ⟨z2, z3 | z3⟩⟩
  · rw [z1, z2] at hf; exact absurd (show false = true from hf) (by decide)
  · rw [z1, z2] at hf; exact absurd (show false = true from hf) (by decide)
  · rw [z1, z2] at hf; exact absurd (show false = true from hf) (by decide)
  · rw [z1, z2] at hf; exact absurd (show false = true from hf) (by decide)
  · rw [z1, z2, z3] at hf; exact absurd (show false = true from hf) (by decide)
  · rw [z1, z2, z3] at hf; exact absurd (show false = true from hf) (by decide)))
theorem off4.rel {u : IT} {P : Nat} {t : Nat → Nat} (o : off4 I u) (h : RelD I b D) (hS : S < 2 ^ d_nC D) (hlen : (rowF (d_bg D) S (d_nC D)).1 ≤ 9) (hp : PLx u D S P t) : RelD u b D :=
  ⟨h.db, h.r5.ag (fun p i => o _ _ _ _ (by omega)), h.rm.ag (o.ag (fun _ _ => rfl)), Or.inr ⟨S, P, t, hp.1, hS, hlen, hp.2⟩, h.tp.ag (o.ag (fun _ _ => rfl)), h.ft.ag (o.ag (fun _ _ => rfl)), h.ht' (o.ag (fun _ _ => rfl)), h.pc' (o.ag (fun _ _ => rfl)), h.el' (o.ag (fun _ _ => rfl)), h.sh.ag (o.ag (fun _ _ => rfl))⟩
/-- both plans at once -/
theorem plan_both (h : RelD I b D) (hS : S < 2 ^ d_nC D) (hlen : (rowF (d_bg D) S (d_nC D)).1 ≤ 9) : ∃ (u w : IT) (P : Nat) (t : Nat → Nat), f_X4_prepare I b (jI S) = some u ∧ f_X10_findPlan u (jI S) = some w ∧ RelD u b D ∧ RelD w b D ∧ off4 I u ∧ offP u w ∧ PLx u D S P t ∧ rowM w (rowF (d_bg D) S (d_nC D)).2 (rowF (d_bg D) S (d_nC D)).1 ∧ w 10 false 0 30 = jI P ∧ (∀ j, j < (rowF (d_bg D) S (d_nC D)).1 → w 10 false 28 j = jI (t j)) := by
  have hD := h.db
  have hS2 : S < 65536 := Nat.lt_of_lt_of_le hS (pw_le hD.nb.2.1)
  obtain ⟨u, P, t, a1, a2, a3⟩ := s4_prepare h hS hlen
  have hu := a2.rel h hS hlen a3
  obtain ⟨w, P', t', c1, c2, c3, c4, c5, c6, c7⟩ := sM_findPlan hD hu.rm hS2 hlen
  obtain ⟨e1, e2⟩ := plan_uniq a3.2.2.2.2.2.2 c7
  exact ⟨u, w, P, t, a1, c1, hu, c2.rel hu, a2, c2, a3, c3, by rw [e1]; exact c4, fun j hj => by rw [e2 j hj]; exact c6 j hj⟩
end PLS
