/-! text: the reference's drafts, its numbers -/
def RMd (I : IT) (D : DT) : Prop := (I 10 false 0 8 = jI (d_nP D) ∧ I 10 false 0 11 = jI (d_nC D) ∧ I 10 false 0 13 = jI (d_nS D) ∧ I 10 false 16 0 = jI (d_wk D) ∧ I 10 false 16 1 = jI (d_mv D) ∧ I 10 false 16 2 = jI (d_tl D) ∧ I 10 false 16 3 = jI (d_mo D)) ∧
  (∀ c : Nat, c < d_nC D → I 10 false 13 (5 * c) = jI (d_bg D c) ∧ I 10 false 13 (5 * c + 1) = jI (d_ln D c) ∧ I 10 false 13 (5 * c + 2) = jI (d_pr D c) ∧ I 10 false 13 (5 * c + 3) = jI (d_lo D c) ∧ I 10 false 13 (5 * c + 4) = jI (d_tk D c)) ∧
  (∀ p : Nat, p < d_nP D → I 10 false 10 p = jI (d_ty D p) ∧ I 10 false 11 p = jI (d_sd D p)) ∧
  (∀ i : Nat, i < d_nS D → I 10 false 15 (3 * i) = jI (d_sb D i) ∧ I 10 false 15 (3 * i + 1) = jI (d_sl D i) ∧ I 10 false 15 (3 * i + 2) = jI (d_so D i))
def RTd (I : IT) (T : Nat) : Prop := ∀ k : Nat, k < 4 → I 10 false 17 k = bi (T.testBit (k + 3) = true)
def RW (I : IT) (v : Nat → Int) (n : Nat) (D : DT) (T : Nat) : Prop := MB I v n ∧ I 10 false 0 23 = jI 0 ∧ RMd I D ∧ RTd I T
theorem RMd.ag {I J : IT} {D : DT} (h : RMd I D) (a : Ag fpm I J) : RMd J D := by
  have e0 : ∀ p i, p ≠ 0 → J 10 false p i = I 10 false p i := fun p i hp => a 10 false p i (by
    have e : Nat.beq p 0 = false := by
      cases q : Nat.beq p 0 with
      | false => rfl
      | true => exact absurd (Nat.eq_of_beq_eq_true q) hp
    unfold fpm
    rw [e]
    rfl)
  have e8 : J 10 false 0 8 = I 10 false 0 8 := a _ _ _ _ rfl
  have e11 : J 10 false 0 11 = I 10 false 0 11 := a _ _ _ _ rfl
  have e13 : J 10 false 0 13 = I 10 false 0 13 := a _ _ _ _ rfl
  unfold RMd
  simp (disch := omega) only [e0, e8, e11, e13]
  exact h
theorem RTd.ag {I J : IT} {T : Nat} (h : RTd I T) (a : Ag fpm I J) : RTd J T := fun k hk => (a 10 false 17 k rfl).trans (h k hk)
theorem RW.ag {I J : IT} {v : Nat → Int} {n : Nat} {D : DT} {T : Nat} (h : RW I v n D T) (a : Ag fpn I J) : RW J v n D T := by
  have b : Ag fpm I J := a.mono fun _ _ _ z => fpm_n z
  exact ⟨h.1.ag b, (a 10 false 0 23 rfl).trans h.2.1, h.2.2.1.ag b, h.2.2.2.ag b⟩
theorem FS.up {I : IT} {k : Int} {s : Nat} (h : FS I k s) {c : Nat} {b : Bool} {p i : Nat} {x : Int32} (hp : p ≠ 0) : FS (up I c b p i x) k s :=
  ⟨h.1, h.2.1, (up_p (Ne.symm hp)).trans h.2.2.1, (up_p (Ne.symm hp)).trans h.2.2.2⟩
theorem needs_1 {I : IT} {c : Int32} : f_X10_needs I 1 c = some I := by
  unfold f_X10_needs
  rw [if_neg one_ne]
theorem needs_0 {I : IT} {c : Int} {s : Nat} (h : I 10 false 0 23 = jI 0) (h2 : I 10 false 0 20 = jI s) (h3 : 1 ≤ c) (h4 : c ≤ 5) {x : Int32} (hx : x = jI c) : ∃ J, f_X10_needs I 0 x = some J ∧ FS J c s ∧ Ag fpD I J := by
  refine ⟨up (up I 10 false 0 23 (jI c)) 10 false 0 24 (jI s), ?_, ⟨h3, h4, rfl, rfl⟩, (Ag.put (Ag.put Ag.rf rfl) rfl)⟩
  unfold f_X10_needs
  have h' : I 10 false 0 23 = 0 := h
  rw [if_pos rfl, if_pos h', hx, h2]
section RN
variable {I I0 : IT} {v : Nat → Int} {n p T : Nat} {D : DT}
theorem oM_next (h : RW I v n D T) (hp : p ≤ n) (h3 : I 10 false 0 19 = jI p) (hf : Ag fpD I0 I) : OutM I0 (f_X10_next I) (tkS v n p) (fun _ J => RW J v n D T ∧ NK J v n p ∧ Ag fpD I0 J) := by
  rcases sM_next h.1 hp h3 h.2.1 with ⟨c, J, e1, e2, e3, e4⟩ | ⟨c, J, e1, e2, e3⟩
  · unfold tkS
    rw [if_pos c]
    exact ⟨J, e1, ⟨by omega, by omega, e2, e3⟩, hf.tr (AgD_m e4)⟩
  · unfold tkS
    rw [if_neg c]
    exact ⟨J, e1, h.ag e3, e2, hf.tr (AgD_n e3)⟩
theorem oM_isNumber {lo hi : Int} (h : RW I v n D T) (ht : NK I v n p) (hf : Ag fpD I0 I) (b1 : -1000 ≤ lo) (b2 : lo ≤ 1000) (b3 : -1000 ≤ hi) (b4 : hi ≤ 1000) {x y : Int32} (hx : x = jI lo) (hy : y = jI hi) :
    OutM I0 (f_X10_isNumber I x y) (nbS v n p lo hi) (fun a J => J = I ∧ I 10 false 0 22 = jI a.1 ∧ a.2 = t_e v n p ∧ lo ≤ a.1 ∧ a.1 ≤ hi ∧ 0 ≤ a.1 ∧ a.1 < 1000) := by
  have h0 : I 10 false 0 23 = 0 := h.2.1
  have hk := t_k_le (v := v) (n := n) (p := p)
  unfold f_X10_isNumber
  rw [if_pos h0]
  unfold nbS
  by_cases c : t_k v n p = 2
  · have hv := t_v_b c
    have c1 : I 10 false 0 21 = 2 := by rw [ht.2.1, c]; rfl
    rw [if_pos c, if_pos c1]
    unfold f_X10_isNumber_21 f_X10_isNumber_25
    rw [needs_1, bd_some, if_pos h0, ht.2.2.2 c, hx, hy, in_spec, jI_64 (by omega) (by omega), jI_64 (by omega) (by omega), jI_64 (by omega) (by omega), bd_some]
    by_cases d : lo ≤ t_v v n p ∧ t_v v n p ≤ hi
    · rw [if_pos d]
      unfold bi
      rw [if_pos d, needs_1, bd_some]
      exact ⟨I, rfl, rfl, rfl, rfl, d.1, d.2, hv.1, hv.2⟩
    · rw [if_neg d]
      unfold bi
      obtain ⟨J, e1, e2, e3⟩ := needs_0 (I := I) (c := 3) h.2.1 ht.2.2.1 (by omega) (by omega) (x := 3) rfl
      rw [if_neg d, e1, bd_some]
      exact ⟨J, rfl, e2, hf.tr e3⟩
  · have c1 : ¬ I 10 false 0 21 = 2 := by
      rw [ht.2.1, show (2 : Int32) = jI 2 from rfl, jI_eq (by omega) (by omega) (by omega) (by omega)]
      omega
    rw [if_neg c, if_neg c1]
    unfold f_X10_isNumber_21 f_X10_isNumber_25
    obtain ⟨J, e1, e2, e3⟩ := needs_0 (I := I) (c := 2) h.2.1 ht.2.2.1 (by omega) (by omega) (x := 2) rfl
    rw [e1, bd_some, if_neg e2.ne]
    exact ⟨J, rfl, e2, hf.tr e3⟩
/-- a number and the token behind it -/
def rnS (v : Nat → Int) (n p : Nat) (lo hi : Int) : FR (Int × Nat) := bS (nbS v n p lo hi) (fun a => bS (tkS v n a.2) (fun _ => Sum.inr a))
theorem oM_rn {lo hi : Int} (h : RW I v n D T) (hp : p ≤ n) (ht : NK I v n p) (hf : Ag fpD I0 I) (b1 : -1000 ≤ lo) (b2 : lo ≤ 1000) (b3 : -1000 ≤ hi) (b4 : hi ≤ 1000) {x y : Int32} (hx : x = jI lo) (hy : y = jI hi) :
    OutN I0 (f_X10_readNumber I x y) (rnS v n p lo hi) (fun a w J => w = jI a.1 ∧ RW J v n D T ∧ NK J v n a.2 ∧ Ag fpD I0 J ∧ a.2 ≤ n ∧ lo ≤ a.1 ∧ a.1 ≤ hi ∧ 0 ≤ a.1 ∧ a.1 < 1000) := by
  have h1 := oM_isNumber h ht hf b1 b2 b3 b4 hx hy
  unfold f_X10_readNumber rnS
  generalize nbS v n p lo hi = R at *
  cases R with
  | inl e =>
    obtain ⟨J, e1, e2, e3⟩ := h1
    refine ⟨J 10 false 0 22, J, ?_, e2, e3⟩
    rw [e1, bd_some, e2.next, bd_some]
  | inr a =>
    obtain ⟨J, e1, rfl, e3, e4, e5⟩ := h1
    have he := t_e_le (v := v) hp
    have h2 := oM_next (p := a.2) h (by omega) (ht.1.trans (by rw [e4])) hf
    rw [e1, bd_some]
    show OutN I0 _ (bS (tkS v n a.2) (fun _ => Sum.inr a)) _
    generalize tkS v n a.2 = R at *
    cases R with
    | inl e =>
      obtain ⟨K, k1, k2, k3⟩ := h2
      refine ⟨J 10 false 0 22, K, ?_, k2, k3⟩
      rw [k1, bd_some]
    | inr u =>
      obtain ⟨K, k1, k2, k3, k4⟩ := h2
      refine ⟨J 10 false 0 22, K, ?_, e3, k2, k3, k4, by omega, e5⟩
      rw [k1, bd_some]
end RN
