/-! a plan asks only for its own cues -/
theorem iput_lt {r : Nat → Nat} {p c m B : Nat} (hp : p ≤ m) (hr : ∀ k, k < m → r k < B) (hc : c < B) : ∀ k, k < m + 1 → iput r p c k < B := by
  intro k hk
  unfold iput
  split
  · exact hr k (by omega)
  · split
    · exact hc
    · exact hr (k - 1) (by omega)
theorem ipos_le (g : Nat → Int) (r : Nat → Nat) (c : Nat) : ∀ m, ipos g r c m ≤ m := by
  intro m
  induction m with
  | zero => exact Nat.le_refl _
  | succ m ih =>
    unfold ipos
    split <;> omega
theorem rowF_lt (g : Nat → Int) (S : Nat) : ∀ n k, k < (rowF g S n).1 → (rowF g S n).2 k < n := by
  intro n
  induction n with
  | zero => intro k hk; exact absurd hk (Nat.not_lt_zero k)
  | succ n ih =>
    intro k hk
    have e : rowF g S (n + 1) = if S.testBit n then ((rowF g S n).1 + 1, iput (rowF g S n).2 (ipos g (rowF g S n).2 n (rowF g S n).1) n) else rowF g S n := rfl
    rw [e] at hk ⊢
    by_cases c : S.testBit n = true
    · rw [if_pos c] at hk ⊢
      exact iput_lt (ipos_le g _ n _) (fun k hk => Nat.lt_succ_of_lt (ih k hk)) (Nat.lt_succ_self n) k hk
    · rw [if_neg c] at hk ⊢
      exact Nat.lt_succ_of_lt (ih k hk)
theorem ipos_cg {g g' : Nat → Int} {r : Nat → Nat} {c : Nat} : ∀ m, g c = g' c → (∀ k, k < m → g (r k) = g' (r k)) → ipos g r c m = ipos g' r c m := by
  intro m
  induction m with
  | zero => intro _ _; rfl
  | succ m ih =>
    intro h1 h2
    unfold ipos
    rw [h1, h2 m (by omega), ih h1 (fun k hk => h2 k (by omega))]
theorem rowF_cg {g g' : Nat → Int} {S : Nat} : ∀ n, (∀ c, c < n → g c = g' c) → rowF g S n = rowF g' S n := by
  intro n
  induction n with
  | zero => intro _; rfl
  | succ n ih =>
    intro h
    have i1 := ih (fun c hc => h c (by omega))
    have e : rowF g S (n + 1) = if S.testBit n then ((rowF g S n).1 + 1, iput (rowF g S n).2 (ipos g (rowF g S n).2 n (rowF g S n).1) n) else rowF g S n := rfl
    have e' : rowF g' S (n + 1) = if S.testBit n then ((rowF g' S n).1 + 1, iput (rowF g' S n).2 (ipos g' (rowF g' S n).2 n (rowF g' S n).1) n) else rowF g' S n := rfl
    rw [e, e', ← i1, ipos_cg (g := g) (g' := g') _ (h n (by omega)) (fun k hk => h _ (by have := rowF_lt g S n k hk; omega))]
theorem rowF_more {g : Nat → Int} {S n : Nat} (hS : S < 2 ^ n) : ∀ d, rowF g S (n + d) = rowF g S n := by
  intro d
  induction d with
  | zero => rfl
  | succ d ih =>
    have e : rowF g S (n + (d + 1)) = if S.testBit (n + d) then ((rowF g S (n + d)).1 + 1, iput (rowF g S (n + d)).2 (ipos g (rowF g S (n + d)).2 (n + d) (rowF g S (n + d)).1) (n + d)) else rowF g S (n + d) := rfl
    have hb : S.testBit (n + d) = false := Nat.testBit_lt_two_pow (Nat.lt_of_lt_of_le hS (pw_le (by omega)))
    rw [e, hb]
    simpa using ih
theorem lst_lt {t : Nat → Nat} {s i j : Nat} (h : lst t s i = some j) : j < i := by
  induction i with
  | zero => cases h
  | succ i ih =>
    unfold lst at h
    split at h
    · cases h; omega
    · have := ih h; omega
section PCG
variable {D D' : DT} {r : Nat → Nat} {m : Nat}
/-- the same rules, and the same cues in the row -/
def sameR (D D' : DT) (r : Nat → Nat) (m : Nat) : Prop := d_wk D = d_wk D' ∧ d_mv D = d_mv D' ∧ ∀ i, i < m → d_bg D (r i) = d_bg D' (r i) ∧ d_en D (r i) = d_en D' (r i) ∧ d_tr D (r i) = d_tr D' (r i)
theorem sameR.symm (h : sameR D D' r m) : sameR D' D r m := ⟨h.1.symm, h.2.1.symm, fun i hi => ⟨(h.2.2 i hi).1.symm, (h.2.2 i hi).2.1.symm, (h.2.2 i hi).2.2.symm⟩⟩
theorem may_cg (h : sameR D D' r m) {t : Nat → Nat} {i s : Nat} (hi : i < m) (hm : may D r t i s) : may D' r t i s := by
  obtain ⟨h1, h2, h3⟩ := h
  have a := h3 i hi
  refine ⟨fun w hw j hj hne => ?_, fun j hj => ?_, hm.2.2⟩
  · have b := h3 j (by have := lst_lt hj; omega)
    have := hm.1 w (by rw [h1]; exact hw) j hj hne
    unfold bsd at this ⊢
    rw [← a.1, ← a.2.1, ← a.2.2, ← b.1, ← b.2.1, ← b.2.2]
    exact this
  · have b := h3 j (by have := lst_lt hj; omega)
    have := hm.2.1 j hj
    unfold fol at this ⊢
    rw [← a.1, ← a.2.2, ← b.2.1, ← b.2.2, ← h2]
    exact this
theorem Vd_cg (h : sameR D D' r m) {t : Nat → Nat} {P : Nat} (hv : Vd D r t P m) : Vd D' r t P m := fun i hi => ⟨(hv i hi).1, by rw [← h.1]; exact (hv i hi).2.1, may_cg h hi (hv i hi).2.2⟩
theorem IsB_cg (h : sameR D D' r m) {B : Nat} (hb : IsB D r m B) : IsB D' r m B := by
  have e1 : ∀ f, cnt (fun i => sdg D' f (r i)) m = cnt (fun i => sdg D f (r i)) m := fun f => cnt_cg (fun i hi => by
    have a := h.2.2 i hi
    unfold sdg
    rw [a.1, a.2.1])
  have e2 : ∀ f t, cnt (fun i => sdt D' f t (r i)) m = cnt (fun i => sdt D f t (r i)) m := fun f t => cnt_cg (fun i hi => by
    have a := h.2.2 i hi
    unfold sdt sdg
    rw [a.1, a.2.1, a.2.2])
  have e3 : ∀ f, need D' r m f = need D r m f := fun f => by
    unfold need
    rw [e1, h.1]
  unfold IsB
  simp only [e2, e3]
  exact hb
theorem IsPlan_cg (h : sameR D D' r m) {t : Nat → Nat} {P : Nat} (hp : IsPlan D r m t P) : IsPlan D' r m t P := by
  obtain ⟨B, b1, b2, b3, b4, b5⟩ := hp
  exact ⟨B, IsB_cg h b1, b2, Vd_cg h b3, fun u hu => b4 u (Vd_cg h.symm hu), fun Q q1 q2 u hu => b5 Q q1 q2 u (Vd_cg h.symm hu)⟩
/-- a kept plan stays where cues are added -/
theorem PL.more {I : IT} (h : PL I D) (hw : d_wk D = d_wk D') (hm : d_mv D = d_mv D') (hn : d_nC D ≤ d_nC D') (hc : ∀ c, c < d_nC D → d_bg D c = d_bg D' c ∧ d_en D c = d_en D' c ∧ d_tr D c = d_tr D' c) : PL I D' := by
  rcases h with h | ⟨S, P, t, h1, h2, h3, h4, h5, h6, h7, h8, h9⟩
  · exact Or.inl h
  · have e : rowF (d_bg D') S (d_nC D') = rowF (d_bg D) S (d_nC D) := by
      obtain ⟨d, hd⟩ : ∃ d, d_nC D' = d_nC D + d := ⟨d_nC D' - d_nC D, by omega⟩
      rw [hd, rowF_more h2, rowF_cg _ (fun c hc' => (hc c hc').1.symm)]
    refine Or.inr ⟨S, P, t, h1, Nat.lt_of_lt_of_le h2 (pw_le hn), ?_⟩
    rw [e]
    exact ⟨h3, h4, h5, h6, h7, h8, IsPlan_cg ⟨hw, hm, fun i hi => hc _ (rowF_lt _ _ _ i hi)⟩ h9⟩
end PCG
