/-! text: drafts, and the class's lines -/
def fs {α : Type} (g : Nat → α) (k : Nat) (x : α) : Nat → α := fun i => if i = k then x else g i
def DBd (D : DT) : Prop := (d_nP D ≤ 8 ∧ d_nC D ≤ 16 ∧ d_nS D ≤ 8 ∧ 1 ≤ d_wk D ∧ d_wk D ≤ 3 ∧ 0 ≤ d_mv D ∧ d_mv D ≤ 9 ∧ 1 ≤ d_tl D ∧ d_tl D ≤ 9 ∧ 1 ≤ d_mo D ∧ d_mo D ≤ 99) ∧
  (∀ c : Nat, c < d_nC D → 0 ≤ d_bg D c ∧ 1 ≤ d_ln D c ∧ d_ln D c ≤ 60 ∧ d_bg D c + d_ln D c ≤ 500 ∧ d_pr D c < d_nP D ∧ 1 ≤ d_lo D c ∧ d_lo D c ≤ 9 ∧ 0 ≤ d_tk D c ∧ d_tk D c ≤ 1) ∧
  (∀ p : Nat, p < d_nP D → 0 ≤ d_ty D p ∧ d_ty D p ≤ 5 ∧ d_sd D p < 2 ^ d_nP D) ∧
  (∀ i : Nat, i < d_nS D → 0 ≤ d_sb D i ∧ 1 ≤ d_sl D i ∧ d_sb D i + d_sl D i ≤ 500 ∧ 1 ≤ d_so D i ∧ d_so D i ≤ 9)
def R5d (I : IT) (b : Bool) (D : DT) : Prop := (I 5 b 0 11 = jI (d_nP D) ∧ I 5 b 0 12 = jI (d_nC D) ∧ I 5 b 0 13 = jI (d_nS D) ∧ I 5 b 0 14 = jI (d_wk D) ∧ I 5 b 0 15 = jI (d_mv D) ∧ I 5 b 0 16 = jI (d_tl D) ∧ I 5 b 0 17 = jI (d_mo D)) ∧
  (∀ c : Nat, c < d_nC D → I 5 b 4 c = jI (d_bg D c) ∧ I 5 b 5 c = jI (d_ln D c) ∧ I 5 b 6 c = jI (d_pr D c) ∧ I 5 b 7 c = jI (d_lo D c) ∧ I 5 b 8 c = jI (d_tk D c)) ∧
  (∀ p : Nat, p < d_nP D → I 5 b 1 p = jI (d_ty D p) ∧ I 5 b 2 p = jI (d_sd D p)) ∧
  (∀ i : Nat, i < d_nS D → I 5 b 9 i = jI (d_sb D i) ∧ I 5 b 10 i = jI (d_sb D i + d_sl D i) ∧ I 5 b 11 i = jI (d_so D i))
/-- the class while it reads: bytes, told rules, lines; no fault -/
def CW (I : IT) (v : Nat → Int) (n T l : Nat) : Prop := CB I v n ∧ I 3 false 0 7 = jI T ∧ T < 128 ∧ I 3 false 0 8 = jI l ∧ I 3 false 0 9 = jI 0
theorem CW.ag {I J : IT} {v : Nat → Int} {n T l : Nat} (h : CW I v n T l) (a : Ag fpt I J) : CW J v n T l :=
  ⟨h.1.ag (a.mono fun _ _ _ z => fpf_t z), (a 3 false 0 7 rfl).trans h.2.1, h.2.2.1, (a 3 false 0 8 rfl).trans h.2.2.2.1, (a 3 false 0 9 rfl).trans h.2.2.2.2⟩
theorem CB.p5 {I : IT} {v : Nat → Int} {n : Nat} (h : CB I v n) {b : Bool} {p i : Nat} {x : Int32} : CB (up I 5 b p i x) v n :=
  ⟨h.1, h.2.1, fun j hj => ⟨(h.2.2 j hj).1, (h.2.2 j hj).2.1, (h.2.2 j hj).2.2⟩⟩
theorem CW.p5 {I : IT} {v : Nat → Int} {n T l : Nat} (h : CW I v n T l) {b : Bool} {p i : Nat} {x : Int32} : CW (up I 5 b p i x) v n T l :=
  ⟨h.1.p5, h.2.1, h.2.2.1, h.2.2.2.1, h.2.2.2.2⟩
theorem R5d.ag {I J : IT} {b : Bool} {D : DT} (h : R5d I b D) (a : Ag fpt I J) : R5d J b D := by
  have e : ∀ p i, J 5 b p i = I 5 b p i := fun p i => a 5 b p i rfl
  unfold R5d
  simp only [e]
  exact h
section LC
variable {I I0 : IT} {z : Bool} {v : Nat → Int} {n p T l : Nat} {D : DT}
theorem oC_tk (h : CW I v n T l) (hr : R5d I z D) (hp : p ≤ n) (h3 : I 3 false 0 3 = jI p) (hf : FC z I0 I) : OutC z I0 (f_X3_nextToken I) (tkS v n p) (fun _ J => CW J v n T l ∧ R5d J z D ∧ TK J v n p ∧ FC z I0 J) := by
  rcases s3_next h.1 hp h3 with ⟨c, J, e1, e2, e3, e4⟩ | ⟨c, J, e1, e2, e3⟩
  · unfold tkS
    rw [if_pos c]
    exact ⟨by omega, by omega, J, e1, e2, e3, hf.tr (FC.of_f e4)⟩
  · unfold tkS
    rw [if_neg c]
    exact ⟨J, e1, h.ag e3, hr.ag e3, e2, hf.tr (FC.of_t e3)⟩
theorem oC_nw {lo hi : Int} (h : CW I v n T l) (hr : R5d I z D) (hp : p ≤ n) (h3 : I 3 false 0 3 = jI p) (hf : FC z I0 I) (b1 : -1000 ≤ lo) (b2 : lo ≤ 1000) (b3 : -1000 ≤ hi) (b4 : hi ≤ 1000) {x y : Int32} (hx : x = jI lo) (hy : y = jI hi) :
    OutC z I0 (f_X3_numberWithin I x y) (bS (tkS v n p) (fun _ => nbS v n p lo hi)) (fun a J => CW J v n T l ∧ R5d J z D ∧ FC z I0 J ∧ J 3 false 0 6 = jI a.1 ∧ J 3 false 0 3 = jI a.2 ∧ J 3 false 0 5 = jI (t_s v n p) ∧ a.2 ≤ n ∧ lo ≤ a.1 ∧ a.1 ≤ hi ∧ 0 ≤ a.1 ∧ p ≤ a.2) := by
  unfold f_X3_numberWithin
  refine OutC.bind (oC_tk h hr hp h3 hf) (fun J => rfl) (fun _ J hJ => ?_)
  obtain ⟨j1, j2, j3, j4⟩ := hJ
  have hk := t_k_le (v := v) (n := n) (p := p)
  have he := t_e_le (v := v) hp
  have h6 := t_e_ge (v := v) (n := n) (p := p)
  have h7 := t_s_ge (v := v) (n := n) (p := p)
  dsimp only
  rw [if_neg one_ne]
  unfold nbS
  by_cases c : t_k v n p = 2
  · have hv := t_v_b c
    have c1 : J 3 false 0 4 = 2 := by rw [j3.2.1, c]; rfl
    have q1 : (J 3 false 0 6 < x) = (t_v v n p < lo) := by rw [j3.2.2.2 c, hx, jI_lt (by omega) (by omega) (by omega) (by omega)]
    have q2 : (J 3 false 0 6 ≤ y) = (t_v v n p ≤ hi) := by rw [j3.2.2.2 c, hy, jI_le (by omega) (by omega) (by omega) (by omega)]
    rw [if_pos c, if_pos c1]
    simp only [q1, q2]
    by_cases d : lo ≤ t_v v n p ∧ t_v v n p ≤ hi
    · rw [if_pos d, if_neg (by omega), if_pos d.2]
      exact ⟨J, rfl, j1, j2, j4, j3.2.2.2 c, j3.1, j3.2.2.1, he, d.1, d.2, hv.1, by omega⟩
    · have e : OutC z I0 (f_X3_numberWithin_43 J) (Sum.inl (3, t_s v n p)) (fun (a : Int × Nat) J => CW J v n T l ∧ R5d J z D ∧ FC z I0 J ∧ J 3 false 0 6 = jI a.1 ∧ J 3 false 0 3 = jI a.2 ∧ J 3 false 0 5 = jI (t_s v n p) ∧ a.2 ≤ n ∧ lo ≤ a.1 ∧ a.1 ≤ hi ∧ 0 ≤ a.1 ∧ p ≤ a.2) := OutC.fail (by omega) (by omega) j3.2.2.1 j4 rfl
      rw [if_neg d]
      by_cases d2 : t_v v n p < lo
      · rw [if_pos d2]; exact e
      · rw [if_neg d2, if_neg (by omega)]; exact e
  · have c1 : ¬ J 3 false 0 4 = 2 := by
      rw [j3.2.1, show (2 : Int32) = jI 2 from rfl, jI_eq (by omega) (by omega) (by omega) (by omega)]
      omega
    rw [if_neg c, if_neg c1]
    exact OutC.fail (by omega) (by omega) j3.2.2.1 j4 rfl
/-- a sign, or a fault: the last step of a line -/
theorem oC_sg {r : IT → Option (Int32 × IT)} (hr1 : ∀ J, J 3 false 0 4 = 3 → r J = some (1, J)) (hr2 : ∀ J, ¬ J 3 false 0 4 = 3 → r J = some (0, up (up J 3 false 0 9 2) 3 false 0 10 (J 3 false 0 5))) (h : CW I v n T l) (hr : R5d I z D) (hp : p ≤ n) (ht : TK I v n p) (hf : FC z I0 I) :
    OutC z I0 (r I) (enS v n p) (fun e J => CW J v n T l ∧ R5d J z D ∧ FC z I0 J ∧ J 3 false 0 3 = jI e ∧ e ≤ n ∧ p < e) := by
  have he := t_e_le (v := v) hp
  have hk := t_k_le (v := v) (n := n) (p := p)
  have h7 := t_s_ge (v := v) (n := n) (p := p)
  unfold enS
  by_cases c : t_k v n p = 3
  · have c1 : I 3 false 0 4 = 3 := by rw [ht.2.1, c]; rfl
    have := t_e_gt c
    rw [if_pos c]
    exact ⟨I, hr1 I c1, h, hr, hf, ht.1, he, by omega⟩
  · have c1 : ¬ I 3 false 0 4 = 3 := by
      rw [ht.2.1, show (3 : Int32) = jI 3 from rfl, jI_eq (by omega) (by omega) (by omega) (by omega)]
      omega
    rw [if_neg c]
    exact ⟨by omega, by omega, _, hr2 I c1, rfl, ht.2.2.1, hf.p3.p3⟩
theorem oC_le (h : CW I v n T l) (hr : R5d I z D) (hp : p ≤ n) (h3 : I 3 false 0 3 = jI p) (hf : FC z I0 I) : OutC z I0 (f_X3_lineEnd I) (bS (tkS v n p) (fun _ => enS v n p)) (fun e J => CW J v n T l ∧ R5d J z D ∧ FC z I0 J ∧ J 3 false 0 3 = jI e ∧ e ≤ n ∧ p < e) := by
  unfold f_X3_lineEnd
  refine OutC.bind (oC_tk h hr hp h3 hf) (fun J => rfl) (fun _ J hJ => ?_)
  obtain ⟨j1, j2, j3, j4⟩ := hJ
  dsimp only
  rw [if_neg one_ne]
  exact oC_sg (r := fun J => if J 3 false 0 4 = 3 then f_X3_lineEnd_29 J else Option.bind (f_X3_fail J 2 (J 3 false 0 5)) (fun r2 => if r2.1 = 0 then some (0, r2.2) else f_X3_lineEnd_29 r2.2)) (fun J c => by rw [if_pos c]; rfl) (fun J c => by rw [if_neg c]; rfl) j1 j2 hp j3 j4
end LC
