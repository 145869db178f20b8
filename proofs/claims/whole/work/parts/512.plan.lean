/-! plans: the row of a set, what may lie where, bounds; and the whole relation -/
def d_en (D : DT) (c : Nat) : Int := d_bg D c + d_ln D c
def d_tr (D : DT) (c : Nat) : Int := d_ty D (d_pr D c)
def fol (D : DT) (a c : Nat) : Bool := decide (d_en D a + (if d_tr D a = d_tr D c then 0 else d_mv D) ≤ d_bg D c)
def bsd (D : DT) (a c : Nat) : Bool := decide (d_bg D a < d_en D c ∧ d_bg D c < d_en D a)
/-- where a cue goes in a row, from its end -/
def ipos (g : Nat → Int) (r : Nat → Nat) (c : Nat) : Nat → Nat
  | 0 => 0
  | k + 1 => if g c < g (r k) then ipos g r c k else k + 1
def iput (r : Nat → Nat) (p c : Nat) : Nat → Nat := fun k => if k < p then r k else if k = p then c else r (k - 1)
/-- how long the row of the cues below n is that are in the set, and the row -/
def rowF (g : Nat → Int) (S : Nat) : Nat → Nat × (Nat → Nat)
  | 0 => (0, fun _ => 0)
  | c + 1 => if S.testBit c then ((rowF g S c).1 + 1, iput (rowF g S c).2 (ipos g (rowF g S c).2 c (rowF g S c).1) c) else rowF g S c
/-- the last of the first i that lies in slot s -/
def lst (t : Nat → Nat) (s : Nat) : Nat → Option Nat
  | 0 => none
  | i + 1 => if t i = s then some i else lst t s i
/-- whether the i-th may lie in slot s behind those ahead of it -/
def may (D : DT) (r t : Nat → Nat) (i s : Nat) : Prop :=
  (∀ w : Nat, (w : Int) < d_wk D → ∀ j, lst t (3 * (s / 3) + w) i = some j → 3 * (s / 3) + w ≠ s → ¬ (d_tr D (r j) = d_tr D (r i) ∧ bsd D (r j) (r i) = true)) ∧
  (∀ j, lst t s i = some j → fol D (r j) (r i) = true) ∧
  (lst t s i = none → (∀ w, w < s % 3 → lst t (3 * (s / 3) + w) i ≠ none) ∧ (s / 3 = 0 ∨ lst t (3 * (s / 3) - 3) i ≠ none))
def Vd (D : DT) (r t : Nat → Nat) (P k : Nat) : Prop := ∀ i, i < k → t i < 3 * P ∧ ((t i % 3 : Nat) : Int) < d_wk D ∧ may D r t i (t i)
def cnt (p : Nat → Bool) : Nat → Nat
  | 0 => 0
  | k + 1 => if p k then cnt p k + 1 else cnt p k
def sdg (D : DT) (f : Int) (c : Nat) : Bool := decide (d_bg D c ≤ f ∧ f < d_en D c)
def sdt (D : DT) (f t : Int) (c : Nat) : Bool := sdg D f c && decide (d_tr D c = t)
/-- how many passes a frame asks for -/
def need (D : DT) (r : Nat → Nat) (m : Nat) (f : Int) : Int := ((cnt (fun i => sdg D f (r i)) m : Nat) + d_wk D - 1) / d_wk D
def IsB (D : DT) (r : Nat → Nat) (m : Nat) (B : Nat) : Prop :=
  (∀ f : Int, 0 ≤ f → f < 500 → need D r m f ≤ B ∧ ∀ t : Int, cnt (fun i => sdt D f t (r i)) m ≤ B) ∧ (B = 0 ∨ ∃ f : Int, 0 ≤ f ∧ f < 500 ∧ (need D r m f = B ∨ ∃ t : Int, cnt (fun i => sdt D f t (r i)) m = B))
def lexle (t u : Nat → Nat) (m : Nat) : Prop := (∀ i, i < m → t i = u i) ∨ ∃ i, i < m ∧ (∀ j, j < i → t j = u j) ∧ t i < u i
def IsPlan (D : DT) (r : Nat → Nat) (m : Nat) (t : Nat → Nat) (P : Nat) : Prop := ∃ B, IsB D r m B ∧ B ≤ P ∧ Vd D r t P m ∧ (∀ u, Vd D r u P m → lexle t u m) ∧ ∀ Q, B ≤ Q → Q < P → ∀ u, ¬ Vd D r u Q m
/-- the plan that the class keeps -/
def PL (I : IT) (D : DT) : Prop := I 4 false 0 9 = jI (-4) ∨ ∃ (S P : Nat) (t : Nat → Nat), I 4 false 0 9 = jI S ∧ S < 2 ^ d_nC D ∧ (rowF (d_bg D) S (d_nC D)).1 ≤ 9 ∧ I 4 false 0 6 = jI (rowF (d_bg D) S (d_nC D)).1 ∧ (∀ i, i < (rowF (d_bg D) S (d_nC D)).1 → I 4 false 1 i = jI ((rowF (d_bg D) S (d_nC D)).2 i)) ∧
  I 4 false 0 8 = jI P ∧ P ≤ 9 ∧ (∀ i, i < (rowF (d_bg D) S (d_nC D)).1 → I 4 false 4 i = jI (t i)) ∧ IsPlan D (rowF (d_bg D) S (d_nC D)).2 (rowF (d_bg D) S (d_nC D)).1 t P
def RelD (I : IT) (b : Bool) (D : DT) : Prop := DB D ∧ R5 I b D ∧ RM I D ∧ PL I D ∧ TP I ∧ FT I ∧ (∃ n0 n1 h0 h1, HT I n0 n1 h0 h1) ∧ (∃ n pf pl, PC I n pf pl) ∧ (∃ n fr pp, EL I n fr pp) ∧ SH I
def Rel (I : IT) (Z : ZT) : Prop := Z.2.1 = !Z.1 ∧ ∃ D, RelD I Z.1 D
/-! what stays where its cells stay -/
def Ag (fp : Nat → Nat → Nat → Bool) (I I' : IT) : Prop := ∀ c b p i, fp c p i = true → I' c b p i = I c b p i
theorem Ag.rf {fp : Nat → Nat → Nat → Bool} {I : IT} : Ag fp I I := fun _ _ _ _ _ => rfl
theorem Ag.tr {fp : Nat → Nat → Nat → Bool} {I J K : IT} (h1 : Ag fp I J) (h2 : Ag fp J K) : Ag fp I K := fun c b p i h => (h2 c b p i h).trans (h1 c b p i h)
theorem Ag.put {fp : Nat → Nat → Nat → Bool} {I J : IT} (h : Ag fp I J) {c : Nat} {b : Bool} {p i : Nat} {v : Int32} (hf : fp c p i = false) : Ag fp I (up J c b p i v) := by
  intro c2 b2 p2 i2 h2
  unfold up
  rw [if_neg]
  · exact h c2 b2 p2 i2 h2
  · rintro ⟨rfl, rfl, rfl, rfl⟩
    rw [hf] at h2
    cases h2
theorem Ag.mono {fp fq : Nat → Nat → Nat → Bool} {I J : IT} (h : Ag fq I J) (hf : ∀ c p i, fp c p i = true → fq c p i = true) : Ag fp I J := fun c b p i h2 => h c b p i (hf c p i h2)
def fpM (c p i : Nat) : Bool := Nat.beq c 10 && (Nat.beq p 2 || (Nat.beq p 3 || (Nat.beq p 5 || (Nat.beq p 7 || (Nat.beq p 8 || (Nat.beq p 0 && (Nat.beq i 0 || (Nat.beq i 3 || Nat.beq i 5))))))))
def fpL (c p _i : Nat) : Bool := Nat.beq c 4 && (Nat.beq p 0 || (Nat.beq p 1 || Nat.beq p 4))
def fpT (c p i : Nat) : Bool := Nat.beq c 8 || (Nat.beq c 10 && (Nat.beq p 18 || (Nat.beq p 0 && Nat.beq i 18)))
def fpF (c p i : Nat) : Bool := Nat.beq c 9 || (Nat.beq c 10 && (Nat.beq p 0 && (Nat.beq i 23 || Nat.beq i 46)))
def fpH (c p _i : Nat) : Bool := (Nat.beq c 7 && (Nat.beq p 1 || (Nat.beq p 2 || Nat.beq p 3))) || (Nat.beq c 10 && (Nat.beq p 32 || Nat.beq p 33))
def fpP (c p i : Nat) : Bool := Nat.beq c 2 || (Nat.beq c 10 && (Nat.beq p 37 || (Nat.beq p 38 || (Nat.beq p 0 && Nat.beq i 35))))
def fpE (c p _i : Nat) : Bool := (Nat.beq c 0 && (Nat.beq p 1 || (Nat.beq p 2 || Nat.beq p 3))) || (Nat.beq c 10 && (Nat.beq p 39 || (Nat.beq p 40 || Nat.beq p 41)))
def fpS (c p _i : Nat) : Bool := Nat.beq c 6 || (Nat.beq c 10 && (Nat.beq p 44 || (Nat.beq p 45 || Nat.beq p 46)))
def fp5 (c _p _i : Nat) : Bool := Nat.beq c 5
def fpA (c p i : Nat) : Bool := fp5 c p i || (fpM c p i || (fpL c p i || (fpT c p i || (fpF c p i || (fpH c p i || (fpP c p i || (fpE c p i || fpS c p i)))))))
theorem fpA_of {c p i : Nat} : fpA c p i = true ↔ fp5 c p i = true ∨ fpM c p i = true ∨ fpL c p i = true ∨ fpT c p i = true ∨ fpF c p i = true ∨ fpH c p i = true ∨ fpP c p i = true ∨ fpE c p i = true ∨ fpS c p i = true := by
  unfold fpA
  simp only [Bool.or_eq_true]
section AG
variable {I I' : IT} {b : Bool} {D : DT}
theorem R5.ag (hR : R5 I b D) (h : ∀ p i, I' 5 b p i = I 5 b p i) : R5 I' b D := by
  unfold R5
  simp only [h]
  exact hR
theorem RM.ag (hR : RM I D) (h : Ag fpM I I') : RM I' D := by
  have e0 : I' 10 false 0 0 = I 10 false 0 0 := h _ _ _ _ rfl
  have e3 : I' 10 false 0 3 = I 10 false 0 3 := h _ _ _ _ rfl
  have e5 : I' 10 false 0 5 = I 10 false 0 5 := h _ _ _ _ rfl
  have a2 : ∀ i, I' 10 false 2 i = I 10 false 2 i := fun i => h _ _ _ _ rfl
  have a3 : ∀ i, I' 10 false 3 i = I 10 false 3 i := fun i => h _ _ _ _ rfl
  have a5 : ∀ i, I' 10 false 5 i = I 10 false 5 i := fun i => h _ _ _ _ rfl
  have a7 : ∀ i, I' 10 false 7 i = I 10 false 7 i := fun i => h _ _ _ _ rfl
  have a8 : ∀ i, I' 10 false 8 i = I 10 false 8 i := fun i => h _ _ _ _ rfl
  unfold RM
  simp only [e0, e3, e5, a2, a3, a5, a7, a8]
  exact hR
theorem PL.ag (hR : PL I D) (h : Ag fpL I I') : PL I' D := by
  have a0 : ∀ i, I' 4 false 0 i = I 4 false 0 i := fun i => h _ _ _ _ rfl
  have a1 : ∀ i, I' 4 false 1 i = I 4 false 1 i := fun i => h _ _ _ _ rfl
  have a4 : ∀ i, I' 4 false 4 i = I 4 false 4 i := fun i => h _ _ _ _ rfl
  unfold PL
  simp only [a0, a1, a4]
  exact hR
theorem TP.ag (hR : TP I) (h : Ag fpT I I') : TP I' := by
  have a0 : ∀ p i, I' 8 false p i = I 8 false p i := fun p i => h _ _ _ _ rfl
  have a1 : ∀ i, I' 10 false 18 i = I 10 false 18 i := fun i => h _ _ _ _ rfl
  have a4 : I' 10 false 0 18 = I 10 false 0 18 := h _ _ _ _ rfl
  unfold TP
  simp only [a0, a1, a4]
  exact hR
theorem FT.ag (hR : FT I) (h : Ag fpF I I') : FT I' := by
  have a0 : ∀ p i, I' 9 false p i = I 9 false p i := fun p i => h _ _ _ _ rfl
  have a1 : I' 10 false 0 23 = I 10 false 0 23 := h _ _ _ _ rfl
  have a4 : I' 10 false 0 46 = I 10 false 0 46 := h _ _ _ _ rfl
  unfold FT
  simp only [a0, a1, a4]
  exact hR
theorem HT.ag {n0 n1 : Nat} {h0 h1 : Nat → Int} (hR : HT I n0 n1 h0 h1) (h : Ag fpH I I') : HT I' n0 n1 h0 h1 := by
  have a1 : ∀ i, I' 7 false 1 i = I 7 false 1 i := fun i => h _ _ _ _ rfl
  have a2 : ∀ i, I' 7 false 2 i = I 7 false 2 i := fun i => h _ _ _ _ rfl
  have a3 : ∀ i, I' 7 false 3 i = I 7 false 3 i := fun i => h _ _ _ _ rfl
  have a4 : ∀ i, I' 10 false 32 i = I 10 false 32 i := fun i => h _ _ _ _ rfl
  have a5 : ∀ i, I' 10 false 33 i = I 10 false 33 i := fun i => h _ _ _ _ rfl
  unfold HT
  simp only [a1, a2, a3, a4, a5]
  exact hR
theorem PC.ag {n : Nat} {pf pl : Nat → Int} (hR : PC I n pf pl) (h : Ag fpP I I') : PC I' n pf pl := by
  have a0 : ∀ p i, I' 2 false p i = I 2 false p i := fun p i => h _ _ _ _ rfl
  have a1 : ∀ i, I' 10 false 37 i = I 10 false 37 i := fun i => h _ _ _ _ rfl
  have a2 : ∀ i, I' 10 false 38 i = I 10 false 38 i := fun i => h _ _ _ _ rfl
  have a4 : I' 10 false 0 35 = I 10 false 0 35 := h _ _ _ _ rfl
  unfold PC
  simp only [a0, a1, a2, a4]
  exact hR
theorem EL.ag {n : Nat → Nat} {fr pp : Nat → Nat → Int} (hR : EL I n fr pp) (h : Ag fpE I I') : EL I' n fr pp := by
  have a1 : ∀ i, I' 0 false 1 i = I 0 false 1 i := fun i => h _ _ _ _ rfl
  have a2 : ∀ i, I' 0 false 2 i = I 0 false 2 i := fun i => h _ _ _ _ rfl
  have a3 : ∀ i, I' 0 false 3 i = I 0 false 3 i := fun i => h _ _ _ _ rfl
  have a4 : ∀ i, I' 10 false 39 i = I 10 false 39 i := fun i => h _ _ _ _ rfl
  have a5 : ∀ i, I' 10 false 40 i = I 10 false 40 i := fun i => h _ _ _ _ rfl
  have a6 : ∀ i, I' 10 false 41 i = I 10 false 41 i := fun i => h _ _ _ _ rfl
  unfold EL
  simp only [a1, a2, a3, a4, a5, a6]
  exact hR
theorem SH.ag (hR : SH I) (h : Ag fpS I I') : SH I' := by
  have a0 : ∀ p i, I' 6 false p i = I 6 false p i := fun p i => h _ _ _ _ rfl
  have a4 : ∀ i, I' 10 false 44 i = I 10 false 44 i := fun i => h _ _ _ _ rfl
  have a5 : ∀ i, I' 10 false 45 i = I 10 false 45 i := fun i => h _ _ _ _ rfl
  have a6 : ∀ i, I' 10 false 46 i = I 10 false 46 i := fun i => h _ _ _ _ rfl
  unfold SH
  simp only [a0, a4, a5, a6]
  exact hR
/-- cells that the relation doesn't speak of -/
theorem RelD.ag (hR : RelD I b D) (h : Ag fpA I I') : RelD I' b D := by
  obtain ⟨r1, r2, r3, r4, r5, r6, ⟨n0, n1, h0, h1, r7⟩, ⟨n, pf, pl, r8⟩, ⟨m, fr, pp, r9⟩, r10⟩ := hR
  refine ⟨r1, r2.ag (fun p i => h _ _ _ _ (fpA_of.mpr (Or.inl rfl))), r3.ag (h.mono fun c p i z => fpA_of.mpr (Or.inr (Or.inl z))), r4.ag (h.mono fun c p i z => fpA_of.mpr (Or.inr (Or.inr (Or.inl z)))), r5.ag (h.mono fun c p i z => fpA_of.mpr (Or.inr (Or.inr (Or.inr (Or.inl z))))),
    r6.ag (h.mono fun c p i z => fpA_of.mpr (Or.inr (Or.inr (Or.inr (Or.inr (Or.inl z)))))), ⟨n0, n1, h0, h1, r7.ag (h.mono fun c p i z => fpA_of.mpr (Or.inr (Or.inr (Or.inr (Or.inr (Or.inr (Or.inl z)))))))⟩, ⟨n, pf, pl, r8.ag (h.mono fun c p i z => fpA_of.mpr (Or.inr (Or.inr (Or.inr (Or.inr (Or.inr (Or.inr (Or.inl z))))))))⟩,
    ⟨m, fr, pp, r9.ag (h.mono fun c p i z => fpA_of.mpr (Or.inr (Or.inr (Or.inr (Or.inr (Or.inr (Or.inr (Or.inr (Or.inl z)))))))))⟩, r10.ag (h.mono fun c p i z => fpA_of.mpr (Or.inr (Or.inr (Or.inr (Or.inr (Or.inr (Or.inr (Or.inr (Or.inr z)))))))))⟩
end AG
