/-! text: what a line tells, or its fault; how the class's and the reference's answers show it -/
abbrev FR (α : Type) : Type := Sum (Int × Nat) α
def bS {α β : Type} (x : FR α) (f : α → FR β) : FR β := match x with
  | Sum.inl e => Sum.inl e
  | Sum.inr a => f a
theorem bS_as {α β γ : Type} (x : FR α) (f : α → FR β) (g : β → FR γ) : bS (bS x f) g = bS x (fun a => bS (f a) g) := by
  cases x <;> rfl
def tkS (v : Nat → Int) (n p : Nat) : FR Unit := if t_k v n p = 4 then Sum.inl (1, t_s v n p) else Sum.inr ()
def nbS (v : Nat → Int) (n p : Nat) (lo hi : Int) : FR (Int × Nat) := if t_k v n p = 2 then (if lo ≤ t_v v n p ∧ t_v v n p ≤ hi then Sum.inr (t_v v n p, t_e v n p) else Sum.inl (3, t_s v n p)) else Sum.inl (2, t_s v n p)
def enS (v : Nat → Int) (n p : Nat) : FR Nat := if t_k v n p = 3 then Sum.inr (t_e v n p) else Sum.inl (2, t_s v n p)
/-- the class's -/
def FC (z : Bool) (I J : IT) : Prop := ∀ (c : Nat) (b : Bool) (p i : Nat), c ≠ 3 → (c ≠ 5 ∨ b ≠ z) → J c b p i = I c b p i
theorem FC.rf {z : Bool} {I : IT} : FC z I I := fun _ _ _ _ _ _ => rfl
theorem FC.tr {z : Bool} {I J K : IT} (h1 : FC z I J) (h2 : FC z J K) : FC z I K := fun c b p i a d => (h2 c b p i a d).trans (h1 c b p i a d)
theorem FC.p3 {z : Bool} {I J : IT} (h : FC z I J) {b : Bool} {p i : Nat} {x : Int32} : FC z I (up J 3 b p i x) := fun c b2 p2 i2 a d => (up_c a).trans (h c b2 p2 i2 a d)
theorem FC.p5 {z : Bool} {I J : IT} (h : FC z I J) {p i : Nat} {x : Int32} : FC z I (up J 5 z p i x) := fun c b2 p2 i2 a d => by
  rw [← h c b2 p2 i2 a d]
  unfold up
  rw [if_neg]
  rintro ⟨rfl, rfl, _, _⟩
  rcases d with d | d <;> exact d rfl
theorem FC.of_f {z : Bool} {I J : IT} (h : Ag fpf I J) : FC z I J := fun c b p i a _ => h c b p i (by
  unfold fpf
  have e : Nat.beq c 3 = false := by
    cases q : Nat.beq c 3 with
    | false => rfl
    | true => exact absurd (Nat.eq_of_beq_eq_true q) a
  rw [e]
  rfl)
theorem FC.of_t {z : Bool} {I J : IT} (h : Ag fpt I J) : FC z I J := FC.of_f (h.mono fun _ _ _ z => fpf_t z)
def OutC {α : Type} (z : Bool) (I0 : IT) (r : Option (Int32 × IT)) (R : FR α) (Q : α → IT → Prop) : Prop := match R with
  | Sum.inl (k, s) => 1 ≤ k ∧ k ≤ 5 ∧ ∃ J, r = some (0, J) ∧ J 3 false 0 9 = jI k ∧ J 3 false 0 10 = jI s ∧ FC z I0 J
  | Sum.inr a => ∃ J, r = some (1, J) ∧ Q a J
theorem OutC.bind {α β : Type} {z : Bool} {I0 : IT} {r : Option (Int32 × IT)} {R : FR α} {Q : α → IT → Prop} {H : Int32 × IT → Option (Int32 × IT)} {S : α → FR β} {Q2 : β → IT → Prop} (h : OutC z I0 r R Q) (h0 : ∀ J, H (0, J) = some (0, J)) (k : ∀ a J, Q a J → OutC z I0 (H (1, J)) (S a) Q2) : OutC z I0 (Option.bind r H) (bS R S) Q2 := by
  cases R with
  | inl e =>
    obtain ⟨h1, h2, J, h3, h4⟩ := h
    refine ⟨h1, h2, J, ?_, h4⟩
    rw [h3, bd_some]
    exact h0 J
  | inr a =>
    obtain ⟨J, h3, h4⟩ := h
    have := k a J h4
    rw [h3, bd_some]
    exact this
theorem one_ne : ¬ (1 : Int32) = 0 := by decide
/-- an answer handed on -/
theorem OutC.hand {α : Type} {z : Bool} {I0 : IT} {r : Option (Int32 × IT)} {R : FR α} {Q : α → IT → Prop} (h : OutC z I0 r R Q) : OutC z I0 (Option.bind r (fun r9 => gd (isb r9.1) (some (r9.1, r9.2)))) R Q := by
  cases R with
  | inl e =>
    obtain ⟨h1, h2, J, h3, h4⟩ := h
    refine ⟨h1, h2, J, ?_, h4⟩
    rw [h3, bd_some]
    rfl
  | inr a =>
    obtain ⟨J, h3, h4⟩ := h
    refine ⟨J, ?_, h4⟩
    rw [h3, bd_some]
    rfl
theorem OutC.post {α β : Type} {z : Bool} {I0 : IT} {r : Option (Int32 × IT)} {R : FR α} {Q : α → IT → Prop} {S : α → β} {Q2 : β → IT → Prop} (h : OutC z I0 r R Q) (k : ∀ a J, Q a J → Q2 (S a) J) : OutC z I0 r (bS R (fun a => Sum.inr (S a))) Q2 := by
  cases R with
  | inl e => exact h
  | inr a =>
    obtain ⟨J, h3, h4⟩ := h
    exact ⟨J, h3, k a J h4⟩
theorem OutC.fail {α : Type} {z : Bool} {I0 I : IT} {k : Int} {s : Nat} {Q : α → IT → Prop} (h1 : 1 ≤ k) (h2 : k ≤ 5) (hs : I 3 false 0 5 = jI s) (f : FC z I0 I) {x : Int32} (hx : x = jI k) : OutC z I0 (Option.bind (f_X3_fail I x (I 3 false 0 5)) (fun r => gd (isb r.1) (some (r.1, r.2)))) (Sum.inl (k, s)) Q := by
  refine ⟨h1, h2, up (up I 3 false 0 9 (jI k)) 3 false 0 10 (jI s), ?_, rfl, rfl, f.p3.p3⟩
  unfold f_X3_fail
  rw [hs, hx, bd_some]
  rfl
/-- the reference's -/
def fpD (c p i : Nat) : Bool := !(Nat.beq c 10 && (Nat.beq p 10 || (Nat.beq p 11 || (Nat.beq p 13 || (Nat.beq p 15 || (Nat.beq p 16 || (Nat.beq p 17 || (Nat.beq p 0 && (Nat.beq i 8 || (Nat.beq i 11 || (Nat.beq i 13 || (Nat.beq i 19 || (Nat.beq i 20 || (Nat.beq i 21 || (Nat.beq i 22 || (Nat.beq i 23 || Nat.beq i 24))))))))))))))))
theorem fpD_m {c p i : Nat} (h : fpD c p i = true) : fpm c p i = true := by
  unfold fpD at h
  unfold fpm
  simp only [Bool.not_eq_true', Bool.and_eq_false_iff, Bool.or_eq_false_iff] at h ⊢
  rcases h with h | ⟨_, _, _, _, _, _, h⟩
  · exact Or.inl h
  · rcases h with h | h
    · exact Or.inr (Or.inl h)
    · exact Or.inr (Or.inr ⟨h.2.2.2.1, h.2.2.2.2.1, h.2.2.2.2.2.1, h.2.2.2.2.2.2.1, h.2.2.2.2.2.2.2.1, h.2.2.2.2.2.2.2.2⟩)
theorem AgD_m {I J : IT} (h : Ag fpm I J) : Ag fpD I J := h.mono fun _ _ _ z => fpD_m z
theorem AgD_n {I J : IT} (h : Ag fpn I J) : Ag fpD I J := h.mono fun _ _ _ z => fpm_n (fpD_m z)
def OutM {α : Type} (I0 : IT) (r : Option IT) (R : FR α) (Q : α → IT → Prop) : Prop := match R with
  | Sum.inl (k, s) => ∃ J, r = some J ∧ FS J k s ∧ Ag fpD I0 J
  | Sum.inr a => ∃ J, r = some J ∧ Q a J
theorem OutM.bind {α β : Type} {I0 : IT} {r : Option IT} {R : FR α} {Q : α → IT → Prop} {G : IT → Option IT} {S : α → FR β} {Q2 : β → IT → Prop} (h : OutM I0 r R Q) (k : ∀ a J, Q a J → OutM I0 (G J) (S a) Q2) (i : ∀ J x y, FS J x y → ∃ K, G J = some K ∧ FS K x y ∧ Ag fpD J K) : OutM I0 (Option.bind r G) (bS R S) Q2 := by
  cases R with
  | inl e =>
    obtain ⟨J, h3, h4, h5⟩ := h
    obtain ⟨K, k1, k2, k3⟩ := i J _ _ h4
    refine ⟨K, ?_, k2, h5.tr k3⟩
    rw [h3, bd_some]
    exact k1
  | inr a =>
    obtain ⟨J, h3, h4⟩ := h
    have := k a J h4
    rw [h3, bd_some]
    exact this
/-- a number read: the answer counts only without a fault -/
def OutN {α : Type} (I0 : IT) (r : Option (Int32 × IT)) (R : FR α) (Q : α → Int32 → IT → Prop) : Prop := match R with
  | Sum.inl (k, s) => ∃ x J, r = some (x, J) ∧ FS J k s ∧ Ag fpD I0 J
  | Sum.inr a => ∃ x J, r = some (x, J) ∧ Q a x J
theorem OutN.bind {α β : Type} {I0 : IT} {r : Option (Int32 × IT)} {R : FR α} {Q : α → Int32 → IT → Prop} {G : Int32 × IT → Option IT} {S : α → FR β} {Q2 : β → IT → Prop} (h : OutN I0 r R Q) (k : ∀ a x J, Q a x J → OutM I0 (G (x, J)) (S a) Q2) (i : ∀ w J x y, FS J x y → ∃ K, G (w, J) = some K ∧ FS K x y ∧ Ag fpD J K) : OutM I0 (Option.bind r G) (bS R S) Q2 := by
  cases R with
  | inl e =>
    obtain ⟨w, J, h3, h4, h5⟩ := h
    obtain ⟨K, k1, k2, k3⟩ := i w J _ _ h4
    refine ⟨K, ?_, k2, h5.tr k3⟩
    rw [h3, bd_some]
    exact k1
  | inr a =>
    obtain ⟨x, J, h3, h4⟩ := h
    have := k a x J h4
    rw [h3, bd_some]
    exact this
