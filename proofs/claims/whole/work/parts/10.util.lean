/-! words of the pure functions -/
def gd {α : Type} (b : Bool) (x : Option α) : Option α := match b with
  | true => x
  | false => none
theorem gd_s {α : Type} {b : Bool} {x : Option α} {r : α} (h : gd b x = some r) : b = true ∧ x = some r := by
  cases b with
  | false => cases h
  | true => exact ⟨rfl, h⟩
theorem bd_s {α β : Type} {o : Option α} {f : α → Option β} {r : β} (h : Option.bind o f = some r) : ∃ a, o = some a ∧ f a = some r := by
  cases o with
  | none => cases h
  | some a => exact ⟨a, rfl, h⟩
theorem if_t {α : Type} {c : Prop} {d : Decidable c} {a b x : α} (hc : c) (h : (if c then a else b) = x) : a = x := by rw [if_pos hc] at h; exact h
theorem if_f {α : Type} {c : Prop} {d : Decidable c} {a b x : α} (hc : ¬ c) (h : (if c then a else b) = x) : b = x := by rw [if_neg hc] at h; exact h
/-- how often a loop may go round: more than any run needs -/
def fuel : Nat := 10 ^ 40
theorem sw_n {x : Int32} {P : Nat → Prop} : ∀ (j : Nat) (v : Int32) (t : Nat), ([] : List (Int32 × Nat))[j]? = some (v, t) → x = v → P t := fun j v t h => by simp at h
theorem sw_c {x v0 : Int32} {t0 : Nat} {r : List (Int32 × Nat)} {P : Nat → Prop} (h : x = v0 → P t0) (hr : ∀ (j : Nat) (v : Int32) (t : Nat), r[j]? = some (v, t) → x = v → P t) : ∀ (j : Nat) (v : Int32) (t : Nat), ((v0, t0) :: r)[j]? = some (v, t) → x = v → P t := fun j v t hj => by
  cases j with
  | zero => simp only [List.getElem?_cons_zero] at hj; cases hj; exact h
  | succ j => simp only [List.getElem?_cons_succ] at hj; exact hr j v t hj
