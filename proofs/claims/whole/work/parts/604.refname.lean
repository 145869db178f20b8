/-! text: the reference's names -/
theorem all3 {P : Nat → Prop} : (∀ j, j < 3 → P j) ↔ P 0 ∧ P 1 ∧ P 2 := by
  refine ⟨fun h => ⟨h 0 (by omega), h 1 (by omega), h 2 (by omega)⟩, fun h j hj => ?_⟩
  have : j = 0 ∨ j = 1 ∨ j = 2 := by omega
  rcases this with e | e | e <;> subst e <;> simp [h]
theorem all4 {P : Nat → Prop} : (∀ j, j < 4 → P j) ↔ P 0 ∧ P 1 ∧ P 2 ∧ P 3 := by
  refine ⟨fun h => ⟨h 0 (by omega), h 1 (by omega), h 2 (by omega), h 3 (by omega)⟩, fun h j hj => ?_⟩
  have : j = 0 ∨ j = 1 ∨ j = 2 ∨ j = 3 := by omega
  rcases this with e | e | e | e <;> subst e <;> simp [h]
theorem all6 {P : Nat → Prop} : (∀ j, j < 6 → P j) ↔ (P 0 ∧ P 1 ∧ P 2 ∧ P 3) ∧ P 4 ∧ P 5 := by
  refine ⟨fun h => ⟨⟨h 0 (by omega), h 1 (by omega), h 2 (by omega), h 3 (by omega)⟩, h 4 (by omega), h 5 (by omega)⟩, fun h j hj => ?_⟩
  have : j = 0 ∨ j = 1 ∨ j = 2 ∨ j = 3 ∨ j = 4 ∨ j = 5 := by omega
  rcases this with e | e | e | e | e | e <;> subst e <;> simp [h]
theorem all7 {P : Nat → Prop} : (∀ j, j < 7 → P j) ↔ (P 0 ∧ P 1 ∧ P 2 ∧ P 3) ∧ P 4 ∧ P 5 ∧ P 6 := by
  refine ⟨fun h => ⟨⟨h 0 (by omega), h 1 (by omega), h 2 (by omega), h 3 (by omega)⟩, h 4 (by omega), h 5 (by omega), h 6 (by omega)⟩, fun h j hj => ?_⟩
  have : j = 0 ∨ j = 1 ∨ j = 2 ∨ j = 3 ∨ j = 4 ∨ j = 5 ∨ j = 6 := by omega
  rcases this with e | e | e | e | e | e | e <;> subst e <;> simp [h]
section RNM
variable {I : IT} {v : Nat → Int} {n p k : Nat}
theorem lk_w (hk : t_k v n p = 1) (hp : p ≤ n) : isWb v n k p = true ↔ t_e v n p = t_s v n p + sl k ∧ ∀ j, j < sl k → lk v n (t_s v n p + j) = wl k j := by
  have he := t_e_le (v := v) hp
  unfold isWb
  rw [decide_eq_true_iff]
  constructor
  · rintro ⟨_, a, b⟩
    exact ⟨a, fun j hj => by
      unfold lk
      rw [if_pos (by omega)]
      exact b j hj⟩
  · rintro ⟨a, b⟩
    exact ⟨hk, a, fun j hj => by
      have := b j hj
      unfold lk at this
      rw [if_pos (by omega)] at this
      exact this⟩
theorem sM_is (h : MB I v n) (ht : NK I v n p) (hp : p ≤ n) {m a b c d : Int} (m1 : 0 ≤ m) (m2 : m ≤ 10) (a1 : 0 ≤ a) (a2 : a ≤ 200) (b1 : 0 ≤ b) (b2 : b ≤ 200) (c1 : 0 ≤ c) (c2 : c ≤ 200) (d1 : 0 ≤ d) (d2 : d ≤ 200) :
    f_X10_is I (jI m) (jI a) (jI b) (jI c) (jI d) = some (bi ((t_e v n p : Int) = t_s v n p + m ∧ lk v n (t_s v n p) = a ∧ lk v n (t_s v n p + 1) = b ∧ lk v n (t_s v n p + 2) = c ∧ (m < 4 ∨ lk v n (t_s v n p + 3) = d))) := by
  have he := t_e_le (v := v) hp
  have h6 := t_e_ge (v := v) (n := n) (p := p)
  have hn := h.1
  have k0 := lk_b (p := t_s v n p) h
  have k1 := lk_b (p := t_s v n p + 1) h
  have k2 := lk_b (p := t_s v n p + 2) h
  have k3 := lk_b (p := t_s v n p + 3) h
  have q1 : jI (t_s v n p : Int) + 1 = jI ((t_s v n p + 1 : Nat) : Int) := by rw [show (1 : Int32) = jI 1 from rfl, jI_add]; rfl
  have q2 : jI (t_s v n p : Int) + 2 = jI ((t_s v n p + 2 : Nat) : Int) := by rw [show (2 : Int32) = jI 2 from rfl, jI_add]; rfl
  have q3 : jI (t_s v n p : Int) + 3 = jI ((t_s v n p + 3 : Nat) : Int) := by rw [show (3 : Int32) = jI 3 from rfl, jI_add]; rfl
  unfold f_X10_is f_X10_is_74
  rw [ht.1, ht.2.2.1, jI_sub, q1, q2, q3, sM_lk h (by omega), sM_lk h (by omega), sM_lk h (by omega), sM_lk h (by omega)]
  simp (disch := omega) only [bd_some, jI_eq, show (4 : Int32) = jI 4 from rfl, jI_lt]
  unfold bi
  repeat' split
  all_goals first | rfl | (exfalso; omega)
theorem sM_go (h : MB I v n) (ht : NK I v n p) (hp : p ≤ n) {a b c : Int} (a1 : 0 ≤ a) (a2 : a ≤ 200) (b1 : 0 ≤ b) (b2 : b ≤ 200) (c1 : 0 ≤ c) (c2 : c ≤ 200) :
    f_X10_goesOn I (jI a) (jI b) (jI c) = some (bi (lk v n (t_s v n p + 4) = a ∧ lk v n (t_s v n p + 5) = b ∧ (c = 0 ∨ lk v n (t_s v n p + 6) = c))) := by
  have he := t_e_le (v := v) hp
  have h6 := t_e_ge (v := v) (n := n) (p := p)
  have hn := h.1
  have k0 := lk_b (p := t_s v n p + 4) h
  have k1 := lk_b (p := t_s v n p + 5) h
  have k2 := lk_b (p := t_s v n p + 6) h
  have q1 : jI (t_s v n p : Int) + 4 = jI ((t_s v n p + 4 : Nat) : Int) := by rw [show (4 : Int32) = jI 4 from rfl, jI_add]; rfl
  have q2 : jI (t_s v n p : Int) + 5 = jI ((t_s v n p + 5 : Nat) : Int) := by rw [show (5 : Int32) = jI 5 from rfl, jI_add]; rfl
  have q3 : jI (t_s v n p : Int) + 6 = jI ((t_s v n p + 6 : Nat) : Int) := by rw [show (6 : Int32) = jI 6 from rfl, jI_add]; rfl
  unfold f_X10_goesOn f_X10_goesOn_47
  rw [ht.2.2.1, q1, q2, q3, sM_lk h (by omega), sM_lk h (by omega), sM_lk h (by omega)]
  simp (disch := omega) only [bd_some, jI_eq, show (0 : Int32) = jI 0 from rfl]
  unfold bi
  repeat' split
  all_goals first | rfl | (exfalso; omega)
theorem w4 (hk : t_k v n p = 1) (hp : p ≤ n) (h4 : sl k = 4) {a b c d : Int} (e0 : wl k 0 = a) (e1 : wl k 1 = b) (e2 : wl k 2 = c) (e3 : wl k 3 = d) : ((t_e v n p : Int) = t_s v n p + 4 ∧ lk v n (t_s v n p) = a ∧ lk v n (t_s v n p + 1) = b ∧ lk v n (t_s v n p + 2) = c ∧ ((4 : Int) < 4 ∨ lk v n (t_s v n p + 3) = d)) ↔ isWb v n k p = true := by
  rw [lk_w hk hp, h4, all4, e0, e1, e2, e3]
  simp only [Nat.add_zero]
  constructor <;> intro h <;> refine ⟨by omega, h.2.1, ?_⟩
  · exact ⟨h.2.2.1, h.2.2.2.1, by omega⟩
  · exact ⟨h.2.2.1, h.2.2.2.1, by omega⟩
theorem w3 (hk : t_k v n p = 1) (hp : p ≤ n) (h4 : sl k = 3) {a b c d : Int} (e0 : wl k 0 = a) (e1 : wl k 1 = b) (e2 : wl k 2 = c) : ((t_e v n p : Int) = t_s v n p + 3 ∧ lk v n (t_s v n p) = a ∧ lk v n (t_s v n p + 1) = b ∧ lk v n (t_s v n p + 2) = c ∧ ((3 : Int) < 4 ∨ lk v n (t_s v n p + 3) = d)) ↔ isWb v n k p = true := by
  rw [lk_w hk hp, h4, all3, e0, e1, e2]
  simp only [Nat.add_zero]
  constructor <;> intro h
  · exact ⟨by omega, h.2.1, h.2.2.1, h.2.2.2.1⟩
  · exact ⟨by omega, h.2.1, h.2.2.1, h.2.2.2, by omega⟩
theorem w6 (hk : t_k v n p = 1) (hp : p ≤ n) (h4 : sl k = 6) {a b c d e f : Int} (e0 : wl k 0 = a) (e1 : wl k 1 = b) (e2 : wl k 2 = c) (e3 : wl k 3 = d) (e4 : wl k 4 = e) (e5 : wl k 5 = f) : (((t_e v n p : Int) = t_s v n p + 6 ∧ lk v n (t_s v n p) = a ∧ lk v n (t_s v n p + 1) = b ∧ lk v n (t_s v n p + 2) = c ∧ ((6 : Int) < 4 ∨ lk v n (t_s v n p + 3) = d)) ∧ (lk v n (t_s v n p + 4) = e ∧ lk v n (t_s v n p + 5) = f ∧ ((0 : Int) = 0 ∨ lk v n (t_s v n p + 6) = 0))) ↔ isWb v n k p = true := by
  rw [lk_w hk hp, h4, all6, e0, e1, e2, e3, e4, e5]
  simp only [Nat.add_zero]
  constructor <;> intro h
  · exact ⟨by omega, ⟨h.1.2.1, h.1.2.2.1, h.1.2.2.2.1, by omega⟩, h.2.1, h.2.2.1⟩
  · exact ⟨⟨by omega, h.2.1.1, h.2.1.2.1, h.2.1.2.2.1, Or.inr h.2.1.2.2.2⟩, h.2.2.1, h.2.2.2, Or.inl trivial⟩
theorem w7 (hk : t_k v n p = 1) (hp : p ≤ n) (h4 : sl k = 7) {a b c d e f g : Int} (hg : g ≠ 0) (e0 : wl k 0 = a) (e1 : wl k 1 = b) (e2 : wl k 2 = c) (e3 : wl k 3 = d) (e4 : wl k 4 = e) (e5 : wl k 5 = f) (e6 : wl k 6 = g) : (((t_e v n p : Int) = t_s v n p + 7 ∧ lk v n (t_s v n p) = a ∧ lk v n (t_s v n p + 1) = b ∧ lk v n (t_s v n p + 2) = c ∧ ((7 : Int) < 4 ∨ lk v n (t_s v n p + 3) = d)) ∧ (lk v n (t_s v n p + 4) = e ∧ lk v n (t_s v n p + 5) = f ∧ (g = 0 ∨ lk v n (t_s v n p + 6) = g))) ↔ isWb v n k p = true := by
  rw [lk_w hk hp, h4, all7, e0, e1, e2, e3, e4, e5, e6]
  simp only [Nat.add_zero]
  constructor <;> intro h
  · exact ⟨by omega, ⟨h.1.2.1, h.1.2.2.1, h.1.2.2.2.1, by omega⟩, h.2.1, h.2.2.1, by omega⟩
  · exact ⟨⟨by omega, h.2.1.1, h.2.1.2.1, h.2.1.2.2.1, Or.inr h.2.1.2.2.2⟩, h.2.2.1, h.2.2.2.1, Or.inr h.2.2.2.2⟩
/-- a name's number in the reference -/
def cdS (v : Nat → Int) (n p : Nat) : Int := if lkS v n p = 0 then 10 else if lkS v n p = 1 then 11 else if lkS v n p = 2 then 12 else if lkS v n p = 3 then 0 else if lkS v n p = 4 then 1 else if lkS v n p = 5 then 2 else if lkS v n p = 6 then 3 else if lkS v n p = 7 then 13 else if isWb v n 8 p = true then 14 else -4
theorem two_if {α : Type} {A B : Prop} {W : Prop} [Decidable A] [Decidable B] [Decidable W] (h : (A ∧ B) ↔ W) {x y : α} : (if A then (if B then y else x) else x) = if W then y else x := by
  by_cases a : A
  · by_cases b : B
    · rw [if_pos a, if_pos b, if_pos (h.mp ⟨a, b⟩)]
    · rw [if_pos a, if_neg b, if_neg (fun w => b (h.mpr w).2)]
  · rw [if_neg a, if_neg (fun w => a (h.mpr w).1)]
theorem bool_of {A : Prop} [Decidable A] {x : Option Int32} (h : x = some (bi A)) : ∃ a : Bool, x = some (bi (a = true)) ∧ (a = true ↔ A) := ⟨decide A, h.trans (congrArg some (bi_cg decide_eq_true_iff.symm)), decide_eq_true_iff⟩
theorem sM_nameNow (h : MB I v n) (ht : NK I v n p) (hp : p ≤ n) (hk : t_k v n p = 1) : f_X10_nameNow I = some (jI (cdS v n p)) := by
  have is4 : ∀ k a b c d : Int, True := fun _ _ _ _ _ => trivial
  have i0 : f_X10_is I 4 112 114 111 112 = some (bi (isWb v n 0 p = true)) := (sM_is h ht hp (m := 4) (a := 112) (b := 114) (c := 111) (d := 112) (by omega) (by omega) (by omega) (by omega) (by omega) (by omega) (by omega) (by omega) (by omega) (by omega)).trans (congrArg some (bi_cg (w4 hk hp rfl rfl rfl rfl rfl)))
  have i2 : f_X10_is I 3 99 117 101 0 = some (bi (isWb v n 2 p = true)) := (sM_is h ht hp (m := 3) (a := 99) (b := 117) (c := 101) (d := 0) (by omega) (by omega) (by omega) (by omega) (by omega) (by omega) (by omega) (by omega) (by omega) (by omega)).trans (congrArg some (bi_cg (w3 hk hp rfl rfl rfl rfl)))
  have i4 : f_X10_is I 4 109 111 118 101 = some (bi (isWb v n 4 p = true)) := (sM_is h ht hp (m := 4) (a := 109) (b := 111) (c := 118) (d := 101) (by omega) (by omega) (by omega) (by omega) (by omega) (by omega) (by omega) (by omega) (by omega) (by omega)).trans (congrArg some (bi_cg (w4 hk hp rfl rfl rfl rfl rfl)))
  have i5 : f_X10_is I 4 116 97 105 108 = some (bi (isWb v n 5 p = true)) := (sM_is h ht hp (m := 4) (a := 116) (b := 97) (c := 105) (d := 108) (by omega) (by omega) (by omega) (by omega) (by omega) (by omega) (by omega) (by omega) (by omega) (by omega)).trans (congrArg some (bi_cg (w4 hk hp rfl rfl rfl rfl rfl)))
  have i6 : f_X10_is I 4 109 111 115 116 = some (bi (isWb v n 6 p = true)) := (sM_is h ht hp (m := 4) (a := 109) (b := 111) (c := 115) (d := 116) (by omega) (by omega) (by omega) (by omega) (by omega) (by omega) (by omega) (by omega) (by omega) (by omega)).trans (congrArg some (bi_cg (w4 hk hp rfl rfl rfl rfl rfl)))
  have i8 : f_X10_is I 4 116 97 108 107 = some (bi (isWb v n 8 p = true)) := (sM_is h ht hp (m := 4) (a := 116) (b := 97) (c := 108) (d := 107) (by omega) (by omega) (by omega) (by omega) (by omega) (by omega) (by omega) (by omega) (by omega) (by omega)).trans (congrArg some (bi_cg (w4 hk hp rfl rfl rfl rfl rfl)))
  have j1 := sM_is h ht hp (m := 6) (a := 115) (b := 116) (c := 97) (d := 110) (by omega) (by omega) (by omega) (by omega) (by omega) (by omega) (by omega) (by omega) (by omega) (by omega)
  have g1 := sM_go h ht hp (a := 100) (b := 115) (c := 0) (by omega) (by omega) (by omega) (by omega) (by omega) (by omega)
  have u1 := w6 (k := 1) hk hp rfl (a := 115) (b := 116) (c := 97) (d := 110) (e := 100) (f := 115) rfl rfl rfl rfl rfl rfl
  have j7 := sM_is h ht hp (m := 6) (a := 115) (b := 112) (c := 101) (d := 101) (by omega) (by omega) (by omega) (by omega) (by omega) (by omega) (by omega) (by omega) (by omega) (by omega)
  have g7 := sM_go h ht hp (a := 99) (b := 104) (c := 0) (by omega) (by omega) (by omega) (by omega) (by omega) (by omega)
  have u7 := w6 (k := 7) hk hp rfl (a := 115) (b := 112) (c := 101) (d := 101) (e := 99) (f := 104) rfl rfl rfl rfl rfl rfl
  have j3 := sM_is h ht hp (m := 7) (a := 119) (b := 97) (c := 108) (d := 107) (by omega) (by omega) (by omega) (by omega) (by omega) (by omega) (by omega) (by omega) (by omega) (by omega)
  have g3 := sM_go h ht hp (a := 101) (b := 114) (c := 115) (by omega) (by omega) (by omega) (by omega) (by omega) (by omega)
  have u3 := w7 (k := 3) hk hp rfl (a := 119) (b := 97) (c := 108) (d := 107) (e := 101) (f := 114) (g := 115) (by omega) rfl rfl rfl rfl rfl rfl rfl
  obtain ⟨a1, J1, x1⟩ := bool_of j1
  obtain ⟨b1, G1, y1⟩ := bool_of g1
  obtain ⟨a7, J7, x7⟩ := bool_of j7
  obtain ⟨b7, G7, y7⟩ := bool_of g7
  obtain ⟨a3, J3, x3⟩ := bool_of j3
  obtain ⟨b3, G3, y3⟩ := bool_of g3
  have z1 := (and_congr x1 y1).trans u1
  have z7 := (and_congr x7 y7).trans u7
  have z3 := (and_congr x3 y3).trans u3
  have K1 : f_X10_is I 6 115 116 97 110 = _ := J1
  have H1 : f_X10_goesOn I 100 115 0 = _ := G1
  have K7 : f_X10_is I 6 115 112 101 101 = _ := J7
  have H7 : f_X10_goesOn I 99 104 0 = _ := G7
  have K3 : f_X10_is I 7 119 97 108 107 = _ := J3
  have H3 : f_X10_goesOn I 101 114 115 = _ := G3
  clear j1 g1 u1 j7 g7 u7 j3 g3 u3 x1 y1 x7 y7 x3 y3 J1 G1 J7 G7 J3 G3
  unfold f_X10_nameNow f_X10_nameNow_51 f_X10_nameNow_101 f_X10_nameNow_187
  simp only [i0, i2, i4, i5, i6, i8, K1, H1, K7, H7, K3, H3, bd_some, bi_0, ite_not]
  simp only [two_if z7, two_if z3, two_if z1]
  unfold cdS lkS
  by_cases c0 : isWb v n 0 p = true
  · simp only [c0, if_true, if_false]
    rfl
  · by_cases c1 : isWb v n 1 p = true
    · simp only [c0, c1, if_true, if_false]
      rfl
    · by_cases c2 : isWb v n 2 p = true
      · simp only [c0, c1, c2, if_true, if_false]
        rfl
      · by_cases c3 : isWb v n 3 p = true
        · simp only [c0, c1, c2, c3, if_true, if_false]
          rfl
        · by_cases c4 : isWb v n 4 p = true
          · simp only [c0, c1, c2, c3, c4, if_true, if_false]
            rfl
          · by_cases c5 : isWb v n 5 p = true
            · simp only [c0, c1, c2, c3, c4, c5, if_true, if_false]
              rfl
            · by_cases c6 : isWb v n 6 p = true
              · simp only [c0, c1, c2, c3, c4, c5, c6, if_true, if_false]
                rfl
              · by_cases c7 : isWb v n 7 p = true
                · simp only [c0, c1, c2, c3, c4, c5, c6, c7, if_true, if_false]
                  rfl
                · by_cases c8 : isWb v n 8 p = true
                  · simp only [c0, c1, c2, c3, c4, c5, c6, c7, c8, if_true, if_false]
                    rfl
                  · simp only [c0, c1, c2, c3, c4, c5, c6, c7, c8, if_false]
                    rfl
end RNM
