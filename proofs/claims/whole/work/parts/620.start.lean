/-! the start: both objects as their constructors leave them -/
def I_1 : IT := up (up (up (up I0 10 false 44 0 (-4)) 10 false 44 1 (-4)) 10 false 44 2 (-4)) 10 false 44 3 (-4)
theorem init_1 : f_X10_init I0 = f_X10_init_263 I_1 := by
  obtain ⟨m, hm⟩ : ∃ m, fuel = m + 1 + 1 + 1 + 1 + 1 := ⟨fuel - 5, by have := fuel_gs (d := 5) (by omega); omega⟩
  unfold f_X10_init I_1
  rw [hm]
  simp only [f_X10_init_244, show ¬ (4 : Int32) ≤ 0 by decide, show (0 : Int32) + 1 = 1 by decide, show ¬ (4 : Int32) ≤ 1 by decide, show (1 : Int32) + 1 = 2 by decide, show ¬ (4 : Int32) ≤ 2 by decide, show (2 : Int32) + 1 = 3 by decide, show ¬ (4 : Int32) ≤ 3 by decide, show (3 : Int32) + 1 = 4 by decide, show (4 : Int32) ≤ 4 by decide, if_true, if_false,
    show vb 0 4 = true by decide, show vb 1 4 = true by decide, show vb 2 4 = true by decide, show vb 3 4 = true by decide, gd_tt, show Int32.toNatClampNeg 0 = 0 by decide, show Int32.toNatClampNeg 1 = 1 by decide, show Int32.toNatClampNeg 2 = 2 by decide, show Int32.toNatClampNeg 3 = 3 by decide]
theorem st_init : ∃ X, f_X10_init I0 = some X ∧ Rel X Z0 := by
  obtain ⟨J, e1, j1, j2, j3⟩ := sM_first (I := I_1) (v := fun _ => 0) (n := 0) (by decide +kernel) ⟨by omega, by decide +kernel, fun i hi => by omega⟩
  obtain ⟨X, e2, x1, x2⟩ := sM_keep j1.2.2.1 D_0b
  have fr : ∀ c b p i, fpD c p i = true → fpM c p i = false → X c b p i = I_1 c b p i := fun c b p i a d => (x2 c b p i d).trans (j3 c b p i a)
  refine ⟨X, ?_, rfl, clD D_0, clD_b D_0b, ⟨⟨?_, ?_, ?_, ?_, ?_, ?_, ?_⟩, fun c hc => absurd hc (Nat.not_lt_zero _), fun c hc => absurd hc (Nat.not_lt_zero _), fun c hc => absurd hc (Nat.not_lt_zero _)⟩, x1, Or.inl ?_, ⟨0, by omega, ?_, ?_, fun i hi => by omega⟩, ⟨⟨0, by omega, by omega, ?_, ?_⟩, ?_⟩,
    ⟨0, 0, fun _ => 0, fun _ => 0, ⟨by omega, by omega⟩, ⟨?_, ?_⟩, ⟨?_, ?_⟩, fun k hk => absurd hk (Nat.not_lt_zero _), fun k hk => absurd hk (Nat.not_lt_zero _), fun k hk => absurd hk (Nat.not_lt_zero _), fun k hk => absurd hk (Nat.not_lt_zero _)⟩, ⟨0, fun _ => 0, fun _ => 0, by omega, ?_, ?_, fun k hk => absurd hk (Nat.not_lt_zero _)⟩,
    ⟨fun _ => 0, fun _ _ => 0, fun _ _ => 0, fun l hl => ⟨Nat.zero_le _, ?_, ?_, fun k hk => absurd hk (Nat.not_lt_zero _), fun k hk => absurd hk (Nat.not_lt_zero _)⟩⟩, fun k hk => Or.inl ?_⟩
  · rw [init_1]
    unfold f_X10_init_263
    rw [e1, bd_some, e2, bd_some]
  · exact (fr 5 false 0 11 rfl rfl).trans (by decide +kernel)
  · exact (fr 5 false 0 12 rfl rfl).trans (by decide +kernel)
  · exact (fr 5 false 0 13 rfl rfl).trans (by decide +kernel)
  · exact (fr 5 false 0 14 rfl rfl).trans (by decide +kernel)
  · exact (fr 5 false 0 15 rfl rfl).trans (by decide +kernel)
  · exact (fr 5 false 0 16 rfl rfl).trans (by decide +kernel)
  · exact (fr 5 false 0 17 rfl rfl).trans (by decide +kernel)
  · exact (fr 4 false 0 9 rfl rfl).trans (by decide +kernel)
  · exact (fr 8 false 0 1 rfl rfl).trans (by decide +kernel)
  · exact (fr 10 false 0 18 rfl rfl).trans (by decide +kernel)
  · exact (fr 9 false 0 10 rfl rfl).trans (by decide +kernel)
  · exact (x2 10 false 0 23 rfl).trans j1.2.1
  · exact (fr 9 false 0 11 rfl rfl).trans ((show I_1 9 false 0 11 = I_1 10 false 0 46 by decide +kernel).trans (fr 10 false 0 46 rfl rfl).symm)
  · exact (fr 7 false 3 0 rfl rfl).trans (by decide +kernel)
  · exact (fr 10 false 32 0 rfl rfl).trans (by decide +kernel)
  · exact (fr 7 false 3 1 rfl rfl).trans (by decide +kernel)
  · exact (fr 10 false 32 1 rfl rfl).trans (by decide +kernel)
  · exact (fr 2 false 0 2 rfl rfl).trans (by decide +kernel)
  · exact (fr 10 false 0 35 rfl rfl).trans (by decide +kernel)
  · have : l = 0 ∨ l = 1 := by omega
    rcases this with e | e <;> subst e
    · exact (fr 0 false 3 0 rfl rfl).trans (by decide +kernel)
    · exact (fr 0 false 3 1 rfl rfl).trans (by decide +kernel)
  · have : l = 0 ∨ l = 1 := by omega
    rcases this with e | e <;> subst e
    · exact (fr 10 false 39 0 rfl rfl).trans (by decide +kernel)
    · exact (fr 10 false 39 1 rfl rfl).trans (by decide +kernel)
  · have : k = 0 ∨ k = 1 ∨ k = 2 ∨ k = 3 := by omega
    rcases this with e | e | e | e <;> subst e
    · exact ⟨(fr 6 false 3 0 rfl rfl).trans (by decide +kernel), (fr 10 false 44 0 rfl rfl).trans (by decide +kernel)⟩
    · exact ⟨(fr 6 false 3 1 rfl rfl).trans (by decide +kernel), (fr 10 false 44 1 rfl rfl).trans (by decide +kernel)⟩
    · exact ⟨(fr 6 false 3 2 rfl rfl).trans (by decide +kernel), (fr 10 false 44 2 rfl rfl).trans (by decide +kernel)⟩
    · exact ⟨(fr 6 false 3 3 rfl rfl).trans (by decide +kernel), (fr 10 false 44 3 rfl rfl).trans (by decide +kernel)⟩
theorem all_steps : STEPS Rel := ⟨st_0, st_1, st_2, st_3, st_4, st_5, st_6, st_7, st_8, st_9, st_10, st_11, st_12, st_13, st_14, st_15, st_16, st_17, st_18, st_19, st_20, st_21, st_22, st_23, st_24, st_25, st_26, st_27, st_28, st_29, st_30, st_31, st_32, st_33, st_34, st_35, st_36, st_37, st_38, st_39⟩
