/-! text: both sides at once -/
section TX
variable {I : IT} {z : Bool} {v : Nat → Int} {n : Nat}
theorem s3_parse (hn : n ≤ 400) (hv : ∀ i : Nat, i < n → 0 ≤ v i ∧ v i ≤ 255 ∧ I 8 false 1 i = jI (sgn (v i))) : EndC z v n I (f_X3_parse_107 z) (f_X3_parse I z (jI n)) (runS v n 401 0 D_0 0 0) := by
  have e4 : imin (jI (n : Int)) 400 = jI n := by
    rw [show (400 : Int32) = jI 400 from rfl, jI_min (by omega) (by omega) (by omega) (by omega)]
    congr 1
    omega
  have hf : n < 0 + fuel := by
    have := fuel_gs (d := n) (by omega)
    omega
  have key := l3_parse (z := z) (v := v) (n := n) (I0 := I) (K := f_X3_parse_107 z) 401 fuel 0 D_0 0 0 (up (up (up (up (up (up (up (up (up (up (up (up (up I 3 false 0 2 (jI n)) 5 z 0 11 0) 5 z 0 12 0) 5 z 0 13 0) 5 z 0 14 2) 5 z 0 15 2) 5 z 0 16 1) 5 z 0 17 99) 3 false 0 3 0) 3 false 0 7 0) 3 false 0 8 0) 3 false 0 9 0) 3 false 0 10 0) (by omega) hf (by omega) (by omega)
    ⟨⟨hn, rfl, fun i hi => hv i hi⟩, rfl, by omega, rfl, rfl⟩ ⟨by
      simp (disch := omega) only [up_c, up_i, up_same]
      exact ⟨rfl, rfl, rfl, rfl, rfl, rfl, rfl⟩, fun c hc => absurd hc (Nat.not_lt_zero _), fun c hc => absurd hc (Nat.not_lt_zero _), fun c hc => absurd hc (Nat.not_lt_zero _)⟩ D_0b rfl FC.rf.p3.p5.p5.p5.p5.p5.p5.p5.p3.p3.p3.p3.p3
  unfold f_X3_parse f_X5_clear
  rw [e4, bd_some]
  exact key
theorem sM_text (hb : MB I v n) (hne : runS v n 401 0 D_0 0 0 ≠ Sum.inl (0, 0)) : EndM v n I f_X10_text_44 (f_X10_text I) (runS v n 401 0 D_0 0 0) := by
  obtain ⟨J, e1, j1, j2, j3⟩ := sM_first (I := up (up I 10 false 0 23 0) 10 false 0 19 0) (v := v) (n := n) rfl ⟨hb.1, hb.2.1, hb.2.2⟩
  have hj : Ag fpD I J := Ag.tr (Ag.put (Ag.put Ag.rf rfl) rfl) j3
  have hl := oM_next (p := 0) j1 (by omega) j2 hj
  have e0 : runS v n 401 0 D_0 0 0 = bS (tkS v n 0) (fun _ => ruS v n 400 0 D_0 0 0) := by
    rw [runS]
    rfl
  have hf : 400 + 1 < fuel := fuel_gs (by omega)
  unfold f_X10_text
  rw [e1, bd_some]
  rw [e0] at hne ⊢
  revert hl hne
  generalize tkS v n 0 = R
  intro hne hl
  cases R with
  | inl e =>
    rw [bS_l]
    obtain ⟨M, m1, m2, m3⟩ := hl
    obtain ⟨m, hm⟩ : ∃ m, fuel = m + 1 := ⟨fuel - 1, by omega⟩
    rw [m1, bd_some, hm, f_X10_text_20, if_neg m2.ne]
    exact ⟨M, 0, rfl, m2, m3⟩
  | inr u =>
    rw [bS_r] at hne ⊢
    obtain ⟨M, m1, m2, m3, m4⟩ := hl
    rw [m1, bd_some]
    exact lM_text (I0 := I) (K := f_X10_text_44) 400 fuel 0 D_0 0 0 M hne hf (by omega) m2 D_0b m3 m4
/-- cells that text leaves alone -/
def SK (c p i : Nat) : Prop := c ≠ 3 ∧ c ≠ 4 ∧ c ≠ 5 ∧ c ≠ 8 ∧ c ≠ 9 ∧ fpD c p i = true ∧ fpM c p i = false ∧ ¬ (c = 10 ∧ p = 0 ∧ i = 18)
theorem SK_H {c p i : Nat} (h : fpH c p i = true) : SK c p i := by
  unfold fpH at h
  simp only [Bool.and_eq_true, Bool.or_eq_true, Nat.beq_eq] at h
  rcases h with ⟨rfl, rfl | rfl | rfl⟩ | ⟨rfl, rfl | rfl⟩ <;> exact ⟨by omega, by omega, by omega, by omega, by omega, rfl, rfl, by omega⟩
theorem SK_P {c p i : Nat} (h : fpP c p i = true) : SK c p i := by
  unfold fpP at h
  simp only [Bool.and_eq_true, Bool.or_eq_true, Nat.beq_eq] at h
  rcases h with rfl | ⟨rfl, rfl | rfl | ⟨rfl, rfl⟩⟩ <;> exact ⟨by omega, by omega, by omega, by omega, by omega, rfl, rfl, by omega⟩
theorem SK_E {c p i : Nat} (h : fpE c p i = true) : SK c p i := by
  unfold fpE at h
  simp only [Bool.and_eq_true, Bool.or_eq_true, Nat.beq_eq] at h
  rcases h with ⟨rfl, rfl | rfl | rfl⟩ | ⟨rfl, rfl | rfl | rfl⟩ <;> exact ⟨by omega, by omega, by omega, by omega, by omega, rfl, rfl, by omega⟩
theorem SK_S {c p i : Nat} (h : fpS c p i = true) : SK c p i := by
  unfold fpS at h
  simp only [Bool.and_eq_true, Bool.or_eq_true, Nat.beq_eq] at h
  rcases h with rfl | ⟨rfl, rfl | rfl | rfl⟩ <;> exact ⟨by omega, by omega, by omega, by omega, by omega, rfl, rfl, by omega⟩
theorem fpM_D {c p i : Nat} (h : fpM c p i = true) : c = 10 ∧ fpD c p i = true ∧ ¬ (p = 0 ∧ i = 18) := by
  unfold fpM at h
  simp only [Bool.and_eq_true, Bool.or_eq_true, Nat.beq_eq] at h
  rcases h with ⟨rfl, rfl | rfl | rfl | rfl | rfl | ⟨rfl, rfl | rfl | rfl⟩⟩ <;> exact ⟨rfl, rfl, by omega⟩
theorem fpD_c {c p i : Nat} (h : c ≠ 10) : fpD c p i = true := by
  unfold fpD
  have e : Nat.beq c 10 = false := by
    cases q : Nat.beq c 10 with
    | false => rfl
    | true => exact absurd (Nat.eq_of_beq_eq_true q) h
  rw [e]
  rfl
theorem RelD.mk' {I V : IT} {b : Bool} {D D2 : DT} {b2 : Bool} (h : RelD I b D) (hs : ∀ c b p i, SK c p i → V c b p i = I c b p i) (h1 : DB D2) (h2 : R5 V b2 D2) (h3 : RM V D2) (h4 : PL V D2) (h5 : TP V) (h6 : FT V) : RelD V b2 D2 :=
  ⟨h1, h2, h3, h4, h5, h6, h.ht' (fun c b p i z => hs c b p i (SK_H z)), h.pc' (fun c b p i z => hs c b p i (SK_P z)), h.el' (fun c b p i z => hs c b p i (SK_E z)), h.sh.ag (fun c b p i z => hs c b p i (SK_S z))⟩
end TX
theorem st_2 : ST_2 Rel := by
  intro I b z1 zb zi hR
  obtain ⟨hz, D, h⟩ := hR
  have hz : z1 = !b := hz
  have hbz : b ≠ z1 := by
    rw [hz]
    cases b <;> decide
  obtain ⟨n, hn, hl1, hl2, hby⟩ := h.tp
  obtain ⟨v, hv⟩ : ∃ v : Nat → Int, ∀ i, i < n → 0 ≤ v i ∧ v i ≤ 255 ∧ I 10 false 18 i = jI (v i) ∧ I 8 false 1 i = jI (if v i < 128 then v i else v i - 256) :=
    ⟨fun i => if hi : i < n then Classical.choose (hby i hi) else 0, fun i hi => by
      simp only [dif_pos hi]
      exact Classical.choose_spec (hby i hi)⟩
  have hC := s3_parse (I := I) (z := z1) (v := v) hn (fun i hi => ⟨(hv i hi).1, (hv i hi).2.1, (hv i hi).2.2.2⟩)
  have hM : ∀ Y : IT, (∀ p i, Y 10 false p i = I 10 false p i) → MB Y v n := fun Y hY => ⟨hn, (hY 0 18).trans hl2, fun i hi => ⟨(hv i hi).1, (hv i hi).2.1, (hY 18 i).trans (hv i hi).2.2.1⟩⟩
  have hft := h.ft.2
  have hT : ∀ Y : IT, (∀ p i, Y 10 false p i = I 10 false p i) → runS v n 401 0 D_0 0 0 ≠ Sum.inl (0, 0) → EndM v n Y f_X10_text_44 (f_X10_text Y) (runS v n 401 0 D_0 0 0) := fun Y hY hne => sM_text (hM Y hY) hne
  revert hC hT
  generalize runS v n 401 0 D_0 0 0 = R
  intro hC hT
  cases R with
  | inl e =>
    obtain ⟨k, s⟩ := e
    obtain ⟨k1, k2, J, e1, e9, e10, fc⟩ := hC
    have k0 : ¬ J 3 false 0 9 = 0 := by
      rw [e9, show (0 : Int32) = jI 0 from rfl, jI_eq (by omega) (by omega) (by omega) (by omega)]
      omega
    have e2 : f_X3_parse I z1 (I 8 false 0 1) = some J := by
      rw [hl1, e1]
      unfold f_X3_parse_107
      rw [if_neg k0]
    obtain ⟨M, x, m1, m2, m3⟩ := hT (up (up J 8 false 0 1 0) 9 false 0 10 (J 3 false 0 9)) (fun p i => by
      rw [up_c (by omega), up_c (by omega)]
      exact fc 10 false p i (by omega) (Or.inl (by omega))) (fun z => by
      have := congrArg (fun q : FR (DT × Nat) => match q with | Sum.inl a => a.1 | Sum.inr _ => 0) z
      have : k = 0 := this
      omega)
    refine ⟨(-10 - J 3 false 0 10, up (up J 8 false 0 1 0) 9 false 0 10 (J 3 false 0 9), (b, z1, true, some z1)), (-10 - M 10 false 0 24, up M 10 false 0 18 0), ?_, ?_, ?_, hz, D, ?_⟩
    · unfold f_X9_text
      rw [e2, bd_some, if_neg k0]
    · rw [m1]
      unfold f_X10_text_44
      rw [if_neg m2.nl]
    · show -10 - J 3 false 0 10 = -10 - M 10 false 0 24
      rw [e10, m2.2.2.2]
    · have fr : ∀ c b2 p i, c ≠ 3 → (c ≠ 5 ∨ b2 ≠ z1) → c ≠ 8 → c ≠ 9 → fpD c p i = true → ¬ (c = 10 ∧ p = 0 ∧ i = 18) → up M 10 false 0 18 0 c b2 p i = I c b2 p i := fun c b2 p i a1 a2 a3 a4 a5 a6 => by
        have q : up M 10 false 0 18 0 c b2 p i = M c b2 p i := by
          unfold up
          rw [if_neg (by omega)]
        rw [q, m3 c b2 p i a5, up_c a4, up_c a3]
        exact fc c b2 p i a1 a2
      show RelD (up M 10 false 0 18 0) b D
      refine h.mk' (fun c b2 p i z => fr c b2 p i z.1 (Or.inl z.2.2.1) z.2.2.2.1 z.2.2.2.2.1 z.2.2.2.2.2.1 z.2.2.2.2.2.2.2) h.db (h.r5.ag (fun p i => fr 5 b p i (by omega) (Or.inr hbz) (by omega) (by omega) (fpD_c (by omega)) (by omega))) (h.rm.ag (fun c b2 p i z => ?_)) (h.pl.ag (fun c b2 p i z => ?_)) ⟨0, by omega, ?_, rfl, fun i hi => by omega⟩ ⟨⟨k, by omega, k2, ?_, m2.2.2.1⟩, ?_⟩
      · obtain ⟨z1, z2, z3⟩ := fpM_D z
        exact fr c b2 p i (by omega) (Or.inl (by omega)) (by omega) (by omega) z2 (by omega)
      · unfold fpL at z
        simp only [Bool.and_eq_true, Nat.beq_eq] at z
        exact fr c b2 p i (by omega) (Or.inl (by omega)) (by omega) (by omega) (fpD_c (by omega)) (by omega)
      · rw [up_c (by omega), m3 8 false 0 1 rfl, up_c (by omega), up_same]
        rfl
      · rw [up_c (by omega), m3 9 false 0 10 rfl, up_same, e9]
      · have a : up M 10 false 0 18 0 9 false 0 11 = I 9 false 0 11 := by
          rw [up_c (by omega), m3 9 false 0 11 rfl, up_i (by omega), up_c (by omega)]
          exact fc 9 false 0 11 (by omega) (Or.inl (by omega))
        rw [a, fr 10 false 0 46 (by omega) (Or.inl (by omega)) (by omega) (by omega) rfl (by omega)]
        exact hft
  | inr e =>
    obtain ⟨D2, l⟩ := e
    obtain ⟨T, J, e1, cw, r5, db, fc⟩ := hC
    have k0 : J 3 false 0 9 = 0 := cw.2.2.2.2
    obtain ⟨K, c1, c2, c3⟩ := s5_close r5 db
    have e2 : f_X3_parse I z1 (I 8 false 0 1) = some K := by
      rw [hl1, e1]
      unfold f_X3_parse_107
      rw [if_pos k0, c1, bd_some]
    have k9 : K 3 false 0 9 = 0 := (c3 3 false 0 9 (Or.inl (by omega))).trans k0
    have k8 : K 3 false 0 8 = jI l := (c3 3 false 0 8 (Or.inl (by omega))).trans cw.2.2.2.1
    have fk : ∀ c b2 p i, c ≠ 3 → c ≠ 5 → K c b2 p i = I c b2 p i := fun c b2 p i a1 a2 => (c3 c b2 p i (Or.inl a2)).trans (fc c b2 p i a1 (Or.inl a2))
    obtain ⟨T2, M, m1, m2, m3, m4⟩ := hT (up (up (up K 8 false 0 1 0) 9 false 0 10 (K 3 false 0 9)) 4 false 0 9 (-4)) (fun p i => by
      rw [up_c (by omega), up_c (by omega), up_c (by omega)]
      exact fk 10 false p i (by omega) (by omega)) (fun z => by cases z)
    have h18 : RMd (up M 10 false 0 18 0) D2 := by
      have e : ∀ q j, q ≠ 0 → up M 10 false 0 18 0 10 false q j = M 10 false q j := fun q j hq => up_p hq
      have e3 : ∀ j, j ≠ 18 → up M 10 false 0 18 0 10 false 0 j = M 10 false 0 j := fun j hj => up_i hj
      have hr := m2.2.2.1
      unfold RMd
      simp (disch := omega) only [e, e3]
      exact hr
    obtain ⟨V, v1, v2, v3⟩ := sM_keep h18 m3
    have g0 : M 10 false 0 23 ≤ 0 := by rw [m2.2.1]; decide
    refine ⟨(jI l, up (up (up K 8 false 0 1 0) 9 false 0 10 (K 3 false 0 9)) 4 false 0 9 (-4), (z1, b, true, some z1)), (jI l, V), ?_, ?_, rfl, ?_, clD D2, ?_⟩
    · unfold f_X9_text f_X4_forget
      rw [e2, bd_some, if_pos k9, bd_some, up_c (by omega), up_c (by omega), up_c (by omega), k8]
    · rw [m1]
      unfold f_X10_text_44
      rw [if_pos g0, v1, bd_some]
    · show b = !z1
      rw [hz, Bool.not_not]
    · have fv : ∀ c b2 p i, fpM c p i = false → fpD c p i = true → ¬ (c = 10 ∧ p = 0 ∧ i = 18) → V c b2 p i = up (up (up K 8 false 0 1 0) 9 false 0 10 (K 3 false 0 9)) 4 false 0 9 (-4) c b2 p i := fun c b2 p i a1 a2 a3 => by
        have q : up M 10 false 0 18 0 c b2 p i = M c b2 p i := by
          unfold up
          rw [if_neg (by omega)]
        rw [v3 c b2 p i a1, q]
        exact m4 c b2 p i a2
      show RelD V z1 (clD D2)
      refine h.mk' (fun c b2 p i z => ?_) (clD_b m3) (c2.ag (fun p i => ?_)) v2 (Or.inl ?_) ⟨0, by omega, ?_, ?_, fun i hi => by omega⟩ ⟨⟨0, by omega, by omega, ?_, ?_⟩, ?_⟩
      · rw [fv c b2 p i z.2.2.2.2.2.2.1 z.2.2.2.2.2.1 z.2.2.2.2.2.2.2, up_c z.2.1, up_c z.2.2.2.2.1, up_c z.2.2.2.1]
        exact fk c b2 p i z.1 z.2.2.1
      · rw [fv 5 z1 p i rfl rfl (by omega), up_c (by omega), up_c (by omega), up_c (by omega)]
      · rw [fv 4 false 0 9 rfl rfl (by omega), up_same]
        rfl
      · rw [fv 8 false 0 1 rfl rfl (by omega), up_c (by omega), up_c (by omega), up_same]
        rfl
      · rw [v3 10 false 0 18 rfl, up_same]
        rfl
      · rw [fv 9 false 0 10 rfl rfl (by omega), up_c (by omega), up_same, k9]
        rfl
      · rw [v3 10 false 0 23 rfl, up_i (by omega)]
        exact m2.2.1
      · rw [fv 9 false 0 11 rfl rfl (by omega), fv 10 false 0 46 rfl rfl (by omega), up_c (by omega), up_i (by omega), up_c (by omega), up_c (by omega), up_c (by omega), up_c (by omega), fk 9 false 0 11 (by omega) (by omega), fk 10 false 0 46 (by omega) (by omega)]
        exact hft
