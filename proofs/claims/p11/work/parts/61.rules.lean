/-! Rules of the small methods, on both sides -/
theorem i_nlt {a b : Int32} : ¬ a < b ↔ b ≤ a := by rw [Int32.lt_iff_toInt_lt, Int32.le_iff_toInt_le]; omega
theorem i_nle {a b : Int32} : ¬ a ≤ b ↔ b < a := by rw [Int32.lt_iff_toInt_lt, Int32.le_iff_toInt_le]; omega
theorem i_isWithin {Q : Int32 → Prop} {p a b : Int32} (h1 : a ≤ p ∧ p ≤ b → Q 1) (h0 : ¬ (a ≤ p ∧ p ≤ b) → Q 0) : wp_C_X7_isWithin Q p a b :=
  ⟨fun c => ⟨Or.inl rfl, h0 (fun z => i_nlt.mpr z.1 c)⟩, fun c => ⟨fun c2 => ⟨Or.inl rfl, h0 (fun z => i_nlt.mpr z.2 c2)⟩, fun c2 => ⟨Or.inr rfl, h1 ⟨i_nlt.mp c, i_nlt.mp c2⟩⟩⟩⟩
theorem i_in {Q : Int32 → Prop} {p a b : Int32} (h1 : a ≤ p ∧ p ≤ b → Q 1) (h0 : ¬ (a ≤ p ∧ p ≤ b) → Q 0) : wp_M_X8_in Q p a b :=
  ⟨fun c => ⟨Or.inl rfl, h0 (fun z => i_nlt.mpr z.1 c)⟩, fun c => ⟨fun c2 => ⟨Or.inl rfl, h0 (fun z => i_nlt.mpr z.2 c2)⟩, fun c2 => ⟨Or.inr rfl, h1 ⟨i_nlt.mp c, i_nlt.mp c2⟩⟩⟩⟩
theorem t_1 {A B : Prop} (h : B) : ((1 : Int32) = 0 → A) ∧ (¬ (1 : Int32) = 0 → B) := ⟨fun z => absurd z (by decide), fun _ => h⟩
theorem t_0 {A B : Prop} (h : A) : ((0 : Int32) = 0 → A) ∧ (¬ (0 : Int32) = 0 → B) := ⟨fun _ => h, fun z => absurd rfl z⟩
theorem n_1 {A B : Prop} (h : A) : (¬ (1 : Int32) = 0 → A) ∧ ((1 : Int32) = 0 → B) := ⟨fun _ => h, fun z => absurd z (by decide)⟩
theorem n_0 {A B : Prop} (h : B) : (¬ (0 : Int32) = 0 → A) ∧ ((0 : Int32) = 0 → B) := ⟨fun z => absurd rfl z, fun _ => h⟩
theorem i_throwsIf1 {Q : Int32 → Int32 → Prop} {t c : Int32} (h : Q 1 c) : wp_M_X8_throwsIf Q t 1 c := ⟨fun z => absurd z (by decide), fun _ => ⟨Or.inr rfl, h⟩⟩
theorem i_throwsIf0 {Q : Int32 → Int32 → Prop} {t c : Int32} (h : Q 0 t) : wp_M_X8_throwsIf Q t 0 c := ⟨fun _ => ⟨Or.inl rfl, h⟩, fun z => absurd rfl z⟩
theorem i_needFarm {Q : Prop} {X : Nat → Prop} {p : Int32} (h1 : 0 ≤ p ∧ p ≤ 9 → Q) (h0 : ¬ (0 ≤ p ∧ p ≤ 9) → X 1) : wp_C_X7_needFarm Q X p :=
  i_isWithin (fun c => n_1 (h1 c)) (fun c => n_0 (h0 c))
theorem i_needPlace {Q : Int32 → Prop} {X : Nat → Prop} {a r k : Int32} (h1 : (a ≤ r ∧ r ≤ 5) ∧ (0 ≤ k ∧ k ≤ 9) → Q (r * 10 + k)) (h0 : ¬ ((a ≤ r ∧ r ≤ 5) ∧ (0 ≤ k ∧ k ≤ 9)) → X 1) : wp_C_X7_needPlace Q X a r k :=
  i_isWithin (fun c => t_1 (i_isWithin (fun c2 => n_1 (h1 ⟨c, c2⟩)) (fun c2 => n_0 (h0 (fun z => c2 z.2))))) (fun c => t_0 (h0 (fun z => c z.1)))
theorem i_noHook {Q : Int32 → Prop} {r k : Int32} (h1 : (0 ≤ r ∧ r ≤ 5) ∧ (0 ≤ k ∧ k ≤ 9) → Q 0) (h0 : ¬ ((0 ≤ r ∧ r ≤ 5) ∧ (0 ≤ k ∧ k ≤ 9)) → Q 1) : wp_M_X8_noHook Q r k :=
  i_in (fun c => t_1 (i_in (fun c2 => n_1 ⟨Or.inl rfl, h1 ⟨c, c2⟩⟩) (fun c2 => n_0 ⟨Or.inr rfl, h0 (fun z => c2 z.2)⟩))) (fun c => t_0 ⟨Or.inr rfl, h0 (fun z => c z.1)⟩)
theorem i_noLeg {legs : Int32} {Q : Int32 → Prop} {p : Int32} (h1 : 0 ≤ p ∧ p ≤ legs - 1 → Q 0) (h0 : ¬ (0 ≤ p ∧ p ≤ legs - 1) → Q 1) : wp_M_X8_noLeg legs Q p :=
  i_in (fun c => n_1 ⟨Or.inl rfl, h1 c⟩) (fun c => n_0 ⟨Or.inr rfl, h0 c⟩)
/-- no leg is there: each call that needs one throws, on both sides -/
theorem f_needLeg {LP : List Nat} {Q : Option Nat → Prop} {X : Nat → Prop} {p : Int32} (h : X 1) : wp_C_X7_needLeg LP (fun _ => none) Q X p := by
  refine ⟨fun c => h, fun c => ⟨fun c2 => h, fun c2 => ⟨?_, fun _ => h, fun y hy => by cases hy⟩⟩⟩
  intro z
  rcases z with z | z
  · exact c z
  · obtain ⟨j, hj, rfl⟩ := nI_of c
    rw [nI_clamp hj] at z
    exact c2 (nI_le z (by omega))
theorem f_noLeg {Q : Int32 → Prop} {p : Int32} (h : Q 1) : wp_M_X8_noLeg 0 Q p :=
  i_noLeg (fun c => absurd c (by rw [Int32.le_iff_toInt_le, Int32.le_iff_toInt_le]; intro z; exact absurd (Int.le_trans z.1 z.2) (by decide))) (fun _ => h)
theorem in_vp {a b : Int32} {N : Nat} {p : Int32} (h : a ≤ p ∧ p ≤ b) (ha : 0 ≤ a.toInt) (hb : b.toInt < N) : vp_in p N := by
  have h1 := Int32.le_iff_toInt_le.mp h.1
  have h2 := Int32.le_iff_toInt_le.mp h.2
  exact vp_in_iff.mpr ⟨by omega, by omega⟩
theorem i_setAir {Q : (Nat → Int32) → (Nat → Int32) → Prop} {w d : Nat → Int32} {r x y : Int32} (hr : 0 ≤ r ∧ r ≤ 5) (h : Q (upd w r.toNatClampNeg x) (upd d r.toNatClampNeg y)) : wp_C_X4_setAir Q w d r x y := by
  have hv := in_vp (N := 6) hr (by decide) (by decide)
  refine ⟨fun c => absurd hr.1 (i_nle.mpr c), fun c => ⟨fun c2 => absurd hr.2 (i_nle.mpr (by rw [Int32.lt_iff_toInt_lt]; rw [Int32.le_iff_toInt_le] at c2; exact Int.lt_of_lt_of_le (by decide) c2)), fun c2 => ⟨hv, hv, h⟩⟩⟩
theorem i_air {Q : (Nat → Int32) → (Nat → Int32) → Prop} {X : Nat → (Nat → Int32) → (Nat → Int32) → Prop} {w d : Nat → Int32} {r x y : Int32} (h1 : ¬ (0 ≤ r ∧ r ≤ 5) → X 1 w d) (h2 : (0 ≤ r ∧ r ≤ 5) → ¬ (((-5) ≤ x ∧ x ≤ 40) ∧ (0 ≤ y ∧ y ≤ 100)) → X 2 w d) (h3 : (0 ≤ r ∧ r ≤ 5) → (((-5) ≤ x ∧ x ≤ 40) ∧ (0 ≤ y ∧ y ≤ 100)) → Q (upd w r.toNatClampNeg x) (upd d r.toNatClampNeg y)) : wp_C_X7_air Q X w d r x y :=
  i_isWithin (fun c => n_1 (i_isWithin (fun c2 => t_1 (i_isWithin (fun c3 => n_1 (i_setAir c (h3 c ⟨c2, c3⟩))) (fun c3 => n_0 (h2 c (fun z => c3 z.2))))) (fun c2 => t_0 (h2 c (fun z => c2 z.1))))) (fun c => n_0 (h1 c))
theorem j_air {Q : Int32 → (Nat → Int32) → (Nat → Int32) → Prop} {t : Int32} {w d : Nat → Int32} {r x y : Int32} (h1 : ¬ (0 ≤ r ∧ r ≤ 5) → Q 1 w d) (h2 : (0 ≤ r ∧ r ≤ 5) → ¬ (((-5) ≤ x ∧ x ≤ 40) ∧ (0 ≤ y ∧ y ≤ 100)) → Q 2 w d) (h3 : (0 ≤ r ∧ r ≤ 5) → (((-5) ≤ x ∧ x ≤ 40) ∧ (0 ≤ y ∧ y ≤ 100)) → Q 0 (upd w r.toNatClampNeg x) (upd d r.toNatClampNeg y)) : wp_M_X8_air Q t w d r x y := by
  delta wp_M_X8_air bk_M_X8_air_20 bk_M_X8_air_49 bk_M_X8_air_54
  exact i_in (fun c => n_1 (i_throwsIf0 (n_0 (i_in (fun c2 => t_1 (i_in (fun c3 => n_1 (i_throwsIf0 (t_0 ⟨in_vp c (by decide) (by decide), in_vp c (by decide) (by decide), h3 c ⟨c2, c3⟩⟩))) (fun c3 => n_0 (i_throwsIf1 (t_1 (h2 c (fun z => c3 z.2))))))) (fun c2 => t_0 (i_throwsIf1 (t_1 (h2 c (fun z => c2 z.1))))))))) (fun c => n_0 (i_throwsIf1 (n_1 (h1 c))))
theorem i_open {Q : Int32 → (Nat → Int32) → Prop} {X : Nat → (Nat → Int32) → Prop} {w : Nat → Int32} {r x : Int32} (h1 : ¬ (1 ≤ r ∧ r ≤ 5) → X 1 w) (h2 : (1 ≤ r ∧ r ≤ 5) → w r.toNatClampNeg = x → Q 0 w) (h3 : (1 ≤ r ∧ r ≤ 5) → ¬ w r.toNatClampNeg = x → Q 1 (upd w r.toNatClampNeg (vp_nar .boolean x))) : wp_C_X7_open Q X w r x := by
  refine i_isWithin (fun c => n_1 ?_) (fun c => n_0 (h1 c))
  have hv := in_vp (N := 6) c (by decide) (by decide)
  have e1 := Int32.le_iff_toInt_le.mp c.1
  have e2 := Int32.le_iff_toInt_le.mp c.2
  have q1 : (1 : Int32).toInt = 1 := by decide
  have q5 : (5 : Int32).toInt = 5 := by decide
  have q6 : (6 : Int32).toInt = 6 := by decide
  have q0 : (0 : Int32).toInt = 0 := by decide
  refine ⟨fun z => ?_, fun _ => ⟨fun z => ?_, fun _ => ⟨hv, fun z => ⟨hv, Or.inr rfl, Or.inr rfl, h3 c z⟩, fun z => ⟨Or.inl rfl, Or.inl rfl, h2 c z⟩⟩⟩⟩
  · have := Int32.lt_iff_toInt_lt.mp z
    omega
  · have := Int32.le_iff_toInt_le.mp z
    omega
theorem j_open {Q : Int32 → Int32 → (Nat → Int32) → Prop} {t : Int32} {w : Nat → Int32} {r x : Int32} (h1 : ¬ (1 ≤ r ∧ r ≤ 5) → Q 0 1 w) (h2 : (1 ≤ r ∧ r ≤ 5) → w r.toNatClampNeg = x → Q 0 0 (upd w r.toNatClampNeg (vp_nar .boolean x))) (h3 : (1 ≤ r ∧ r ≤ 5) → ¬ w r.toNatClampNeg = x → Q 1 0 (upd w r.toNatClampNeg (vp_nar .boolean x))) : wp_M_X8_open Q t w r x := by
  delta wp_M_X8_open bk_M_X8_open_20
  refine i_in (fun c => n_1 (i_throwsIf0 (t_0 ?_))) (fun c => n_0 (i_throwsIf1 (t_1 ⟨Or.inl rfl, h1 c⟩)))
  have c' : 0 ≤ r ∧ r ≤ 5 := ⟨Int32.le_trans (by decide) c.1, c.2⟩
  exact ⟨in_vp (N := 6) c' (by decide) (by decide), in_vp (N := 6) c' (by decide) (by decide), fun z => ⟨Or.inl rfl, h2 c z⟩, fun z => ⟨Or.inr rfl, h3 c z⟩⟩
theorem i_end {Q : Int32 → Int32 → Prop} {t n : Int32} (h1 : 0 ≤ n ∧ n ≤ t → Q 1 n) (h0 : ¬ (0 ≤ n ∧ n ≤ t) → Q 0 t) : wp_C_X7_end Q t n :=
  ⟨fun c => ⟨Or.inl rfl, Or.inl rfl, h0 (fun z => i_nlt.mpr z.1 c)⟩, fun c => ⟨fun c2 => ⟨Or.inr rfl, Or.inr rfl, h1 ⟨i_nlt.mp c, c2⟩⟩, fun c2 => ⟨Or.inl rfl, Or.inl rfl, h0 (fun z => c2 z.2)⟩⟩⟩
theorem j_end {Q : Int32 → Int32 → Int32 → Prop} {th t n : Int32} (h1 : 0 ≤ n ∧ n ≤ t → Q 1 0 n) (h0 : ¬ (0 ≤ n ∧ n ≤ t) → Q 0 0 t) : wp_M_X8_end Q th t n :=
  ⟨fun c => ⟨Or.inl rfl, h0 (fun z => i_nlt.mpr z.1 c)⟩, fun c => ⟨fun c2 => ⟨Or.inr rfl, h1 ⟨i_nlt.mp c, c2⟩⟩, fun c2 => ⟨Or.inl rfl, h0 (fun z => c2 z.2)⟩⟩⟩
