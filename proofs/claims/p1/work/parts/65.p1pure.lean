theorem cover_6 {L : Nat} (hL : L ≤ 6) : Int32.ofNat L - 6 < 0 + 6 := (by decide +kernel : ∀ L, L < 7 → Int32.ofNat L - 6 < 0 + 6) L (Nat.lt_succ_of_le hL)
theorem p1_pure {xs : Nat → Int32} {L : Nat} (hL : L ≤ 6) {f0 f1 f2 : Nat → Int32} (hf0 : ∀ j, j < 60 → f0 j = -1) : lwp xs L 0 (fun _ _ _ _ _ _ _ _ _ _ _ _ _ _ _ _ _ _ _ _ _ _ _ _ _ _ _ _ _ _ _ _ _ _ _ _ _ _ _ _ _ _ _ _ _ _ _ _ _ _ _ _ _ _ _ _ _ _ _ _ _ _ _ _ _ _ _ _ _ _ _ _ _ _ => True) ([]) 0 0 (fun _ => none) (fun _ => none) f1 f2 (fun _ => 0) 0 (fun _ => 0) 0 0 (-1) (fun _ => 0) (fun _ => 0) 0 (fun _ => 0) (fun _ => 0) (fun _ => 0) (fun _ => 0) 0 0 (fun _ => none) (fun _ => 0) (fun _ => 0) (fun _ => 0) (fun _ => 0) (fun _ => 0) (fun _ => 0) (fun _ => 0) (fun _ => 0) (fun _ => 0) (fun _ => 0) (fun _ => 0) (fun _ => 0) (fun _ => 0) (fun _ => 0) (fun _ => 0) (fun _ => 0) 0 0 0 0 0 0 0 0 (-1) (fun _ => 0) (fun _ => 0) (fun _ => 0) (fun _ => 0) (fun _ => 0) (fun _ => 0) (fun _ => 0) (fun _ => 0) (fun _ => 0) (fun _ => 0) (fun _ => 0) (fun _ => 0) f0 fW6 fD6 (fun _ => 0) (fun _ => 0) (fun _ => 0) (fun _ => 0) (fun _ => 0) (fun _ => 0) (fun _ => 0) (fun _ => 0) (fun _ => 0) (fun _ => 0) (fun _ => 0) := by
  delta lwp
  refine ⟨fun _ => trivial, fun c => ?_⟩
  have hL6 : L = 6 := by
    have h9 : ∀ L : Nat, L < 7 → ¬ (Int32.ofNat L - 6 < 0) → L = 6 := by decide +kernel
    exact h9 L (by omega) c
  subst hL6
  refine ⟨v6_0, fun _ => ?c0, fun _ => ⟨fun _ => ?c1, fun _ => ⟨fun _ => ?c2, fun _ => ⟨fun _ => ?c3, fun _ => ⟨fun _ => ?c4, fun _ => ⟨fun _ => ?c5, fun _ => ⟨fun _ => ?c6, fun _ => ⟨fun _ => ?c7, fun _ => ⟨fun _ => ?c8, fun _ => ⟨fun _ => ?c9, fun _ => ⟨fun _ => ?c10, fun _ => ⟨fun _ => ?c11, fun _ => ⟨fun _ => ?c12, fun _ => ⟨fun _ => ?c13, fun _ => ⟨fun _ => ?c14, fun _ => ⟨fun _ => ?c15, fun _ => ⟨fun _ => ?c16, fun _ => ⟨fun _ => ?c17, fun _ => ⟨fun _ => ?c18, fun _ => trivial⟩⟩⟩⟩⟩⟩⟩⟩⟩⟩⟩⟩⟩⟩⟩⟩⟩⟩⟩
  case c0 => exact vv5 (f_feedC (fun x => vv5 (f_feedM (fun x y => finr))))
  case c1 => exact vv1 (i_end (fun c => vv1 (j_end (fun _ => finr) (fun c2 => absurd c c2))) (fun c => vv1 (j_end (fun c2 => absurd c2 c) (fun _ => finr))))
  case c2 =>
    delta wp_H_leg wp_C_X7_leg bk_C_X7_leg_28 bk_C_X7_leg_57 wp_M_X8_thrown
    refine vv3 (i_needFarm (fun c1 => i_isWithin (fun c2 => t_1 (i_isWithin (fun c3 => n_1 ⟨fun c => absurd c (by decide), fun _ => ⟨fun _ => f_legsOfPig ⟨fun _ => fun q hq => ⟨v60_0, ?_⟩, fun c => absurd (by decide) c⟩, fun c => absurd (by decide) c⟩⟩) (fun c3 => n_0 (Or.inr (Or.inl ⟨rfl, ?_⟩))))) (fun c2 => t_0 (Or.inr (Or.inl ⟨rfl, ?_⟩)))) (fun c1 => Or.inl ⟨rfl, ?_⟩))
    · exact vv3 (j_legF (fun z => absurd c1 z) (fun _ z => absurd ⟨c2, c3⟩ z) (fun _ _ _ _ _ _ _ _ _ _ => fin_ (fun _ => cmpT (u0.trans (by decide)))))
    · exact vv3 (j_legF (fun z => absurd c1 z) (fun _ _ _ _ _ _ _ _ _ _ => fne (by decide)) (fun _ z => absurd z.2 c3))
    · exact vv3 (j_legF (fun z => absurd c1 z) (fun _ _ _ _ _ _ _ _ _ _ => fne (by decide)) (fun _ z => absurd z.1 c2))
    · exact vv3 (j_legF (fun _ _ _ _ _ _ _ _ _ => fne (by decide)) (fun z => absurd z c1) (fun z => absurd z c1))
  case c3 =>
    delta wp_H_hang wp_C_X7_hang wp_M_X8_thrown wp_M_X8_hang bk_M_X8_hang_22 bk_M_X8_hang_27
    exact vv3 (f_needLeg ⟨rfl, vv3 (f_noLeg (n_1 (i_throwsIf1 (n_1 ⟨Or.inl rfl, fne (by decide)⟩))))⟩)
  case c4 =>
    delta wp_H_take wp_C_X7_take wp_M_X8_thrown wp_M_X8_take
    exact vv1 (f_needLeg ⟨rfl, vv1 (f_noLeg (i_throwsIf1 (n_1 ⟨Or.inl rfl, fne (by decide)⟩)))⟩)
  case c5 =>
    delta wp_H_air wp_M_X8_thrown
    exact vv3 (i_air (fun c1 => Or.inl ⟨rfl, vv3 (j_air (fun _ => finr) (fun z => absurd z c1) (fun z => absurd z c1))⟩) (fun c1 c2 => Or.inr ⟨rfl, vv3 (j_air (fun z => absurd c1 z) (fun _ _ => finr) (fun _ z => absurd z c2))⟩) (fun c1 c2 => vv3 (j_air (fun z => absurd c1 z) (fun _ z => absurd c2 z) (fun _ _ => finr))))
  case c6 =>
    delta wp_H_open wp_M_X8_thrown
    refine vv2 ⟨fun x0 => i_open (fun c1 => ⟨rfl, vv2 ⟨fun _ => j_open (fun _ => fne (by decide)) (fun z => absurd z c1) (fun z => absurd z c1), fun z => absurd x0 z⟩⟩) (fun c1 _ => ?_) (fun c1 z => absurd rfl z), fun x0 => i_open (fun c1 => ⟨rfl, vv2 ⟨fun z => absurd z x0, fun _ => j_open (fun _ => fne (by decide)) (fun z => absurd z c1) (fun z => absurd z c1)⟩⟩) (fun c1 z => absurd z (by decide)) (fun c1 _ => ?_)⟩
    · exact ⟨fun _ => vv2 ⟨fun _ => j_open (fun z => absurd c1 z) (fun _ _ => fin_ (fun _ => ⟨fun _ => cmpT u0, fun z => absurd rfl z⟩)) (fun _ z => absurd rfl z), fun z => absurd x0 z⟩, fun z => absurd rfl z⟩
    · exact ⟨fun z => absurd z (by decide), fun _ => vv2 ⟨fun z => absurd z x0, fun _ => j_open (fun z => absurd c1 z) (fun _ z => absurd z (by decide)) (fun _ _ => fin_ (fun _ => ⟨fun z => absurd z (by decide), fun _ => cmpT u0⟩))⟩⟩
  case c7 =>
    delta wp_H_days wp_M_X8_thrown
    refine vv1 (f_days (fun k hk ek => vv1 (j_daysF (fun k2 hk2 ek2 => ?_) (fun c => absurd ⟨?_, ?_⟩ c))) (fun c => ⟨rfl, vv1 (j_daysF (fun k hk ek => absurd ⟨?_, ?_⟩ c) (fun _ => fne (by decide)))⟩))
    · rw [← ek, ← ek2]
      exact fin_ (fun _ => cmpT u0)
    · rw [ek]; exact nI_le (a := 0) (Nat.zero_le _) (by omega)
    · rw [ek]; exact nI_le (b := 200) hk (by omega)
    · rw [ek]; exact nI_le (a := 0) (Nat.zero_le _) (by omega)
    · rw [ek]; exact nI_le (b := 200) hk (by omega)
  case c8 =>
    delta wp_H_rules wp_M_X8_thrown
    exact f_rulesC (fun _ _ _ _ _ _ => ⟨rfl, f_rulesM (fun _ _ _ _ _ _ _ => fne (by decide))⟩)
  case c9 =>
    exact finr
  case c10 =>
    delta wp_H_fed wp_C_X7_fed bk_C_X7_fed_24 wp_M_X8_thrown
    refine vv3 (i_needFarm (fun c1 => i_isWithin (fun c2 => t_1 (i_isWithin (fun c3 => n_1 ⟨fun c => absurd c (by decide), fun _ => ⟨fun _ => ⟨v60_0, v60_0, v60_0, v60_0, Or.inr rfl, n_1 (f_undoSeals ?_)⟩, fun c => absurd (by decide) c⟩⟩) (fun c3 => n_0 (Or.inr ⟨rfl, ?_⟩)))) (fun c2 => t_0 (Or.inr ⟨rfl, ?_⟩))) (fun c1 => Or.inl ⟨rfl, ?_⟩))
    · exact vv3 (j_fedF (fun z => absurd c1 z) (fun _ z => absurd ⟨c3, c2⟩ z) (fun _ _ _ _ _ _ _ _ => fin_ (fun _ => cmpT u0)))
    · exact vv3 (j_fedF (fun z => absurd c1 z) (fun _ _ _ _ _ _ _ _ => fne (by decide)) (fun _ z => absurd z.1 c3))
    · exact vv3 (j_fedF (fun z => absurd c1 z) (fun _ _ _ _ _ _ _ _ => fne (by decide)) (fun _ z => absurd z.2 c2))
    · exact vv3 (j_fedF (fun _ _ _ _ _ _ _ => fne (by decide)) (fun z => absurd z c1) (fun z => absurd z c1))
  case c11 =>
    delta wp_H_known wp_C_X7_known wp_M_X8_thrown
    exact vv3 (i_needFarm (fun c1 => f_find (vv3 (j_knownF (fun z => absurd c1 z) (fun _ => fin_ (fun _ => cmpT u0))))) (fun c1 => ⟨rfl, vv3 (j_knownF (fun _ => fne (by decide)) (fun z => absurd z c1))⟩))
  case c12 =>
    delta wp_H_seal wp_C_X7_seal wp_M_X8_thrown wp_M_X8_seal
    exact vv1 (f_needLeg ⟨rfl, vv1 (f_noLeg (i_throwsIf1 (t_1 (fne (by decide)))))⟩)
  case c13 =>
    delta wp_H_look wp_C_X7_look wp_M_X8_thrown wp_M_X8_look
    exact vv2 (f_needLeg (Or.inl ⟨rfl, vv2 (f_noLeg (i_throwsIf1 (t_1 (fne (by decide)))))⟩))
  case c14 =>
    delta wp_H_on wp_C_X7_on wp_M_X8_thrown
    exact vv2 (i_needPlace (fun c1 => f_legAt ⟨fun _ => vv2 (j_onF hf0 (fun z => absurd c1 z) (fun _ => fin_ (fun _ => cmpT u0))), fun y hy => by cases hy⟩) (fun c1 => ⟨rfl, vv2 (j_onF hf0 (fun _ => fne (by decide)) (fun z => absurd z c1))⟩))
  case c15 =>
    delta wp_H_should wp_C_X7_should wp_M_X8_thrown wp_M_X8_should bk_M_X8_should_26 bk_M_X8_should_31
    exact vv3 (f_needLeg ⟨rfl, vv3 (f_noLeg (n_1 (i_throwsIf1 (n_1 ⟨Or.inl rfl, fne (by decide)⟩))))⟩)
  case c16 =>
    exact f_moves (j_movesF hf0 finr)
  case c17 =>
    delta wp_H_order wp_M_X8_thrown
    exact vv1 (f_orderC (fun c _ _ _ _ _ _ _ _ => vv1 (f_orderM (fun _ => fin_ (fun _ => cmpT u0)) (fun z => absurd c z))) (fun c _ _ _ _ _ _ _ _ => ⟨rfl, vv1 (f_orderM (fun z => absurd z c) (fun _ => fne (by decide)))⟩))
  case c18 =>
    exact vv1 (f_countC (fun c => vv1 (f_countM (fun _ => finr) (fun z => absurd c z))) (fun c => vv1 (f_countM (fun z => absurd z c) (fun _ => finr))))
