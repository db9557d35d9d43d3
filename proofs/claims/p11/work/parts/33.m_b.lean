def wp_M_X8_against (m_today : Int32) (m_feeds : Int32) (m_farm : Nat → Int32) (m_begun : Nat → Int32) (m_first : Nat → Int32) (m_weight : Nat → Int32) (m_salted : Nat → Int32) (m_isBad : Nat → Int32) (m_isSold : Nat → Int32) (m_sealedFeed : Nat → Int32) (m_fFarm : Nat → Int32) (m_fFrom : Nat → Int32) (m_fWhat : Nat → Int32) (m_fTold : Nat → Int32) (m_rule : Nat → Int32) (Q : Int32 → Prop) (p0 : Int32) : Prop := (vp_in p0 60 ∧ (((m_isSold p0.toNatClampNeg) = 0 → (vp_in p0 60 ∧ (((m_sealedFeed p0.toNatClampNeg) < 0 → (vp_in p0 60 ∧ (((m_isBad p0.toNatClampNeg) = 0 → (vp_in p0 60 ∧ (((m_rule (0 : Int32).toNatClampNeg) ≤ (m_today - (m_begun p0.toNatClampNeg)) → (vp_in p0 60 ∧ (vp_in p0 60 ∧ (vp_in p0 60 ∧ (¬ (m_first p0.toNatClampNeg) = 0 ∧ (((m_rule (1 : Int32).toNatClampNeg) ≤ ((((m_first p0.toNatClampNeg) - (m_weight p0.toNatClampNeg)) * 100) / (m_first p0.toNatClampNeg)) → (vp_in p0 60 ∧ (((m_rule (2 : Int32).toNatClampNeg) ≤ (m_salted p0.toNatClampNeg) → (vp_in p0 60 ∧ (vp_in p0 60 ∧ wp_M_X8_knownOf m_feeds m_fFarm m_fFrom m_fWhat m_fTold (fun r_18 => (((m_rule (3 : Int32).toNatClampNeg) ≤ r_18 → (vp_in p0 60 ∧ (((m_rule (4 : Int32).toNatClampNeg) ≤ (m_weight p0.toNatClampNeg) → Q 0) ∧ (¬ ((m_rule (4 : Int32).toNatClampNeg) ≤ (m_weight p0.toNatClampNeg)) → Q 8)))) ∧ (¬ ((m_rule (3 : Int32).toNatClampNeg) ≤ r_18) → Q 7))) (m_farm p0.toNatClampNeg) (m_begun p0.toNatClampNeg) m_today))) ∧ (¬ ((m_rule (2 : Int32).toNatClampNeg) ≤ (m_salted p0.toNatClampNeg)) → Q 6)))) ∧ (¬ ((m_rule (1 : Int32).toNatClampNeg) ≤ ((((m_first p0.toNatClampNeg) - (m_weight p0.toNatClampNeg)) * 100) / (m_first p0.toNatClampNeg))) → Q 5))))))) ∧ (¬ ((m_rule (0 : Int32).toNatClampNeg) ≤ (m_today - (m_begun p0.toNatClampNeg))) → Q 4)))) ∧ (¬ ((m_isBad p0.toNatClampNeg) = 0) → Q 3)))) ∧ (¬ ((m_sealedFeed p0.toNatClampNeg) < 0) → Q 2)))) ∧ (¬ ((m_isSold p0.toNatClampNeg) = 0) → Q 1)))
def rm_M_X8_against : Room := { frames := 1, cells := 0, slots := 0, locals := 25 }
abbrev pq_M_X8_against (dC : Nat → ClassId) (dI : Nat → Nat → Nat) (ad : Nat → Nat) (cB cI cZ cL : ClassId) (A : Nat → Prop) (m_thrown m_today m_legs m_feeds m_taped m_point m_end m_begin m_faultAt : Int32) (m_farm m_pig m_begun m_first m_weight m_salted m_heat m_isBad m_isSold m_sealedFeed m_hook m_should m_on m_warmth m_damp m_isOpen m_fFarm m_fFrom m_fWhat m_fTold m_rule m_draft m_tape m_five m_those : Nat → Int32) (Q : Int32 → Prop) : Array Value → State → Outcome → State → Prop := va_Qi (fun (r : Int32) (u : Unit) => Q r ) (fun u t => kB dC dI A (wM ad cB cI cZ cL m_thrown m_today m_legs m_feeds m_taped m_point m_end m_begin m_faultAt m_farm m_pig m_begun m_first m_weight m_salted m_heat m_isBad m_isSold m_sealedFeed m_hook m_should m_on m_warmth m_damp m_isOpen m_fFarm m_fFrom m_fWhat m_fTold m_rule m_draft m_tape m_five m_those) (kTy cB cI cZ cL) t) A
set_option maxHeartbeats 4000000 in
set_option maxRecDepth 100000 in
theorem c_M_X8_against (l : Launch) (dC : Nat → ClassId) (dI : Nat → Nat → Nat) (ad : Nat → Nat) (cB cI cZ cL : ClassId) (A : Nat → Prop) (m_thrown m_today m_legs m_feeds m_taped m_point m_end m_begin m_faultAt : Int32) (m_farm m_pig m_begun m_first m_weight m_salted m_heat m_isBad m_isSold m_sealedFeed m_hook m_should m_on m_warmth m_damp m_isOpen m_fFarm m_fFrom m_fWhat m_fTold m_rule m_draft m_tape m_five m_those : Nat → Int32) (p0 : Int32)  (Q : Int32 → Prop) (h : wp_M_X8_against m_today m_feeds m_farm m_begun m_first m_weight m_salted m_isBad m_isSold m_sealedFeed m_fFarm m_fFrom m_fWhat m_fTold m_rule Q p0) : Met l yX8_against wsX8_against rm_M_X8_against (va_Pc [.ref (ad 0), .int p0] (kC dC dI ad A (wM ad cB cI cZ cL m_thrown m_today m_legs m_feeds m_taped m_point m_end m_begin m_faultAt m_farm m_pig m_begun m_first m_weight m_salted m_heat m_isBad m_isSold m_sealedFeed m_hook m_should m_on m_warmth m_damp m_isOpen m_fFarm m_fFrom m_fWhat m_fTold m_rule m_draft m_tape m_five m_those) (kTy cB cI cZ cL))) (pq_M_X8_against dC dI ad cB cI cZ cL A m_thrown m_today m_legs m_feeds m_taped m_point m_end m_begin m_faultAt m_farm m_pig m_begun m_first m_weight m_salted m_heat m_isBad m_isSold m_sealedFeed m_hook m_should m_on m_warmth m_damp m_isOpen m_fFarm m_fFrom m_fWhat m_fTold m_rule m_draft m_tape m_five m_those Q) 0 0 A := by
  refine Met.ofW (cc := cX8_against) (maxL := 2) (ret := (some .int)) (by decide) rfl ?_
  intro p e s m args below meth c s₁ B hml hv
  obtain ⟨rfl, hA, hP, hK, hD, hE⟩ := hv
  have hx := B.exec
  have hb := B.bytes
  have hr := B.returns
  have hts := atoms_spec (ws := wsX8_against) B.pre
  have hown : s.vm.findClass RX8 = some m.cls := findClass_of_methodNamed B.named
  have hlocks := B.notSynchronized
  have hS : va_S A s.heap s.heap [] := va_S.rf
  have hk_0 := hts (.fieldLink RX8 39 "HamCellarModel" "isSold" "[Z") (by decide +kernel)
  have hk_1 : ∀ w ∈ wsX80, w ∈ wsX8_against := by decide +kernel
  have hk_2 := hts (.fieldLink RX8 42 "HamCellarModel" "sealedFeed" "[I") (by decide +kernel)
  have hk_3 := hts (.fieldLink RX8 35 "HamCellarModel" "isBad" "[Z") (by decide +kernel)
  have hk_4 := hts (.fieldLink RX8 105 "HamCellarModel" "today" "I") (by decide +kernel)
  have hk_5 := hts (.fieldLink RX8 20 "HamCellarModel" "begun" "[I") (by decide +kernel)
  have hk_6 := hts (.fieldLink RX8 75 "HamCellarModel" "rule" "[I") (by decide +kernel)
  have hk_7 := hts (.fieldLink RX8 23 "HamCellarModel" "first" "[I") (by decide +kernel)
  have hk_8 := hts (.fieldLink RX8 26 "HamCellarModel" "weight" "[I") (by decide +kernel)
  have hk_9 := hts (.fieldLink RX8 29 "HamCellarModel" "salted" "[I") (by decide +kernel)
  have hk_10 := hts (.fieldLink RX8 13 "HamCellarModel" "farm" "[I") (by decide +kernel)
  have hl := lv_entry ([.ref (ad 0), .int p0]) (n := 2) (Nat.le_of_ble_eq_true rfl)
  rw [lg_entry_eq]
  generalize (lg_sl ([.ref (ad 0), .int p0]) ++ List.replicate (2 - (lg_sl ([.ref (ad 0), .int p0])).length) Slot.unset).toArray = ls at hl ⊢
  have hl : lv_has ls 2 [(0, .ref (ad 0)), (1, .int p0)] := hl
  unfold wp_M_X8_against at h
  refine lv_aload_n hx hb dX8_against_0 rfl (lv_at hl 0 rfl) ?_
  refine va_get (D := (dC, dI)) (ci := 8) (v := .ref (ad 9)) (C := RX8) (T := TX8) (N := 34) hx hb hts hk_1 hown hK hP 0 wM_g0 rfl 10 (by decide) hk_0 (fun _ h9 => h9) rfl dX8_against_1 ?_
  refine lv_iload_n hx hb dX8_against_4 rfl (lv_at hl 1 rfl) ?_
  have hi_1 := h.1
  have h := h.2
  refine va_zald hx hb hK hP 9 2 wM_g9 rfl hi_1 dX8_against_5 ?_
  refine lv_if_eq (tgt := 11) hx hb dX8_against_6 (by decide) (fun c_2 => ?_) (fun c_2 => ?_)
  · have h := h.1 c_2
    refine lv_aload_n hx hb dX8_against_11 rfl (lv_at hl 0 rfl) ?_
    refine va_get (D := (dC, dI)) (ci := 8) (v := .ref (ad 10)) (C := RX8) (T := TX8) (N := 34) hx hb hts hk_1 hown hK hP 0 wM_g0 rfl 11 (by decide) hk_2 (fun _ h9 => h9) rfl dX8_against_12 ?_
    refine lv_iload_n hx hb dX8_against_15 rfl (lv_at hl 1 rfl) ?_
    have hi_3 := h.1
    have h := h.2
    refine va_iald hx hb hK hP 10 1 wM_g10 rfl hi_3 dX8_against_16 ?_
    refine lv_if_lt (tgt := 22) hx hb dX8_against_17 (by decide) (fun c_4 => ?_) (fun c_4 => ?_)
    · have h := h.1 c_4
      refine lv_aload_n hx hb dX8_against_22 rfl (lv_at hl 0 rfl) ?_
      refine va_get (D := (dC, dI)) (ci := 8) (v := .ref (ad 8)) (C := RX8) (T := TX8) (N := 34) hx hb hts hk_1 hown hK hP 0 wM_g0 rfl 9 (by decide) hk_3 (fun _ h9 => h9) rfl dX8_against_23 ?_
      refine lv_iload_n hx hb dX8_against_26 rfl (lv_at hl 1 rfl) ?_
      have hi_5 := h.1
      have h := h.2
      refine va_zald hx hb hK hP 8 2 wM_g8 rfl hi_5 dX8_against_27 ?_
      refine lv_if_eq (tgt := 33) hx hb dX8_against_28 (by decide) (fun c_6 => ?_) (fun c_6 => ?_)
      · have h := h.1 c_6
        refine lv_aload_n hx hb dX8_against_33 rfl (lv_at hl 0 rfl) ?_
        refine va_get (D := (dC, dI)) (ci := 8) (v := .int m_today) (C := RX8) (T := TX8) (N := 34) hx hb hts hk_1 hown hK hP 0 wM_g0 rfl 1 (by decide) hk_4 (fun _ h9 => h9) rfl dX8_against_34 ?_
        refine lv_aload_n hx hb dX8_against_37 rfl (lv_at hl 0 rfl) ?_
        refine va_get (D := (dC, dI)) (ci := 8) (v := .ref (ad 3)) (C := RX8) (T := TX8) (N := 34) hx hb hts hk_1 hown hK hP 0 wM_g0 rfl 4 (by decide) hk_5 (fun _ h9 => h9) rfl dX8_against_38 ?_
        refine lv_iload_n hx hb dX8_against_41 rfl (lv_at hl 1 rfl) ?_
        have hi_7 := h.1
        have h := h.2
        refine va_iald hx hb hK hP 3 1 wM_g3 rfl hi_7 dX8_against_42 ?_
        refine lv_isub hx hb dX8_against_43 ?_
        refine lv_aload_n hx hb dX8_against_44 rfl (lv_at hl 0 rfl) ?_
        refine va_get (D := (dC, dI)) (ci := 8) (v := .ref (ad 21)) (C := RX8) (T := TX8) (N := 34) hx hb hts hk_1 hown hK hP 0 wM_g0 rfl 24 (by decide) hk_6 (fun _ h9 => h9) rfl dX8_against_45 ?_
        refine lv_iconst (v := 0) hx hb dX8_against_48 (by decide) ?_
        refine va_iald hx hb hK hP 21 1 wM_g21 rfl (by unfold vp_in; decide) dX8_against_49 ?_
        refine lv_icmp_ge (tgt := 55) hx hb dX8_against_50 (by decide) (fun c_8 => ?_) (fun c_8 => ?_)
        · have h := h.1 c_8
          refine lv_aload_n hx hb dX8_against_55 rfl (lv_at hl 0 rfl) ?_
          refine va_get (D := (dC, dI)) (ci := 8) (v := .ref (ad 4)) (C := RX8) (T := TX8) (N := 34) hx hb hts hk_1 hown hK hP 0 wM_g0 rfl 5 (by decide) hk_7 (fun _ h9 => h9) rfl dX8_against_56 ?_
          refine lv_iload_n hx hb dX8_against_59 rfl (lv_at hl 1 rfl) ?_
          have hi_9 := h.1
          have h := h.2
          refine va_iald hx hb hK hP 4 1 wM_g4 rfl hi_9 dX8_against_60 ?_
          refine lv_aload_n hx hb dX8_against_61 rfl (lv_at hl 0 rfl) ?_
          refine va_get (D := (dC, dI)) (ci := 8) (v := .ref (ad 5)) (C := RX8) (T := TX8) (N := 34) hx hb hts hk_1 hown hK hP 0 wM_g0 rfl 6 (by decide) hk_8 (fun _ h9 => h9) rfl dX8_against_62 ?_
          refine lv_iload_n hx hb dX8_against_65 rfl (lv_at hl 1 rfl) ?_
          have hi_10 := h.1
          have h := h.2
          refine va_iald hx hb hK hP 5 1 wM_g5 rfl hi_10 dX8_against_66 ?_
          refine lv_isub hx hb dX8_against_67 ?_
          refine lv_bipush (v := 100) hx hb dX8_against_68 (by decide) ?_
          refine lv_imul hx hb dX8_against_70 ?_
          refine lv_aload_n hx hb dX8_against_71 rfl (lv_at hl 0 rfl) ?_
          refine va_get (D := (dC, dI)) (ci := 8) (v := .ref (ad 4)) (C := RX8) (T := TX8) (N := 34) hx hb hts hk_1 hown hK hP 0 wM_g0 rfl 5 (by decide) hk_7 (fun _ h9 => h9) rfl dX8_against_72 ?_
          refine lv_iload_n hx hb dX8_against_75 rfl (lv_at hl 1 rfl) ?_
          have hi_11 := h.1
          have h := h.2
          refine va_iald hx hb hK hP 4 1 wM_g4 rfl hi_11 dX8_against_76 ?_
          have hz_12 := h.1
          have h := h.2
          refine lv_idiv hx hb dX8_against_77 hz_12 ?_
          refine lv_aload_n hx hb dX8_against_78 rfl (lv_at hl 0 rfl) ?_
          refine va_get (D := (dC, dI)) (ci := 8) (v := .ref (ad 21)) (C := RX8) (T := TX8) (N := 34) hx hb hts hk_1 hown hK hP 0 wM_g0 rfl 24 (by decide) hk_6 (fun _ h9 => h9) rfl dX8_against_79 ?_
          refine lv_iconst (v := 1) hx hb dX8_against_82 (by decide) ?_
          refine va_iald hx hb hK hP 21 1 wM_g21 rfl (by unfold vp_in; decide) dX8_against_83 ?_
          refine lv_icmp_ge (tgt := 89) hx hb dX8_against_84 (by decide) (fun c_13 => ?_) (fun c_13 => ?_)
          · have h := h.1 c_13
            refine lv_aload_n hx hb dX8_against_89 rfl (lv_at hl 0 rfl) ?_
            refine va_get (D := (dC, dI)) (ci := 8) (v := .ref (ad 6)) (C := RX8) (T := TX8) (N := 34) hx hb hts hk_1 hown hK hP 0 wM_g0 rfl 7 (by decide) hk_9 (fun _ h9 => h9) rfl dX8_against_90 ?_
            refine lv_iload_n hx hb dX8_against_93 rfl (lv_at hl 1 rfl) ?_
            have hi_14 := h.1
            have h := h.2
            refine va_iald hx hb hK hP 6 1 wM_g6 rfl hi_14 dX8_against_94 ?_
            refine lv_aload_n hx hb dX8_against_95 rfl (lv_at hl 0 rfl) ?_
            refine va_get (D := (dC, dI)) (ci := 8) (v := .ref (ad 21)) (C := RX8) (T := TX8) (N := 34) hx hb hts hk_1 hown hK hP 0 wM_g0 rfl 24 (by decide) hk_6 (fun _ h9 => h9) rfl dX8_against_96 ?_
            refine lv_iconst (v := 2) hx hb dX8_against_99 (by decide) ?_
            refine va_iald hx hb hK hP 21 1 wM_g21 rfl (by unfold vp_in; decide) dX8_against_100 ?_
            refine lv_icmp_ge (tgt := 107) hx hb dX8_against_101 (by decide) (fun c_15 => ?_) (fun c_15 => ?_)
            · have h := h.1 c_15
              refine lv_aload_n hx hb dX8_against_107 rfl (lv_at hl 0 rfl) ?_
              refine lv_aload_n hx hb dX8_against_108 rfl (lv_at hl 0 rfl) ?_
              refine va_get (D := (dC, dI)) (ci := 8) (v := .ref (ad 1)) (C := RX8) (T := TX8) (N := 34) hx hb hts hk_1 hown hK hP 0 wM_g0 rfl 2 (by decide) hk_10 (fun _ h9 => h9) rfl dX8_against_109 ?_
              refine lv_iload_n hx hb dX8_against_112 rfl (lv_at hl 1 rfl) ?_
              have hi_16 := h.1
              have h := h.2
              refine va_iald hx hb hK hP 1 1 wM_g1 rfl hi_16 dX8_against_113 ?_
              refine lv_aload_n hx hb dX8_against_114 rfl (lv_at hl 0 rfl) ?_
              refine va_get (D := (dC, dI)) (ci := 8) (v := .ref (ad 3)) (C := RX8) (T := TX8) (N := 34) hx hb hts hk_1 hown hK hP 0 wM_g0 rfl 4 (by decide) hk_5 (fun _ h9 => h9) rfl dX8_against_115 ?_
              refine lv_iload_n hx hb dX8_against_118 rfl (lv_at hl 1 rfl) ?_
              have hi_17 := h.1
              have h := h.2
              refine va_iald hx hb hK hP 3 1 wM_g3 rfl hi_17 dX8_against_119 ?_
              refine lv_aload_n hx hb dX8_against_120 rfl (lv_at hl 0 rfl) ?_
              refine va_get (D := (dC, dI)) (ci := 8) (v := .int m_today) (C := RX8) (T := TX8) (N := 34) hx hb hts hk_1 hown hK hP 0 wM_g0 rfl 1 (by decide) hk_4 (fun _ h9 => h9) rfl dX8_against_121 ?_
              refine va_calli (va_runV (As := [.int (m_farm p0.toNatClampNeg), .int (m_begun p0.toNatClampNeg), .int m_today]) (rest := []) ⟨hx, hb, hml, hown, hts⟩ (c_M_X8_knownOf l dC dI ad cB cI cZ cL A m_thrown m_today m_legs m_feeds m_taped m_point m_end m_begin m_faultAt m_farm m_pig m_begun m_first m_weight m_salted m_heat m_isBad m_isSold m_sealedFeed m_hook m_should m_on m_warmth m_damp m_isOpen m_fFarm m_fFrom m_fWhat m_fTold m_rule m_draft m_tape m_five m_those (m_farm p0.toNatClampNeg) (m_begun p0.toNatClampNeg) m_today _ h) (cwV 3 hts gX8_against_X8_knownOf rfl rfl rfl (by decide +kernel) ⟨(Nat.le_of_ble_eq_true rfl), (Nat.le_of_ble_eq_true rfl)⟩) ⟨kC_blind, va_recv hK hP (ci := 8) (q0 := 0) rfl wM_g0, fun U hU hW => ⟨rfl, kC_go hA hS hP hK hD hE U hU hW⟩⟩ rfl rfl hl.1 rfl (lv_room (Nat.le_of_ble_eq_true rfl)) dX8_against_124 ⟨(Nat.le_of_ble_eq_true rfl), (Nat.le_of_ble_eq_true rfl)⟩) hS (fun q _ h => h) (fun q h => h) (fun r_18 u t H locs ht hvm hw hB hz1 hk1 hS => ?_)
              have h := hw
              try dsimp only at h
              have hP : va_P (dC, dI) vwCl (wM ad cB cI cZ cL m_thrown m_today m_legs m_feeds m_taped m_point m_end m_begin m_faultAt m_farm m_pig m_begun m_first m_weight m_salted m_heat m_isBad m_isSold m_sealedFeed m_hook m_should m_on m_warmth m_damp m_isOpen m_fFarm m_fFrom m_fWhat m_fTold m_rule m_draft m_tape m_five m_those) H := by rw [← ht]; exact hB.1
              have hD : va_D A (wM ad cB cI cZ cL m_thrown m_today m_legs m_feeds m_taped m_point m_end m_begin m_faultAt m_farm m_pig m_begun m_first m_weight m_salted m_heat m_isBad m_isSold m_sealedFeed m_hook m_should m_on m_warmth m_damp m_isOpen m_fFarm m_fFrom m_fWhat m_fTold m_rule m_draft m_tape m_five m_those) := hB.2.2
              refine lv_aload_n hx hb dX8_against_127 rfl (lv_at hl 0 rfl) ?_
              refine va_get (D := (dC, dI)) (ci := 8) (v := .ref (ad 21)) (C := RX8) (T := TX8) (N := 34) hx hb hts hk_1 hown hK hP 0 wM_g0 rfl 24 (by decide) hk_6 (fun _ h9 => h9) rfl dX8_against_128 ?_
              refine lv_iconst (v := 3) hx hb dX8_against_131 (by decide) ?_
              refine va_iald hx hb hK hP 21 1 wM_g21 rfl (by unfold vp_in; decide) dX8_against_132 ?_
              refine lv_icmp_ge (tgt := 139) hx hb dX8_against_133 (by decide) (fun c_19 => ?_) (fun c_19 => ?_)
              · have h := h.1 c_19
                refine lv_aload_n hx hb dX8_against_139 rfl (lv_at hl 0 rfl) ?_
                refine va_get (D := (dC, dI)) (ci := 8) (v := .ref (ad 5)) (C := RX8) (T := TX8) (N := 34) hx hb hts hk_1 hown hK hP 0 wM_g0 rfl 6 (by decide) hk_8 (fun _ h9 => h9) rfl dX8_against_140 ?_
                refine lv_iload_n hx hb dX8_against_143 rfl (lv_at hl 1 rfl) ?_
                have hi_20 := h.1
                have h := h.2
                refine va_iald hx hb hK hP 5 1 wM_g5 rfl hi_20 dX8_against_144 ?_
                refine lv_aload_n hx hb dX8_against_145 rfl (lv_at hl 0 rfl) ?_
                refine va_get (D := (dC, dI)) (ci := 8) (v := .ref (ad 21)) (C := RX8) (T := TX8) (N := 34) hx hb hts hk_1 hown hK hP 0 wM_g0 rfl 24 (by decide) hk_6 (fun _ h9 => h9) rfl dX8_against_146 ?_
                refine lv_iconst (v := 4) hx hb dX8_against_149 (by decide) ?_
                refine va_iald hx hb hK hP 21 1 wM_g21 rfl (by unfold vp_in; decide) dX8_against_150 ?_
                refine lv_icmp_ge (tgt := 159) hx hb dX8_against_151 (by decide) (fun c_21 => ?_) (fun c_21 => ?_)
                · have h := h.1 c_21
                  refine lv_iconst (v := 0) hx hb dX8_against_159 (by decide) ?_
                  exact W.iret (v := 0) hx hb hr (fun t ht hW => ⟨⟨0, (), rfl, h, kB_mk hP hK hD ht hW.alike⟩, hS.F ht⟩) hS.2.2 dX8_against_160
                · have h := h.2 c_21
                  refine lv_bipush (v := 8) hx hb dX8_against_154 (by decide) ?_
                  refine lv_goto (tgt := 160) hx hb dX8_against_156 (by decide) ?_
                  exact W.iret (v := 8) hx hb hr (fun t ht hW => ⟨⟨8, (), rfl, h, kB_mk hP hK hD ht hW.alike⟩, hS.F ht⟩) hS.2.2 dX8_against_160
              · have h := h.2 c_19
                refine lv_bipush (v := 7) hx hb dX8_against_136 (by decide) ?_
                exact W.iret (v := 7) hx hb hr (fun t ht hW => ⟨⟨7, (), rfl, h, kB_mk hP hK hD ht hW.alike⟩, hS.F ht⟩) hS.2.2 dX8_against_138
            · have h := h.2 c_15
              refine lv_bipush (v := 6) hx hb dX8_against_104 (by decide) ?_
              exact W.iret (v := 6) hx hb hr (fun t ht hW => ⟨⟨6, (), rfl, h, kB_mk hP hK hD ht hW.alike⟩, hS.F ht⟩) hS.2.2 dX8_against_106
          · have h := h.2 c_13
            refine lv_iconst (v := 5) hx hb dX8_against_87 (by decide) ?_
            exact W.iret (v := 5) hx hb hr (fun t ht hW => ⟨⟨5, (), rfl, h, kB_mk hP hK hD ht hW.alike⟩, hS.F ht⟩) hS.2.2 dX8_against_88
        · have h := h.2 c_8
          refine lv_iconst (v := 4) hx hb dX8_against_53 (by decide) ?_
          exact W.iret (v := 4) hx hb hr (fun t ht hW => ⟨⟨4, (), rfl, h, kB_mk hP hK hD ht hW.alike⟩, hS.F ht⟩) hS.2.2 dX8_against_54
      · have h := h.2 c_6
        refine lv_iconst (v := 3) hx hb dX8_against_31 (by decide) ?_
        exact W.iret (v := 3) hx hb hr (fun t ht hW => ⟨⟨3, (), rfl, h, kB_mk hP hK hD ht hW.alike⟩, hS.F ht⟩) hS.2.2 dX8_against_32
    · have h := h.2 c_4
      refine lv_iconst (v := 2) hx hb dX8_against_20 (by decide) ?_
      exact W.iret (v := 2) hx hb hr (fun t ht hW => ⟨⟨2, (), rfl, h, kB_mk hP hK hD ht hW.alike⟩, hS.F ht⟩) hS.2.2 dX8_against_21
  · have h := h.2 c_2
    refine lv_iconst (v := 1) hx hb dX8_against_9 (by decide) ?_
    exact W.iret (v := 1) hx hb hr (fun t ht hW => ⟨⟨1, (), rfl, h, kB_mk hP hK hD ht hW.alike⟩, hS.F ht⟩) hS.2.2 dX8_against_10
def wp_M_X8_seal (m_today : Int32) (m_legs : Int32) (m_feeds : Int32) (m_farm : Nat → Int32) (m_begun : Nat → Int32) (m_first : Nat → Int32) (m_weight : Nat → Int32) (m_salted : Nat → Int32) (m_isBad : Nat → Int32) (m_isSold : Nat → Int32) (m_fFarm : Nat → Int32) (m_fFrom : Nat → Int32) (m_fWhat : Nat → Int32) (m_fTold : Nat → Int32) (m_rule : Nat → Int32) (Q : Int32 → Int32 → (Nat → Int32) → Prop) (m_thrown : Int32) (m_sealedFeed : Nat → Int32) (p0 : Int32) : Prop := wp_M_X8_noLeg m_legs (fun r_1 => wp_M_X8_throwsIf (fun r_2 m_thrown_2 => ((r_2 = 0 → wp_M_X8_against m_today m_feeds m_farm m_begun m_first m_weight m_salted m_isBad m_isSold m_sealedFeed m_fFarm m_fFrom m_fWhat m_fTold m_rule (fun r_4 => ((¬ r_4 = 0 → Q r_4 m_thrown_2 m_sealedFeed) ∧ (r_4 = 0 → (vp_in p0 60 ∧ Q r_4 m_thrown_2 (upd m_sealedFeed p0.toNatClampNeg (m_rule (3 : Int32).toNatClampNeg)))))) p0) ∧ (¬ (r_2 = 0) → Q 0 m_thrown_2 m_sealedFeed))) 0 r_1 1) p0
def rm_M_X8_seal : Room := { frames := 2, cells := 0, slots := 0, locals := 46 }
abbrev pq_M_X8_seal (dC : Nat → ClassId) (dI : Nat → Nat → Nat) (ad : Nat → Nat) (cB cI cZ cL : ClassId) (A : Nat → Prop) (m_thrown m_today m_legs m_feeds m_taped m_point m_end m_begin m_faultAt : Int32) (m_farm m_pig m_begun m_first m_weight m_salted m_heat m_isBad m_isSold m_sealedFeed m_hook m_should m_on m_warmth m_damp m_isOpen m_fFarm m_fFrom m_fWhat m_fTold m_rule m_draft m_tape m_five m_those : Nat → Int32) (Q : Int32 → Int32 → (Nat → Int32) → Prop) : Array Value → State → Outcome → State → Prop := va_Qi (fun (r : Int32) (u : Int32 × (Nat → Int32)) => Q r u.1 u.2) (fun u t => kB dC dI A (wM ad cB cI cZ cL u.1 m_today m_legs m_feeds m_taped m_point m_end m_begin m_faultAt m_farm m_pig m_begun m_first m_weight m_salted m_heat m_isBad m_isSold u.2 m_hook m_should m_on m_warmth m_damp m_isOpen m_fFarm m_fFrom m_fWhat m_fTold m_rule m_draft m_tape m_five m_those) (kTy cB cI cZ cL) t) A
set_option maxHeartbeats 4000000 in
set_option maxRecDepth 100000 in
theorem c_M_X8_seal (l : Launch) (dC : Nat → ClassId) (dI : Nat → Nat → Nat) (ad : Nat → Nat) (cB cI cZ cL : ClassId) (A : Nat → Prop) (m_thrown m_today m_legs m_feeds m_taped m_point m_end m_begin m_faultAt : Int32) (m_farm m_pig m_begun m_first m_weight m_salted m_heat m_isBad m_isSold m_sealedFeed m_hook m_should m_on m_warmth m_damp m_isOpen m_fFarm m_fFrom m_fWhat m_fTold m_rule m_draft m_tape m_five m_those : Nat → Int32) (p0 : Int32)  (Q : Int32 → Int32 → (Nat → Int32) → Prop) (h : wp_M_X8_seal m_today m_legs m_feeds m_farm m_begun m_first m_weight m_salted m_isBad m_isSold m_fFarm m_fFrom m_fWhat m_fTold m_rule Q m_thrown m_sealedFeed p0) : Met l yX8_seal wsX8_seal rm_M_X8_seal (va_Pc [.ref (ad 0), .int p0] (kC dC dI ad A (wM ad cB cI cZ cL m_thrown m_today m_legs m_feeds m_taped m_point m_end m_begin m_faultAt m_farm m_pig m_begun m_first m_weight m_salted m_heat m_isBad m_isSold m_sealedFeed m_hook m_should m_on m_warmth m_damp m_isOpen m_fFarm m_fFrom m_fWhat m_fTold m_rule m_draft m_tape m_five m_those) (kTy cB cI cZ cL))) (pq_M_X8_seal dC dI ad cB cI cZ cL A m_thrown m_today m_legs m_feeds m_taped m_point m_end m_begin m_faultAt m_farm m_pig m_begun m_first m_weight m_salted m_heat m_isBad m_isSold m_sealedFeed m_hook m_should m_on m_warmth m_damp m_isOpen m_fFarm m_fFrom m_fWhat m_fTold m_rule m_draft m_tape m_five m_those Q) 0 0 A := by
  refine Met.ofW (cc := cX8_seal) (maxL := 3) (ret := (some .int)) (by decide) rfl ?_
  intro p e s m args below meth c s₁ B hml hv
  obtain ⟨rfl, hA, hP, hK, hD, hE⟩ := hv
  have hx := B.exec
  have hb := B.bytes
  have hr := B.returns
  have hts := atoms_spec (ws := wsX8_seal) B.pre
  have hown : s.vm.findClass RX8 = some m.cls := findClass_of_methodNamed B.named
  have hlocks := B.notSynchronized
  have hS : va_S A s.heap s.heap [] := va_S.rf
  have hk_0 := hts (.fieldLink RX8 1 "HamCellarModel" "thrown" "I") (by decide +kernel)
  have hk_1 : ∀ w ∈ wsX80, w ∈ wsX8_seal := by decide +kernel
  have hk_2 := hts (.fieldLink RX8 42 "HamCellarModel" "sealedFeed" "[I") (by decide +kernel)
  have hk_3 := hts (.fieldLink RX8 75 "HamCellarModel" "rule" "[I") (by decide +kernel)
  have hl := lv_entry ([.ref (ad 0), .int p0]) (n := 3) (Nat.le_of_ble_eq_true rfl)
  rw [lg_entry_eq]
  generalize (lg_sl ([.ref (ad 0), .int p0]) ++ List.replicate (3 - (lg_sl ([.ref (ad 0), .int p0])).length) Slot.unset).toArray = ls at hl ⊢
  have hl : lv_has ls 3 [(0, .ref (ad 0)), (1, .int p0)] := hl
  unfold wp_M_X8_seal at h
  refine lv_aload_n hx hb dX8_seal_0 rfl (lv_at hl 0 rfl) ?_
  refine lv_iconst (v := 0) hx hb dX8_seal_1 (by decide) ?_
  refine va_put (D := (dC, dI)) (ci := 8) (v := .int 0) (ty := .int) (C := RX8) (T := TX8) (N := 34) hx hb hts hk_1 tyX8 tyX8_ok nmX8 hown hK hP hD hS 0 wM_g0 rfl 0 (by decide) hk_0 (fun _ h9 => h9) rfl (by decide +kernel) rfl rfl (Nat.le_of_ble_eq_true rfl) dX8_seal_2 (fun H locs hP2 hD2 hS => ?_)
  have hP : va_P (dC, dI) vwCl (wM ad cB cI cZ cL 0 m_today m_legs m_feeds m_taped m_point m_end m_begin m_faultAt m_farm m_pig m_begun m_first m_weight m_salted m_heat m_isBad m_isSold m_sealedFeed m_hook m_should m_on m_warmth m_damp m_isOpen m_fFarm m_fFrom m_fWhat m_fTold m_rule m_draft m_tape m_five m_those) H := hP_eq (wM_p_m_thrown) hP2
  have hD : va_D A (wM ad cB cI cZ cL 0 m_today m_legs m_feeds m_taped m_point m_end m_begin m_faultAt m_farm m_pig m_begun m_first m_weight m_salted m_heat m_isBad m_isSold m_sealedFeed m_hook m_should m_on m_warmth m_damp m_isOpen m_fFarm m_fFrom m_fWhat m_fTold m_rule m_draft m_tape m_five m_those) := hD_eq (wM_p_m_thrown) hD2
  refine lv_aload_n hx hb dX8_seal_5 rfl (lv_at hl 0 rfl) ?_
  refine lv_aload_n hx hb dX8_seal_6 rfl (lv_at hl 0 rfl) ?_
  refine lv_iload_n hx hb dX8_seal_7 rfl (lv_at hl 1 rfl) ?_
  refine va_calli (va_runV (As := [.int p0]) (rest := [.ref (ad 0)]) ⟨hx, hb, hml, hown, hts⟩ (c_M_X8_noLeg l dC dI ad cB cI cZ cL A 0 m_today m_legs m_feeds m_taped m_point m_end m_begin m_faultAt m_farm m_pig m_begun m_first m_weight m_salted m_heat m_isBad m_isSold m_sealedFeed m_hook m_should m_on m_warmth m_damp m_isOpen m_fFarm m_fFrom m_fWhat m_fTold m_rule m_draft m_tape m_five m_those p0 _ h) (cwV 1 hts gX8_seal_X8_noLeg rfl rfl rfl (by decide +kernel) ⟨(Nat.le_of_ble_eq_true rfl), (Nat.le_of_ble_eq_true rfl)⟩) ⟨kC_blind, va_recv hK hP (ci := 8) (q0 := 0) rfl wM_g0, fun U hU hW => ⟨rfl, kC_go hA hS hP hK hD hE U hU hW⟩⟩ rfl rfl hl.1 rfl (lv_room (Nat.le_of_ble_eq_true rfl)) dX8_seal_8 ⟨(Nat.le_of_ble_eq_true rfl), (Nat.le_of_ble_eq_true rfl)⟩) hS (fun q _ h => h) (fun q h => h) (fun r_1 u t H locs ht hvm hw hB hz1 hk1 hS => ?_)
  have h := hw
  try dsimp only at h
  have hP : va_P (dC, dI) vwCl (wM ad cB cI cZ cL 0 m_today m_legs m_feeds m_taped m_point m_end m_begin m_faultAt m_farm m_pig m_begun m_first m_weight m_salted m_heat m_isBad m_isSold m_sealedFeed m_hook m_should m_on m_warmth m_damp m_isOpen m_fFarm m_fFrom m_fWhat m_fTold m_rule m_draft m_tape m_five m_those) H := by rw [← ht]; exact hB.1
  have hD : va_D A (wM ad cB cI cZ cL 0 m_today m_legs m_feeds m_taped m_point m_end m_begin m_faultAt m_farm m_pig m_begun m_first m_weight m_salted m_heat m_isBad m_isSold m_sealedFeed m_hook m_should m_on m_warmth m_damp m_isOpen m_fFarm m_fFrom m_fWhat m_fTold m_rule m_draft m_tape m_five m_those) := hB.2.2
  refine lv_iconst (v := 1) hx hb dX8_seal_11 (by decide) ?_
  refine va_calli (va_runV (As := [.int r_1, .int 1]) (rest := []) ⟨hx, hb, hml, hown, hts⟩ (c_M_X8_throwsIf l dC dI ad cB cI cZ cL A 0 m_today m_legs m_feeds m_taped m_point m_end m_begin m_faultAt m_farm m_pig m_begun m_first m_weight m_salted m_heat m_isBad m_isSold m_sealedFeed m_hook m_should m_on m_warmth m_damp m_isOpen m_fFarm m_fFrom m_fWhat m_fTold m_rule m_draft m_tape m_five m_those r_1 1 _ h) (cwV 2 hts gX8_seal_X8_throwsIf rfl rfl rfl (by decide +kernel) ⟨(Nat.le_of_ble_eq_true rfl), (Nat.le_of_ble_eq_true rfl)⟩) ⟨kC_blind, va_recv hK hP (ci := 8) (q0 := 0) rfl wM_g0, fun U hU hW => ⟨rfl, kC_go hA hS hP hK hD hE U hU hW⟩⟩ rfl rfl hl.1 rfl (lv_room (Nat.le_of_ble_eq_true rfl)) dX8_seal_12 ⟨(Nat.le_of_ble_eq_true rfl), (Nat.le_of_ble_eq_true rfl)⟩) hS (fun q _ h => h) (fun q h => h) (fun r_2 u t H locs ht hvm hw hB hz1 hk1 hS => ?_)
  obtain ⟨m_thrown_2, rfl⟩ : ∃ z, z = u := ⟨_, rfl⟩
  have h := hw
  try dsimp only at h
  have hP : va_P (dC, dI) vwCl (wM ad cB cI cZ cL m_thrown_2 m_today m_legs m_feeds m_taped m_point m_end m_begin m_faultAt m_farm m_pig m_begun m_first m_weight m_salted m_heat m_isBad m_isSold m_sealedFeed m_hook m_should m_on m_warmth m_damp m_isOpen m_fFarm m_fFrom m_fWhat m_fTold m_rule m_draft m_tape m_five m_those) H := by rw [← ht]; exact hB.1
  have hD : va_D A (wM ad cB cI cZ cL m_thrown_2 m_today m_legs m_feeds m_taped m_point m_end m_begin m_faultAt m_farm m_pig m_begun m_first m_weight m_salted m_heat m_isBad m_isSold m_sealedFeed m_hook m_should m_on m_warmth m_damp m_isOpen m_fFarm m_fFrom m_fWhat m_fTold m_rule m_draft m_tape m_five m_those) := hB.2.2
  refine lv_if_eq (tgt := 20) hx hb dX8_seal_15 (by decide) (fun c_3 => ?_) (fun c_3 => ?_)
  · have h := h.1 c_3
    refine lv_aload_n hx hb dX8_seal_20 rfl (lv_at hl 0 rfl) ?_
    refine lv_iload_n hx hb dX8_seal_21 rfl (lv_at hl 1 rfl) ?_
    refine va_calli (va_runV (As := [.int p0]) (rest := []) ⟨hx, hb, hml, hown, hts⟩ (c_M_X8_against l dC dI ad cB cI cZ cL A m_thrown_2 m_today m_legs m_feeds m_taped m_point m_end m_begin m_faultAt m_farm m_pig m_begun m_first m_weight m_salted m_heat m_isBad m_isSold m_sealedFeed m_hook m_should m_on m_warmth m_damp m_isOpen m_fFarm m_fFrom m_fWhat m_fTold m_rule m_draft m_tape m_five m_those p0 _ h) (cwV 1 hts gX8_seal_X8_against rfl rfl rfl (by decide +kernel) ⟨(Nat.le_of_ble_eq_true rfl), (Nat.le_of_ble_eq_true rfl)⟩) ⟨kC_blind, va_recv hK hP (ci := 8) (q0 := 0) rfl wM_g0, fun U hU hW => ⟨rfl, kC_go hA hS hP hK hD hE U hU hW⟩⟩ rfl rfl hl.1 rfl (lv_room (Nat.le_of_ble_eq_true rfl)) dX8_seal_22 ⟨(Nat.le_of_ble_eq_true rfl), (Nat.le_of_ble_eq_true rfl)⟩) hS (fun q _ h => h) (fun q h => h) (fun r_4 u t H locs ht hvm hw hB hz1 hk1 hS => ?_)
    have h := hw
    try dsimp only at h
    have hP : va_P (dC, dI) vwCl (wM ad cB cI cZ cL m_thrown_2 m_today m_legs m_feeds m_taped m_point m_end m_begin m_faultAt m_farm m_pig m_begun m_first m_weight m_salted m_heat m_isBad m_isSold m_sealedFeed m_hook m_should m_on m_warmth m_damp m_isOpen m_fFarm m_fFrom m_fWhat m_fTold m_rule m_draft m_tape m_five m_those) H := by rw [← ht]; exact hB.1
    have hD : va_D A (wM ad cB cI cZ cL m_thrown_2 m_today m_legs m_feeds m_taped m_point m_end m_begin m_faultAt m_farm m_pig m_begun m_first m_weight m_salted m_heat m_isBad m_isSold m_sealedFeed m_hook m_should m_on m_warmth m_damp m_isOpen m_fFarm m_fFrom m_fWhat m_fTold m_rule m_draft m_tape m_five m_those) := hB.2.2
    refine lv_istore_n (lv' := [(2, .int r_4), (0, .ref (ad 0)), (1, .int p0)]) hx hb dX8_seal_25 rfl hl (by decide) rfl (fun ls hl => ?_)
    refine lv_iload_n hx hb dX8_seal_26 rfl (lv_at hl 0 rfl) ?_
    refine lv_if_ne (tgt := 42) hx hb dX8_seal_27 (by decide) (fun c_5 => ?_) (fun c_5 => ?_)
    · have h := h.1 c_5
      refine lv_iload_n hx hb dX8_seal_42 rfl (lv_at hl 0 rfl) ?_
      exact W.iret (v := r_4) hx hb hr (fun t ht hW => ⟨⟨r_4, (m_thrown_2, m_sealedFeed), rfl, h, kB_mk hP hK hD ht hW.alike⟩, hS.F ht⟩) hS.2.2 dX8_seal_43
    · have h := h.2 c_5
      refine lv_aload_n hx hb dX8_seal_30 rfl (lv_at hl 1 rfl) ?_
      refine va_get (D := (dC, dI)) (ci := 8) (v := .ref (ad 10)) (C := RX8) (T := TX8) (N := 34) hx hb hts hk_1 hown hK hP 0 wM_g0 rfl 11 (by decide) hk_2 (fun _ h9 => h9) rfl dX8_seal_31 ?_
      refine lv_iload_n hx hb dX8_seal_34 rfl (lv_at hl 2 rfl) ?_
      refine lv_aload_n hx hb dX8_seal_35 rfl (lv_at hl 1 rfl) ?_
      refine va_get (D := (dC, dI)) (ci := 8) (v := .ref (ad 21)) (C := RX8) (T := TX8) (N := 34) hx hb hts hk_1 hown hK hP 0 wM_g0 rfl 24 (by decide) hk_3 (fun _ h9 => h9) rfl dX8_seal_36 ?_
      refine lv_iconst (v := 3) hx hb dX8_seal_39 (by decide) ?_
      refine va_iald hx hb hK hP 21 1 wM_g21 rfl (by unfold vp_in; decide) dX8_seal_40 ?_
      have hi_6 := h.1
      have h := h.2
      refine va_iast hx hb hK hP hD hS 10 1 wM_g10 rfl hi_6 dX8_seal_41 (fun H locs hP2 hD2 hS => ?_)
      have hP : va_P (dC, dI) vwCl (wM ad cB cI cZ cL m_thrown_2 m_today m_legs m_feeds m_taped m_point m_end m_begin m_faultAt m_farm m_pig m_begun m_first m_weight m_salted m_heat m_isBad m_isSold (upd m_sealedFeed p0.toNatClampNeg (m_rule (3 : Int32).toNatClampNeg)) m_hook m_should m_on m_warmth m_damp m_isOpen m_fFarm m_fFrom m_fWhat m_fTold m_rule m_draft m_tape m_five m_those) H := hP_eq (wM_p_m_sealedFeed) hP2
      have hD : va_D A (wM ad cB cI cZ cL m_thrown_2 m_today m_legs m_feeds m_taped m_point m_end m_begin m_faultAt m_farm m_pig m_begun m_first m_weight m_salted m_heat m_isBad m_isSold (upd m_sealedFeed p0.toNatClampNeg (m_rule (3 : Int32).toNatClampNeg)) m_hook m_should m_on m_warmth m_damp m_isOpen m_fFarm m_fFrom m_fWhat m_fTold m_rule m_draft m_tape m_five m_those) := hD_eq (wM_p_m_sealedFeed) hD2
      refine lv_iload_n hx hb dX8_seal_42 rfl (lv_at hl 0 rfl) ?_
      exact W.iret (v := r_4) hx hb hr (fun t ht hW => ⟨⟨r_4, (m_thrown_2, upd m_sealedFeed p0.toNatClampNeg (m_rule (3 : Int32).toNatClampNeg)), rfl, h, kB_mk hP hK hD ht hW.alike⟩, hS.F ht⟩) hS.2.2 dX8_seal_43
  · have h := h.2 c_3
    refine lv_iconst (v := 0) hx hb dX8_seal_18 (by decide) ?_
    exact W.iret (v := 0) hx hb hr (fun t ht hW => ⟨⟨0, (m_thrown_2, m_sealedFeed), rfl, h, kB_mk hP hK hD ht hW.alike⟩, hS.F ht⟩) hS.2.2 dX8_seal_19
def wp_M_X8_look (m_legs : Int32) (m_farm : Nat → Int32) (m_pig : Nat → Int32) (m_begun : Nat → Int32) (m_first : Nat → Int32) (m_weight : Nat → Int32) (m_salted : Nat → Int32) (m_heat : Nat → Int32) (m_isBad : Nat → Int32) (m_isSold : Nat → Int32) (m_sealedFeed : Nat → Int32) (m_hook : Nat → Int32) (Q : Int32 → Int32 → Prop) (m_thrown : Int32) (p0 : Int32) (p1 : Int32) : Prop := wp_M_X8_noLeg m_legs (fun r_1 => wp_M_X8_throwsIf (fun r_2 m_thrown_2 => ((r_2 = 0 → ((p1 = 0 → (vp_in p0 60 ∧ Q (m_weight p0.toNatClampNeg) m_thrown_2)) ∧ (¬ p1 = 0 → ((p1 = 1 → (vp_in p0 60 ∧ Q (m_first p0.toNatClampNeg) m_thrown_2)) ∧ (¬ p1 = 1 → ((p1 = 2 → (vp_in p0 60 ∧ Q (m_salted p0.toNatClampNeg) m_thrown_2)) ∧ (¬ p1 = 2 → ((p1 = 3 → (vp_in p0 60 ∧ Q (m_heat p0.toNatClampNeg) m_thrown_2)) ∧ (¬ p1 = 3 → ((p1 = 4 → (vp_in p0 60 ∧ (((m_isSold p0.toNatClampNeg) = 0 → (vp_in p0 60 ∧ (((m_hook p0.toNatClampNeg) < 0 → Q 0 m_thrown_2) ∧ (¬ ((m_hook p0.toNatClampNeg) < 0) → Q 1 m_thrown_2)))) ∧ (¬ ((m_isSold p0.toNatClampNeg) = 0) → Q 2 m_thrown_2)))) ∧ (¬ p1 = 4 → ((p1 = 5 → (vp_in p0 60 ∧ ((0 ≤ (m_hook p0.toNatClampNeg) → (vp_in p0 60 ∧ Q ((m_hook p0.toNatClampNeg) / 10) m_thrown_2)) ∧ (¬ (0 ≤ (m_hook p0.toNatClampNeg)) → Q (-1) m_thrown_2)))) ∧ (¬ p1 = 5 → ((p1 = 6 → (vp_in p0 60 ∧ ((0 ≤ (m_hook p0.toNatClampNeg) → (vp_in p0 60 ∧ Q ((m_hook p0.toNatClampNeg) - (m_hook p0.toNatClampNeg) / 10 * 10) m_thrown_2)) ∧ (¬ (0 ≤ (m_hook p0.toNatClampNeg)) → Q (-1) m_thrown_2)))) ∧ (¬ p1 = 6 → ((p1 = 7 → (vp_in p0 60 ∧ (((m_sealedFeed p0.toNatClampNeg) < 0 → Q 0 m_thrown_2) ∧ (¬ ((m_sealedFeed p0.toNatClampNeg) < 0) → Q 1 m_thrown_2)))) ∧ (¬ p1 = 7 → ((p1 = 8 → (vp_in p0 60 ∧ (((m_isBad p0.toNatClampNeg) = 0 → Q 0 m_thrown_2) ∧ (¬ ((m_isBad p0.toNatClampNeg) = 0) → Q 1 m_thrown_2)))) ∧ (¬ p1 = 8 → ((p1 = 9 → (vp_in p0 60 ∧ Q (m_farm p0.toNatClampNeg) m_thrown_2)) ∧ (¬ p1 = 9 → ((p1 = 10 → (vp_in p0 60 ∧ Q (m_pig p0.toNatClampNeg) m_thrown_2)) ∧ (¬ p1 = 10 → ((p1 = 11 → (vp_in p0 60 ∧ Q (m_begun p0.toNatClampNeg) m_thrown_2)) ∧ (¬ p1 = 11 → Q 0 2))))))))))))))))))))))))) ∧ (¬ (r_2 = 0) → Q 0 m_thrown_2))) 0 r_1 1) p0
def rm_M_X8_look : Room := { frames := 2, cells := 0, slots := 0, locals := 43 }
abbrev pq_M_X8_look (dC : Nat → ClassId) (dI : Nat → Nat → Nat) (ad : Nat → Nat) (cB cI cZ cL : ClassId) (A : Nat → Prop) (m_thrown m_today m_legs m_feeds m_taped m_point m_end m_begin m_faultAt : Int32) (m_farm m_pig m_begun m_first m_weight m_salted m_heat m_isBad m_isSold m_sealedFeed m_hook m_should m_on m_warmth m_damp m_isOpen m_fFarm m_fFrom m_fWhat m_fTold m_rule m_draft m_tape m_five m_those : Nat → Int32) (Q : Int32 → Int32 → Prop) : Array Value → State → Outcome → State → Prop := va_Qi (fun (r : Int32) (u : Int32) => Q r u) (fun u t => kB dC dI A (wM ad cB cI cZ cL u m_today m_legs m_feeds m_taped m_point m_end m_begin m_faultAt m_farm m_pig m_begun m_first m_weight m_salted m_heat m_isBad m_isSold m_sealedFeed m_hook m_should m_on m_warmth m_damp m_isOpen m_fFarm m_fFrom m_fWhat m_fTold m_rule m_draft m_tape m_five m_those) (kTy cB cI cZ cL) t) A
set_option maxHeartbeats 4000000 in
set_option maxRecDepth 100000 in
theorem c_M_X8_look (l : Launch) (dC : Nat → ClassId) (dI : Nat → Nat → Nat) (ad : Nat → Nat) (cB cI cZ cL : ClassId) (A : Nat → Prop) (m_thrown m_today m_legs m_feeds m_taped m_point m_end m_begin m_faultAt : Int32) (m_farm m_pig m_begun m_first m_weight m_salted m_heat m_isBad m_isSold m_sealedFeed m_hook m_should m_on m_warmth m_damp m_isOpen m_fFarm m_fFrom m_fWhat m_fTold m_rule m_draft m_tape m_five m_those : Nat → Int32) (p0 : Int32) (p1 : Int32)  (Q : Int32 → Int32 → Prop) (h : wp_M_X8_look m_legs m_farm m_pig m_begun m_first m_weight m_salted m_heat m_isBad m_isSold m_sealedFeed m_hook Q m_thrown p0 p1) : Met l yX8_look wsX8_look rm_M_X8_look (va_Pc [.ref (ad 0), .int p0, .int p1] (kC dC dI ad A (wM ad cB cI cZ cL m_thrown m_today m_legs m_feeds m_taped m_point m_end m_begin m_faultAt m_farm m_pig m_begun m_first m_weight m_salted m_heat m_isBad m_isSold m_sealedFeed m_hook m_should m_on m_warmth m_damp m_isOpen m_fFarm m_fFrom m_fWhat m_fTold m_rule m_draft m_tape m_five m_those) (kTy cB cI cZ cL))) (pq_M_X8_look dC dI ad cB cI cZ cL A m_thrown m_today m_legs m_feeds m_taped m_point m_end m_begin m_faultAt m_farm m_pig m_begun m_first m_weight m_salted m_heat m_isBad m_isSold m_sealedFeed m_hook m_should m_on m_warmth m_damp m_isOpen m_fFarm m_fFrom m_fWhat m_fTold m_rule m_draft m_tape m_five m_those Q) 0 0 A := by
  refine Met.ofW (cc := cX8_look) (maxL := 3) (ret := (some .int)) (by decide) rfl ?_
  intro p e s m args below meth c s₁ B hml hv
  obtain ⟨rfl, hA, hP, hK, hD, hE⟩ := hv
  have hx := B.exec
  have hb := B.bytes
  have hr := B.returns
  have hts := atoms_spec (ws := wsX8_look) B.pre
  have hown : s.vm.findClass RX8 = some m.cls := findClass_of_methodNamed B.named
  have hlocks := B.notSynchronized
  have hS : va_S A s.heap s.heap [] := va_S.rf
  have hk_0 := hts (.fieldLink RX8 1 "HamCellarModel" "thrown" "I") (by decide +kernel)
  have hk_1 : ∀ w ∈ wsX80, w ∈ wsX8_look := by decide +kernel
  have hk_2 := hts (.fieldLink RX8 26 "HamCellarModel" "weight" "[I") (by decide +kernel)
  have hk_3 := hts (.fieldLink RX8 23 "HamCellarModel" "first" "[I") (by decide +kernel)
  have hk_4 := hts (.fieldLink RX8 29 "HamCellarModel" "salted" "[I") (by decide +kernel)
  have hk_5 := hts (.fieldLink RX8 32 "HamCellarModel" "heat" "[I") (by decide +kernel)
  have hk_6 := hts (.fieldLink RX8 39 "HamCellarModel" "isSold" "[Z") (by decide +kernel)
  have hk_7 := hts (.fieldLink RX8 45 "HamCellarModel" "hook" "[I") (by decide +kernel)
  have hk_8 := hts (.fieldLink RX8 42 "HamCellarModel" "sealedFeed" "[I") (by decide +kernel)
  have hk_9 := hts (.fieldLink RX8 35 "HamCellarModel" "isBad" "[Z") (by decide +kernel)
  have hk_10 := hts (.fieldLink RX8 13 "HamCellarModel" "farm" "[I") (by decide +kernel)
  have hk_11 := hts (.fieldLink RX8 17 "HamCellarModel" "pig" "[I") (by decide +kernel)
  have hk_12 := hts (.fieldLink RX8 20 "HamCellarModel" "begun" "[I") (by decide +kernel)
  have hl := lv_entry ([.ref (ad 0), .int p0, .int p1]) (n := 3) (Nat.le_of_ble_eq_true rfl)
  rw [lg_entry_eq]
  generalize (lg_sl ([.ref (ad 0), .int p0, .int p1]) ++ List.replicate (3 - (lg_sl ([.ref (ad 0), .int p0, .int p1])).length) Slot.unset).toArray = ls at hl ⊢
  have hl : lv_has ls 3 [(0, .ref (ad 0)), (1, .int p0), (2, .int p1)] := hl
  unfold wp_M_X8_look at h
  refine lv_aload_n hx hb dX8_look_0 rfl (lv_at hl 0 rfl) ?_
  refine lv_iconst (v := 0) hx hb dX8_look_1 (by decide) ?_
  refine va_put (D := (dC, dI)) (ci := 8) (v := .int 0) (ty := .int) (C := RX8) (T := TX8) (N := 34) hx hb hts hk_1 tyX8 tyX8_ok nmX8 hown hK hP hD hS 0 wM_g0 rfl 0 (by decide) hk_0 (fun _ h9 => h9) rfl (by decide +kernel) rfl rfl (Nat.le_of_ble_eq_true rfl) dX8_look_2 (fun H locs hP2 hD2 hS => ?_)
  have hP : va_P (dC, dI) vwCl (wM ad cB cI cZ cL 0 m_today m_legs m_feeds m_taped m_point m_end m_begin m_faultAt m_farm m_pig m_begun m_first m_weight m_salted m_heat m_isBad m_isSold m_sealedFeed m_hook m_should m_on m_warmth m_damp m_isOpen m_fFarm m_fFrom m_fWhat m_fTold m_rule m_draft m_tape m_five m_those) H := hP_eq (wM_p_m_thrown) hP2
  have hD : va_D A (wM ad cB cI cZ cL 0 m_today m_legs m_feeds m_taped m_point m_end m_begin m_faultAt m_farm m_pig m_begun m_first m_weight m_salted m_heat m_isBad m_isSold m_sealedFeed m_hook m_should m_on m_warmth m_damp m_isOpen m_fFarm m_fFrom m_fWhat m_fTold m_rule m_draft m_tape m_five m_those) := hD_eq (wM_p_m_thrown) hD2
  refine lv_aload_n hx hb dX8_look_5 rfl (lv_at hl 0 rfl) ?_
  refine lv_aload_n hx hb dX8_look_6 rfl (lv_at hl 0 rfl) ?_
  refine lv_iload_n hx hb dX8_look_7 rfl (lv_at hl 1 rfl) ?_
  refine va_calli (va_runV (As := [.int p0]) (rest := [.ref (ad 0)]) ⟨hx, hb, hml, hown, hts⟩ (c_M_X8_noLeg l dC dI ad cB cI cZ cL A 0 m_today m_legs m_feeds m_taped m_point m_end m_begin m_faultAt m_farm m_pig m_begun m_first m_weight m_salted m_heat m_isBad m_isSold m_sealedFeed m_hook m_should m_on m_warmth m_damp m_isOpen m_fFarm m_fFrom m_fWhat m_fTold m_rule m_draft m_tape m_five m_those p0 _ h) (cwV 1 hts gX8_look_X8_noLeg rfl rfl rfl (by decide +kernel) ⟨(Nat.le_of_ble_eq_true rfl), (Nat.le_of_ble_eq_true rfl)⟩) ⟨kC_blind, va_recv hK hP (ci := 8) (q0 := 0) rfl wM_g0, fun U hU hW => ⟨rfl, kC_go hA hS hP hK hD hE U hU hW⟩⟩ rfl rfl hl.1 rfl (lv_room (Nat.le_of_ble_eq_true rfl)) dX8_look_8 ⟨(Nat.le_of_ble_eq_true rfl), (Nat.le_of_ble_eq_true rfl)⟩) hS (fun q _ h => h) (fun q h => h) (fun r_1 u t H locs ht hvm hw hB hz1 hk1 hS => ?_)
  have h := hw
  try dsimp only at h
  have hP : va_P (dC, dI) vwCl (wM ad cB cI cZ cL 0 m_today m_legs m_feeds m_taped m_point m_end m_begin m_faultAt m_farm m_pig m_begun m_first m_weight m_salted m_heat m_isBad m_isSold m_sealedFeed m_hook m_should m_on m_warmth m_damp m_isOpen m_fFarm m_fFrom m_fWhat m_fTold m_rule m_draft m_tape m_five m_those) H := by rw [← ht]; exact hB.1
  have hD : va_D A (wM ad cB cI cZ cL 0 m_today m_legs m_feeds m_taped m_point m_end m_begin m_faultAt m_farm m_pig m_begun m_first m_weight m_salted m_heat m_isBad m_isSold m_sealedFeed m_hook m_should m_on m_warmth m_damp m_isOpen m_fFarm m_fFrom m_fWhat m_fTold m_rule m_draft m_tape m_five m_those) := hB.2.2
  refine lv_iconst (v := 1) hx hb dX8_look_11 (by decide) ?_
  refine va_calli (va_runV (As := [.int r_1, .int 1]) (rest := []) ⟨hx, hb, hml, hown, hts⟩ (c_M_X8_throwsIf l dC dI ad cB cI cZ cL A 0 m_today m_legs m_feeds m_taped m_point m_end m_begin m_faultAt m_farm m_pig m_begun m_first m_weight m_salted m_heat m_isBad m_isSold m_sealedFeed m_hook m_should m_on m_warmth m_damp m_isOpen m_fFarm m_fFrom m_fWhat m_fTold m_rule m_draft m_tape m_five m_those r_1 1 _ h) (cwV 2 hts gX8_look_X8_throwsIf rfl rfl rfl (by decide +kernel) ⟨(Nat.le_of_ble_eq_true rfl), (Nat.le_of_ble_eq_true rfl)⟩) ⟨kC_blind, va_recv hK hP (ci := 8) (q0 := 0) rfl wM_g0, fun U hU hW => ⟨rfl, kC_go hA hS hP hK hD hE U hU hW⟩⟩ rfl rfl hl.1 rfl (lv_room (Nat.le_of_ble_eq_true rfl)) dX8_look_12 ⟨(Nat.le_of_ble_eq_true rfl), (Nat.le_of_ble_eq_true rfl)⟩) hS (fun q _ h => h) (fun q h => h) (fun r_2 u t H locs ht hvm hw hB hz1 hk1 hS => ?_)
  obtain ⟨m_thrown_2, rfl⟩ : ∃ z, z = u := ⟨_, rfl⟩
  have h := hw
  try dsimp only at h
  have hP : va_P (dC, dI) vwCl (wM ad cB cI cZ cL m_thrown_2 m_today m_legs m_feeds m_taped m_point m_end m_begin m_faultAt m_farm m_pig m_begun m_first m_weight m_salted m_heat m_isBad m_isSold m_sealedFeed m_hook m_should m_on m_warmth m_damp m_isOpen m_fFarm m_fFrom m_fWhat m_fTold m_rule m_draft m_tape m_five m_those) H := by rw [← ht]; exact hB.1
  have hD : va_D A (wM ad cB cI cZ cL m_thrown_2 m_today m_legs m_feeds m_taped m_point m_end m_begin m_faultAt m_farm m_pig m_begun m_first m_weight m_salted m_heat m_isBad m_isSold m_sealedFeed m_hook m_should m_on m_warmth m_damp m_isOpen m_fFarm m_fFrom m_fWhat m_fTold m_rule m_draft m_tape m_five m_those) := hB.2.2
  refine lv_if_eq (tgt := 20) hx hb dX8_look_15 (by decide) (fun c_3 => ?_) (fun c_3 => ?_)
  · have h := h.1 c_3
    refine lv_iload_n hx hb dX8_look_20 rfl (lv_at hl 2 rfl) ?_
    by_cases hc_21_0 : p1 = 0
    · have h := h.1 hc_21_0
      refine lv_tableIn (off := 63) (tgt := 84) hx hb dX8_look_21 (by rw [hc_21_0]; decide) (by rw [hc_21_0]; decide) (by rw [hc_21_0]; rfl) (by decide) ?_
      refine lv_aload_n hx hb dX8_look_84 rfl (lv_at hl 0 rfl) ?_
      refine va_get (D := (dC, dI)) (ci := 8) (v := .ref (ad 5)) (C := RX8) (T := TX8) (N := 34) hx hb hts hk_1 hown hK hP 0 wM_g0 rfl 6 (by decide) hk_2 (fun _ h9 => h9) rfl dX8_look_85 ?_
      refine lv_iload_n hx hb dX8_look_88 rfl (lv_at hl 1 rfl) ?_
      have hi_4 := h.1
      have h := h.2
      refine va_iald hx hb hK hP 5 1 wM_g5 rfl hi_4 dX8_look_89 ?_
      exact W.iret (v := m_weight p0.toNatClampNeg) hx hb hr (fun t ht hW => ⟨⟨m_weight p0.toNatClampNeg, (m_thrown_2), rfl, h, kB_mk hP hK hD ht hW.alike⟩, hS.F ht⟩) hS.2.2 dX8_look_90
    · have h := h.2 hc_21_0
      by_cases hc_21_1 : p1 = 1
      · have h := h.1 hc_21_1
        refine lv_tableIn (off := 70) (tgt := 91) hx hb dX8_look_21 (by rw [hc_21_1]; decide) (by rw [hc_21_1]; decide) (by rw [hc_21_1]; rfl) (by decide) ?_
        refine lv_aload_n hx hb dX8_look_91 rfl (lv_at hl 0 rfl) ?_
        refine va_get (D := (dC, dI)) (ci := 8) (v := .ref (ad 4)) (C := RX8) (T := TX8) (N := 34) hx hb hts hk_1 hown hK hP 0 wM_g0 rfl 5 (by decide) hk_3 (fun _ h9 => h9) rfl dX8_look_92 ?_
        refine lv_iload_n hx hb dX8_look_95 rfl (lv_at hl 1 rfl) ?_
        have hi_5 := h.1
        have h := h.2
        refine va_iald hx hb hK hP 4 1 wM_g4 rfl hi_5 dX8_look_96 ?_
        exact W.iret (v := m_first p0.toNatClampNeg) hx hb hr (fun t ht hW => ⟨⟨m_first p0.toNatClampNeg, (m_thrown_2), rfl, h, kB_mk hP hK hD ht hW.alike⟩, hS.F ht⟩) hS.2.2 dX8_look_97
      · have h := h.2 hc_21_1
        by_cases hc_21_2 : p1 = 2
        · have h := h.1 hc_21_2
          refine lv_tableIn (off := 77) (tgt := 98) hx hb dX8_look_21 (by rw [hc_21_2]; decide) (by rw [hc_21_2]; decide) (by rw [hc_21_2]; rfl) (by decide) ?_
          refine lv_aload_n hx hb dX8_look_98 rfl (lv_at hl 0 rfl) ?_
          refine va_get (D := (dC, dI)) (ci := 8) (v := .ref (ad 6)) (C := RX8) (T := TX8) (N := 34) hx hb hts hk_1 hown hK hP 0 wM_g0 rfl 7 (by decide) hk_4 (fun _ h9 => h9) rfl dX8_look_99 ?_
          refine lv_iload_n hx hb dX8_look_102 rfl (lv_at hl 1 rfl) ?_
          have hi_6 := h.1
          have h := h.2
          refine va_iald hx hb hK hP 6 1 wM_g6 rfl hi_6 dX8_look_103 ?_
          exact W.iret (v := m_salted p0.toNatClampNeg) hx hb hr (fun t ht hW => ⟨⟨m_salted p0.toNatClampNeg, (m_thrown_2), rfl, h, kB_mk hP hK hD ht hW.alike⟩, hS.F ht⟩) hS.2.2 dX8_look_104
        · have h := h.2 hc_21_2
          by_cases hc_21_3 : p1 = 3
          · have h := h.1 hc_21_3
            refine lv_tableIn (off := 84) (tgt := 105) hx hb dX8_look_21 (by rw [hc_21_3]; decide) (by rw [hc_21_3]; decide) (by rw [hc_21_3]; rfl) (by decide) ?_
            refine lv_aload_n hx hb dX8_look_105 rfl (lv_at hl 0 rfl) ?_
            refine va_get (D := (dC, dI)) (ci := 8) (v := .ref (ad 7)) (C := RX8) (T := TX8) (N := 34) hx hb hts hk_1 hown hK hP 0 wM_g0 rfl 8 (by decide) hk_5 (fun _ h9 => h9) rfl dX8_look_106 ?_
            refine lv_iload_n hx hb dX8_look_109 rfl (lv_at hl 1 rfl) ?_
            have hi_7 := h.1
            have h := h.2
            refine va_iald hx hb hK hP 7 1 wM_g7 rfl hi_7 dX8_look_110 ?_
            exact W.iret (v := m_heat p0.toNatClampNeg) hx hb hr (fun t ht hW => ⟨⟨m_heat p0.toNatClampNeg, (m_thrown_2), rfl, h, kB_mk hP hK hD ht hW.alike⟩, hS.F ht⟩) hS.2.2 dX8_look_111
          · have h := h.2 hc_21_3
            by_cases hc_21_4 : p1 = 4
            · have h := h.1 hc_21_4
              refine lv_tableIn (off := 91) (tgt := 112) hx hb dX8_look_21 (by rw [hc_21_4]; decide) (by rw [hc_21_4]; decide) (by rw [hc_21_4]; rfl) (by decide) ?_
              refine lv_aload_n hx hb dX8_look_112 rfl (lv_at hl 0 rfl) ?_
              refine va_get (D := (dC, dI)) (ci := 8) (v := .ref (ad 9)) (C := RX8) (T := TX8) (N := 34) hx hb hts hk_1 hown hK hP 0 wM_g0 rfl 10 (by decide) hk_6 (fun _ h9 => h9) rfl dX8_look_113 ?_
              refine lv_iload_n hx hb dX8_look_116 rfl (lv_at hl 1 rfl) ?_
              have hi_8 := h.1
              have h := h.2
              refine va_zald hx hb hK hP 9 2 wM_g9 rfl hi_8 dX8_look_117 ?_
              refine lv_if_eq (tgt := 125) hx hb dX8_look_118 (by decide) (fun c_9 => ?_) (fun c_9 => ?_)
              · have h := h.1 c_9
                refine lv_aload_n hx hb dX8_look_125 rfl (lv_at hl 0 rfl) ?_
                refine va_get (D := (dC, dI)) (ci := 8) (v := .ref (ad 11)) (C := RX8) (T := TX8) (N := 34) hx hb hts hk_1 hown hK hP 0 wM_g0 rfl 12 (by decide) hk_7 (fun _ h9 => h9) rfl dX8_look_126 ?_
                refine lv_iload_n hx hb dX8_look_129 rfl (lv_at hl 1 rfl) ?_
                have hi_10 := h.1
                have h := h.2
                refine va_iald hx hb hK hP 11 1 wM_g11 rfl hi_10 dX8_look_130 ?_
                refine lv_if_lt (tgt := 138) hx hb dX8_look_131 (by decide) (fun c_11 => ?_) (fun c_11 => ?_)
                · have h := h.1 c_11
                  refine lv_iconst (v := 0) hx hb dX8_look_138 (by decide) ?_
                  exact W.iret (v := 0) hx hb hr (fun t ht hW => ⟨⟨0, (m_thrown_2), rfl, h, kB_mk hP hK hD ht hW.alike⟩, hS.F ht⟩) hS.2.2 dX8_look_139
                · have h := h.2 c_11
                  refine lv_iconst (v := 1) hx hb dX8_look_134 (by decide) ?_
                  refine lv_goto (tgt := 139) hx hb dX8_look_135 (by decide) ?_
                  exact W.iret (v := 1) hx hb hr (fun t ht hW => ⟨⟨1, (m_thrown_2), rfl, h, kB_mk hP hK hD ht hW.alike⟩, hS.F ht⟩) hS.2.2 dX8_look_139
              · have h := h.2 c_9
                refine lv_iconst (v := 2) hx hb dX8_look_121 (by decide) ?_
                refine lv_goto (tgt := 139) hx hb dX8_look_122 (by decide) ?_
                exact W.iret (v := 2) hx hb hr (fun t ht hW => ⟨⟨2, (m_thrown_2), rfl, h, kB_mk hP hK hD ht hW.alike⟩, hS.F ht⟩) hS.2.2 dX8_look_139
            · have h := h.2 hc_21_4
              by_cases hc_21_5 : p1 = 5
              · have h := h.1 hc_21_5
                refine lv_tableIn (off := 119) (tgt := 140) hx hb dX8_look_21 (by rw [hc_21_5]; decide) (by rw [hc_21_5]; decide) (by rw [hc_21_5]; rfl) (by decide) ?_
                refine lv_aload_n hx hb dX8_look_140 rfl (lv_at hl 0 rfl) ?_
                refine va_get (D := (dC, dI)) (ci := 8) (v := .ref (ad 11)) (C := RX8) (T := TX8) (N := 34) hx hb hts hk_1 hown hK hP 0 wM_g0 rfl 12 (by decide) hk_7 (fun _ h9 => h9) rfl dX8_look_141 ?_
                refine lv_iload_n hx hb dX8_look_144 rfl (lv_at hl 1 rfl) ?_
                have hi_12 := h.1
                have h := h.2
                refine va_iald hx hb hK hP 11 1 wM_g11 rfl hi_12 dX8_look_145 ?_
                refine lv_if_ge (tgt := 153) hx hb dX8_look_146 (by decide) (fun c_13 => ?_) (fun c_13 => ?_)
                · have h := h.1 c_13
                  refine lv_aload_n hx hb dX8_look_153 rfl (lv_at hl 0 rfl) ?_
                  refine va_get (D := (dC, dI)) (ci := 8) (v := .ref (ad 11)) (C := RX8) (T := TX8) (N := 34) hx hb hts hk_1 hown hK hP 0 wM_g0 rfl 12 (by decide) hk_7 (fun _ h9 => h9) rfl dX8_look_154 ?_
                  refine lv_iload_n hx hb dX8_look_157 rfl (lv_at hl 1 rfl) ?_
                  have hi_14 := h.1
                  have h := h.2
                  refine va_iald hx hb hK hP 11 1 wM_g11 rfl hi_14 dX8_look_158 ?_
                  refine lv_bipush (v := 10) hx hb dX8_look_159 (by decide) ?_
                  refine lv_idiv hx hb dX8_look_161 (by decide) ?_
                  exact W.iret (v := (m_hook p0.toNatClampNeg) / 10) hx hb hr (fun t ht hW => ⟨⟨(m_hook p0.toNatClampNeg) / 10, (m_thrown_2), rfl, h, kB_mk hP hK hD ht hW.alike⟩, hS.F ht⟩) hS.2.2 dX8_look_162
                · have h := h.2 c_13
                  refine lv_iconst (v := (-1)) hx hb dX8_look_149 (by decide) ?_
                  refine lv_goto (tgt := 162) hx hb dX8_look_150 (by decide) ?_
                  exact W.iret (v := (-1)) hx hb hr (fun t ht hW => ⟨⟨(-1), (m_thrown_2), rfl, h, kB_mk hP hK hD ht hW.alike⟩, hS.F ht⟩) hS.2.2 dX8_look_162
              · have h := h.2 hc_21_5
                by_cases hc_21_6 : p1 = 6
                · have h := h.1 hc_21_6
                  refine lv_tableIn (off := 142) (tgt := 163) hx hb dX8_look_21 (by rw [hc_21_6]; decide) (by rw [hc_21_6]; decide) (by rw [hc_21_6]; rfl) (by decide) ?_
                  refine lv_aload_n hx hb dX8_look_163 rfl (lv_at hl 0 rfl) ?_
                  refine va_get (D := (dC, dI)) (ci := 8) (v := .ref (ad 11)) (C := RX8) (T := TX8) (N := 34) hx hb hts hk_1 hown hK hP 0 wM_g0 rfl 12 (by decide) hk_7 (fun _ h9 => h9) rfl dX8_look_164 ?_
                  refine lv_iload_n hx hb dX8_look_167 rfl (lv_at hl 1 rfl) ?_
                  have hi_15 := h.1
                  have h := h.2
                  refine va_iald hx hb hK hP 11 1 wM_g11 rfl hi_15 dX8_look_168 ?_
                  refine lv_if_ge (tgt := 176) hx hb dX8_look_169 (by decide) (fun c_16 => ?_) (fun c_16 => ?_)
                  · have h := h.1 c_16
                    refine lv_aload_n hx hb dX8_look_176 rfl (lv_at hl 0 rfl) ?_
                    refine va_get (D := (dC, dI)) (ci := 8) (v := .ref (ad 11)) (C := RX8) (T := TX8) (N := 34) hx hb hts hk_1 hown hK hP 0 wM_g0 rfl 12 (by decide) hk_7 (fun _ h9 => h9) rfl dX8_look_177 ?_
                    refine lv_iload_n hx hb dX8_look_180 rfl (lv_at hl 1 rfl) ?_
                    have hi_17 := h.1
                    have h := h.2
                    refine va_iald hx hb hK hP 11 1 wM_g11 rfl hi_17 dX8_look_181 ?_
                    refine lv_bipush (v := 10) hx hb dX8_look_182 (by decide) ?_
                    refine lv_irem hx hb dX8_look_184 (by decide) ?_
                    exact W.iret (v := (m_hook p0.toNatClampNeg) - (m_hook p0.toNatClampNeg) / 10 * 10) hx hb hr (fun t ht hW => ⟨⟨(m_hook p0.toNatClampNeg) - (m_hook p0.toNatClampNeg) / 10 * 10, (m_thrown_2), rfl, h, kB_mk hP hK hD ht hW.alike⟩, hS.F ht⟩) hS.2.2 dX8_look_185
                  · have h := h.2 c_16
                    refine lv_iconst (v := (-1)) hx hb dX8_look_172 (by decide) ?_
                    refine lv_goto (tgt := 185) hx hb dX8_look_173 (by decide) ?_
                    exact W.iret (v := (-1)) hx hb hr (fun t ht hW => ⟨⟨(-1), (m_thrown_2), rfl, h, kB_mk hP hK hD ht hW.alike⟩, hS.F ht⟩) hS.2.2 dX8_look_185
                · have h := h.2 hc_21_6
                  by_cases hc_21_7 : p1 = 7
                  · have h := h.1 hc_21_7
                    refine lv_tableIn (off := 165) (tgt := 186) hx hb dX8_look_21 (by rw [hc_21_7]; decide) (by rw [hc_21_7]; decide) (by rw [hc_21_7]; rfl) (by decide) ?_
                    refine lv_aload_n hx hb dX8_look_186 rfl (lv_at hl 0 rfl) ?_
                    refine va_get (D := (dC, dI)) (ci := 8) (v := .ref (ad 10)) (C := RX8) (T := TX8) (N := 34) hx hb hts hk_1 hown hK hP 0 wM_g0 rfl 11 (by decide) hk_8 (fun _ h9 => h9) rfl dX8_look_187 ?_
                    refine lv_iload_n hx hb dX8_look_190 rfl (lv_at hl 1 rfl) ?_
                    have hi_18 := h.1
                    have h := h.2
                    refine va_iald hx hb hK hP 10 1 wM_g10 rfl hi_18 dX8_look_191 ?_
                    refine lv_if_lt (tgt := 199) hx hb dX8_look_192 (by decide) (fun c_19 => ?_) (fun c_19 => ?_)
                    · have h := h.1 c_19
                      refine lv_iconst (v := 0) hx hb dX8_look_199 (by decide) ?_
                      exact W.iret (v := 0) hx hb hr (fun t ht hW => ⟨⟨0, (m_thrown_2), rfl, h, kB_mk hP hK hD ht hW.alike⟩, hS.F ht⟩) hS.2.2 dX8_look_200
                    · have h := h.2 c_19
                      refine lv_iconst (v := 1) hx hb dX8_look_195 (by decide) ?_
                      refine lv_goto (tgt := 200) hx hb dX8_look_196 (by decide) ?_
                      exact W.iret (v := 1) hx hb hr (fun t ht hW => ⟨⟨1, (m_thrown_2), rfl, h, kB_mk hP hK hD ht hW.alike⟩, hS.F ht⟩) hS.2.2 dX8_look_200
                  · have h := h.2 hc_21_7
                    by_cases hc_21_8 : p1 = 8
                    · have h := h.1 hc_21_8
                      refine lv_tableIn (off := 180) (tgt := 201) hx hb dX8_look_21 (by rw [hc_21_8]; decide) (by rw [hc_21_8]; decide) (by rw [hc_21_8]; rfl) (by decide) ?_
                      refine lv_aload_n hx hb dX8_look_201 rfl (lv_at hl 0 rfl) ?_
                      refine va_get (D := (dC, dI)) (ci := 8) (v := .ref (ad 8)) (C := RX8) (T := TX8) (N := 34) hx hb hts hk_1 hown hK hP 0 wM_g0 rfl 9 (by decide) hk_9 (fun _ h9 => h9) rfl dX8_look_202 ?_
                      refine lv_iload_n hx hb dX8_look_205 rfl (lv_at hl 1 rfl) ?_
                      have hi_20 := h.1
                      have h := h.2
                      refine va_zald hx hb hK hP 8 2 wM_g8 rfl hi_20 dX8_look_206 ?_
                      refine lv_if_eq (tgt := 214) hx hb dX8_look_207 (by decide) (fun c_21 => ?_) (fun c_21 => ?_)
                      · have h := h.1 c_21
                        refine lv_iconst (v := 0) hx hb dX8_look_214 (by decide) ?_
                        exact W.iret (v := 0) hx hb hr (fun t ht hW => ⟨⟨0, (m_thrown_2), rfl, h, kB_mk hP hK hD ht hW.alike⟩, hS.F ht⟩) hS.2.2 dX8_look_215
                      · have h := h.2 c_21
                        refine lv_iconst (v := 1) hx hb dX8_look_210 (by decide) ?_
                        refine lv_goto (tgt := 215) hx hb dX8_look_211 (by decide) ?_
                        exact W.iret (v := 1) hx hb hr (fun t ht hW => ⟨⟨1, (m_thrown_2), rfl, h, kB_mk hP hK hD ht hW.alike⟩, hS.F ht⟩) hS.2.2 dX8_look_215
                    · have h := h.2 hc_21_8
                      by_cases hc_21_9 : p1 = 9
                      · have h := h.1 hc_21_9
                        refine lv_tableIn (off := 195) (tgt := 216) hx hb dX8_look_21 (by rw [hc_21_9]; decide) (by rw [hc_21_9]; decide) (by rw [hc_21_9]; rfl) (by decide) ?_
                        refine lv_aload_n hx hb dX8_look_216 rfl (lv_at hl 0 rfl) ?_
                        refine va_get (D := (dC, dI)) (ci := 8) (v := .ref (ad 1)) (C := RX8) (T := TX8) (N := 34) hx hb hts hk_1 hown hK hP 0 wM_g0 rfl 2 (by decide) hk_10 (fun _ h9 => h9) rfl dX8_look_217 ?_
                        refine lv_iload_n hx hb dX8_look_220 rfl (lv_at hl 1 rfl) ?_
                        have hi_22 := h.1
                        have h := h.2
                        refine va_iald hx hb hK hP 1 1 wM_g1 rfl hi_22 dX8_look_221 ?_
                        exact W.iret (v := m_farm p0.toNatClampNeg) hx hb hr (fun t ht hW => ⟨⟨m_farm p0.toNatClampNeg, (m_thrown_2), rfl, h, kB_mk hP hK hD ht hW.alike⟩, hS.F ht⟩) hS.2.2 dX8_look_222
                      · have h := h.2 hc_21_9
                        by_cases hc_21_10 : p1 = 10
                        · have h := h.1 hc_21_10
                          refine lv_tableIn (off := 202) (tgt := 223) hx hb dX8_look_21 (by rw [hc_21_10]; decide) (by rw [hc_21_10]; decide) (by rw [hc_21_10]; rfl) (by decide) ?_
                          refine lv_aload_n hx hb dX8_look_223 rfl (lv_at hl 0 rfl) ?_
                          refine va_get (D := (dC, dI)) (ci := 8) (v := .ref (ad 2)) (C := RX8) (T := TX8) (N := 34) hx hb hts hk_1 hown hK hP 0 wM_g0 rfl 3 (by decide) hk_11 (fun _ h9 => h9) rfl dX8_look_224 ?_
                          refine lv_iload_n hx hb dX8_look_227 rfl (lv_at hl 1 rfl) ?_
                          have hi_23 := h.1
                          have h := h.2
                          refine va_iald hx hb hK hP 2 1 wM_g2 rfl hi_23 dX8_look_228 ?_
                          exact W.iret (v := m_pig p0.toNatClampNeg) hx hb hr (fun t ht hW => ⟨⟨m_pig p0.toNatClampNeg, (m_thrown_2), rfl, h, kB_mk hP hK hD ht hW.alike⟩, hS.F ht⟩) hS.2.2 dX8_look_229
                        · have h := h.2 hc_21_10
                          by_cases hc_21_11 : p1 = 11
                          · have h := h.1 hc_21_11
                            refine lv_tableIn (off := 209) (tgt := 230) hx hb dX8_look_21 (by rw [hc_21_11]; decide) (by rw [hc_21_11]; decide) (by rw [hc_21_11]; rfl) (by decide) ?_
                            refine lv_aload_n hx hb dX8_look_230 rfl (lv_at hl 0 rfl) ?_
                            refine va_get (D := (dC, dI)) (ci := 8) (v := .ref (ad 3)) (C := RX8) (T := TX8) (N := 34) hx hb hts hk_1 hown hK hP 0 wM_g0 rfl 4 (by decide) hk_12 (fun _ h9 => h9) rfl dX8_look_231 ?_
                            refine lv_iload_n hx hb dX8_look_234 rfl (lv_at hl 1 rfl) ?_
                            have hi_24 := h.1
                            have h := h.2
                            refine va_iald hx hb hK hP 3 1 wM_g3 rfl hi_24 dX8_look_235 ?_
                            exact W.iret (v := m_begun p0.toNatClampNeg) hx hb hr (fun t ht hW => ⟨⟨m_begun p0.toNatClampNeg, (m_thrown_2), rfl, h, kB_mk hP hK hD ht hW.alike⟩, hS.F ht⟩) hS.2.2 dX8_look_236
                          · have h := h.2 hc_21_11
                            have t_0 : ¬ p1.toInt = 0 := lv_neT hc_21_0 (by decide)
                            have t_1 : ¬ p1.toInt = 1 := lv_neT hc_21_1 (by decide)
                            have t_2 : ¬ p1.toInt = 2 := lv_neT hc_21_2 (by decide)
                            have t_3 : ¬ p1.toInt = 3 := lv_neT hc_21_3 (by decide)
                            have t_4 : ¬ p1.toInt = 4 := lv_neT hc_21_4 (by decide)
                            have t_5 : ¬ p1.toInt = 5 := lv_neT hc_21_5 (by decide)
                            have t_6 : ¬ p1.toInt = 6 := lv_neT hc_21_6 (by decide)
                            have t_7 : ¬ p1.toInt = 7 := lv_neT hc_21_7 (by decide)
                            have t_8 : ¬ p1.toInt = 8 := lv_neT hc_21_8 (by decide)
                            have t_9 : ¬ p1.toInt = 9 := lv_neT hc_21_9 (by decide)
                            have t_10 : ¬ p1.toInt = 10 := lv_neT hc_21_10 (by decide)
                            have t_11 : ¬ p1.toInt = 11 := lv_neT hc_21_11 (by decide)
                            refine lv_tableOut (tgt := 237) hx hb dX8_look_21 (by omega) (by decide) ?_
                            refine lv_aload_n hx hb dX8_look_237 rfl (lv_at hl 0 rfl) ?_
                            refine lv_iconst (v := 2) hx hb dX8_look_238 (by decide) ?_
                            refine va_put (D := (dC, dI)) (ci := 8) (v := .int 2) (ty := .int) (C := RX8) (T := TX8) (N := 34) hx hb hts hk_1 tyX8 tyX8_ok nmX8 hown hK hP hD hS 0 wM_g0 rfl 0 (by decide) hk_0 (fun _ h9 => h9) rfl (by decide +kernel) rfl rfl (Nat.le_of_ble_eq_true rfl) dX8_look_239 (fun H locs hP2 hD2 hS => ?_)
                            have hP : va_P (dC, dI) vwCl (wM ad cB cI cZ cL 2 m_today m_legs m_feeds m_taped m_point m_end m_begin m_faultAt m_farm m_pig m_begun m_first m_weight m_salted m_heat m_isBad m_isSold m_sealedFeed m_hook m_should m_on m_warmth m_damp m_isOpen m_fFarm m_fFrom m_fWhat m_fTold m_rule m_draft m_tape m_five m_those) H := hP_eq (wM_p_m_thrown) hP2
                            have hD : va_D A (wM ad cB cI cZ cL 2 m_today m_legs m_feeds m_taped m_point m_end m_begin m_faultAt m_farm m_pig m_begun m_first m_weight m_salted m_heat m_isBad m_isSold m_sealedFeed m_hook m_should m_on m_warmth m_damp m_isOpen m_fFarm m_fFrom m_fWhat m_fTold m_rule m_draft m_tape m_five m_those) := hD_eq (wM_p_m_thrown) hD2
                            refine lv_iconst (v := 0) hx hb dX8_look_242 (by decide) ?_
                            exact W.iret (v := 0) hx hb hr (fun t ht hW => ⟨⟨0, (2), rfl, h, kB_mk hP hK hD ht hW.alike⟩, hS.F ht⟩) hS.2.2 dX8_look_243
  · have h := h.2 c_3
    refine lv_iconst (v := 0) hx hb dX8_look_18 (by decide) ?_
    exact W.iret (v := 0) hx hb hr (fun t ht hW => ⟨⟨0, (m_thrown_2), rfl, h, kB_mk hP hK hD ht hW.alike⟩, hS.F ht⟩) hS.2.2 dX8_look_19
def wp_M_X8_on (m_on : Nat → Int32) (Q : Int32 → Int32 → Prop) (m_thrown : Int32) (p0 : Int32) (p1 : Int32) : Prop := wp_M_X8_noHook (fun r_1 => wp_M_X8_throwsIf (fun r_2 m_thrown_2 => ((r_2 = 0 → (vp_in ((10 * p0) + p1) 60 ∧ Q (m_on ((10 * p0) + p1).toNatClampNeg) m_thrown_2)) ∧ (¬ (r_2 = 0) → Q 0 m_thrown_2))) 0 r_1 1) p0 p1
def rm_M_X8_on : Room := { frames := 2, cells := 0, slots := 0, locals := 43 }
abbrev pq_M_X8_on (dC : Nat → ClassId) (dI : Nat → Nat → Nat) (ad : Nat → Nat) (cB cI cZ cL : ClassId) (A : Nat → Prop) (m_thrown m_today m_legs m_feeds m_taped m_point m_end m_begin m_faultAt : Int32) (m_farm m_pig m_begun m_first m_weight m_salted m_heat m_isBad m_isSold m_sealedFeed m_hook m_should m_on m_warmth m_damp m_isOpen m_fFarm m_fFrom m_fWhat m_fTold m_rule m_draft m_tape m_five m_those : Nat → Int32) (Q : Int32 → Int32 → Prop) : Array Value → State → Outcome → State → Prop := va_Qi (fun (r : Int32) (u : Int32) => Q r u) (fun u t => kB dC dI A (wM ad cB cI cZ cL u m_today m_legs m_feeds m_taped m_point m_end m_begin m_faultAt m_farm m_pig m_begun m_first m_weight m_salted m_heat m_isBad m_isSold m_sealedFeed m_hook m_should m_on m_warmth m_damp m_isOpen m_fFarm m_fFrom m_fWhat m_fTold m_rule m_draft m_tape m_five m_those) (kTy cB cI cZ cL) t) A
set_option maxHeartbeats 4000000 in
set_option maxRecDepth 100000 in
theorem c_M_X8_on (l : Launch) (dC : Nat → ClassId) (dI : Nat → Nat → Nat) (ad : Nat → Nat) (cB cI cZ cL : ClassId) (A : Nat → Prop) (m_thrown m_today m_legs m_feeds m_taped m_point m_end m_begin m_faultAt : Int32) (m_farm m_pig m_begun m_first m_weight m_salted m_heat m_isBad m_isSold m_sealedFeed m_hook m_should m_on m_warmth m_damp m_isOpen m_fFarm m_fFrom m_fWhat m_fTold m_rule m_draft m_tape m_five m_those : Nat → Int32) (p0 : Int32) (p1 : Int32)  (Q : Int32 → Int32 → Prop) (h : wp_M_X8_on m_on Q m_thrown p0 p1) : Met l yX8_on wsX8_on rm_M_X8_on (va_Pc [.ref (ad 0), .int p0, .int p1] (kC dC dI ad A (wM ad cB cI cZ cL m_thrown m_today m_legs m_feeds m_taped m_point m_end m_begin m_faultAt m_farm m_pig m_begun m_first m_weight m_salted m_heat m_isBad m_isSold m_sealedFeed m_hook m_should m_on m_warmth m_damp m_isOpen m_fFarm m_fFrom m_fWhat m_fTold m_rule m_draft m_tape m_five m_those) (kTy cB cI cZ cL))) (pq_M_X8_on dC dI ad cB cI cZ cL A m_thrown m_today m_legs m_feeds m_taped m_point m_end m_begin m_faultAt m_farm m_pig m_begun m_first m_weight m_salted m_heat m_isBad m_isSold m_sealedFeed m_hook m_should m_on m_warmth m_damp m_isOpen m_fFarm m_fFrom m_fWhat m_fTold m_rule m_draft m_tape m_five m_those Q) 0 0 A := by
  refine Met.ofW (cc := cX8_on) (maxL := 3) (ret := (some .int)) (by decide) rfl ?_
  intro p e s m args below meth c s₁ B hml hv
  obtain ⟨rfl, hA, hP, hK, hD, hE⟩ := hv
  have hx := B.exec
  have hb := B.bytes
  have hr := B.returns
  have hts := atoms_spec (ws := wsX8_on) B.pre
  have hown : s.vm.findClass RX8 = some m.cls := findClass_of_methodNamed B.named
  have hlocks := B.notSynchronized
  have hS : va_S A s.heap s.heap [] := va_S.rf
  have hk_0 := hts (.fieldLink RX8 1 "HamCellarModel" "thrown" "I") (by decide +kernel)
  have hk_1 : ∀ w ∈ wsX80, w ∈ wsX8_on := by decide +kernel
  have hk_2 := hts (.fieldLink RX8 51 "HamCellarModel" "on" "[I") (by decide +kernel)
  have hl := lv_entry ([.ref (ad 0), .int p0, .int p1]) (n := 3) (Nat.le_of_ble_eq_true rfl)
  rw [lg_entry_eq]
  generalize (lg_sl ([.ref (ad 0), .int p0, .int p1]) ++ List.replicate (3 - (lg_sl ([.ref (ad 0), .int p0, .int p1])).length) Slot.unset).toArray = ls at hl ⊢
  have hl : lv_has ls 3 [(0, .ref (ad 0)), (1, .int p0), (2, .int p1)] := hl
  unfold wp_M_X8_on at h
  refine lv_aload_n hx hb dX8_on_0 rfl (lv_at hl 0 rfl) ?_
  refine lv_iconst (v := 0) hx hb dX8_on_1 (by decide) ?_
  refine va_put (D := (dC, dI)) (ci := 8) (v := .int 0) (ty := .int) (C := RX8) (T := TX8) (N := 34) hx hb hts hk_1 tyX8 tyX8_ok nmX8 hown hK hP hD hS 0 wM_g0 rfl 0 (by decide) hk_0 (fun _ h9 => h9) rfl (by decide +kernel) rfl rfl (Nat.le_of_ble_eq_true rfl) dX8_on_2 (fun H locs hP2 hD2 hS => ?_)
  have hP : va_P (dC, dI) vwCl (wM ad cB cI cZ cL 0 m_today m_legs m_feeds m_taped m_point m_end m_begin m_faultAt m_farm m_pig m_begun m_first m_weight m_salted m_heat m_isBad m_isSold m_sealedFeed m_hook m_should m_on m_warmth m_damp m_isOpen m_fFarm m_fFrom m_fWhat m_fTold m_rule m_draft m_tape m_five m_those) H := hP_eq (wM_p_m_thrown) hP2
  have hD : va_D A (wM ad cB cI cZ cL 0 m_today m_legs m_feeds m_taped m_point m_end m_begin m_faultAt m_farm m_pig m_begun m_first m_weight m_salted m_heat m_isBad m_isSold m_sealedFeed m_hook m_should m_on m_warmth m_damp m_isOpen m_fFarm m_fFrom m_fWhat m_fTold m_rule m_draft m_tape m_five m_those) := hD_eq (wM_p_m_thrown) hD2
  refine lv_aload_n hx hb dX8_on_5 rfl (lv_at hl 0 rfl) ?_
  refine lv_iload_n hx hb dX8_on_6 rfl (lv_at hl 1 rfl) ?_
  refine lv_iload_n hx hb dX8_on_7 rfl (lv_at hl 2 rfl) ?_
  refine va_calli (va_runS (As := [.int p0, .int p1]) (rest := [.ref (ad 0)]) ⟨hx, hb, hml, hown, hts⟩ (c_M_X8_noHook l dC dI ad cB cI cZ cL A 0 m_today m_legs m_feeds m_taped m_point m_end m_begin m_faultAt m_farm m_pig m_begun m_first m_weight m_salted m_heat m_isBad m_isSold m_sealedFeed m_hook m_should m_on m_warmth m_damp m_isOpen m_fFarm m_fFrom m_fWhat m_fTold m_rule m_draft m_tape m_five m_those p0 p1 _ h) (va_cwS 2 hts gX8_on_X8_noHook rfl rfl rfl (by decide +kernel) ⟨(Nat.le_of_ble_eq_true rfl), (Nat.le_of_ble_eq_true rfl)⟩) ⟨kC_blind, fun U hU hW => ⟨rfl, kC_go hA hS hP hK hD hE U hU hW⟩⟩ rfl rfl hl.1 rfl (lv_room (Nat.le_of_ble_eq_true rfl)) dX8_on_8 ⟨(Nat.le_of_ble_eq_true rfl), (Nat.le_of_ble_eq_true rfl)⟩) hS (fun q _ h => h) (fun q h => h) (fun r_1 u t H locs ht hvm hw hB hz1 hk1 hS => ?_)
  have h := hw
  try dsimp only at h
  have hP : va_P (dC, dI) vwCl (wM ad cB cI cZ cL 0 m_today m_legs m_feeds m_taped m_point m_end m_begin m_faultAt m_farm m_pig m_begun m_first m_weight m_salted m_heat m_isBad m_isSold m_sealedFeed m_hook m_should m_on m_warmth m_damp m_isOpen m_fFarm m_fFrom m_fWhat m_fTold m_rule m_draft m_tape m_five m_those) H := by rw [← ht]; exact hB.1
  have hD : va_D A (wM ad cB cI cZ cL 0 m_today m_legs m_feeds m_taped m_point m_end m_begin m_faultAt m_farm m_pig m_begun m_first m_weight m_salted m_heat m_isBad m_isSold m_sealedFeed m_hook m_should m_on m_warmth m_damp m_isOpen m_fFarm m_fFrom m_fWhat m_fTold m_rule m_draft m_tape m_five m_those) := hB.2.2
  refine lv_iconst (v := 1) hx hb dX8_on_11 (by decide) ?_
  refine va_calli (va_runV (As := [.int r_1, .int 1]) (rest := []) ⟨hx, hb, hml, hown, hts⟩ (c_M_X8_throwsIf l dC dI ad cB cI cZ cL A 0 m_today m_legs m_feeds m_taped m_point m_end m_begin m_faultAt m_farm m_pig m_begun m_first m_weight m_salted m_heat m_isBad m_isSold m_sealedFeed m_hook m_should m_on m_warmth m_damp m_isOpen m_fFarm m_fFrom m_fWhat m_fTold m_rule m_draft m_tape m_five m_those r_1 1 _ h) (cwV 2 hts gX8_on_X8_throwsIf rfl rfl rfl (by decide +kernel) ⟨(Nat.le_of_ble_eq_true rfl), (Nat.le_of_ble_eq_true rfl)⟩) ⟨kC_blind, va_recv hK hP (ci := 8) (q0 := 0) rfl wM_g0, fun U hU hW => ⟨rfl, kC_go hA hS hP hK hD hE U hU hW⟩⟩ rfl rfl hl.1 rfl (lv_room (Nat.le_of_ble_eq_true rfl)) dX8_on_12 ⟨(Nat.le_of_ble_eq_true rfl), (Nat.le_of_ble_eq_true rfl)⟩) hS (fun q _ h => h) (fun q h => h) (fun r_2 u t H locs ht hvm hw hB hz1 hk1 hS => ?_)
  obtain ⟨m_thrown_2, rfl⟩ : ∃ z, z = u := ⟨_, rfl⟩
  have h := hw
  try dsimp only at h
  have hP : va_P (dC, dI) vwCl (wM ad cB cI cZ cL m_thrown_2 m_today m_legs m_feeds m_taped m_point m_end m_begin m_faultAt m_farm m_pig m_begun m_first m_weight m_salted m_heat m_isBad m_isSold m_sealedFeed m_hook m_should m_on m_warmth m_damp m_isOpen m_fFarm m_fFrom m_fWhat m_fTold m_rule m_draft m_tape m_five m_those) H := by rw [← ht]; exact hB.1
  have hD : va_D A (wM ad cB cI cZ cL m_thrown_2 m_today m_legs m_feeds m_taped m_point m_end m_begin m_faultAt m_farm m_pig m_begun m_first m_weight m_salted m_heat m_isBad m_isSold m_sealedFeed m_hook m_should m_on m_warmth m_damp m_isOpen m_fFarm m_fFrom m_fWhat m_fTold m_rule m_draft m_tape m_five m_those) := hB.2.2
  refine lv_if_eq (tgt := 22) hx hb dX8_on_15 (by decide) (fun c_3 => ?_) (fun c_3 => ?_)
  · have h := h.1 c_3
    refine lv_aload_n hx hb dX8_on_22 rfl (lv_at hl 0 rfl) ?_
    refine va_get (D := (dC, dI)) (ci := 8) (v := .ref (ad 13)) (C := RX8) (T := TX8) (N := 34) hx hb hts hk_1 hown hK hP 0 wM_g0 rfl 15 (by decide) hk_2 (fun _ h9 => h9) rfl dX8_on_23 ?_
    refine lv_bipush (v := 10) hx hb dX8_on_26 (by decide) ?_
    refine lv_iload_n hx hb dX8_on_28 rfl (lv_at hl 1 rfl) ?_
    refine lv_imul hx hb dX8_on_29 ?_
    refine lv_iload_n hx hb dX8_on_30 rfl (lv_at hl 2 rfl) ?_
    refine lv_iadd hx hb dX8_on_31 ?_
    have hi_4 := h.1
    have h := h.2
    refine va_iald hx hb hK hP 13 1 wM_g13 rfl hi_4 dX8_on_32 ?_
    exact W.iret (v := m_on ((10 * p0) + p1).toNatClampNeg) hx hb hr (fun t ht hW => ⟨⟨m_on ((10 * p0) + p1).toNatClampNeg, (m_thrown_2), rfl, h, kB_mk hP hK hD ht hW.alike⟩, hS.F ht⟩) hS.2.2 dX8_on_33
  · have h := h.2 c_3
    refine lv_iconst (v := 0) hx hb dX8_on_18 (by decide) ?_
    refine lv_goto (tgt := 33) hx hb dX8_on_19 (by decide) ?_
    exact W.iret (v := 0) hx hb hr (fun t ht hW => ⟨⟨0, (m_thrown_2), rfl, h, kB_mk hP hK hD ht hW.alike⟩, hS.F ht⟩) hS.2.2 dX8_on_33
def bk_M_X8_should_91 (m_legs : Int32) (m_hook : Nat → Int32)  (Q : Int32 → Int32 → (Nat → Int32) → Prop) (K62 : Int32 → (Nat → Int32) → Int32 → Int32 → Int32 → Prop) (m_thrown : Int32) (m_should : Nat → Int32) (v1 : Int32) (v4 : Int32) (v5 : Int32) : Prop := K62 m_thrown m_should v1 v4 (v5 + 1)
def lp_M_X8_should_62 (m_legs : Int32) (m_hook : Nat → Int32)  (Q : Int32 → Int32 → (Nat → Int32) → Prop) : Nat → Int32 → (Nat → Int32) → Int32 → Int32 → Int32 → Prop
  | 0 => fun _ _ _ _ _ => False
  | n + 1 => fun m_thrown m_should v1 v4 v5 => ((m_legs ≤ v5 → (vp_in v1 60 ∧ (o01 1 ∧ Q 1 m_thrown (upd m_should v1.toNatClampNeg v4)))) ∧ (¬ (m_legs ≤ v5) → ((v5 = v1 → bk_M_X8_should_91 m_legs m_hook Q (lp_M_X8_should_62 m_legs m_hook Q n) m_thrown m_should v1 v4 v5) ∧ (¬ (v5 = v1) → (vp_in v5 60 ∧ ((¬ (m_should v5.toNatClampNeg) = v4 → bk_M_X8_should_91 m_legs m_hook Q (lp_M_X8_should_62 m_legs m_hook Q n) m_thrown m_should v1 v4 v5) ∧ ((m_should v5.toNatClampNeg) = v4 → (o01 0 ∧ Q 0 m_thrown m_should))))))))
def bk_M_X8_should_31 (m_legs : Int32) (m_hook : Nat → Int32)  (Q : Int32 → Int32 → (Nat → Int32) → Prop) (m_thrown : Int32) (m_should : Nat → Int32) (v1 : Int32) (v2 : Int32) (v3 : Int32) (k0 : Int32) : Prop := wp_M_X8_throwsIf (fun r_3 m_thrown_3 => ((¬ r_3 = 0 → (o01 0 ∧ Q 0 m_thrown_3 m_should)) ∧ (r_3 = 0 → (vp_in v1 60 ∧ ((10 ≤ (m_hook v1.toNatClampNeg) → (∃ n_12, lp_M_X8_should_62 m_legs m_hook Q n_12 m_thrown_3 m_should v1 ((10 * v2) + v3) 0)) ∧ (¬ (10 ≤ (m_hook v1.toNatClampNeg)) → (o01 0 ∧ Q 0 m_thrown_3 m_should))))))) m_thrown k0 1
def bk_M_X8_should_26 (m_legs : Int32) (m_hook : Nat → Int32)  (Q : Int32 → Int32 → (Nat → Int32) → Prop) (m_thrown : Int32) (m_should : Nat → Int32) (v1 : Int32) (v2 : Int32) (v3 : Int32) : Prop := bk_M_X8_should_31 m_legs m_hook Q m_thrown m_should v1 v2 v3 1
def wp_M_X8_should (m_legs : Int32) (m_hook : Nat → Int32) (Q : Int32 → Int32 → (Nat → Int32) → Prop) (m_thrown : Int32) (m_should : Nat → Int32) (p0 : Int32) (p1 : Int32) (p2 : Int32) : Prop := wp_M_X8_noLeg m_legs (fun r_1 => ((¬ r_1 = 0 → bk_M_X8_should_26 m_legs m_hook Q 0 m_should p0 p1 p2) ∧ (r_1 = 0 → ((p1 = 0 → bk_M_X8_should_26 m_legs m_hook Q 0 m_should p0 p1 p2) ∧ (¬ (p1 = 0) → wp_M_X8_noHook (fun r_14 => ((r_14 = 0 → bk_M_X8_should_31 m_legs m_hook Q 0 m_should p0 p1 p2 0) ∧ (¬ (r_14 = 0) → bk_M_X8_should_26 m_legs m_hook Q 0 m_should p0 p1 p2))) p1 p2))))) p0
def rm_M_X8_should : Room := { frames := 2, cells := 0, slots := 0, locals := 43 }
abbrev pq_M_X8_should (dC : Nat → ClassId) (dI : Nat → Nat → Nat) (ad : Nat → Nat) (cB cI cZ cL : ClassId) (A : Nat → Prop) (m_thrown m_today m_legs m_feeds m_taped m_point m_end m_begin m_faultAt : Int32) (m_farm m_pig m_begun m_first m_weight m_salted m_heat m_isBad m_isSold m_sealedFeed m_hook m_should m_on m_warmth m_damp m_isOpen m_fFarm m_fFrom m_fWhat m_fTold m_rule m_draft m_tape m_five m_those : Nat → Int32) (Q : Int32 → Int32 → (Nat → Int32) → Prop) : Array Value → State → Outcome → State → Prop := va_Qi (fun (r : Int32) (u : Int32 × (Nat → Int32)) => Q r u.1 u.2) (fun u t => kB dC dI A (wM ad cB cI cZ cL u.1 m_today m_legs m_feeds m_taped m_point m_end m_begin m_faultAt m_farm m_pig m_begun m_first m_weight m_salted m_heat m_isBad m_isSold m_sealedFeed m_hook u.2 m_on m_warmth m_damp m_isOpen m_fFarm m_fFrom m_fWhat m_fTold m_rule m_draft m_tape m_five m_those) (kTy cB cI cZ cL) t) A
set_option maxHeartbeats 4000000 in
set_option maxRecDepth 100000 in
theorem c_M_X8_should (l : Launch) (dC : Nat → ClassId) (dI : Nat → Nat → Nat) (ad : Nat → Nat) (cB cI cZ cL : ClassId) (A : Nat → Prop) (m_thrown m_today m_legs m_feeds m_taped m_point m_end m_begin m_faultAt : Int32) (m_farm m_pig m_begun m_first m_weight m_salted m_heat m_isBad m_isSold m_sealedFeed m_hook m_should m_on m_warmth m_damp m_isOpen m_fFarm m_fFrom m_fWhat m_fTold m_rule m_draft m_tape m_five m_those : Nat → Int32) (p0 : Int32) (p1 : Int32) (p2 : Int32)  (Q : Int32 → Int32 → (Nat → Int32) → Prop) (h : wp_M_X8_should m_legs m_hook Q m_thrown m_should p0 p1 p2) : Met l yX8_should wsX8_should rm_M_X8_should (va_Pc [.ref (ad 0), .int p0, .int p1, .int p2] (kC dC dI ad A (wM ad cB cI cZ cL m_thrown m_today m_legs m_feeds m_taped m_point m_end m_begin m_faultAt m_farm m_pig m_begun m_first m_weight m_salted m_heat m_isBad m_isSold m_sealedFeed m_hook m_should m_on m_warmth m_damp m_isOpen m_fFarm m_fFrom m_fWhat m_fTold m_rule m_draft m_tape m_five m_those) (kTy cB cI cZ cL))) (pq_M_X8_should dC dI ad cB cI cZ cL A m_thrown m_today m_legs m_feeds m_taped m_point m_end m_begin m_faultAt m_farm m_pig m_begun m_first m_weight m_salted m_heat m_isBad m_isSold m_sealedFeed m_hook m_should m_on m_warmth m_damp m_isOpen m_fFarm m_fFrom m_fWhat m_fTold m_rule m_draft m_tape m_five m_those Q) 0 0 A := by
  refine Met.ofW (cc := cX8_should) (maxL := 6) (ret := (some .boolean)) (by decide) rfl ?_
  intro p e s m args below meth c s₁ B hml hv
  obtain ⟨rfl, hA, hP, hK, hD, hE⟩ := hv
  have hx := B.exec
  have hb := B.bytes
  have hr := B.returns
  have hts := atoms_spec (ws := wsX8_should) B.pre
  have hown : s.vm.findClass RX8 = some m.cls := findClass_of_methodNamed B.named
  have hlocks := B.notSynchronized
  have hS : va_S A s.heap s.heap [] := va_S.rf
  have hk_0 := hts (.fieldLink RX8 1 "HamCellarModel" "thrown" "I") (by decide +kernel)
  have hk_1 : ∀ w ∈ wsX80, w ∈ wsX8_should := by decide +kernel
  have hk_2 := hts (.fieldLink RX8 45 "HamCellarModel" "hook" "[I") (by decide +kernel)
  have hk_3 := hts (.fieldLink RX8 94 "HamCellarModel" "legs" "I") (by decide +kernel)
  have hk_4 := hts (.fieldLink RX8 48 "HamCellarModel" "should" "[I") (by decide +kernel)
  have hbk_M_X8_should_91 : ∀ (K62 : Int32 → (Nat → Int32) → Int32 → Int32 → Int32 → Prop) (hK62 : ∀ (m_thrown : Int32) (m_should : Nat → Int32) (v1 : Int32) (v4 : Int32) (v5 : Int32) (H : Heap) (locs : List Loc) (ls : Array Slot), va_P (dC, dI) vwCl (wM ad cB cI cZ cL m_thrown m_today m_legs m_feeds m_taped m_point m_end m_begin m_faultAt m_farm m_pig m_begun m_first m_weight m_salted m_heat m_isBad m_isSold m_sealedFeed m_hook m_should m_on m_warmth m_damp m_isOpen m_fFarm m_fFrom m_fWhat m_fTold m_rule m_draft m_tape m_five m_those) H → va_D A (wM ad cB cI cZ cL m_thrown m_today m_legs m_feeds m_taped m_point m_end m_begin m_faultAt m_farm m_pig m_begun m_first m_weight m_salted m_heat m_isBad m_isSold m_sealedFeed m_hook m_should m_on m_warmth m_damp m_isOpen m_fFarm m_fFrom m_fWhat m_fTold m_rule m_draft m_tape m_five m_those) → va_S A s.heap H locs → lv_has ls 6 [(0, .ref (ad 0)), (1, .int v1), (4, .int v4), (5, .int v5)] → K62 m_thrown m_should v1 v4 v5 → W p l e (headSpec wsX8_should rm_M_X8_should).room s m ([.ref (ad 0), .int p0, .int p1, .int p2] : List Value).toArray below meth c H locs 0 0 (MQ below (pq_M_X8_should dC dI ad cB cI cZ cL A m_thrown m_today m_legs m_feeds m_taped m_point m_end m_begin m_faultAt m_farm m_pig m_begun m_first m_weight m_salted m_heat m_isBad m_isSold m_sealedFeed m_hook m_should m_on m_warmth m_damp m_isOpen m_fFarm m_fFrom m_fWhat m_fTold m_rule m_draft m_tape m_five m_those Q) ([.ref (ad 0), .int p0, .int p1, .int p2] : List Value).toArray s 0 0 A) (F0 m 62 ls [])) (m_thrown : Int32) (m_should : Nat → Int32) (v1 : Int32) (v4 : Int32) (v5 : Int32) (H : Heap) (locs : List Loc) (ls : Array Slot), va_P (dC, dI) vwCl (wM ad cB cI cZ cL m_thrown m_today m_legs m_feeds m_taped m_point m_end m_begin m_faultAt m_farm m_pig m_begun m_first m_weight m_salted m_heat m_isBad m_isSold m_sealedFeed m_hook m_should m_on m_warmth m_damp m_isOpen m_fFarm m_fFrom m_fWhat m_fTold m_rule m_draft m_tape m_five m_those) H → va_D A (wM ad cB cI cZ cL m_thrown m_today m_legs m_feeds m_taped m_point m_end m_begin m_faultAt m_farm m_pig m_begun m_first m_weight m_salted m_heat m_isBad m_isSold m_sealedFeed m_hook m_should m_on m_warmth m_damp m_isOpen m_fFarm m_fFrom m_fWhat m_fTold m_rule m_draft m_tape m_five m_those) → va_S A s.heap H locs → lv_has ls 6 [(0, .ref (ad 0)), (1, .int v1), (4, .int v4), (5, .int v5)] → bk_M_X8_should_91 m_legs m_hook Q K62 m_thrown m_should v1 v4 v5 → W p l e (headSpec wsX8_should rm_M_X8_should).room s m ([.ref (ad 0), .int p0, .int p1, .int p2] : List Value).toArray below meth c H locs 0 0 (MQ below (pq_M_X8_should dC dI ad cB cI cZ cL A m_thrown m_today m_legs m_feeds m_taped m_point m_end m_begin m_faultAt m_farm m_pig m_begun m_first m_weight m_salted m_heat m_isBad m_isSold m_sealedFeed m_hook m_should m_on m_warmth m_damp m_isOpen m_fFarm m_fFrom m_fWhat m_fTold m_rule m_draft m_tape m_five m_those Q) ([.ref (ad 0), .int p0, .int p1, .int p2] : List Value).toArray s 0 0 A) (F0 m 91 ls []) := by
    intro K62 hK62 m_thrown m_should v1 v4 v5 H locs ls hP hD hS hl h
    refine lv_iinc (v := v5 + 1) (lv' := [(5, .int (v5 + 1)), (0, .ref (ad 0)), (1, .int v1), (4, .int v4)]) hx hb dX8_should_91 hl (k := 3) rfl rfl (by decide) rfl (fun ls hl => ?_)
    refine lv_goto (tgt := 62) hx hb dX8_should_94 (by decide) ?_
    exact hK62 m_thrown m_should v1 v4 (v5 + 1) _ _ _ hP hD hS (lv_sub hl [1, 2, 3, 0] rfl) h
  have hlp_M_X8_should_62 : ∀ (n : Nat) (m_thrown : Int32) (m_should : Nat → Int32) (v1 : Int32) (v4 : Int32) (v5 : Int32) (H : Heap) (locs : List Loc) (ls : Array Slot), va_P (dC, dI) vwCl (wM ad cB cI cZ cL m_thrown m_today m_legs m_feeds m_taped m_point m_end m_begin m_faultAt m_farm m_pig m_begun m_first m_weight m_salted m_heat m_isBad m_isSold m_sealedFeed m_hook m_should m_on m_warmth m_damp m_isOpen m_fFarm m_fFrom m_fWhat m_fTold m_rule m_draft m_tape m_five m_those) H → va_D A (wM ad cB cI cZ cL m_thrown m_today m_legs m_feeds m_taped m_point m_end m_begin m_faultAt m_farm m_pig m_begun m_first m_weight m_salted m_heat m_isBad m_isSold m_sealedFeed m_hook m_should m_on m_warmth m_damp m_isOpen m_fFarm m_fFrom m_fWhat m_fTold m_rule m_draft m_tape m_five m_those) → va_S A s.heap H locs → lv_has ls 6 [(0, .ref (ad 0)), (1, .int v1), (4, .int v4), (5, .int v5)] → lp_M_X8_should_62 m_legs m_hook Q n m_thrown m_should v1 v4 v5 → W p l e (headSpec wsX8_should rm_M_X8_should).room s m ([.ref (ad 0), .int p0, .int p1, .int p2] : List Value).toArray below meth c H locs 0 0 (MQ below (pq_M_X8_should dC dI ad cB cI cZ cL A m_thrown m_today m_legs m_feeds m_taped m_point m_end m_begin m_faultAt m_farm m_pig m_begun m_first m_weight m_salted m_heat m_isBad m_isSold m_sealedFeed m_hook m_should m_on m_warmth m_damp m_isOpen m_fFarm m_fFrom m_fWhat m_fTold m_rule m_draft m_tape m_five m_those Q) ([.ref (ad 0), .int p0, .int p1, .int p2] : List Value).toArray s 0 0 A) (F0 m 62 ls []) := by
    intro n
    induction n with
    | zero => intro m_thrown m_should v1 v4 v5 H locs ls hP hD hS hl h; exact h.elim
    | succ n ih =>
      intro m_thrown m_should v1 v4 v5 H locs ls hP hD hS hl h
      refine lv_iload hx hb dX8_should_62 (lv_at hl 3 rfl) ?_
      refine lv_aload_n hx hb dX8_should_64 rfl (lv_at hl 0 rfl) ?_
      refine va_get (D := (dC, dI)) (ci := 8) (v := .int m_legs) (C := RX8) (T := TX8) (N := 34) hx hb hts hk_1 hown hK hP 0 wM_g0 rfl 14 (by decide) hk_3 (fun _ h9 => h9) rfl dX8_should_65 ?_
      refine lv_icmp_ge (tgt := 97) hx hb dX8_should_68 (by decide) (fun c_7 => ?_) (fun c_7 => ?_)
      · have h := h.1 c_7
        refine lv_aload_n hx hb dX8_should_97 rfl (lv_at hl 0 rfl) ?_
        refine va_get (D := (dC, dI)) (ci := 8) (v := .ref (ad 12)) (C := RX8) (T := TX8) (N := 34) hx hb hts hk_1 hown hK hP 0 wM_g0 rfl 13 (by decide) hk_4 (fun _ h9 => h9) rfl dX8_should_98 ?_
        refine lv_iload_n hx hb dX8_should_101 rfl (lv_at hl 1 rfl) ?_
        refine lv_iload hx hb dX8_should_102 (lv_at hl 2 rfl) ?_
        have hi_8 := h.1
        have h := h.2
        refine va_iast hx hb hK hP hD hS 12 1 wM_g12 rfl hi_8 dX8_should_104 (fun H locs hP2 hD2 hS => ?_)
        have hP : va_P (dC, dI) vwCl (wM ad cB cI cZ cL m_thrown m_today m_legs m_feeds m_taped m_point m_end m_begin m_faultAt m_farm m_pig m_begun m_first m_weight m_salted m_heat m_isBad m_isSold m_sealedFeed m_hook (upd m_should v1.toNatClampNeg v4) m_on m_warmth m_damp m_isOpen m_fFarm m_fFrom m_fWhat m_fTold m_rule m_draft m_tape m_five m_those) H := hP_eq (wM_p_m_should) hP2
        have hD : va_D A (wM ad cB cI cZ cL m_thrown m_today m_legs m_feeds m_taped m_point m_end m_begin m_faultAt m_farm m_pig m_begun m_first m_weight m_salted m_heat m_isBad m_isSold m_sealedFeed m_hook (upd m_should v1.toNatClampNeg v4) m_on m_warmth m_damp m_isOpen m_fFarm m_fFrom m_fWhat m_fTold m_rule m_draft m_tape m_five m_those) := hD_eq (wM_p_m_should) hD2
        refine lv_iconst (v := 1) hx hb dX8_should_105 (by decide) ?_
        exact W.zret (v := 1) (ty := .boolean) hx hb hr (z01 h.1) (fun t ht hW => ⟨⟨1, (m_thrown, upd m_should v1.toNatClampNeg v4), rfl, h.2, kB_mk hP hK hD ht hW.alike⟩, hS.F ht⟩) hS.2.2 dX8_should_106
      · have h := h.2 c_7
        refine lv_iload hx hb dX8_should_71 (lv_at hl 3 rfl) ?_
        refine lv_iload_n hx hb dX8_should_73 rfl (lv_at hl 1 rfl) ?_
        refine lv_icmp_eq (tgt := 91) hx hb dX8_should_74 (by decide) (fun c_9 => ?_) (fun c_9 => ?_)
        · have h := h.1 c_9
          exact hbk_M_X8_should_91 (lp_M_X8_should_62 m_legs m_hook Q n) ih m_thrown m_should v1 v4 v5 _ _ _ hP hD hS (lv_sub hl [0, 1, 2, 3] rfl) h
        · have h := h.2 c_9
          refine lv_aload_n hx hb dX8_should_77 rfl (lv_at hl 0 rfl) ?_
          refine va_get (D := (dC, dI)) (ci := 8) (v := .ref (ad 12)) (C := RX8) (T := TX8) (N := 34) hx hb hts hk_1 hown hK hP 0 wM_g0 rfl 13 (by decide) hk_4 (fun _ h9 => h9) rfl dX8_should_78 ?_
          refine lv_iload hx hb dX8_should_81 (lv_at hl 3 rfl) ?_
          have hi_10 := h.1
          have h := h.2
          refine va_iald hx hb hK hP 12 1 wM_g12 rfl hi_10 dX8_should_83 ?_
          refine lv_iload hx hb dX8_should_84 (lv_at hl 2 rfl) ?_
          refine lv_icmp_ne (tgt := 91) hx hb dX8_should_86 (by decide) (fun c_11 => ?_) (fun c_11 => ?_)
          · have h := h.1 c_11
            exact hbk_M_X8_should_91 (lp_M_X8_should_62 m_legs m_hook Q n) ih m_thrown m_should v1 v4 v5 _ _ _ hP hD hS (lv_sub hl [0, 1, 2, 3] rfl) h
          · have h := h.2 c_11
            refine lv_iconst (v := 0) hx hb dX8_should_89 (by decide) ?_
            exact W.zret (v := 0) (ty := .boolean) hx hb hr (z01 h.1) (fun t ht hW => ⟨⟨0, (m_thrown, m_should), rfl, h.2, kB_mk hP hK hD ht hW.alike⟩, hS.F ht⟩) hS.2.2 dX8_should_90
  have hbk_M_X8_should_31 : ∀ (m_thrown : Int32) (m_should : Nat → Int32) (v1 : Int32) (v2 : Int32) (v3 : Int32) (k0 : Int32) (H : Heap) (locs : List Loc) (ls : Array Slot), va_P (dC, dI) vwCl (wM ad cB cI cZ cL m_thrown m_today m_legs m_feeds m_taped m_point m_end m_begin m_faultAt m_farm m_pig m_begun m_first m_weight m_salted m_heat m_isBad m_isSold m_sealedFeed m_hook m_should m_on m_warmth m_damp m_isOpen m_fFarm m_fFrom m_fWhat m_fTold m_rule m_draft m_tape m_five m_those) H → va_D A (wM ad cB cI cZ cL m_thrown m_today m_legs m_feeds m_taped m_point m_end m_begin m_faultAt m_farm m_pig m_begun m_first m_weight m_salted m_heat m_isBad m_isSold m_sealedFeed m_hook m_should m_on m_warmth m_damp m_isOpen m_fFarm m_fFrom m_fWhat m_fTold m_rule m_draft m_tape m_five m_those) → va_S A s.heap H locs → lv_has ls 6 [(0, .ref (ad 0)), (1, .int v1), (2, .int v2), (3, .int v3)] → bk_M_X8_should_31 m_legs m_hook Q m_thrown m_should v1 v2 v3 k0 → W p l e (headSpec wsX8_should rm_M_X8_should).room s m ([.ref (ad 0), .int p0, .int p1, .int p2] : List Value).toArray below meth c H locs 0 0 (MQ below (pq_M_X8_should dC dI ad cB cI cZ cL A m_thrown m_today m_legs m_feeds m_taped m_point m_end m_begin m_faultAt m_farm m_pig m_begun m_first m_weight m_salted m_heat m_isBad m_isSold m_sealedFeed m_hook m_should m_on m_warmth m_damp m_isOpen m_fFarm m_fFrom m_fWhat m_fTold m_rule m_draft m_tape m_five m_those Q) ([.ref (ad 0), .int p0, .int p1, .int p2] : List Value).toArray s 0 0 A) (F0 m 31 ls [.int k0, .ref (ad 0)]) := by
    intro m_thrown m_should v1 v2 v3 k0 H locs ls hP hD hS hl h
    have h : wp_M_X8_throwsIf (fun r_3 m_thrown_3 => ((¬ r_3 = 0 → (o01 0 ∧ Q 0 m_thrown_3 m_should)) ∧ (r_3 = 0 → (vp_in v1 60 ∧ ((10 ≤ (m_hook v1.toNatClampNeg) → (∃ n_12, lp_M_X8_should_62 m_legs m_hook Q n_12 m_thrown_3 m_should v1 ((10 * v2) + v3) 0)) ∧ (¬ (10 ≤ (m_hook v1.toNatClampNeg)) → (o01 0 ∧ Q 0 m_thrown_3 m_should))))))) m_thrown k0 1 := h
    refine lv_iconst (v := 1) hx hb dX8_should_31 (by decide) ?_
    refine va_calli (va_runV (As := [.int k0, .int 1]) (rest := []) ⟨hx, hb, hml, hown, hts⟩ (c_M_X8_throwsIf l dC dI ad cB cI cZ cL A m_thrown m_today m_legs m_feeds m_taped m_point m_end m_begin m_faultAt m_farm m_pig m_begun m_first m_weight m_salted m_heat m_isBad m_isSold m_sealedFeed m_hook m_should m_on m_warmth m_damp m_isOpen m_fFarm m_fFrom m_fWhat m_fTold m_rule m_draft m_tape m_five m_those k0 1 _ h) (cwV 2 hts gX8_should_X8_throwsIf rfl rfl rfl (by decide +kernel) ⟨(Nat.le_of_ble_eq_true rfl), (Nat.le_of_ble_eq_true rfl)⟩) ⟨kC_blind, va_recv hK hP (ci := 8) (q0 := 0) rfl wM_g0, fun U hU hW => ⟨rfl, kC_go hA hS hP hK hD hE U hU hW⟩⟩ rfl rfl hl.1 rfl (lv_room (Nat.le_of_ble_eq_true rfl)) dX8_should_32 ⟨(Nat.le_of_ble_eq_true rfl), (Nat.le_of_ble_eq_true rfl)⟩) hS (fun q _ h => h) (fun q h => h) (fun r_3 u t H locs ht hvm hw hB hz1 hk1 hS => ?_)
    obtain ⟨m_thrown_3, rfl⟩ : ∃ z, z = u := ⟨_, rfl⟩
    have h := hw
    try dsimp only at h
    have hP : va_P (dC, dI) vwCl (wM ad cB cI cZ cL m_thrown_3 m_today m_legs m_feeds m_taped m_point m_end m_begin m_faultAt m_farm m_pig m_begun m_first m_weight m_salted m_heat m_isBad m_isSold m_sealedFeed m_hook m_should m_on m_warmth m_damp m_isOpen m_fFarm m_fFrom m_fWhat m_fTold m_rule m_draft m_tape m_five m_those) H := by rw [← ht]; exact hB.1
    have hD : va_D A (wM ad cB cI cZ cL m_thrown_3 m_today m_legs m_feeds m_taped m_point m_end m_begin m_faultAt m_farm m_pig m_begun m_first m_weight m_salted m_heat m_isBad m_isSold m_sealedFeed m_hook m_should m_on m_warmth m_damp m_isOpen m_fFarm m_fFrom m_fWhat m_fTold m_rule m_draft m_tape m_five m_those) := hB.2.2
    refine lv_if_ne (tgt := 49) hx hb dX8_should_35 (by decide) (fun c_4 => ?_) (fun c_4 => ?_)
    · have h := h.1 c_4
      refine lv_iconst (v := 0) hx hb dX8_should_49 (by decide) ?_
      exact W.zret (v := 0) (ty := .boolean) hx hb hr (z01 h.1) (fun t ht hW => ⟨⟨0, (m_thrown_3, m_should), rfl, h.2, kB_mk hP hK hD ht hW.alike⟩, hS.F ht⟩) hS.2.2 dX8_should_50
    · have h := h.2 c_4
      refine lv_aload_n hx hb dX8_should_38 rfl (lv_at hl 0 rfl) ?_
      refine va_get (D := (dC, dI)) (ci := 8) (v := .ref (ad 11)) (C := RX8) (T := TX8) (N := 34) hx hb hts hk_1 hown hK hP 0 wM_g0 rfl 12 (by decide) hk_2 (fun _ h9 => h9) rfl dX8_should_39 ?_
      refine lv_iload_n hx hb dX8_should_42 rfl (lv_at hl 1 rfl) ?_
      have hi_5 := h.1
      have h := h.2
      refine va_iald hx hb hK hP 11 1 wM_g11 rfl hi_5 dX8_should_43 ?_
      refine lv_bipush (v := 10) hx hb dX8_should_44 (by decide) ?_
      refine lv_icmp_ge (tgt := 51) hx hb dX8_should_46 (by decide) (fun c_6 => ?_) (fun c_6 => ?_)
      · have h := h.1 c_6
        refine lv_bipush (v := 10) hx hb dX8_should_51 (by decide) ?_
        refine lv_iload_n hx hb dX8_should_53 rfl (lv_at hl 2 rfl) ?_
        refine lv_imul hx hb dX8_should_54 ?_
        refine lv_iload_n hx hb dX8_should_55 rfl (lv_at hl 3 rfl) ?_
        refine lv_iadd hx hb dX8_should_56 ?_
        refine lv_istore (lv' := [(4, .int ((10 * v2) + v3)), (0, .ref (ad 0)), (1, .int v1), (2, .int v2), (3, .int v3)]) hx hb dX8_should_57 hl (by decide) rfl (fun ls hl => ?_)
        refine lv_iconst (v := 0) hx hb dX8_should_59 (by decide) ?_
        refine lv_istore (lv' := [(5, .int 0), (4, .int ((10 * v2) + v3)), (0, .ref (ad 0)), (1, .int v1), (2, .int v2), (3, .int v3)]) hx hb dX8_should_60 hl (by decide) rfl (fun ls hl => ?_)
        obtain ⟨n_12, h⟩ := h
        exact hlp_M_X8_should_62 n_12 m_thrown_3 m_should v1 ((10 * v2) + v3) 0 _ _ _ hP hD hS (lv_sub hl [2, 3, 1, 0] rfl) h
      · have h := h.2 c_6
        refine lv_iconst (v := 0) hx hb dX8_should_49 (by decide) ?_
        exact W.zret (v := 0) (ty := .boolean) hx hb hr (z01 h.1) (fun t ht hW => ⟨⟨0, (m_thrown_3, m_should), rfl, h.2, kB_mk hP hK hD ht hW.alike⟩, hS.F ht⟩) hS.2.2 dX8_should_50
  have hbk_M_X8_should_26 : ∀ (m_thrown : Int32) (m_should : Nat → Int32) (v1 : Int32) (v2 : Int32) (v3 : Int32) (H : Heap) (locs : List Loc) (ls : Array Slot), va_P (dC, dI) vwCl (wM ad cB cI cZ cL m_thrown m_today m_legs m_feeds m_taped m_point m_end m_begin m_faultAt m_farm m_pig m_begun m_first m_weight m_salted m_heat m_isBad m_isSold m_sealedFeed m_hook m_should m_on m_warmth m_damp m_isOpen m_fFarm m_fFrom m_fWhat m_fTold m_rule m_draft m_tape m_five m_those) H → va_D A (wM ad cB cI cZ cL m_thrown m_today m_legs m_feeds m_taped m_point m_end m_begin m_faultAt m_farm m_pig m_begun m_first m_weight m_salted m_heat m_isBad m_isSold m_sealedFeed m_hook m_should m_on m_warmth m_damp m_isOpen m_fFarm m_fFrom m_fWhat m_fTold m_rule m_draft m_tape m_five m_those) → va_S A s.heap H locs → lv_has ls 6 [(0, .ref (ad 0)), (1, .int v1), (2, .int v2), (3, .int v3)] → bk_M_X8_should_26 m_legs m_hook Q m_thrown m_should v1 v2 v3 → W p l e (headSpec wsX8_should rm_M_X8_should).room s m ([.ref (ad 0), .int p0, .int p1, .int p2] : List Value).toArray below meth c H locs 0 0 (MQ below (pq_M_X8_should dC dI ad cB cI cZ cL A m_thrown m_today m_legs m_feeds m_taped m_point m_end m_begin m_faultAt m_farm m_pig m_begun m_first m_weight m_salted m_heat m_isBad m_isSold m_sealedFeed m_hook m_should m_on m_warmth m_damp m_isOpen m_fFarm m_fFrom m_fWhat m_fTold m_rule m_draft m_tape m_five m_those Q) ([.ref (ad 0), .int p0, .int p1, .int p2] : List Value).toArray s 0 0 A) (F0 m 26 ls [.ref (ad 0)]) := by
    intro m_thrown m_should v1 v2 v3 H locs ls hP hD hS hl h
    refine lv_iconst (v := 1) hx hb dX8_should_26 (by decide) ?_
    refine lv_goto (tgt := 31) hx hb dX8_should_27 (by decide) ?_
    exact hbk_M_X8_should_31 m_thrown m_should v1 v2 v3 1 _ _ _ hP hD hS (lv_sub hl [0, 1, 2, 3] rfl) h
  have hl := lv_entry ([.ref (ad 0), .int p0, .int p1, .int p2]) (n := 6) (Nat.le_of_ble_eq_true rfl)
  rw [lg_entry_eq]
  generalize (lg_sl ([.ref (ad 0), .int p0, .int p1, .int p2]) ++ List.replicate (6 - (lg_sl ([.ref (ad 0), .int p0, .int p1, .int p2])).length) Slot.unset).toArray = ls at hl ⊢
  have hl : lv_has ls 6 [(0, .ref (ad 0)), (1, .int p0), (2, .int p1), (3, .int p2)] := hl
  unfold wp_M_X8_should at h
  refine lv_aload_n hx hb dX8_should_0 rfl (lv_at hl 0 rfl) ?_
  refine lv_iconst (v := 0) hx hb dX8_should_1 (by decide) ?_
  refine va_put (D := (dC, dI)) (ci := 8) (v := .int 0) (ty := .int) (C := RX8) (T := TX8) (N := 34) hx hb hts hk_1 tyX8 tyX8_ok nmX8 hown hK hP hD hS 0 wM_g0 rfl 0 (by decide) hk_0 (fun _ h9 => h9) rfl (by decide +kernel) rfl rfl (Nat.le_of_ble_eq_true rfl) dX8_should_2 (fun H locs hP2 hD2 hS => ?_)
  have hP : va_P (dC, dI) vwCl (wM ad cB cI cZ cL 0 m_today m_legs m_feeds m_taped m_point m_end m_begin m_faultAt m_farm m_pig m_begun m_first m_weight m_salted m_heat m_isBad m_isSold m_sealedFeed m_hook m_should m_on m_warmth m_damp m_isOpen m_fFarm m_fFrom m_fWhat m_fTold m_rule m_draft m_tape m_five m_those) H := hP_eq (wM_p_m_thrown) hP2
  have hD : va_D A (wM ad cB cI cZ cL 0 m_today m_legs m_feeds m_taped m_point m_end m_begin m_faultAt m_farm m_pig m_begun m_first m_weight m_salted m_heat m_isBad m_isSold m_sealedFeed m_hook m_should m_on m_warmth m_damp m_isOpen m_fFarm m_fFrom m_fWhat m_fTold m_rule m_draft m_tape m_five m_those) := hD_eq (wM_p_m_thrown) hD2
  refine lv_aload_n hx hb dX8_should_5 rfl (lv_at hl 0 rfl) ?_
  refine lv_aload_n hx hb dX8_should_6 rfl (lv_at hl 0 rfl) ?_
  refine lv_iload_n hx hb dX8_should_7 rfl (lv_at hl 1 rfl) ?_
  refine va_calli (va_runV (As := [.int p0]) (rest := [.ref (ad 0)]) ⟨hx, hb, hml, hown, hts⟩ (c_M_X8_noLeg l dC dI ad cB cI cZ cL A 0 m_today m_legs m_feeds m_taped m_point m_end m_begin m_faultAt m_farm m_pig m_begun m_first m_weight m_salted m_heat m_isBad m_isSold m_sealedFeed m_hook m_should m_on m_warmth m_damp m_isOpen m_fFarm m_fFrom m_fWhat m_fTold m_rule m_draft m_tape m_five m_those p0 _ h) (cwV 1 hts gX8_should_X8_noLeg rfl rfl rfl (by decide +kernel) ⟨(Nat.le_of_ble_eq_true rfl), (Nat.le_of_ble_eq_true rfl)⟩) ⟨kC_blind, va_recv hK hP (ci := 8) (q0 := 0) rfl wM_g0, fun U hU hW => ⟨rfl, kC_go hA hS hP hK hD hE U hU hW⟩⟩ rfl rfl hl.1 rfl (lv_room (Nat.le_of_ble_eq_true rfl)) dX8_should_8 ⟨(Nat.le_of_ble_eq_true rfl), (Nat.le_of_ble_eq_true rfl)⟩) hS (fun q _ h => h) (fun q h => h) (fun r_1 u t H locs ht hvm hw hB hz1 hk1 hS => ?_)
  have h := hw
  try dsimp only at h
  have hP : va_P (dC, dI) vwCl (wM ad cB cI cZ cL 0 m_today m_legs m_feeds m_taped m_point m_end m_begin m_faultAt m_farm m_pig m_begun m_first m_weight m_salted m_heat m_isBad m_isSold m_sealedFeed m_hook m_should m_on m_warmth m_damp m_isOpen m_fFarm m_fFrom m_fWhat m_fTold m_rule m_draft m_tape m_five m_those) H := by rw [← ht]; exact hB.1
  have hD : va_D A (wM ad cB cI cZ cL 0 m_today m_legs m_feeds m_taped m_point m_end m_begin m_faultAt m_farm m_pig m_begun m_first m_weight m_salted m_heat m_isBad m_isSold m_sealedFeed m_hook m_should m_on m_warmth m_damp m_isOpen m_fFarm m_fFrom m_fWhat m_fTold m_rule m_draft m_tape m_five m_those) := hB.2.2
  refine lv_if_ne (tgt := 26) hx hb dX8_should_11 (by decide) (fun c_2 => ?_) (fun c_2 => ?_)
  · have h := h.1 c_2
    exact hbk_M_X8_should_26 0 m_should p0 p1 p2 _ _ _ hP hD hS (lv_sub hl [0, 1, 2, 3] rfl) h
  · have h := h.2 c_2
    refine lv_iload_n hx hb dX8_should_14 rfl (lv_at hl 2 rfl) ?_
    refine lv_if_eq (tgt := 26) hx hb dX8_should_15 (by decide) (fun c_13 => ?_) (fun c_13 => ?_)
    · have h := h.1 c_13
      exact hbk_M_X8_should_26 0 m_should p0 p1 p2 _ _ _ hP hD hS (lv_sub hl [0, 1, 2, 3] rfl) h
    · have h := h.2 c_13
      refine lv_iload_n hx hb dX8_should_18 rfl (lv_at hl 2 rfl) ?_
      refine lv_iload_n hx hb dX8_should_19 rfl (lv_at hl 3 rfl) ?_
      refine va_calli (va_runS (As := [.int p1, .int p2]) (rest := [.ref (ad 0)]) ⟨hx, hb, hml, hown, hts⟩ (c_M_X8_noHook l dC dI ad cB cI cZ cL A 0 m_today m_legs m_feeds m_taped m_point m_end m_begin m_faultAt m_farm m_pig m_begun m_first m_weight m_salted m_heat m_isBad m_isSold m_sealedFeed m_hook m_should m_on m_warmth m_damp m_isOpen m_fFarm m_fFrom m_fWhat m_fTold m_rule m_draft m_tape m_five m_those p1 p2 _ h) (va_cwS 2 hts gX8_should_X8_noHook rfl rfl rfl (by decide +kernel) ⟨(Nat.le_of_ble_eq_true rfl), (Nat.le_of_ble_eq_true rfl)⟩) ⟨kC_blind, fun U hU hW => ⟨rfl, kC_go hA hS hP hK hD hE U hU hW⟩⟩ rfl rfl hl.1 rfl (lv_room (Nat.le_of_ble_eq_true rfl)) dX8_should_20 ⟨(Nat.le_of_ble_eq_true rfl), (Nat.le_of_ble_eq_true rfl)⟩) hS (fun q _ h => h) (fun q h => h) (fun r_14 u t H locs ht hvm hw hB hz1 hk1 hS => ?_)
      have h := hw
      try dsimp only at h
      have hP : va_P (dC, dI) vwCl (wM ad cB cI cZ cL 0 m_today m_legs m_feeds m_taped m_point m_end m_begin m_faultAt m_farm m_pig m_begun m_first m_weight m_salted m_heat m_isBad m_isSold m_sealedFeed m_hook m_should m_on m_warmth m_damp m_isOpen m_fFarm m_fFrom m_fWhat m_fTold m_rule m_draft m_tape m_five m_those) H := by rw [← ht]; exact hB.1
      have hD : va_D A (wM ad cB cI cZ cL 0 m_today m_legs m_feeds m_taped m_point m_end m_begin m_faultAt m_farm m_pig m_begun m_first m_weight m_salted m_heat m_isBad m_isSold m_sealedFeed m_hook m_should m_on m_warmth m_damp m_isOpen m_fFarm m_fFrom m_fWhat m_fTold m_rule m_draft m_tape m_five m_those) := hB.2.2
      refine lv_if_eq (tgt := 30) hx hb dX8_should_23 (by decide) (fun c_15 => ?_) (fun c_15 => ?_)
      · have h := h.1 c_15
        refine lv_iconst (v := 0) hx hb dX8_should_30 (by decide) ?_
        exact hbk_M_X8_should_31 0 m_should p0 p1 p2 0 _ _ _ hP hD hS (lv_sub hl [0, 1, 2, 3] rfl) h
      · have h := h.2 c_15
        exact hbk_M_X8_should_26 0 m_should p0 p1 p2 _ _ _ hP hD hS (lv_sub hl [0, 1, 2, 3] rfl) h
def wp_M_X8_isAsked (m_hook : Nat → Int32) (m_should : Nat → Int32) (Q : Int32 → Prop) (p0 : Int32) : Prop := (vp_in p0 60 ∧ (((m_should p0.toNatClampNeg) < 0 → (o01 0 ∧ Q 0 )) ∧ (¬ ((m_should p0.toNatClampNeg) < 0) → (vp_in p0 60 ∧ (((m_hook p0.toNatClampNeg) < 10 → (o01 0 ∧ Q 0 )) ∧ (¬ ((m_hook p0.toNatClampNeg) < 10) → (o01 1 ∧ Q 1 )))))))
def rm_M_X8_isAsked : Room := { frames := 0, cells := 0, slots := 0, locals := 0 }
abbrev pq_M_X8_isAsked (dC : Nat → ClassId) (dI : Nat → Nat → Nat) (ad : Nat → Nat) (cB cI cZ cL : ClassId) (A : Nat → Prop) (m_thrown m_today m_legs m_feeds m_taped m_point m_end m_begin m_faultAt : Int32) (m_farm m_pig m_begun m_first m_weight m_salted m_heat m_isBad m_isSold m_sealedFeed m_hook m_should m_on m_warmth m_damp m_isOpen m_fFarm m_fFrom m_fWhat m_fTold m_rule m_draft m_tape m_five m_those : Nat → Int32) (Q : Int32 → Prop) : Array Value → State → Outcome → State → Prop := va_Qi (fun (r : Int32) (u : Unit) => Q r ) (fun u t => kB dC dI A (wM ad cB cI cZ cL m_thrown m_today m_legs m_feeds m_taped m_point m_end m_begin m_faultAt m_farm m_pig m_begun m_first m_weight m_salted m_heat m_isBad m_isSold m_sealedFeed m_hook m_should m_on m_warmth m_damp m_isOpen m_fFarm m_fFrom m_fWhat m_fTold m_rule m_draft m_tape m_five m_those) (kTy cB cI cZ cL) t) A
set_option maxHeartbeats 4000000 in
set_option maxRecDepth 100000 in
theorem c_M_X8_isAsked (l : Launch) (dC : Nat → ClassId) (dI : Nat → Nat → Nat) (ad : Nat → Nat) (cB cI cZ cL : ClassId) (A : Nat → Prop) (m_thrown m_today m_legs m_feeds m_taped m_point m_end m_begin m_faultAt : Int32) (m_farm m_pig m_begun m_first m_weight m_salted m_heat m_isBad m_isSold m_sealedFeed m_hook m_should m_on m_warmth m_damp m_isOpen m_fFarm m_fFrom m_fWhat m_fTold m_rule m_draft m_tape m_five m_those : Nat → Int32) (p0 : Int32)  (Q : Int32 → Prop) (h : wp_M_X8_isAsked m_hook m_should Q p0) : Met l yX8_isAsked wsX8_isAsked rm_M_X8_isAsked (va_Pc [.ref (ad 0), .int p0] (kC dC dI ad A (wM ad cB cI cZ cL m_thrown m_today m_legs m_feeds m_taped m_point m_end m_begin m_faultAt m_farm m_pig m_begun m_first m_weight m_salted m_heat m_isBad m_isSold m_sealedFeed m_hook m_should m_on m_warmth m_damp m_isOpen m_fFarm m_fFrom m_fWhat m_fTold m_rule m_draft m_tape m_five m_those) (kTy cB cI cZ cL))) (pq_M_X8_isAsked dC dI ad cB cI cZ cL A m_thrown m_today m_legs m_feeds m_taped m_point m_end m_begin m_faultAt m_farm m_pig m_begun m_first m_weight m_salted m_heat m_isBad m_isSold m_sealedFeed m_hook m_should m_on m_warmth m_damp m_isOpen m_fFarm m_fFrom m_fWhat m_fTold m_rule m_draft m_tape m_five m_those Q) 0 0 A := by
  refine Met.ofW (cc := cX8_isAsked) (maxL := 2) (ret := (some .boolean)) (by decide) rfl ?_
  intro p e s m args below meth c s₁ B hml hv
  obtain ⟨rfl, hA, hP, hK, hD, hE⟩ := hv
  have hx := B.exec
  have hb := B.bytes
  have hr := B.returns
  have hts := atoms_spec (ws := wsX8_isAsked) B.pre
  have hown : s.vm.findClass RX8 = some m.cls := findClass_of_methodNamed B.named
  have hlocks := B.notSynchronized
  have hS : va_S A s.heap s.heap [] := va_S.rf
  have hk_0 := hts (.fieldLink RX8 48 "HamCellarModel" "should" "[I") (by decide +kernel)
  have hk_1 : ∀ w ∈ wsX80, w ∈ wsX8_isAsked := by decide +kernel
  have hk_2 := hts (.fieldLink RX8 45 "HamCellarModel" "hook" "[I") (by decide +kernel)
  have hl := lv_entry ([.ref (ad 0), .int p0]) (n := 2) (Nat.le_of_ble_eq_true rfl)
  rw [lg_entry_eq]
  generalize (lg_sl ([.ref (ad 0), .int p0]) ++ List.replicate (2 - (lg_sl ([.ref (ad 0), .int p0])).length) Slot.unset).toArray = ls at hl ⊢
  have hl : lv_has ls 2 [(0, .ref (ad 0)), (1, .int p0)] := hl
  unfold wp_M_X8_isAsked at h
  refine lv_aload_n hx hb dX8_isAsked_0 rfl (lv_at hl 0 rfl) ?_
  refine va_get (D := (dC, dI)) (ci := 8) (v := .ref (ad 12)) (C := RX8) (T := TX8) (N := 34) hx hb hts hk_1 hown hK hP 0 wM_g0 rfl 13 (by decide) hk_0 (fun _ h9 => h9) rfl dX8_isAsked_1 ?_
  refine lv_iload_n hx hb dX8_isAsked_4 rfl (lv_at hl 1 rfl) ?_
  have hi_1 := h.1
  have h := h.2
  refine va_iald hx hb hK hP 12 1 wM_g12 rfl hi_1 dX8_isAsked_5 ?_
  refine lv_if_lt (tgt := 24) hx hb dX8_isAsked_6 (by decide) (fun c_2 => ?_) (fun c_2 => ?_)
  · have h := h.1 c_2
    refine lv_iconst (v := 0) hx hb dX8_isAsked_24 (by decide) ?_
    exact W.zret (v := 0) (ty := .boolean) hx hb hr (z01 h.1) (fun t ht hW => ⟨⟨0, (), rfl, h.2, kB_mk hP hK hD ht hW.alike⟩, hS.F ht⟩) hS.2.2 dX8_isAsked_25
  · have h := h.2 c_2
    refine lv_aload_n hx hb dX8_isAsked_9 rfl (lv_at hl 0 rfl) ?_
    refine va_get (D := (dC, dI)) (ci := 8) (v := .ref (ad 11)) (C := RX8) (T := TX8) (N := 34) hx hb hts hk_1 hown hK hP 0 wM_g0 rfl 12 (by decide) hk_2 (fun _ h9 => h9) rfl dX8_isAsked_10 ?_
    refine lv_iload_n hx hb dX8_isAsked_13 rfl (lv_at hl 1 rfl) ?_
    have hi_3 := h.1
    have h := h.2
    refine va_iald hx hb hK hP 11 1 wM_g11 rfl hi_3 dX8_isAsked_14 ?_
    refine lv_bipush (v := 10) hx hb dX8_isAsked_15 (by decide) ?_
    refine lv_icmp_lt (tgt := 24) hx hb dX8_isAsked_17 (by decide) (fun c_4 => ?_) (fun c_4 => ?_)
    · have h := h.1 c_4
      refine lv_iconst (v := 0) hx hb dX8_isAsked_24 (by decide) ?_
      exact W.zret (v := 0) (ty := .boolean) hx hb hr (z01 h.1) (fun t ht hW => ⟨⟨0, (), rfl, h.2, kB_mk hP hK hD ht hW.alike⟩, hS.F ht⟩) hS.2.2 dX8_isAsked_25
    · have h := h.2 c_4
      refine lv_iconst (v := 1) hx hb dX8_isAsked_20 (by decide) ?_
      refine lv_goto (tgt := 25) hx hb dX8_isAsked_21 (by decide) ?_
      exact W.zret (v := 1) (ty := .boolean) hx hb hr (z01 h.1) (fun t ht hW => ⟨⟨1, (), rfl, h.2, kB_mk hP hK hD ht hW.alike⟩, hS.F ht⟩) hS.2.2 dX8_isAsked_25
def bk_M_X8_leastMoves_180 (m_legs : Int32) (m_hook : Nat → Int32) (m_should : Nat → Int32) (m_on : Nat → Int32)  (Q : Int32 → Prop) (K38 : Int32 → Int32 → Int32 → Prop) (v1 : Int32) (v2 : Int32) (v3 : Int32) : Prop := K38 v1 v2 (v3 + 1)
def bk_M_X8_leastMoves_156 (m_legs : Int32) (m_hook : Nat → Int32) (m_should : Nat → Int32) (m_on : Nat → Int32)  (Q : Int32 → Prop) (K38 : Int32 → Int32 → Int32 → Prop) (v1 : Int32) (v2 : Int32) (v3 : Int32) (v4 : Int32) (v5 : Int32) : Prop := ((¬ v4 = v3 → bk_M_X8_leastMoves_180 m_legs m_hook m_should m_on Q K38 v1 v2 v3) ∧ (v4 = v3 → ((v5 = v3 → ((¬ v2 = 0 → bk_M_X8_leastMoves_180 m_legs m_hook m_should m_on Q K38 (v1 + 1) v2 v3) ∧ (v2 = 0 → Q (-1)))) ∧ (¬ (v5 = v3) → bk_M_X8_leastMoves_180 m_legs m_hook m_should m_on Q K38 v1 v2 v3))))
def lp_M_X8_leastMoves_91 (m_legs : Int32) (m_hook : Nat → Int32) (m_should : Nat → Int32) (m_on : Nat → Int32)  (Q : Int32 → Prop) (K38 : Int32 → Int32 → Int32 → Prop) : Nat → Int32 → Int32 → Int32 → Int32 → Int32 → Prop
  | 0 => fun _ _ _ _ _ => False
  | n + 1 => fun v1 v2 v3 v4 v5 => ((v4 < 0 → bk_M_X8_leastMoves_156 m_legs m_hook m_should m_on Q K38 v1 v2 v3 v4 v5) ∧ (¬ (v4 < 0) → ((v4 = v3 → bk_M_X8_leastMoves_156 m_legs m_hook m_should m_on Q K38 v1 v2 v3 v4 v5) ∧ (¬ (v4 = v3) → wp_M_X8_isAsked m_hook m_should (fun r_15 => ((r_15 = 0 → Q (-1)) ∧ (¬ (r_15 = 0) → (vp_in v4 60 ∧ (vp_in v4 60 ∧ ((¬ (m_should v4.toNatClampNeg) = (m_hook v4.toNatClampNeg) → (vp_in v4 60 ∧ (vp_in (m_should v4.toNatClampNeg) 60 ∧ lp_M_X8_leastMoves_91 m_legs m_hook m_should m_on Q K38 n v1 v2 v3 (m_on (m_should v4.toNatClampNeg).toNatClampNeg) (if v4 < v5 then v4 else v5)))) ∧ ((m_should v4.toNatClampNeg) = (m_hook v4.toNatClampNeg) → Q (-1)))))))) v4))))
def lp_M_X8_leastMoves_38 (m_legs : Int32) (m_hook : Nat → Int32) (m_should : Nat → Int32) (m_on : Nat → Int32)  (Q : Int32 → Prop) : Nat → Int32 → Int32 → Int32 → Prop
  | 0 => fun _ _ _ => False
  | n + 1 => fun v1 v2 v3 => ((m_legs ≤ v3 → Q v1) ∧ (¬ (m_legs ≤ v3) → wp_M_X8_isAsked m_hook m_should (fun r_3 => ((r_3 = 0 → bk_M_X8_leastMoves_180 m_legs m_hook m_should m_on Q (lp_M_X8_leastMoves_38 m_legs m_hook m_should m_on Q n) v1 v2 v3) ∧ (¬ (r_3 = 0) → (vp_in v3 60 ∧ (vp_in v3 60 ∧ ((¬ (m_should v3.toNatClampNeg) = (m_hook v3.toNatClampNeg) → (vp_in v3 60 ∧ (vp_in (m_should v3.toNatClampNeg) 60 ∧ (∃ n_22, lp_M_X8_leastMoves_91 m_legs m_hook m_should m_on Q (lp_M_X8_leastMoves_38 m_legs m_hook m_should m_on Q n) n_22 (v1 + 1) v2 v3 (m_on (m_should v3.toNatClampNeg).toNatClampNeg) v3)))) ∧ ((m_should v3.toNatClampNeg) = (m_hook v3.toNatClampNeg) → bk_M_X8_leastMoves_180 m_legs m_hook m_should m_on Q (lp_M_X8_leastMoves_38 m_legs m_hook m_should m_on Q n) v1 v2 v3))))))) v3))
def bk_M_X8_leastMoves_28 (m_legs : Int32) (m_hook : Nat → Int32) (m_should : Nat → Int32) (m_on : Nat → Int32)  (Q : Int32 → Prop) (K7 : Int32 → Int32 → Int32 → Prop) (v1 : Int32) (v3 : Int32) (k0 : Int32) (k1 : Int32) : Prop := K7 v1 (k1 + k0) (v3 + 1)
def lp_M_X8_leastMoves_7 (m_legs : Int32) (m_hook : Nat → Int32) (m_should : Nat → Int32) (m_on : Nat → Int32)  (Q : Int32 → Prop) : Nat → Int32 → Int32 → Int32 → Prop
  | 0 => fun _ _ _ => False
  | n + 1 => fun v1 v2 v3 => ((60 ≤ v3 → (∃ n_23, lp_M_X8_leastMoves_38 m_legs m_hook m_should m_on Q n_23 v1 v2 0)) ∧ (¬ (60 ≤ v3) → (vp_in v3 60 ∧ ((0 ≤ (m_on v3.toNatClampNeg) → bk_M_X8_leastMoves_28 m_legs m_hook m_should m_on Q (lp_M_X8_leastMoves_7 m_legs m_hook m_should m_on Q n) v1 v3 0 v2) ∧ (¬ (0 ≤ (m_on v3.toNatClampNeg)) → bk_M_X8_leastMoves_28 m_legs m_hook m_should m_on Q (lp_M_X8_leastMoves_7 m_legs m_hook m_should m_on Q n) v1 v3 1 v2)))))
def wp_M_X8_leastMoves (m_legs : Int32) (m_hook : Nat → Int32) (m_should : Nat → Int32) (m_on : Nat → Int32) (Q : Int32 → Prop) : Prop := (∃ n_26, lp_M_X8_leastMoves_7 m_legs m_hook m_should m_on Q n_26 0 0 10)
def rm_M_X8_leastMoves : Room := { frames := 1, cells := 0, slots := 0, locals := 21 }
abbrev pq_M_X8_leastMoves (dC : Nat → ClassId) (dI : Nat → Nat → Nat) (ad : Nat → Nat) (cB cI cZ cL : ClassId) (A : Nat → Prop) (m_thrown m_today m_legs m_feeds m_taped m_point m_end m_begin m_faultAt : Int32) (m_farm m_pig m_begun m_first m_weight m_salted m_heat m_isBad m_isSold m_sealedFeed m_hook m_should m_on m_warmth m_damp m_isOpen m_fFarm m_fFrom m_fWhat m_fTold m_rule m_draft m_tape m_five m_those : Nat → Int32) (Q : Int32 → Prop) : Array Value → State → Outcome → State → Prop := va_Qi (fun (r : Int32) (u : Unit) => Q r ) (fun u t => kB dC dI A (wM ad cB cI cZ cL m_thrown m_today m_legs m_feeds m_taped m_point m_end m_begin m_faultAt m_farm m_pig m_begun m_first m_weight m_salted m_heat m_isBad m_isSold m_sealedFeed m_hook m_should m_on m_warmth m_damp m_isOpen m_fFarm m_fFrom m_fWhat m_fTold m_rule m_draft m_tape m_five m_those) (kTy cB cI cZ cL) t) A
set_option maxHeartbeats 4000000 in
set_option maxRecDepth 100000 in
theorem c_M_X8_leastMoves (l : Launch) (dC : Nat → ClassId) (dI : Nat → Nat → Nat) (ad : Nat → Nat) (cB cI cZ cL : ClassId) (A : Nat → Prop) (m_thrown m_today m_legs m_feeds m_taped m_point m_end m_begin m_faultAt : Int32) (m_farm m_pig m_begun m_first m_weight m_salted m_heat m_isBad m_isSold m_sealedFeed m_hook m_should m_on m_warmth m_damp m_isOpen m_fFarm m_fFrom m_fWhat m_fTold m_rule m_draft m_tape m_five m_those : Nat → Int32)   (Q : Int32 → Prop) (h : wp_M_X8_leastMoves m_legs m_hook m_should m_on Q) : Met l yX8_leastMoves wsX8_leastMoves rm_M_X8_leastMoves (va_Pc [.ref (ad 0)] (kC dC dI ad A (wM ad cB cI cZ cL m_thrown m_today m_legs m_feeds m_taped m_point m_end m_begin m_faultAt m_farm m_pig m_begun m_first m_weight m_salted m_heat m_isBad m_isSold m_sealedFeed m_hook m_should m_on m_warmth m_damp m_isOpen m_fFarm m_fFrom m_fWhat m_fTold m_rule m_draft m_tape m_five m_those) (kTy cB cI cZ cL))) (pq_M_X8_leastMoves dC dI ad cB cI cZ cL A m_thrown m_today m_legs m_feeds m_taped m_point m_end m_begin m_faultAt m_farm m_pig m_begun m_first m_weight m_salted m_heat m_isBad m_isSold m_sealedFeed m_hook m_should m_on m_warmth m_damp m_isOpen m_fFarm m_fFrom m_fWhat m_fTold m_rule m_draft m_tape m_five m_those Q) 0 0 A := by
  refine Met.ofW (cc := cX8_leastMoves) (maxL := 6) (ret := (some .int)) (by decide) rfl ?_
  intro p e s m args below meth c s₁ B hml hv
  obtain ⟨rfl, hA, hP, hK, hD, hE⟩ := hv
  have hx := B.exec
  have hb := B.bytes
  have hr := B.returns
  have hts := atoms_spec (ws := wsX8_leastMoves) B.pre
  have hown : s.vm.findClass RX8 = some m.cls := findClass_of_methodNamed B.named
  have hlocks := B.notSynchronized
  have hS : va_S A s.heap s.heap [] := va_S.rf
  have hk_0 := hts (.fieldLink RX8 94 "HamCellarModel" "legs" "I") (by decide +kernel)
  have hk_1 : ∀ w ∈ wsX80, w ∈ wsX8_leastMoves := by decide +kernel
  have hk_2 := hts (.fieldLink RX8 48 "HamCellarModel" "should" "[I") (by decide +kernel)
  have hk_3 := hts (.fieldLink RX8 45 "HamCellarModel" "hook" "[I") (by decide +kernel)
  have hk_4 := hts (.fieldLink RX8 51 "HamCellarModel" "on" "[I") (by decide +kernel)
  have hk_5 := hts (.methodLink RX8 193 yJ9_min_7cf53) (by decide +kernel)
  have hk_6 := hts (.static yJ9_min_7cf53) (by decide +kernel)
  have hk_7 := hts (.initialized RJ9) (by decide +kernel)
  have hk_8 := hts (.code yJ9_min_7cf53 cJ9_min_7cf53 2 (some .int)) (by decide +kernel)
  have hbk_M_X8_leastMoves_180 : ∀ (K38 : Int32 → Int32 → Int32 → Prop) (hK38 : ∀ (v1 : Int32) (v2 : Int32) (v3 : Int32) (H : Heap) (locs : List Loc) (ls : Array Slot), va_P (dC, dI) vwCl (wM ad cB cI cZ cL m_thrown m_today m_legs m_feeds m_taped m_point m_end m_begin m_faultAt m_farm m_pig m_begun m_first m_weight m_salted m_heat m_isBad m_isSold m_sealedFeed m_hook m_should m_on m_warmth m_damp m_isOpen m_fFarm m_fFrom m_fWhat m_fTold m_rule m_draft m_tape m_five m_those) H → va_D A (wM ad cB cI cZ cL m_thrown m_today m_legs m_feeds m_taped m_point m_end m_begin m_faultAt m_farm m_pig m_begun m_first m_weight m_salted m_heat m_isBad m_isSold m_sealedFeed m_hook m_should m_on m_warmth m_damp m_isOpen m_fFarm m_fFrom m_fWhat m_fTold m_rule m_draft m_tape m_five m_those) → va_S A s.heap H locs → lv_has ls 6 [(0, .ref (ad 0)), (1, .int v1), (2, .int v2), (3, .int v3)] → K38 v1 v2 v3 → W p l e (headSpec wsX8_leastMoves rm_M_X8_leastMoves).room s m ([.ref (ad 0)] : List Value).toArray below meth c H locs 0 0 (MQ below (pq_M_X8_leastMoves dC dI ad cB cI cZ cL A m_thrown m_today m_legs m_feeds m_taped m_point m_end m_begin m_faultAt m_farm m_pig m_begun m_first m_weight m_salted m_heat m_isBad m_isSold m_sealedFeed m_hook m_should m_on m_warmth m_damp m_isOpen m_fFarm m_fFrom m_fWhat m_fTold m_rule m_draft m_tape m_five m_those Q) ([.ref (ad 0)] : List Value).toArray s 0 0 A) (F0 m 38 ls [])) (v1 : Int32) (v2 : Int32) (v3 : Int32) (H : Heap) (locs : List Loc) (ls : Array Slot), va_P (dC, dI) vwCl (wM ad cB cI cZ cL m_thrown m_today m_legs m_feeds m_taped m_point m_end m_begin m_faultAt m_farm m_pig m_begun m_first m_weight m_salted m_heat m_isBad m_isSold m_sealedFeed m_hook m_should m_on m_warmth m_damp m_isOpen m_fFarm m_fFrom m_fWhat m_fTold m_rule m_draft m_tape m_five m_those) H → va_D A (wM ad cB cI cZ cL m_thrown m_today m_legs m_feeds m_taped m_point m_end m_begin m_faultAt m_farm m_pig m_begun m_first m_weight m_salted m_heat m_isBad m_isSold m_sealedFeed m_hook m_should m_on m_warmth m_damp m_isOpen m_fFarm m_fFrom m_fWhat m_fTold m_rule m_draft m_tape m_five m_those) → va_S A s.heap H locs → lv_has ls 6 [(0, .ref (ad 0)), (1, .int v1), (2, .int v2), (3, .int v3)] → bk_M_X8_leastMoves_180 m_legs m_hook m_should m_on Q K38 v1 v2 v3 → W p l e (headSpec wsX8_leastMoves rm_M_X8_leastMoves).room s m ([.ref (ad 0)] : List Value).toArray below meth c H locs 0 0 (MQ below (pq_M_X8_leastMoves dC dI ad cB cI cZ cL A m_thrown m_today m_legs m_feeds m_taped m_point m_end m_begin m_faultAt m_farm m_pig m_begun m_first m_weight m_salted m_heat m_isBad m_isSold m_sealedFeed m_hook m_should m_on m_warmth m_damp m_isOpen m_fFarm m_fFrom m_fWhat m_fTold m_rule m_draft m_tape m_five m_those Q) ([.ref (ad 0)] : List Value).toArray s 0 0 A) (F0 m 180 ls []) := by
    intro K38 hK38 v1 v2 v3 H locs ls hP hD hS hl h
    refine lv_iinc (v := v3 + 1) (lv' := [(3, .int (v3 + 1)), (0, .ref (ad 0)), (1, .int v1), (2, .int v2)]) hx hb dX8_leastMoves_180 hl (k := 3) rfl rfl (by decide) rfl (fun ls hl => ?_)
    refine lv_goto (tgt := 38) hx hb dX8_leastMoves_183 (by decide) ?_
    exact hK38 v1 v2 (v3 + 1) _ _ _ hP hD hS (lv_sub hl [1, 2, 3, 0] rfl) h
  have hbk_M_X8_leastMoves_156 : ∀ (K38 : Int32 → Int32 → Int32 → Prop) (hK38 : ∀ (v1 : Int32) (v2 : Int32) (v3 : Int32) (H : Heap) (locs : List Loc) (ls : Array Slot), va_P (dC, dI) vwCl (wM ad cB cI cZ cL m_thrown m_today m_legs m_feeds m_taped m_point m_end m_begin m_faultAt m_farm m_pig m_begun m_first m_weight m_salted m_heat m_isBad m_isSold m_sealedFeed m_hook m_should m_on m_warmth m_damp m_isOpen m_fFarm m_fFrom m_fWhat m_fTold m_rule m_draft m_tape m_five m_those) H → va_D A (wM ad cB cI cZ cL m_thrown m_today m_legs m_feeds m_taped m_point m_end m_begin m_faultAt m_farm m_pig m_begun m_first m_weight m_salted m_heat m_isBad m_isSold m_sealedFeed m_hook m_should m_on m_warmth m_damp m_isOpen m_fFarm m_fFrom m_fWhat m_fTold m_rule m_draft m_tape m_five m_those) → va_S A s.heap H locs → lv_has ls 6 [(0, .ref (ad 0)), (1, .int v1), (2, .int v2), (3, .int v3)] → K38 v1 v2 v3 → W p l e (headSpec wsX8_leastMoves rm_M_X8_leastMoves).room s m ([.ref (ad 0)] : List Value).toArray below meth c H locs 0 0 (MQ below (pq_M_X8_leastMoves dC dI ad cB cI cZ cL A m_thrown m_today m_legs m_feeds m_taped m_point m_end m_begin m_faultAt m_farm m_pig m_begun m_first m_weight m_salted m_heat m_isBad m_isSold m_sealedFeed m_hook m_should m_on m_warmth m_damp m_isOpen m_fFarm m_fFrom m_fWhat m_fTold m_rule m_draft m_tape m_five m_those Q) ([.ref (ad 0)] : List Value).toArray s 0 0 A) (F0 m 38 ls [])) (v1 : Int32) (v2 : Int32) (v3 : Int32) (v4 : Int32) (v5 : Int32) (H : Heap) (locs : List Loc) (ls : Array Slot), va_P (dC, dI) vwCl (wM ad cB cI cZ cL m_thrown m_today m_legs m_feeds m_taped m_point m_end m_begin m_faultAt m_farm m_pig m_begun m_first m_weight m_salted m_heat m_isBad m_isSold m_sealedFeed m_hook m_should m_on m_warmth m_damp m_isOpen m_fFarm m_fFrom m_fWhat m_fTold m_rule m_draft m_tape m_five m_those) H → va_D A (wM ad cB cI cZ cL m_thrown m_today m_legs m_feeds m_taped m_point m_end m_begin m_faultAt m_farm m_pig m_begun m_first m_weight m_salted m_heat m_isBad m_isSold m_sealedFeed m_hook m_should m_on m_warmth m_damp m_isOpen m_fFarm m_fFrom m_fWhat m_fTold m_rule m_draft m_tape m_five m_those) → va_S A s.heap H locs → lv_has ls 6 [(0, .ref (ad 0)), (1, .int v1), (2, .int v2), (3, .int v3), (4, .int v4), (5, .int v5)] → bk_M_X8_leastMoves_156 m_legs m_hook m_should m_on Q K38 v1 v2 v3 v4 v5 → W p l e (headSpec wsX8_leastMoves rm_M_X8_leastMoves).room s m ([.ref (ad 0)] : List Value).toArray below meth c H locs 0 0 (MQ below (pq_M_X8_leastMoves dC dI ad cB cI cZ cL A m_thrown m_today m_legs m_feeds m_taped m_point m_end m_begin m_faultAt m_farm m_pig m_begun m_first m_weight m_salted m_heat m_isBad m_isSold m_sealedFeed m_hook m_should m_on m_warmth m_damp m_isOpen m_fFarm m_fFrom m_fWhat m_fTold m_rule m_draft m_tape m_five m_those Q) ([.ref (ad 0)] : List Value).toArray s 0 0 A) (F0 m 156 ls []) := by
    intro K38 hK38 v1 v2 v3 v4 v5 H locs ls hP hD hS hl h
    refine lv_iload hx hb dX8_leastMoves_156 (lv_at hl 4 rfl) ?_
    refine lv_iload_n hx hb dX8_leastMoves_158 rfl (lv_at hl 3 rfl) ?_
    refine lv_icmp_ne (tgt := 180) hx hb dX8_leastMoves_159 (by decide) (fun c_11 => ?_) (fun c_11 => ?_)
    · have h := h.1 c_11
      exact hbk_M_X8_leastMoves_180 K38 hK38 v1 v2 v3 _ _ _ hP hD hS (lv_sub hl [0, 1, 2, 3] rfl) h
    · have h := h.2 c_11
      refine lv_iload hx hb dX8_leastMoves_162 (lv_at hl 5 rfl) ?_
      refine lv_iload_n hx hb dX8_leastMoves_164 rfl (lv_at hl 3 rfl) ?_
      refine lv_icmp_eq (tgt := 171) hx hb dX8_leastMoves_165 (by decide) (fun c_12 => ?_) (fun c_12 => ?_)
      · have h := h.1 c_12
        refine lv_iload_n hx hb dX8_leastMoves_171 rfl (lv_at hl 2 rfl) ?_
        refine lv_if_ne (tgt := 177) hx hb dX8_leastMoves_172 (by decide) (fun c_13 => ?_) (fun c_13 => ?_)
        · have h := h.1 c_13
          refine lv_iinc (v := v1 + 1) (lv' := [(1, .int (v1 + 1)), (0, .ref (ad 0)), (2, .int v2), (3, .int v3), (4, .int v4), (5, .int v5)]) hx hb dX8_leastMoves_177 hl (k := 1) rfl rfl (by decide) rfl (fun ls hl => ?_)
          exact hbk_M_X8_leastMoves_180 K38 hK38 (v1 + 1) v2 v3 _ _ _ hP hD hS (lv_sub hl [1, 0, 2, 3] rfl) h
        · have h := h.2 c_13
          refine lv_iconst (v := (-1)) hx hb dX8_leastMoves_175 (by decide) ?_
          exact W.iret (v := (-1)) hx hb hr (fun t ht hW => ⟨⟨(-1), (), rfl, h, kB_mk hP hK hD ht hW.alike⟩, hS.F ht⟩) hS.2.2 dX8_leastMoves_176
      · have h := h.2 c_12
        refine lv_goto (tgt := 180) hx hb dX8_leastMoves_168 (by decide) ?_
        exact hbk_M_X8_leastMoves_180 K38 hK38 v1 v2 v3 _ _ _ hP hD hS (lv_sub hl [0, 1, 2, 3] rfl) h
  have hlp_M_X8_leastMoves_91 : ∀ (K38 : Int32 → Int32 → Int32 → Prop) (hK38 : ∀ (v1 : Int32) (v2 : Int32) (v3 : Int32) (H : Heap) (locs : List Loc) (ls : Array Slot), va_P (dC, dI) vwCl (wM ad cB cI cZ cL m_thrown m_today m_legs m_feeds m_taped m_point m_end m_begin m_faultAt m_farm m_pig m_begun m_first m_weight m_salted m_heat m_isBad m_isSold m_sealedFeed m_hook m_should m_on m_warmth m_damp m_isOpen m_fFarm m_fFrom m_fWhat m_fTold m_rule m_draft m_tape m_five m_those) H → va_D A (wM ad cB cI cZ cL m_thrown m_today m_legs m_feeds m_taped m_point m_end m_begin m_faultAt m_farm m_pig m_begun m_first m_weight m_salted m_heat m_isBad m_isSold m_sealedFeed m_hook m_should m_on m_warmth m_damp m_isOpen m_fFarm m_fFrom m_fWhat m_fTold m_rule m_draft m_tape m_five m_those) → va_S A s.heap H locs → lv_has ls 6 [(0, .ref (ad 0)), (1, .int v1), (2, .int v2), (3, .int v3)] → K38 v1 v2 v3 → W p l e (headSpec wsX8_leastMoves rm_M_X8_leastMoves).room s m ([.ref (ad 0)] : List Value).toArray below meth c H locs 0 0 (MQ below (pq_M_X8_leastMoves dC dI ad cB cI cZ cL A m_thrown m_today m_legs m_feeds m_taped m_point m_end m_begin m_faultAt m_farm m_pig m_begun m_first m_weight m_salted m_heat m_isBad m_isSold m_sealedFeed m_hook m_should m_on m_warmth m_damp m_isOpen m_fFarm m_fFrom m_fWhat m_fTold m_rule m_draft m_tape m_five m_those Q) ([.ref (ad 0)] : List Value).toArray s 0 0 A) (F0 m 38 ls [])) (n : Nat) (v1 : Int32) (v2 : Int32) (v3 : Int32) (v4 : Int32) (v5 : Int32) (H : Heap) (locs : List Loc) (ls : Array Slot), va_P (dC, dI) vwCl (wM ad cB cI cZ cL m_thrown m_today m_legs m_feeds m_taped m_point m_end m_begin m_faultAt m_farm m_pig m_begun m_first m_weight m_salted m_heat m_isBad m_isSold m_sealedFeed m_hook m_should m_on m_warmth m_damp m_isOpen m_fFarm m_fFrom m_fWhat m_fTold m_rule m_draft m_tape m_five m_those) H → va_D A (wM ad cB cI cZ cL m_thrown m_today m_legs m_feeds m_taped m_point m_end m_begin m_faultAt m_farm m_pig m_begun m_first m_weight m_salted m_heat m_isBad m_isSold m_sealedFeed m_hook m_should m_on m_warmth m_damp m_isOpen m_fFarm m_fFrom m_fWhat m_fTold m_rule m_draft m_tape m_five m_those) → va_S A s.heap H locs → lv_has ls 6 [(0, .ref (ad 0)), (1, .int v1), (2, .int v2), (3, .int v3), (4, .int v4), (5, .int v5)] → lp_M_X8_leastMoves_91 m_legs m_hook m_should m_on Q K38 n v1 v2 v3 v4 v5 → W p l e (headSpec wsX8_leastMoves rm_M_X8_leastMoves).room s m ([.ref (ad 0)] : List Value).toArray below meth c H locs 0 0 (MQ below (pq_M_X8_leastMoves dC dI ad cB cI cZ cL A m_thrown m_today m_legs m_feeds m_taped m_point m_end m_begin m_faultAt m_farm m_pig m_begun m_first m_weight m_salted m_heat m_isBad m_isSold m_sealedFeed m_hook m_should m_on m_warmth m_damp m_isOpen m_fFarm m_fFrom m_fWhat m_fTold m_rule m_draft m_tape m_five m_those Q) ([.ref (ad 0)] : List Value).toArray s 0 0 A) (F0 m 91 ls []) := by
    intro K38 hK38
    intro n
    induction n with
    | zero => intro v1 v2 v3 v4 v5 H locs ls hP hD hS hl h; exact h.elim
    | succ n ih =>
      intro v1 v2 v3 v4 v5 H locs ls hP hD hS hl h
      refine lv_iload hx hb dX8_leastMoves_91 (lv_at hl 4 rfl) ?_
      refine lv_if_lt (tgt := 156) hx hb dX8_leastMoves_93 (by decide) (fun c_10 => ?_) (fun c_10 => ?_)
      · have h := h.1 c_10
        exact hbk_M_X8_leastMoves_156 K38 hK38 v1 v2 v3 v4 v5 _ _ _ hP hD hS (lv_sub hl [0, 1, 2, 3, 4, 5] rfl) h
      · have h := h.2 c_10
        refine lv_iload hx hb dX8_leastMoves_96 (lv_at hl 4 rfl) ?_
        refine lv_iload_n hx hb dX8_leastMoves_98 rfl (lv_at hl 3 rfl) ?_
        refine lv_icmp_eq (tgt := 156) hx hb dX8_leastMoves_99 (by decide) (fun c_14 => ?_) (fun c_14 => ?_)
        · have h := h.1 c_14
          exact hbk_M_X8_leastMoves_156 K38 hK38 v1 v2 v3 v4 v5 _ _ _ hP hD hS (lv_sub hl [0, 1, 2, 3, 4, 5] rfl) h
        · have h := h.2 c_14
          refine lv_aload_n hx hb dX8_leastMoves_102 rfl (lv_at hl 0 rfl) ?_
          refine lv_iload hx hb dX8_leastMoves_103 (lv_at hl 4 rfl) ?_
          refine va_calli (va_runV (As := [.int v4]) (rest := []) ⟨hx, hb, hml, hown, hts⟩ (c_M_X8_isAsked l dC dI ad cB cI cZ cL A m_thrown m_today m_legs m_feeds m_taped m_point m_end m_begin m_faultAt m_farm m_pig m_begun m_first m_weight m_salted m_heat m_isBad m_isSold m_sealedFeed m_hook m_should m_on m_warmth m_damp m_isOpen m_fFarm m_fFrom m_fWhat m_fTold m_rule m_draft m_tape m_five m_those v4 _ h) (cwV 1 hts gX8_leastMoves_X8_isAsked rfl rfl rfl (by decide +kernel) ⟨(Nat.le_of_ble_eq_true rfl), (Nat.le_of_ble_eq_true rfl)⟩) ⟨kC_blind, va_recv hK hP (ci := 8) (q0 := 0) rfl wM_g0, fun U hU hW => ⟨rfl, kC_go hA hS hP hK hD hE U hU hW⟩⟩ rfl rfl hl.1 rfl (lv_room (Nat.le_of_ble_eq_true rfl)) dX8_leastMoves_105 ⟨(Nat.le_of_ble_eq_true rfl), (Nat.le_of_ble_eq_true rfl)⟩) hS (fun q _ h => h) (fun q h => h) (fun r_15 u t H locs ht hvm hw hB hz1 hk1 hS => ?_)
          have h := hw
          try dsimp only at h
          have hP : va_P (dC, dI) vwCl (wM ad cB cI cZ cL m_thrown m_today m_legs m_feeds m_taped m_point m_end m_begin m_faultAt m_farm m_pig m_begun m_first m_weight m_salted m_heat m_isBad m_isSold m_sealedFeed m_hook m_should m_on m_warmth m_damp m_isOpen m_fFarm m_fFrom m_fWhat m_fTold m_rule m_draft m_tape m_five m_those) H := by rw [← ht]; exact hB.1
          have hD : va_D A (wM ad cB cI cZ cL m_thrown m_today m_legs m_feeds m_taped m_point m_end m_begin m_faultAt m_farm m_pig m_begun m_first m_weight m_salted m_heat m_isBad m_isSold m_sealedFeed m_hook m_should m_on m_warmth m_damp m_isOpen m_fFarm m_fFrom m_fWhat m_fTold m_rule m_draft m_tape m_five m_those) := hB.2.2
          refine lv_if_eq (tgt := 128) hx hb dX8_leastMoves_108 (by decide) (fun c_16 => ?_) (fun c_16 => ?_)
          · have h := h.1 c_16
            refine lv_iconst (v := (-1)) hx hb dX8_leastMoves_128 (by decide) ?_
            exact W.iret (v := (-1)) hx hb hr (fun t ht hW => ⟨⟨(-1), (), rfl, h, kB_mk hP hK hD ht hW.alike⟩, hS.F ht⟩) hS.2.2 dX8_leastMoves_129
          · have h := h.2 c_16
            refine lv_aload_n hx hb dX8_leastMoves_111 rfl (lv_at hl 0 rfl) ?_
            refine va_get (D := (dC, dI)) (ci := 8) (v := .ref (ad 12)) (C := RX8) (T := TX8) (N := 34) hx hb hts hk_1 hown hK hP 0 wM_g0 rfl 13 (by decide) hk_2 (fun _ h9 => h9) rfl dX8_leastMoves_112 ?_
            refine lv_iload hx hb dX8_leastMoves_115 (lv_at hl 4 rfl) ?_
            have hi_17 := h.1
            have h := h.2
            refine va_iald hx hb hK hP 12 1 wM_g12 rfl hi_17 dX8_leastMoves_117 ?_
            refine lv_aload_n hx hb dX8_leastMoves_118 rfl (lv_at hl 0 rfl) ?_
            refine va_get (D := (dC, dI)) (ci := 8) (v := .ref (ad 11)) (C := RX8) (T := TX8) (N := 34) hx hb hts hk_1 hown hK hP 0 wM_g0 rfl 12 (by decide) hk_3 (fun _ h9 => h9) rfl dX8_leastMoves_119 ?_
            refine lv_iload hx hb dX8_leastMoves_122 (lv_at hl 4 rfl) ?_
            have hi_18 := h.1
            have h := h.2
            refine va_iald hx hb hK hP 11 1 wM_g11 rfl hi_18 dX8_leastMoves_124 ?_
            refine lv_icmp_ne (tgt := 130) hx hb dX8_leastMoves_125 (by decide) (fun c_19 => ?_) (fun c_19 => ?_)
            · have h := h.1 c_19
              refine lv_iload hx hb dX8_leastMoves_130 (lv_at hl 5 rfl) ?_
              refine lv_iload hx hb dX8_leastMoves_132 (lv_at hl 4 rfl) ?_
              refine va_mmin hx hb (hml.trans hl.1.symm) hown hk_5 hk_6 hk_7 hk_8 (Nat.le_of_ble_eq_true rfl) (Nat.le_of_ble_eq_true rfl) (Nat.le_of_ble_eq_true rfl) (Nat.le_of_ble_eq_true rfl) (x := v5) (y := v4) dX8_leastMoves_134 ?_
              refine lv_istore (lv' := [(5, .int (if v4 < v5 then v4 else v5)), (0, .ref (ad 0)), (1, .int v1), (2, .int v2), (3, .int v3), (4, .int v4)]) hx hb dX8_leastMoves_137 hl (by decide) rfl (fun ls hl => ?_)
              refine lv_aload_n hx hb dX8_leastMoves_139 rfl (lv_at hl 1 rfl) ?_
              refine va_get (D := (dC, dI)) (ci := 8) (v := .ref (ad 13)) (C := RX8) (T := TX8) (N := 34) hx hb hts hk_1 hown hK hP 0 wM_g0 rfl 15 (by decide) hk_4 (fun _ h9 => h9) rfl dX8_leastMoves_140 ?_
              refine lv_aload_n hx hb dX8_leastMoves_143 rfl (lv_at hl 1 rfl) ?_
              refine va_get (D := (dC, dI)) (ci := 8) (v := .ref (ad 12)) (C := RX8) (T := TX8) (N := 34) hx hb hts hk_1 hown hK hP 0 wM_g0 rfl 13 (by decide) hk_2 (fun _ h9 => h9) rfl dX8_leastMoves_144 ?_
              refine lv_iload hx hb dX8_leastMoves_147 (lv_at hl 5 rfl) ?_
              have hi_20 := h.1
              have h := h.2
              refine va_iald hx hb hK hP 12 1 wM_g12 rfl hi_20 dX8_leastMoves_149 ?_
              have hi_21 := h.1
              have h := h.2
              refine va_iald hx hb hK hP 13 1 wM_g13 rfl hi_21 dX8_leastMoves_150 ?_
              refine lv_istore (lv' := [(4, .int (m_on (m_should v4.toNatClampNeg).toNatClampNeg)), (5, .int (if v4 < v5 then v4 else v5)), (0, .ref (ad 0)), (1, .int v1), (2, .int v2), (3, .int v3)]) hx hb dX8_leastMoves_151 hl (by decide) rfl (fun ls hl => ?_)
              refine lv_goto (tgt := 91) hx hb dX8_leastMoves_153 (by decide) ?_
              exact ih v1 v2 v3 (m_on (m_should v4.toNatClampNeg).toNatClampNeg) (if v4 < v5 then v4 else v5) _ _ _ hP hD hS (lv_sub hl [2, 3, 4, 5, 0, 1] rfl) h
            · have h := h.2 c_19
              refine lv_iconst (v := (-1)) hx hb dX8_leastMoves_128 (by decide) ?_
              exact W.iret (v := (-1)) hx hb hr (fun t ht hW => ⟨⟨(-1), (), rfl, h, kB_mk hP hK hD ht hW.alike⟩, hS.F ht⟩) hS.2.2 dX8_leastMoves_129
  have hlp_M_X8_leastMoves_38 : ∀ (n : Nat) (v1 : Int32) (v2 : Int32) (v3 : Int32) (H : Heap) (locs : List Loc) (ls : Array Slot), va_P (dC, dI) vwCl (wM ad cB cI cZ cL m_thrown m_today m_legs m_feeds m_taped m_point m_end m_begin m_faultAt m_farm m_pig m_begun m_first m_weight m_salted m_heat m_isBad m_isSold m_sealedFeed m_hook m_should m_on m_warmth m_damp m_isOpen m_fFarm m_fFrom m_fWhat m_fTold m_rule m_draft m_tape m_five m_those) H → va_D A (wM ad cB cI cZ cL m_thrown m_today m_legs m_feeds m_taped m_point m_end m_begin m_faultAt m_farm m_pig m_begun m_first m_weight m_salted m_heat m_isBad m_isSold m_sealedFeed m_hook m_should m_on m_warmth m_damp m_isOpen m_fFarm m_fFrom m_fWhat m_fTold m_rule m_draft m_tape m_five m_those) → va_S A s.heap H locs → lv_has ls 6 [(0, .ref (ad 0)), (1, .int v1), (2, .int v2), (3, .int v3)] → lp_M_X8_leastMoves_38 m_legs m_hook m_should m_on Q n v1 v2 v3 → W p l e (headSpec wsX8_leastMoves rm_M_X8_leastMoves).room s m ([.ref (ad 0)] : List Value).toArray below meth c H locs 0 0 (MQ below (pq_M_X8_leastMoves dC dI ad cB cI cZ cL A m_thrown m_today m_legs m_feeds m_taped m_point m_end m_begin m_faultAt m_farm m_pig m_begun m_first m_weight m_salted m_heat m_isBad m_isSold m_sealedFeed m_hook m_should m_on m_warmth m_damp m_isOpen m_fFarm m_fFrom m_fWhat m_fTold m_rule m_draft m_tape m_five m_those Q) ([.ref (ad 0)] : List Value).toArray s 0 0 A) (F0 m 38 ls []) := by
    intro n
    induction n with
    | zero => intro v1 v2 v3 H locs ls hP hD hS hl h; exact h.elim
    | succ n ih =>
      intro v1 v2 v3 H locs ls hP hD hS hl h
      refine lv_iload_n hx hb dX8_leastMoves_38 rfl (lv_at hl 3 rfl) ?_
      refine lv_aload_n hx hb dX8_leastMoves_39 rfl (lv_at hl 0 rfl) ?_
      refine va_get (D := (dC, dI)) (ci := 8) (v := .int m_legs) (C := RX8) (T := TX8) (N := 34) hx hb hts hk_1 hown hK hP 0 wM_g0 rfl 14 (by decide) hk_0 (fun _ h9 => h9) rfl dX8_leastMoves_40 ?_
      refine lv_icmp_ge (tgt := 186) hx hb dX8_leastMoves_43 (by decide) (fun c_2 => ?_) (fun c_2 => ?_)
      · have h := h.1 c_2
        refine lv_iload_n hx hb dX8_leastMoves_186 rfl (lv_at hl 1 rfl) ?_
        exact W.iret (v := v1) hx hb hr (fun t ht hW => ⟨⟨v1, (), rfl, h, kB_mk hP hK hD ht hW.alike⟩, hS.F ht⟩) hS.2.2 dX8_leastMoves_187
      · have h := h.2 c_2
        refine lv_aload_n hx hb dX8_leastMoves_46 rfl (lv_at hl 0 rfl) ?_
        refine lv_iload_n hx hb dX8_leastMoves_47 rfl (lv_at hl 3 rfl) ?_
        refine va_calli (va_runV (As := [.int v3]) (rest := []) ⟨hx, hb, hml, hown, hts⟩ (c_M_X8_isAsked l dC dI ad cB cI cZ cL A m_thrown m_today m_legs m_feeds m_taped m_point m_end m_begin m_faultAt m_farm m_pig m_begun m_first m_weight m_salted m_heat m_isBad m_isSold m_sealedFeed m_hook m_should m_on m_warmth m_damp m_isOpen m_fFarm m_fFrom m_fWhat m_fTold m_rule m_draft m_tape m_five m_those v3 _ h) (cwV 1 hts gX8_leastMoves_X8_isAsked rfl rfl rfl (by decide +kernel) ⟨(Nat.le_of_ble_eq_true rfl), (Nat.le_of_ble_eq_true rfl)⟩) ⟨kC_blind, va_recv hK hP (ci := 8) (q0 := 0) rfl wM_g0, fun U hU hW => ⟨rfl, kC_go hA hS hP hK hD hE U hU hW⟩⟩ rfl rfl hl.1 rfl (lv_room (Nat.le_of_ble_eq_true rfl)) dX8_leastMoves_48 ⟨(Nat.le_of_ble_eq_true rfl), (Nat.le_of_ble_eq_true rfl)⟩) hS (fun q _ h => h) (fun q h => h) (fun r_3 u t H locs ht hvm hw hB hz1 hk1 hS => ?_)
        have h := hw
        try dsimp only at h
        have hP : va_P (dC, dI) vwCl (wM ad cB cI cZ cL m_thrown m_today m_legs m_feeds m_taped m_point m_end m_begin m_faultAt m_farm m_pig m_begun m_first m_weight m_salted m_heat m_isBad m_isSold m_sealedFeed m_hook m_should m_on m_warmth m_damp m_isOpen m_fFarm m_fFrom m_fWhat m_fTold m_rule m_draft m_tape m_five m_those) H := by rw [← ht]; exact hB.1
        have hD : va_D A (wM ad cB cI cZ cL m_thrown m_today m_legs m_feeds m_taped m_point m_end m_begin m_faultAt m_farm m_pig m_begun m_first m_weight m_salted m_heat m_isBad m_isSold m_sealedFeed m_hook m_should m_on m_warmth m_damp m_isOpen m_fFarm m_fFrom m_fWhat m_fTold m_rule m_draft m_tape m_five m_those) := hB.2.2
        refine lv_if_eq (tgt := 180) hx hb dX8_leastMoves_51 (by decide) (fun c_4 => ?_) (fun c_4 => ?_)
        · have h := h.1 c_4
          exact hbk_M_X8_leastMoves_180 (lp_M_X8_leastMoves_38 m_legs m_hook m_should m_on Q n) ih v1 v2 v3 _ _ _ hP hD hS (lv_sub hl [0, 1, 2, 3] rfl) h
        · have h := h.2 c_4
          refine lv_aload_n hx hb dX8_leastMoves_54 rfl (lv_at hl 0 rfl) ?_
          refine va_get (D := (dC, dI)) (ci := 8) (v := .ref (ad 12)) (C := RX8) (T := TX8) (N := 34) hx hb hts hk_1 hown hK hP 0 wM_g0 rfl 13 (by decide) hk_2 (fun _ h9 => h9) rfl dX8_leastMoves_55 ?_
          refine lv_iload_n hx hb dX8_leastMoves_58 rfl (lv_at hl 3 rfl) ?_
          have hi_5 := h.1
          have h := h.2
          refine va_iald hx hb hK hP 12 1 wM_g12 rfl hi_5 dX8_leastMoves_59 ?_
          refine lv_aload_n hx hb dX8_leastMoves_60 rfl (lv_at hl 0 rfl) ?_
          refine va_get (D := (dC, dI)) (ci := 8) (v := .ref (ad 11)) (C := RX8) (T := TX8) (N := 34) hx hb hts hk_1 hown hK hP 0 wM_g0 rfl 12 (by decide) hk_3 (fun _ h9 => h9) rfl dX8_leastMoves_61 ?_
          refine lv_iload_n hx hb dX8_leastMoves_64 rfl (lv_at hl 3 rfl) ?_
          have hi_6 := h.1
          have h := h.2
          refine va_iald hx hb hK hP 11 1 wM_g11 rfl hi_6 dX8_leastMoves_65 ?_
          refine lv_icmp_ne (tgt := 72) hx hb dX8_leastMoves_66 (by decide) (fun c_7 => ?_) (fun c_7 => ?_)
          · have h := h.1 c_7
            refine lv_iinc (v := v1 + 1) (lv' := [(1, .int (v1 + 1)), (0, .ref (ad 0)), (2, .int v2), (3, .int v3)]) hx hb dX8_leastMoves_72 hl (k := 1) rfl rfl (by decide) rfl (fun ls hl => ?_)
            refine lv_aload_n hx hb dX8_leastMoves_75 rfl (lv_at hl 1 rfl) ?_
            refine va_get (D := (dC, dI)) (ci := 8) (v := .ref (ad 13)) (C := RX8) (T := TX8) (N := 34) hx hb hts hk_1 hown hK hP 0 wM_g0 rfl 15 (by decide) hk_4 (fun _ h9 => h9) rfl dX8_leastMoves_76 ?_
            refine lv_aload_n hx hb dX8_leastMoves_79 rfl (lv_at hl 1 rfl) ?_
            refine va_get (D := (dC, dI)) (ci := 8) (v := .ref (ad 12)) (C := RX8) (T := TX8) (N := 34) hx hb hts hk_1 hown hK hP 0 wM_g0 rfl 13 (by decide) hk_2 (fun _ h9 => h9) rfl dX8_leastMoves_80 ?_
            refine lv_iload_n hx hb dX8_leastMoves_83 rfl (lv_at hl 3 rfl) ?_
            have hi_8 := h.1
            have h := h.2
            refine va_iald hx hb hK hP 12 1 wM_g12 rfl hi_8 dX8_leastMoves_84 ?_
            have hi_9 := h.1
            have h := h.2
            refine va_iald hx hb hK hP 13 1 wM_g13 rfl hi_9 dX8_leastMoves_85 ?_
            refine lv_istore (lv' := [(4, .int (m_on (m_should v3.toNatClampNeg).toNatClampNeg)), (1, .int (v1 + 1)), (0, .ref (ad 0)), (2, .int v2), (3, .int v3)]) hx hb dX8_leastMoves_86 hl (by decide) rfl (fun ls hl => ?_)
            refine lv_iload_n hx hb dX8_leastMoves_88 rfl (lv_at hl 4 rfl) ?_
            refine lv_istore (lv' := [(5, .int v3), (4, .int (m_on (m_should v3.toNatClampNeg).toNatClampNeg)), (1, .int (v1 + 1)), (0, .ref (ad 0)), (2, .int v2), (3, .int v3)]) hx hb dX8_leastMoves_89 hl (by decide) rfl (fun ls hl => ?_)
            obtain ⟨n_22, h⟩ := h
            exact hlp_M_X8_leastMoves_91 (lp_M_X8_leastMoves_38 m_legs m_hook m_should m_on Q n) ih n_22 (v1 + 1) v2 v3 (m_on (m_should v3.toNatClampNeg).toNatClampNeg) v3 _ _ _ hP hD hS (lv_sub hl [3, 2, 4, 5, 1, 0] rfl) h
          · have h := h.2 c_7
            refine lv_goto (tgt := 180) hx hb dX8_leastMoves_69 (by decide) ?_
            exact hbk_M_X8_leastMoves_180 (lp_M_X8_leastMoves_38 m_legs m_hook m_should m_on Q n) ih v1 v2 v3 _ _ _ hP hD hS (lv_sub hl [0, 1, 2, 3] rfl) h
  have hbk_M_X8_leastMoves_28 : ∀ (K7 : Int32 → Int32 → Int32 → Prop) (hK7 : ∀ (v1 : Int32) (v2 : Int32) (v3 : Int32) (H : Heap) (locs : List Loc) (ls : Array Slot), va_P (dC, dI) vwCl (wM ad cB cI cZ cL m_thrown m_today m_legs m_feeds m_taped m_point m_end m_begin m_faultAt m_farm m_pig m_begun m_first m_weight m_salted m_heat m_isBad m_isSold m_sealedFeed m_hook m_should m_on m_warmth m_damp m_isOpen m_fFarm m_fFrom m_fWhat m_fTold m_rule m_draft m_tape m_five m_those) H → va_D A (wM ad cB cI cZ cL m_thrown m_today m_legs m_feeds m_taped m_point m_end m_begin m_faultAt m_farm m_pig m_begun m_first m_weight m_salted m_heat m_isBad m_isSold m_sealedFeed m_hook m_should m_on m_warmth m_damp m_isOpen m_fFarm m_fFrom m_fWhat m_fTold m_rule m_draft m_tape m_five m_those) → va_S A s.heap H locs → lv_has ls 6 [(0, .ref (ad 0)), (1, .int v1), (2, .int v2), (3, .int v3)] → K7 v1 v2 v3 → W p l e (headSpec wsX8_leastMoves rm_M_X8_leastMoves).room s m ([.ref (ad 0)] : List Value).toArray below meth c H locs 0 0 (MQ below (pq_M_X8_leastMoves dC dI ad cB cI cZ cL A m_thrown m_today m_legs m_feeds m_taped m_point m_end m_begin m_faultAt m_farm m_pig m_begun m_first m_weight m_salted m_heat m_isBad m_isSold m_sealedFeed m_hook m_should m_on m_warmth m_damp m_isOpen m_fFarm m_fFrom m_fWhat m_fTold m_rule m_draft m_tape m_five m_those Q) ([.ref (ad 0)] : List Value).toArray s 0 0 A) (F0 m 7 ls [])) (v1 : Int32) (v3 : Int32) (k0 : Int32) (k1 : Int32) (H : Heap) (locs : List Loc) (ls : Array Slot), va_P (dC, dI) vwCl (wM ad cB cI cZ cL m_thrown m_today m_legs m_feeds m_taped m_point m_end m_begin m_faultAt m_farm m_pig m_begun m_first m_weight m_salted m_heat m_isBad m_isSold m_sealedFeed m_hook m_should m_on m_warmth m_damp m_isOpen m_fFarm m_fFrom m_fWhat m_fTold m_rule m_draft m_tape m_five m_those) H → va_D A (wM ad cB cI cZ cL m_thrown m_today m_legs m_feeds m_taped m_point m_end m_begin m_faultAt m_farm m_pig m_begun m_first m_weight m_salted m_heat m_isBad m_isSold m_sealedFeed m_hook m_should m_on m_warmth m_damp m_isOpen m_fFarm m_fFrom m_fWhat m_fTold m_rule m_draft m_tape m_five m_those) → va_S A s.heap H locs → lv_has ls 6 [(0, .ref (ad 0)), (1, .int v1), (3, .int v3)] → bk_M_X8_leastMoves_28 m_legs m_hook m_should m_on Q K7 v1 v3 k0 k1 → W p l e (headSpec wsX8_leastMoves rm_M_X8_leastMoves).room s m ([.ref (ad 0)] : List Value).toArray below meth c H locs 0 0 (MQ below (pq_M_X8_leastMoves dC dI ad cB cI cZ cL A m_thrown m_today m_legs m_feeds m_taped m_point m_end m_begin m_faultAt m_farm m_pig m_begun m_first m_weight m_salted m_heat m_isBad m_isSold m_sealedFeed m_hook m_should m_on m_warmth m_damp m_isOpen m_fFarm m_fFrom m_fWhat m_fTold m_rule m_draft m_tape m_five m_those Q) ([.ref (ad 0)] : List Value).toArray s 0 0 A) (F0 m 28 ls [.int k0, .int k1]) := by
    intro K7 hK7 v1 v3 k0 k1 H locs ls hP hD hS hl h
    refine lv_iadd hx hb dX8_leastMoves_28 ?_
    refine lv_istore_n (lv' := [(2, .int (k1 + k0)), (0, .ref (ad 0)), (1, .int v1), (3, .int v3)]) hx hb dX8_leastMoves_29 rfl hl (by decide) rfl (fun ls hl => ?_)
    refine lv_iinc (v := v3 + 1) (lv' := [(3, .int (v3 + 1)), (2, .int (k1 + k0)), (0, .ref (ad 0)), (1, .int v1)]) hx hb dX8_leastMoves_30 hl (k := 3) rfl rfl (by decide) rfl (fun ls hl => ?_)
    refine lv_goto (tgt := 7) hx hb dX8_leastMoves_33 (by decide) ?_
    exact hK7 v1 (k1 + k0) (v3 + 1) _ _ _ hP hD hS (lv_sub hl [2, 3, 1, 0] rfl) h
  have hlp_M_X8_leastMoves_7 : ∀ (n : Nat) (v1 : Int32) (v2 : Int32) (v3 : Int32) (H : Heap) (locs : List Loc) (ls : Array Slot), va_P (dC, dI) vwCl (wM ad cB cI cZ cL m_thrown m_today m_legs m_feeds m_taped m_point m_end m_begin m_faultAt m_farm m_pig m_begun m_first m_weight m_salted m_heat m_isBad m_isSold m_sealedFeed m_hook m_should m_on m_warmth m_damp m_isOpen m_fFarm m_fFrom m_fWhat m_fTold m_rule m_draft m_tape m_five m_those) H → va_D A (wM ad cB cI cZ cL m_thrown m_today m_legs m_feeds m_taped m_point m_end m_begin m_faultAt m_farm m_pig m_begun m_first m_weight m_salted m_heat m_isBad m_isSold m_sealedFeed m_hook m_should m_on m_warmth m_damp m_isOpen m_fFarm m_fFrom m_fWhat m_fTold m_rule m_draft m_tape m_five m_those) → va_S A s.heap H locs → lv_has ls 6 [(0, .ref (ad 0)), (1, .int v1), (2, .int v2), (3, .int v3)] → lp_M_X8_leastMoves_7 m_legs m_hook m_should m_on Q n v1 v2 v3 → W p l e (headSpec wsX8_leastMoves rm_M_X8_leastMoves).room s m ([.ref (ad 0)] : List Value).toArray below meth c H locs 0 0 (MQ below (pq_M_X8_leastMoves dC dI ad cB cI cZ cL A m_thrown m_today m_legs m_feeds m_taped m_point m_end m_begin m_faultAt m_farm m_pig m_begun m_first m_weight m_salted m_heat m_isBad m_isSold m_sealedFeed m_hook m_should m_on m_warmth m_damp m_isOpen m_fFarm m_fFrom m_fWhat m_fTold m_rule m_draft m_tape m_five m_those Q) ([.ref (ad 0)] : List Value).toArray s 0 0 A) (F0 m 7 ls []) := by
    intro n
    induction n with
    | zero => intro v1 v2 v3 H locs ls hP hD hS hl h; exact h.elim
    | succ n ih =>
      intro v1 v2 v3 H locs ls hP hD hS hl h
      refine lv_iload_n hx hb dX8_leastMoves_7 rfl (lv_at hl 3 rfl) ?_
      refine lv_bipush (v := 60) hx hb dX8_leastMoves_8 (by decide) ?_
      refine lv_icmp_ge (tgt := 36) hx hb dX8_leastMoves_10 (by decide) (fun c_1 => ?_) (fun c_1 => ?_)
      · have h := h.1 c_1
        refine lv_iconst (v := 0) hx hb dX8_leastMoves_36 (by decide) ?_
        refine lv_istore_n (lv' := [(3, .int 0), (0, .ref (ad 0)), (1, .int v1), (2, .int v2)]) hx hb dX8_leastMoves_37 rfl hl (by decide) rfl (fun ls hl => ?_)
        obtain ⟨n_23, h⟩ := h
        exact hlp_M_X8_leastMoves_38 n_23 v1 v2 0 _ _ _ hP hD hS (lv_sub hl [1, 2, 3, 0] rfl) h
      · have h := h.2 c_1
        refine lv_iload_n hx hb dX8_leastMoves_13 rfl (lv_at hl 2 rfl) ?_
        refine lv_aload_n hx hb dX8_leastMoves_14 rfl (lv_at hl 0 rfl) ?_
        refine va_get (D := (dC, dI)) (ci := 8) (v := .ref (ad 13)) (C := RX8) (T := TX8) (N := 34) hx hb hts hk_1 hown hK hP 0 wM_g0 rfl 15 (by decide) hk_4 (fun _ h9 => h9) rfl dX8_leastMoves_15 ?_
        refine lv_iload_n hx hb dX8_leastMoves_18 rfl (lv_at hl 3 rfl) ?_
        have hi_24 := h.1
        have h := h.2
        refine va_iald hx hb hK hP 13 1 wM_g13 rfl hi_24 dX8_leastMoves_19 ?_
        refine lv_if_ge (tgt := 27) hx hb dX8_leastMoves_20 (by decide) (fun c_25 => ?_) (fun c_25 => ?_)
        · have h := h.1 c_25
          refine lv_iconst (v := 0) hx hb dX8_leastMoves_27 (by decide) ?_
          exact hbk_M_X8_leastMoves_28 (lp_M_X8_leastMoves_7 m_legs m_hook m_should m_on Q n) ih v1 v3 0 v2 _ _ _ hP hD hS (lv_sub hl [0, 1, 3] rfl) h
        · have h := h.2 c_25
          refine lv_iconst (v := 1) hx hb dX8_leastMoves_23 (by decide) ?_
          refine lv_goto (tgt := 28) hx hb dX8_leastMoves_24 (by decide) ?_
          exact hbk_M_X8_leastMoves_28 (lp_M_X8_leastMoves_7 m_legs m_hook m_should m_on Q n) ih v1 v3 1 v2 _ _ _ hP hD hS (lv_sub hl [0, 1, 3] rfl) h
  have hl := lv_entry ([.ref (ad 0)]) (n := 6) (Nat.le_of_ble_eq_true rfl)
  rw [lg_entry_eq]
  generalize (lg_sl ([.ref (ad 0)]) ++ List.replicate (6 - (lg_sl ([.ref (ad 0)])).length) Slot.unset).toArray = ls at hl ⊢
  have hl : lv_has ls 6 [(0, .ref (ad 0))] := hl
  unfold wp_M_X8_leastMoves at h
  refine lv_iconst (v := 0) hx hb dX8_leastMoves_0 (by decide) ?_
  refine lv_istore_n (lv' := [(1, .int 0), (0, .ref (ad 0))]) hx hb dX8_leastMoves_1 rfl hl (by decide) rfl (fun ls hl => ?_)
  refine lv_iconst (v := 0) hx hb dX8_leastMoves_2 (by decide) ?_
  refine lv_istore_n (lv' := [(2, .int 0), (1, .int 0), (0, .ref (ad 0))]) hx hb dX8_leastMoves_3 rfl hl (by decide) rfl (fun ls hl => ?_)
  refine lv_bipush (v := 10) hx hb dX8_leastMoves_4 (by decide) ?_
  refine lv_istore_n (lv' := [(3, .int 10), (2, .int 0), (1, .int 0), (0, .ref (ad 0))]) hx hb dX8_leastMoves_6 rfl hl (by decide) rfl (fun ls hl => ?_)
  obtain ⟨n_26, h⟩ := h
  exact hlp_M_X8_leastMoves_7 n_26 0 0 10 _ _ _ hP hD hS (lv_sub hl [3, 2, 1, 0] rfl) h
def lp_M_X8_moves_12 (m_legs : Int32) (m_hook : Nat → Int32) (m_on : Nat → Int32)  (Q : Int32 → Int32 → (Nat → Int32) → Prop) : Nat → Int32 → (Nat → Int32) → Int32 → Int32 → Prop
  | 0 => fun _ _ _ _ => False
  | n + 1 => fun m_thrown m_should v1 v2 => ((m_legs ≤ v2 → Q v1 m_thrown m_should) ∧ (¬ (m_legs ≤ v2) → (vp_in v2 60 ∧ lp_M_X8_moves_12 m_legs m_hook m_on Q n m_thrown (upd m_should v2.toNatClampNeg (-1)) v1 (v2 + 1))))
def wp_M_X8_moves (m_legs : Int32) (m_hook : Nat → Int32) (m_on : Nat → Int32) (Q : Int32 → Int32 → (Nat → Int32) → Prop) (m_thrown : Int32) (m_should : Nat → Int32) : Prop := wp_M_X8_leastMoves m_legs m_hook m_should m_on (fun r_1 => (∃ n_4, lp_M_X8_moves_12 m_legs m_hook m_on Q n_4 0 m_should r_1 0))
def rm_M_X8_moves : Room := { frames := 2, cells := 0, slots := 0, locals := 46 }
abbrev pq_M_X8_moves (dC : Nat → ClassId) (dI : Nat → Nat → Nat) (ad : Nat → Nat) (cB cI cZ cL : ClassId) (A : Nat → Prop) (m_thrown m_today m_legs m_feeds m_taped m_point m_end m_begin m_faultAt : Int32) (m_farm m_pig m_begun m_first m_weight m_salted m_heat m_isBad m_isSold m_sealedFeed m_hook m_should m_on m_warmth m_damp m_isOpen m_fFarm m_fFrom m_fWhat m_fTold m_rule m_draft m_tape m_five m_those : Nat → Int32) (Q : Int32 → Int32 → (Nat → Int32) → Prop) : Array Value → State → Outcome → State → Prop := va_Qi (fun (r : Int32) (u : Int32 × (Nat → Int32)) => Q r u.1 u.2) (fun u t => kB dC dI A (wM ad cB cI cZ cL u.1 m_today m_legs m_feeds m_taped m_point m_end m_begin m_faultAt m_farm m_pig m_begun m_first m_weight m_salted m_heat m_isBad m_isSold m_sealedFeed m_hook u.2 m_on m_warmth m_damp m_isOpen m_fFarm m_fFrom m_fWhat m_fTold m_rule m_draft m_tape m_five m_those) (kTy cB cI cZ cL) t) A
set_option maxHeartbeats 4000000 in
set_option maxRecDepth 100000 in
theorem c_M_X8_moves (l : Launch) (dC : Nat → ClassId) (dI : Nat → Nat → Nat) (ad : Nat → Nat) (cB cI cZ cL : ClassId) (A : Nat → Prop) (m_thrown m_today m_legs m_feeds m_taped m_point m_end m_begin m_faultAt : Int32) (m_farm m_pig m_begun m_first m_weight m_salted m_heat m_isBad m_isSold m_sealedFeed m_hook m_should m_on m_warmth m_damp m_isOpen m_fFarm m_fFrom m_fWhat m_fTold m_rule m_draft m_tape m_five m_those : Nat → Int32)   (Q : Int32 → Int32 → (Nat → Int32) → Prop) (h : wp_M_X8_moves m_legs m_hook m_on Q m_thrown m_should) : Met l yX8_moves wsX8_moves rm_M_X8_moves (va_Pc [.ref (ad 0)] (kC dC dI ad A (wM ad cB cI cZ cL m_thrown m_today m_legs m_feeds m_taped m_point m_end m_begin m_faultAt m_farm m_pig m_begun m_first m_weight m_salted m_heat m_isBad m_isSold m_sealedFeed m_hook m_should m_on m_warmth m_damp m_isOpen m_fFarm m_fFrom m_fWhat m_fTold m_rule m_draft m_tape m_five m_those) (kTy cB cI cZ cL))) (pq_M_X8_moves dC dI ad cB cI cZ cL A m_thrown m_today m_legs m_feeds m_taped m_point m_end m_begin m_faultAt m_farm m_pig m_begun m_first m_weight m_salted m_heat m_isBad m_isSold m_sealedFeed m_hook m_should m_on m_warmth m_damp m_isOpen m_fFarm m_fFrom m_fWhat m_fTold m_rule m_draft m_tape m_five m_those Q) 0 0 A := by
  refine Met.ofW (cc := cX8_moves) (maxL := 3) (ret := (some .int)) (by decide) rfl ?_
  intro p e s m args below meth c s₁ B hml hv
  obtain ⟨rfl, hA, hP, hK, hD, hE⟩ := hv
  have hx := B.exec
  have hb := B.bytes
  have hr := B.returns
  have hts := atoms_spec (ws := wsX8_moves) B.pre
  have hown : s.vm.findClass RX8 = some m.cls := findClass_of_methodNamed B.named
  have hlocks := B.notSynchronized
  have hS : va_S A s.heap s.heap [] := va_S.rf
  have hk_0 := hts (.fieldLink RX8 1 "HamCellarModel" "thrown" "I") (by decide +kernel)
  have hk_1 : ∀ w ∈ wsX80, w ∈ wsX8_moves := by decide +kernel
  have hk_2 := hts (.fieldLink RX8 94 "HamCellarModel" "legs" "I") (by decide +kernel)
  have hk_3 := hts (.fieldLink RX8 48 "HamCellarModel" "should" "[I") (by decide +kernel)
  have hlp_M_X8_moves_12 : ∀ (n : Nat) (m_thrown : Int32) (m_should : Nat → Int32) (v1 : Int32) (v2 : Int32) (H : Heap) (locs : List Loc) (ls : Array Slot), va_P (dC, dI) vwCl (wM ad cB cI cZ cL m_thrown m_today m_legs m_feeds m_taped m_point m_end m_begin m_faultAt m_farm m_pig m_begun m_first m_weight m_salted m_heat m_isBad m_isSold m_sealedFeed m_hook m_should m_on m_warmth m_damp m_isOpen m_fFarm m_fFrom m_fWhat m_fTold m_rule m_draft m_tape m_five m_those) H → va_D A (wM ad cB cI cZ cL m_thrown m_today m_legs m_feeds m_taped m_point m_end m_begin m_faultAt m_farm m_pig m_begun m_first m_weight m_salted m_heat m_isBad m_isSold m_sealedFeed m_hook m_should m_on m_warmth m_damp m_isOpen m_fFarm m_fFrom m_fWhat m_fTold m_rule m_draft m_tape m_five m_those) → va_S A s.heap H locs → lv_has ls 3 [(0, .ref (ad 0)), (1, .int v1), (2, .int v2)] → lp_M_X8_moves_12 m_legs m_hook m_on Q n m_thrown m_should v1 v2 → W p l e (headSpec wsX8_moves rm_M_X8_moves).room s m ([.ref (ad 0)] : List Value).toArray below meth c H locs 0 0 (MQ below (pq_M_X8_moves dC dI ad cB cI cZ cL A m_thrown m_today m_legs m_feeds m_taped m_point m_end m_begin m_faultAt m_farm m_pig m_begun m_first m_weight m_salted m_heat m_isBad m_isSold m_sealedFeed m_hook m_should m_on m_warmth m_damp m_isOpen m_fFarm m_fFrom m_fWhat m_fTold m_rule m_draft m_tape m_five m_those Q) ([.ref (ad 0)] : List Value).toArray s 0 0 A) (F0 m 12 ls []) := by
    intro n
    induction n with
    | zero => intro m_thrown m_should v1 v2 H locs ls hP hD hS hl h; exact h.elim
    | succ n ih =>
      intro m_thrown m_should v1 v2 H locs ls hP hD hS hl h
      refine lv_iload_n hx hb dX8_moves_12 rfl (lv_at hl 2 rfl) ?_
      refine lv_aload_n hx hb dX8_moves_13 rfl (lv_at hl 0 rfl) ?_
      refine va_get (D := (dC, dI)) (ci := 8) (v := .int m_legs) (C := RX8) (T := TX8) (N := 34) hx hb hts hk_1 hown hK hP 0 wM_g0 rfl 14 (by decide) hk_2 (fun _ h9 => h9) rfl dX8_moves_14 ?_
      refine lv_icmp_ge (tgt := 33) hx hb dX8_moves_17 (by decide) (fun c_2 => ?_) (fun c_2 => ?_)
      · have h := h.1 c_2
        refine lv_iload_n hx hb dX8_moves_33 rfl (lv_at hl 1 rfl) ?_
        exact W.iret (v := v1) hx hb hr (fun t ht hW => ⟨⟨v1, (m_thrown, m_should), rfl, h, kB_mk hP hK hD ht hW.alike⟩, hS.F ht⟩) hS.2.2 dX8_moves_34
      · have h := h.2 c_2
        refine lv_aload_n hx hb dX8_moves_20 rfl (lv_at hl 0 rfl) ?_
        refine va_get (D := (dC, dI)) (ci := 8) (v := .ref (ad 12)) (C := RX8) (T := TX8) (N := 34) hx hb hts hk_1 hown hK hP 0 wM_g0 rfl 13 (by decide) hk_3 (fun _ h9 => h9) rfl dX8_moves_21 ?_
        refine lv_iload_n hx hb dX8_moves_24 rfl (lv_at hl 2 rfl) ?_
        refine lv_iconst (v := (-1)) hx hb dX8_moves_25 (by decide) ?_
        have hi_3 := h.1
        have h := h.2
        refine va_iast hx hb hK hP hD hS 12 1 wM_g12 rfl hi_3 dX8_moves_26 (fun H locs hP2 hD2 hS => ?_)
        have hP : va_P (dC, dI) vwCl (wM ad cB cI cZ cL m_thrown m_today m_legs m_feeds m_taped m_point m_end m_begin m_faultAt m_farm m_pig m_begun m_first m_weight m_salted m_heat m_isBad m_isSold m_sealedFeed m_hook (upd m_should v2.toNatClampNeg (-1)) m_on m_warmth m_damp m_isOpen m_fFarm m_fFrom m_fWhat m_fTold m_rule m_draft m_tape m_five m_those) H := hP_eq (wM_p_m_should) hP2
        have hD : va_D A (wM ad cB cI cZ cL m_thrown m_today m_legs m_feeds m_taped m_point m_end m_begin m_faultAt m_farm m_pig m_begun m_first m_weight m_salted m_heat m_isBad m_isSold m_sealedFeed m_hook (upd m_should v2.toNatClampNeg (-1)) m_on m_warmth m_damp m_isOpen m_fFarm m_fFrom m_fWhat m_fTold m_rule m_draft m_tape m_five m_those) := hD_eq (wM_p_m_should) hD2
        refine lv_iinc (v := v2 + 1) (lv' := [(2, .int (v2 + 1)), (0, .ref (ad 0)), (1, .int v1)]) hx hb dX8_moves_27 hl (k := 2) rfl rfl (by decide) rfl (fun ls hl => ?_)
        refine lv_goto (tgt := 12) hx hb dX8_moves_30 (by decide) ?_
        exact ih m_thrown (upd m_should v2.toNatClampNeg (-1)) v1 (v2 + 1) _ _ _ hP hD hS (lv_sub hl [1, 2, 0] rfl) h
  have hl := lv_entry ([.ref (ad 0)]) (n := 3) (Nat.le_of_ble_eq_true rfl)
  rw [lg_entry_eq]
  generalize (lg_sl ([.ref (ad 0)]) ++ List.replicate (3 - (lg_sl ([.ref (ad 0)])).length) Slot.unset).toArray = ls at hl ⊢
  have hl : lv_has ls 3 [(0, .ref (ad 0))] := hl
  unfold wp_M_X8_moves at h
  refine lv_aload_n hx hb dX8_moves_0 rfl (lv_at hl 0 rfl) ?_
  refine lv_iconst (v := 0) hx hb dX8_moves_1 (by decide) ?_
  refine va_put (D := (dC, dI)) (ci := 8) (v := .int 0) (ty := .int) (C := RX8) (T := TX8) (N := 34) hx hb hts hk_1 tyX8 tyX8_ok nmX8 hown hK hP hD hS 0 wM_g0 rfl 0 (by decide) hk_0 (fun _ h9 => h9) rfl (by decide +kernel) rfl rfl (Nat.le_of_ble_eq_true rfl) dX8_moves_2 (fun H locs hP2 hD2 hS => ?_)
  have hP : va_P (dC, dI) vwCl (wM ad cB cI cZ cL 0 m_today m_legs m_feeds m_taped m_point m_end m_begin m_faultAt m_farm m_pig m_begun m_first m_weight m_salted m_heat m_isBad m_isSold m_sealedFeed m_hook m_should m_on m_warmth m_damp m_isOpen m_fFarm m_fFrom m_fWhat m_fTold m_rule m_draft m_tape m_five m_those) H := hP_eq (wM_p_m_thrown) hP2
  have hD : va_D A (wM ad cB cI cZ cL 0 m_today m_legs m_feeds m_taped m_point m_end m_begin m_faultAt m_farm m_pig m_begun m_first m_weight m_salted m_heat m_isBad m_isSold m_sealedFeed m_hook m_should m_on m_warmth m_damp m_isOpen m_fFarm m_fFrom m_fWhat m_fTold m_rule m_draft m_tape m_five m_those) := hD_eq (wM_p_m_thrown) hD2
  refine lv_aload_n hx hb dX8_moves_5 rfl (lv_at hl 0 rfl) ?_
  refine va_calli (va_runV (As := []) (rest := []) ⟨hx, hb, hml, hown, hts⟩ (c_M_X8_leastMoves l dC dI ad cB cI cZ cL A 0 m_today m_legs m_feeds m_taped m_point m_end m_begin m_faultAt m_farm m_pig m_begun m_first m_weight m_salted m_heat m_isBad m_isSold m_sealedFeed m_hook m_should m_on m_warmth m_damp m_isOpen m_fFarm m_fFrom m_fWhat m_fTold m_rule m_draft m_tape m_five m_those _ h) (cwV 0 hts gX8_moves_X8_leastMoves rfl rfl rfl (by decide +kernel) ⟨(Nat.le_of_ble_eq_true rfl), (Nat.le_of_ble_eq_true rfl)⟩) ⟨kC_blind, va_recv hK hP (ci := 8) (q0 := 0) rfl wM_g0, fun U hU hW => ⟨rfl, kC_go hA hS hP hK hD hE U hU hW⟩⟩ rfl rfl hl.1 rfl (lv_room (Nat.le_of_ble_eq_true rfl)) dX8_moves_6 ⟨(Nat.le_of_ble_eq_true rfl), (Nat.le_of_ble_eq_true rfl)⟩) hS (fun q _ h => h) (fun q h => h) (fun r_1 u t H locs ht hvm hw hB hz1 hk1 hS => ?_)
  have h := hw
  try dsimp only at h
  have hP : va_P (dC, dI) vwCl (wM ad cB cI cZ cL 0 m_today m_legs m_feeds m_taped m_point m_end m_begin m_faultAt m_farm m_pig m_begun m_first m_weight m_salted m_heat m_isBad m_isSold m_sealedFeed m_hook m_should m_on m_warmth m_damp m_isOpen m_fFarm m_fFrom m_fWhat m_fTold m_rule m_draft m_tape m_five m_those) H := by rw [← ht]; exact hB.1
  have hD : va_D A (wM ad cB cI cZ cL 0 m_today m_legs m_feeds m_taped m_point m_end m_begin m_faultAt m_farm m_pig m_begun m_first m_weight m_salted m_heat m_isBad m_isSold m_sealedFeed m_hook m_should m_on m_warmth m_damp m_isOpen m_fFarm m_fFrom m_fWhat m_fTold m_rule m_draft m_tape m_five m_those) := hB.2.2
  refine lv_istore_n (lv' := [(1, .int r_1), (0, .ref (ad 0))]) hx hb dX8_moves_9 rfl hl (by decide) rfl (fun ls hl => ?_)
  refine lv_iconst (v := 0) hx hb dX8_moves_10 (by decide) ?_
  refine lv_istore_n (lv' := [(2, .int 0), (1, .int r_1), (0, .ref (ad 0))]) hx hb dX8_moves_11 rfl hl (by decide) rfl (fun ls hl => ?_)
  obtain ⟨n_4, h⟩ := h
  exact hlp_M_X8_moves_12 n_4 0 m_should r_1 0 _ _ _ hP hD hS (lv_sub hl [2, 1, 0] rfl) h
def bk_M_X8_order_263 (m_legs : Int32) (m_weight : Nat → Int32) (m_isBad : Nat → Int32) (m_sealedFeed : Nat → Int32)  (Q : Int32 → Int32 → (Nat → Int32) → (Nat → Int32) → (Nat → Int32) → (Nat → Int32) → Prop) (K221 : Int32 → (Nat → Int32) → (Nat → Int32) → (Nat → Int32) → (Nat → Int32) → Int32 → Int32 → Int32 → Prop) (m_thrown : Int32) (m_isSold : Nat → Int32) (m_hook : Nat → Int32) (m_on : Nat → Int32) (m_those : Nat → Int32) (v2 : Int32) (v3 : Int32) (v5 : Int32) : Prop := K221 m_thrown m_isSold m_hook m_on m_those v2 v3 (v5 + 1)
def lp_M_X8_order_221 (m_legs : Int32) (m_weight : Nat → Int32) (m_isBad : Nat → Int32) (m_sealedFeed : Nat → Int32)  (Q : Int32 → Int32 → (Nat → Int32) → (Nat → Int32) → (Nat → Int32) → (Nat → Int32) → Prop) : Nat → Int32 → (Nat → Int32) → (Nat → Int32) → (Nat → Int32) → (Nat → Int32) → Int32 → Int32 → Int32 → Prop
  | 0 => fun _ _ _ _ _ _ _ _ => False
  | n + 1 => fun m_thrown m_isSold m_hook m_on m_those v2 v3 v5 => ((v2 ≤ v5 → wp_M_J6_bitCount_0f7a4 (fun r_9 => Q r_9 m_thrown m_isSold m_hook m_on m_those) v3) ∧ (¬ (v2 ≤ v5) → ((¬ ((v3 >>> (v5 &&& 31)) &&& 1) = 0 → (vp_in v5 14 ∧ wp_M_X8_leaves (fun m_hook_12 m_on_12 => (vp_in v5 14 ∧ (vp_in (m_those v5.toNatClampNeg) 60 ∧ bk_M_X8_order_263 m_legs m_weight m_isBad m_sealedFeed Q (lp_M_X8_order_221 m_legs m_weight m_isBad m_sealedFeed Q n) m_thrown (upd m_isSold (m_those v5.toNatClampNeg).toNatClampNeg (vp_nar .boolean 1)) m_hook_12 m_on_12 m_those v2 v3 v5))) m_hook m_on (m_those v5.toNatClampNeg))) ∧ (((v3 >>> (v5 &&& 31)) &&& 1) = 0 → bk_M_X8_order_263 m_legs m_weight m_isBad m_sealedFeed Q (lp_M_X8_order_221 m_legs m_weight m_isBad m_sealedFeed Q n) m_thrown m_isSold m_hook m_on m_those v2 v3 v5))))
def bk_M_X8_order_206 (m_legs : Int32) (m_weight : Nat → Int32) (m_isBad : Nat → Int32) (m_sealedFeed : Nat → Int32)  (Q : Int32 → Int32 → (Nat → Int32) → (Nat → Int32) → (Nat → Int32) → (Nat → Int32) → Prop) (K102 : Int32 → (Nat → Int32) → (Nat → Int32) → (Nat → Int32) → (Nat → Int32) → Int32 → Int32 → Int32 → Int32 → Int32 → Prop) (m_thrown : Int32) (m_isSold : Nat → Int32) (m_hook : Nat → Int32) (m_on : Nat → Int32) (m_those : Nat → Int32) (v1 : Int32) (v2 : Int32) (v3 : Int32) (v4 : Int32) (v5 : Int32) : Prop := K102 m_thrown m_isSold m_hook m_on m_those v1 v2 v3 v4 (v5 + 1)
def bk_M_X8_order_199 (m_legs : Int32) (m_weight : Nat → Int32) (m_isBad : Nat → Int32) (m_sealedFeed : Nat → Int32)  (Q : Int32 → Int32 → (Nat → Int32) → (Nat → Int32) → (Nat → Int32) → (Nat → Int32) → Prop) (K102 : Int32 → (Nat → Int32) → (Nat → Int32) → (Nat → Int32) → (Nat → Int32) → Int32 → Int32 → Int32 → Int32 → Int32 → Prop) (m_thrown : Int32) (m_isSold : Nat → Int32) (m_hook : Nat → Int32) (m_on : Nat → Int32) (m_those : Nat → Int32) (v1 : Int32) (v2 : Int32) (v5 : Int32) (v6 : Int32) : Prop := bk_M_X8_order_206 m_legs m_weight m_isBad m_sealedFeed Q K102 m_thrown m_isSold m_hook m_on m_those v1 v2 v5 v6 v5
def bk_M_X8_order_151 (m_legs : Int32) (m_weight : Nat → Int32) (m_isBad : Nat → Int32) (m_sealedFeed : Nat → Int32)  (Q : Int32 → Int32 → (Nat → Int32) → (Nat → Int32) → (Nat → Int32) → (Nat → Int32) → Prop) (K102 : Int32 → (Nat → Int32) → (Nat → Int32) → (Nat → Int32) → (Nat → Int32) → Int32 → Int32 → Int32 → Int32 → Int32 → Prop) (K116 : Int32 → (Nat → Int32) → (Nat → Int32) → (Nat → Int32) → (Nat → Int32) → Int32 → Int32 → Int32 → Int32 → Int32 → Int32 → Int32 → Prop) (m_thrown : Int32) (m_isSold : Nat → Int32) (m_hook : Nat → Int32) (m_on : Nat → Int32) (m_those : Nat → Int32) (v1 : Int32) (v2 : Int32) (v3 : Int32) (v4 : Int32) (v5 : Int32) (v7 : Int32) (k0 : Int32) (k1 : Int32) : Prop := K116 m_thrown m_isSold m_hook m_on m_those v1 v2 v3 v4 v5 (k1 + k0) (v7 + 1)
def lp_M_X8_order_116 (m_legs : Int32) (m_weight : Nat → Int32) (m_isBad : Nat → Int32) (m_sealedFeed : Nat → Int32)  (Q : Int32 → Int32 → (Nat → Int32) → (Nat → Int32) → (Nat → Int32) → (Nat → Int32) → Prop) (K102 : Int32 → (Nat → Int32) → (Nat → Int32) → (Nat → Int32) → (Nat → Int32) → Int32 → Int32 → Int32 → Int32 → Int32 → Prop) : Nat → Int32 → (Nat → Int32) → (Nat → Int32) → (Nat → Int32) → (Nat → Int32) → Int32 → Int32 → Int32 → Int32 → Int32 → Int32 → Int32 → Prop
  | 0 => fun _ _ _ _ _ _ _ _ _ _ _ _ => False
  | n + 1 => fun m_thrown m_isSold m_hook m_on m_those v1 v2 v3 v4 v5 v6 v7 => ((v2 ≤ v7 → ((v6 < v1 → bk_M_X8_order_206 m_legs m_weight m_isBad m_sealedFeed Q K102 m_thrown m_isSold m_hook m_on m_those v1 v2 v3 v4 v5) ∧ (¬ (v6 < v1) → ((v3 < 0 → bk_M_X8_order_199 m_legs m_weight m_isBad m_sealedFeed Q K102 m_thrown m_isSold m_hook m_on m_those v1 v2 v5 v6) ∧ (¬ (v3 < 0) → ((v4 < v6 → bk_M_X8_order_206 m_legs m_weight m_isBad m_sealedFeed Q K102 m_thrown m_isSold m_hook m_on m_those v1 v2 v3 v4 v5) ∧ (¬ (v4 < v6) → ((¬ v6 = v4 → bk_M_X8_order_199 m_legs m_weight m_isBad m_sealedFeed Q K102 m_thrown m_isSold m_hook m_on m_those v1 v2 v5 v6) ∧ (v6 = v4 → wp_M_J6_bitCount_0f7a4 (fun r_21 => wp_M_J6_bitCount_0f7a4 (fun r_22 => ((r_21 < r_22 → bk_M_X8_order_199 m_legs m_weight m_isBad m_sealedFeed Q K102 m_thrown m_isSold m_hook m_on m_those v1 v2 v5 v6) ∧ (¬ (r_21 < r_22) → bk_M_X8_order_206 m_legs m_weight m_isBad m_sealedFeed Q K102 m_thrown m_isSold m_hook m_on m_those v1 v2 v3 v4 v5))) v3) v5))))))))) ∧ (¬ (v2 ≤ v7) → ((¬ ((v5 >>> (v7 &&& 31)) &&& 1) = 1 → bk_M_X8_order_151 m_legs m_weight m_isBad m_sealedFeed Q K102 (lp_M_X8_order_116 m_legs m_weight m_isBad m_sealedFeed Q K102 n) m_thrown m_isSold m_hook m_on m_those v1 v2 v3 v4 v5 v7 0 v6) ∧ (((v5 >>> (v7 &&& 31)) &&& 1) = 1 → (vp_in v7 14 ∧ (vp_in (m_those v7.toNatClampNeg) 60 ∧ bk_M_X8_order_151 m_legs m_weight m_isBad m_sealedFeed Q K102 (lp_M_X8_order_116 m_legs m_weight m_isBad m_sealedFeed Q K102 n) m_thrown m_isSold m_hook m_on m_those v1 v2 v3 v4 v5 v7 (m_weight (m_those v7.toNatClampNeg).toNatClampNeg) v6))))))
def lp_M_X8_order_102 (m_legs : Int32) (m_weight : Nat → Int32) (m_isBad : Nat → Int32) (m_sealedFeed : Nat → Int32)  (Q : Int32 → Int32 → (Nat → Int32) → (Nat → Int32) → (Nat → Int32) → (Nat → Int32) → Prop) : Nat → Int32 → (Nat → Int32) → (Nat → Int32) → (Nat → Int32) → (Nat → Int32) → Int32 → Int32 → Int32 → Int32 → Int32 → Prop
  | 0 => fun _ _ _ _ _ _ _ _ _ _ => False
  | n + 1 => fun m_thrown m_isSold m_hook m_on m_those v1 v2 v3 v4 v5 => (((1 <<< (v2 &&& 31)) ≤ v5 → ((0 ≤ v3 → (∃ n_15, lp_M_X8_order_221 m_legs m_weight m_isBad m_sealedFeed Q n_15 m_thrown m_isSold m_hook m_on m_those v2 v3 0)) ∧ (¬ (0 ≤ v3) → Q (-1) m_thrown m_isSold m_hook m_on m_those))) ∧ (¬ ((1 <<< (v2 &&& 31)) ≤ v5) → (∃ n_27, lp_M_X8_order_116 m_legs m_weight m_isBad m_sealedFeed Q (lp_M_X8_order_102 m_legs m_weight m_isBad m_sealedFeed Q n) n_27 m_thrown m_isSold m_hook m_on m_those v1 v2 v3 v4 v5 0 0)))
def bk_M_X8_order_94 (m_legs : Int32) (m_weight : Nat → Int32) (m_isBad : Nat → Int32) (m_sealedFeed : Nat → Int32)  (Q : Int32 → Int32 → (Nat → Int32) → (Nat → Int32) → (Nat → Int32) → (Nat → Int32) → Prop) (m_thrown : Int32) (m_isSold : Nat → Int32) (m_hook : Nat → Int32) (m_on : Nat → Int32) (m_those : Nat → Int32) (v1 : Int32) (v2 : Int32) : Prop := (∃ n_28, lp_M_X8_order_102 m_legs m_weight m_isBad m_sealedFeed Q n_28 m_thrown m_isSold m_hook m_on m_those v1 v2 (-1) 0 1)
def bk_M_X8_order_88 (m_legs : Int32) (m_weight : Nat → Int32) (m_isBad : Nat → Int32) (m_sealedFeed : Nat → Int32)  (Q : Int32 → Int32 → (Nat → Int32) → (Nat → Int32) → (Nat → Int32) → (Nat → Int32) → Prop) (K34 : Int32 → (Nat → Int32) → (Nat → Int32) → (Nat → Int32) → (Nat → Int32) → Int32 → Int32 → Int32 → Prop) (m_thrown : Int32) (m_isSold : Nat → Int32) (m_hook : Nat → Int32) (m_on : Nat → Int32) (m_those : Nat → Int32) (v1 : Int32) (v2 : Int32) (v3 : Int32) : Prop := K34 m_thrown m_isSold m_hook m_on m_those v1 v2 (v3 + 1)
def lp_M_X8_order_34 (m_legs : Int32) (m_weight : Nat → Int32) (m_isBad : Nat → Int32) (m_sealedFeed : Nat → Int32)  (Q : Int32 → Int32 → (Nat → Int32) → (Nat → Int32) → (Nat → Int32) → (Nat → Int32) → Prop) : Nat → Int32 → (Nat → Int32) → (Nat → Int32) → (Nat → Int32) → (Nat → Int32) → Int32 → Int32 → Int32 → Prop
  | 0 => fun _ _ _ _ _ _ _ _ => False
  | n + 1 => fun m_thrown m_isSold m_hook m_on m_those v1 v2 v3 => ((m_legs ≤ v3 → bk_M_X8_order_94 m_legs m_weight m_isBad m_sealedFeed Q m_thrown m_isSold m_hook m_on m_those v1 v2) ∧ (¬ (m_legs ≤ v3) → ((14 ≤ v2 → bk_M_X8_order_94 m_legs m_weight m_isBad m_sealedFeed Q m_thrown m_isSold m_hook m_on m_those v1 v2) ∧ (¬ (14 ≤ v2) → (vp_in v3 60 ∧ (((m_sealedFeed v3.toNatClampNeg) < 0 → bk_M_X8_order_88 m_legs m_weight m_isBad m_sealedFeed Q (lp_M_X8_order_34 m_legs m_weight m_isBad m_sealedFeed Q n) m_thrown m_isSold m_hook m_on m_those v1 v2 v3) ∧ (¬ ((m_sealedFeed v3.toNatClampNeg) < 0) → (vp_in v3 60 ∧ (((m_hook v3.toNatClampNeg) < 0 → bk_M_X8_order_88 m_legs m_weight m_isBad m_sealedFeed Q (lp_M_X8_order_34 m_legs m_weight m_isBad m_sealedFeed Q n) m_thrown m_isSold m_hook m_on m_those v1 v2 v3) ∧ (¬ ((m_hook v3.toNatClampNeg) < 0) → (vp_in v3 60 ∧ (((m_isBad v3.toNatClampNeg) = 0 → (vp_in v2 14 ∧ bk_M_X8_order_88 m_legs m_weight m_isBad m_sealedFeed Q (lp_M_X8_order_34 m_legs m_weight m_isBad m_sealedFeed Q n) m_thrown m_isSold m_hook m_on (upd m_those v2.toNatClampNeg v3) v1 (v2 + 1) v3)) ∧ (¬ ((m_isBad v3.toNatClampNeg) = 0) → bk_M_X8_order_88 m_legs m_weight m_isBad m_sealedFeed Q (lp_M_X8_order_34 m_legs m_weight m_isBad m_sealedFeed Q n) m_thrown m_isSold m_hook m_on m_those v1 v2 v3)))))))))))))
def bk_M_X8_order_21 (m_legs : Int32) (m_weight : Nat → Int32) (m_isBad : Nat → Int32) (m_sealedFeed : Nat → Int32)  (Q : Int32 → Int32 → (Nat → Int32) → (Nat → Int32) → (Nat → Int32) → (Nat → Int32) → Prop) (m_thrown : Int32) (m_isSold : Nat → Int32) (m_hook : Nat → Int32) (m_on : Nat → Int32) (m_those : Nat → Int32) (v1 : Int32) (k0 : Int32) : Prop := wp_M_X8_throwsIf (fun r_3 m_thrown_3 => ((r_3 = 0 → (∃ n_37, lp_M_X8_order_34 m_legs m_weight m_isBad m_sealedFeed Q n_37 m_thrown_3 m_isSold m_hook m_on m_those v1 0 0)) ∧ (¬ (r_3 = 0) → Q 0 m_thrown_3 m_isSold m_hook m_on m_those))) m_thrown k0 1
def wp_M_X8_order (m_legs : Int32) (m_weight : Nat → Int32) (m_isBad : Nat → Int32) (m_sealedFeed : Nat → Int32) (Q : Int32 → Int32 → (Nat → Int32) → (Nat → Int32) → (Nat → Int32) → (Nat → Int32) → Prop) (m_thrown : Int32) (m_isSold : Nat → Int32) (m_hook : Nat → Int32) (m_on : Nat → Int32) (m_those : Nat → Int32) (p0 : Int32) : Prop := wp_M_X8_in (fun r_1 => ((¬ r_1 = 0 → bk_M_X8_order_21 m_legs m_weight m_isBad m_sealedFeed Q 0 m_isSold m_hook m_on m_those p0 0) ∧ (r_1 = 0 → bk_M_X8_order_21 m_legs m_weight m_isBad m_sealedFeed Q 0 m_isSold m_hook m_on m_those p0 1))) p0 1 200000
def rm_M_X8_order : Room := { frames := 1, cells := 0, slots := 0, locals := 22 }
abbrev pq_M_X8_order (dC : Nat → ClassId) (dI : Nat → Nat → Nat) (ad : Nat → Nat) (cB cI cZ cL : ClassId) (A : Nat → Prop) (m_thrown m_today m_legs m_feeds m_taped m_point m_end m_begin m_faultAt : Int32) (m_farm m_pig m_begun m_first m_weight m_salted m_heat m_isBad m_isSold m_sealedFeed m_hook m_should m_on m_warmth m_damp m_isOpen m_fFarm m_fFrom m_fWhat m_fTold m_rule m_draft m_tape m_five m_those : Nat → Int32) (Q : Int32 → Int32 → (Nat → Int32) → (Nat → Int32) → (Nat → Int32) → (Nat → Int32) → Prop) : Array Value → State → Outcome → State → Prop := va_Qi (fun (r : Int32) (u : Int32 × (Nat → Int32) × (Nat → Int32) × (Nat → Int32) × (Nat → Int32)) => Q r u.1 u.2.1 u.2.2.1 u.2.2.2.1 u.2.2.2.2) (fun u t => kB dC dI A (wM ad cB cI cZ cL u.1 m_today m_legs m_feeds m_taped m_point m_end m_begin m_faultAt m_farm m_pig m_begun m_first m_weight m_salted m_heat m_isBad u.2.1 m_sealedFeed u.2.2.1 m_should u.2.2.2.1 m_warmth m_damp m_isOpen m_fFarm m_fFrom m_fWhat m_fTold m_rule m_draft m_tape m_five u.2.2.2.2) (kTy cB cI cZ cL) t) A
set_option maxHeartbeats 4000000 in
set_option maxRecDepth 100000 in
theorem c_M_X8_order (l : Launch) (dC : Nat → ClassId) (dI : Nat → Nat → Nat) (ad : Nat → Nat) (cB cI cZ cL : ClassId) (A : Nat → Prop) (m_thrown m_today m_legs m_feeds m_taped m_point m_end m_begin m_faultAt : Int32) (m_farm m_pig m_begun m_first m_weight m_salted m_heat m_isBad m_isSold m_sealedFeed m_hook m_should m_on m_warmth m_damp m_isOpen m_fFarm m_fFrom m_fWhat m_fTold m_rule m_draft m_tape m_five m_those : Nat → Int32) (p0 : Int32)  (Q : Int32 → Int32 → (Nat → Int32) → (Nat → Int32) → (Nat → Int32) → (Nat → Int32) → Prop) (h : wp_M_X8_order m_legs m_weight m_isBad m_sealedFeed Q m_thrown m_isSold m_hook m_on m_those p0) : Met l yX8_order wsX8_order rm_M_X8_order (va_Pc [.ref (ad 0), .int p0] (kC dC dI ad A (wM ad cB cI cZ cL m_thrown m_today m_legs m_feeds m_taped m_point m_end m_begin m_faultAt m_farm m_pig m_begun m_first m_weight m_salted m_heat m_isBad m_isSold m_sealedFeed m_hook m_should m_on m_warmth m_damp m_isOpen m_fFarm m_fFrom m_fWhat m_fTold m_rule m_draft m_tape m_five m_those) (kTy cB cI cZ cL))) (pq_M_X8_order dC dI ad cB cI cZ cL A m_thrown m_today m_legs m_feeds m_taped m_point m_end m_begin m_faultAt m_farm m_pig m_begun m_first m_weight m_salted m_heat m_isBad m_isSold m_sealedFeed m_hook m_should m_on m_warmth m_damp m_isOpen m_fFarm m_fFrom m_fWhat m_fTold m_rule m_draft m_tape m_five m_those Q) 0 0 A := by
  refine Met.ofW (cc := cX8_order) (maxL := 8) (ret := (some .int)) (by decide) rfl ?_
  intro p e s m args below meth c s₁ B hml hv
  obtain ⟨rfl, hA, hP, hK, hD, hE⟩ := hv
  have hx := B.exec
  have hb := B.bytes
  have hr := B.returns
  have hts := atoms_spec (ws := wsX8_order) B.pre
  have hown : s.vm.findClass RX8 = some m.cls := findClass_of_methodNamed B.named
  have hlocks := B.notSynchronized
  have hS : va_S A s.heap s.heap [] := va_S.rf
  have hk_0 := hts (.fieldLink RX8 1 "HamCellarModel" "thrown" "I") (by decide +kernel)
  have hk_1 : ∀ w ∈ wsX80, w ∈ wsX8_order := by decide +kernel
  have hk_2 := hts (.constant RX8 199 200000) (by decide +kernel)
  have hk_3 := hts (.fieldLink RX8 94 "HamCellarModel" "legs" "I") (by decide +kernel)
  have hk_4 := hts (.fieldLink RX8 91 "HamCellarModel" "those" "[I") (by decide +kernel)
  have hk_5 := hts (.fieldLink RX8 39 "HamCellarModel" "isSold" "[Z") (by decide +kernel)
  have hk_6 := hts (.fieldLink RX8 26 "HamCellarModel" "weight" "[I") (by decide +kernel)
  have hk_7 := hts (.fieldLink RX8 42 "HamCellarModel" "sealedFeed" "[I") (by decide +kernel)
  have hk_8 := hts (.fieldLink RX8 45 "HamCellarModel" "hook" "[I") (by decide +kernel)
  have hk_9 := hts (.fieldLink RX8 35 "HamCellarModel" "isBad" "[Z") (by decide +kernel)
  have hbk_M_X8_order_263 : ∀ (K221 : Int32 → (Nat → Int32) → (Nat → Int32) → (Nat → Int32) → (Nat → Int32) → Int32 → Int32 → Int32 → Prop) (hK221 : ∀ (m_thrown : Int32) (m_isSold : Nat → Int32) (m_hook : Nat → Int32) (m_on : Nat → Int32) (m_those : Nat → Int32) (v2 : Int32) (v3 : Int32) (v5 : Int32) (H : Heap) (locs : List Loc) (ls : Array Slot), va_P (dC, dI) vwCl (wM ad cB cI cZ cL m_thrown m_today m_legs m_feeds m_taped m_point m_end m_begin m_faultAt m_farm m_pig m_begun m_first m_weight m_salted m_heat m_isBad m_isSold m_sealedFeed m_hook m_should m_on m_warmth m_damp m_isOpen m_fFarm m_fFrom m_fWhat m_fTold m_rule m_draft m_tape m_five m_those) H → va_D A (wM ad cB cI cZ cL m_thrown m_today m_legs m_feeds m_taped m_point m_end m_begin m_faultAt m_farm m_pig m_begun m_first m_weight m_salted m_heat m_isBad m_isSold m_sealedFeed m_hook m_should m_on m_warmth m_damp m_isOpen m_fFarm m_fFrom m_fWhat m_fTold m_rule m_draft m_tape m_five m_those) → va_S A s.heap H locs → lv_has ls 8 [(0, .ref (ad 0)), (2, .int v2), (3, .int v3), (5, .int v5)] → K221 m_thrown m_isSold m_hook m_on m_those v2 v3 v5 → W p l e (headSpec wsX8_order rm_M_X8_order).room s m ([.ref (ad 0), .int p0] : List Value).toArray below meth c H locs 0 0 (MQ below (pq_M_X8_order dC dI ad cB cI cZ cL A m_thrown m_today m_legs m_feeds m_taped m_point m_end m_begin m_faultAt m_farm m_pig m_begun m_first m_weight m_salted m_heat m_isBad m_isSold m_sealedFeed m_hook m_should m_on m_warmth m_damp m_isOpen m_fFarm m_fFrom m_fWhat m_fTold m_rule m_draft m_tape m_five m_those Q) ([.ref (ad 0), .int p0] : List Value).toArray s 0 0 A) (F0 m 221 ls [])) (m_thrown : Int32) (m_isSold : Nat → Int32) (m_hook : Nat → Int32) (m_on : Nat → Int32) (m_those : Nat → Int32) (v2 : Int32) (v3 : Int32) (v5 : Int32) (H : Heap) (locs : List Loc) (ls : Array Slot), va_P (dC, dI) vwCl (wM ad cB cI cZ cL m_thrown m_today m_legs m_feeds m_taped m_point m_end m_begin m_faultAt m_farm m_pig m_begun m_first m_weight m_salted m_heat m_isBad m_isSold m_sealedFeed m_hook m_should m_on m_warmth m_damp m_isOpen m_fFarm m_fFrom m_fWhat m_fTold m_rule m_draft m_tape m_five m_those) H → va_D A (wM ad cB cI cZ cL m_thrown m_today m_legs m_feeds m_taped m_point m_end m_begin m_faultAt m_farm m_pig m_begun m_first m_weight m_salted m_heat m_isBad m_isSold m_sealedFeed m_hook m_should m_on m_warmth m_damp m_isOpen m_fFarm m_fFrom m_fWhat m_fTold m_rule m_draft m_tape m_five m_those) → va_S A s.heap H locs → lv_has ls 8 [(0, .ref (ad 0)), (2, .int v2), (3, .int v3), (5, .int v5)] → bk_M_X8_order_263 m_legs m_weight m_isBad m_sealedFeed Q K221 m_thrown m_isSold m_hook m_on m_those v2 v3 v5 → W p l e (headSpec wsX8_order rm_M_X8_order).room s m ([.ref (ad 0), .int p0] : List Value).toArray below meth c H locs 0 0 (MQ below (pq_M_X8_order dC dI ad cB cI cZ cL A m_thrown m_today m_legs m_feeds m_taped m_point m_end m_begin m_faultAt m_farm m_pig m_begun m_first m_weight m_salted m_heat m_isBad m_isSold m_sealedFeed m_hook m_should m_on m_warmth m_damp m_isOpen m_fFarm m_fFrom m_fWhat m_fTold m_rule m_draft m_tape m_five m_those Q) ([.ref (ad 0), .int p0] : List Value).toArray s 0 0 A) (F0 m 263 ls []) := by
    intro K221 hK221 m_thrown m_isSold m_hook m_on m_those v2 v3 v5 H locs ls hP hD hS hl h
    refine lv_iinc (v := v5 + 1) (lv' := [(5, .int (v5 + 1)), (0, .ref (ad 0)), (2, .int v2), (3, .int v3)]) hx hb dX8_order_263 hl (k := 3) rfl rfl (by decide) rfl (fun ls hl => ?_)
    refine lv_goto (tgt := 221) hx hb dX8_order_266 (by decide) ?_
    exact hK221 m_thrown m_isSold m_hook m_on m_those v2 v3 (v5 + 1) _ _ _ hP hD hS (lv_sub hl [1, 2, 3, 0] rfl) h
  have hlp_M_X8_order_221 : ∀ (n : Nat) (m_thrown : Int32) (m_isSold : Nat → Int32) (m_hook : Nat → Int32) (m_on : Nat → Int32) (m_those : Nat → Int32) (v2 : Int32) (v3 : Int32) (v5 : Int32) (H : Heap) (locs : List Loc) (ls : Array Slot), va_P (dC, dI) vwCl (wM ad cB cI cZ cL m_thrown m_today m_legs m_feeds m_taped m_point m_end m_begin m_faultAt m_farm m_pig m_begun m_first m_weight m_salted m_heat m_isBad m_isSold m_sealedFeed m_hook m_should m_on m_warmth m_damp m_isOpen m_fFarm m_fFrom m_fWhat m_fTold m_rule m_draft m_tape m_five m_those) H → va_D A (wM ad cB cI cZ cL m_thrown m_today m_legs m_feeds m_taped m_point m_end m_begin m_faultAt m_farm m_pig m_begun m_first m_weight m_salted m_heat m_isBad m_isSold m_sealedFeed m_hook m_should m_on m_warmth m_damp m_isOpen m_fFarm m_fFrom m_fWhat m_fTold m_rule m_draft m_tape m_five m_those) → va_S A s.heap H locs → lv_has ls 8 [(0, .ref (ad 0)), (2, .int v2), (3, .int v3), (5, .int v5)] → lp_M_X8_order_221 m_legs m_weight m_isBad m_sealedFeed Q n m_thrown m_isSold m_hook m_on m_those v2 v3 v5 → W p l e (headSpec wsX8_order rm_M_X8_order).room s m ([.ref (ad 0), .int p0] : List Value).toArray below meth c H locs 0 0 (MQ below (pq_M_X8_order dC dI ad cB cI cZ cL A m_thrown m_today m_legs m_feeds m_taped m_point m_end m_begin m_faultAt m_farm m_pig m_begun m_first m_weight m_salted m_heat m_isBad m_isSold m_sealedFeed m_hook m_should m_on m_warmth m_damp m_isOpen m_fFarm m_fFrom m_fWhat m_fTold m_rule m_draft m_tape m_five m_those Q) ([.ref (ad 0), .int p0] : List Value).toArray s 0 0 A) (F0 m 221 ls []) := by
    intro n
    induction n with
    | zero => intro m_thrown m_isSold m_hook m_on m_those v2 v3 v5 H locs ls hP hD hS hl h; exact h.elim
    | succ n ih =>
      intro m_thrown m_isSold m_hook m_on m_those v2 v3 v5 H locs ls hP hD hS hl h
      refine lv_iload hx hb dX8_order_221 (lv_at hl 3 rfl) ?_
      refine lv_iload_n hx hb dX8_order_223 rfl (lv_at hl 1 rfl) ?_
      refine lv_icmp_ge (tgt := 269) hx hb dX8_order_224 (by decide) (fun c_8 => ?_) (fun c_8 => ?_)
      · have h := h.1 c_8
        refine lv_iload_n hx hb dX8_order_269 rfl (lv_at hl 2 rfl) ?_
        refine va_calli (va_runS (As := [.int v3]) (rest := []) ⟨hx, hb, hml, hown, hts⟩ (c_M_J6_bitCount_0f7a4 l dC dI ad cB cI cZ cL A m_thrown m_today m_legs m_feeds m_taped m_point m_end m_begin m_faultAt m_farm m_pig m_begun m_first m_weight m_salted m_heat m_isBad m_isSold m_sealedFeed m_hook m_should m_on m_warmth m_damp m_isOpen m_fFarm m_fFrom m_fWhat m_fTold m_rule m_draft m_tape m_five m_those v3 _ h) (va_cwS 1 hts gX8_order_J6_bitCount_0f7a4 rfl rfl rfl (by decide +kernel) ⟨(Nat.le_of_ble_eq_true rfl), (Nat.le_of_ble_eq_true rfl)⟩) ⟨kC_blind, fun U hU hW => ⟨rfl, kC_go hA hS hP hK hD hE U hU hW⟩⟩ rfl rfl hl.1 rfl (lv_room (Nat.le_of_ble_eq_true rfl)) dX8_order_270 ⟨(Nat.le_of_ble_eq_true rfl), (Nat.le_of_ble_eq_true rfl)⟩) hS (fun q _ h => h) (fun q h => h) (fun r_9 u t H locs ht hvm hw hB hz1 hk1 hS => ?_)
        have h := hw
        try dsimp only at h
        have hP : va_P (dC, dI) vwCl (wM ad cB cI cZ cL m_thrown m_today m_legs m_feeds m_taped m_point m_end m_begin m_faultAt m_farm m_pig m_begun m_first m_weight m_salted m_heat m_isBad m_isSold m_sealedFeed m_hook m_should m_on m_warmth m_damp m_isOpen m_fFarm m_fFrom m_fWhat m_fTold m_rule m_draft m_tape m_five m_those) H := by rw [← ht]; exact hB.1
        have hD : va_D A (wM ad cB cI cZ cL m_thrown m_today m_legs m_feeds m_taped m_point m_end m_begin m_faultAt m_farm m_pig m_begun m_first m_weight m_salted m_heat m_isBad m_isSold m_sealedFeed m_hook m_should m_on m_warmth m_damp m_isOpen m_fFarm m_fFrom m_fWhat m_fTold m_rule m_draft m_tape m_five m_those) := hB.2.2
        exact W.iret (v := r_9) hx hb hr (fun t ht hW => ⟨⟨r_9, (m_thrown, m_isSold, m_hook, m_on, m_those), rfl, h, kB_mk hP hK hD ht hW.alike⟩, hS.F ht⟩) hS.2.2 dX8_order_273
      · have h := h.2 c_8
        refine lv_iload_n hx hb dX8_order_227 rfl (lv_at hl 2 rfl) ?_
        refine lv_iload hx hb dX8_order_228 (lv_at hl 3 rfl) ?_
        refine lv_ishr hx hb dX8_order_230 ?_
        refine lv_iconst (v := 1) hx hb dX8_order_231 (by decide) ?_
        refine lv_iand hx hb dX8_order_232 ?_
        refine lv_if_ne (tgt := 239) hx hb dX8_order_233 (by decide) (fun c_10 => ?_) (fun c_10 => ?_)
        · have h := h.1 c_10
          refine lv_aload_n hx hb dX8_order_239 rfl (lv_at hl 0 rfl) ?_
          refine lv_aload_n hx hb dX8_order_240 rfl (lv_at hl 0 rfl) ?_
          refine va_get (D := (dC, dI)) (ci := 8) (v := .ref (ad 25)) (C := RX8) (T := TX8) (N := 34) hx hb hts hk_1 hown hK hP 0 wM_g0 rfl 33 (by decide) hk_4 (fun _ h9 => h9) rfl dX8_order_241 ?_
          refine lv_iload hx hb dX8_order_244 (lv_at hl 3 rfl) ?_
          have hi_11 := h.1
          have h := h.2
          refine va_iald hx hb hK hP 25 1 wM_g25 rfl hi_11 dX8_order_246 ?_
          refine va_callv (va_runV (As := [.int (m_those v5.toNatClampNeg)]) (rest := []) ⟨hx, hb, hml, hown, hts⟩ (c_M_X8_leaves l dC dI ad cB cI cZ cL A m_thrown m_today m_legs m_feeds m_taped m_point m_end m_begin m_faultAt m_farm m_pig m_begun m_first m_weight m_salted m_heat m_isBad m_isSold m_sealedFeed m_hook m_should m_on m_warmth m_damp m_isOpen m_fFarm m_fFrom m_fWhat m_fTold m_rule m_draft m_tape m_five m_those (m_those v5.toNatClampNeg) _ h) (cwV 1 hts gX8_order_X8_leaves rfl rfl rfl (by decide +kernel) ⟨(Nat.le_of_ble_eq_true rfl), (Nat.le_of_ble_eq_true rfl)⟩) ⟨kC_blind, va_recv hK hP (ci := 8) (q0 := 0) rfl wM_g0, fun U hU hW => ⟨rfl, kC_go hA hS hP hK hD hE U hU hW⟩⟩ rfl rfl hl.1 rfl (lv_room (Nat.le_of_ble_eq_true rfl)) dX8_order_247 ⟨(Nat.le_of_ble_eq_true rfl), (Nat.le_of_ble_eq_true rfl)⟩) hS (fun q _ h => h) (fun q h => h) (fun u t H locs ht hvm hw hB hz1 hk1 hS => ?_)
          obtain ⟨m_hook_12, m_on_12⟩ := u
          have h := hw
          try dsimp only at h
          have hP : va_P (dC, dI) vwCl (wM ad cB cI cZ cL m_thrown m_today m_legs m_feeds m_taped m_point m_end m_begin m_faultAt m_farm m_pig m_begun m_first m_weight m_salted m_heat m_isBad m_isSold m_sealedFeed m_hook_12 m_should m_on_12 m_warmth m_damp m_isOpen m_fFarm m_fFrom m_fWhat m_fTold m_rule m_draft m_tape m_five m_those) H := by rw [← ht]; exact hB.1
          have hD : va_D A (wM ad cB cI cZ cL m_thrown m_today m_legs m_feeds m_taped m_point m_end m_begin m_faultAt m_farm m_pig m_begun m_first m_weight m_salted m_heat m_isBad m_isSold m_sealedFeed m_hook_12 m_should m_on_12 m_warmth m_damp m_isOpen m_fFarm m_fFrom m_fWhat m_fTold m_rule m_draft m_tape m_five m_those) := hB.2.2
          refine lv_aload_n hx hb dX8_order_250 rfl (lv_at hl 0 rfl) ?_
          refine va_get (D := (dC, dI)) (ci := 8) (v := .ref (ad 9)) (C := RX8) (T := TX8) (N := 34) hx hb hts hk_1 hown hK hP 0 wM_g0 rfl 10 (by decide) hk_5 (fun _ h9 => h9) rfl dX8_order_251 ?_
          refine lv_aload_n hx hb dX8_order_254 rfl (lv_at hl 0 rfl) ?_
          refine va_get (D := (dC, dI)) (ci := 8) (v := .ref (ad 25)) (C := RX8) (T := TX8) (N := 34) hx hb hts hk_1 hown hK hP 0 wM_g0 rfl 33 (by decide) hk_4 (fun _ h9 => h9) rfl dX8_order_255 ?_
          refine lv_iload hx hb dX8_order_258 (lv_at hl 3 rfl) ?_
          have hi_13 := h.1
          have h := h.2
          refine va_iald hx hb hK hP 25 1 wM_g25 rfl hi_13 dX8_order_260 ?_
          refine lv_iconst (v := 1) hx hb dX8_order_261 (by decide) ?_
          have hi_14 := h.1
          have h := h.2
          refine va_zast hx hb hK hP hD hS 9 2 wM_g9 rfl hi_14 dX8_order_262 (fun H locs hP2 hD2 hS => ?_)
          have hP : va_P (dC, dI) vwCl (wM ad cB cI cZ cL m_thrown m_today m_legs m_feeds m_taped m_point m_end m_begin m_faultAt m_farm m_pig m_begun m_first m_weight m_salted m_heat m_isBad (upd m_isSold (m_those v5.toNatClampNeg).toNatClampNeg (vp_nar .boolean 1)) m_sealedFeed m_hook_12 m_should m_on_12 m_warmth m_damp m_isOpen m_fFarm m_fFrom m_fWhat m_fTold m_rule m_draft m_tape m_five m_those) H := hP_eq (wM_p_m_isSold) hP2
          have hD : va_D A (wM ad cB cI cZ cL m_thrown m_today m_legs m_feeds m_taped m_point m_end m_begin m_faultAt m_farm m_pig m_begun m_first m_weight m_salted m_heat m_isBad (upd m_isSold (m_those v5.toNatClampNeg).toNatClampNeg (vp_nar .boolean 1)) m_sealedFeed m_hook_12 m_should m_on_12 m_warmth m_damp m_isOpen m_fFarm m_fFrom m_fWhat m_fTold m_rule m_draft m_tape m_five m_those) := hD_eq (wM_p_m_isSold) hD2
          exact hbk_M_X8_order_263 (lp_M_X8_order_221 m_legs m_weight m_isBad m_sealedFeed Q n) ih m_thrown (upd m_isSold (m_those v5.toNatClampNeg).toNatClampNeg (vp_nar .boolean 1)) m_hook_12 m_on_12 m_those v2 v3 v5 _ _ _ hP hD hS (lv_sub hl [0, 1, 2, 3] rfl) h
        · have h := h.2 c_10
          refine lv_goto (tgt := 263) hx hb dX8_order_236 (by decide) ?_
          exact hbk_M_X8_order_263 (lp_M_X8_order_221 m_legs m_weight m_isBad m_sealedFeed Q n) ih m_thrown m_isSold m_hook m_on m_those v2 v3 v5 _ _ _ hP hD hS (lv_sub hl [0, 1, 2, 3] rfl) h
  have hbk_M_X8_order_206 : ∀ (K102 : Int32 → (Nat → Int32) → (Nat → Int32) → (Nat → Int32) → (Nat → Int32) → Int32 → Int32 → Int32 → Int32 → Int32 → Prop) (hK102 : ∀ (m_thrown : Int32) (m_isSold : Nat → Int32) (m_hook : Nat → Int32) (m_on : Nat → Int32) (m_those : Nat → Int32) (v1 : Int32) (v2 : Int32) (v3 : Int32) (v4 : Int32) (v5 : Int32) (H : Heap) (locs : List Loc) (ls : Array Slot), va_P (dC, dI) vwCl (wM ad cB cI cZ cL m_thrown m_today m_legs m_feeds m_taped m_point m_end m_begin m_faultAt m_farm m_pig m_begun m_first m_weight m_salted m_heat m_isBad m_isSold m_sealedFeed m_hook m_should m_on m_warmth m_damp m_isOpen m_fFarm m_fFrom m_fWhat m_fTold m_rule m_draft m_tape m_five m_those) H → va_D A (wM ad cB cI cZ cL m_thrown m_today m_legs m_feeds m_taped m_point m_end m_begin m_faultAt m_farm m_pig m_begun m_first m_weight m_salted m_heat m_isBad m_isSold m_sealedFeed m_hook m_should m_on m_warmth m_damp m_isOpen m_fFarm m_fFrom m_fWhat m_fTold m_rule m_draft m_tape m_five m_those) → va_S A s.heap H locs → lv_has ls 8 [(0, .ref (ad 0)), (1, .int v1), (2, .int v2), (3, .int v3), (4, .int v4), (5, .int v5)] → K102 m_thrown m_isSold m_hook m_on m_those v1 v2 v3 v4 v5 → W p l e (headSpec wsX8_order rm_M_X8_order).room s m ([.ref (ad 0), .int p0] : List Value).toArray below meth c H locs 0 0 (MQ below (pq_M_X8_order dC dI ad cB cI cZ cL A m_thrown m_today m_legs m_feeds m_taped m_point m_end m_begin m_faultAt m_farm m_pig m_begun m_first m_weight m_salted m_heat m_isBad m_isSold m_sealedFeed m_hook m_should m_on m_warmth m_damp m_isOpen m_fFarm m_fFrom m_fWhat m_fTold m_rule m_draft m_tape m_five m_those Q) ([.ref (ad 0), .int p0] : List Value).toArray s 0 0 A) (F0 m 102 ls [])) (m_thrown : Int32) (m_isSold : Nat → Int32) (m_hook : Nat → Int32) (m_on : Nat → Int32) (m_those : Nat → Int32) (v1 : Int32) (v2 : Int32) (v3 : Int32) (v4 : Int32) (v5 : Int32) (H : Heap) (locs : List Loc) (ls : Array Slot), va_P (dC, dI) vwCl (wM ad cB cI cZ cL m_thrown m_today m_legs m_feeds m_taped m_point m_end m_begin m_faultAt m_farm m_pig m_begun m_first m_weight m_salted m_heat m_isBad m_isSold m_sealedFeed m_hook m_should m_on m_warmth m_damp m_isOpen m_fFarm m_fFrom m_fWhat m_fTold m_rule m_draft m_tape m_five m_those) H → va_D A (wM ad cB cI cZ cL m_thrown m_today m_legs m_feeds m_taped m_point m_end m_begin m_faultAt m_farm m_pig m_begun m_first m_weight m_salted m_heat m_isBad m_isSold m_sealedFeed m_hook m_should m_on m_warmth m_damp m_isOpen m_fFarm m_fFrom m_fWhat m_fTold m_rule m_draft m_tape m_five m_those) → va_S A s.heap H locs → lv_has ls 8 [(0, .ref (ad 0)), (1, .int v1), (2, .int v2), (3, .int v3), (4, .int v4), (5, .int v5)] → bk_M_X8_order_206 m_legs m_weight m_isBad m_sealedFeed Q K102 m_thrown m_isSold m_hook m_on m_those v1 v2 v3 v4 v5 → W p l e (headSpec wsX8_order rm_M_X8_order).room s m ([.ref (ad 0), .int p0] : List Value).toArray below meth c H locs 0 0 (MQ below (pq_M_X8_order dC dI ad cB cI cZ cL A m_thrown m_today m_legs m_feeds m_taped m_point m_end m_begin m_faultAt m_farm m_pig m_begun m_first m_weight m_salted m_heat m_isBad m_isSold m_sealedFeed m_hook m_should m_on m_warmth m_damp m_isOpen m_fFarm m_fFrom m_fWhat m_fTold m_rule m_draft m_tape m_five m_those Q) ([.ref (ad 0), .int p0] : List Value).toArray s 0 0 A) (F0 m 206 ls []) := by
    intro K102 hK102 m_thrown m_isSold m_hook m_on m_those v1 v2 v3 v4 v5 H locs ls hP hD hS hl h
    refine lv_iinc (v := v5 + 1) (lv' := [(5, .int (v5 + 1)), (0, .ref (ad 0)), (1, .int v1), (2, .int v2), (3, .int v3), (4, .int v4)]) hx hb dX8_order_206 hl (k := 5) rfl rfl (by decide) rfl (fun ls hl => ?_)
    refine lv_goto (tgt := 102) hx hb dX8_order_209 (by decide) ?_
    exact hK102 m_thrown m_isSold m_hook m_on m_those v1 v2 v3 v4 (v5 + 1) _ _ _ hP hD hS (lv_sub hl [1, 2, 3, 4, 5, 0] rfl) h
  have hbk_M_X8_order_199 : ∀ (K102 : Int32 → (Nat → Int32) → (Nat → Int32) → (Nat → Int32) → (Nat → Int32) → Int32 → Int32 → Int32 → Int32 → Int32 → Prop) (hK102 : ∀ (m_thrown : Int32) (m_isSold : Nat → Int32) (m_hook : Nat → Int32) (m_on : Nat → Int32) (m_those : Nat → Int32) (v1 : Int32) (v2 : Int32) (v3 : Int32) (v4 : Int32) (v5 : Int32) (H : Heap) (locs : List Loc) (ls : Array Slot), va_P (dC, dI) vwCl (wM ad cB cI cZ cL m_thrown m_today m_legs m_feeds m_taped m_point m_end m_begin m_faultAt m_farm m_pig m_begun m_first m_weight m_salted m_heat m_isBad m_isSold m_sealedFeed m_hook m_should m_on m_warmth m_damp m_isOpen m_fFarm m_fFrom m_fWhat m_fTold m_rule m_draft m_tape m_five m_those) H → va_D A (wM ad cB cI cZ cL m_thrown m_today m_legs m_feeds m_taped m_point m_end m_begin m_faultAt m_farm m_pig m_begun m_first m_weight m_salted m_heat m_isBad m_isSold m_sealedFeed m_hook m_should m_on m_warmth m_damp m_isOpen m_fFarm m_fFrom m_fWhat m_fTold m_rule m_draft m_tape m_five m_those) → va_S A s.heap H locs → lv_has ls 8 [(0, .ref (ad 0)), (1, .int v1), (2, .int v2), (3, .int v3), (4, .int v4), (5, .int v5)] → K102 m_thrown m_isSold m_hook m_on m_those v1 v2 v3 v4 v5 → W p l e (headSpec wsX8_order rm_M_X8_order).room s m ([.ref (ad 0), .int p0] : List Value).toArray below meth c H locs 0 0 (MQ below (pq_M_X8_order dC dI ad cB cI cZ cL A m_thrown m_today m_legs m_feeds m_taped m_point m_end m_begin m_faultAt m_farm m_pig m_begun m_first m_weight m_salted m_heat m_isBad m_isSold m_sealedFeed m_hook m_should m_on m_warmth m_damp m_isOpen m_fFarm m_fFrom m_fWhat m_fTold m_rule m_draft m_tape m_five m_those Q) ([.ref (ad 0), .int p0] : List Value).toArray s 0 0 A) (F0 m 102 ls [])) (m_thrown : Int32) (m_isSold : Nat → Int32) (m_hook : Nat → Int32) (m_on : Nat → Int32) (m_those : Nat → Int32) (v1 : Int32) (v2 : Int32) (v5 : Int32) (v6 : Int32) (H : Heap) (locs : List Loc) (ls : Array Slot), va_P (dC, dI) vwCl (wM ad cB cI cZ cL m_thrown m_today m_legs m_feeds m_taped m_point m_end m_begin m_faultAt m_farm m_pig m_begun m_first m_weight m_salted m_heat m_isBad m_isSold m_sealedFeed m_hook m_should m_on m_warmth m_damp m_isOpen m_fFarm m_fFrom m_fWhat m_fTold m_rule m_draft m_tape m_five m_those) H → va_D A (wM ad cB cI cZ cL m_thrown m_today m_legs m_feeds m_taped m_point m_end m_begin m_faultAt m_farm m_pig m_begun m_first m_weight m_salted m_heat m_isBad m_isSold m_sealedFeed m_hook m_should m_on m_warmth m_damp m_isOpen m_fFarm m_fFrom m_fWhat m_fTold m_rule m_draft m_tape m_five m_those) → va_S A s.heap H locs → lv_has ls 8 [(0, .ref (ad 0)), (1, .int v1), (2, .int v2), (5, .int v5), (6, .int v6)] → bk_M_X8_order_199 m_legs m_weight m_isBad m_sealedFeed Q K102 m_thrown m_isSold m_hook m_on m_those v1 v2 v5 v6 → W p l e (headSpec wsX8_order rm_M_X8_order).room s m ([.ref (ad 0), .int p0] : List Value).toArray below meth c H locs 0 0 (MQ below (pq_M_X8_order dC dI ad cB cI cZ cL A m_thrown m_today m_legs m_feeds m_taped m_point m_end m_begin m_faultAt m_farm m_pig m_begun m_first m_weight m_salted m_heat m_isBad m_isSold m_sealedFeed m_hook m_should m_on m_warmth m_damp m_isOpen m_fFarm m_fFrom m_fWhat m_fTold m_rule m_draft m_tape m_five m_those Q) ([.ref (ad 0), .int p0] : List Value).toArray s 0 0 A) (F0 m 199 ls []) := by
    intro K102 hK102 m_thrown m_isSold m_hook m_on m_those v1 v2 v5 v6 H locs ls hP hD hS hl h
    refine lv_iload hx hb dX8_order_199 (lv_at hl 3 rfl) ?_
    refine lv_istore_n (lv' := [(3, .int v5), (0, .ref (ad 0)), (1, .int v1), (2, .int v2), (5, .int v5), (6, .int v6)]) hx hb dX8_order_201 rfl hl (by decide) rfl (fun ls hl => ?_)
    refine lv_iload hx hb dX8_order_202 (lv_at hl 5 rfl) ?_
    refine lv_istore (lv' := [(4, .int v6), (3, .int v5), (0, .ref (ad 0)), (1, .int v1), (2, .int v2), (5, .int v5), (6, .int v6)]) hx hb dX8_order_204 hl (by decide) rfl (fun ls hl => ?_)
    exact hbk_M_X8_order_206 K102 hK102 m_thrown m_isSold m_hook m_on m_those v1 v2 v5 v6 v5 _ _ _ hP hD hS (lv_sub hl [2, 3, 4, 1, 0, 5] rfl) h
  have hbk_M_X8_order_151 : ∀ (K102 : Int32 → (Nat → Int32) → (Nat → Int32) → (Nat → Int32) → (Nat → Int32) → Int32 → Int32 → Int32 → Int32 → Int32 → Prop) (hK102 : ∀ (m_thrown : Int32) (m_isSold : Nat → Int32) (m_hook : Nat → Int32) (m_on : Nat → Int32) (m_those : Nat → Int32) (v1 : Int32) (v2 : Int32) (v3 : Int32) (v4 : Int32) (v5 : Int32) (H : Heap) (locs : List Loc) (ls : Array Slot), va_P (dC, dI) vwCl (wM ad cB cI cZ cL m_thrown m_today m_legs m_feeds m_taped m_point m_end m_begin m_faultAt m_farm m_pig m_begun m_first m_weight m_salted m_heat m_isBad m_isSold m_sealedFeed m_hook m_should m_on m_warmth m_damp m_isOpen m_fFarm m_fFrom m_fWhat m_fTold m_rule m_draft m_tape m_five m_those) H → va_D A (wM ad cB cI cZ cL m_thrown m_today m_legs m_feeds m_taped m_point m_end m_begin m_faultAt m_farm m_pig m_begun m_first m_weight m_salted m_heat m_isBad m_isSold m_sealedFeed m_hook m_should m_on m_warmth m_damp m_isOpen m_fFarm m_fFrom m_fWhat m_fTold m_rule m_draft m_tape m_five m_those) → va_S A s.heap H locs → lv_has ls 8 [(0, .ref (ad 0)), (1, .int v1), (2, .int v2), (3, .int v3), (4, .int v4), (5, .int v5)] → K102 m_thrown m_isSold m_hook m_on m_those v1 v2 v3 v4 v5 → W p l e (headSpec wsX8_order rm_M_X8_order).room s m ([.ref (ad 0), .int p0] : List Value).toArray below meth c H locs 0 0 (MQ below (pq_M_X8_order dC dI ad cB cI cZ cL A m_thrown m_today m_legs m_feeds m_taped m_point m_end m_begin m_faultAt m_farm m_pig m_begun m_first m_weight m_salted m_heat m_isBad m_isSold m_sealedFeed m_hook m_should m_on m_warmth m_damp m_isOpen m_fFarm m_fFrom m_fWhat m_fTold m_rule m_draft m_tape m_five m_those Q) ([.ref (ad 0), .int p0] : List Value).toArray s 0 0 A) (F0 m 102 ls [])) (K116 : Int32 → (Nat → Int32) → (Nat → Int32) → (Nat → Int32) → (Nat → Int32) → Int32 → Int32 → Int32 → Int32 → Int32 → Int32 → Int32 → Prop) (hK116 : ∀ (m_thrown : Int32) (m_isSold : Nat → Int32) (m_hook : Nat → Int32) (m_on : Nat → Int32) (m_those : Nat → Int32) (v1 : Int32) (v2 : Int32) (v3 : Int32) (v4 : Int32) (v5 : Int32) (v6 : Int32) (v7 : Int32) (H : Heap) (locs : List Loc) (ls : Array Slot), va_P (dC, dI) vwCl (wM ad cB cI cZ cL m_thrown m_today m_legs m_feeds m_taped m_point m_end m_begin m_faultAt m_farm m_pig m_begun m_first m_weight m_salted m_heat m_isBad m_isSold m_sealedFeed m_hook m_should m_on m_warmth m_damp m_isOpen m_fFarm m_fFrom m_fWhat m_fTold m_rule m_draft m_tape m_five m_those) H → va_D A (wM ad cB cI cZ cL m_thrown m_today m_legs m_feeds m_taped m_point m_end m_begin m_faultAt m_farm m_pig m_begun m_first m_weight m_salted m_heat m_isBad m_isSold m_sealedFeed m_hook m_should m_on m_warmth m_damp m_isOpen m_fFarm m_fFrom m_fWhat m_fTold m_rule m_draft m_tape m_five m_those) → va_S A s.heap H locs → lv_has ls 8 [(0, .ref (ad 0)), (1, .int v1), (2, .int v2), (3, .int v3), (4, .int v4), (5, .int v5), (6, .int v6), (7, .int v7)] → K116 m_thrown m_isSold m_hook m_on m_those v1 v2 v3 v4 v5 v6 v7 → W p l e (headSpec wsX8_order rm_M_X8_order).room s m ([.ref (ad 0), .int p0] : List Value).toArray below meth c H locs 0 0 (MQ below (pq_M_X8_order dC dI ad cB cI cZ cL A m_thrown m_today m_legs m_feeds m_taped m_point m_end m_begin m_faultAt m_farm m_pig m_begun m_first m_weight m_salted m_heat m_isBad m_isSold m_sealedFeed m_hook m_should m_on m_warmth m_damp m_isOpen m_fFarm m_fFrom m_fWhat m_fTold m_rule m_draft m_tape m_five m_those Q) ([.ref (ad 0), .int p0] : List Value).toArray s 0 0 A) (F0 m 116 ls [])) (m_thrown : Int32) (m_isSold : Nat → Int32) (m_hook : Nat → Int32) (m_on : Nat → Int32) (m_those : Nat → Int32) (v1 : Int32) (v2 : Int32) (v3 : Int32) (v4 : Int32) (v5 : Int32) (v7 : Int32) (k0 : Int32) (k1 : Int32) (H : Heap) (locs : List Loc) (ls : Array Slot), va_P (dC, dI) vwCl (wM ad cB cI cZ cL m_thrown m_today m_legs m_feeds m_taped m_point m_end m_begin m_faultAt m_farm m_pig m_begun m_first m_weight m_salted m_heat m_isBad m_isSold m_sealedFeed m_hook m_should m_on m_warmth m_damp m_isOpen m_fFarm m_fFrom m_fWhat m_fTold m_rule m_draft m_tape m_five m_those) H → va_D A (wM ad cB cI cZ cL m_thrown m_today m_legs m_feeds m_taped m_point m_end m_begin m_faultAt m_farm m_pig m_begun m_first m_weight m_salted m_heat m_isBad m_isSold m_sealedFeed m_hook m_should m_on m_warmth m_damp m_isOpen m_fFarm m_fFrom m_fWhat m_fTold m_rule m_draft m_tape m_five m_those) → va_S A s.heap H locs → lv_has ls 8 [(0, .ref (ad 0)), (1, .int v1), (2, .int v2), (3, .int v3), (4, .int v4), (5, .int v5), (7, .int v7)] → bk_M_X8_order_151 m_legs m_weight m_isBad m_sealedFeed Q K102 K116 m_thrown m_isSold m_hook m_on m_those v1 v2 v3 v4 v5 v7 k0 k1 → W p l e (headSpec wsX8_order rm_M_X8_order).room s m ([.ref (ad 0), .int p0] : List Value).toArray below meth c H locs 0 0 (MQ below (pq_M_X8_order dC dI ad cB cI cZ cL A m_thrown m_today m_legs m_feeds m_taped m_point m_end m_begin m_faultAt m_farm m_pig m_begun m_first m_weight m_salted m_heat m_isBad m_isSold m_sealedFeed m_hook m_should m_on m_warmth m_damp m_isOpen m_fFarm m_fFrom m_fWhat m_fTold m_rule m_draft m_tape m_five m_those Q) ([.ref (ad 0), .int p0] : List Value).toArray s 0 0 A) (F0 m 151 ls [.int k0, .int k1]) := by
    intro K102 hK102 K116 hK116 m_thrown m_isSold m_hook m_on m_those v1 v2 v3 v4 v5 v7 k0 k1 H locs ls hP hD hS hl h
    refine lv_iadd hx hb dX8_order_151 ?_
    refine lv_istore (lv' := [(6, .int (k1 + k0)), (0, .ref (ad 0)), (1, .int v1), (2, .int v2), (3, .int v3), (4, .int v4), (5, .int v5), (7, .int v7)]) hx hb dX8_order_152 hl (by decide) rfl (fun ls hl => ?_)
    refine lv_iinc (v := v7 + 1) (lv' := [(7, .int (v7 + 1)), (6, .int (k1 + k0)), (0, .ref (ad 0)), (1, .int v1), (2, .int v2), (3, .int v3), (4, .int v4), (5, .int v5)]) hx hb dX8_order_154 hl (k := 7) rfl rfl (by decide) rfl (fun ls hl => ?_)
    refine lv_goto (tgt := 116) hx hb dX8_order_157 (by decide) ?_
    exact hK116 m_thrown m_isSold m_hook m_on m_those v1 v2 v3 v4 v5 (k1 + k0) (v7 + 1) _ _ _ hP hD hS (lv_sub hl [2, 3, 4, 5, 6, 7, 1, 0] rfl) h
  have hlp_M_X8_order_116 : ∀ (K102 : Int32 → (Nat → Int32) → (Nat → Int32) → (Nat → Int32) → (Nat → Int32) → Int32 → Int32 → Int32 → Int32 → Int32 → Prop) (hK102 : ∀ (m_thrown : Int32) (m_isSold : Nat → Int32) (m_hook : Nat → Int32) (m_on : Nat → Int32) (m_those : Nat → Int32) (v1 : Int32) (v2 : Int32) (v3 : Int32) (v4 : Int32) (v5 : Int32) (H : Heap) (locs : List Loc) (ls : Array Slot), va_P (dC, dI) vwCl (wM ad cB cI cZ cL m_thrown m_today m_legs m_feeds m_taped m_point m_end m_begin m_faultAt m_farm m_pig m_begun m_first m_weight m_salted m_heat m_isBad m_isSold m_sealedFeed m_hook m_should m_on m_warmth m_damp m_isOpen m_fFarm m_fFrom m_fWhat m_fTold m_rule m_draft m_tape m_five m_those) H → va_D A (wM ad cB cI cZ cL m_thrown m_today m_legs m_feeds m_taped m_point m_end m_begin m_faultAt m_farm m_pig m_begun m_first m_weight m_salted m_heat m_isBad m_isSold m_sealedFeed m_hook m_should m_on m_warmth m_damp m_isOpen m_fFarm m_fFrom m_fWhat m_fTold m_rule m_draft m_tape m_five m_those) → va_S A s.heap H locs → lv_has ls 8 [(0, .ref (ad 0)), (1, .int v1), (2, .int v2), (3, .int v3), (4, .int v4), (5, .int v5)] → K102 m_thrown m_isSold m_hook m_on m_those v1 v2 v3 v4 v5 → W p l e (headSpec wsX8_order rm_M_X8_order).room s m ([.ref (ad 0), .int p0] : List Value).toArray below meth c H locs 0 0 (MQ below (pq_M_X8_order dC dI ad cB cI cZ cL A m_thrown m_today m_legs m_feeds m_taped m_point m_end m_begin m_faultAt m_farm m_pig m_begun m_first m_weight m_salted m_heat m_isBad m_isSold m_sealedFeed m_hook m_should m_on m_warmth m_damp m_isOpen m_fFarm m_fFrom m_fWhat m_fTold m_rule m_draft m_tape m_five m_those Q) ([.ref (ad 0), .int p0] : List Value).toArray s 0 0 A) (F0 m 102 ls [])) (n : Nat) (m_thrown : Int32) (m_isSold : Nat → Int32) (m_hook : Nat → Int32) (m_on : Nat → Int32) (m_those : Nat → Int32) (v1 : Int32) (v2 : Int32) (v3 : Int32) (v4 : Int32) (v5 : Int32) (v6 : Int32) (v7 : Int32) (H : Heap) (locs : List Loc) (ls : Array Slot), va_P (dC, dI) vwCl (wM ad cB cI cZ cL m_thrown m_today m_legs m_feeds m_taped m_point m_end m_begin m_faultAt m_farm m_pig m_begun m_first m_weight m_salted m_heat m_isBad m_isSold m_sealedFeed m_hook m_should m_on m_warmth m_damp m_isOpen m_fFarm m_fFrom m_fWhat m_fTold m_rule m_draft m_tape m_five m_those) H → va_D A (wM ad cB cI cZ cL m_thrown m_today m_legs m_feeds m_taped m_point m_end m_begin m_faultAt m_farm m_pig m_begun m_first m_weight m_salted m_heat m_isBad m_isSold m_sealedFeed m_hook m_should m_on m_warmth m_damp m_isOpen m_fFarm m_fFrom m_fWhat m_fTold m_rule m_draft m_tape m_five m_those) → va_S A s.heap H locs → lv_has ls 8 [(0, .ref (ad 0)), (1, .int v1), (2, .int v2), (3, .int v3), (4, .int v4), (5, .int v5), (6, .int v6), (7, .int v7)] → lp_M_X8_order_116 m_legs m_weight m_isBad m_sealedFeed Q K102 n m_thrown m_isSold m_hook m_on m_those v1 v2 v3 v4 v5 v6 v7 → W p l e (headSpec wsX8_order rm_M_X8_order).room s m ([.ref (ad 0), .int p0] : List Value).toArray below meth c H locs 0 0 (MQ below (pq_M_X8_order dC dI ad cB cI cZ cL A m_thrown m_today m_legs m_feeds m_taped m_point m_end m_begin m_faultAt m_farm m_pig m_begun m_first m_weight m_salted m_heat m_isBad m_isSold m_sealedFeed m_hook m_should m_on m_warmth m_damp m_isOpen m_fFarm m_fFrom m_fWhat m_fTold m_rule m_draft m_tape m_five m_those Q) ([.ref (ad 0), .int p0] : List Value).toArray s 0 0 A) (F0 m 116 ls []) := by
    intro K102 hK102
    intro n
    induction n with
    | zero => intro m_thrown m_isSold m_hook m_on m_those v1 v2 v3 v4 v5 v6 v7 H locs ls hP hD hS hl h; exact h.elim
    | succ n ih =>
      intro m_thrown m_isSold m_hook m_on m_those v1 v2 v3 v4 v5 v6 v7 H locs ls hP hD hS hl h
      refine lv_iload hx hb dX8_order_116 (lv_at hl 7 rfl) ?_
      refine lv_iload_n hx hb dX8_order_118 rfl (lv_at hl 2 rfl) ?_
      refine lv_icmp_ge (tgt := 160) hx hb dX8_order_119 (by decide) (fun c_16 => ?_) (fun c_16 => ?_)
      · have h := h.1 c_16
        refine lv_iload hx hb dX8_order_160 (lv_at hl 6 rfl) ?_
        refine lv_iload_n hx hb dX8_order_162 rfl (lv_at hl 1 rfl) ?_
        refine lv_icmp_lt (tgt := 206) hx hb dX8_order_163 (by decide) (fun c_17 => ?_) (fun c_17 => ?_)
        · have h := h.1 c_17
          exact hbk_M_X8_order_206 K102 hK102 m_thrown m_isSold m_hook m_on m_those v1 v2 v3 v4 v5 _ _ _ hP hD hS (lv_sub hl [0, 1, 2, 3, 4, 5] rfl) h
        · have h := h.2 c_17
          refine lv_iload_n hx hb dX8_order_166 rfl (lv_at hl 3 rfl) ?_
          refine lv_if_lt (tgt := 199) hx hb dX8_order_167 (by decide) (fun c_18 => ?_) (fun c_18 => ?_)
          · have h := h.1 c_18
            exact hbk_M_X8_order_199 K102 hK102 m_thrown m_isSold m_hook m_on m_those v1 v2 v5 v6 _ _ _ hP hD hS (lv_sub hl [0, 1, 2, 5, 6] rfl) h
          · have h := h.2 c_18
            refine lv_iload hx hb dX8_order_170 (lv_at hl 6 rfl) ?_
            refine lv_iload hx hb dX8_order_172 (lv_at hl 4 rfl) ?_
            refine lv_icmp_gt (tgt := 206) hx hb dX8_order_174 (by decide) (fun c_19 => ?_) (fun c_19 => ?_)
            · have h := h.1 c_19
              exact hbk_M_X8_order_206 K102 hK102 m_thrown m_isSold m_hook m_on m_those v1 v2 v3 v4 v5 _ _ _ hP hD hS (lv_sub hl [0, 1, 2, 3, 4, 5] rfl) h
            · have h := h.2 c_19
              refine lv_iload hx hb dX8_order_177 (lv_at hl 6 rfl) ?_
              refine lv_iload hx hb dX8_order_179 (lv_at hl 4 rfl) ?_
              refine lv_icmp_ne (tgt := 199) hx hb dX8_order_181 (by decide) (fun c_20 => ?_) (fun c_20 => ?_)
              · have h := h.1 c_20
                exact hbk_M_X8_order_199 K102 hK102 m_thrown m_isSold m_hook m_on m_those v1 v2 v5 v6 _ _ _ hP hD hS (lv_sub hl [0, 1, 2, 5, 6] rfl) h
              · have h := h.2 c_20
                refine lv_iload hx hb dX8_order_184 (lv_at hl 5 rfl) ?_
                refine va_calli (va_runS (As := [.int v5]) (rest := []) ⟨hx, hb, hml, hown, hts⟩ (c_M_J6_bitCount_0f7a4 l dC dI ad cB cI cZ cL A m_thrown m_today m_legs m_feeds m_taped m_point m_end m_begin m_faultAt m_farm m_pig m_begun m_first m_weight m_salted m_heat m_isBad m_isSold m_sealedFeed m_hook m_should m_on m_warmth m_damp m_isOpen m_fFarm m_fFrom m_fWhat m_fTold m_rule m_draft m_tape m_five m_those v5 _ h) (va_cwS 1 hts gX8_order_J6_bitCount_0f7a4 rfl rfl rfl (by decide +kernel) ⟨(Nat.le_of_ble_eq_true rfl), (Nat.le_of_ble_eq_true rfl)⟩) ⟨kC_blind, fun U hU hW => ⟨rfl, kC_go hA hS hP hK hD hE U hU hW⟩⟩ rfl rfl hl.1 rfl (lv_room (Nat.le_of_ble_eq_true rfl)) dX8_order_186 ⟨(Nat.le_of_ble_eq_true rfl), (Nat.le_of_ble_eq_true rfl)⟩) hS (fun q _ h => h) (fun q h => h) (fun r_21 u t H locs ht hvm hw hB hz1 hk1 hS => ?_)
                have h := hw
                try dsimp only at h
                have hP : va_P (dC, dI) vwCl (wM ad cB cI cZ cL m_thrown m_today m_legs m_feeds m_taped m_point m_end m_begin m_faultAt m_farm m_pig m_begun m_first m_weight m_salted m_heat m_isBad m_isSold m_sealedFeed m_hook m_should m_on m_warmth m_damp m_isOpen m_fFarm m_fFrom m_fWhat m_fTold m_rule m_draft m_tape m_five m_those) H := by rw [← ht]; exact hB.1
                have hD : va_D A (wM ad cB cI cZ cL m_thrown m_today m_legs m_feeds m_taped m_point m_end m_begin m_faultAt m_farm m_pig m_begun m_first m_weight m_salted m_heat m_isBad m_isSold m_sealedFeed m_hook m_should m_on m_warmth m_damp m_isOpen m_fFarm m_fFrom m_fWhat m_fTold m_rule m_draft m_tape m_five m_those) := hB.2.2
                refine lv_iload_n hx hb dX8_order_189 rfl (lv_at hl 3 rfl) ?_
                refine va_calli (va_runS (As := [.int v3]) (rest := [.int r_21]) ⟨hx, hb, hml, hown, hts⟩ (c_M_J6_bitCount_0f7a4 l dC dI ad cB cI cZ cL A m_thrown m_today m_legs m_feeds m_taped m_point m_end m_begin m_faultAt m_farm m_pig m_begun m_first m_weight m_salted m_heat m_isBad m_isSold m_sealedFeed m_hook m_should m_on m_warmth m_damp m_isOpen m_fFarm m_fFrom m_fWhat m_fTold m_rule m_draft m_tape m_five m_those v3 _ h) (va_cwS 1 hts gX8_order_J6_bitCount_0f7a4 rfl rfl rfl (by decide +kernel) ⟨(Nat.le_of_ble_eq_true rfl), (Nat.le_of_ble_eq_true rfl)⟩) ⟨kC_blind, fun U hU hW => ⟨rfl, kC_go hA hS hP hK hD hE U hU hW⟩⟩ rfl rfl hl.1 rfl (lv_room (Nat.le_of_ble_eq_true rfl)) dX8_order_190 ⟨(Nat.le_of_ble_eq_true rfl), (Nat.le_of_ble_eq_true rfl)⟩) hS (fun q _ h => h) (fun q h => h) (fun r_22 u t H locs ht hvm hw hB hz1 hk1 hS => ?_)
                have h := hw
                try dsimp only at h
                have hP : va_P (dC, dI) vwCl (wM ad cB cI cZ cL m_thrown m_today m_legs m_feeds m_taped m_point m_end m_begin m_faultAt m_farm m_pig m_begun m_first m_weight m_salted m_heat m_isBad m_isSold m_sealedFeed m_hook m_should m_on m_warmth m_damp m_isOpen m_fFarm m_fFrom m_fWhat m_fTold m_rule m_draft m_tape m_five m_those) H := by rw [← ht]; exact hB.1
                have hD : va_D A (wM ad cB cI cZ cL m_thrown m_today m_legs m_feeds m_taped m_point m_end m_begin m_faultAt m_farm m_pig m_begun m_first m_weight m_salted m_heat m_isBad m_isSold m_sealedFeed m_hook m_should m_on m_warmth m_damp m_isOpen m_fFarm m_fFrom m_fWhat m_fTold m_rule m_draft m_tape m_five m_those) := hB.2.2
                refine lv_icmp_lt (tgt := 199) hx hb dX8_order_193 (by decide) (fun c_23 => ?_) (fun c_23 => ?_)
                · have h := h.1 c_23
                  exact hbk_M_X8_order_199 K102 hK102 m_thrown m_isSold m_hook m_on m_those v1 v2 v5 v6 _ _ _ hP hD hS (lv_sub hl [0, 1, 2, 5, 6] rfl) h
                · have h := h.2 c_23
                  refine lv_goto (tgt := 206) hx hb dX8_order_196 (by decide) ?_
                  exact hbk_M_X8_order_206 K102 hK102 m_thrown m_isSold m_hook m_on m_those v1 v2 v3 v4 v5 _ _ _ hP hD hS (lv_sub hl [0, 1, 2, 3, 4, 5] rfl) h
      · have h := h.2 c_16
        refine lv_iload hx hb dX8_order_122 (lv_at hl 6 rfl) ?_
        refine lv_iload hx hb dX8_order_124 (lv_at hl 5 rfl) ?_
        refine lv_iload hx hb dX8_order_126 (lv_at hl 7 rfl) ?_
        refine lv_ishr hx hb dX8_order_128 ?_
        refine lv_iconst (v := 1) hx hb dX8_order_129 (by decide) ?_
        refine lv_iand hx hb dX8_order_130 ?_
        refine lv_iconst (v := 1) hx hb dX8_order_131 (by decide) ?_
        refine lv_icmp_ne (tgt := 150) hx hb dX8_order_132 (by decide) (fun c_24 => ?_) (fun c_24 => ?_)
        · have h := h.1 c_24
          refine lv_iconst (v := 0) hx hb dX8_order_150 (by decide) ?_
          exact hbk_M_X8_order_151 K102 hK102 (lp_M_X8_order_116 m_legs m_weight m_isBad m_sealedFeed Q K102 n) ih m_thrown m_isSold m_hook m_on m_those v1 v2 v3 v4 v5 v7 0 v6 _ _ _ hP hD hS (lv_sub hl [0, 1, 2, 3, 4, 5, 7] rfl) h
        · have h := h.2 c_24
          refine lv_aload_n hx hb dX8_order_135 rfl (lv_at hl 0 rfl) ?_
          refine va_get (D := (dC, dI)) (ci := 8) (v := .ref (ad 5)) (C := RX8) (T := TX8) (N := 34) hx hb hts hk_1 hown hK hP 0 wM_g0 rfl 6 (by decide) hk_6 (fun _ h9 => h9) rfl dX8_order_136 ?_
          refine lv_aload_n hx hb dX8_order_139 rfl (lv_at hl 0 rfl) ?_
          refine va_get (D := (dC, dI)) (ci := 8) (v := .ref (ad 25)) (C := RX8) (T := TX8) (N := 34) hx hb hts hk_1 hown hK hP 0 wM_g0 rfl 33 (by decide) hk_4 (fun _ h9 => h9) rfl dX8_order_140 ?_
          refine lv_iload hx hb dX8_order_143 (lv_at hl 7 rfl) ?_
          have hi_25 := h.1
          have h := h.2
          refine va_iald hx hb hK hP 25 1 wM_g25 rfl hi_25 dX8_order_145 ?_
          have hi_26 := h.1
          have h := h.2
          refine va_iald hx hb hK hP 5 1 wM_g5 rfl hi_26 dX8_order_146 ?_
          refine lv_goto (tgt := 151) hx hb dX8_order_147 (by decide) ?_
          exact hbk_M_X8_order_151 K102 hK102 (lp_M_X8_order_116 m_legs m_weight m_isBad m_sealedFeed Q K102 n) ih m_thrown m_isSold m_hook m_on m_those v1 v2 v3 v4 v5 v7 (m_weight (m_those v7.toNatClampNeg).toNatClampNeg) v6 _ _ _ hP hD hS (lv_sub hl [0, 1, 2, 3, 4, 5, 7] rfl) h
  have hlp_M_X8_order_102 : ∀ (n : Nat) (m_thrown : Int32) (m_isSold : Nat → Int32) (m_hook : Nat → Int32) (m_on : Nat → Int32) (m_those : Nat → Int32) (v1 : Int32) (v2 : Int32) (v3 : Int32) (v4 : Int32) (v5 : Int32) (H : Heap) (locs : List Loc) (ls : Array Slot), va_P (dC, dI) vwCl (wM ad cB cI cZ cL m_thrown m_today m_legs m_feeds m_taped m_point m_end m_begin m_faultAt m_farm m_pig m_begun m_first m_weight m_salted m_heat m_isBad m_isSold m_sealedFeed m_hook m_should m_on m_warmth m_damp m_isOpen m_fFarm m_fFrom m_fWhat m_fTold m_rule m_draft m_tape m_five m_those) H → va_D A (wM ad cB cI cZ cL m_thrown m_today m_legs m_feeds m_taped m_point m_end m_begin m_faultAt m_farm m_pig m_begun m_first m_weight m_salted m_heat m_isBad m_isSold m_sealedFeed m_hook m_should m_on m_warmth m_damp m_isOpen m_fFarm m_fFrom m_fWhat m_fTold m_rule m_draft m_tape m_five m_those) → va_S A s.heap H locs → lv_has ls 8 [(0, .ref (ad 0)), (1, .int v1), (2, .int v2), (3, .int v3), (4, .int v4), (5, .int v5)] → lp_M_X8_order_102 m_legs m_weight m_isBad m_sealedFeed Q n m_thrown m_isSold m_hook m_on m_those v1 v2 v3 v4 v5 → W p l e (headSpec wsX8_order rm_M_X8_order).room s m ([.ref (ad 0), .int p0] : List Value).toArray below meth c H locs 0 0 (MQ below (pq_M_X8_order dC dI ad cB cI cZ cL A m_thrown m_today m_legs m_feeds m_taped m_point m_end m_begin m_faultAt m_farm m_pig m_begun m_first m_weight m_salted m_heat m_isBad m_isSold m_sealedFeed m_hook m_should m_on m_warmth m_damp m_isOpen m_fFarm m_fFrom m_fWhat m_fTold m_rule m_draft m_tape m_five m_those Q) ([.ref (ad 0), .int p0] : List Value).toArray s 0 0 A) (F0 m 102 ls []) := by
    intro n
    induction n with
    | zero => intro m_thrown m_isSold m_hook m_on m_those v1 v2 v3 v4 v5 H locs ls hP hD hS hl h; exact h.elim
    | succ n ih =>
      intro m_thrown m_isSold m_hook m_on m_those v1 v2 v3 v4 v5 H locs ls hP hD hS hl h
      refine lv_iload hx hb dX8_order_102 (lv_at hl 5 rfl) ?_
      refine lv_iconst (v := 1) hx hb dX8_order_104 (by decide) ?_
      refine lv_iload_n hx hb dX8_order_105 rfl (lv_at hl 2 rfl) ?_
      refine lv_ishl hx hb dX8_order_106 ?_
      refine lv_icmp_ge (tgt := 212) hx hb dX8_order_107 (by decide) (fun c_6 => ?_) (fun c_6 => ?_)
      · have h := h.1 c_6
        refine lv_iload_n hx hb dX8_order_212 rfl (lv_at hl 3 rfl) ?_
        refine lv_if_ge (tgt := 218) hx hb dX8_order_213 (by decide) (fun c_7 => ?_) (fun c_7 => ?_)
        · have h := h.1 c_7
          refine lv_iconst (v := 0) hx hb dX8_order_218 (by decide) ?_
          refine lv_istore (lv' := [(5, .int 0), (0, .ref (ad 0)), (1, .int v1), (2, .int v2), (3, .int v3), (4, .int v4)]) hx hb dX8_order_219 hl (by decide) rfl (fun ls hl => ?_)
          obtain ⟨n_15, h⟩ := h
          exact hlp_M_X8_order_221 n_15 m_thrown m_isSold m_hook m_on m_those v2 v3 0 _ _ _ hP hD hS (lv_sub hl [1, 3, 4, 0] rfl) h
        · have h := h.2 c_7
          refine lv_iconst (v := (-1)) hx hb dX8_order_216 (by decide) ?_
          exact W.iret (v := (-1)) hx hb hr (fun t ht hW => ⟨⟨(-1), (m_thrown, m_isSold, m_hook, m_on, m_those), rfl, h, kB_mk hP hK hD ht hW.alike⟩, hS.F ht⟩) hS.2.2 dX8_order_217
      · have h := h.2 c_6
        refine lv_iconst (v := 0) hx hb dX8_order_110 (by decide) ?_
        refine lv_istore (lv' := [(6, .int 0), (0, .ref (ad 0)), (1, .int v1), (2, .int v2), (3, .int v3), (4, .int v4), (5, .int v5)]) hx hb dX8_order_111 hl (by decide) rfl (fun ls hl => ?_)
        refine lv_iconst (v := 0) hx hb dX8_order_113 (by decide) ?_
        refine lv_istore (lv' := [(7, .int 0), (6, .int 0), (0, .ref (ad 0)), (1, .int v1), (2, .int v2), (3, .int v3), (4, .int v4), (5, .int v5)]) hx hb dX8_order_114 hl (by decide) rfl (fun ls hl => ?_)
        obtain ⟨n_27, h⟩ := h
        exact hlp_M_X8_order_116 (lp_M_X8_order_102 m_legs m_weight m_isBad m_sealedFeed Q n) ih n_27 m_thrown m_isSold m_hook m_on m_those v1 v2 v3 v4 v5 0 0 _ _ _ hP hD hS (lv_sub hl [2, 3, 4, 5, 6, 7, 1, 0] rfl) h
  have hbk_M_X8_order_94 : ∀ (m_thrown : Int32) (m_isSold : Nat → Int32) (m_hook : Nat → Int32) (m_on : Nat → Int32) (m_those : Nat → Int32) (v1 : Int32) (v2 : Int32) (H : Heap) (locs : List Loc) (ls : Array Slot), va_P (dC, dI) vwCl (wM ad cB cI cZ cL m_thrown m_today m_legs m_feeds m_taped m_point m_end m_begin m_faultAt m_farm m_pig m_begun m_first m_weight m_salted m_heat m_isBad m_isSold m_sealedFeed m_hook m_should m_on m_warmth m_damp m_isOpen m_fFarm m_fFrom m_fWhat m_fTold m_rule m_draft m_tape m_five m_those) H → va_D A (wM ad cB cI cZ cL m_thrown m_today m_legs m_feeds m_taped m_point m_end m_begin m_faultAt m_farm m_pig m_begun m_first m_weight m_salted m_heat m_isBad m_isSold m_sealedFeed m_hook m_should m_on m_warmth m_damp m_isOpen m_fFarm m_fFrom m_fWhat m_fTold m_rule m_draft m_tape m_five m_those) → va_S A s.heap H locs → lv_has ls 8 [(0, .ref (ad 0)), (1, .int v1), (2, .int v2)] → bk_M_X8_order_94 m_legs m_weight m_isBad m_sealedFeed Q m_thrown m_isSold m_hook m_on m_those v1 v2 → W p l e (headSpec wsX8_order rm_M_X8_order).room s m ([.ref (ad 0), .int p0] : List Value).toArray below meth c H locs 0 0 (MQ below (pq_M_X8_order dC dI ad cB cI cZ cL A m_thrown m_today m_legs m_feeds m_taped m_point m_end m_begin m_faultAt m_farm m_pig m_begun m_first m_weight m_salted m_heat m_isBad m_isSold m_sealedFeed m_hook m_should m_on m_warmth m_damp m_isOpen m_fFarm m_fFrom m_fWhat m_fTold m_rule m_draft m_tape m_five m_those Q) ([.ref (ad 0), .int p0] : List Value).toArray s 0 0 A) (F0 m 94 ls []) := by
    intro m_thrown m_isSold m_hook m_on m_those v1 v2 H locs ls hP hD hS hl h
    refine lv_iconst (v := (-1)) hx hb dX8_order_94 (by decide) ?_
    refine lv_istore_n (lv' := [(3, .int (-1)), (0, .ref (ad 0)), (1, .int v1), (2, .int v2)]) hx hb dX8_order_95 rfl hl (by decide) rfl (fun ls hl => ?_)
    refine lv_iconst (v := 0) hx hb dX8_order_96 (by decide) ?_
    refine lv_istore (lv' := [(4, .int 0), (3, .int (-1)), (0, .ref (ad 0)), (1, .int v1), (2, .int v2)]) hx hb dX8_order_97 hl (by decide) rfl (fun ls hl => ?_)
    refine lv_iconst (v := 1) hx hb dX8_order_99 (by decide) ?_
    refine lv_istore (lv' := [(5, .int 1), (4, .int 0), (3, .int (-1)), (0, .ref (ad 0)), (1, .int v1), (2, .int v2)]) hx hb dX8_order_100 hl (by decide) rfl (fun ls hl => ?_)
    obtain ⟨n_28, h⟩ := h
    exact hlp_M_X8_order_102 n_28 m_thrown m_isSold m_hook m_on m_those v1 v2 (-1) 0 1 _ _ _ hP hD hS (lv_sub hl [3, 4, 5, 2, 1, 0] rfl) h
  have hbk_M_X8_order_88 : ∀ (K34 : Int32 → (Nat → Int32) → (Nat → Int32) → (Nat → Int32) → (Nat → Int32) → Int32 → Int32 → Int32 → Prop) (hK34 : ∀ (m_thrown : Int32) (m_isSold : Nat → Int32) (m_hook : Nat → Int32) (m_on : Nat → Int32) (m_those : Nat → Int32) (v1 : Int32) (v2 : Int32) (v3 : Int32) (H : Heap) (locs : List Loc) (ls : Array Slot), va_P (dC, dI) vwCl (wM ad cB cI cZ cL m_thrown m_today m_legs m_feeds m_taped m_point m_end m_begin m_faultAt m_farm m_pig m_begun m_first m_weight m_salted m_heat m_isBad m_isSold m_sealedFeed m_hook m_should m_on m_warmth m_damp m_isOpen m_fFarm m_fFrom m_fWhat m_fTold m_rule m_draft m_tape m_five m_those) H → va_D A (wM ad cB cI cZ cL m_thrown m_today m_legs m_feeds m_taped m_point m_end m_begin m_faultAt m_farm m_pig m_begun m_first m_weight m_salted m_heat m_isBad m_isSold m_sealedFeed m_hook m_should m_on m_warmth m_damp m_isOpen m_fFarm m_fFrom m_fWhat m_fTold m_rule m_draft m_tape m_five m_those) → va_S A s.heap H locs → lv_has ls 8 [(0, .ref (ad 0)), (1, .int v1), (2, .int v2), (3, .int v3)] → K34 m_thrown m_isSold m_hook m_on m_those v1 v2 v3 → W p l e (headSpec wsX8_order rm_M_X8_order).room s m ([.ref (ad 0), .int p0] : List Value).toArray below meth c H locs 0 0 (MQ below (pq_M_X8_order dC dI ad cB cI cZ cL A m_thrown m_today m_legs m_feeds m_taped m_point m_end m_begin m_faultAt m_farm m_pig m_begun m_first m_weight m_salted m_heat m_isBad m_isSold m_sealedFeed m_hook m_should m_on m_warmth m_damp m_isOpen m_fFarm m_fFrom m_fWhat m_fTold m_rule m_draft m_tape m_five m_those Q) ([.ref (ad 0), .int p0] : List Value).toArray s 0 0 A) (F0 m 34 ls [])) (m_thrown : Int32) (m_isSold : Nat → Int32) (m_hook : Nat → Int32) (m_on : Nat → Int32) (m_those : Nat → Int32) (v1 : Int32) (v2 : Int32) (v3 : Int32) (H : Heap) (locs : List Loc) (ls : Array Slot), va_P (dC, dI) vwCl (wM ad cB cI cZ cL m_thrown m_today m_legs m_feeds m_taped m_point m_end m_begin m_faultAt m_farm m_pig m_begun m_first m_weight m_salted m_heat m_isBad m_isSold m_sealedFeed m_hook m_should m_on m_warmth m_damp m_isOpen m_fFarm m_fFrom m_fWhat m_fTold m_rule m_draft m_tape m_five m_those) H → va_D A (wM ad cB cI cZ cL m_thrown m_today m_legs m_feeds m_taped m_point m_end m_begin m_faultAt m_farm m_pig m_begun m_first m_weight m_salted m_heat m_isBad m_isSold m_sealedFeed m_hook m_should m_on m_warmth m_damp m_isOpen m_fFarm m_fFrom m_fWhat m_fTold m_rule m_draft m_tape m_five m_those) → va_S A s.heap H locs → lv_has ls 8 [(0, .ref (ad 0)), (1, .int v1), (2, .int v2), (3, .int v3)] → bk_M_X8_order_88 m_legs m_weight m_isBad m_sealedFeed Q K34 m_thrown m_isSold m_hook m_on m_those v1 v2 v3 → W p l e (headSpec wsX8_order rm_M_X8_order).room s m ([.ref (ad 0), .int p0] : List Value).toArray below meth c H locs 0 0 (MQ below (pq_M_X8_order dC dI ad cB cI cZ cL A m_thrown m_today m_legs m_feeds m_taped m_point m_end m_begin m_faultAt m_farm m_pig m_begun m_first m_weight m_salted m_heat m_isBad m_isSold m_sealedFeed m_hook m_should m_on m_warmth m_damp m_isOpen m_fFarm m_fFrom m_fWhat m_fTold m_rule m_draft m_tape m_five m_those Q) ([.ref (ad 0), .int p0] : List Value).toArray s 0 0 A) (F0 m 88 ls []) := by
    intro K34 hK34 m_thrown m_isSold m_hook m_on m_those v1 v2 v3 H locs ls hP hD hS hl h
    refine lv_iinc (v := v3 + 1) (lv' := [(3, .int (v3 + 1)), (0, .ref (ad 0)), (1, .int v1), (2, .int v2)]) hx hb dX8_order_88 hl (k := 3) rfl rfl (by decide) rfl (fun ls hl => ?_)
    refine lv_goto (tgt := 34) hx hb dX8_order_91 (by decide) ?_
    exact hK34 m_thrown m_isSold m_hook m_on m_those v1 v2 (v3 + 1) _ _ _ hP hD hS (lv_sub hl [1, 2, 3, 0] rfl) h
  have hlp_M_X8_order_34 : ∀ (n : Nat) (m_thrown : Int32) (m_isSold : Nat → Int32) (m_hook : Nat → Int32) (m_on : Nat → Int32) (m_those : Nat → Int32) (v1 : Int32) (v2 : Int32) (v3 : Int32) (H : Heap) (locs : List Loc) (ls : Array Slot), va_P (dC, dI) vwCl (wM ad cB cI cZ cL m_thrown m_today m_legs m_feeds m_taped m_point m_end m_begin m_faultAt m_farm m_pig m_begun m_first m_weight m_salted m_heat m_isBad m_isSold m_sealedFeed m_hook m_should m_on m_warmth m_damp m_isOpen m_fFarm m_fFrom m_fWhat m_fTold m_rule m_draft m_tape m_five m_those) H → va_D A (wM ad cB cI cZ cL m_thrown m_today m_legs m_feeds m_taped m_point m_end m_begin m_faultAt m_farm m_pig m_begun m_first m_weight m_salted m_heat m_isBad m_isSold m_sealedFeed m_hook m_should m_on m_warmth m_damp m_isOpen m_fFarm m_fFrom m_fWhat m_fTold m_rule m_draft m_tape m_five m_those) → va_S A s.heap H locs → lv_has ls 8 [(0, .ref (ad 0)), (1, .int v1), (2, .int v2), (3, .int v3)] → lp_M_X8_order_34 m_legs m_weight m_isBad m_sealedFeed Q n m_thrown m_isSold m_hook m_on m_those v1 v2 v3 → W p l e (headSpec wsX8_order rm_M_X8_order).room s m ([.ref (ad 0), .int p0] : List Value).toArray below meth c H locs 0 0 (MQ below (pq_M_X8_order dC dI ad cB cI cZ cL A m_thrown m_today m_legs m_feeds m_taped m_point m_end m_begin m_faultAt m_farm m_pig m_begun m_first m_weight m_salted m_heat m_isBad m_isSold m_sealedFeed m_hook m_should m_on m_warmth m_damp m_isOpen m_fFarm m_fFrom m_fWhat m_fTold m_rule m_draft m_tape m_five m_those Q) ([.ref (ad 0), .int p0] : List Value).toArray s 0 0 A) (F0 m 34 ls []) := by
    intro n
    induction n with
    | zero => intro m_thrown m_isSold m_hook m_on m_those v1 v2 v3 H locs ls hP hD hS hl h; exact h.elim
    | succ n ih =>
      intro m_thrown m_isSold m_hook m_on m_those v1 v2 v3 H locs ls hP hD hS hl h
      refine lv_iload_n hx hb dX8_order_34 rfl (lv_at hl 3 rfl) ?_
      refine lv_aload_n hx hb dX8_order_35 rfl (lv_at hl 0 rfl) ?_
      refine va_get (D := (dC, dI)) (ci := 8) (v := .int m_legs) (C := RX8) (T := TX8) (N := 34) hx hb hts hk_1 hown hK hP 0 wM_g0 rfl 14 (by decide) hk_3 (fun _ h9 => h9) rfl dX8_order_36 ?_
      refine lv_icmp_ge (tgt := 94) hx hb dX8_order_39 (by decide) (fun c_5 => ?_) (fun c_5 => ?_)
      · have h := h.1 c_5
        exact hbk_M_X8_order_94 m_thrown m_isSold m_hook m_on m_those v1 v2 _ _ _ hP hD hS (lv_sub hl [0, 1, 2] rfl) h
      · have h := h.2 c_5
        refine lv_iload_n hx hb dX8_order_42 rfl (lv_at hl 2 rfl) ?_
        refine lv_bipush (v := 14) hx hb dX8_order_43 (by decide) ?_
        refine lv_icmp_ge (tgt := 94) hx hb dX8_order_45 (by decide) (fun c_29 => ?_) (fun c_29 => ?_)
        · have h := h.1 c_29
          exact hbk_M_X8_order_94 m_thrown m_isSold m_hook m_on m_those v1 v2 _ _ _ hP hD hS (lv_sub hl [0, 1, 2] rfl) h
        · have h := h.2 c_29
          refine lv_aload_n hx hb dX8_order_48 rfl (lv_at hl 0 rfl) ?_
          refine va_get (D := (dC, dI)) (ci := 8) (v := .ref (ad 10)) (C := RX8) (T := TX8) (N := 34) hx hb hts hk_1 hown hK hP 0 wM_g0 rfl 11 (by decide) hk_7 (fun _ h9 => h9) rfl dX8_order_49 ?_
          refine lv_iload_n hx hb dX8_order_52 rfl (lv_at hl 3 rfl) ?_
          have hi_30 := h.1
          have h := h.2
          refine va_iald hx hb hK hP 10 1 wM_g10 rfl hi_30 dX8_order_53 ?_
          refine lv_if_lt (tgt := 88) hx hb dX8_order_54 (by decide) (fun c_31 => ?_) (fun c_31 => ?_)
          · have h := h.1 c_31
            exact hbk_M_X8_order_88 (lp_M_X8_order_34 m_legs m_weight m_isBad m_sealedFeed Q n) ih m_thrown m_isSold m_hook m_on m_those v1 v2 v3 _ _ _ hP hD hS (lv_sub hl [0, 1, 2, 3] rfl) h
          · have h := h.2 c_31
            refine lv_aload_n hx hb dX8_order_57 rfl (lv_at hl 0 rfl) ?_
            refine va_get (D := (dC, dI)) (ci := 8) (v := .ref (ad 11)) (C := RX8) (T := TX8) (N := 34) hx hb hts hk_1 hown hK hP 0 wM_g0 rfl 12 (by decide) hk_8 (fun _ h9 => h9) rfl dX8_order_58 ?_
            refine lv_iload_n hx hb dX8_order_61 rfl (lv_at hl 3 rfl) ?_
            have hi_32 := h.1
            have h := h.2
            refine va_iald hx hb hK hP 11 1 wM_g11 rfl hi_32 dX8_order_62 ?_
            refine lv_if_lt (tgt := 88) hx hb dX8_order_63 (by decide) (fun c_33 => ?_) (fun c_33 => ?_)
            · have h := h.1 c_33
              exact hbk_M_X8_order_88 (lp_M_X8_order_34 m_legs m_weight m_isBad m_sealedFeed Q n) ih m_thrown m_isSold m_hook m_on m_those v1 v2 v3 _ _ _ hP hD hS (lv_sub hl [0, 1, 2, 3] rfl) h
            · have h := h.2 c_33
              refine lv_aload_n hx hb dX8_order_66 rfl (lv_at hl 0 rfl) ?_
              refine va_get (D := (dC, dI)) (ci := 8) (v := .ref (ad 8)) (C := RX8) (T := TX8) (N := 34) hx hb hts hk_1 hown hK hP 0 wM_g0 rfl 9 (by decide) hk_9 (fun _ h9 => h9) rfl dX8_order_67 ?_
              refine lv_iload_n hx hb dX8_order_70 rfl (lv_at hl 3 rfl) ?_
              have hi_34 := h.1
              have h := h.2
              refine va_zald hx hb hK hP 8 2 wM_g8 rfl hi_34 dX8_order_71 ?_
              refine lv_if_eq (tgt := 78) hx hb dX8_order_72 (by decide) (fun c_35 => ?_) (fun c_35 => ?_)
              · have h := h.1 c_35
                refine lv_aload_n hx hb dX8_order_78 rfl (lv_at hl 0 rfl) ?_
                refine va_get (D := (dC, dI)) (ci := 8) (v := .ref (ad 25)) (C := RX8) (T := TX8) (N := 34) hx hb hts hk_1 hown hK hP 0 wM_g0 rfl 33 (by decide) hk_4 (fun _ h9 => h9) rfl dX8_order_79 ?_
                refine lv_iload_n hx hb dX8_order_82 rfl (lv_at hl 2 rfl) ?_
                refine lv_iload_n hx hb dX8_order_83 rfl (lv_at hl 3 rfl) ?_
                have hi_36 := h.1
                have h := h.2
                refine va_iast hx hb hK hP hD hS 25 1 wM_g25 rfl hi_36 dX8_order_84 (fun H locs hP2 hD2 hS => ?_)
                have hP : va_P (dC, dI) vwCl (wM ad cB cI cZ cL m_thrown m_today m_legs m_feeds m_taped m_point m_end m_begin m_faultAt m_farm m_pig m_begun m_first m_weight m_salted m_heat m_isBad m_isSold m_sealedFeed m_hook m_should m_on m_warmth m_damp m_isOpen m_fFarm m_fFrom m_fWhat m_fTold m_rule m_draft m_tape m_five (upd m_those v2.toNatClampNeg v3)) H := hP_eq (wM_p_m_those) hP2
                have hD : va_D A (wM ad cB cI cZ cL m_thrown m_today m_legs m_feeds m_taped m_point m_end m_begin m_faultAt m_farm m_pig m_begun m_first m_weight m_salted m_heat m_isBad m_isSold m_sealedFeed m_hook m_should m_on m_warmth m_damp m_isOpen m_fFarm m_fFrom m_fWhat m_fTold m_rule m_draft m_tape m_five (upd m_those v2.toNatClampNeg v3)) := hD_eq (wM_p_m_those) hD2
                refine lv_iinc (v := v2 + 1) (lv' := [(2, .int (v2 + 1)), (0, .ref (ad 0)), (1, .int v1), (3, .int v3)]) hx hb dX8_order_85 hl (k := 2) rfl rfl (by decide) rfl (fun ls hl => ?_)
                exact hbk_M_X8_order_88 (lp_M_X8_order_34 m_legs m_weight m_isBad m_sealedFeed Q n) ih m_thrown m_isSold m_hook m_on (upd m_those v2.toNatClampNeg v3) v1 (v2 + 1) v3 _ _ _ hP hD hS (lv_sub hl [1, 2, 0, 3] rfl) h
              · have h := h.2 c_35
                refine lv_goto (tgt := 88) hx hb dX8_order_75 (by decide) ?_
                exact hbk_M_X8_order_88 (lp_M_X8_order_34 m_legs m_weight m_isBad m_sealedFeed Q n) ih m_thrown m_isSold m_hook m_on m_those v1 v2 v3 _ _ _ hP hD hS (lv_sub hl [0, 1, 2, 3] rfl) h
  have hbk_M_X8_order_21 : ∀ (m_thrown : Int32) (m_isSold : Nat → Int32) (m_hook : Nat → Int32) (m_on : Nat → Int32) (m_those : Nat → Int32) (v1 : Int32) (k0 : Int32) (H : Heap) (locs : List Loc) (ls : Array Slot), va_P (dC, dI) vwCl (wM ad cB cI cZ cL m_thrown m_today m_legs m_feeds m_taped m_point m_end m_begin m_faultAt m_farm m_pig m_begun m_first m_weight m_salted m_heat m_isBad m_isSold m_sealedFeed m_hook m_should m_on m_warmth m_damp m_isOpen m_fFarm m_fFrom m_fWhat m_fTold m_rule m_draft m_tape m_five m_those) H → va_D A (wM ad cB cI cZ cL m_thrown m_today m_legs m_feeds m_taped m_point m_end m_begin m_faultAt m_farm m_pig m_begun m_first m_weight m_salted m_heat m_isBad m_isSold m_sealedFeed m_hook m_should m_on m_warmth m_damp m_isOpen m_fFarm m_fFrom m_fWhat m_fTold m_rule m_draft m_tape m_five m_those) → va_S A s.heap H locs → lv_has ls 8 [(0, .ref (ad 0)), (1, .int v1)] → bk_M_X8_order_21 m_legs m_weight m_isBad m_sealedFeed Q m_thrown m_isSold m_hook m_on m_those v1 k0 → W p l e (headSpec wsX8_order rm_M_X8_order).room s m ([.ref (ad 0), .int p0] : List Value).toArray below meth c H locs 0 0 (MQ below (pq_M_X8_order dC dI ad cB cI cZ cL A m_thrown m_today m_legs m_feeds m_taped m_point m_end m_begin m_faultAt m_farm m_pig m_begun m_first m_weight m_salted m_heat m_isBad m_isSold m_sealedFeed m_hook m_should m_on m_warmth m_damp m_isOpen m_fFarm m_fFrom m_fWhat m_fTold m_rule m_draft m_tape m_five m_those Q) ([.ref (ad 0), .int p0] : List Value).toArray s 0 0 A) (F0 m 21 ls [.int k0, .ref (ad 0)]) := by
    intro m_thrown m_isSold m_hook m_on m_those v1 k0 H locs ls hP hD hS hl h
    have h : wp_M_X8_throwsIf (fun r_3 m_thrown_3 => ((r_3 = 0 → (∃ n_37, lp_M_X8_order_34 m_legs m_weight m_isBad m_sealedFeed Q n_37 m_thrown_3 m_isSold m_hook m_on m_those v1 0 0)) ∧ (¬ (r_3 = 0) → Q 0 m_thrown_3 m_isSold m_hook m_on m_those))) m_thrown k0 1 := h
    refine lv_iconst (v := 1) hx hb dX8_order_21 (by decide) ?_
    refine va_calli (va_runV (As := [.int k0, .int 1]) (rest := []) ⟨hx, hb, hml, hown, hts⟩ (c_M_X8_throwsIf l dC dI ad cB cI cZ cL A m_thrown m_today m_legs m_feeds m_taped m_point m_end m_begin m_faultAt m_farm m_pig m_begun m_first m_weight m_salted m_heat m_isBad m_isSold m_sealedFeed m_hook m_should m_on m_warmth m_damp m_isOpen m_fFarm m_fFrom m_fWhat m_fTold m_rule m_draft m_tape m_five m_those k0 1 _ h) (cwV 2 hts gX8_order_X8_throwsIf rfl rfl rfl (by decide +kernel) ⟨(Nat.le_of_ble_eq_true rfl), (Nat.le_of_ble_eq_true rfl)⟩) ⟨kC_blind, va_recv hK hP (ci := 8) (q0 := 0) rfl wM_g0, fun U hU hW => ⟨rfl, kC_go hA hS hP hK hD hE U hU hW⟩⟩ rfl rfl hl.1 rfl (lv_room (Nat.le_of_ble_eq_true rfl)) dX8_order_22 ⟨(Nat.le_of_ble_eq_true rfl), (Nat.le_of_ble_eq_true rfl)⟩) hS (fun q _ h => h) (fun q h => h) (fun r_3 u t H locs ht hvm hw hB hz1 hk1 hS => ?_)
    obtain ⟨m_thrown_3, rfl⟩ : ∃ z, z = u := ⟨_, rfl⟩
    have h := hw
    try dsimp only at h
    have hP : va_P (dC, dI) vwCl (wM ad cB cI cZ cL m_thrown_3 m_today m_legs m_feeds m_taped m_point m_end m_begin m_faultAt m_farm m_pig m_begun m_first m_weight m_salted m_heat m_isBad m_isSold m_sealedFeed m_hook m_should m_on m_warmth m_damp m_isOpen m_fFarm m_fFrom m_fWhat m_fTold m_rule m_draft m_tape m_five m_those) H := by rw [← ht]; exact hB.1
    have hD : va_D A (wM ad cB cI cZ cL m_thrown_3 m_today m_legs m_feeds m_taped m_point m_end m_begin m_faultAt m_farm m_pig m_begun m_first m_weight m_salted m_heat m_isBad m_isSold m_sealedFeed m_hook m_should m_on m_warmth m_damp m_isOpen m_fFarm m_fFrom m_fWhat m_fTold m_rule m_draft m_tape m_five m_those) := hB.2.2
    refine lv_if_eq (tgt := 30) hx hb dX8_order_25 (by decide) (fun c_4 => ?_) (fun c_4 => ?_)
    · have h := h.1 c_4
      refine lv_iconst (v := 0) hx hb dX8_order_30 (by decide) ?_
      refine lv_istore_n (lv' := [(2, .int 0), (0, .ref (ad 0)), (1, .int v1)]) hx hb dX8_order_31 rfl hl (by decide) rfl (fun ls hl => ?_)
      refine lv_iconst (v := 0) hx hb dX8_order_32 (by decide) ?_
      refine lv_istore_n (lv' := [(3, .int 0), (2, .int 0), (0, .ref (ad 0)), (1, .int v1)]) hx hb dX8_order_33 rfl hl (by decide) rfl (fun ls hl => ?_)
      obtain ⟨n_37, h⟩ := h
      exact hlp_M_X8_order_34 n_37 m_thrown_3 m_isSold m_hook m_on m_those v1 0 0 _ _ _ hP hD hS (lv_sub hl [2, 3, 1, 0] rfl) h
    · have h := h.2 c_4
      refine lv_iconst (v := 0) hx hb dX8_order_28 (by decide) ?_
      exact W.iret (v := 0) hx hb hr (fun t ht hW => ⟨⟨0, (m_thrown_3, m_isSold, m_hook, m_on, m_those), rfl, h, kB_mk hP hK hD ht hW.alike⟩, hS.F ht⟩) hS.2.2 dX8_order_29
  have hl := lv_entry ([.ref (ad 0), .int p0]) (n := 8) (Nat.le_of_ble_eq_true rfl)
  rw [lg_entry_eq]
  generalize (lg_sl ([.ref (ad 0), .int p0]) ++ List.replicate (8 - (lg_sl ([.ref (ad 0), .int p0])).length) Slot.unset).toArray = ls at hl ⊢
  have hl : lv_has ls 8 [(0, .ref (ad 0)), (1, .int p0)] := hl
  unfold wp_M_X8_order at h
  refine lv_aload_n hx hb dX8_order_0 rfl (lv_at hl 0 rfl) ?_
  refine lv_iconst (v := 0) hx hb dX8_order_1 (by decide) ?_
  refine va_put (D := (dC, dI)) (ci := 8) (v := .int 0) (ty := .int) (C := RX8) (T := TX8) (N := 34) hx hb hts hk_1 tyX8 tyX8_ok nmX8 hown hK hP hD hS 0 wM_g0 rfl 0 (by decide) hk_0 (fun _ h9 => h9) rfl (by decide +kernel) rfl rfl (Nat.le_of_ble_eq_true rfl) dX8_order_2 (fun H locs hP2 hD2 hS => ?_)
  have hP : va_P (dC, dI) vwCl (wM ad cB cI cZ cL 0 m_today m_legs m_feeds m_taped m_point m_end m_begin m_faultAt m_farm m_pig m_begun m_first m_weight m_salted m_heat m_isBad m_isSold m_sealedFeed m_hook m_should m_on m_warmth m_damp m_isOpen m_fFarm m_fFrom m_fWhat m_fTold m_rule m_draft m_tape m_five m_those) H := hP_eq (wM_p_m_thrown) hP2
  have hD : va_D A (wM ad cB cI cZ cL 0 m_today m_legs m_feeds m_taped m_point m_end m_begin m_faultAt m_farm m_pig m_begun m_first m_weight m_salted m_heat m_isBad m_isSold m_sealedFeed m_hook m_should m_on m_warmth m_damp m_isOpen m_fFarm m_fFrom m_fWhat m_fTold m_rule m_draft m_tape m_five m_those) := hD_eq (wM_p_m_thrown) hD2
  refine lv_aload_n hx hb dX8_order_5 rfl (lv_at hl 0 rfl) ?_
  refine lv_iload_n hx hb dX8_order_6 rfl (lv_at hl 1 rfl) ?_
  refine lv_iconst (v := 1) hx hb dX8_order_7 (by decide) ?_
  refine lv_ldc hx hb hown hk_2 dX8_order_8 ?_
  refine va_calli (va_runS (As := [.int p0, .int 1, .int 200000]) (rest := [.ref (ad 0)]) ⟨hx, hb, hml, hown, hts⟩ (c_M_X8_in l dC dI ad cB cI cZ cL A 0 m_today m_legs m_feeds m_taped m_point m_end m_begin m_faultAt m_farm m_pig m_begun m_first m_weight m_salted m_heat m_isBad m_isSold m_sealedFeed m_hook m_should m_on m_warmth m_damp m_isOpen m_fFarm m_fFrom m_fWhat m_fTold m_rule m_draft m_tape m_five m_those p0 1 200000 _ h) (va_cwS 3 hts gX8_order_X8_in rfl rfl rfl (by decide +kernel) ⟨(Nat.le_of_ble_eq_true rfl), (Nat.le_of_ble_eq_true rfl)⟩) ⟨kC_blind, fun U hU hW => ⟨rfl, kC_go hA hS hP hK hD hE U hU hW⟩⟩ rfl rfl hl.1 rfl (lv_room (Nat.le_of_ble_eq_true rfl)) dX8_order_10 ⟨(Nat.le_of_ble_eq_true rfl), (Nat.le_of_ble_eq_true rfl)⟩) hS (fun q _ h => h) (fun q h => h) (fun r_1 u t H locs ht hvm hw hB hz1 hk1 hS => ?_)
  have h := hw
  try dsimp only at h
  have hP : va_P (dC, dI) vwCl (wM ad cB cI cZ cL 0 m_today m_legs m_feeds m_taped m_point m_end m_begin m_faultAt m_farm m_pig m_begun m_first m_weight m_salted m_heat m_isBad m_isSold m_sealedFeed m_hook m_should m_on m_warmth m_damp m_isOpen m_fFarm m_fFrom m_fWhat m_fTold m_rule m_draft m_tape m_five m_those) H := by rw [← ht]; exact hB.1
  have hD : va_D A (wM ad cB cI cZ cL 0 m_today m_legs m_feeds m_taped m_point m_end m_begin m_faultAt m_farm m_pig m_begun m_first m_weight m_salted m_heat m_isBad m_isSold m_sealedFeed m_hook m_should m_on m_warmth m_damp m_isOpen m_fFarm m_fFrom m_fWhat m_fTold m_rule m_draft m_tape m_five m_those) := hB.2.2
  refine lv_if_ne (tgt := 20) hx hb dX8_order_13 (by decide) (fun c_2 => ?_) (fun c_2 => ?_)
  · have h := h.1 c_2
    refine lv_iconst (v := 0) hx hb dX8_order_20 (by decide) ?_
    exact hbk_M_X8_order_21 0 m_isSold m_hook m_on m_those p0 0 _ _ _ hP hD hS (lv_sub hl [0, 1] rfl) h
  · have h := h.2 c_2
    refine lv_iconst (v := 1) hx hb dX8_order_16 (by decide) ?_
    refine lv_goto (tgt := 21) hx hb dX8_order_17 (by decide) ?_
    exact hbk_M_X8_order_21 0 m_isSold m_hook m_on m_those p0 1 _ _ _ hP hD hS (lv_sub hl [0, 1] rfl) h
def bk_M_X8_count_246 (m_today : Int32) (m_legs : Int32) (m_feeds : Int32) (m_weight : Nat → Int32) (m_isBad : Nat → Int32) (m_isSold : Nat → Int32) (m_sealedFeed : Nat → Int32) (m_hook : Nat → Int32) (m_should : Nat → Int32)  (Q : Int32 → Int32 → Prop) (K39 : Int32 → Int32 → Int32 → Int32 → Prop) (m_thrown : Int32) (v1 : Int32) (v2 : Int32) (v3 : Int32) : Prop := K39 m_thrown v1 v2 (v3 + 1)
def bk_M_X8_count_111 (m_today : Int32) (m_legs : Int32) (m_feeds : Int32) (m_weight : Nat → Int32) (m_isBad : Nat → Int32) (m_isSold : Nat → Int32) (m_sealedFeed : Nat → Int32) (m_hook : Nat → Int32) (m_should : Nat → Int32)  (Q : Int32 → Int32 → Prop) (K39 : Int32 → Int32 → Int32 → Int32 → Prop) (m_thrown : Int32) (v1 : Int32) (v3 : Int32) (k0 : Int32) (k1 : Int32) : Prop := bk_M_X8_count_246 m_today m_legs m_feeds m_weight m_isBad m_isSold m_sealedFeed m_hook m_should Q K39 m_thrown v1 (k1 + k0) v3
def bk_M_X8_count_131 (m_today : Int32) (m_legs : Int32) (m_feeds : Int32) (m_weight : Nat → Int32) (m_isBad : Nat → Int32) (m_isSold : Nat → Int32) (m_sealedFeed : Nat → Int32) (m_hook : Nat → Int32) (m_should : Nat → Int32)  (Q : Int32 → Int32 → Prop) (K39 : Int32 → Int32 → Int32 → Int32 → Prop) (m_thrown : Int32) (v1 : Int32) (v3 : Int32) (k0 : Int32) (k1 : Int32) : Prop := bk_M_X8_count_246 m_today m_legs m_feeds m_weight m_isBad m_isSold m_sealedFeed m_hook m_should Q K39 m_thrown v1 (k1 + k0) v3
def bk_M_X8_count_151 (m_today : Int32) (m_legs : Int32) (m_feeds : Int32) (m_weight : Nat → Int32) (m_isBad : Nat → Int32) (m_isSold : Nat → Int32) (m_sealedFeed : Nat → Int32) (m_hook : Nat → Int32) (m_should : Nat → Int32)  (Q : Int32 → Int32 → Prop) (K39 : Int32 → Int32 → Int32 → Int32 → Prop) (m_thrown : Int32) (v1 : Int32) (v3 : Int32) (k0 : Int32) (k1 : Int32) : Prop := bk_M_X8_count_246 m_today m_legs m_feeds m_weight m_isBad m_isSold m_sealedFeed m_hook m_should Q K39 m_thrown v1 (k1 + k0) v3
def bk_M_X8_count_171 (m_today : Int32) (m_legs : Int32) (m_feeds : Int32) (m_weight : Nat → Int32) (m_isBad : Nat → Int32) (m_isSold : Nat → Int32) (m_sealedFeed : Nat → Int32) (m_hook : Nat → Int32) (m_should : Nat → Int32)  (Q : Int32 → Int32 → Prop) (K39 : Int32 → Int32 → Int32 → Int32 → Prop) (m_thrown : Int32) (v1 : Int32) (v3 : Int32) (k0 : Int32) (k1 : Int32) : Prop := bk_M_X8_count_246 m_today m_legs m_feeds m_weight m_isBad m_isSold m_sealedFeed m_hook m_should Q K39 m_thrown v1 (k1 + k0) v3
def bk_M_X8_count_196 (m_today : Int32) (m_legs : Int32) (m_feeds : Int32) (m_weight : Nat → Int32) (m_isBad : Nat → Int32) (m_isSold : Nat → Int32) (m_sealedFeed : Nat → Int32) (m_hook : Nat → Int32) (m_should : Nat → Int32)  (Q : Int32 → Int32 → Prop) (K39 : Int32 → Int32 → Int32 → Int32 → Prop) (m_thrown : Int32) (v1 : Int32) (v3 : Int32) (k0 : Int32) (k1 : Int32) : Prop := bk_M_X8_count_246 m_today m_legs m_feeds m_weight m_isBad m_isSold m_sealedFeed m_hook m_should Q K39 m_thrown v1 (k1 + k0) v3
def bk_M_X8_count_221 (m_today : Int32) (m_legs : Int32) (m_feeds : Int32) (m_weight : Nat → Int32) (m_isBad : Nat → Int32) (m_isSold : Nat → Int32) (m_sealedFeed : Nat → Int32) (m_hook : Nat → Int32) (m_should : Nat → Int32)  (Q : Int32 → Int32 → Prop) (K39 : Int32 → Int32 → Int32 → Int32 → Prop) (m_thrown : Int32) (v1 : Int32) (v3 : Int32) (k0 : Int32) (k1 : Int32) : Prop := bk_M_X8_count_246 m_today m_legs m_feeds m_weight m_isBad m_isSold m_sealedFeed m_hook m_should Q K39 m_thrown v1 (k1 + k0) v3
def bk_M_X8_count_241 (m_today : Int32) (m_legs : Int32) (m_feeds : Int32) (m_weight : Nat → Int32) (m_isBad : Nat → Int32) (m_isSold : Nat → Int32) (m_sealedFeed : Nat → Int32) (m_hook : Nat → Int32) (m_should : Nat → Int32)  (Q : Int32 → Int32 → Prop) (K39 : Int32 → Int32 → Int32 → Int32 → Prop) (m_thrown : Int32) (v1 : Int32) (v3 : Int32) (k0 : Int32) (k1 : Int32) : Prop := bk_M_X8_count_246 m_today m_legs m_feeds m_weight m_isBad m_isSold m_sealedFeed m_hook m_should Q K39 m_thrown v1 (k1 + k0) v3
def lp_M_X8_count_39 (m_today : Int32) (m_legs : Int32) (m_feeds : Int32) (m_weight : Nat → Int32) (m_isBad : Nat → Int32) (m_isSold : Nat → Int32) (m_sealedFeed : Nat → Int32) (m_hook : Nat → Int32) (m_should : Nat → Int32)  (Q : Int32 → Int32 → Prop) : Nat → Int32 → Int32 → Int32 → Int32 → Prop
  | 0 => fun _ _ _ _ => False
  | n + 1 => fun m_thrown v1 v2 v3 => ((m_legs ≤ v3 → wp_M_X8_in (fun r_5 => ((r_5 = 0 → Q (-1) m_thrown) ∧ (¬ (r_5 = 0) → Q v2 m_thrown))) v1 2 9) ∧ (¬ (m_legs ≤ v3) → ((v1 = 2 → (vp_in v3 60 ∧ (((m_hook v3.toNatClampNeg) < 0 → bk_M_X8_count_111 m_today m_legs m_feeds m_weight m_isBad m_isSold m_sealedFeed m_hook m_should Q (lp_M_X8_count_39 m_today m_legs m_feeds m_weight m_isBad m_isSold m_sealedFeed m_hook m_should Q n) m_thrown v1 v3 0 v2) ∧ (¬ ((m_hook v3.toNatClampNeg) < 0) → bk_M_X8_count_111 m_today m_legs m_feeds m_weight m_isBad m_isSold m_sealedFeed m_hook m_should Q (lp_M_X8_count_39 m_today m_legs m_feeds m_weight m_isBad m_isSold m_sealedFeed m_hook m_should Q n) m_thrown v1 v3 1 v2)))) ∧ (¬ v1 = 2 → ((v1 = 3 → (vp_in v3 60 ∧ (((m_sealedFeed v3.toNatClampNeg) < 0 → bk_M_X8_count_131 m_today m_legs m_feeds m_weight m_isBad m_isSold m_sealedFeed m_hook m_should Q (lp_M_X8_count_39 m_today m_legs m_feeds m_weight m_isBad m_isSold m_sealedFeed m_hook m_should Q n) m_thrown v1 v3 0 v2) ∧ (¬ ((m_sealedFeed v3.toNatClampNeg) < 0) → bk_M_X8_count_131 m_today m_legs m_feeds m_weight m_isBad m_isSold m_sealedFeed m_hook m_should Q (lp_M_X8_count_39 m_today m_legs m_feeds m_weight m_isBad m_isSold m_sealedFeed m_hook m_should Q n) m_thrown v1 v3 1 v2)))) ∧ (¬ v1 = 3 → ((v1 = 4 → (vp_in v3 60 ∧ (((m_isBad v3.toNatClampNeg) = 0 → bk_M_X8_count_151 m_today m_legs m_feeds m_weight m_isBad m_isSold m_sealedFeed m_hook m_should Q (lp_M_X8_count_39 m_today m_legs m_feeds m_weight m_isBad m_isSold m_sealedFeed m_hook m_should Q n) m_thrown v1 v3 0 v2) ∧ (¬ ((m_isBad v3.toNatClampNeg) = 0) → bk_M_X8_count_151 m_today m_legs m_feeds m_weight m_isBad m_isSold m_sealedFeed m_hook m_should Q (lp_M_X8_count_39 m_today m_legs m_feeds m_weight m_isBad m_isSold m_sealedFeed m_hook m_should Q n) m_thrown v1 v3 1 v2)))) ∧ (¬ v1 = 4 → ((v1 = 5 → (vp_in v3 60 ∧ (((m_isSold v3.toNatClampNeg) = 0 → bk_M_X8_count_171 m_today m_legs m_feeds m_weight m_isBad m_isSold m_sealedFeed m_hook m_should Q (lp_M_X8_count_39 m_today m_legs m_feeds m_weight m_isBad m_isSold m_sealedFeed m_hook m_should Q n) m_thrown v1 v3 0 v2) ∧ (¬ ((m_isSold v3.toNatClampNeg) = 0) → bk_M_X8_count_171 m_today m_legs m_feeds m_weight m_isBad m_isSold m_sealedFeed m_hook m_should Q (lp_M_X8_count_39 m_today m_legs m_feeds m_weight m_isBad m_isSold m_sealedFeed m_hook m_should Q n) m_thrown v1 v3 1 v2)))) ∧ (¬ v1 = 5 → ((v1 = 6 → (vp_in v3 60 ∧ (((m_isSold v3.toNatClampNeg) = 0 → (vp_in v3 60 ∧ bk_M_X8_count_196 m_today m_legs m_feeds m_weight m_isBad m_isSold m_sealedFeed m_hook m_should Q (lp_M_X8_count_39 m_today m_legs m_feeds m_weight m_isBad m_isSold m_sealedFeed m_hook m_should Q n) m_thrown v1 v3 (m_weight v3.toNatClampNeg) v2)) ∧ (¬ ((m_isSold v3.toNatClampNeg) = 0) → bk_M_X8_count_196 m_today m_legs m_feeds m_weight m_isBad m_isSold m_sealedFeed m_hook m_should Q (lp_M_X8_count_39 m_today m_legs m_feeds m_weight m_isBad m_isSold m_sealedFeed m_hook m_should Q n) m_thrown v1 v3 0 v2)))) ∧ (¬ v1 = 6 → ((v1 = 7 → (vp_in v3 60 ∧ (((m_isSold v3.toNatClampNeg) = 0 → bk_M_X8_count_221 m_today m_legs m_feeds m_weight m_isBad m_isSold m_sealedFeed m_hook m_should Q (lp_M_X8_count_39 m_today m_legs m_feeds m_weight m_isBad m_isSold m_sealedFeed m_hook m_should Q n) m_thrown v1 v3 0 v2) ∧ (¬ ((m_isSold v3.toNatClampNeg) = 0) → (vp_in v3 60 ∧ bk_M_X8_count_221 m_today m_legs m_feeds m_weight m_isBad m_isSold m_sealedFeed m_hook m_should Q (lp_M_X8_count_39 m_today m_legs m_feeds m_weight m_isBad m_isSold m_sealedFeed m_hook m_should Q n) m_thrown v1 v3 (m_weight v3.toNatClampNeg) v2))))) ∧ (¬ v1 = 7 → ((v1 = 8 → bk_M_X8_count_246 m_today m_legs m_feeds m_weight m_isBad m_isSold m_sealedFeed m_hook m_should Q (lp_M_X8_count_39 m_today m_legs m_feeds m_weight m_isBad m_isSold m_sealedFeed m_hook m_should Q n) m_thrown v1 v2 v3) ∧ (¬ v1 = 8 → ((v1 = 9 → (vp_in v3 60 ∧ (((m_should v3.toNatClampNeg) < 0 → bk_M_X8_count_241 m_today m_legs m_feeds m_weight m_isBad m_isSold m_sealedFeed m_hook m_should Q (lp_M_X8_count_39 m_today m_legs m_feeds m_weight m_isBad m_isSold m_sealedFeed m_hook m_should Q n) m_thrown v1 v3 0 v2) ∧ (¬ ((m_should v3.toNatClampNeg) < 0) → bk_M_X8_count_241 m_today m_legs m_feeds m_weight m_isBad m_isSold m_sealedFeed m_hook m_should Q (lp_M_X8_count_39 m_today m_legs m_feeds m_weight m_isBad m_isSold m_sealedFeed m_hook m_should Q n) m_thrown v1 v3 1 v2)))) ∧ (¬ v1 = 9 → bk_M_X8_count_246 m_today m_legs m_feeds m_weight m_isBad m_isSold m_sealedFeed m_hook m_should Q (lp_M_X8_count_39 m_today m_legs m_feeds m_weight m_isBad m_isSold m_sealedFeed m_hook m_should Q n) m_thrown v1 v2 v3))))))))))))))))))
def wp_M_X8_count (m_today : Int32) (m_legs : Int32) (m_feeds : Int32) (m_weight : Nat → Int32) (m_isBad : Nat → Int32) (m_isSold : Nat → Int32) (m_sealedFeed : Nat → Int32) (m_hook : Nat → Int32) (m_should : Nat → Int32) (Q : Int32 → Int32 → Prop) (m_thrown : Int32) (p0 : Int32) : Prop := ((¬ p0 = 0 → ((¬ p0 = 1 → ((¬ p0 = 8 → (∃ n_23, lp_M_X8_count_39 m_today m_legs m_feeds m_weight m_isBad m_isSold m_sealedFeed m_hook m_should Q n_23 0 p0 0 0)) ∧ (p0 = 8 → Q m_feeds 0))) ∧ (p0 = 1 → Q m_legs 0))) ∧ (p0 = 0 → Q m_today 0))
def rm_M_X8_count : Room := { frames := 1, cells := 0, slots := 0, locals := 22 }
abbrev pq_M_X8_count (dC : Nat → ClassId) (dI : Nat → Nat → Nat) (ad : Nat → Nat) (cB cI cZ cL : ClassId) (A : Nat → Prop) (m_thrown m_today m_legs m_feeds m_taped m_point m_end m_begin m_faultAt : Int32) (m_farm m_pig m_begun m_first m_weight m_salted m_heat m_isBad m_isSold m_sealedFeed m_hook m_should m_on m_warmth m_damp m_isOpen m_fFarm m_fFrom m_fWhat m_fTold m_rule m_draft m_tape m_five m_those : Nat → Int32) (Q : Int32 → Int32 → Prop) : Array Value → State → Outcome → State → Prop := va_Qi (fun (r : Int32) (u : Int32) => Q r u) (fun u t => kB dC dI A (wM ad cB cI cZ cL u m_today m_legs m_feeds m_taped m_point m_end m_begin m_faultAt m_farm m_pig m_begun m_first m_weight m_salted m_heat m_isBad m_isSold m_sealedFeed m_hook m_should m_on m_warmth m_damp m_isOpen m_fFarm m_fFrom m_fWhat m_fTold m_rule m_draft m_tape m_five m_those) (kTy cB cI cZ cL) t) A
set_option maxHeartbeats 4000000 in
set_option maxRecDepth 100000 in
theorem c_M_X8_count (l : Launch) (dC : Nat → ClassId) (dI : Nat → Nat → Nat) (ad : Nat → Nat) (cB cI cZ cL : ClassId) (A : Nat → Prop) (m_thrown m_today m_legs m_feeds m_taped m_point m_end m_begin m_faultAt : Int32) (m_farm m_pig m_begun m_first m_weight m_salted m_heat m_isBad m_isSold m_sealedFeed m_hook m_should m_on m_warmth m_damp m_isOpen m_fFarm m_fFrom m_fWhat m_fTold m_rule m_draft m_tape m_five m_those : Nat → Int32) (p0 : Int32)  (Q : Int32 → Int32 → Prop) (h : wp_M_X8_count m_today m_legs m_feeds m_weight m_isBad m_isSold m_sealedFeed m_hook m_should Q m_thrown p0) : Met l yX8_count wsX8_count rm_M_X8_count (va_Pc [.ref (ad 0), .int p0] (kC dC dI ad A (wM ad cB cI cZ cL m_thrown m_today m_legs m_feeds m_taped m_point m_end m_begin m_faultAt m_farm m_pig m_begun m_first m_weight m_salted m_heat m_isBad m_isSold m_sealedFeed m_hook m_should m_on m_warmth m_damp m_isOpen m_fFarm m_fFrom m_fWhat m_fTold m_rule m_draft m_tape m_five m_those) (kTy cB cI cZ cL))) (pq_M_X8_count dC dI ad cB cI cZ cL A m_thrown m_today m_legs m_feeds m_taped m_point m_end m_begin m_faultAt m_farm m_pig m_begun m_first m_weight m_salted m_heat m_isBad m_isSold m_sealedFeed m_hook m_should m_on m_warmth m_damp m_isOpen m_fFarm m_fFrom m_fWhat m_fTold m_rule m_draft m_tape m_five m_those Q) 0 0 A := by
  refine Met.ofW (cc := cX8_count) (maxL := 4) (ret := (some .int)) (by decide) rfl ?_
  intro p e s m args below meth c s₁ B hml hv
  obtain ⟨rfl, hA, hP, hK, hD, hE⟩ := hv
  have hx := B.exec
  have hb := B.bytes
  have hr := B.returns
  have hts := atoms_spec (ws := wsX8_count) B.pre
  have hown : s.vm.findClass RX8 = some m.cls := findClass_of_methodNamed B.named
  have hlocks := B.notSynchronized
  have hS : va_S A s.heap s.heap [] := va_S.rf
  have hk_0 := hts (.fieldLink RX8 1 "HamCellarModel" "thrown" "I") (by decide +kernel)
  have hk_1 : ∀ w ∈ wsX80, w ∈ wsX8_count := by decide +kernel
  have hk_2 := hts (.fieldLink RX8 94 "HamCellarModel" "legs" "I") (by decide +kernel)
  have hk_3 := hts (.fieldLink RX8 45 "HamCellarModel" "hook" "[I") (by decide +kernel)
  have hk_4 := hts (.fieldLink RX8 42 "HamCellarModel" "sealedFeed" "[I") (by decide +kernel)
  have hk_5 := hts (.fieldLink RX8 35 "HamCellarModel" "isBad" "[Z") (by decide +kernel)
  have hk_6 := hts (.fieldLink RX8 39 "HamCellarModel" "isSold" "[Z") (by decide +kernel)
  have hk_7 := hts (.fieldLink RX8 26 "HamCellarModel" "weight" "[I") (by decide +kernel)
  have hk_8 := hts (.fieldLink RX8 48 "HamCellarModel" "should" "[I") (by decide +kernel)
  have hk_9 := hts (.fieldLink RX8 179 "HamCellarModel" "feeds" "I") (by decide +kernel)
  have hk_10 := hts (.fieldLink RX8 105 "HamCellarModel" "today" "I") (by decide +kernel)
  have hbk_M_X8_count_246 : ∀ (K39 : Int32 → Int32 → Int32 → Int32 → Prop) (hK39 : ∀ (m_thrown : Int32) (v1 : Int32) (v2 : Int32) (v3 : Int32) (H : Heap) (locs : List Loc) (ls : Array Slot), va_P (dC, dI) vwCl (wM ad cB cI cZ cL m_thrown m_today m_legs m_feeds m_taped m_point m_end m_begin m_faultAt m_farm m_pig m_begun m_first m_weight m_salted m_heat m_isBad m_isSold m_sealedFeed m_hook m_should m_on m_warmth m_damp m_isOpen m_fFarm m_fFrom m_fWhat m_fTold m_rule m_draft m_tape m_five m_those) H → va_D A (wM ad cB cI cZ cL m_thrown m_today m_legs m_feeds m_taped m_point m_end m_begin m_faultAt m_farm m_pig m_begun m_first m_weight m_salted m_heat m_isBad m_isSold m_sealedFeed m_hook m_should m_on m_warmth m_damp m_isOpen m_fFarm m_fFrom m_fWhat m_fTold m_rule m_draft m_tape m_five m_those) → va_S A s.heap H locs → lv_has ls 4 [(0, .ref (ad 0)), (1, .int v1), (2, .int v2), (3, .int v3)] → K39 m_thrown v1 v2 v3 → W p l e (headSpec wsX8_count rm_M_X8_count).room s m ([.ref (ad 0), .int p0] : List Value).toArray below meth c H locs 0 0 (MQ below (pq_M_X8_count dC dI ad cB cI cZ cL A m_thrown m_today m_legs m_feeds m_taped m_point m_end m_begin m_faultAt m_farm m_pig m_begun m_first m_weight m_salted m_heat m_isBad m_isSold m_sealedFeed m_hook m_should m_on m_warmth m_damp m_isOpen m_fFarm m_fFrom m_fWhat m_fTold m_rule m_draft m_tape m_five m_those Q) ([.ref (ad 0), .int p0] : List Value).toArray s 0 0 A) (F0 m 39 ls [])) (m_thrown : Int32) (v1 : Int32) (v2 : Int32) (v3 : Int32) (H : Heap) (locs : List Loc) (ls : Array Slot), va_P (dC, dI) vwCl (wM ad cB cI cZ cL m_thrown m_today m_legs m_feeds m_taped m_point m_end m_begin m_faultAt m_farm m_pig m_begun m_first m_weight m_salted m_heat m_isBad m_isSold m_sealedFeed m_hook m_should m_on m_warmth m_damp m_isOpen m_fFarm m_fFrom m_fWhat m_fTold m_rule m_draft m_tape m_five m_those) H → va_D A (wM ad cB cI cZ cL m_thrown m_today m_legs m_feeds m_taped m_point m_end m_begin m_faultAt m_farm m_pig m_begun m_first m_weight m_salted m_heat m_isBad m_isSold m_sealedFeed m_hook m_should m_on m_warmth m_damp m_isOpen m_fFarm m_fFrom m_fWhat m_fTold m_rule m_draft m_tape m_five m_those) → va_S A s.heap H locs → lv_has ls 4 [(0, .ref (ad 0)), (1, .int v1), (2, .int v2), (3, .int v3)] → bk_M_X8_count_246 m_today m_legs m_feeds m_weight m_isBad m_isSold m_sealedFeed m_hook m_should Q K39 m_thrown v1 v2 v3 → W p l e (headSpec wsX8_count rm_M_X8_count).room s m ([.ref (ad 0), .int p0] : List Value).toArray below meth c H locs 0 0 (MQ below (pq_M_X8_count dC dI ad cB cI cZ cL A m_thrown m_today m_legs m_feeds m_taped m_point m_end m_begin m_faultAt m_farm m_pig m_begun m_first m_weight m_salted m_heat m_isBad m_isSold m_sealedFeed m_hook m_should m_on m_warmth m_damp m_isOpen m_fFarm m_fFrom m_fWhat m_fTold m_rule m_draft m_tape m_five m_those Q) ([.ref (ad 0), .int p0] : List Value).toArray s 0 0 A) (F0 m 246 ls []) := by
    intro K39 hK39 m_thrown v1 v2 v3 H locs ls hP hD hS hl h
    refine lv_iinc (v := v3 + 1) (lv' := [(3, .int (v3 + 1)), (0, .ref (ad 0)), (1, .int v1), (2, .int v2)]) hx hb dX8_count_246 hl (k := 3) rfl rfl (by decide) rfl (fun ls hl => ?_)
    refine lv_goto (tgt := 39) hx hb dX8_count_249 (by decide) ?_
    exact hK39 m_thrown v1 v2 (v3 + 1) _ _ _ hP hD hS (lv_sub hl [1, 2, 3, 0] rfl) h
  have hbk_M_X8_count_111 : ∀ (K39 : Int32 → Int32 → Int32 → Int32 → Prop) (hK39 : ∀ (m_thrown : Int32) (v1 : Int32) (v2 : Int32) (v3 : Int32) (H : Heap) (locs : List Loc) (ls : Array Slot), va_P (dC, dI) vwCl (wM ad cB cI cZ cL m_thrown m_today m_legs m_feeds m_taped m_point m_end m_begin m_faultAt m_farm m_pig m_begun m_first m_weight m_salted m_heat m_isBad m_isSold m_sealedFeed m_hook m_should m_on m_warmth m_damp m_isOpen m_fFarm m_fFrom m_fWhat m_fTold m_rule m_draft m_tape m_five m_those) H → va_D A (wM ad cB cI cZ cL m_thrown m_today m_legs m_feeds m_taped m_point m_end m_begin m_faultAt m_farm m_pig m_begun m_first m_weight m_salted m_heat m_isBad m_isSold m_sealedFeed m_hook m_should m_on m_warmth m_damp m_isOpen m_fFarm m_fFrom m_fWhat m_fTold m_rule m_draft m_tape m_five m_those) → va_S A s.heap H locs → lv_has ls 4 [(0, .ref (ad 0)), (1, .int v1), (2, .int v2), (3, .int v3)] → K39 m_thrown v1 v2 v3 → W p l e (headSpec wsX8_count rm_M_X8_count).room s m ([.ref (ad 0), .int p0] : List Value).toArray below meth c H locs 0 0 (MQ below (pq_M_X8_count dC dI ad cB cI cZ cL A m_thrown m_today m_legs m_feeds m_taped m_point m_end m_begin m_faultAt m_farm m_pig m_begun m_first m_weight m_salted m_heat m_isBad m_isSold m_sealedFeed m_hook m_should m_on m_warmth m_damp m_isOpen m_fFarm m_fFrom m_fWhat m_fTold m_rule m_draft m_tape m_five m_those Q) ([.ref (ad 0), .int p0] : List Value).toArray s 0 0 A) (F0 m 39 ls [])) (m_thrown : Int32) (v1 : Int32) (v3 : Int32) (k0 : Int32) (k1 : Int32) (H : Heap) (locs : List Loc) (ls : Array Slot), va_P (dC, dI) vwCl (wM ad cB cI cZ cL m_thrown m_today m_legs m_feeds m_taped m_point m_end m_begin m_faultAt m_farm m_pig m_begun m_first m_weight m_salted m_heat m_isBad m_isSold m_sealedFeed m_hook m_should m_on m_warmth m_damp m_isOpen m_fFarm m_fFrom m_fWhat m_fTold m_rule m_draft m_tape m_five m_those) H → va_D A (wM ad cB cI cZ cL m_thrown m_today m_legs m_feeds m_taped m_point m_end m_begin m_faultAt m_farm m_pig m_begun m_first m_weight m_salted m_heat m_isBad m_isSold m_sealedFeed m_hook m_should m_on m_warmth m_damp m_isOpen m_fFarm m_fFrom m_fWhat m_fTold m_rule m_draft m_tape m_five m_those) → va_S A s.heap H locs → lv_has ls 4 [(0, .ref (ad 0)), (1, .int v1), (3, .int v3)] → bk_M_X8_count_111 m_today m_legs m_feeds m_weight m_isBad m_isSold m_sealedFeed m_hook m_should Q K39 m_thrown v1 v3 k0 k1 → W p l e (headSpec wsX8_count rm_M_X8_count).room s m ([.ref (ad 0), .int p0] : List Value).toArray below meth c H locs 0 0 (MQ below (pq_M_X8_count dC dI ad cB cI cZ cL A m_thrown m_today m_legs m_feeds m_taped m_point m_end m_begin m_faultAt m_farm m_pig m_begun m_first m_weight m_salted m_heat m_isBad m_isSold m_sealedFeed m_hook m_should m_on m_warmth m_damp m_isOpen m_fFarm m_fFrom m_fWhat m_fTold m_rule m_draft m_tape m_five m_those Q) ([.ref (ad 0), .int p0] : List Value).toArray s 0 0 A) (F0 m 111 ls [.int k0, .int k1]) := by
    intro K39 hK39 m_thrown v1 v3 k0 k1 H locs ls hP hD hS hl h
    refine lv_iadd hx hb dX8_count_111 ?_
    refine lv_istore_n (lv' := [(2, .int (k1 + k0)), (0, .ref (ad 0)), (1, .int v1), (3, .int v3)]) hx hb dX8_count_112 rfl hl (by decide) rfl (fun ls hl => ?_)
    refine lv_goto (tgt := 246) hx hb dX8_count_113 (by decide) ?_
    exact hbk_M_X8_count_246 K39 hK39 m_thrown v1 (k1 + k0) v3 _ _ _ hP hD hS (lv_sub hl [1, 2, 0, 3] rfl) h
  have hbk_M_X8_count_131 : ∀ (K39 : Int32 → Int32 → Int32 → Int32 → Prop) (hK39 : ∀ (m_thrown : Int32) (v1 : Int32) (v2 : Int32) (v3 : Int32) (H : Heap) (locs : List Loc) (ls : Array Slot), va_P (dC, dI) vwCl (wM ad cB cI cZ cL m_thrown m_today m_legs m_feeds m_taped m_point m_end m_begin m_faultAt m_farm m_pig m_begun m_first m_weight m_salted m_heat m_isBad m_isSold m_sealedFeed m_hook m_should m_on m_warmth m_damp m_isOpen m_fFarm m_fFrom m_fWhat m_fTold m_rule m_draft m_tape m_five m_those) H → va_D A (wM ad cB cI cZ cL m_thrown m_today m_legs m_feeds m_taped m_point m_end m_begin m_faultAt m_farm m_pig m_begun m_first m_weight m_salted m_heat m_isBad m_isSold m_sealedFeed m_hook m_should m_on m_warmth m_damp m_isOpen m_fFarm m_fFrom m_fWhat m_fTold m_rule m_draft m_tape m_five m_those) → va_S A s.heap H locs → lv_has ls 4 [(0, .ref (ad 0)), (1, .int v1), (2, .int v2), (3, .int v3)] → K39 m_thrown v1 v2 v3 → W p l e (headSpec wsX8_count rm_M_X8_count).room s m ([.ref (ad 0), .int p0] : List Value).toArray below meth c H locs 0 0 (MQ below (pq_M_X8_count dC dI ad cB cI cZ cL A m_thrown m_today m_legs m_feeds m_taped m_point m_end m_begin m_faultAt m_farm m_pig m_begun m_first m_weight m_salted m_heat m_isBad m_isSold m_sealedFeed m_hook m_should m_on m_warmth m_damp m_isOpen m_fFarm m_fFrom m_fWhat m_fTold m_rule m_draft m_tape m_five m_those Q) ([.ref (ad 0), .int p0] : List Value).toArray s 0 0 A) (F0 m 39 ls [])) (m_thrown : Int32) (v1 : Int32) (v3 : Int32) (k0 : Int32) (k1 : Int32) (H : Heap) (locs : List Loc) (ls : Array Slot), va_P (dC, dI) vwCl (wM ad cB cI cZ cL m_thrown m_today m_legs m_feeds m_taped m_point m_end m_begin m_faultAt m_farm m_pig m_begun m_first m_weight m_salted m_heat m_isBad m_isSold m_sealedFeed m_hook m_should m_on m_warmth m_damp m_isOpen m_fFarm m_fFrom m_fWhat m_fTold m_rule m_draft m_tape m_five m_those) H → va_D A (wM ad cB cI cZ cL m_thrown m_today m_legs m_feeds m_taped m_point m_end m_begin m_faultAt m_farm m_pig m_begun m_first m_weight m_salted m_heat m_isBad m_isSold m_sealedFeed m_hook m_should m_on m_warmth m_damp m_isOpen m_fFarm m_fFrom m_fWhat m_fTold m_rule m_draft m_tape m_five m_those) → va_S A s.heap H locs → lv_has ls 4 [(0, .ref (ad 0)), (1, .int v1), (3, .int v3)] → bk_M_X8_count_131 m_today m_legs m_feeds m_weight m_isBad m_isSold m_sealedFeed m_hook m_should Q K39 m_thrown v1 v3 k0 k1 → W p l e (headSpec wsX8_count rm_M_X8_count).room s m ([.ref (ad 0), .int p0] : List Value).toArray below meth c H locs 0 0 (MQ below (pq_M_X8_count dC dI ad cB cI cZ cL A m_thrown m_today m_legs m_feeds m_taped m_point m_end m_begin m_faultAt m_farm m_pig m_begun m_first m_weight m_salted m_heat m_isBad m_isSold m_sealedFeed m_hook m_should m_on m_warmth m_damp m_isOpen m_fFarm m_fFrom m_fWhat m_fTold m_rule m_draft m_tape m_five m_those Q) ([.ref (ad 0), .int p0] : List Value).toArray s 0 0 A) (F0 m 131 ls [.int k0, .int k1]) := by
    intro K39 hK39 m_thrown v1 v3 k0 k1 H locs ls hP hD hS hl h
    refine lv_iadd hx hb dX8_count_131 ?_
    refine lv_istore_n (lv' := [(2, .int (k1 + k0)), (0, .ref (ad 0)), (1, .int v1), (3, .int v3)]) hx hb dX8_count_132 rfl hl (by decide) rfl (fun ls hl => ?_)
    refine lv_goto (tgt := 246) hx hb dX8_count_133 (by decide) ?_
    exact hbk_M_X8_count_246 K39 hK39 m_thrown v1 (k1 + k0) v3 _ _ _ hP hD hS (lv_sub hl [1, 2, 0, 3] rfl) h
  have hbk_M_X8_count_151 : ∀ (K39 : Int32 → Int32 → Int32 → Int32 → Prop) (hK39 : ∀ (m_thrown : Int32) (v1 : Int32) (v2 : Int32) (v3 : Int32) (H : Heap) (locs : List Loc) (ls : Array Slot), va_P (dC, dI) vwCl (wM ad cB cI cZ cL m_thrown m_today m_legs m_feeds m_taped m_point m_end m_begin m_faultAt m_farm m_pig m_begun m_first m_weight m_salted m_heat m_isBad m_isSold m_sealedFeed m_hook m_should m_on m_warmth m_damp m_isOpen m_fFarm m_fFrom m_fWhat m_fTold m_rule m_draft m_tape m_five m_those) H → va_D A (wM ad cB cI cZ cL m_thrown m_today m_legs m_feeds m_taped m_point m_end m_begin m_faultAt m_farm m_pig m_begun m_first m_weight m_salted m_heat m_isBad m_isSold m_sealedFeed m_hook m_should m_on m_warmth m_damp m_isOpen m_fFarm m_fFrom m_fWhat m_fTold m_rule m_draft m_tape m_five m_those) → va_S A s.heap H locs → lv_has ls 4 [(0, .ref (ad 0)), (1, .int v1), (2, .int v2), (3, .int v3)] → K39 m_thrown v1 v2 v3 → W p l e (headSpec wsX8_count rm_M_X8_count).room s m ([.ref (ad 0), .int p0] : List Value).toArray below meth c H locs 0 0 (MQ below (pq_M_X8_count dC dI ad cB cI cZ cL A m_thrown m_today m_legs m_feeds m_taped m_point m_end m_begin m_faultAt m_farm m_pig m_begun m_first m_weight m_salted m_heat m_isBad m_isSold m_sealedFeed m_hook m_should m_on m_warmth m_damp m_isOpen m_fFarm m_fFrom m_fWhat m_fTold m_rule m_draft m_tape m_five m_those Q) ([.ref (ad 0), .int p0] : List Value).toArray s 0 0 A) (F0 m 39 ls [])) (m_thrown : Int32) (v1 : Int32) (v3 : Int32) (k0 : Int32) (k1 : Int32) (H : Heap) (locs : List Loc) (ls : Array Slot), va_P (dC, dI) vwCl (wM ad cB cI cZ cL m_thrown m_today m_legs m_feeds m_taped m_point m_end m_begin m_faultAt m_farm m_pig m_begun m_first m_weight m_salted m_heat m_isBad m_isSold m_sealedFeed m_hook m_should m_on m_warmth m_damp m_isOpen m_fFarm m_fFrom m_fWhat m_fTold m_rule m_draft m_tape m_five m_those) H → va_D A (wM ad cB cI cZ cL m_thrown m_today m_legs m_feeds m_taped m_point m_end m_begin m_faultAt m_farm m_pig m_begun m_first m_weight m_salted m_heat m_isBad m_isSold m_sealedFeed m_hook m_should m_on m_warmth m_damp m_isOpen m_fFarm m_fFrom m_fWhat m_fTold m_rule m_draft m_tape m_five m_those) → va_S A s.heap H locs → lv_has ls 4 [(0, .ref (ad 0)), (1, .int v1), (3, .int v3)] → bk_M_X8_count_151 m_today m_legs m_feeds m_weight m_isBad m_isSold m_sealedFeed m_hook m_should Q K39 m_thrown v1 v3 k0 k1 → W p l e (headSpec wsX8_count rm_M_X8_count).room s m ([.ref (ad 0), .int p0] : List Value).toArray below meth c H locs 0 0 (MQ below (pq_M_X8_count dC dI ad cB cI cZ cL A m_thrown m_today m_legs m_feeds m_taped m_point m_end m_begin m_faultAt m_farm m_pig m_begun m_first m_weight m_salted m_heat m_isBad m_isSold m_sealedFeed m_hook m_should m_on m_warmth m_damp m_isOpen m_fFarm m_fFrom m_fWhat m_fTold m_rule m_draft m_tape m_five m_those Q) ([.ref (ad 0), .int p0] : List Value).toArray s 0 0 A) (F0 m 151 ls [.int k0, .int k1]) := by
    intro K39 hK39 m_thrown v1 v3 k0 k1 H locs ls hP hD hS hl h
    refine lv_iadd hx hb dX8_count_151 ?_
    refine lv_istore_n (lv' := [(2, .int (k1 + k0)), (0, .ref (ad 0)), (1, .int v1), (3, .int v3)]) hx hb dX8_count_152 rfl hl (by decide) rfl (fun ls hl => ?_)
    refine lv_goto (tgt := 246) hx hb dX8_count_153 (by decide) ?_
    exact hbk_M_X8_count_246 K39 hK39 m_thrown v1 (k1 + k0) v3 _ _ _ hP hD hS (lv_sub hl [1, 2, 0, 3] rfl) h
  have hbk_M_X8_count_171 : ∀ (K39 : Int32 → Int32 → Int32 → Int32 → Prop) (hK39 : ∀ (m_thrown : Int32) (v1 : Int32) (v2 : Int32) (v3 : Int32) (H : Heap) (locs : List Loc) (ls : Array Slot), va_P (dC, dI) vwCl (wM ad cB cI cZ cL m_thrown m_today m_legs m_feeds m_taped m_point m_end m_begin m_faultAt m_farm m_pig m_begun m_first m_weight m_salted m_heat m_isBad m_isSold m_sealedFeed m_hook m_should m_on m_warmth m_damp m_isOpen m_fFarm m_fFrom m_fWhat m_fTold m_rule m_draft m_tape m_five m_those) H → va_D A (wM ad cB cI cZ cL m_thrown m_today m_legs m_feeds m_taped m_point m_end m_begin m_faultAt m_farm m_pig m_begun m_first m_weight m_salted m_heat m_isBad m_isSold m_sealedFeed m_hook m_should m_on m_warmth m_damp m_isOpen m_fFarm m_fFrom m_fWhat m_fTold m_rule m_draft m_tape m_five m_those) → va_S A s.heap H locs → lv_has ls 4 [(0, .ref (ad 0)), (1, .int v1), (2, .int v2), (3, .int v3)] → K39 m_thrown v1 v2 v3 → W p l e (headSpec wsX8_count rm_M_X8_count).room s m ([.ref (ad 0), .int p0] : List Value).toArray below meth c H locs 0 0 (MQ below (pq_M_X8_count dC dI ad cB cI cZ cL A m_thrown m_today m_legs m_feeds m_taped m_point m_end m_begin m_faultAt m_farm m_pig m_begun m_first m_weight m_salted m_heat m_isBad m_isSold m_sealedFeed m_hook m_should m_on m_warmth m_damp m_isOpen m_fFarm m_fFrom m_fWhat m_fTold m_rule m_draft m_tape m_five m_those Q) ([.ref (ad 0), .int p0] : List Value).toArray s 0 0 A) (F0 m 39 ls [])) (m_thrown : Int32) (v1 : Int32) (v3 : Int32) (k0 : Int32) (k1 : Int32) (H : Heap) (locs : List Loc) (ls : Array Slot), va_P (dC, dI) vwCl (wM ad cB cI cZ cL m_thrown m_today m_legs m_feeds m_taped m_point m_end m_begin m_faultAt m_farm m_pig m_begun m_first m_weight m_salted m_heat m_isBad m_isSold m_sealedFeed m_hook m_should m_on m_warmth m_damp m_isOpen m_fFarm m_fFrom m_fWhat m_fTold m_rule m_draft m_tape m_five m_those) H → va_D A (wM ad cB cI cZ cL m_thrown m_today m_legs m_feeds m_taped m_point m_end m_begin m_faultAt m_farm m_pig m_begun m_first m_weight m_salted m_heat m_isBad m_isSold m_sealedFeed m_hook m_should m_on m_warmth m_damp m_isOpen m_fFarm m_fFrom m_fWhat m_fTold m_rule m_draft m_tape m_five m_those) → va_S A s.heap H locs → lv_has ls 4 [(0, .ref (ad 0)), (1, .int v1), (3, .int v3)] → bk_M_X8_count_171 m_today m_legs m_feeds m_weight m_isBad m_isSold m_sealedFeed m_hook m_should Q K39 m_thrown v1 v3 k0 k1 → W p l e (headSpec wsX8_count rm_M_X8_count).room s m ([.ref (ad 0), .int p0] : List Value).toArray below meth c H locs 0 0 (MQ below (pq_M_X8_count dC dI ad cB cI cZ cL A m_thrown m_today m_legs m_feeds m_taped m_point m_end m_begin m_faultAt m_farm m_pig m_begun m_first m_weight m_salted m_heat m_isBad m_isSold m_sealedFeed m_hook m_should m_on m_warmth m_damp m_isOpen m_fFarm m_fFrom m_fWhat m_fTold m_rule m_draft m_tape m_five m_those Q) ([.ref (ad 0), .int p0] : List Value).toArray s 0 0 A) (F0 m 171 ls [.int k0, .int k1]) := by
    intro K39 hK39 m_thrown v1 v3 k0 k1 H locs ls hP hD hS hl h
    refine lv_iadd hx hb dX8_count_171 ?_
    refine lv_istore_n (lv' := [(2, .int (k1 + k0)), (0, .ref (ad 0)), (1, .int v1), (3, .int v3)]) hx hb dX8_count_172 rfl hl (by decide) rfl (fun ls hl => ?_)
    refine lv_goto (tgt := 246) hx hb dX8_count_173 (by decide) ?_
    exact hbk_M_X8_count_246 K39 hK39 m_thrown v1 (k1 + k0) v3 _ _ _ hP hD hS (lv_sub hl [1, 2, 0, 3] rfl) h
  have hbk_M_X8_count_196 : ∀ (K39 : Int32 → Int32 → Int32 → Int32 → Prop) (hK39 : ∀ (m_thrown : Int32) (v1 : Int32) (v2 : Int32) (v3 : Int32) (H : Heap) (locs : List Loc) (ls : Array Slot), va_P (dC, dI) vwCl (wM ad cB cI cZ cL m_thrown m_today m_legs m_feeds m_taped m_point m_end m_begin m_faultAt m_farm m_pig m_begun m_first m_weight m_salted m_heat m_isBad m_isSold m_sealedFeed m_hook m_should m_on m_warmth m_damp m_isOpen m_fFarm m_fFrom m_fWhat m_fTold m_rule m_draft m_tape m_five m_those) H → va_D A (wM ad cB cI cZ cL m_thrown m_today m_legs m_feeds m_taped m_point m_end m_begin m_faultAt m_farm m_pig m_begun m_first m_weight m_salted m_heat m_isBad m_isSold m_sealedFeed m_hook m_should m_on m_warmth m_damp m_isOpen m_fFarm m_fFrom m_fWhat m_fTold m_rule m_draft m_tape m_five m_those) → va_S A s.heap H locs → lv_has ls 4 [(0, .ref (ad 0)), (1, .int v1), (2, .int v2), (3, .int v3)] → K39 m_thrown v1 v2 v3 → W p l e (headSpec wsX8_count rm_M_X8_count).room s m ([.ref (ad 0), .int p0] : List Value).toArray below meth c H locs 0 0 (MQ below (pq_M_X8_count dC dI ad cB cI cZ cL A m_thrown m_today m_legs m_feeds m_taped m_point m_end m_begin m_faultAt m_farm m_pig m_begun m_first m_weight m_salted m_heat m_isBad m_isSold m_sealedFeed m_hook m_should m_on m_warmth m_damp m_isOpen m_fFarm m_fFrom m_fWhat m_fTold m_rule m_draft m_tape m_five m_those Q) ([.ref (ad 0), .int p0] : List Value).toArray s 0 0 A) (F0 m 39 ls [])) (m_thrown : Int32) (v1 : Int32) (v3 : Int32) (k0 : Int32) (k1 : Int32) (H : Heap) (locs : List Loc) (ls : Array Slot), va_P (dC, dI) vwCl (wM ad cB cI cZ cL m_thrown m_today m_legs m_feeds m_taped m_point m_end m_begin m_faultAt m_farm m_pig m_begun m_first m_weight m_salted m_heat m_isBad m_isSold m_sealedFeed m_hook m_should m_on m_warmth m_damp m_isOpen m_fFarm m_fFrom m_fWhat m_fTold m_rule m_draft m_tape m_five m_those) H → va_D A (wM ad cB cI cZ cL m_thrown m_today m_legs m_feeds m_taped m_point m_end m_begin m_faultAt m_farm m_pig m_begun m_first m_weight m_salted m_heat m_isBad m_isSold m_sealedFeed m_hook m_should m_on m_warmth m_damp m_isOpen m_fFarm m_fFrom m_fWhat m_fTold m_rule m_draft m_tape m_five m_those) → va_S A s.heap H locs → lv_has ls 4 [(0, .ref (ad 0)), (1, .int v1), (3, .int v3)] → bk_M_X8_count_196 m_today m_legs m_feeds m_weight m_isBad m_isSold m_sealedFeed m_hook m_should Q K39 m_thrown v1 v3 k0 k1 → W p l e (headSpec wsX8_count rm_M_X8_count).room s m ([.ref (ad 0), .int p0] : List Value).toArray below meth c H locs 0 0 (MQ below (pq_M_X8_count dC dI ad cB cI cZ cL A m_thrown m_today m_legs m_feeds m_taped m_point m_end m_begin m_faultAt m_farm m_pig m_begun m_first m_weight m_salted m_heat m_isBad m_isSold m_sealedFeed m_hook m_should m_on m_warmth m_damp m_isOpen m_fFarm m_fFrom m_fWhat m_fTold m_rule m_draft m_tape m_five m_those Q) ([.ref (ad 0), .int p0] : List Value).toArray s 0 0 A) (F0 m 196 ls [.int k0, .int k1]) := by
    intro K39 hK39 m_thrown v1 v3 k0 k1 H locs ls hP hD hS hl h
    refine lv_iadd hx hb dX8_count_196 ?_
    refine lv_istore_n (lv' := [(2, .int (k1 + k0)), (0, .ref (ad 0)), (1, .int v1), (3, .int v3)]) hx hb dX8_count_197 rfl hl (by decide) rfl (fun ls hl => ?_)
    refine lv_goto (tgt := 246) hx hb dX8_count_198 (by decide) ?_
    exact hbk_M_X8_count_246 K39 hK39 m_thrown v1 (k1 + k0) v3 _ _ _ hP hD hS (lv_sub hl [1, 2, 0, 3] rfl) h
  have hbk_M_X8_count_221 : ∀ (K39 : Int32 → Int32 → Int32 → Int32 → Prop) (hK39 : ∀ (m_thrown : Int32) (v1 : Int32) (v2 : Int32) (v3 : Int32) (H : Heap) (locs : List Loc) (ls : Array Slot), va_P (dC, dI) vwCl (wM ad cB cI cZ cL m_thrown m_today m_legs m_feeds m_taped m_point m_end m_begin m_faultAt m_farm m_pig m_begun m_first m_weight m_salted m_heat m_isBad m_isSold m_sealedFeed m_hook m_should m_on m_warmth m_damp m_isOpen m_fFarm m_fFrom m_fWhat m_fTold m_rule m_draft m_tape m_five m_those) H → va_D A (wM ad cB cI cZ cL m_thrown m_today m_legs m_feeds m_taped m_point m_end m_begin m_faultAt m_farm m_pig m_begun m_first m_weight m_salted m_heat m_isBad m_isSold m_sealedFeed m_hook m_should m_on m_warmth m_damp m_isOpen m_fFarm m_fFrom m_fWhat m_fTold m_rule m_draft m_tape m_five m_those) → va_S A s.heap H locs → lv_has ls 4 [(0, .ref (ad 0)), (1, .int v1), (2, .int v2), (3, .int v3)] → K39 m_thrown v1 v2 v3 → W p l e (headSpec wsX8_count rm_M_X8_count).room s m ([.ref (ad 0), .int p0] : List Value).toArray below meth c H locs 0 0 (MQ below (pq_M_X8_count dC dI ad cB cI cZ cL A m_thrown m_today m_legs m_feeds m_taped m_point m_end m_begin m_faultAt m_farm m_pig m_begun m_first m_weight m_salted m_heat m_isBad m_isSold m_sealedFeed m_hook m_should m_on m_warmth m_damp m_isOpen m_fFarm m_fFrom m_fWhat m_fTold m_rule m_draft m_tape m_five m_those Q) ([.ref (ad 0), .int p0] : List Value).toArray s 0 0 A) (F0 m 39 ls [])) (m_thrown : Int32) (v1 : Int32) (v3 : Int32) (k0 : Int32) (k1 : Int32) (H : Heap) (locs : List Loc) (ls : Array Slot), va_P (dC, dI) vwCl (wM ad cB cI cZ cL m_thrown m_today m_legs m_feeds m_taped m_point m_end m_begin m_faultAt m_farm m_pig m_begun m_first m_weight m_salted m_heat m_isBad m_isSold m_sealedFeed m_hook m_should m_on m_warmth m_damp m_isOpen m_fFarm m_fFrom m_fWhat m_fTold m_rule m_draft m_tape m_five m_those) H → va_D A (wM ad cB cI cZ cL m_thrown m_today m_legs m_feeds m_taped m_point m_end m_begin m_faultAt m_farm m_pig m_begun m_first m_weight m_salted m_heat m_isBad m_isSold m_sealedFeed m_hook m_should m_on m_warmth m_damp m_isOpen m_fFarm m_fFrom m_fWhat m_fTold m_rule m_draft m_tape m_five m_those) → va_S A s.heap H locs → lv_has ls 4 [(0, .ref (ad 0)), (1, .int v1), (3, .int v3)] → bk_M_X8_count_221 m_today m_legs m_feeds m_weight m_isBad m_isSold m_sealedFeed m_hook m_should Q K39 m_thrown v1 v3 k0 k1 → W p l e (headSpec wsX8_count rm_M_X8_count).room s m ([.ref (ad 0), .int p0] : List Value).toArray below meth c H locs 0 0 (MQ below (pq_M_X8_count dC dI ad cB cI cZ cL A m_thrown m_today m_legs m_feeds m_taped m_point m_end m_begin m_faultAt m_farm m_pig m_begun m_first m_weight m_salted m_heat m_isBad m_isSold m_sealedFeed m_hook m_should m_on m_warmth m_damp m_isOpen m_fFarm m_fFrom m_fWhat m_fTold m_rule m_draft m_tape m_five m_those Q) ([.ref (ad 0), .int p0] : List Value).toArray s 0 0 A) (F0 m 221 ls [.int k0, .int k1]) := by
    intro K39 hK39 m_thrown v1 v3 k0 k1 H locs ls hP hD hS hl h
    refine lv_iadd hx hb dX8_count_221 ?_
    refine lv_istore_n (lv' := [(2, .int (k1 + k0)), (0, .ref (ad 0)), (1, .int v1), (3, .int v3)]) hx hb dX8_count_222 rfl hl (by decide) rfl (fun ls hl => ?_)
    refine lv_goto (tgt := 246) hx hb dX8_count_223 (by decide) ?_
    exact hbk_M_X8_count_246 K39 hK39 m_thrown v1 (k1 + k0) v3 _ _ _ hP hD hS (lv_sub hl [1, 2, 0, 3] rfl) h
  have hbk_M_X8_count_241 : ∀ (K39 : Int32 → Int32 → Int32 → Int32 → Prop) (hK39 : ∀ (m_thrown : Int32) (v1 : Int32) (v2 : Int32) (v3 : Int32) (H : Heap) (locs : List Loc) (ls : Array Slot), va_P (dC, dI) vwCl (wM ad cB cI cZ cL m_thrown m_today m_legs m_feeds m_taped m_point m_end m_begin m_faultAt m_farm m_pig m_begun m_first m_weight m_salted m_heat m_isBad m_isSold m_sealedFeed m_hook m_should m_on m_warmth m_damp m_isOpen m_fFarm m_fFrom m_fWhat m_fTold m_rule m_draft m_tape m_five m_those) H → va_D A (wM ad cB cI cZ cL m_thrown m_today m_legs m_feeds m_taped m_point m_end m_begin m_faultAt m_farm m_pig m_begun m_first m_weight m_salted m_heat m_isBad m_isSold m_sealedFeed m_hook m_should m_on m_warmth m_damp m_isOpen m_fFarm m_fFrom m_fWhat m_fTold m_rule m_draft m_tape m_five m_those) → va_S A s.heap H locs → lv_has ls 4 [(0, .ref (ad 0)), (1, .int v1), (2, .int v2), (3, .int v3)] → K39 m_thrown v1 v2 v3 → W p l e (headSpec wsX8_count rm_M_X8_count).room s m ([.ref (ad 0), .int p0] : List Value).toArray below meth c H locs 0 0 (MQ below (pq_M_X8_count dC dI ad cB cI cZ cL A m_thrown m_today m_legs m_feeds m_taped m_point m_end m_begin m_faultAt m_farm m_pig m_begun m_first m_weight m_salted m_heat m_isBad m_isSold m_sealedFeed m_hook m_should m_on m_warmth m_damp m_isOpen m_fFarm m_fFrom m_fWhat m_fTold m_rule m_draft m_tape m_five m_those Q) ([.ref (ad 0), .int p0] : List Value).toArray s 0 0 A) (F0 m 39 ls [])) (m_thrown : Int32) (v1 : Int32) (v3 : Int32) (k0 : Int32) (k1 : Int32) (H : Heap) (locs : List Loc) (ls : Array Slot), va_P (dC, dI) vwCl (wM ad cB cI cZ cL m_thrown m_today m_legs m_feeds m_taped m_point m_end m_begin m_faultAt m_farm m_pig m_begun m_first m_weight m_salted m_heat m_isBad m_isSold m_sealedFeed m_hook m_should m_on m_warmth m_damp m_isOpen m_fFarm m_fFrom m_fWhat m_fTold m_rule m_draft m_tape m_five m_those) H → va_D A (wM ad cB cI cZ cL m_thrown m_today m_legs m_feeds m_taped m_point m_end m_begin m_faultAt m_farm m_pig m_begun m_first m_weight m_salted m_heat m_isBad m_isSold m_sealedFeed m_hook m_should m_on m_warmth m_damp m_isOpen m_fFarm m_fFrom m_fWhat m_fTold m_rule m_draft m_tape m_five m_those) → va_S A s.heap H locs → lv_has ls 4 [(0, .ref (ad 0)), (1, .int v1), (3, .int v3)] → bk_M_X8_count_241 m_today m_legs m_feeds m_weight m_isBad m_isSold m_sealedFeed m_hook m_should Q K39 m_thrown v1 v3 k0 k1 → W p l e (headSpec wsX8_count rm_M_X8_count).room s m ([.ref (ad 0), .int p0] : List Value).toArray below meth c H locs 0 0 (MQ below (pq_M_X8_count dC dI ad cB cI cZ cL A m_thrown m_today m_legs m_feeds m_taped m_point m_end m_begin m_faultAt m_farm m_pig m_begun m_first m_weight m_salted m_heat m_isBad m_isSold m_sealedFeed m_hook m_should m_on m_warmth m_damp m_isOpen m_fFarm m_fFrom m_fWhat m_fTold m_rule m_draft m_tape m_five m_those Q) ([.ref (ad 0), .int p0] : List Value).toArray s 0 0 A) (F0 m 241 ls [.int k0, .int k1]) := by
    intro K39 hK39 m_thrown v1 v3 k0 k1 H locs ls hP hD hS hl h
    refine lv_iadd hx hb dX8_count_241 ?_
    refine lv_istore_n (lv' := [(2, .int (k1 + k0)), (0, .ref (ad 0)), (1, .int v1), (3, .int v3)]) hx hb dX8_count_242 rfl hl (by decide) rfl (fun ls hl => ?_)
    refine lv_goto (tgt := 246) hx hb dX8_count_243 (by decide) ?_
    exact hbk_M_X8_count_246 K39 hK39 m_thrown v1 (k1 + k0) v3 _ _ _ hP hD hS (lv_sub hl [1, 2, 0, 3] rfl) h
  have hlp_M_X8_count_39 : ∀ (n : Nat) (m_thrown : Int32) (v1 : Int32) (v2 : Int32) (v3 : Int32) (H : Heap) (locs : List Loc) (ls : Array Slot), va_P (dC, dI) vwCl (wM ad cB cI cZ cL m_thrown m_today m_legs m_feeds m_taped m_point m_end m_begin m_faultAt m_farm m_pig m_begun m_first m_weight m_salted m_heat m_isBad m_isSold m_sealedFeed m_hook m_should m_on m_warmth m_damp m_isOpen m_fFarm m_fFrom m_fWhat m_fTold m_rule m_draft m_tape m_five m_those) H → va_D A (wM ad cB cI cZ cL m_thrown m_today m_legs m_feeds m_taped m_point m_end m_begin m_faultAt m_farm m_pig m_begun m_first m_weight m_salted m_heat m_isBad m_isSold m_sealedFeed m_hook m_should m_on m_warmth m_damp m_isOpen m_fFarm m_fFrom m_fWhat m_fTold m_rule m_draft m_tape m_five m_those) → va_S A s.heap H locs → lv_has ls 4 [(0, .ref (ad 0)), (1, .int v1), (2, .int v2), (3, .int v3)] → lp_M_X8_count_39 m_today m_legs m_feeds m_weight m_isBad m_isSold m_sealedFeed m_hook m_should Q n m_thrown v1 v2 v3 → W p l e (headSpec wsX8_count rm_M_X8_count).room s m ([.ref (ad 0), .int p0] : List Value).toArray below meth c H locs 0 0 (MQ below (pq_M_X8_count dC dI ad cB cI cZ cL A m_thrown m_today m_legs m_feeds m_taped m_point m_end m_begin m_faultAt m_farm m_pig m_begun m_first m_weight m_salted m_heat m_isBad m_isSold m_sealedFeed m_hook m_should m_on m_warmth m_damp m_isOpen m_fFarm m_fFrom m_fWhat m_fTold m_rule m_draft m_tape m_five m_those Q) ([.ref (ad 0), .int p0] : List Value).toArray s 0 0 A) (F0 m 39 ls []) := by
    intro n
    induction n with
    | zero => intro m_thrown v1 v2 v3 H locs ls hP hD hS hl h; exact h.elim
    | succ n ih =>
      intro m_thrown v1 v2 v3 H locs ls hP hD hS hl h
      refine lv_iload_n hx hb dX8_count_39 rfl (lv_at hl 3 rfl) ?_
      refine lv_aload_n hx hb dX8_count_40 rfl (lv_at hl 0 rfl) ?_
      refine va_get (D := (dC, dI)) (ci := 8) (v := .int m_legs) (C := RX8) (T := TX8) (N := 34) hx hb hts hk_1 hown hK hP 0 wM_g0 rfl 14 (by decide) hk_2 (fun _ h9 => h9) rfl dX8_count_41 ?_
      refine lv_icmp_ge (tgt := 252) hx hb dX8_count_44 (by decide) (fun c_4 => ?_) (fun c_4 => ?_)
      · have h := h.1 c_4
        refine lv_iload_n hx hb dX8_count_252 rfl (lv_at hl 1 rfl) ?_
        refine lv_iconst (v := 2) hx hb dX8_count_253 (by decide) ?_
        refine lv_bipush (v := 9) hx hb dX8_count_254 (by decide) ?_
        refine va_calli (va_runS (As := [.int v1, .int 2, .int 9]) (rest := []) ⟨hx, hb, hml, hown, hts⟩ (c_M_X8_in l dC dI ad cB cI cZ cL A m_thrown m_today m_legs m_feeds m_taped m_point m_end m_begin m_faultAt m_farm m_pig m_begun m_first m_weight m_salted m_heat m_isBad m_isSold m_sealedFeed m_hook m_should m_on m_warmth m_damp m_isOpen m_fFarm m_fFrom m_fWhat m_fTold m_rule m_draft m_tape m_five m_those v1 2 9 _ h) (va_cwS 3 hts gX8_count_X8_in rfl rfl rfl (by decide +kernel) ⟨(Nat.le_of_ble_eq_true rfl), (Nat.le_of_ble_eq_true rfl)⟩) ⟨kC_blind, fun U hU hW => ⟨rfl, kC_go hA hS hP hK hD hE U hU hW⟩⟩ rfl rfl hl.1 rfl (lv_room (Nat.le_of_ble_eq_true rfl)) dX8_count_256 ⟨(Nat.le_of_ble_eq_true rfl), (Nat.le_of_ble_eq_true rfl)⟩) hS (fun q _ h => h) (fun q h => h) (fun r_5 u t H locs ht hvm hw hB hz1 hk1 hS => ?_)
        have h := hw
        try dsimp only at h
        have hP : va_P (dC, dI) vwCl (wM ad cB cI cZ cL m_thrown m_today m_legs m_feeds m_taped m_point m_end m_begin m_faultAt m_farm m_pig m_begun m_first m_weight m_salted m_heat m_isBad m_isSold m_sealedFeed m_hook m_should m_on m_warmth m_damp m_isOpen m_fFarm m_fFrom m_fWhat m_fTold m_rule m_draft m_tape m_five m_those) H := by rw [← ht]; exact hB.1
        have hD : va_D A (wM ad cB cI cZ cL m_thrown m_today m_legs m_feeds m_taped m_point m_end m_begin m_faultAt m_farm m_pig m_begun m_first m_weight m_salted m_heat m_isBad m_isSold m_sealedFeed m_hook m_should m_on m_warmth m_damp m_isOpen m_fFarm m_fFrom m_fWhat m_fTold m_rule m_draft m_tape m_five m_those) := hB.2.2
        refine lv_if_eq (tgt := 266) hx hb dX8_count_259 (by decide) (fun c_6 => ?_) (fun c_6 => ?_)
        · have h := h.1 c_6
          refine lv_iconst (v := (-1)) hx hb dX8_count_266 (by decide) ?_
          exact W.iret (v := (-1)) hx hb hr (fun t ht hW => ⟨⟨(-1), (m_thrown), rfl, h, kB_mk hP hK hD ht hW.alike⟩, hS.F ht⟩) hS.2.2 dX8_count_267
        · have h := h.2 c_6
          refine lv_iload_n hx hb dX8_count_262 rfl (lv_at hl 2 rfl) ?_
          refine lv_goto (tgt := 267) hx hb dX8_count_263 (by decide) ?_
          exact W.iret (v := v2) hx hb hr (fun t ht hW => ⟨⟨v2, (m_thrown), rfl, h, kB_mk hP hK hD ht hW.alike⟩, hS.F ht⟩) hS.2.2 dX8_count_267
      · have h := h.2 c_4
        refine lv_iload_n hx hb dX8_count_47 rfl (lv_at hl 1 rfl) ?_
        by_cases hc_48_2 : v1 = 2
        · have h := h.1 hc_48_2
          refine lv_tableIn (off := 48) (tgt := 96) hx hb dX8_count_48 (by rw [hc_48_2]; decide) (by rw [hc_48_2]; decide) (by rw [hc_48_2]; rfl) (by decide) ?_
          refine lv_iload_n hx hb dX8_count_96 rfl (lv_at hl 2 rfl) ?_
          refine lv_aload_n hx hb dX8_count_97 rfl (lv_at hl 0 rfl) ?_
          refine va_get (D := (dC, dI)) (ci := 8) (v := .ref (ad 11)) (C := RX8) (T := TX8) (N := 34) hx hb hts hk_1 hown hK hP 0 wM_g0 rfl 12 (by decide) hk_3 (fun _ h9 => h9) rfl dX8_count_98 ?_
          refine lv_iload_n hx hb dX8_count_101 rfl (lv_at hl 3 rfl) ?_
          have hi_7 := h.1
          have h := h.2
          refine va_iald hx hb hK hP 11 1 wM_g11 rfl hi_7 dX8_count_102 ?_
          refine lv_if_lt (tgt := 110) hx hb dX8_count_103 (by decide) (fun c_8 => ?_) (fun c_8 => ?_)
          · have h := h.1 c_8
            refine lv_iconst (v := 0) hx hb dX8_count_110 (by decide) ?_
            exact hbk_M_X8_count_111 (lp_M_X8_count_39 m_today m_legs m_feeds m_weight m_isBad m_isSold m_sealedFeed m_hook m_should Q n) ih m_thrown v1 v3 0 v2 _ _ _ hP hD hS (lv_sub hl [0, 1, 3] rfl) h
          · have h := h.2 c_8
            refine lv_iconst (v := 1) hx hb dX8_count_106 (by decide) ?_
            refine lv_goto (tgt := 111) hx hb dX8_count_107 (by decide) ?_
            exact hbk_M_X8_count_111 (lp_M_X8_count_39 m_today m_legs m_feeds m_weight m_isBad m_isSold m_sealedFeed m_hook m_should Q n) ih m_thrown v1 v3 1 v2 _ _ _ hP hD hS (lv_sub hl [0, 1, 3] rfl) h
        · have h := h.2 hc_48_2
          by_cases hc_48_3 : v1 = 3
          · have h := h.1 hc_48_3
            refine lv_tableIn (off := 68) (tgt := 116) hx hb dX8_count_48 (by rw [hc_48_3]; decide) (by rw [hc_48_3]; decide) (by rw [hc_48_3]; rfl) (by decide) ?_
            refine lv_iload_n hx hb dX8_count_116 rfl (lv_at hl 2 rfl) ?_
            refine lv_aload_n hx hb dX8_count_117 rfl (lv_at hl 0 rfl) ?_
            refine va_get (D := (dC, dI)) (ci := 8) (v := .ref (ad 10)) (C := RX8) (T := TX8) (N := 34) hx hb hts hk_1 hown hK hP 0 wM_g0 rfl 11 (by decide) hk_4 (fun _ h9 => h9) rfl dX8_count_118 ?_
            refine lv_iload_n hx hb dX8_count_121 rfl (lv_at hl 3 rfl) ?_
            have hi_9 := h.1
            have h := h.2
            refine va_iald hx hb hK hP 10 1 wM_g10 rfl hi_9 dX8_count_122 ?_
            refine lv_if_lt (tgt := 130) hx hb dX8_count_123 (by decide) (fun c_10 => ?_) (fun c_10 => ?_)
            · have h := h.1 c_10
              refine lv_iconst (v := 0) hx hb dX8_count_130 (by decide) ?_
              exact hbk_M_X8_count_131 (lp_M_X8_count_39 m_today m_legs m_feeds m_weight m_isBad m_isSold m_sealedFeed m_hook m_should Q n) ih m_thrown v1 v3 0 v2 _ _ _ hP hD hS (lv_sub hl [0, 1, 3] rfl) h
            · have h := h.2 c_10
              refine lv_iconst (v := 1) hx hb dX8_count_126 (by decide) ?_
              refine lv_goto (tgt := 131) hx hb dX8_count_127 (by decide) ?_
              exact hbk_M_X8_count_131 (lp_M_X8_count_39 m_today m_legs m_feeds m_weight m_isBad m_isSold m_sealedFeed m_hook m_should Q n) ih m_thrown v1 v3 1 v2 _ _ _ hP hD hS (lv_sub hl [0, 1, 3] rfl) h
          · have h := h.2 hc_48_3
            by_cases hc_48_4 : v1 = 4
            · have h := h.1 hc_48_4
              refine lv_tableIn (off := 88) (tgt := 136) hx hb dX8_count_48 (by rw [hc_48_4]; decide) (by rw [hc_48_4]; decide) (by rw [hc_48_4]; rfl) (by decide) ?_
              refine lv_iload_n hx hb dX8_count_136 rfl (lv_at hl 2 rfl) ?_
              refine lv_aload_n hx hb dX8_count_137 rfl (lv_at hl 0 rfl) ?_
              refine va_get (D := (dC, dI)) (ci := 8) (v := .ref (ad 8)) (C := RX8) (T := TX8) (N := 34) hx hb hts hk_1 hown hK hP 0 wM_g0 rfl 9 (by decide) hk_5 (fun _ h9 => h9) rfl dX8_count_138 ?_
              refine lv_iload_n hx hb dX8_count_141 rfl (lv_at hl 3 rfl) ?_
              have hi_11 := h.1
              have h := h.2
              refine va_zald hx hb hK hP 8 2 wM_g8 rfl hi_11 dX8_count_142 ?_
              refine lv_if_eq (tgt := 150) hx hb dX8_count_143 (by decide) (fun c_12 => ?_) (fun c_12 => ?_)
              · have h := h.1 c_12
                refine lv_iconst (v := 0) hx hb dX8_count_150 (by decide) ?_
                exact hbk_M_X8_count_151 (lp_M_X8_count_39 m_today m_legs m_feeds m_weight m_isBad m_isSold m_sealedFeed m_hook m_should Q n) ih m_thrown v1 v3 0 v2 _ _ _ hP hD hS (lv_sub hl [0, 1, 3] rfl) h
              · have h := h.2 c_12
                refine lv_iconst (v := 1) hx hb dX8_count_146 (by decide) ?_
                refine lv_goto (tgt := 151) hx hb dX8_count_147 (by decide) ?_
                exact hbk_M_X8_count_151 (lp_M_X8_count_39 m_today m_legs m_feeds m_weight m_isBad m_isSold m_sealedFeed m_hook m_should Q n) ih m_thrown v1 v3 1 v2 _ _ _ hP hD hS (lv_sub hl [0, 1, 3] rfl) h
            · have h := h.2 hc_48_4
              by_cases hc_48_5 : v1 = 5
              · have h := h.1 hc_48_5
                refine lv_tableIn (off := 108) (tgt := 156) hx hb dX8_count_48 (by rw [hc_48_5]; decide) (by rw [hc_48_5]; decide) (by rw [hc_48_5]; rfl) (by decide) ?_
                refine lv_iload_n hx hb dX8_count_156 rfl (lv_at hl 2 rfl) ?_
                refine lv_aload_n hx hb dX8_count_157 rfl (lv_at hl 0 rfl) ?_
                refine va_get (D := (dC, dI)) (ci := 8) (v := .ref (ad 9)) (C := RX8) (T := TX8) (N := 34) hx hb hts hk_1 hown hK hP 0 wM_g0 rfl 10 (by decide) hk_6 (fun _ h9 => h9) rfl dX8_count_158 ?_
                refine lv_iload_n hx hb dX8_count_161 rfl (lv_at hl 3 rfl) ?_
                have hi_13 := h.1
                have h := h.2
                refine va_zald hx hb hK hP 9 2 wM_g9 rfl hi_13 dX8_count_162 ?_
                refine lv_if_eq (tgt := 170) hx hb dX8_count_163 (by decide) (fun c_14 => ?_) (fun c_14 => ?_)
                · have h := h.1 c_14
                  refine lv_iconst (v := 0) hx hb dX8_count_170 (by decide) ?_
                  exact hbk_M_X8_count_171 (lp_M_X8_count_39 m_today m_legs m_feeds m_weight m_isBad m_isSold m_sealedFeed m_hook m_should Q n) ih m_thrown v1 v3 0 v2 _ _ _ hP hD hS (lv_sub hl [0, 1, 3] rfl) h
                · have h := h.2 c_14
                  refine lv_iconst (v := 1) hx hb dX8_count_166 (by decide) ?_
                  refine lv_goto (tgt := 171) hx hb dX8_count_167 (by decide) ?_
                  exact hbk_M_X8_count_171 (lp_M_X8_count_39 m_today m_legs m_feeds m_weight m_isBad m_isSold m_sealedFeed m_hook m_should Q n) ih m_thrown v1 v3 1 v2 _ _ _ hP hD hS (lv_sub hl [0, 1, 3] rfl) h
              · have h := h.2 hc_48_5
                by_cases hc_48_6 : v1 = 6
                · have h := h.1 hc_48_6
                  refine lv_tableIn (off := 128) (tgt := 176) hx hb dX8_count_48 (by rw [hc_48_6]; decide) (by rw [hc_48_6]; decide) (by rw [hc_48_6]; rfl) (by decide) ?_
                  refine lv_iload_n hx hb dX8_count_176 rfl (lv_at hl 2 rfl) ?_
                  refine lv_aload_n hx hb dX8_count_177 rfl (lv_at hl 0 rfl) ?_
                  refine va_get (D := (dC, dI)) (ci := 8) (v := .ref (ad 9)) (C := RX8) (T := TX8) (N := 34) hx hb hts hk_1 hown hK hP 0 wM_g0 rfl 10 (by decide) hk_6 (fun _ h9 => h9) rfl dX8_count_178 ?_
                  refine lv_iload_n hx hb dX8_count_181 rfl (lv_at hl 3 rfl) ?_
                  have hi_15 := h.1
                  have h := h.2
                  refine va_zald hx hb hK hP 9 2 wM_g9 rfl hi_15 dX8_count_182 ?_
                  refine lv_if_eq (tgt := 190) hx hb dX8_count_183 (by decide) (fun c_16 => ?_) (fun c_16 => ?_)
                  · have h := h.1 c_16
                    refine lv_aload_n hx hb dX8_count_190 rfl (lv_at hl 0 rfl) ?_
                    refine va_get (D := (dC, dI)) (ci := 8) (v := .ref (ad 5)) (C := RX8) (T := TX8) (N := 34) hx hb hts hk_1 hown hK hP 0 wM_g0 rfl 6 (by decide) hk_7 (fun _ h9 => h9) rfl dX8_count_191 ?_
                    refine lv_iload_n hx hb dX8_count_194 rfl (lv_at hl 3 rfl) ?_
                    have hi_17 := h.1
                    have h := h.2
                    refine va_iald hx hb hK hP 5 1 wM_g5 rfl hi_17 dX8_count_195 ?_
                    exact hbk_M_X8_count_196 (lp_M_X8_count_39 m_today m_legs m_feeds m_weight m_isBad m_isSold m_sealedFeed m_hook m_should Q n) ih m_thrown v1 v3 (m_weight v3.toNatClampNeg) v2 _ _ _ hP hD hS (lv_sub hl [0, 1, 3] rfl) h
                  · have h := h.2 c_16
                    refine lv_iconst (v := 0) hx hb dX8_count_186 (by decide) ?_
                    refine lv_goto (tgt := 196) hx hb dX8_count_187 (by decide) ?_
                    exact hbk_M_X8_count_196 (lp_M_X8_count_39 m_today m_legs m_feeds m_weight m_isBad m_isSold m_sealedFeed m_hook m_should Q n) ih m_thrown v1 v3 0 v2 _ _ _ hP hD hS (lv_sub hl [0, 1, 3] rfl) h
                · have h := h.2 hc_48_6
                  by_cases hc_48_7 : v1 = 7
                  · have h := h.1 hc_48_7
                    refine lv_tableIn (off := 153) (tgt := 201) hx hb dX8_count_48 (by rw [hc_48_7]; decide) (by rw [hc_48_7]; decide) (by rw [hc_48_7]; rfl) (by decide) ?_
                    refine lv_iload_n hx hb dX8_count_201 rfl (lv_at hl 2 rfl) ?_
                    refine lv_aload_n hx hb dX8_count_202 rfl (lv_at hl 0 rfl) ?_
                    refine va_get (D := (dC, dI)) (ci := 8) (v := .ref (ad 9)) (C := RX8) (T := TX8) (N := 34) hx hb hts hk_1 hown hK hP 0 wM_g0 rfl 10 (by decide) hk_6 (fun _ h9 => h9) rfl dX8_count_203 ?_
                    refine lv_iload_n hx hb dX8_count_206 rfl (lv_at hl 3 rfl) ?_
                    have hi_18 := h.1
                    have h := h.2
                    refine va_zald hx hb hK hP 9 2 wM_g9 rfl hi_18 dX8_count_207 ?_
                    refine lv_if_eq (tgt := 220) hx hb dX8_count_208 (by decide) (fun c_19 => ?_) (fun c_19 => ?_)
                    · have h := h.1 c_19
                      refine lv_iconst (v := 0) hx hb dX8_count_220 (by decide) ?_
                      exact hbk_M_X8_count_221 (lp_M_X8_count_39 m_today m_legs m_feeds m_weight m_isBad m_isSold m_sealedFeed m_hook m_should Q n) ih m_thrown v1 v3 0 v2 _ _ _ hP hD hS (lv_sub hl [0, 1, 3] rfl) h
                    · have h := h.2 c_19
                      refine lv_aload_n hx hb dX8_count_211 rfl (lv_at hl 0 rfl) ?_
                      refine va_get (D := (dC, dI)) (ci := 8) (v := .ref (ad 5)) (C := RX8) (T := TX8) (N := 34) hx hb hts hk_1 hown hK hP 0 wM_g0 rfl 6 (by decide) hk_7 (fun _ h9 => h9) rfl dX8_count_212 ?_
                      refine lv_iload_n hx hb dX8_count_215 rfl (lv_at hl 3 rfl) ?_
                      have hi_20 := h.1
                      have h := h.2
                      refine va_iald hx hb hK hP 5 1 wM_g5 rfl hi_20 dX8_count_216 ?_
                      refine lv_goto (tgt := 221) hx hb dX8_count_217 (by decide) ?_
                      exact hbk_M_X8_count_221 (lp_M_X8_count_39 m_today m_legs m_feeds m_weight m_isBad m_isSold m_sealedFeed m_hook m_should Q n) ih m_thrown v1 v3 (m_weight v3.toNatClampNeg) v2 _ _ _ hP hD hS (lv_sub hl [0, 1, 3] rfl) h
                  · have h := h.2 hc_48_7
                    by_cases hc_48_8 : v1 = 8
                    · have h := h.1 hc_48_8
                      refine lv_tableIn (off := 198) (tgt := 246) hx hb dX8_count_48 (by rw [hc_48_8]; decide) (by rw [hc_48_8]; decide) (by rw [hc_48_8]; rfl) (by decide) ?_
                      exact hbk_M_X8_count_246 (lp_M_X8_count_39 m_today m_legs m_feeds m_weight m_isBad m_isSold m_sealedFeed m_hook m_should Q n) ih m_thrown v1 v2 v3 _ _ _ hP hD hS (lv_sub hl [0, 1, 2, 3] rfl) h
                    · have h := h.2 hc_48_8
                      by_cases hc_48_9 : v1 = 9
                      · have h := h.1 hc_48_9
                        refine lv_tableIn (off := 178) (tgt := 226) hx hb dX8_count_48 (by rw [hc_48_9]; decide) (by rw [hc_48_9]; decide) (by rw [hc_48_9]; rfl) (by decide) ?_
                        refine lv_iload_n hx hb dX8_count_226 rfl (lv_at hl 2 rfl) ?_
                        refine lv_aload_n hx hb dX8_count_227 rfl (lv_at hl 0 rfl) ?_
                        refine va_get (D := (dC, dI)) (ci := 8) (v := .ref (ad 12)) (C := RX8) (T := TX8) (N := 34) hx hb hts hk_1 hown hK hP 0 wM_g0 rfl 13 (by decide) hk_8 (fun _ h9 => h9) rfl dX8_count_228 ?_
                        refine lv_iload_n hx hb dX8_count_231 rfl (lv_at hl 3 rfl) ?_
                        have hi_21 := h.1
                        have h := h.2
                        refine va_iald hx hb hK hP 12 1 wM_g12 rfl hi_21 dX8_count_232 ?_
                        refine lv_if_lt (tgt := 240) hx hb dX8_count_233 (by decide) (fun c_22 => ?_) (fun c_22 => ?_)
                        · have h := h.1 c_22
                          refine lv_iconst (v := 0) hx hb dX8_count_240 (by decide) ?_
                          exact hbk_M_X8_count_241 (lp_M_X8_count_39 m_today m_legs m_feeds m_weight m_isBad m_isSold m_sealedFeed m_hook m_should Q n) ih m_thrown v1 v3 0 v2 _ _ _ hP hD hS (lv_sub hl [0, 1, 3] rfl) h
                        · have h := h.2 c_22
                          refine lv_iconst (v := 1) hx hb dX8_count_236 (by decide) ?_
                          refine lv_goto (tgt := 241) hx hb dX8_count_237 (by decide) ?_
                          exact hbk_M_X8_count_241 (lp_M_X8_count_39 m_today m_legs m_feeds m_weight m_isBad m_isSold m_sealedFeed m_hook m_should Q n) ih m_thrown v1 v3 1 v2 _ _ _ hP hD hS (lv_sub hl [0, 1, 3] rfl) h
                      · have h := h.2 hc_48_9
                        have t_2 : ¬ v1.toInt = 2 := lv_neT hc_48_2 (by decide)
                        have t_3 : ¬ v1.toInt = 3 := lv_neT hc_48_3 (by decide)
                        have t_4 : ¬ v1.toInt = 4 := lv_neT hc_48_4 (by decide)
                        have t_5 : ¬ v1.toInt = 5 := lv_neT hc_48_5 (by decide)
                        have t_6 : ¬ v1.toInt = 6 := lv_neT hc_48_6 (by decide)
                        have t_7 : ¬ v1.toInt = 7 := lv_neT hc_48_7 (by decide)
                        have t_8 : ¬ v1.toInt = 8 := lv_neT hc_48_8 (by decide)
                        have t_9 : ¬ v1.toInt = 9 := lv_neT hc_48_9 (by decide)
                        refine lv_tableOut (tgt := 246) hx hb dX8_count_48 (by omega) (by decide) ?_
                        exact hbk_M_X8_count_246 (lp_M_X8_count_39 m_today m_legs m_feeds m_weight m_isBad m_isSold m_sealedFeed m_hook m_should Q n) ih m_thrown v1 v2 v3 _ _ _ hP hD hS (lv_sub hl [0, 1, 2, 3] rfl) h
  have hl := lv_entry ([.ref (ad 0), .int p0]) (n := 4) (Nat.le_of_ble_eq_true rfl)
  rw [lg_entry_eq]
  generalize (lg_sl ([.ref (ad 0), .int p0]) ++ List.replicate (4 - (lg_sl ([.ref (ad 0), .int p0])).length) Slot.unset).toArray = ls at hl ⊢
  have hl : lv_has ls 4 [(0, .ref (ad 0)), (1, .int p0)] := hl
  unfold wp_M_X8_count at h
  refine lv_aload_n hx hb dX8_count_0 rfl (lv_at hl 0 rfl) ?_
  refine lv_iconst (v := 0) hx hb dX8_count_1 (by decide) ?_
  refine va_put (D := (dC, dI)) (ci := 8) (v := .int 0) (ty := .int) (C := RX8) (T := TX8) (N := 34) hx hb hts hk_1 tyX8 tyX8_ok nmX8 hown hK hP hD hS 0 wM_g0 rfl 0 (by decide) hk_0 (fun _ h9 => h9) rfl (by decide +kernel) rfl rfl (Nat.le_of_ble_eq_true rfl) dX8_count_2 (fun H locs hP2 hD2 hS => ?_)
  have hP : va_P (dC, dI) vwCl (wM ad cB cI cZ cL 0 m_today m_legs m_feeds m_taped m_point m_end m_begin m_faultAt m_farm m_pig m_begun m_first m_weight m_salted m_heat m_isBad m_isSold m_sealedFeed m_hook m_should m_on m_warmth m_damp m_isOpen m_fFarm m_fFrom m_fWhat m_fTold m_rule m_draft m_tape m_five m_those) H := hP_eq (wM_p_m_thrown) hP2
  have hD : va_D A (wM ad cB cI cZ cL 0 m_today m_legs m_feeds m_taped m_point m_end m_begin m_faultAt m_farm m_pig m_begun m_first m_weight m_salted m_heat m_isBad m_isSold m_sealedFeed m_hook m_should m_on m_warmth m_damp m_isOpen m_fFarm m_fFrom m_fWhat m_fTold m_rule m_draft m_tape m_five m_those) := hD_eq (wM_p_m_thrown) hD2
  refine lv_iload_n hx hb dX8_count_5 rfl (lv_at hl 1 rfl) ?_
  refine lv_if_ne (tgt := 14) hx hb dX8_count_6 (by decide) (fun c_1 => ?_) (fun c_1 => ?_)
  · have h := h.1 c_1
    refine lv_iload_n hx hb dX8_count_14 rfl (lv_at hl 1 rfl) ?_
    refine lv_iconst (v := 1) hx hb dX8_count_15 (by decide) ?_
    refine lv_icmp_ne (tgt := 24) hx hb dX8_count_16 (by decide) (fun c_2 => ?_) (fun c_2 => ?_)
    · have h := h.1 c_2
      refine lv_iload_n hx hb dX8_count_24 rfl (lv_at hl 1 rfl) ?_
      refine lv_bipush (v := 8) hx hb dX8_count_25 (by decide) ?_
      refine lv_icmp_ne (tgt := 35) hx hb dX8_count_27 (by decide) (fun c_3 => ?_) (fun c_3 => ?_)
      · have h := h.1 c_3
        refine lv_iconst (v := 0) hx hb dX8_count_35 (by decide) ?_
        refine lv_istore_n (lv' := [(2, .int 0), (0, .ref (ad 0)), (1, .int p0)]) hx hb dX8_count_36 rfl hl (by decide) rfl (fun ls hl => ?_)
        refine lv_iconst (v := 0) hx hb dX8_count_37 (by decide) ?_
        refine lv_istore_n (lv' := [(3, .int 0), (2, .int 0), (0, .ref (ad 0)), (1, .int p0)]) hx hb dX8_count_38 rfl hl (by decide) rfl (fun ls hl => ?_)
        obtain ⟨n_23, h⟩ := h
        exact hlp_M_X8_count_39 n_23 0 p0 0 0 _ _ _ hP hD hS (lv_sub hl [2, 3, 1, 0] rfl) h
      · have h := h.2 c_3
        refine lv_aload_n hx hb dX8_count_30 rfl (lv_at hl 0 rfl) ?_
        refine va_get (D := (dC, dI)) (ci := 8) (v := .int m_feeds) (C := RX8) (T := TX8) (N := 34) hx hb hts hk_1 hown hK hP 0 wM_g0 rfl 23 (by decide) hk_9 (fun _ h9 => h9) rfl dX8_count_31 ?_
        exact W.iret (v := m_feeds) hx hb hr (fun t ht hW => ⟨⟨m_feeds, (0), rfl, h, kB_mk hP hK hD ht hW.alike⟩, hS.F ht⟩) hS.2.2 dX8_count_34
    · have h := h.2 c_2
      refine lv_aload_n hx hb dX8_count_19 rfl (lv_at hl 0 rfl) ?_
      refine va_get (D := (dC, dI)) (ci := 8) (v := .int m_legs) (C := RX8) (T := TX8) (N := 34) hx hb hts hk_1 hown hK hP 0 wM_g0 rfl 14 (by decide) hk_2 (fun _ h9 => h9) rfl dX8_count_20 ?_
      exact W.iret (v := m_legs) hx hb hr (fun t ht hW => ⟨⟨m_legs, (0), rfl, h, kB_mk hP hK hD ht hW.alike⟩, hS.F ht⟩) hS.2.2 dX8_count_23
  · have h := h.2 c_1
    refine lv_aload_n hx hb dX8_count_9 rfl (lv_at hl 0 rfl) ?_
    refine va_get (D := (dC, dI)) (ci := 8) (v := .int m_today) (C := RX8) (T := TX8) (N := 34) hx hb hts hk_1 hown hK hP 0 wM_g0 rfl 1 (by decide) hk_10 (fun _ h9 => h9) rfl dX8_count_10 ?_
    exact W.iret (v := m_today) hx hb hr (fun t ht hW => ⟨⟨m_today, (0), rfl, h, kB_mk hP hK hD ht hW.alike⟩, hS.F ht⟩) hS.2.2 dX8_count_13
