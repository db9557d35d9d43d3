def wp_M_X8_throwsIf (Q : Int32 → Int32 → Prop) (m_thrown : Int32) (p0 : Int32) (p1 : Int32) : Prop := ((p0 = 0 → (o01 p0 ∧ Q p0 m_thrown)) ∧ (¬ (p0 = 0) → (o01 p0 ∧ Q p0 p1)))
def rm_M_X8_throwsIf : Room := { frames := 0, cells := 0, slots := 0, locals := 0 }
abbrev pq_M_X8_throwsIf (dC : Nat → ClassId) (dI : Nat → Nat → Nat) (ad : Nat → Nat) (cB cI cZ cL : ClassId) (A : Nat → Prop) (m_thrown m_today m_legs m_feeds m_taped m_point m_end m_begin m_faultAt : Int32) (m_farm m_pig m_begun m_first m_weight m_salted m_heat m_isBad m_isSold m_sealedFeed m_hook m_should m_on m_warmth m_damp m_isOpen m_fFarm m_fFrom m_fWhat m_fTold m_rule m_draft m_tape m_five m_those : Nat → Int32) (Q : Int32 → Int32 → Prop) : Array Value → State → Outcome → State → Prop := va_Qi (fun (r : Int32) (u : Int32) => Q r u) (fun u t => kB dC dI A (wM ad cB cI cZ cL u m_today m_legs m_feeds m_taped m_point m_end m_begin m_faultAt m_farm m_pig m_begun m_first m_weight m_salted m_heat m_isBad m_isSold m_sealedFeed m_hook m_should m_on m_warmth m_damp m_isOpen m_fFarm m_fFrom m_fWhat m_fTold m_rule m_draft m_tape m_five m_those) (kTy cB cI cZ cL) t) A
set_option maxHeartbeats 4000000 in
set_option maxRecDepth 100000 in
theorem c_M_X8_throwsIf (l : Launch) (dC : Nat → ClassId) (dI : Nat → Nat → Nat) (ad : Nat → Nat) (cB cI cZ cL : ClassId) (A : Nat → Prop) (m_thrown m_today m_legs m_feeds m_taped m_point m_end m_begin m_faultAt : Int32) (m_farm m_pig m_begun m_first m_weight m_salted m_heat m_isBad m_isSold m_sealedFeed m_hook m_should m_on m_warmth m_damp m_isOpen m_fFarm m_fFrom m_fWhat m_fTold m_rule m_draft m_tape m_five m_those : Nat → Int32) (p0 : Int32) (p1 : Int32)  (Q : Int32 → Int32 → Prop) (h : wp_M_X8_throwsIf Q m_thrown p0 p1) : Met l yX8_throwsIf wsX8_throwsIf rm_M_X8_throwsIf (va_Pc [.ref (ad 0), .int p0, .int p1] (kC dC dI ad A (wM ad cB cI cZ cL m_thrown m_today m_legs m_feeds m_taped m_point m_end m_begin m_faultAt m_farm m_pig m_begun m_first m_weight m_salted m_heat m_isBad m_isSold m_sealedFeed m_hook m_should m_on m_warmth m_damp m_isOpen m_fFarm m_fFrom m_fWhat m_fTold m_rule m_draft m_tape m_five m_those) (kTy cB cI cZ cL))) (pq_M_X8_throwsIf dC dI ad cB cI cZ cL A m_thrown m_today m_legs m_feeds m_taped m_point m_end m_begin m_faultAt m_farm m_pig m_begun m_first m_weight m_salted m_heat m_isBad m_isSold m_sealedFeed m_hook m_should m_on m_warmth m_damp m_isOpen m_fFarm m_fFrom m_fWhat m_fTold m_rule m_draft m_tape m_five m_those Q) 0 0 A := by
  refine Met.ofW (cc := cX8_throwsIf) (maxL := 3) (ret := (some .boolean)) (by decide) rfl ?_
  intro p e s m args below meth c s₁ B hml hv
  obtain ⟨rfl, hA, hP, hK, hD, hE⟩ := hv
  have hx := B.exec
  have hb := B.bytes
  have hr := B.returns
  have hts := atoms_spec (ws := wsX8_throwsIf) B.pre
  have hown : s.vm.findClass RX8 = some m.cls := findClass_of_methodNamed B.named
  have hlocks := B.notSynchronized
  have hS : va_S A s.heap s.heap [] := va_S.rf
  have hk_0 := hts (.fieldLink RX8 1 "HamCellarModel" "thrown" "I") (by decide +kernel)
  have hk_1 : ∀ w ∈ wsX80, w ∈ wsX8_throwsIf := by decide +kernel
  have hl := lv_entry ([.ref (ad 0), .int p0, .int p1]) (n := 3) (Nat.le_of_ble_eq_true rfl)
  rw [lg_entry_eq]
  generalize (lg_sl ([.ref (ad 0), .int p0, .int p1]) ++ List.replicate (3 - (lg_sl ([.ref (ad 0), .int p0, .int p1])).length) Slot.unset).toArray = ls at hl ⊢
  have hl : lv_has ls 3 [(0, .ref (ad 0)), (1, .int p0), (2, .int p1)] := hl
  unfold wp_M_X8_throwsIf at h
  refine lv_iload_n hx hb dX8_throwsIf_0 rfl (lv_at hl 1 rfl) ?_
  refine lv_if_eq (tgt := 9) hx hb dX8_throwsIf_1 (by decide) (fun c_1 => ?_) (fun c_1 => ?_)
  · have h := h.1 c_1
    refine lv_iload_n hx hb dX8_throwsIf_9 rfl (lv_at hl 1 rfl) ?_
    exact W.zret (v := p0) (ty := .boolean) hx hb hr (z01 h.1) (fun t ht hW => ⟨⟨p0, (m_thrown), rfl, h.2, kB_mk hP hK hD ht hW.alike⟩, hS.F ht⟩) hS.2.2 dX8_throwsIf_10
  · have h := h.2 c_1
    refine lv_aload_n hx hb dX8_throwsIf_4 rfl (lv_at hl 0 rfl) ?_
    refine lv_iload_n hx hb dX8_throwsIf_5 rfl (lv_at hl 2 rfl) ?_
    refine va_put (D := (dC, dI)) (ci := 8) (v := .int p1) (ty := .int) (C := RX8) (T := TX8) (N := 34) hx hb hts hk_1 tyX8 tyX8_ok nmX8 hown hK hP hD hS 0 wM_g0 rfl 0 (by decide) hk_0 (fun _ h9 => h9) rfl (by decide +kernel) rfl rfl (Nat.le_of_ble_eq_true rfl) dX8_throwsIf_6 (fun H locs hP2 hD2 hS => ?_)
    have hP : va_P (dC, dI) vwCl (wM ad cB cI cZ cL p1 m_today m_legs m_feeds m_taped m_point m_end m_begin m_faultAt m_farm m_pig m_begun m_first m_weight m_salted m_heat m_isBad m_isSold m_sealedFeed m_hook m_should m_on m_warmth m_damp m_isOpen m_fFarm m_fFrom m_fWhat m_fTold m_rule m_draft m_tape m_five m_those) H := hP_eq (wM_p_m_thrown) hP2
    have hD : va_D A (wM ad cB cI cZ cL p1 m_today m_legs m_feeds m_taped m_point m_end m_begin m_faultAt m_farm m_pig m_begun m_first m_weight m_salted m_heat m_isBad m_isSold m_sealedFeed m_hook m_should m_on m_warmth m_damp m_isOpen m_fFarm m_fFrom m_fWhat m_fTold m_rule m_draft m_tape m_five m_those) := hD_eq (wM_p_m_thrown) hD2
    refine lv_iload_n hx hb dX8_throwsIf_9 rfl (lv_at hl 1 rfl) ?_
    exact W.zret (v := p0) (ty := .boolean) hx hb hr (z01 h.1) (fun t ht hW => ⟨⟨p0, (p1), rfl, h.2, kB_mk hP hK hD ht hW.alike⟩, hS.F ht⟩) hS.2.2 dX8_throwsIf_10
def wp_M_X8_in (Q : Int32 → Prop) (p0 : Int32) (p1 : Int32) (p2 : Int32) : Prop := ((p0 < p1 → (o01 0 ∧ Q 0 )) ∧ (¬ (p0 < p1) → ((p2 < p0 → (o01 0 ∧ Q 0 )) ∧ (¬ (p2 < p0) → (o01 1 ∧ Q 1 )))))
def rm_M_X8_in : Room := { frames := 0, cells := 0, slots := 0, locals := 0 }
abbrev pq_M_X8_in (dC : Nat → ClassId) (dI : Nat → Nat → Nat) (ad : Nat → Nat) (cB cI cZ cL : ClassId) (A : Nat → Prop) (m_thrown m_today m_legs m_feeds m_taped m_point m_end m_begin m_faultAt : Int32) (m_farm m_pig m_begun m_first m_weight m_salted m_heat m_isBad m_isSold m_sealedFeed m_hook m_should m_on m_warmth m_damp m_isOpen m_fFarm m_fFrom m_fWhat m_fTold m_rule m_draft m_tape m_five m_those : Nat → Int32) (Q : Int32 → Prop) : Array Value → State → Outcome → State → Prop := va_Qi (fun (r : Int32) (u : Unit) => Q r ) (fun u t => kB dC dI A (wM ad cB cI cZ cL m_thrown m_today m_legs m_feeds m_taped m_point m_end m_begin m_faultAt m_farm m_pig m_begun m_first m_weight m_salted m_heat m_isBad m_isSold m_sealedFeed m_hook m_should m_on m_warmth m_damp m_isOpen m_fFarm m_fFrom m_fWhat m_fTold m_rule m_draft m_tape m_five m_those) (kTy cB cI cZ cL) t) A
set_option maxHeartbeats 4000000 in
set_option maxRecDepth 100000 in
theorem c_M_X8_in (l : Launch) (dC : Nat → ClassId) (dI : Nat → Nat → Nat) (ad : Nat → Nat) (cB cI cZ cL : ClassId) (A : Nat → Prop) (m_thrown m_today m_legs m_feeds m_taped m_point m_end m_begin m_faultAt : Int32) (m_farm m_pig m_begun m_first m_weight m_salted m_heat m_isBad m_isSold m_sealedFeed m_hook m_should m_on m_warmth m_damp m_isOpen m_fFarm m_fFrom m_fWhat m_fTold m_rule m_draft m_tape m_five m_those : Nat → Int32) (p0 : Int32) (p1 : Int32) (p2 : Int32)  (Q : Int32 → Prop) (h : wp_M_X8_in Q p0 p1 p2) : Met l yX8_in wsX8_in rm_M_X8_in (va_Pc [.int p0, .int p1, .int p2] (kC dC dI ad A (wM ad cB cI cZ cL m_thrown m_today m_legs m_feeds m_taped m_point m_end m_begin m_faultAt m_farm m_pig m_begun m_first m_weight m_salted m_heat m_isBad m_isSold m_sealedFeed m_hook m_should m_on m_warmth m_damp m_isOpen m_fFarm m_fFrom m_fWhat m_fTold m_rule m_draft m_tape m_five m_those) (kTy cB cI cZ cL))) (pq_M_X8_in dC dI ad cB cI cZ cL A m_thrown m_today m_legs m_feeds m_taped m_point m_end m_begin m_faultAt m_farm m_pig m_begun m_first m_weight m_salted m_heat m_isBad m_isSold m_sealedFeed m_hook m_should m_on m_warmth m_damp m_isOpen m_fFarm m_fFrom m_fWhat m_fTold m_rule m_draft m_tape m_five m_those Q) 0 0 A := by
  refine Met.ofW (cc := cX8_in) (maxL := 3) (ret := (some .boolean)) (by decide) rfl ?_
  intro p e s m args below meth c s₁ B hml hv
  obtain ⟨rfl, hA, hP, hK, hD, hE⟩ := hv
  have hx := B.exec
  have hb := B.bytes
  have hr := B.returns
  have hts := atoms_spec (ws := wsX8_in) B.pre
  have hown : s.vm.findClass RX8 = some m.cls := findClass_of_methodNamed B.named
  have hlocks := B.notSynchronized
  have hS : va_S A s.heap s.heap [] := va_S.rf
  have hl := lv_entry ([.int p0, .int p1, .int p2]) (n := 3) (Nat.le_of_ble_eq_true rfl)
  rw [lg_entry_eq]
  generalize (lg_sl ([.int p0, .int p1, .int p2]) ++ List.replicate (3 - (lg_sl ([.int p0, .int p1, .int p2])).length) Slot.unset).toArray = ls at hl ⊢
  have hl : lv_has ls 3 [(0, .int p0), (1, .int p1), (2, .int p2)] := hl
  unfold wp_M_X8_in at h
  refine lv_iload_n hx hb dX8_in_0 rfl (lv_at hl 0 rfl) ?_
  refine lv_iload_n hx hb dX8_in_1 rfl (lv_at hl 1 rfl) ?_
  refine lv_icmp_lt (tgt := 14) hx hb dX8_in_2 (by decide) (fun c_1 => ?_) (fun c_1 => ?_)
  · have h := h.1 c_1
    refine lv_iconst (v := 0) hx hb dX8_in_14 (by decide) ?_
    exact W.zret (v := 0) (ty := .boolean) hx hb hr (z01 h.1) (fun t ht hW => ⟨⟨0, (), rfl, h.2, kB_mk hP hK hD ht hW.alike⟩, hS.F ht⟩) hS.2.2 dX8_in_15
  · have h := h.2 c_1
    refine lv_iload_n hx hb dX8_in_5 rfl (lv_at hl 0 rfl) ?_
    refine lv_iload_n hx hb dX8_in_6 rfl (lv_at hl 2 rfl) ?_
    refine lv_icmp_gt (tgt := 14) hx hb dX8_in_7 (by decide) (fun c_2 => ?_) (fun c_2 => ?_)
    · have h := h.1 c_2
      refine lv_iconst (v := 0) hx hb dX8_in_14 (by decide) ?_
      exact W.zret (v := 0) (ty := .boolean) hx hb hr (z01 h.1) (fun t ht hW => ⟨⟨0, (), rfl, h.2, kB_mk hP hK hD ht hW.alike⟩, hS.F ht⟩) hS.2.2 dX8_in_15
    · have h := h.2 c_2
      refine lv_iconst (v := 1) hx hb dX8_in_10 (by decide) ?_
      refine lv_goto (tgt := 15) hx hb dX8_in_11 (by decide) ?_
      exact W.zret (v := 1) (ty := .boolean) hx hb hr (z01 h.1) (fun t ht hW => ⟨⟨1, (), rfl, h.2, kB_mk hP hK hD ht hW.alike⟩, hS.F ht⟩) hS.2.2 dX8_in_15
def wp_M_X8_noLeg (m_legs : Int32) (Q : Int32 → Prop) (p0 : Int32) : Prop := wp_M_X8_in (fun r_1 => ((¬ r_1 = 0 → (o01 0 ∧ Q 0 )) ∧ (r_1 = 0 → (o01 1 ∧ Q 1 )))) p0 0 (m_legs - 1)
def rm_M_X8_noLeg : Room := { frames := 1, cells := 0, slots := 0, locals := 22 }
abbrev pq_M_X8_noLeg (dC : Nat → ClassId) (dI : Nat → Nat → Nat) (ad : Nat → Nat) (cB cI cZ cL : ClassId) (A : Nat → Prop) (m_thrown m_today m_legs m_feeds m_taped m_point m_end m_begin m_faultAt : Int32) (m_farm m_pig m_begun m_first m_weight m_salted m_heat m_isBad m_isSold m_sealedFeed m_hook m_should m_on m_warmth m_damp m_isOpen m_fFarm m_fFrom m_fWhat m_fTold m_rule m_draft m_tape m_five m_those : Nat → Int32) (Q : Int32 → Prop) : Array Value → State → Outcome → State → Prop := va_Qi (fun (r : Int32) (u : Unit) => Q r ) (fun u t => kB dC dI A (wM ad cB cI cZ cL m_thrown m_today m_legs m_feeds m_taped m_point m_end m_begin m_faultAt m_farm m_pig m_begun m_first m_weight m_salted m_heat m_isBad m_isSold m_sealedFeed m_hook m_should m_on m_warmth m_damp m_isOpen m_fFarm m_fFrom m_fWhat m_fTold m_rule m_draft m_tape m_five m_those) (kTy cB cI cZ cL) t) A
set_option maxHeartbeats 4000000 in
set_option maxRecDepth 100000 in
theorem c_M_X8_noLeg (l : Launch) (dC : Nat → ClassId) (dI : Nat → Nat → Nat) (ad : Nat → Nat) (cB cI cZ cL : ClassId) (A : Nat → Prop) (m_thrown m_today m_legs m_feeds m_taped m_point m_end m_begin m_faultAt : Int32) (m_farm m_pig m_begun m_first m_weight m_salted m_heat m_isBad m_isSold m_sealedFeed m_hook m_should m_on m_warmth m_damp m_isOpen m_fFarm m_fFrom m_fWhat m_fTold m_rule m_draft m_tape m_five m_those : Nat → Int32) (p0 : Int32)  (Q : Int32 → Prop) (h : wp_M_X8_noLeg m_legs Q p0) : Met l yX8_noLeg wsX8_noLeg rm_M_X8_noLeg (va_Pc [.ref (ad 0), .int p0] (kC dC dI ad A (wM ad cB cI cZ cL m_thrown m_today m_legs m_feeds m_taped m_point m_end m_begin m_faultAt m_farm m_pig m_begun m_first m_weight m_salted m_heat m_isBad m_isSold m_sealedFeed m_hook m_should m_on m_warmth m_damp m_isOpen m_fFarm m_fFrom m_fWhat m_fTold m_rule m_draft m_tape m_five m_those) (kTy cB cI cZ cL))) (pq_M_X8_noLeg dC dI ad cB cI cZ cL A m_thrown m_today m_legs m_feeds m_taped m_point m_end m_begin m_faultAt m_farm m_pig m_begun m_first m_weight m_salted m_heat m_isBad m_isSold m_sealedFeed m_hook m_should m_on m_warmth m_damp m_isOpen m_fFarm m_fFrom m_fWhat m_fTold m_rule m_draft m_tape m_five m_those Q) 0 0 A := by
  refine Met.ofW (cc := cX8_noLeg) (maxL := 2) (ret := (some .boolean)) (by decide) rfl ?_
  intro p e s m args below meth c s₁ B hml hv
  obtain ⟨rfl, hA, hP, hK, hD, hE⟩ := hv
  have hx := B.exec
  have hb := B.bytes
  have hr := B.returns
  have hts := atoms_spec (ws := wsX8_noLeg) B.pre
  have hown : s.vm.findClass RX8 = some m.cls := findClass_of_methodNamed B.named
  have hlocks := B.notSynchronized
  have hS : va_S A s.heap s.heap [] := va_S.rf
  have hk_0 := hts (.fieldLink RX8 94 "HamCellarModel" "legs" "I") (by decide +kernel)
  have hk_1 : ∀ w ∈ wsX80, w ∈ wsX8_noLeg := by decide +kernel
  have hl := lv_entry ([.ref (ad 0), .int p0]) (n := 2) (Nat.le_of_ble_eq_true rfl)
  rw [lg_entry_eq]
  generalize (lg_sl ([.ref (ad 0), .int p0]) ++ List.replicate (2 - (lg_sl ([.ref (ad 0), .int p0])).length) Slot.unset).toArray = ls at hl ⊢
  have hl : lv_has ls 2 [(0, .ref (ad 0)), (1, .int p0)] := hl
  unfold wp_M_X8_noLeg at h
  refine lv_iload_n hx hb dX8_noLeg_0 rfl (lv_at hl 1 rfl) ?_
  refine lv_iconst (v := 0) hx hb dX8_noLeg_1 (by decide) ?_
  refine lv_aload_n hx hb dX8_noLeg_2 rfl (lv_at hl 0 rfl) ?_
  refine va_get (D := (dC, dI)) (ci := 8) (v := .int m_legs) (C := RX8) (T := TX8) (N := 34) hx hb hts hk_1 hown hK hP 0 wM_g0 rfl 14 (by decide) hk_0 (fun _ h9 => h9) rfl dX8_noLeg_3 ?_
  refine lv_iconst (v := 1) hx hb dX8_noLeg_6 (by decide) ?_
  refine lv_isub hx hb dX8_noLeg_7 ?_
  refine va_calli (va_runS (As := [.int p0, .int 0, .int (m_legs - 1)]) (rest := []) ⟨hx, hb, hml, hown, hts⟩ (c_M_X8_in l dC dI ad cB cI cZ cL A m_thrown m_today m_legs m_feeds m_taped m_point m_end m_begin m_faultAt m_farm m_pig m_begun m_first m_weight m_salted m_heat m_isBad m_isSold m_sealedFeed m_hook m_should m_on m_warmth m_damp m_isOpen m_fFarm m_fFrom m_fWhat m_fTold m_rule m_draft m_tape m_five m_those p0 0 (m_legs - 1) _ h) (va_cwS 3 hts gX8_noLeg_X8_in rfl rfl rfl (by decide +kernel) ⟨(Nat.le_of_ble_eq_true rfl), (Nat.le_of_ble_eq_true rfl)⟩) ⟨kC_blind, fun U hU hW => ⟨rfl, kC_go hA hS hP hK hD hE U hU hW⟩⟩ rfl rfl hl.1 rfl (lv_room (Nat.le_of_ble_eq_true rfl)) dX8_noLeg_8 ⟨(Nat.le_of_ble_eq_true rfl), (Nat.le_of_ble_eq_true rfl)⟩) hS (fun q _ h => h) (fun q h => h) (fun r_1 u t H locs ht hvm hw hB hz1 hk1 hS => ?_)
  have h := hw
  try dsimp only at h
  have hP : va_P (dC, dI) vwCl (wM ad cB cI cZ cL m_thrown m_today m_legs m_feeds m_taped m_point m_end m_begin m_faultAt m_farm m_pig m_begun m_first m_weight m_salted m_heat m_isBad m_isSold m_sealedFeed m_hook m_should m_on m_warmth m_damp m_isOpen m_fFarm m_fFrom m_fWhat m_fTold m_rule m_draft m_tape m_five m_those) H := by rw [← ht]; exact hB.1
  have hD : va_D A (wM ad cB cI cZ cL m_thrown m_today m_legs m_feeds m_taped m_point m_end m_begin m_faultAt m_farm m_pig m_begun m_first m_weight m_salted m_heat m_isBad m_isSold m_sealedFeed m_hook m_should m_on m_warmth m_damp m_isOpen m_fFarm m_fFrom m_fWhat m_fTold m_rule m_draft m_tape m_five m_those) := hB.2.2
  refine lv_if_ne (tgt := 18) hx hb dX8_noLeg_11 (by decide) (fun c_2 => ?_) (fun c_2 => ?_)
  · have h := h.1 c_2
    refine lv_iconst (v := 0) hx hb dX8_noLeg_18 (by decide) ?_
    exact W.zret (v := 0) (ty := .boolean) hx hb hr (z01 h.1) (fun t ht hW => ⟨⟨0, (), rfl, h.2, kB_mk hP hK hD ht hW.alike⟩, hS.F ht⟩) hS.2.2 dX8_noLeg_19
  · have h := h.2 c_2
    refine lv_iconst (v := 1) hx hb dX8_noLeg_14 (by decide) ?_
    refine lv_goto (tgt := 19) hx hb dX8_noLeg_15 (by decide) ?_
    exact W.zret (v := 1) (ty := .boolean) hx hb hr (z01 h.1) (fun t ht hW => ⟨⟨1, (), rfl, h.2, kB_mk hP hK hD ht hW.alike⟩, hS.F ht⟩) hS.2.2 dX8_noLeg_19
def bk_M_X8_noHook_19   (Q : Int32 → Prop)  : Prop := (o01 1 ∧ Q 1 )
def wp_M_X8_noHook (Q : Int32 → Prop) (p0 : Int32) (p1 : Int32) : Prop := wp_M_X8_in (fun r_1 => ((r_1 = 0 → bk_M_X8_noHook_19 Q) ∧ (¬ (r_1 = 0) → wp_M_X8_in (fun r_3 => ((¬ r_3 = 0 → (o01 0 ∧ Q 0 )) ∧ (r_3 = 0 → bk_M_X8_noHook_19 Q))) p1 0 9))) p0 0 5
def rm_M_X8_noHook : Room := { frames := 1, cells := 0, slots := 0, locals := 22 }
abbrev pq_M_X8_noHook (dC : Nat → ClassId) (dI : Nat → Nat → Nat) (ad : Nat → Nat) (cB cI cZ cL : ClassId) (A : Nat → Prop) (m_thrown m_today m_legs m_feeds m_taped m_point m_end m_begin m_faultAt : Int32) (m_farm m_pig m_begun m_first m_weight m_salted m_heat m_isBad m_isSold m_sealedFeed m_hook m_should m_on m_warmth m_damp m_isOpen m_fFarm m_fFrom m_fWhat m_fTold m_rule m_draft m_tape m_five m_those : Nat → Int32) (Q : Int32 → Prop) : Array Value → State → Outcome → State → Prop := va_Qi (fun (r : Int32) (u : Unit) => Q r ) (fun u t => kB dC dI A (wM ad cB cI cZ cL m_thrown m_today m_legs m_feeds m_taped m_point m_end m_begin m_faultAt m_farm m_pig m_begun m_first m_weight m_salted m_heat m_isBad m_isSold m_sealedFeed m_hook m_should m_on m_warmth m_damp m_isOpen m_fFarm m_fFrom m_fWhat m_fTold m_rule m_draft m_tape m_five m_those) (kTy cB cI cZ cL) t) A
set_option maxHeartbeats 4000000 in
set_option maxRecDepth 100000 in
theorem c_M_X8_noHook (l : Launch) (dC : Nat → ClassId) (dI : Nat → Nat → Nat) (ad : Nat → Nat) (cB cI cZ cL : ClassId) (A : Nat → Prop) (m_thrown m_today m_legs m_feeds m_taped m_point m_end m_begin m_faultAt : Int32) (m_farm m_pig m_begun m_first m_weight m_salted m_heat m_isBad m_isSold m_sealedFeed m_hook m_should m_on m_warmth m_damp m_isOpen m_fFarm m_fFrom m_fWhat m_fTold m_rule m_draft m_tape m_five m_those : Nat → Int32) (p0 : Int32) (p1 : Int32)  (Q : Int32 → Prop) (h : wp_M_X8_noHook Q p0 p1) : Met l yX8_noHook wsX8_noHook rm_M_X8_noHook (va_Pc [.int p0, .int p1] (kC dC dI ad A (wM ad cB cI cZ cL m_thrown m_today m_legs m_feeds m_taped m_point m_end m_begin m_faultAt m_farm m_pig m_begun m_first m_weight m_salted m_heat m_isBad m_isSold m_sealedFeed m_hook m_should m_on m_warmth m_damp m_isOpen m_fFarm m_fFrom m_fWhat m_fTold m_rule m_draft m_tape m_five m_those) (kTy cB cI cZ cL))) (pq_M_X8_noHook dC dI ad cB cI cZ cL A m_thrown m_today m_legs m_feeds m_taped m_point m_end m_begin m_faultAt m_farm m_pig m_begun m_first m_weight m_salted m_heat m_isBad m_isSold m_sealedFeed m_hook m_should m_on m_warmth m_damp m_isOpen m_fFarm m_fFrom m_fWhat m_fTold m_rule m_draft m_tape m_five m_those Q) 0 0 A := by
  refine Met.ofW (cc := cX8_noHook) (maxL := 2) (ret := (some .boolean)) (by decide) rfl ?_
  intro p e s m args below meth c s₁ B hml hv
  obtain ⟨rfl, hA, hP, hK, hD, hE⟩ := hv
  have hx := B.exec
  have hb := B.bytes
  have hr := B.returns
  have hts := atoms_spec (ws := wsX8_noHook) B.pre
  have hown : s.vm.findClass RX8 = some m.cls := findClass_of_methodNamed B.named
  have hlocks := B.notSynchronized
  have hS : va_S A s.heap s.heap [] := va_S.rf
  have hbk_M_X8_noHook_19 : ∀ (H : Heap) (locs : List Loc) (ls : Array Slot), va_P (dC, dI) vwCl (wM ad cB cI cZ cL m_thrown m_today m_legs m_feeds m_taped m_point m_end m_begin m_faultAt m_farm m_pig m_begun m_first m_weight m_salted m_heat m_isBad m_isSold m_sealedFeed m_hook m_should m_on m_warmth m_damp m_isOpen m_fFarm m_fFrom m_fWhat m_fTold m_rule m_draft m_tape m_five m_those) H → va_D A (wM ad cB cI cZ cL m_thrown m_today m_legs m_feeds m_taped m_point m_end m_begin m_faultAt m_farm m_pig m_begun m_first m_weight m_salted m_heat m_isBad m_isSold m_sealedFeed m_hook m_should m_on m_warmth m_damp m_isOpen m_fFarm m_fFrom m_fWhat m_fTold m_rule m_draft m_tape m_five m_those) → va_S A s.heap H locs → lv_has ls 2 [] → bk_M_X8_noHook_19 Q → W p l e (headSpec wsX8_noHook rm_M_X8_noHook).room s m ([.int p0, .int p1] : List Value).toArray below meth c H locs 0 0 (MQ below (pq_M_X8_noHook dC dI ad cB cI cZ cL A m_thrown m_today m_legs m_feeds m_taped m_point m_end m_begin m_faultAt m_farm m_pig m_begun m_first m_weight m_salted m_heat m_isBad m_isSold m_sealedFeed m_hook m_should m_on m_warmth m_damp m_isOpen m_fFarm m_fFrom m_fWhat m_fTold m_rule m_draft m_tape m_five m_those Q) ([.int p0, .int p1] : List Value).toArray s 0 0 A) (F0 m 19 ls []) := by
    intro H locs ls hP hD hS hl h
    refine lv_iconst (v := 1) hx hb dX8_noHook_19 (by decide) ?_
    refine lv_goto (tgt := 24) hx hb dX8_noHook_20 (by decide) ?_
    exact W.zret (v := 1) (ty := .boolean) hx hb hr (z01 h.1) (fun t ht hW => ⟨⟨1, (), rfl, h.2, kB_mk hP hK hD ht hW.alike⟩, hS.F ht⟩) hS.2.2 dX8_noHook_24
  have hl := lv_entry ([.int p0, .int p1]) (n := 2) (Nat.le_of_ble_eq_true rfl)
  rw [lg_entry_eq]
  generalize (lg_sl ([.int p0, .int p1]) ++ List.replicate (2 - (lg_sl ([.int p0, .int p1])).length) Slot.unset).toArray = ls at hl ⊢
  have hl : lv_has ls 2 [(0, .int p0), (1, .int p1)] := hl
  unfold wp_M_X8_noHook at h
  refine lv_iload_n hx hb dX8_noHook_0 rfl (lv_at hl 0 rfl) ?_
  refine lv_iconst (v := 0) hx hb dX8_noHook_1 (by decide) ?_
  refine lv_iconst (v := 5) hx hb dX8_noHook_2 (by decide) ?_
  refine va_calli (va_runS (As := [.int p0, .int 0, .int 5]) (rest := []) ⟨hx, hb, hml, hown, hts⟩ (c_M_X8_in l dC dI ad cB cI cZ cL A m_thrown m_today m_legs m_feeds m_taped m_point m_end m_begin m_faultAt m_farm m_pig m_begun m_first m_weight m_salted m_heat m_isBad m_isSold m_sealedFeed m_hook m_should m_on m_warmth m_damp m_isOpen m_fFarm m_fFrom m_fWhat m_fTold m_rule m_draft m_tape m_five m_those p0 0 5 _ h) (va_cwS 3 hts gX8_noHook_X8_in rfl rfl rfl (by decide +kernel) ⟨(Nat.le_of_ble_eq_true rfl), (Nat.le_of_ble_eq_true rfl)⟩) ⟨kC_blind, fun U hU hW => ⟨rfl, kC_go hA hS hP hK hD hE U hU hW⟩⟩ rfl rfl hl.1 rfl (lv_room (Nat.le_of_ble_eq_true rfl)) dX8_noHook_3 ⟨(Nat.le_of_ble_eq_true rfl), (Nat.le_of_ble_eq_true rfl)⟩) hS (fun q _ h => h) (fun q h => h) (fun r_1 u t H locs ht hvm hw hB hz1 hk1 hS => ?_)
  have h := hw
  try dsimp only at h
  have hP : va_P (dC, dI) vwCl (wM ad cB cI cZ cL m_thrown m_today m_legs m_feeds m_taped m_point m_end m_begin m_faultAt m_farm m_pig m_begun m_first m_weight m_salted m_heat m_isBad m_isSold m_sealedFeed m_hook m_should m_on m_warmth m_damp m_isOpen m_fFarm m_fFrom m_fWhat m_fTold m_rule m_draft m_tape m_five m_those) H := by rw [← ht]; exact hB.1
  have hD : va_D A (wM ad cB cI cZ cL m_thrown m_today m_legs m_feeds m_taped m_point m_end m_begin m_faultAt m_farm m_pig m_begun m_first m_weight m_salted m_heat m_isBad m_isSold m_sealedFeed m_hook m_should m_on m_warmth m_damp m_isOpen m_fFarm m_fFrom m_fWhat m_fTold m_rule m_draft m_tape m_five m_those) := hB.2.2
  refine lv_if_eq (tgt := 19) hx hb dX8_noHook_6 (by decide) (fun c_2 => ?_) (fun c_2 => ?_)
  · have h := h.1 c_2
    exact hbk_M_X8_noHook_19 _ _ _ hP hD hS (lv_sub hl [] rfl) h
  · have h := h.2 c_2
    refine lv_iload_n hx hb dX8_noHook_9 rfl (lv_at hl 1 rfl) ?_
    refine lv_iconst (v := 0) hx hb dX8_noHook_10 (by decide) ?_
    refine lv_bipush (v := 9) hx hb dX8_noHook_11 (by decide) ?_
    refine va_calli (va_runS (As := [.int p1, .int 0, .int 9]) (rest := []) ⟨hx, hb, hml, hown, hts⟩ (c_M_X8_in l dC dI ad cB cI cZ cL A m_thrown m_today m_legs m_feeds m_taped m_point m_end m_begin m_faultAt m_farm m_pig m_begun m_first m_weight m_salted m_heat m_isBad m_isSold m_sealedFeed m_hook m_should m_on m_warmth m_damp m_isOpen m_fFarm m_fFrom m_fWhat m_fTold m_rule m_draft m_tape m_five m_those p1 0 9 _ h) (va_cwS 3 hts gX8_noHook_X8_in rfl rfl rfl (by decide +kernel) ⟨(Nat.le_of_ble_eq_true rfl), (Nat.le_of_ble_eq_true rfl)⟩) ⟨kC_blind, fun U hU hW => ⟨rfl, kC_go hA hS hP hK hD hE U hU hW⟩⟩ rfl rfl hl.1 rfl (lv_room (Nat.le_of_ble_eq_true rfl)) dX8_noHook_13 ⟨(Nat.le_of_ble_eq_true rfl), (Nat.le_of_ble_eq_true rfl)⟩) hS (fun q _ h => h) (fun q h => h) (fun r_3 u t H locs ht hvm hw hB hz1 hk1 hS => ?_)
    have h := hw
    try dsimp only at h
    have hP : va_P (dC, dI) vwCl (wM ad cB cI cZ cL m_thrown m_today m_legs m_feeds m_taped m_point m_end m_begin m_faultAt m_farm m_pig m_begun m_first m_weight m_salted m_heat m_isBad m_isSold m_sealedFeed m_hook m_should m_on m_warmth m_damp m_isOpen m_fFarm m_fFrom m_fWhat m_fTold m_rule m_draft m_tape m_five m_those) H := by rw [← ht]; exact hB.1
    have hD : va_D A (wM ad cB cI cZ cL m_thrown m_today m_legs m_feeds m_taped m_point m_end m_begin m_faultAt m_farm m_pig m_begun m_first m_weight m_salted m_heat m_isBad m_isSold m_sealedFeed m_hook m_should m_on m_warmth m_damp m_isOpen m_fFarm m_fFrom m_fWhat m_fTold m_rule m_draft m_tape m_five m_those) := hB.2.2
    refine lv_if_ne (tgt := 23) hx hb dX8_noHook_16 (by decide) (fun c_4 => ?_) (fun c_4 => ?_)
    · have h := h.1 c_4
      refine lv_iconst (v := 0) hx hb dX8_noHook_23 (by decide) ?_
      exact W.zret (v := 0) (ty := .boolean) hx hb hr (z01 h.1) (fun t ht hW => ⟨⟨0, (), rfl, h.2, kB_mk hP hK hD ht hW.alike⟩, hS.F ht⟩) hS.2.2 dX8_noHook_24
    · have h := h.2 c_4
      exact hbk_M_X8_noHook_19 _ _ _ hP hD hS (lv_sub hl [] rfl) h
def bk_M_X8_leg_122 (m_today : Int32)  (Q : Int32 → Int32 → Int32 → (Nat → Int32) → (Nat → Int32) → (Nat → Int32) → (Nat → Int32) → (Nat → Int32) → (Nat → Int32) → (Nat → Int32) → (Nat → Int32) → Prop) (K95 : Int32 → Int32 → (Nat → Int32) → (Nat → Int32) → (Nat → Int32) → (Nat → Int32) → (Nat → Int32) → (Nat → Int32) → (Nat → Int32) → (Nat → Int32) → Int32 → Int32 → Int32 → Int32 → Int32 → Prop) (m_thrown : Int32) (m_legs : Int32) (m_farm : Nat → Int32) (m_pig : Nat → Int32) (m_begun : Nat → Int32) (m_first : Nat → Int32) (m_weight : Nat → Int32) (m_sealedFeed : Nat → Int32) (m_hook : Nat → Int32) (m_should : Nat → Int32) (v1 : Int32) (v2 : Int32) (v3 : Int32) (v5 : Int32) (k0 : Int32) (k1 : Int32) : Prop := K95 m_thrown m_legs m_farm m_pig m_begun m_first m_weight m_sealedFeed m_hook m_should v1 v2 v3 (k1 + k0) (v5 + 1)
def lp_M_X8_leg_95 (m_today : Int32)  (Q : Int32 → Int32 → Int32 → (Nat → Int32) → (Nat → Int32) → (Nat → Int32) → (Nat → Int32) → (Nat → Int32) → (Nat → Int32) → (Nat → Int32) → (Nat → Int32) → Prop) : Nat → Int32 → Int32 → (Nat → Int32) → (Nat → Int32) → (Nat → Int32) → (Nat → Int32) → (Nat → Int32) → (Nat → Int32) → (Nat → Int32) → (Nat → Int32) → Int32 → Int32 → Int32 → Int32 → Int32 → Prop
  | 0 => fun _ _ _ _ _ _ _ _ _ _ _ _ _ _ _ => False
  | n + 1 => fun m_thrown m_legs m_farm m_pig m_begun m_first m_weight m_sealedFeed m_hook m_should v1 v2 v3 v4 v5 => ((m_legs ≤ v5 → ((¬ v4 = 2 → (vp_in m_legs 60 ∧ (vp_in m_legs 60 ∧ (vp_in m_legs 60 ∧ (vp_in m_legs 60 ∧ (vp_in m_legs 60 ∧ (vp_in m_legs 60 ∧ (vp_in m_legs 60 ∧ (vp_in m_legs 60 ∧ Q ((m_legs + 1) - 1) m_thrown (m_legs + 1) (upd m_farm m_legs.toNatClampNeg v1) (upd m_pig m_legs.toNatClampNeg v2) (upd m_begun m_legs.toNatClampNeg m_today) (upd m_first m_legs.toNatClampNeg v3) (upd m_weight m_legs.toNatClampNeg v3) (upd m_sealedFeed m_legs.toNatClampNeg (-1)) (upd m_hook m_legs.toNatClampNeg (-1)) (upd m_should m_legs.toNatClampNeg (-1))))))))))) ∧ (v4 = 2 → Q (-1) m_thrown m_legs m_farm m_pig m_begun m_first m_weight m_sealedFeed m_hook m_should))) ∧ (¬ (m_legs ≤ v5) → (vp_in v5 60 ∧ ((¬ (m_pig v5.toNatClampNeg) = v2 → bk_M_X8_leg_122 m_today Q (lp_M_X8_leg_95 m_today Q n) m_thrown m_legs m_farm m_pig m_begun m_first m_weight m_sealedFeed m_hook m_should v1 v2 v3 v5 0 v4) ∧ ((m_pig v5.toNatClampNeg) = v2 → bk_M_X8_leg_122 m_today Q (lp_M_X8_leg_95 m_today Q n) m_thrown m_legs m_farm m_pig m_begun m_first m_weight m_sealedFeed m_hook m_should v1 v2 v3 v5 1 v4)))))
def bk_M_X8_leg_80 (m_today : Int32)  (Q : Int32 → Int32 → Int32 → (Nat → Int32) → (Nat → Int32) → (Nat → Int32) → (Nat → Int32) → (Nat → Int32) → (Nat → Int32) → (Nat → Int32) → (Nat → Int32) → Prop) (m_thrown : Int32) (m_legs : Int32) (m_farm : Nat → Int32) (m_pig : Nat → Int32) (m_begun : Nat → Int32) (m_first : Nat → Int32) (m_weight : Nat → Int32) (m_sealedFeed : Nat → Int32) (m_hook : Nat → Int32) (m_should : Nat → Int32) (v1 : Int32) (v2 : Int32) (v3 : Int32) (k0 : Int32) : Prop := wp_M_X8_throwsIf (fun r_10 m_thrown_10 => ((r_10 = 0 → (∃ n_24, lp_M_X8_leg_95 m_today Q n_24 m_thrown_10 m_legs m_farm m_pig m_begun m_first m_weight m_sealedFeed m_hook m_should v1 v2 v3 0 0)) ∧ (¬ (r_10 = 0) → Q 0 m_thrown_10 m_legs m_farm m_pig m_begun m_first m_weight m_sealedFeed m_hook m_should))) m_thrown k0 3
def bk_M_X8_leg_58 (m_today : Int32)  (Q : Int32 → Int32 → Int32 → (Nat → Int32) → (Nat → Int32) → (Nat → Int32) → (Nat → Int32) → (Nat → Int32) → (Nat → Int32) → (Nat → Int32) → (Nat → Int32) → Prop) (m_thrown : Int32) (m_legs : Int32) (m_farm : Nat → Int32) (m_pig : Nat → Int32) (m_begun : Nat → Int32) (m_first : Nat → Int32) (m_weight : Nat → Int32) (m_sealedFeed : Nat → Int32) (m_hook : Nat → Int32) (m_should : Nat → Int32) (v1 : Int32) (v2 : Int32) (v3 : Int32) (k0 : Int32) : Prop := wp_M_X8_throwsIf (fun r_7 m_thrown_7 => ((¬ r_7 = 0 → Q 0 m_thrown_7 m_legs m_farm m_pig m_begun m_first m_weight m_sealedFeed m_hook m_should) ∧ (r_7 = 0 → ((¬ m_legs = 60 → bk_M_X8_leg_80 m_today Q m_thrown_7 m_legs m_farm m_pig m_begun m_first m_weight m_sealedFeed m_hook m_should v1 v2 v3 0) ∧ (m_legs = 60 → bk_M_X8_leg_80 m_today Q m_thrown_7 m_legs m_farm m_pig m_begun m_first m_weight m_sealedFeed m_hook m_should v1 v2 v3 1))))) m_thrown k0 2
def bk_M_X8_leg_53 (m_today : Int32)  (Q : Int32 → Int32 → Int32 → (Nat → Int32) → (Nat → Int32) → (Nat → Int32) → (Nat → Int32) → (Nat → Int32) → (Nat → Int32) → (Nat → Int32) → (Nat → Int32) → Prop) (m_thrown : Int32) (m_legs : Int32) (m_farm : Nat → Int32) (m_pig : Nat → Int32) (m_begun : Nat → Int32) (m_first : Nat → Int32) (m_weight : Nat → Int32) (m_sealedFeed : Nat → Int32) (m_hook : Nat → Int32) (m_should : Nat → Int32) (v1 : Int32) (v2 : Int32) (v3 : Int32) : Prop := bk_M_X8_leg_58 m_today Q m_thrown m_legs m_farm m_pig m_begun m_first m_weight m_sealedFeed m_hook m_should v1 v2 v3 1
def bk_M_X8_leg_21 (m_today : Int32)  (Q : Int32 → Int32 → Int32 → (Nat → Int32) → (Nat → Int32) → (Nat → Int32) → (Nat → Int32) → (Nat → Int32) → (Nat → Int32) → (Nat → Int32) → (Nat → Int32) → Prop) (m_thrown : Int32) (m_legs : Int32) (m_farm : Nat → Int32) (m_pig : Nat → Int32) (m_begun : Nat → Int32) (m_first : Nat → Int32) (m_weight : Nat → Int32) (m_sealedFeed : Nat → Int32) (m_hook : Nat → Int32) (m_should : Nat → Int32) (v1 : Int32) (v2 : Int32) (v3 : Int32) (k0 : Int32) : Prop := wp_M_X8_throwsIf (fun r_3 m_thrown_3 => ((¬ r_3 = 0 → Q 0 m_thrown_3 m_legs m_farm m_pig m_begun m_first m_weight m_sealedFeed m_hook m_should) ∧ (r_3 = 0 → wp_M_X8_in (fun r_5 => ((r_5 = 0 → bk_M_X8_leg_53 m_today Q m_thrown_3 m_legs m_farm m_pig m_begun m_first m_weight m_sealedFeed m_hook m_should v1 v2 v3) ∧ (¬ (r_5 = 0) → wp_M_X8_in (fun r_25 => ((¬ r_25 = 0 → bk_M_X8_leg_58 m_today Q m_thrown_3 m_legs m_farm m_pig m_begun m_first m_weight m_sealedFeed m_hook m_should v1 v2 v3 0) ∧ (r_25 = 0 → bk_M_X8_leg_53 m_today Q m_thrown_3 m_legs m_farm m_pig m_begun m_first m_weight m_sealedFeed m_hook m_should v1 v2 v3))) v3 5000 15000))) v2 0 9999))) m_thrown k0 1
def wp_M_X8_leg (m_today : Int32) (Q : Int32 → Int32 → Int32 → (Nat → Int32) → (Nat → Int32) → (Nat → Int32) → (Nat → Int32) → (Nat → Int32) → (Nat → Int32) → (Nat → Int32) → (Nat → Int32) → Prop) (m_thrown : Int32) (m_legs : Int32) (m_farm : Nat → Int32) (m_pig : Nat → Int32) (m_begun : Nat → Int32) (m_first : Nat → Int32) (m_weight : Nat → Int32) (m_sealedFeed : Nat → Int32) (m_hook : Nat → Int32) (m_should : Nat → Int32) (p0 : Int32) (p1 : Int32) (p2 : Int32) : Prop := wp_M_X8_in (fun r_1 => ((¬ r_1 = 0 → bk_M_X8_leg_21 m_today Q 0 m_legs m_farm m_pig m_begun m_first m_weight m_sealedFeed m_hook m_should p0 p1 p2 0) ∧ (r_1 = 0 → bk_M_X8_leg_21 m_today Q 0 m_legs m_farm m_pig m_begun m_first m_weight m_sealedFeed m_hook m_should p0 p1 p2 1))) p0 0 9
def rm_M_X8_leg : Room := { frames := 1, cells := 0, slots := 0, locals := 22 }
abbrev pq_M_X8_leg (dC : Nat → ClassId) (dI : Nat → Nat → Nat) (ad : Nat → Nat) (cB cI cZ cL : ClassId) (A : Nat → Prop) (m_thrown m_today m_legs m_feeds m_taped m_point m_end m_begin m_faultAt : Int32) (m_farm m_pig m_begun m_first m_weight m_salted m_heat m_isBad m_isSold m_sealedFeed m_hook m_should m_on m_warmth m_damp m_isOpen m_fFarm m_fFrom m_fWhat m_fTold m_rule m_draft m_tape m_five m_those : Nat → Int32) (Q : Int32 → Int32 → Int32 → (Nat → Int32) → (Nat → Int32) → (Nat → Int32) → (Nat → Int32) → (Nat → Int32) → (Nat → Int32) → (Nat → Int32) → (Nat → Int32) → Prop) : Array Value → State → Outcome → State → Prop := va_Qi (fun (r : Int32) (u : Int32 × Int32 × (Nat → Int32) × (Nat → Int32) × (Nat → Int32) × (Nat → Int32) × (Nat → Int32) × (Nat → Int32) × (Nat → Int32) × (Nat → Int32)) => Q r u.1 u.2.1 u.2.2.1 u.2.2.2.1 u.2.2.2.2.1 u.2.2.2.2.2.1 u.2.2.2.2.2.2.1 u.2.2.2.2.2.2.2.1 u.2.2.2.2.2.2.2.2.1 u.2.2.2.2.2.2.2.2.2) (fun u t => kB dC dI A (wM ad cB cI cZ cL u.1 m_today u.2.1 m_feeds m_taped m_point m_end m_begin m_faultAt u.2.2.1 u.2.2.2.1 u.2.2.2.2.1 u.2.2.2.2.2.1 u.2.2.2.2.2.2.1 m_salted m_heat m_isBad m_isSold u.2.2.2.2.2.2.2.1 u.2.2.2.2.2.2.2.2.1 u.2.2.2.2.2.2.2.2.2 m_on m_warmth m_damp m_isOpen m_fFarm m_fFrom m_fWhat m_fTold m_rule m_draft m_tape m_five m_those) (kTy cB cI cZ cL) t) A
set_option maxHeartbeats 4000000 in
set_option maxRecDepth 100000 in
theorem c_M_X8_leg (l : Launch) (dC : Nat → ClassId) (dI : Nat → Nat → Nat) (ad : Nat → Nat) (cB cI cZ cL : ClassId) (A : Nat → Prop) (m_thrown m_today m_legs m_feeds m_taped m_point m_end m_begin m_faultAt : Int32) (m_farm m_pig m_begun m_first m_weight m_salted m_heat m_isBad m_isSold m_sealedFeed m_hook m_should m_on m_warmth m_damp m_isOpen m_fFarm m_fFrom m_fWhat m_fTold m_rule m_draft m_tape m_five m_those : Nat → Int32) (p0 : Int32) (p1 : Int32) (p2 : Int32)  (Q : Int32 → Int32 → Int32 → (Nat → Int32) → (Nat → Int32) → (Nat → Int32) → (Nat → Int32) → (Nat → Int32) → (Nat → Int32) → (Nat → Int32) → (Nat → Int32) → Prop) (h : wp_M_X8_leg m_today Q m_thrown m_legs m_farm m_pig m_begun m_first m_weight m_sealedFeed m_hook m_should p0 p1 p2) : Met l yX8_leg wsX8_leg rm_M_X8_leg (va_Pc [.ref (ad 0), .int p0, .int p1, .int p2] (kC dC dI ad A (wM ad cB cI cZ cL m_thrown m_today m_legs m_feeds m_taped m_point m_end m_begin m_faultAt m_farm m_pig m_begun m_first m_weight m_salted m_heat m_isBad m_isSold m_sealedFeed m_hook m_should m_on m_warmth m_damp m_isOpen m_fFarm m_fFrom m_fWhat m_fTold m_rule m_draft m_tape m_five m_those) (kTy cB cI cZ cL))) (pq_M_X8_leg dC dI ad cB cI cZ cL A m_thrown m_today m_legs m_feeds m_taped m_point m_end m_begin m_faultAt m_farm m_pig m_begun m_first m_weight m_salted m_heat m_isBad m_isSold m_sealedFeed m_hook m_should m_on m_warmth m_damp m_isOpen m_fFarm m_fFrom m_fWhat m_fTold m_rule m_draft m_tape m_five m_those Q) 0 0 A := by
  refine Met.ofW (cc := cX8_leg) (maxL := 6) (ret := (some .int)) (by decide) rfl ?_
  intro p e s m args below meth c s₁ B hml hv
  obtain ⟨rfl, hA, hP, hK, hD, hE⟩ := hv
  have hx := B.exec
  have hb := B.bytes
  have hr := B.returns
  have hts := atoms_spec (ws := wsX8_leg) B.pre
  have hown : s.vm.findClass RX8 = some m.cls := findClass_of_methodNamed B.named
  have hlocks := B.notSynchronized
  have hS : va_S A s.heap s.heap [] := va_S.rf
  have hk_0 := hts (.fieldLink RX8 1 "HamCellarModel" "thrown" "I") (by decide +kernel)
  have hk_1 : ∀ w ∈ wsX80, w ∈ wsX8_leg := by decide +kernel
  have hk_2 := hts (.fieldLink RX8 94 "HamCellarModel" "legs" "I") (by decide +kernel)
  have hk_3 := hts (.fieldLink RX8 13 "HamCellarModel" "farm" "[I") (by decide +kernel)
  have hk_4 := hts (.fieldLink RX8 17 "HamCellarModel" "pig" "[I") (by decide +kernel)
  have hk_5 := hts (.fieldLink RX8 20 "HamCellarModel" "begun" "[I") (by decide +kernel)
  have hk_6 := hts (.fieldLink RX8 105 "HamCellarModel" "today" "I") (by decide +kernel)
  have hk_7 := hts (.fieldLink RX8 23 "HamCellarModel" "first" "[I") (by decide +kernel)
  have hk_8 := hts (.fieldLink RX8 26 "HamCellarModel" "weight" "[I") (by decide +kernel)
  have hk_9 := hts (.fieldLink RX8 42 "HamCellarModel" "sealedFeed" "[I") (by decide +kernel)
  have hk_10 := hts (.fieldLink RX8 45 "HamCellarModel" "hook" "[I") (by decide +kernel)
  have hk_11 := hts (.fieldLink RX8 48 "HamCellarModel" "should" "[I") (by decide +kernel)
  have hbk_M_X8_leg_122 : ∀ (K95 : Int32 → Int32 → (Nat → Int32) → (Nat → Int32) → (Nat → Int32) → (Nat → Int32) → (Nat → Int32) → (Nat → Int32) → (Nat → Int32) → (Nat → Int32) → Int32 → Int32 → Int32 → Int32 → Int32 → Prop) (hK95 : ∀ (m_thrown : Int32) (m_legs : Int32) (m_farm : Nat → Int32) (m_pig : Nat → Int32) (m_begun : Nat → Int32) (m_first : Nat → Int32) (m_weight : Nat → Int32) (m_sealedFeed : Nat → Int32) (m_hook : Nat → Int32) (m_should : Nat → Int32) (v1 : Int32) (v2 : Int32) (v3 : Int32) (v4 : Int32) (v5 : Int32) (H : Heap) (locs : List Loc) (ls : Array Slot), va_P (dC, dI) vwCl (wM ad cB cI cZ cL m_thrown m_today m_legs m_feeds m_taped m_point m_end m_begin m_faultAt m_farm m_pig m_begun m_first m_weight m_salted m_heat m_isBad m_isSold m_sealedFeed m_hook m_should m_on m_warmth m_damp m_isOpen m_fFarm m_fFrom m_fWhat m_fTold m_rule m_draft m_tape m_five m_those) H → va_D A (wM ad cB cI cZ cL m_thrown m_today m_legs m_feeds m_taped m_point m_end m_begin m_faultAt m_farm m_pig m_begun m_first m_weight m_salted m_heat m_isBad m_isSold m_sealedFeed m_hook m_should m_on m_warmth m_damp m_isOpen m_fFarm m_fFrom m_fWhat m_fTold m_rule m_draft m_tape m_five m_those) → va_S A s.heap H locs → lv_has ls 6 [(0, .ref (ad 0)), (1, .int v1), (2, .int v2), (3, .int v3), (4, .int v4), (5, .int v5)] → K95 m_thrown m_legs m_farm m_pig m_begun m_first m_weight m_sealedFeed m_hook m_should v1 v2 v3 v4 v5 → W p l e (headSpec wsX8_leg rm_M_X8_leg).room s m ([.ref (ad 0), .int p0, .int p1, .int p2] : List Value).toArray below meth c H locs 0 0 (MQ below (pq_M_X8_leg dC dI ad cB cI cZ cL A m_thrown m_today m_legs m_feeds m_taped m_point m_end m_begin m_faultAt m_farm m_pig m_begun m_first m_weight m_salted m_heat m_isBad m_isSold m_sealedFeed m_hook m_should m_on m_warmth m_damp m_isOpen m_fFarm m_fFrom m_fWhat m_fTold m_rule m_draft m_tape m_five m_those Q) ([.ref (ad 0), .int p0, .int p1, .int p2] : List Value).toArray s 0 0 A) (F0 m 95 ls [])) (m_thrown : Int32) (m_legs : Int32) (m_farm : Nat → Int32) (m_pig : Nat → Int32) (m_begun : Nat → Int32) (m_first : Nat → Int32) (m_weight : Nat → Int32) (m_sealedFeed : Nat → Int32) (m_hook : Nat → Int32) (m_should : Nat → Int32) (v1 : Int32) (v2 : Int32) (v3 : Int32) (v5 : Int32) (k0 : Int32) (k1 : Int32) (H : Heap) (locs : List Loc) (ls : Array Slot), va_P (dC, dI) vwCl (wM ad cB cI cZ cL m_thrown m_today m_legs m_feeds m_taped m_point m_end m_begin m_faultAt m_farm m_pig m_begun m_first m_weight m_salted m_heat m_isBad m_isSold m_sealedFeed m_hook m_should m_on m_warmth m_damp m_isOpen m_fFarm m_fFrom m_fWhat m_fTold m_rule m_draft m_tape m_five m_those) H → va_D A (wM ad cB cI cZ cL m_thrown m_today m_legs m_feeds m_taped m_point m_end m_begin m_faultAt m_farm m_pig m_begun m_first m_weight m_salted m_heat m_isBad m_isSold m_sealedFeed m_hook m_should m_on m_warmth m_damp m_isOpen m_fFarm m_fFrom m_fWhat m_fTold m_rule m_draft m_tape m_five m_those) → va_S A s.heap H locs → lv_has ls 6 [(0, .ref (ad 0)), (1, .int v1), (2, .int v2), (3, .int v3), (5, .int v5)] → bk_M_X8_leg_122 m_today Q K95 m_thrown m_legs m_farm m_pig m_begun m_first m_weight m_sealedFeed m_hook m_should v1 v2 v3 v5 k0 k1 → W p l e (headSpec wsX8_leg rm_M_X8_leg).room s m ([.ref (ad 0), .int p0, .int p1, .int p2] : List Value).toArray below meth c H locs 0 0 (MQ below (pq_M_X8_leg dC dI ad cB cI cZ cL A m_thrown m_today m_legs m_feeds m_taped m_point m_end m_begin m_faultAt m_farm m_pig m_begun m_first m_weight m_salted m_heat m_isBad m_isSold m_sealedFeed m_hook m_should m_on m_warmth m_damp m_isOpen m_fFarm m_fFrom m_fWhat m_fTold m_rule m_draft m_tape m_five m_those Q) ([.ref (ad 0), .int p0, .int p1, .int p2] : List Value).toArray s 0 0 A) (F0 m 122 ls [.int k0, .int k1]) := by
    intro K95 hK95 m_thrown m_legs m_farm m_pig m_begun m_first m_weight m_sealedFeed m_hook m_should v1 v2 v3 v5 k0 k1 H locs ls hP hD hS hl h
    refine lv_iadd hx hb dX8_leg_122 ?_
    refine lv_istore (lv' := [(4, .int (k1 + k0)), (0, .ref (ad 0)), (1, .int v1), (2, .int v2), (3, .int v3), (5, .int v5)]) hx hb dX8_leg_123 hl (by decide) rfl (fun ls hl => ?_)
    refine lv_iinc (v := v5 + 1) (lv' := [(5, .int (v5 + 1)), (4, .int (k1 + k0)), (0, .ref (ad 0)), (1, .int v1), (2, .int v2), (3, .int v3)]) hx hb dX8_leg_125 hl (k := 5) rfl rfl (by decide) rfl (fun ls hl => ?_)
    refine lv_goto (tgt := 95) hx hb dX8_leg_128 (by decide) ?_
    exact hK95 m_thrown m_legs m_farm m_pig m_begun m_first m_weight m_sealedFeed m_hook m_should v1 v2 v3 (k1 + k0) (v5 + 1) _ _ _ hP hD hS (lv_sub hl [2, 3, 4, 5, 1, 0] rfl) h
  have hlp_M_X8_leg_95 : ∀ (n : Nat) (m_thrown : Int32) (m_legs : Int32) (m_farm : Nat → Int32) (m_pig : Nat → Int32) (m_begun : Nat → Int32) (m_first : Nat → Int32) (m_weight : Nat → Int32) (m_sealedFeed : Nat → Int32) (m_hook : Nat → Int32) (m_should : Nat → Int32) (v1 : Int32) (v2 : Int32) (v3 : Int32) (v4 : Int32) (v5 : Int32) (H : Heap) (locs : List Loc) (ls : Array Slot), va_P (dC, dI) vwCl (wM ad cB cI cZ cL m_thrown m_today m_legs m_feeds m_taped m_point m_end m_begin m_faultAt m_farm m_pig m_begun m_first m_weight m_salted m_heat m_isBad m_isSold m_sealedFeed m_hook m_should m_on m_warmth m_damp m_isOpen m_fFarm m_fFrom m_fWhat m_fTold m_rule m_draft m_tape m_five m_those) H → va_D A (wM ad cB cI cZ cL m_thrown m_today m_legs m_feeds m_taped m_point m_end m_begin m_faultAt m_farm m_pig m_begun m_first m_weight m_salted m_heat m_isBad m_isSold m_sealedFeed m_hook m_should m_on m_warmth m_damp m_isOpen m_fFarm m_fFrom m_fWhat m_fTold m_rule m_draft m_tape m_five m_those) → va_S A s.heap H locs → lv_has ls 6 [(0, .ref (ad 0)), (1, .int v1), (2, .int v2), (3, .int v3), (4, .int v4), (5, .int v5)] → lp_M_X8_leg_95 m_today Q n m_thrown m_legs m_farm m_pig m_begun m_first m_weight m_sealedFeed m_hook m_should v1 v2 v3 v4 v5 → W p l e (headSpec wsX8_leg rm_M_X8_leg).room s m ([.ref (ad 0), .int p0, .int p1, .int p2] : List Value).toArray below meth c H locs 0 0 (MQ below (pq_M_X8_leg dC dI ad cB cI cZ cL A m_thrown m_today m_legs m_feeds m_taped m_point m_end m_begin m_faultAt m_farm m_pig m_begun m_first m_weight m_salted m_heat m_isBad m_isSold m_sealedFeed m_hook m_should m_on m_warmth m_damp m_isOpen m_fFarm m_fFrom m_fWhat m_fTold m_rule m_draft m_tape m_five m_those Q) ([.ref (ad 0), .int p0, .int p1, .int p2] : List Value).toArray s 0 0 A) (F0 m 95 ls []) := by
    intro n
    induction n with
    | zero => intro m_thrown m_legs m_farm m_pig m_begun m_first m_weight m_sealedFeed m_hook m_should v1 v2 v3 v4 v5 H locs ls hP hD hS hl h; exact h.elim
    | succ n ih =>
      intro m_thrown m_legs m_farm m_pig m_begun m_first m_weight m_sealedFeed m_hook m_should v1 v2 v3 v4 v5 H locs ls hP hD hS hl h
      refine lv_iload hx hb dX8_leg_95 (lv_at hl 5 rfl) ?_
      refine lv_aload_n hx hb dX8_leg_97 rfl (lv_at hl 0 rfl) ?_
      refine va_get (D := (dC, dI)) (ci := 8) (v := .int m_legs) (C := RX8) (T := TX8) (N := 34) hx hb hts hk_1 hown hK hP 0 wM_g0 rfl 14 (by decide) hk_2 (fun _ h9 => h9) rfl dX8_leg_98 ?_
      refine lv_icmp_ge (tgt := 131) hx hb dX8_leg_101 (by decide) (fun c_12 => ?_) (fun c_12 => ?_)
      · have h := h.1 c_12
        refine lv_iload hx hb dX8_leg_131 (lv_at hl 4 rfl) ?_
        refine lv_iconst (v := 2) hx hb dX8_leg_133 (by decide) ?_
        refine lv_icmp_ne (tgt := 139) hx hb dX8_leg_134 (by decide) (fun c_13 => ?_) (fun c_13 => ?_)
        · have h := h.1 c_13
          refine lv_aload_n hx hb dX8_leg_139 rfl (lv_at hl 0 rfl) ?_
          refine va_get (D := (dC, dI)) (ci := 8) (v := .ref (ad 1)) (C := RX8) (T := TX8) (N := 34) hx hb hts hk_1 hown hK hP 0 wM_g0 rfl 2 (by decide) hk_3 (fun _ h9 => h9) rfl dX8_leg_140 ?_
          refine lv_aload_n hx hb dX8_leg_143 rfl (lv_at hl 0 rfl) ?_
          refine va_get (D := (dC, dI)) (ci := 8) (v := .int m_legs) (C := RX8) (T := TX8) (N := 34) hx hb hts hk_1 hown hK hP 0 wM_g0 rfl 14 (by decide) hk_2 (fun _ h9 => h9) rfl dX8_leg_144 ?_
          refine lv_iload_n hx hb dX8_leg_147 rfl (lv_at hl 1 rfl) ?_
          have hi_14 := h.1
          have h := h.2
          refine va_iast hx hb hK hP hD hS 1 1 wM_g1 rfl hi_14 dX8_leg_148 (fun H locs hP2 hD2 hS => ?_)
          have hP : va_P (dC, dI) vwCl (wM ad cB cI cZ cL m_thrown m_today m_legs m_feeds m_taped m_point m_end m_begin m_faultAt (upd m_farm m_legs.toNatClampNeg v1) m_pig m_begun m_first m_weight m_salted m_heat m_isBad m_isSold m_sealedFeed m_hook m_should m_on m_warmth m_damp m_isOpen m_fFarm m_fFrom m_fWhat m_fTold m_rule m_draft m_tape m_five m_those) H := hP_eq (wM_p_m_farm) hP2
          have hD : va_D A (wM ad cB cI cZ cL m_thrown m_today m_legs m_feeds m_taped m_point m_end m_begin m_faultAt (upd m_farm m_legs.toNatClampNeg v1) m_pig m_begun m_first m_weight m_salted m_heat m_isBad m_isSold m_sealedFeed m_hook m_should m_on m_warmth m_damp m_isOpen m_fFarm m_fFrom m_fWhat m_fTold m_rule m_draft m_tape m_five m_those) := hD_eq (wM_p_m_farm) hD2
          refine lv_aload_n hx hb dX8_leg_149 rfl (lv_at hl 0 rfl) ?_
          refine va_get (D := (dC, dI)) (ci := 8) (v := .ref (ad 2)) (C := RX8) (T := TX8) (N := 34) hx hb hts hk_1 hown hK hP 0 wM_g0 rfl 3 (by decide) hk_4 (fun _ h9 => h9) rfl dX8_leg_150 ?_
          refine lv_aload_n hx hb dX8_leg_153 rfl (lv_at hl 0 rfl) ?_
          refine va_get (D := (dC, dI)) (ci := 8) (v := .int m_legs) (C := RX8) (T := TX8) (N := 34) hx hb hts hk_1 hown hK hP 0 wM_g0 rfl 14 (by decide) hk_2 (fun _ h9 => h9) rfl dX8_leg_154 ?_
          refine lv_iload_n hx hb dX8_leg_157 rfl (lv_at hl 2 rfl) ?_
          have hi_15 := h.1
          have h := h.2
          refine va_iast hx hb hK hP hD hS 2 1 wM_g2 rfl hi_15 dX8_leg_158 (fun H locs hP2 hD2 hS => ?_)
          have hP : va_P (dC, dI) vwCl (wM ad cB cI cZ cL m_thrown m_today m_legs m_feeds m_taped m_point m_end m_begin m_faultAt (upd m_farm m_legs.toNatClampNeg v1) (upd m_pig m_legs.toNatClampNeg v2) m_begun m_first m_weight m_salted m_heat m_isBad m_isSold m_sealedFeed m_hook m_should m_on m_warmth m_damp m_isOpen m_fFarm m_fFrom m_fWhat m_fTold m_rule m_draft m_tape m_five m_those) H := hP_eq (wM_p_m_pig) hP2
          have hD : va_D A (wM ad cB cI cZ cL m_thrown m_today m_legs m_feeds m_taped m_point m_end m_begin m_faultAt (upd m_farm m_legs.toNatClampNeg v1) (upd m_pig m_legs.toNatClampNeg v2) m_begun m_first m_weight m_salted m_heat m_isBad m_isSold m_sealedFeed m_hook m_should m_on m_warmth m_damp m_isOpen m_fFarm m_fFrom m_fWhat m_fTold m_rule m_draft m_tape m_five m_those) := hD_eq (wM_p_m_pig) hD2
          refine lv_aload_n hx hb dX8_leg_159 rfl (lv_at hl 0 rfl) ?_
          refine va_get (D := (dC, dI)) (ci := 8) (v := .ref (ad 3)) (C := RX8) (T := TX8) (N := 34) hx hb hts hk_1 hown hK hP 0 wM_g0 rfl 4 (by decide) hk_5 (fun _ h9 => h9) rfl dX8_leg_160 ?_
          refine lv_aload_n hx hb dX8_leg_163 rfl (lv_at hl 0 rfl) ?_
          refine va_get (D := (dC, dI)) (ci := 8) (v := .int m_legs) (C := RX8) (T := TX8) (N := 34) hx hb hts hk_1 hown hK hP 0 wM_g0 rfl 14 (by decide) hk_2 (fun _ h9 => h9) rfl dX8_leg_164 ?_
          refine lv_aload_n hx hb dX8_leg_167 rfl (lv_at hl 0 rfl) ?_
          refine va_get (D := (dC, dI)) (ci := 8) (v := .int m_today) (C := RX8) (T := TX8) (N := 34) hx hb hts hk_1 hown hK hP 0 wM_g0 rfl 1 (by decide) hk_6 (fun _ h9 => h9) rfl dX8_leg_168 ?_
          have hi_16 := h.1
          have h := h.2
          refine va_iast hx hb hK hP hD hS 3 1 wM_g3 rfl hi_16 dX8_leg_171 (fun H locs hP2 hD2 hS => ?_)
          have hP : va_P (dC, dI) vwCl (wM ad cB cI cZ cL m_thrown m_today m_legs m_feeds m_taped m_point m_end m_begin m_faultAt (upd m_farm m_legs.toNatClampNeg v1) (upd m_pig m_legs.toNatClampNeg v2) (upd m_begun m_legs.toNatClampNeg m_today) m_first m_weight m_salted m_heat m_isBad m_isSold m_sealedFeed m_hook m_should m_on m_warmth m_damp m_isOpen m_fFarm m_fFrom m_fWhat m_fTold m_rule m_draft m_tape m_five m_those) H := hP_eq (wM_p_m_begun) hP2
          have hD : va_D A (wM ad cB cI cZ cL m_thrown m_today m_legs m_feeds m_taped m_point m_end m_begin m_faultAt (upd m_farm m_legs.toNatClampNeg v1) (upd m_pig m_legs.toNatClampNeg v2) (upd m_begun m_legs.toNatClampNeg m_today) m_first m_weight m_salted m_heat m_isBad m_isSold m_sealedFeed m_hook m_should m_on m_warmth m_damp m_isOpen m_fFarm m_fFrom m_fWhat m_fTold m_rule m_draft m_tape m_five m_those) := hD_eq (wM_p_m_begun) hD2
          refine lv_aload_n hx hb dX8_leg_172 rfl (lv_at hl 0 rfl) ?_
          refine va_get (D := (dC, dI)) (ci := 8) (v := .ref (ad 4)) (C := RX8) (T := TX8) (N := 34) hx hb hts hk_1 hown hK hP 0 wM_g0 rfl 5 (by decide) hk_7 (fun _ h9 => h9) rfl dX8_leg_173 ?_
          refine lv_aload_n hx hb dX8_leg_176 rfl (lv_at hl 0 rfl) ?_
          refine va_get (D := (dC, dI)) (ci := 8) (v := .int m_legs) (C := RX8) (T := TX8) (N := 34) hx hb hts hk_1 hown hK hP 0 wM_g0 rfl 14 (by decide) hk_2 (fun _ h9 => h9) rfl dX8_leg_177 ?_
          refine lv_iload_n hx hb dX8_leg_180 rfl (lv_at hl 3 rfl) ?_
          have hi_17 := h.1
          have h := h.2
          refine va_iast hx hb hK hP hD hS 4 1 wM_g4 rfl hi_17 dX8_leg_181 (fun H locs hP2 hD2 hS => ?_)
          have hP : va_P (dC, dI) vwCl (wM ad cB cI cZ cL m_thrown m_today m_legs m_feeds m_taped m_point m_end m_begin m_faultAt (upd m_farm m_legs.toNatClampNeg v1) (upd m_pig m_legs.toNatClampNeg v2) (upd m_begun m_legs.toNatClampNeg m_today) (upd m_first m_legs.toNatClampNeg v3) m_weight m_salted m_heat m_isBad m_isSold m_sealedFeed m_hook m_should m_on m_warmth m_damp m_isOpen m_fFarm m_fFrom m_fWhat m_fTold m_rule m_draft m_tape m_five m_those) H := hP_eq (wM_p_m_first) hP2
          have hD : va_D A (wM ad cB cI cZ cL m_thrown m_today m_legs m_feeds m_taped m_point m_end m_begin m_faultAt (upd m_farm m_legs.toNatClampNeg v1) (upd m_pig m_legs.toNatClampNeg v2) (upd m_begun m_legs.toNatClampNeg m_today) (upd m_first m_legs.toNatClampNeg v3) m_weight m_salted m_heat m_isBad m_isSold m_sealedFeed m_hook m_should m_on m_warmth m_damp m_isOpen m_fFarm m_fFrom m_fWhat m_fTold m_rule m_draft m_tape m_five m_those) := hD_eq (wM_p_m_first) hD2
          refine lv_aload_n hx hb dX8_leg_182 rfl (lv_at hl 0 rfl) ?_
          refine va_get (D := (dC, dI)) (ci := 8) (v := .ref (ad 5)) (C := RX8) (T := TX8) (N := 34) hx hb hts hk_1 hown hK hP 0 wM_g0 rfl 6 (by decide) hk_8 (fun _ h9 => h9) rfl dX8_leg_183 ?_
          refine lv_aload_n hx hb dX8_leg_186 rfl (lv_at hl 0 rfl) ?_
          refine va_get (D := (dC, dI)) (ci := 8) (v := .int m_legs) (C := RX8) (T := TX8) (N := 34) hx hb hts hk_1 hown hK hP 0 wM_g0 rfl 14 (by decide) hk_2 (fun _ h9 => h9) rfl dX8_leg_187 ?_
          refine lv_iload_n hx hb dX8_leg_190 rfl (lv_at hl 3 rfl) ?_
          have hi_18 := h.1
          have h := h.2
          refine va_iast hx hb hK hP hD hS 5 1 wM_g5 rfl hi_18 dX8_leg_191 (fun H locs hP2 hD2 hS => ?_)
          have hP : va_P (dC, dI) vwCl (wM ad cB cI cZ cL m_thrown m_today m_legs m_feeds m_taped m_point m_end m_begin m_faultAt (upd m_farm m_legs.toNatClampNeg v1) (upd m_pig m_legs.toNatClampNeg v2) (upd m_begun m_legs.toNatClampNeg m_today) (upd m_first m_legs.toNatClampNeg v3) (upd m_weight m_legs.toNatClampNeg v3) m_salted m_heat m_isBad m_isSold m_sealedFeed m_hook m_should m_on m_warmth m_damp m_isOpen m_fFarm m_fFrom m_fWhat m_fTold m_rule m_draft m_tape m_five m_those) H := hP_eq (wM_p_m_weight) hP2
          have hD : va_D A (wM ad cB cI cZ cL m_thrown m_today m_legs m_feeds m_taped m_point m_end m_begin m_faultAt (upd m_farm m_legs.toNatClampNeg v1) (upd m_pig m_legs.toNatClampNeg v2) (upd m_begun m_legs.toNatClampNeg m_today) (upd m_first m_legs.toNatClampNeg v3) (upd m_weight m_legs.toNatClampNeg v3) m_salted m_heat m_isBad m_isSold m_sealedFeed m_hook m_should m_on m_warmth m_damp m_isOpen m_fFarm m_fFrom m_fWhat m_fTold m_rule m_draft m_tape m_five m_those) := hD_eq (wM_p_m_weight) hD2
          refine lv_aload_n hx hb dX8_leg_192 rfl (lv_at hl 0 rfl) ?_
          refine va_get (D := (dC, dI)) (ci := 8) (v := .ref (ad 10)) (C := RX8) (T := TX8) (N := 34) hx hb hts hk_1 hown hK hP 0 wM_g0 rfl 11 (by decide) hk_9 (fun _ h9 => h9) rfl dX8_leg_193 ?_
          refine lv_aload_n hx hb dX8_leg_196 rfl (lv_at hl 0 rfl) ?_
          refine va_get (D := (dC, dI)) (ci := 8) (v := .int m_legs) (C := RX8) (T := TX8) (N := 34) hx hb hts hk_1 hown hK hP 0 wM_g0 rfl 14 (by decide) hk_2 (fun _ h9 => h9) rfl dX8_leg_197 ?_
          refine lv_iconst (v := (-1)) hx hb dX8_leg_200 (by decide) ?_
          have hi_19 := h.1
          have h := h.2
          refine va_iast hx hb hK hP hD hS 10 1 wM_g10 rfl hi_19 dX8_leg_201 (fun H locs hP2 hD2 hS => ?_)
          have hP : va_P (dC, dI) vwCl (wM ad cB cI cZ cL m_thrown m_today m_legs m_feeds m_taped m_point m_end m_begin m_faultAt (upd m_farm m_legs.toNatClampNeg v1) (upd m_pig m_legs.toNatClampNeg v2) (upd m_begun m_legs.toNatClampNeg m_today) (upd m_first m_legs.toNatClampNeg v3) (upd m_weight m_legs.toNatClampNeg v3) m_salted m_heat m_isBad m_isSold (upd m_sealedFeed m_legs.toNatClampNeg (-1)) m_hook m_should m_on m_warmth m_damp m_isOpen m_fFarm m_fFrom m_fWhat m_fTold m_rule m_draft m_tape m_five m_those) H := hP_eq (wM_p_m_sealedFeed) hP2
          have hD : va_D A (wM ad cB cI cZ cL m_thrown m_today m_legs m_feeds m_taped m_point m_end m_begin m_faultAt (upd m_farm m_legs.toNatClampNeg v1) (upd m_pig m_legs.toNatClampNeg v2) (upd m_begun m_legs.toNatClampNeg m_today) (upd m_first m_legs.toNatClampNeg v3) (upd m_weight m_legs.toNatClampNeg v3) m_salted m_heat m_isBad m_isSold (upd m_sealedFeed m_legs.toNatClampNeg (-1)) m_hook m_should m_on m_warmth m_damp m_isOpen m_fFarm m_fFrom m_fWhat m_fTold m_rule m_draft m_tape m_five m_those) := hD_eq (wM_p_m_sealedFeed) hD2
          refine lv_aload_n hx hb dX8_leg_202 rfl (lv_at hl 0 rfl) ?_
          refine va_get (D := (dC, dI)) (ci := 8) (v := .ref (ad 11)) (C := RX8) (T := TX8) (N := 34) hx hb hts hk_1 hown hK hP 0 wM_g0 rfl 12 (by decide) hk_10 (fun _ h9 => h9) rfl dX8_leg_203 ?_
          refine lv_aload_n hx hb dX8_leg_206 rfl (lv_at hl 0 rfl) ?_
          refine va_get (D := (dC, dI)) (ci := 8) (v := .int m_legs) (C := RX8) (T := TX8) (N := 34) hx hb hts hk_1 hown hK hP 0 wM_g0 rfl 14 (by decide) hk_2 (fun _ h9 => h9) rfl dX8_leg_207 ?_
          refine lv_iconst (v := (-1)) hx hb dX8_leg_210 (by decide) ?_
          have hi_20 := h.1
          have h := h.2
          refine va_iast hx hb hK hP hD hS 11 1 wM_g11 rfl hi_20 dX8_leg_211 (fun H locs hP2 hD2 hS => ?_)
          have hP : va_P (dC, dI) vwCl (wM ad cB cI cZ cL m_thrown m_today m_legs m_feeds m_taped m_point m_end m_begin m_faultAt (upd m_farm m_legs.toNatClampNeg v1) (upd m_pig m_legs.toNatClampNeg v2) (upd m_begun m_legs.toNatClampNeg m_today) (upd m_first m_legs.toNatClampNeg v3) (upd m_weight m_legs.toNatClampNeg v3) m_salted m_heat m_isBad m_isSold (upd m_sealedFeed m_legs.toNatClampNeg (-1)) (upd m_hook m_legs.toNatClampNeg (-1)) m_should m_on m_warmth m_damp m_isOpen m_fFarm m_fFrom m_fWhat m_fTold m_rule m_draft m_tape m_five m_those) H := hP_eq (wM_p_m_hook) hP2
          have hD : va_D A (wM ad cB cI cZ cL m_thrown m_today m_legs m_feeds m_taped m_point m_end m_begin m_faultAt (upd m_farm m_legs.toNatClampNeg v1) (upd m_pig m_legs.toNatClampNeg v2) (upd m_begun m_legs.toNatClampNeg m_today) (upd m_first m_legs.toNatClampNeg v3) (upd m_weight m_legs.toNatClampNeg v3) m_salted m_heat m_isBad m_isSold (upd m_sealedFeed m_legs.toNatClampNeg (-1)) (upd m_hook m_legs.toNatClampNeg (-1)) m_should m_on m_warmth m_damp m_isOpen m_fFarm m_fFrom m_fWhat m_fTold m_rule m_draft m_tape m_five m_those) := hD_eq (wM_p_m_hook) hD2
          refine lv_aload_n hx hb dX8_leg_212 rfl (lv_at hl 0 rfl) ?_
          refine va_get (D := (dC, dI)) (ci := 8) (v := .ref (ad 12)) (C := RX8) (T := TX8) (N := 34) hx hb hts hk_1 hown hK hP 0 wM_g0 rfl 13 (by decide) hk_11 (fun _ h9 => h9) rfl dX8_leg_213 ?_
          refine lv_aload_n hx hb dX8_leg_216 rfl (lv_at hl 0 rfl) ?_
          refine va_get (D := (dC, dI)) (ci := 8) (v := .int m_legs) (C := RX8) (T := TX8) (N := 34) hx hb hts hk_1 hown hK hP 0 wM_g0 rfl 14 (by decide) hk_2 (fun _ h9 => h9) rfl dX8_leg_217 ?_
          refine lv_iconst (v := (-1)) hx hb dX8_leg_220 (by decide) ?_
          have hi_21 := h.1
          have h := h.2
          refine va_iast hx hb hK hP hD hS 12 1 wM_g12 rfl hi_21 dX8_leg_221 (fun H locs hP2 hD2 hS => ?_)
          have hP : va_P (dC, dI) vwCl (wM ad cB cI cZ cL m_thrown m_today m_legs m_feeds m_taped m_point m_end m_begin m_faultAt (upd m_farm m_legs.toNatClampNeg v1) (upd m_pig m_legs.toNatClampNeg v2) (upd m_begun m_legs.toNatClampNeg m_today) (upd m_first m_legs.toNatClampNeg v3) (upd m_weight m_legs.toNatClampNeg v3) m_salted m_heat m_isBad m_isSold (upd m_sealedFeed m_legs.toNatClampNeg (-1)) (upd m_hook m_legs.toNatClampNeg (-1)) (upd m_should m_legs.toNatClampNeg (-1)) m_on m_warmth m_damp m_isOpen m_fFarm m_fFrom m_fWhat m_fTold m_rule m_draft m_tape m_five m_those) H := hP_eq (wM_p_m_should) hP2
          have hD : va_D A (wM ad cB cI cZ cL m_thrown m_today m_legs m_feeds m_taped m_point m_end m_begin m_faultAt (upd m_farm m_legs.toNatClampNeg v1) (upd m_pig m_legs.toNatClampNeg v2) (upd m_begun m_legs.toNatClampNeg m_today) (upd m_first m_legs.toNatClampNeg v3) (upd m_weight m_legs.toNatClampNeg v3) m_salted m_heat m_isBad m_isSold (upd m_sealedFeed m_legs.toNatClampNeg (-1)) (upd m_hook m_legs.toNatClampNeg (-1)) (upd m_should m_legs.toNatClampNeg (-1)) m_on m_warmth m_damp m_isOpen m_fFarm m_fFrom m_fWhat m_fTold m_rule m_draft m_tape m_five m_those) := hD_eq (wM_p_m_should) hD2
          refine lv_aload_n hx hb dX8_leg_222 rfl (lv_at hl 0 rfl) ?_
          refine lv_dup hx hb dX8_leg_223 rfl ?_
          refine va_get (D := (dC, dI)) (ci := 8) (v := .int m_legs) (C := RX8) (T := TX8) (N := 34) hx hb hts hk_1 hown hK hP 0 wM_g0 rfl 14 (by decide) hk_2 (fun _ h9 => h9) rfl dX8_leg_224 ?_
          refine lv_iconst (v := 1) hx hb dX8_leg_227 (by decide) ?_
          refine lv_iadd hx hb dX8_leg_228 ?_
          refine va_put (D := (dC, dI)) (ci := 8) (v := .int (m_legs + 1)) (ty := .int) (C := RX8) (T := TX8) (N := 34) hx hb hts hk_1 tyX8 tyX8_ok nmX8 hown hK hP hD hS 0 wM_g0 rfl 14 (by decide) hk_2 (fun _ h9 => h9) rfl (by decide +kernel) rfl rfl (Nat.le_of_ble_eq_true rfl) dX8_leg_229 (fun H locs hP2 hD2 hS => ?_)
          have hP : va_P (dC, dI) vwCl (wM ad cB cI cZ cL m_thrown m_today (m_legs + 1) m_feeds m_taped m_point m_end m_begin m_faultAt (upd m_farm m_legs.toNatClampNeg v1) (upd m_pig m_legs.toNatClampNeg v2) (upd m_begun m_legs.toNatClampNeg m_today) (upd m_first m_legs.toNatClampNeg v3) (upd m_weight m_legs.toNatClampNeg v3) m_salted m_heat m_isBad m_isSold (upd m_sealedFeed m_legs.toNatClampNeg (-1)) (upd m_hook m_legs.toNatClampNeg (-1)) (upd m_should m_legs.toNatClampNeg (-1)) m_on m_warmth m_damp m_isOpen m_fFarm m_fFrom m_fWhat m_fTold m_rule m_draft m_tape m_five m_those) H := hP_eq (wM_p_m_legs) hP2
          have hD : va_D A (wM ad cB cI cZ cL m_thrown m_today (m_legs + 1) m_feeds m_taped m_point m_end m_begin m_faultAt (upd m_farm m_legs.toNatClampNeg v1) (upd m_pig m_legs.toNatClampNeg v2) (upd m_begun m_legs.toNatClampNeg m_today) (upd m_first m_legs.toNatClampNeg v3) (upd m_weight m_legs.toNatClampNeg v3) m_salted m_heat m_isBad m_isSold (upd m_sealedFeed m_legs.toNatClampNeg (-1)) (upd m_hook m_legs.toNatClampNeg (-1)) (upd m_should m_legs.toNatClampNeg (-1)) m_on m_warmth m_damp m_isOpen m_fFarm m_fFrom m_fWhat m_fTold m_rule m_draft m_tape m_five m_those) := hD_eq (wM_p_m_legs) hD2
          refine lv_aload_n hx hb dX8_leg_232 rfl (lv_at hl 0 rfl) ?_
          refine va_get (D := (dC, dI)) (ci := 8) (v := .int (m_legs + 1)) (C := RX8) (T := TX8) (N := 34) hx hb hts hk_1 hown hK hP 0 wM_g0 rfl 14 (by decide) hk_2 (fun _ h9 => h9) rfl dX8_leg_233 ?_
          refine lv_iconst (v := 1) hx hb dX8_leg_236 (by decide) ?_
          refine lv_isub hx hb dX8_leg_237 ?_
          exact W.iret (v := (m_legs + 1) - 1) hx hb hr (fun t ht hW => ⟨⟨(m_legs + 1) - 1, (m_thrown, m_legs + 1, upd m_farm m_legs.toNatClampNeg v1, upd m_pig m_legs.toNatClampNeg v2, upd m_begun m_legs.toNatClampNeg m_today, upd m_first m_legs.toNatClampNeg v3, upd m_weight m_legs.toNatClampNeg v3, upd m_sealedFeed m_legs.toNatClampNeg (-1), upd m_hook m_legs.toNatClampNeg (-1), upd m_should m_legs.toNatClampNeg (-1)), rfl, h, kB_mk hP hK hD ht hW.alike⟩, hS.F ht⟩) hS.2.2 dX8_leg_238
        · have h := h.2 c_13
          refine lv_iconst (v := (-1)) hx hb dX8_leg_137 (by decide) ?_
          exact W.iret (v := (-1)) hx hb hr (fun t ht hW => ⟨⟨(-1), (m_thrown, m_legs, m_farm, m_pig, m_begun, m_first, m_weight, m_sealedFeed, m_hook, m_should), rfl, h, kB_mk hP hK hD ht hW.alike⟩, hS.F ht⟩) hS.2.2 dX8_leg_138
      · have h := h.2 c_12
        refine lv_iload hx hb dX8_leg_104 (lv_at hl 4 rfl) ?_
        refine lv_aload_n hx hb dX8_leg_106 rfl (lv_at hl 0 rfl) ?_
        refine va_get (D := (dC, dI)) (ci := 8) (v := .ref (ad 2)) (C := RX8) (T := TX8) (N := 34) hx hb hts hk_1 hown hK hP 0 wM_g0 rfl 3 (by decide) hk_4 (fun _ h9 => h9) rfl dX8_leg_107 ?_
        refine lv_iload hx hb dX8_leg_110 (lv_at hl 5 rfl) ?_
        have hi_22 := h.1
        have h := h.2
        refine va_iald hx hb hK hP 2 1 wM_g2 rfl hi_22 dX8_leg_112 ?_
        refine lv_iload_n hx hb dX8_leg_113 rfl (lv_at hl 2 rfl) ?_
        refine lv_icmp_ne (tgt := 121) hx hb dX8_leg_114 (by decide) (fun c_23 => ?_) (fun c_23 => ?_)
        · have h := h.1 c_23
          refine lv_iconst (v := 0) hx hb dX8_leg_121 (by decide) ?_
          exact hbk_M_X8_leg_122 (lp_M_X8_leg_95 m_today Q n) ih m_thrown m_legs m_farm m_pig m_begun m_first m_weight m_sealedFeed m_hook m_should v1 v2 v3 v5 0 v4 _ _ _ hP hD hS (lv_sub hl [0, 1, 2, 3, 5] rfl) h
        · have h := h.2 c_23
          refine lv_iconst (v := 1) hx hb dX8_leg_117 (by decide) ?_
          refine lv_goto (tgt := 122) hx hb dX8_leg_118 (by decide) ?_
          exact hbk_M_X8_leg_122 (lp_M_X8_leg_95 m_today Q n) ih m_thrown m_legs m_farm m_pig m_begun m_first m_weight m_sealedFeed m_hook m_should v1 v2 v3 v5 1 v4 _ _ _ hP hD hS (lv_sub hl [0, 1, 2, 3, 5] rfl) h
  have hbk_M_X8_leg_80 : ∀ (m_thrown : Int32) (m_legs : Int32) (m_farm : Nat → Int32) (m_pig : Nat → Int32) (m_begun : Nat → Int32) (m_first : Nat → Int32) (m_weight : Nat → Int32) (m_sealedFeed : Nat → Int32) (m_hook : Nat → Int32) (m_should : Nat → Int32) (v1 : Int32) (v2 : Int32) (v3 : Int32) (k0 : Int32) (H : Heap) (locs : List Loc) (ls : Array Slot), va_P (dC, dI) vwCl (wM ad cB cI cZ cL m_thrown m_today m_legs m_feeds m_taped m_point m_end m_begin m_faultAt m_farm m_pig m_begun m_first m_weight m_salted m_heat m_isBad m_isSold m_sealedFeed m_hook m_should m_on m_warmth m_damp m_isOpen m_fFarm m_fFrom m_fWhat m_fTold m_rule m_draft m_tape m_five m_those) H → va_D A (wM ad cB cI cZ cL m_thrown m_today m_legs m_feeds m_taped m_point m_end m_begin m_faultAt m_farm m_pig m_begun m_first m_weight m_salted m_heat m_isBad m_isSold m_sealedFeed m_hook m_should m_on m_warmth m_damp m_isOpen m_fFarm m_fFrom m_fWhat m_fTold m_rule m_draft m_tape m_five m_those) → va_S A s.heap H locs → lv_has ls 6 [(0, .ref (ad 0)), (1, .int v1), (2, .int v2), (3, .int v3)] → bk_M_X8_leg_80 m_today Q m_thrown m_legs m_farm m_pig m_begun m_first m_weight m_sealedFeed m_hook m_should v1 v2 v3 k0 → W p l e (headSpec wsX8_leg rm_M_X8_leg).room s m ([.ref (ad 0), .int p0, .int p1, .int p2] : List Value).toArray below meth c H locs 0 0 (MQ below (pq_M_X8_leg dC dI ad cB cI cZ cL A m_thrown m_today m_legs m_feeds m_taped m_point m_end m_begin m_faultAt m_farm m_pig m_begun m_first m_weight m_salted m_heat m_isBad m_isSold m_sealedFeed m_hook m_should m_on m_warmth m_damp m_isOpen m_fFarm m_fFrom m_fWhat m_fTold m_rule m_draft m_tape m_five m_those Q) ([.ref (ad 0), .int p0, .int p1, .int p2] : List Value).toArray s 0 0 A) (F0 m 80 ls [.int k0, .ref (ad 0)]) := by
    intro m_thrown m_legs m_farm m_pig m_begun m_first m_weight m_sealedFeed m_hook m_should v1 v2 v3 k0 H locs ls hP hD hS hl h
    have h : wp_M_X8_throwsIf (fun r_10 m_thrown_10 => ((r_10 = 0 → (∃ n_24, lp_M_X8_leg_95 m_today Q n_24 m_thrown_10 m_legs m_farm m_pig m_begun m_first m_weight m_sealedFeed m_hook m_should v1 v2 v3 0 0)) ∧ (¬ (r_10 = 0) → Q 0 m_thrown_10 m_legs m_farm m_pig m_begun m_first m_weight m_sealedFeed m_hook m_should))) m_thrown k0 3 := h
    refine lv_iconst (v := 3) hx hb dX8_leg_80 (by decide) ?_
    refine va_calli (va_runV (As := [.int k0, .int 3]) (rest := []) ⟨hx, hb, hml, hown, hts⟩ (c_M_X8_throwsIf l dC dI ad cB cI cZ cL A m_thrown m_today m_legs m_feeds m_taped m_point m_end m_begin m_faultAt m_farm m_pig m_begun m_first m_weight m_salted m_heat m_isBad m_isSold m_sealedFeed m_hook m_should m_on m_warmth m_damp m_isOpen m_fFarm m_fFrom m_fWhat m_fTold m_rule m_draft m_tape m_five m_those k0 3 _ h) (cwV 2 hts gX8_leg_X8_throwsIf rfl rfl rfl (by decide +kernel) ⟨(Nat.le_of_ble_eq_true rfl), (Nat.le_of_ble_eq_true rfl)⟩) ⟨kC_blind, va_recv hK hP (ci := 8) (q0 := 0) rfl wM_g0, fun U hU hW => ⟨rfl, kC_go hA hS hP hK hD hE U hU hW⟩⟩ rfl rfl hl.1 rfl (lv_room (Nat.le_of_ble_eq_true rfl)) dX8_leg_81 ⟨(Nat.le_of_ble_eq_true rfl), (Nat.le_of_ble_eq_true rfl)⟩) hS (fun q _ h => h) (fun q h => h) (fun r_10 u t H locs ht hvm hw hB hz1 hk1 hS => ?_)
    obtain ⟨m_thrown_10, rfl⟩ : ∃ z, z = u := ⟨_, rfl⟩
    have h := hw
    try dsimp only at h
    have hP : va_P (dC, dI) vwCl (wM ad cB cI cZ cL m_thrown_10 m_today m_legs m_feeds m_taped m_point m_end m_begin m_faultAt m_farm m_pig m_begun m_first m_weight m_salted m_heat m_isBad m_isSold m_sealedFeed m_hook m_should m_on m_warmth m_damp m_isOpen m_fFarm m_fFrom m_fWhat m_fTold m_rule m_draft m_tape m_five m_those) H := by rw [← ht]; exact hB.1
    have hD : va_D A (wM ad cB cI cZ cL m_thrown_10 m_today m_legs m_feeds m_taped m_point m_end m_begin m_faultAt m_farm m_pig m_begun m_first m_weight m_salted m_heat m_isBad m_isSold m_sealedFeed m_hook m_should m_on m_warmth m_damp m_isOpen m_fFarm m_fFrom m_fWhat m_fTold m_rule m_draft m_tape m_five m_those) := hB.2.2
    refine lv_if_eq (tgt := 89) hx hb dX8_leg_84 (by decide) (fun c_11 => ?_) (fun c_11 => ?_)
    · have h := h.1 c_11
      refine lv_iconst (v := 0) hx hb dX8_leg_89 (by decide) ?_
      refine lv_istore (lv' := [(4, .int 0), (0, .ref (ad 0)), (1, .int v1), (2, .int v2), (3, .int v3)]) hx hb dX8_leg_90 hl (by decide) rfl (fun ls hl => ?_)
      refine lv_iconst (v := 0) hx hb dX8_leg_92 (by decide) ?_
      refine lv_istore (lv' := [(5, .int 0), (4, .int 0), (0, .ref (ad 0)), (1, .int v1), (2, .int v2), (3, .int v3)]) hx hb dX8_leg_93 hl (by decide) rfl (fun ls hl => ?_)
      obtain ⟨n_24, h⟩ := h
      exact hlp_M_X8_leg_95 n_24 m_thrown_10 m_legs m_farm m_pig m_begun m_first m_weight m_sealedFeed m_hook m_should v1 v2 v3 0 0 _ _ _ hP hD hS (lv_sub hl [2, 3, 4, 5, 1, 0] rfl) h
    · have h := h.2 c_11
      refine lv_iconst (v := 0) hx hb dX8_leg_87 (by decide) ?_
      exact W.iret (v := 0) hx hb hr (fun t ht hW => ⟨⟨0, (m_thrown_10, m_legs, m_farm, m_pig, m_begun, m_first, m_weight, m_sealedFeed, m_hook, m_should), rfl, h, kB_mk hP hK hD ht hW.alike⟩, hS.F ht⟩) hS.2.2 dX8_leg_88
  have hbk_M_X8_leg_58 : ∀ (m_thrown : Int32) (m_legs : Int32) (m_farm : Nat → Int32) (m_pig : Nat → Int32) (m_begun : Nat → Int32) (m_first : Nat → Int32) (m_weight : Nat → Int32) (m_sealedFeed : Nat → Int32) (m_hook : Nat → Int32) (m_should : Nat → Int32) (v1 : Int32) (v2 : Int32) (v3 : Int32) (k0 : Int32) (H : Heap) (locs : List Loc) (ls : Array Slot), va_P (dC, dI) vwCl (wM ad cB cI cZ cL m_thrown m_today m_legs m_feeds m_taped m_point m_end m_begin m_faultAt m_farm m_pig m_begun m_first m_weight m_salted m_heat m_isBad m_isSold m_sealedFeed m_hook m_should m_on m_warmth m_damp m_isOpen m_fFarm m_fFrom m_fWhat m_fTold m_rule m_draft m_tape m_five m_those) H → va_D A (wM ad cB cI cZ cL m_thrown m_today m_legs m_feeds m_taped m_point m_end m_begin m_faultAt m_farm m_pig m_begun m_first m_weight m_salted m_heat m_isBad m_isSold m_sealedFeed m_hook m_should m_on m_warmth m_damp m_isOpen m_fFarm m_fFrom m_fWhat m_fTold m_rule m_draft m_tape m_five m_those) → va_S A s.heap H locs → lv_has ls 6 [(0, .ref (ad 0)), (1, .int v1), (2, .int v2), (3, .int v3)] → bk_M_X8_leg_58 m_today Q m_thrown m_legs m_farm m_pig m_begun m_first m_weight m_sealedFeed m_hook m_should v1 v2 v3 k0 → W p l e (headSpec wsX8_leg rm_M_X8_leg).room s m ([.ref (ad 0), .int p0, .int p1, .int p2] : List Value).toArray below meth c H locs 0 0 (MQ below (pq_M_X8_leg dC dI ad cB cI cZ cL A m_thrown m_today m_legs m_feeds m_taped m_point m_end m_begin m_faultAt m_farm m_pig m_begun m_first m_weight m_salted m_heat m_isBad m_isSold m_sealedFeed m_hook m_should m_on m_warmth m_damp m_isOpen m_fFarm m_fFrom m_fWhat m_fTold m_rule m_draft m_tape m_five m_those Q) ([.ref (ad 0), .int p0, .int p1, .int p2] : List Value).toArray s 0 0 A) (F0 m 58 ls [.int k0, .ref (ad 0)]) := by
    intro m_thrown m_legs m_farm m_pig m_begun m_first m_weight m_sealedFeed m_hook m_should v1 v2 v3 k0 H locs ls hP hD hS hl h
    have h : wp_M_X8_throwsIf (fun r_7 m_thrown_7 => ((¬ r_7 = 0 → Q 0 m_thrown_7 m_legs m_farm m_pig m_begun m_first m_weight m_sealedFeed m_hook m_should) ∧ (r_7 = 0 → ((¬ m_legs = 60 → bk_M_X8_leg_80 m_today Q m_thrown_7 m_legs m_farm m_pig m_begun m_first m_weight m_sealedFeed m_hook m_should v1 v2 v3 0) ∧ (m_legs = 60 → bk_M_X8_leg_80 m_today Q m_thrown_7 m_legs m_farm m_pig m_begun m_first m_weight m_sealedFeed m_hook m_should v1 v2 v3 1))))) m_thrown k0 2 := h
    refine lv_iconst (v := 2) hx hb dX8_leg_58 (by decide) ?_
    refine va_calli (va_runV (As := [.int k0, .int 2]) (rest := []) ⟨hx, hb, hml, hown, hts⟩ (c_M_X8_throwsIf l dC dI ad cB cI cZ cL A m_thrown m_today m_legs m_feeds m_taped m_point m_end m_begin m_faultAt m_farm m_pig m_begun m_first m_weight m_salted m_heat m_isBad m_isSold m_sealedFeed m_hook m_should m_on m_warmth m_damp m_isOpen m_fFarm m_fFrom m_fWhat m_fTold m_rule m_draft m_tape m_five m_those k0 2 _ h) (cwV 2 hts gX8_leg_X8_throwsIf rfl rfl rfl (by decide +kernel) ⟨(Nat.le_of_ble_eq_true rfl), (Nat.le_of_ble_eq_true rfl)⟩) ⟨kC_blind, va_recv hK hP (ci := 8) (q0 := 0) rfl wM_g0, fun U hU hW => ⟨rfl, kC_go hA hS hP hK hD hE U hU hW⟩⟩ rfl rfl hl.1 rfl (lv_room (Nat.le_of_ble_eq_true rfl)) dX8_leg_59 ⟨(Nat.le_of_ble_eq_true rfl), (Nat.le_of_ble_eq_true rfl)⟩) hS (fun q _ h => h) (fun q h => h) (fun r_7 u t H locs ht hvm hw hB hz1 hk1 hS => ?_)
    obtain ⟨m_thrown_7, rfl⟩ : ∃ z, z = u := ⟨_, rfl⟩
    have h := hw
    try dsimp only at h
    have hP : va_P (dC, dI) vwCl (wM ad cB cI cZ cL m_thrown_7 m_today m_legs m_feeds m_taped m_point m_end m_begin m_faultAt m_farm m_pig m_begun m_first m_weight m_salted m_heat m_isBad m_isSold m_sealedFeed m_hook m_should m_on m_warmth m_damp m_isOpen m_fFarm m_fFrom m_fWhat m_fTold m_rule m_draft m_tape m_five m_those) H := by rw [← ht]; exact hB.1
    have hD : va_D A (wM ad cB cI cZ cL m_thrown_7 m_today m_legs m_feeds m_taped m_point m_end m_begin m_faultAt m_farm m_pig m_begun m_first m_weight m_salted m_heat m_isBad m_isSold m_sealedFeed m_hook m_should m_on m_warmth m_damp m_isOpen m_fFarm m_fFrom m_fWhat m_fTold m_rule m_draft m_tape m_five m_those) := hB.2.2
    refine lv_if_ne (tgt := 87) hx hb dX8_leg_62 (by decide) (fun c_8 => ?_) (fun c_8 => ?_)
    · have h := h.1 c_8
      refine lv_iconst (v := 0) hx hb dX8_leg_87 (by decide) ?_
      exact W.iret (v := 0) hx hb hr (fun t ht hW => ⟨⟨0, (m_thrown_7, m_legs, m_farm, m_pig, m_begun, m_first, m_weight, m_sealedFeed, m_hook, m_should), rfl, h, kB_mk hP hK hD ht hW.alike⟩, hS.F ht⟩) hS.2.2 dX8_leg_88
    · have h := h.2 c_8
      refine lv_aload_n hx hb dX8_leg_65 rfl (lv_at hl 0 rfl) ?_
      refine lv_aload_n hx hb dX8_leg_66 rfl (lv_at hl 0 rfl) ?_
      refine va_get (D := (dC, dI)) (ci := 8) (v := .int m_legs) (C := RX8) (T := TX8) (N := 34) hx hb hts hk_1 hown hK hP 0 wM_g0 rfl 14 (by decide) hk_2 (fun _ h9 => h9) rfl dX8_leg_67 ?_
      refine lv_bipush (v := 60) hx hb dX8_leg_70 (by decide) ?_
      refine lv_icmp_ne (tgt := 79) hx hb dX8_leg_72 (by decide) (fun c_9 => ?_) (fun c_9 => ?_)
      · have h := h.1 c_9
        refine lv_iconst (v := 0) hx hb dX8_leg_79 (by decide) ?_
        exact hbk_M_X8_leg_80 m_thrown_7 m_legs m_farm m_pig m_begun m_first m_weight m_sealedFeed m_hook m_should v1 v2 v3 0 _ _ _ hP hD hS (lv_sub hl [0, 1, 2, 3] rfl) h
      · have h := h.2 c_9
        refine lv_iconst (v := 1) hx hb dX8_leg_75 (by decide) ?_
        refine lv_goto (tgt := 80) hx hb dX8_leg_76 (by decide) ?_
        exact hbk_M_X8_leg_80 m_thrown_7 m_legs m_farm m_pig m_begun m_first m_weight m_sealedFeed m_hook m_should v1 v2 v3 1 _ _ _ hP hD hS (lv_sub hl [0, 1, 2, 3] rfl) h
  have hbk_M_X8_leg_53 : ∀ (m_thrown : Int32) (m_legs : Int32) (m_farm : Nat → Int32) (m_pig : Nat → Int32) (m_begun : Nat → Int32) (m_first : Nat → Int32) (m_weight : Nat → Int32) (m_sealedFeed : Nat → Int32) (m_hook : Nat → Int32) (m_should : Nat → Int32) (v1 : Int32) (v2 : Int32) (v3 : Int32) (H : Heap) (locs : List Loc) (ls : Array Slot), va_P (dC, dI) vwCl (wM ad cB cI cZ cL m_thrown m_today m_legs m_feeds m_taped m_point m_end m_begin m_faultAt m_farm m_pig m_begun m_first m_weight m_salted m_heat m_isBad m_isSold m_sealedFeed m_hook m_should m_on m_warmth m_damp m_isOpen m_fFarm m_fFrom m_fWhat m_fTold m_rule m_draft m_tape m_five m_those) H → va_D A (wM ad cB cI cZ cL m_thrown m_today m_legs m_feeds m_taped m_point m_end m_begin m_faultAt m_farm m_pig m_begun m_first m_weight m_salted m_heat m_isBad m_isSold m_sealedFeed m_hook m_should m_on m_warmth m_damp m_isOpen m_fFarm m_fFrom m_fWhat m_fTold m_rule m_draft m_tape m_five m_those) → va_S A s.heap H locs → lv_has ls 6 [(0, .ref (ad 0)), (1, .int v1), (2, .int v2), (3, .int v3)] → bk_M_X8_leg_53 m_today Q m_thrown m_legs m_farm m_pig m_begun m_first m_weight m_sealedFeed m_hook m_should v1 v2 v3 → W p l e (headSpec wsX8_leg rm_M_X8_leg).room s m ([.ref (ad 0), .int p0, .int p1, .int p2] : List Value).toArray below meth c H locs 0 0 (MQ below (pq_M_X8_leg dC dI ad cB cI cZ cL A m_thrown m_today m_legs m_feeds m_taped m_point m_end m_begin m_faultAt m_farm m_pig m_begun m_first m_weight m_salted m_heat m_isBad m_isSold m_sealedFeed m_hook m_should m_on m_warmth m_damp m_isOpen m_fFarm m_fFrom m_fWhat m_fTold m_rule m_draft m_tape m_five m_those Q) ([.ref (ad 0), .int p0, .int p1, .int p2] : List Value).toArray s 0 0 A) (F0 m 53 ls [.ref (ad 0)]) := by
    intro m_thrown m_legs m_farm m_pig m_begun m_first m_weight m_sealedFeed m_hook m_should v1 v2 v3 H locs ls hP hD hS hl h
    refine lv_iconst (v := 1) hx hb dX8_leg_53 (by decide) ?_
    refine lv_goto (tgt := 58) hx hb dX8_leg_54 (by decide) ?_
    exact hbk_M_X8_leg_58 m_thrown m_legs m_farm m_pig m_begun m_first m_weight m_sealedFeed m_hook m_should v1 v2 v3 1 _ _ _ hP hD hS (lv_sub hl [0, 1, 2, 3] rfl) h
  have hbk_M_X8_leg_21 : ∀ (m_thrown : Int32) (m_legs : Int32) (m_farm : Nat → Int32) (m_pig : Nat → Int32) (m_begun : Nat → Int32) (m_first : Nat → Int32) (m_weight : Nat → Int32) (m_sealedFeed : Nat → Int32) (m_hook : Nat → Int32) (m_should : Nat → Int32) (v1 : Int32) (v2 : Int32) (v3 : Int32) (k0 : Int32) (H : Heap) (locs : List Loc) (ls : Array Slot), va_P (dC, dI) vwCl (wM ad cB cI cZ cL m_thrown m_today m_legs m_feeds m_taped m_point m_end m_begin m_faultAt m_farm m_pig m_begun m_first m_weight m_salted m_heat m_isBad m_isSold m_sealedFeed m_hook m_should m_on m_warmth m_damp m_isOpen m_fFarm m_fFrom m_fWhat m_fTold m_rule m_draft m_tape m_five m_those) H → va_D A (wM ad cB cI cZ cL m_thrown m_today m_legs m_feeds m_taped m_point m_end m_begin m_faultAt m_farm m_pig m_begun m_first m_weight m_salted m_heat m_isBad m_isSold m_sealedFeed m_hook m_should m_on m_warmth m_damp m_isOpen m_fFarm m_fFrom m_fWhat m_fTold m_rule m_draft m_tape m_five m_those) → va_S A s.heap H locs → lv_has ls 6 [(0, .ref (ad 0)), (1, .int v1), (2, .int v2), (3, .int v3)] → bk_M_X8_leg_21 m_today Q m_thrown m_legs m_farm m_pig m_begun m_first m_weight m_sealedFeed m_hook m_should v1 v2 v3 k0 → W p l e (headSpec wsX8_leg rm_M_X8_leg).room s m ([.ref (ad 0), .int p0, .int p1, .int p2] : List Value).toArray below meth c H locs 0 0 (MQ below (pq_M_X8_leg dC dI ad cB cI cZ cL A m_thrown m_today m_legs m_feeds m_taped m_point m_end m_begin m_faultAt m_farm m_pig m_begun m_first m_weight m_salted m_heat m_isBad m_isSold m_sealedFeed m_hook m_should m_on m_warmth m_damp m_isOpen m_fFarm m_fFrom m_fWhat m_fTold m_rule m_draft m_tape m_five m_those Q) ([.ref (ad 0), .int p0, .int p1, .int p2] : List Value).toArray s 0 0 A) (F0 m 21 ls [.int k0, .ref (ad 0)]) := by
    intro m_thrown m_legs m_farm m_pig m_begun m_first m_weight m_sealedFeed m_hook m_should v1 v2 v3 k0 H locs ls hP hD hS hl h
    have h : wp_M_X8_throwsIf (fun r_3 m_thrown_3 => ((¬ r_3 = 0 → Q 0 m_thrown_3 m_legs m_farm m_pig m_begun m_first m_weight m_sealedFeed m_hook m_should) ∧ (r_3 = 0 → wp_M_X8_in (fun r_5 => ((r_5 = 0 → bk_M_X8_leg_53 m_today Q m_thrown_3 m_legs m_farm m_pig m_begun m_first m_weight m_sealedFeed m_hook m_should v1 v2 v3) ∧ (¬ (r_5 = 0) → wp_M_X8_in (fun r_25 => ((¬ r_25 = 0 → bk_M_X8_leg_58 m_today Q m_thrown_3 m_legs m_farm m_pig m_begun m_first m_weight m_sealedFeed m_hook m_should v1 v2 v3 0) ∧ (r_25 = 0 → bk_M_X8_leg_53 m_today Q m_thrown_3 m_legs m_farm m_pig m_begun m_first m_weight m_sealedFeed m_hook m_should v1 v2 v3))) v3 5000 15000))) v2 0 9999))) m_thrown k0 1 := h
    refine lv_iconst (v := 1) hx hb dX8_leg_21 (by decide) ?_
    refine va_calli (va_runV (As := [.int k0, .int 1]) (rest := []) ⟨hx, hb, hml, hown, hts⟩ (c_M_X8_throwsIf l dC dI ad cB cI cZ cL A m_thrown m_today m_legs m_feeds m_taped m_point m_end m_begin m_faultAt m_farm m_pig m_begun m_first m_weight m_salted m_heat m_isBad m_isSold m_sealedFeed m_hook m_should m_on m_warmth m_damp m_isOpen m_fFarm m_fFrom m_fWhat m_fTold m_rule m_draft m_tape m_five m_those k0 1 _ h) (cwV 2 hts gX8_leg_X8_throwsIf rfl rfl rfl (by decide +kernel) ⟨(Nat.le_of_ble_eq_true rfl), (Nat.le_of_ble_eq_true rfl)⟩) ⟨kC_blind, va_recv hK hP (ci := 8) (q0 := 0) rfl wM_g0, fun U hU hW => ⟨rfl, kC_go hA hS hP hK hD hE U hU hW⟩⟩ rfl rfl hl.1 rfl (lv_room (Nat.le_of_ble_eq_true rfl)) dX8_leg_22 ⟨(Nat.le_of_ble_eq_true rfl), (Nat.le_of_ble_eq_true rfl)⟩) hS (fun q _ h => h) (fun q h => h) (fun r_3 u t H locs ht hvm hw hB hz1 hk1 hS => ?_)
    obtain ⟨m_thrown_3, rfl⟩ : ∃ z, z = u := ⟨_, rfl⟩
    have h := hw
    try dsimp only at h
    have hP : va_P (dC, dI) vwCl (wM ad cB cI cZ cL m_thrown_3 m_today m_legs m_feeds m_taped m_point m_end m_begin m_faultAt m_farm m_pig m_begun m_first m_weight m_salted m_heat m_isBad m_isSold m_sealedFeed m_hook m_should m_on m_warmth m_damp m_isOpen m_fFarm m_fFrom m_fWhat m_fTold m_rule m_draft m_tape m_five m_those) H := by rw [← ht]; exact hB.1
    have hD : va_D A (wM ad cB cI cZ cL m_thrown_3 m_today m_legs m_feeds m_taped m_point m_end m_begin m_faultAt m_farm m_pig m_begun m_first m_weight m_salted m_heat m_isBad m_isSold m_sealedFeed m_hook m_should m_on m_warmth m_damp m_isOpen m_fFarm m_fFrom m_fWhat m_fTold m_rule m_draft m_tape m_five m_those) := hB.2.2
    refine lv_if_ne (tgt := 87) hx hb dX8_leg_25 (by decide) (fun c_4 => ?_) (fun c_4 => ?_)
    · have h := h.1 c_4
      refine lv_iconst (v := 0) hx hb dX8_leg_87 (by decide) ?_
      exact W.iret (v := 0) hx hb hr (fun t ht hW => ⟨⟨0, (m_thrown_3, m_legs, m_farm, m_pig, m_begun, m_first, m_weight, m_sealedFeed, m_hook, m_should), rfl, h, kB_mk hP hK hD ht hW.alike⟩, hS.F ht⟩) hS.2.2 dX8_leg_88
    · have h := h.2 c_4
      refine lv_aload_n hx hb dX8_leg_28 rfl (lv_at hl 0 rfl) ?_
      refine lv_iload_n hx hb dX8_leg_29 rfl (lv_at hl 2 rfl) ?_
      refine lv_iconst (v := 0) hx hb dX8_leg_30 (by decide) ?_
      refine lv_sipush (v := 9999) hx hb dX8_leg_31 (by decide) ?_
      refine va_calli (va_runS (As := [.int v2, .int 0, .int 9999]) (rest := [.ref (ad 0)]) ⟨hx, hb, hml, hown, hts⟩ (c_M_X8_in l dC dI ad cB cI cZ cL A m_thrown_3 m_today m_legs m_feeds m_taped m_point m_end m_begin m_faultAt m_farm m_pig m_begun m_first m_weight m_salted m_heat m_isBad m_isSold m_sealedFeed m_hook m_should m_on m_warmth m_damp m_isOpen m_fFarm m_fFrom m_fWhat m_fTold m_rule m_draft m_tape m_five m_those v2 0 9999 _ h) (va_cwS 3 hts gX8_leg_X8_in rfl rfl rfl (by decide +kernel) ⟨(Nat.le_of_ble_eq_true rfl), (Nat.le_of_ble_eq_true rfl)⟩) ⟨kC_blind, fun U hU hW => ⟨rfl, kC_go hA hS hP hK hD hE U hU hW⟩⟩ rfl rfl hl.1 rfl (lv_room (Nat.le_of_ble_eq_true rfl)) dX8_leg_34 ⟨(Nat.le_of_ble_eq_true rfl), (Nat.le_of_ble_eq_true rfl)⟩) hS (fun q _ h => h) (fun q h => h) (fun r_5 u t H locs ht hvm hw hB hz1 hk1 hS => ?_)
      have h := hw
      try dsimp only at h
      have hP : va_P (dC, dI) vwCl (wM ad cB cI cZ cL m_thrown_3 m_today m_legs m_feeds m_taped m_point m_end m_begin m_faultAt m_farm m_pig m_begun m_first m_weight m_salted m_heat m_isBad m_isSold m_sealedFeed m_hook m_should m_on m_warmth m_damp m_isOpen m_fFarm m_fFrom m_fWhat m_fTold m_rule m_draft m_tape m_five m_those) H := by rw [← ht]; exact hB.1
      have hD : va_D A (wM ad cB cI cZ cL m_thrown_3 m_today m_legs m_feeds m_taped m_point m_end m_begin m_faultAt m_farm m_pig m_begun m_first m_weight m_salted m_heat m_isBad m_isSold m_sealedFeed m_hook m_should m_on m_warmth m_damp m_isOpen m_fFarm m_fFrom m_fWhat m_fTold m_rule m_draft m_tape m_five m_those) := hB.2.2
      refine lv_if_eq (tgt := 53) hx hb dX8_leg_37 (by decide) (fun c_6 => ?_) (fun c_6 => ?_)
      · have h := h.1 c_6
        exact hbk_M_X8_leg_53 m_thrown_3 m_legs m_farm m_pig m_begun m_first m_weight m_sealedFeed m_hook m_should v1 v2 v3 _ _ _ hP hD hS (lv_sub hl [0, 1, 2, 3] rfl) h
      · have h := h.2 c_6
        refine lv_iload_n hx hb dX8_leg_40 rfl (lv_at hl 3 rfl) ?_
        refine lv_sipush (v := 5000) hx hb dX8_leg_41 (by decide) ?_
        refine lv_sipush (v := 15000) hx hb dX8_leg_44 (by decide) ?_
        refine va_calli (va_runS (As := [.int v3, .int 5000, .int 15000]) (rest := [.ref (ad 0)]) ⟨hx, hb, hml, hown, hts⟩ (c_M_X8_in l dC dI ad cB cI cZ cL A m_thrown_3 m_today m_legs m_feeds m_taped m_point m_end m_begin m_faultAt m_farm m_pig m_begun m_first m_weight m_salted m_heat m_isBad m_isSold m_sealedFeed m_hook m_should m_on m_warmth m_damp m_isOpen m_fFarm m_fFrom m_fWhat m_fTold m_rule m_draft m_tape m_five m_those v3 5000 15000 _ h) (va_cwS 3 hts gX8_leg_X8_in rfl rfl rfl (by decide +kernel) ⟨(Nat.le_of_ble_eq_true rfl), (Nat.le_of_ble_eq_true rfl)⟩) ⟨kC_blind, fun U hU hW => ⟨rfl, kC_go hA hS hP hK hD hE U hU hW⟩⟩ rfl rfl hl.1 rfl (lv_room (Nat.le_of_ble_eq_true rfl)) dX8_leg_47 ⟨(Nat.le_of_ble_eq_true rfl), (Nat.le_of_ble_eq_true rfl)⟩) hS (fun q _ h => h) (fun q h => h) (fun r_25 u t H locs ht hvm hw hB hz1 hk1 hS => ?_)
        have h := hw
        try dsimp only at h
        have hP : va_P (dC, dI) vwCl (wM ad cB cI cZ cL m_thrown_3 m_today m_legs m_feeds m_taped m_point m_end m_begin m_faultAt m_farm m_pig m_begun m_first m_weight m_salted m_heat m_isBad m_isSold m_sealedFeed m_hook m_should m_on m_warmth m_damp m_isOpen m_fFarm m_fFrom m_fWhat m_fTold m_rule m_draft m_tape m_five m_those) H := by rw [← ht]; exact hB.1
        have hD : va_D A (wM ad cB cI cZ cL m_thrown_3 m_today m_legs m_feeds m_taped m_point m_end m_begin m_faultAt m_farm m_pig m_begun m_first m_weight m_salted m_heat m_isBad m_isSold m_sealedFeed m_hook m_should m_on m_warmth m_damp m_isOpen m_fFarm m_fFrom m_fWhat m_fTold m_rule m_draft m_tape m_five m_those) := hB.2.2
        refine lv_if_ne (tgt := 57) hx hb dX8_leg_50 (by decide) (fun c_26 => ?_) (fun c_26 => ?_)
        · have h := h.1 c_26
          refine lv_iconst (v := 0) hx hb dX8_leg_57 (by decide) ?_
          exact hbk_M_X8_leg_58 m_thrown_3 m_legs m_farm m_pig m_begun m_first m_weight m_sealedFeed m_hook m_should v1 v2 v3 0 _ _ _ hP hD hS (lv_sub hl [0, 1, 2, 3] rfl) h
        · have h := h.2 c_26
          exact hbk_M_X8_leg_53 m_thrown_3 m_legs m_farm m_pig m_begun m_first m_weight m_sealedFeed m_hook m_should v1 v2 v3 _ _ _ hP hD hS (lv_sub hl [0, 1, 2, 3] rfl) h
  have hl := lv_entry ([.ref (ad 0), .int p0, .int p1, .int p2]) (n := 6) (Nat.le_of_ble_eq_true rfl)
  rw [lg_entry_eq]
  generalize (lg_sl ([.ref (ad 0), .int p0, .int p1, .int p2]) ++ List.replicate (6 - (lg_sl ([.ref (ad 0), .int p0, .int p1, .int p2])).length) Slot.unset).toArray = ls at hl ⊢
  have hl : lv_has ls 6 [(0, .ref (ad 0)), (1, .int p0), (2, .int p1), (3, .int p2)] := hl
  unfold wp_M_X8_leg at h
  refine lv_aload_n hx hb dX8_leg_0 rfl (lv_at hl 0 rfl) ?_
  refine lv_iconst (v := 0) hx hb dX8_leg_1 (by decide) ?_
  refine va_put (D := (dC, dI)) (ci := 8) (v := .int 0) (ty := .int) (C := RX8) (T := TX8) (N := 34) hx hb hts hk_1 tyX8 tyX8_ok nmX8 hown hK hP hD hS 0 wM_g0 rfl 0 (by decide) hk_0 (fun _ h9 => h9) rfl (by decide +kernel) rfl rfl (Nat.le_of_ble_eq_true rfl) dX8_leg_2 (fun H locs hP2 hD2 hS => ?_)
  have hP : va_P (dC, dI) vwCl (wM ad cB cI cZ cL 0 m_today m_legs m_feeds m_taped m_point m_end m_begin m_faultAt m_farm m_pig m_begun m_first m_weight m_salted m_heat m_isBad m_isSold m_sealedFeed m_hook m_should m_on m_warmth m_damp m_isOpen m_fFarm m_fFrom m_fWhat m_fTold m_rule m_draft m_tape m_five m_those) H := hP_eq (wM_p_m_thrown) hP2
  have hD : va_D A (wM ad cB cI cZ cL 0 m_today m_legs m_feeds m_taped m_point m_end m_begin m_faultAt m_farm m_pig m_begun m_first m_weight m_salted m_heat m_isBad m_isSold m_sealedFeed m_hook m_should m_on m_warmth m_damp m_isOpen m_fFarm m_fFrom m_fWhat m_fTold m_rule m_draft m_tape m_five m_those) := hD_eq (wM_p_m_thrown) hD2
  refine lv_aload_n hx hb dX8_leg_5 rfl (lv_at hl 0 rfl) ?_
  refine lv_iload_n hx hb dX8_leg_6 rfl (lv_at hl 1 rfl) ?_
  refine lv_iconst (v := 0) hx hb dX8_leg_7 (by decide) ?_
  refine lv_bipush (v := 9) hx hb dX8_leg_8 (by decide) ?_
  refine va_calli (va_runS (As := [.int p0, .int 0, .int 9]) (rest := [.ref (ad 0)]) ⟨hx, hb, hml, hown, hts⟩ (c_M_X8_in l dC dI ad cB cI cZ cL A 0 m_today m_legs m_feeds m_taped m_point m_end m_begin m_faultAt m_farm m_pig m_begun m_first m_weight m_salted m_heat m_isBad m_isSold m_sealedFeed m_hook m_should m_on m_warmth m_damp m_isOpen m_fFarm m_fFrom m_fWhat m_fTold m_rule m_draft m_tape m_five m_those p0 0 9 _ h) (va_cwS 3 hts gX8_leg_X8_in rfl rfl rfl (by decide +kernel) ⟨(Nat.le_of_ble_eq_true rfl), (Nat.le_of_ble_eq_true rfl)⟩) ⟨kC_blind, fun U hU hW => ⟨rfl, kC_go hA hS hP hK hD hE U hU hW⟩⟩ rfl rfl hl.1 rfl (lv_room (Nat.le_of_ble_eq_true rfl)) dX8_leg_10 ⟨(Nat.le_of_ble_eq_true rfl), (Nat.le_of_ble_eq_true rfl)⟩) hS (fun q _ h => h) (fun q h => h) (fun r_1 u t H locs ht hvm hw hB hz1 hk1 hS => ?_)
  have h := hw
  try dsimp only at h
  have hP : va_P (dC, dI) vwCl (wM ad cB cI cZ cL 0 m_today m_legs m_feeds m_taped m_point m_end m_begin m_faultAt m_farm m_pig m_begun m_first m_weight m_salted m_heat m_isBad m_isSold m_sealedFeed m_hook m_should m_on m_warmth m_damp m_isOpen m_fFarm m_fFrom m_fWhat m_fTold m_rule m_draft m_tape m_five m_those) H := by rw [← ht]; exact hB.1
  have hD : va_D A (wM ad cB cI cZ cL 0 m_today m_legs m_feeds m_taped m_point m_end m_begin m_faultAt m_farm m_pig m_begun m_first m_weight m_salted m_heat m_isBad m_isSold m_sealedFeed m_hook m_should m_on m_warmth m_damp m_isOpen m_fFarm m_fFrom m_fWhat m_fTold m_rule m_draft m_tape m_five m_those) := hB.2.2
  refine lv_if_ne (tgt := 20) hx hb dX8_leg_13 (by decide) (fun c_2 => ?_) (fun c_2 => ?_)
  · have h := h.1 c_2
    refine lv_iconst (v := 0) hx hb dX8_leg_20 (by decide) ?_
    exact hbk_M_X8_leg_21 0 m_legs m_farm m_pig m_begun m_first m_weight m_sealedFeed m_hook m_should p0 p1 p2 0 _ _ _ hP hD hS (lv_sub hl [0, 1, 2, 3] rfl) h
  · have h := h.2 c_2
    refine lv_iconst (v := 1) hx hb dX8_leg_16 (by decide) ?_
    refine lv_goto (tgt := 21) hx hb dX8_leg_17 (by decide) ?_
    exact hbk_M_X8_leg_21 0 m_legs m_farm m_pig m_begun m_first m_weight m_sealedFeed m_hook m_should p0 p1 p2 1 _ _ _ hP hD hS (lv_sub hl [0, 1, 2, 3] rfl) h
def bk_M_X8_leaves_21   (Q : (Nat → Int32) → (Nat → Int32) → Prop) (m_hook : Nat → Int32) (m_on : Nat → Int32) (v1 : Int32) : Prop := (vp_in v1 60 ∧ Q (upd m_hook v1.toNatClampNeg (-1)) m_on)
def wp_M_X8_leaves (Q : (Nat → Int32) → (Nat → Int32) → Prop) (m_hook : Nat → Int32) (m_on : Nat → Int32) (p0 : Int32) : Prop := (vp_in p0 60 ∧ (((m_hook p0.toNatClampNeg) < 0 → bk_M_X8_leaves_21 Q m_hook m_on p0) ∧ (¬ ((m_hook p0.toNatClampNeg) < 0) → (vp_in p0 60 ∧ (vp_in (m_hook p0.toNatClampNeg) 60 ∧ bk_M_X8_leaves_21 Q m_hook (upd m_on (m_hook p0.toNatClampNeg).toNatClampNeg (-1)) p0)))))
def rm_M_X8_leaves : Room := { frames := 0, cells := 0, slots := 0, locals := 0 }
abbrev pq_M_X8_leaves (dC : Nat → ClassId) (dI : Nat → Nat → Nat) (ad : Nat → Nat) (cB cI cZ cL : ClassId) (A : Nat → Prop) (m_thrown m_today m_legs m_feeds m_taped m_point m_end m_begin m_faultAt : Int32) (m_farm m_pig m_begun m_first m_weight m_salted m_heat m_isBad m_isSold m_sealedFeed m_hook m_should m_on m_warmth m_damp m_isOpen m_fFarm m_fFrom m_fWhat m_fTold m_rule m_draft m_tape m_five m_those : Nat → Int32) (Q : (Nat → Int32) → (Nat → Int32) → Prop) : Array Value → State → Outcome → State → Prop := va_Qv (fun u : (Nat → Int32) × (Nat → Int32) => Q u.1 u.2) (fun u t => kB dC dI A (wM ad cB cI cZ cL m_thrown m_today m_legs m_feeds m_taped m_point m_end m_begin m_faultAt m_farm m_pig m_begun m_first m_weight m_salted m_heat m_isBad m_isSold m_sealedFeed u.1 m_should u.2 m_warmth m_damp m_isOpen m_fFarm m_fFrom m_fWhat m_fTold m_rule m_draft m_tape m_five m_those) (kTy cB cI cZ cL) t) A
set_option maxHeartbeats 4000000 in
set_option maxRecDepth 100000 in
theorem c_M_X8_leaves (l : Launch) (dC : Nat → ClassId) (dI : Nat → Nat → Nat) (ad : Nat → Nat) (cB cI cZ cL : ClassId) (A : Nat → Prop) (m_thrown m_today m_legs m_feeds m_taped m_point m_end m_begin m_faultAt : Int32) (m_farm m_pig m_begun m_first m_weight m_salted m_heat m_isBad m_isSold m_sealedFeed m_hook m_should m_on m_warmth m_damp m_isOpen m_fFarm m_fFrom m_fWhat m_fTold m_rule m_draft m_tape m_five m_those : Nat → Int32) (p0 : Int32)  (Q : (Nat → Int32) → (Nat → Int32) → Prop) (h : wp_M_X8_leaves Q m_hook m_on p0) : Met l yX8_leaves wsX8_leaves rm_M_X8_leaves (va_Pc [.ref (ad 0), .int p0] (kC dC dI ad A (wM ad cB cI cZ cL m_thrown m_today m_legs m_feeds m_taped m_point m_end m_begin m_faultAt m_farm m_pig m_begun m_first m_weight m_salted m_heat m_isBad m_isSold m_sealedFeed m_hook m_should m_on m_warmth m_damp m_isOpen m_fFarm m_fFrom m_fWhat m_fTold m_rule m_draft m_tape m_five m_those) (kTy cB cI cZ cL))) (pq_M_X8_leaves dC dI ad cB cI cZ cL A m_thrown m_today m_legs m_feeds m_taped m_point m_end m_begin m_faultAt m_farm m_pig m_begun m_first m_weight m_salted m_heat m_isBad m_isSold m_sealedFeed m_hook m_should m_on m_warmth m_damp m_isOpen m_fFarm m_fFrom m_fWhat m_fTold m_rule m_draft m_tape m_five m_those Q) 0 0 A := by
  refine Met.ofW (cc := cX8_leaves) (maxL := 2) (ret := none) (by decide) rfl ?_
  intro p e s m args below meth c s₁ B hml hv
  obtain ⟨rfl, hA, hP, hK, hD, hE⟩ := hv
  have hx := B.exec
  have hb := B.bytes
  have hr := B.returns
  have hts := atoms_spec (ws := wsX8_leaves) B.pre
  have hown : s.vm.findClass RX8 = some m.cls := findClass_of_methodNamed B.named
  have hlocks := B.notSynchronized
  have hS : va_S A s.heap s.heap [] := va_S.rf
  have hk_0 := hts (.fieldLink RX8 45 "HamCellarModel" "hook" "[I") (by decide +kernel)
  have hk_1 : ∀ w ∈ wsX80, w ∈ wsX8_leaves := by decide +kernel
  have hk_2 := hts (.fieldLink RX8 51 "HamCellarModel" "on" "[I") (by decide +kernel)
  have hbk_M_X8_leaves_21 : ∀ (m_hook : Nat → Int32) (m_on : Nat → Int32) (v1 : Int32) (H : Heap) (locs : List Loc) (ls : Array Slot), va_P (dC, dI) vwCl (wM ad cB cI cZ cL m_thrown m_today m_legs m_feeds m_taped m_point m_end m_begin m_faultAt m_farm m_pig m_begun m_first m_weight m_salted m_heat m_isBad m_isSold m_sealedFeed m_hook m_should m_on m_warmth m_damp m_isOpen m_fFarm m_fFrom m_fWhat m_fTold m_rule m_draft m_tape m_five m_those) H → va_D A (wM ad cB cI cZ cL m_thrown m_today m_legs m_feeds m_taped m_point m_end m_begin m_faultAt m_farm m_pig m_begun m_first m_weight m_salted m_heat m_isBad m_isSold m_sealedFeed m_hook m_should m_on m_warmth m_damp m_isOpen m_fFarm m_fFrom m_fWhat m_fTold m_rule m_draft m_tape m_five m_those) → va_S A s.heap H locs → lv_has ls 2 [(0, .ref (ad 0)), (1, .int v1)] → bk_M_X8_leaves_21 Q m_hook m_on v1 → W p l e (headSpec wsX8_leaves rm_M_X8_leaves).room s m ([.ref (ad 0), .int p0] : List Value).toArray below meth c H locs 0 0 (MQ below (pq_M_X8_leaves dC dI ad cB cI cZ cL A m_thrown m_today m_legs m_feeds m_taped m_point m_end m_begin m_faultAt m_farm m_pig m_begun m_first m_weight m_salted m_heat m_isBad m_isSold m_sealedFeed m_hook m_should m_on m_warmth m_damp m_isOpen m_fFarm m_fFrom m_fWhat m_fTold m_rule m_draft m_tape m_five m_those Q) ([.ref (ad 0), .int p0] : List Value).toArray s 0 0 A) (F0 m 21 ls []) := by
    intro m_hook m_on v1 H locs ls hP hD hS hl h
    refine lv_aload_n hx hb dX8_leaves_21 rfl (lv_at hl 0 rfl) ?_
    refine va_get (D := (dC, dI)) (ci := 8) (v := .ref (ad 11)) (C := RX8) (T := TX8) (N := 34) hx hb hts hk_1 hown hK hP 0 wM_g0 rfl 12 (by decide) hk_0 (fun _ h9 => h9) rfl dX8_leaves_22 ?_
    refine lv_iload_n hx hb dX8_leaves_25 rfl (lv_at hl 1 rfl) ?_
    refine lv_iconst (v := (-1)) hx hb dX8_leaves_26 (by decide) ?_
    have hi_3 := h.1
    have h := h.2
    refine va_iast hx hb hK hP hD hS 11 1 wM_g11 rfl hi_3 dX8_leaves_27 (fun H locs hP2 hD2 hS => ?_)
    have hP : va_P (dC, dI) vwCl (wM ad cB cI cZ cL m_thrown m_today m_legs m_feeds m_taped m_point m_end m_begin m_faultAt m_farm m_pig m_begun m_first m_weight m_salted m_heat m_isBad m_isSold m_sealedFeed (upd m_hook v1.toNatClampNeg (-1)) m_should m_on m_warmth m_damp m_isOpen m_fFarm m_fFrom m_fWhat m_fTold m_rule m_draft m_tape m_five m_those) H := hP_eq (wM_p_m_hook) hP2
    have hD : va_D A (wM ad cB cI cZ cL m_thrown m_today m_legs m_feeds m_taped m_point m_end m_begin m_faultAt m_farm m_pig m_begun m_first m_weight m_salted m_heat m_isBad m_isSold m_sealedFeed (upd m_hook v1.toNatClampNeg (-1)) m_should m_on m_warmth m_damp m_isOpen m_fFarm m_fFrom m_fWhat m_fTold m_rule m_draft m_tape m_five m_those) := hD_eq (wM_p_m_hook) hD2
    exact W.vret hx hb hr (fun t ht hW => ⟨⟨(upd m_hook v1.toNatClampNeg (-1), m_on), rfl, h, kB_mk hP hK hD ht hW.alike⟩, hS.F ht⟩) hS.2.2 dX8_leaves_28
  have hl := lv_entry ([.ref (ad 0), .int p0]) (n := 2) (Nat.le_of_ble_eq_true rfl)
  rw [lg_entry_eq]
  generalize (lg_sl ([.ref (ad 0), .int p0]) ++ List.replicate (2 - (lg_sl ([.ref (ad 0), .int p0])).length) Slot.unset).toArray = ls at hl ⊢
  have hl : lv_has ls 2 [(0, .ref (ad 0)), (1, .int p0)] := hl
  unfold wp_M_X8_leaves at h
  refine lv_aload_n hx hb dX8_leaves_0 rfl (lv_at hl 0 rfl) ?_
  refine va_get (D := (dC, dI)) (ci := 8) (v := .ref (ad 11)) (C := RX8) (T := TX8) (N := 34) hx hb hts hk_1 hown hK hP 0 wM_g0 rfl 12 (by decide) hk_0 (fun _ h9 => h9) rfl dX8_leaves_1 ?_
  refine lv_iload_n hx hb dX8_leaves_4 rfl (lv_at hl 1 rfl) ?_
  have hi_1 := h.1
  have h := h.2
  refine va_iald hx hb hK hP 11 1 wM_g11 rfl hi_1 dX8_leaves_5 ?_
  refine lv_if_lt (tgt := 21) hx hb dX8_leaves_6 (by decide) (fun c_2 => ?_) (fun c_2 => ?_)
  · have h := h.1 c_2
    exact hbk_M_X8_leaves_21 m_hook m_on p0 _ _ _ hP hD hS (lv_sub hl [0, 1] rfl) h
  · have h := h.2 c_2
    refine lv_aload_n hx hb dX8_leaves_9 rfl (lv_at hl 0 rfl) ?_
    refine va_get (D := (dC, dI)) (ci := 8) (v := .ref (ad 13)) (C := RX8) (T := TX8) (N := 34) hx hb hts hk_1 hown hK hP 0 wM_g0 rfl 15 (by decide) hk_2 (fun _ h9 => h9) rfl dX8_leaves_10 ?_
    refine lv_aload_n hx hb dX8_leaves_13 rfl (lv_at hl 0 rfl) ?_
    refine va_get (D := (dC, dI)) (ci := 8) (v := .ref (ad 11)) (C := RX8) (T := TX8) (N := 34) hx hb hts hk_1 hown hK hP 0 wM_g0 rfl 12 (by decide) hk_0 (fun _ h9 => h9) rfl dX8_leaves_14 ?_
    refine lv_iload_n hx hb dX8_leaves_17 rfl (lv_at hl 1 rfl) ?_
    have hi_4 := h.1
    have h := h.2
    refine va_iald hx hb hK hP 11 1 wM_g11 rfl hi_4 dX8_leaves_18 ?_
    refine lv_iconst (v := (-1)) hx hb dX8_leaves_19 (by decide) ?_
    have hi_5 := h.1
    have h := h.2
    refine va_iast hx hb hK hP hD hS 13 1 wM_g13 rfl hi_5 dX8_leaves_20 (fun H locs hP2 hD2 hS => ?_)
    have hP : va_P (dC, dI) vwCl (wM ad cB cI cZ cL m_thrown m_today m_legs m_feeds m_taped m_point m_end m_begin m_faultAt m_farm m_pig m_begun m_first m_weight m_salted m_heat m_isBad m_isSold m_sealedFeed m_hook m_should (upd m_on (m_hook p0.toNatClampNeg).toNatClampNeg (-1)) m_warmth m_damp m_isOpen m_fFarm m_fFrom m_fWhat m_fTold m_rule m_draft m_tape m_five m_those) H := hP_eq (wM_p_m_on) hP2
    have hD : va_D A (wM ad cB cI cZ cL m_thrown m_today m_legs m_feeds m_taped m_point m_end m_begin m_faultAt m_farm m_pig m_begun m_first m_weight m_salted m_heat m_isBad m_isSold m_sealedFeed m_hook m_should (upd m_on (m_hook p0.toNatClampNeg).toNatClampNeg (-1)) m_warmth m_damp m_isOpen m_fFarm m_fFrom m_fWhat m_fTold m_rule m_draft m_tape m_five m_those) := hD_eq (wM_p_m_on) hD2
    exact hbk_M_X8_leaves_21 m_hook (upd m_on (m_hook p0.toNatClampNeg).toNatClampNeg (-1)) p0 _ _ _ hP hD hS (lv_sub hl [0, 1] rfl) h
def bk_M_X8_hang_27 (m_legs : Int32) (m_isSold : Nat → Int32)  (Q : Int32 → Int32 → (Nat → Int32) → (Nat → Int32) → Prop) (m_thrown : Int32) (m_hook : Nat → Int32) (m_on : Nat → Int32) (v1 : Int32) (v2 : Int32) (v3 : Int32) (k0 : Int32) : Prop := wp_M_X8_throwsIf (fun r_3 m_thrown_3 => ((¬ r_3 = 0 → (o01 0 ∧ Q 0 m_thrown_3 m_hook m_on)) ∧ (r_3 = 0 → (vp_in v1 60 ∧ ((¬ (m_isSold v1.toNatClampNeg) = 0 → (o01 0 ∧ Q 0 m_thrown_3 m_hook m_on)) ∧ ((m_isSold v1.toNatClampNeg) = 0 → (vp_in ((10 * v2) + v3) 60 ∧ (((m_on ((10 * v2) + v3).toNatClampNeg) < 0 → wp_M_X8_leaves (fun m_hook_9 m_on_9 => (vp_in v1 60 ∧ (vp_in v1 60 ∧ (vp_in ((upd m_hook_9 v1.toNatClampNeg ((10 * v2) + v3)) v1.toNatClampNeg) 60 ∧ (o01 1 ∧ Q 1 m_thrown_3 (upd m_hook_9 v1.toNatClampNeg ((10 * v2) + v3)) (upd m_on_9 ((upd m_hook_9 v1.toNatClampNeg ((10 * v2) + v3)) v1.toNatClampNeg).toNatClampNeg v1)))))) m_hook m_on v1) ∧ (¬ ((m_on ((10 * v2) + v3).toNatClampNeg) < 0) → (o01 0 ∧ Q 0 m_thrown_3 m_hook m_on)))))))))) m_thrown k0 1
def bk_M_X8_hang_22 (m_legs : Int32) (m_isSold : Nat → Int32)  (Q : Int32 → Int32 → (Nat → Int32) → (Nat → Int32) → Prop) (m_thrown : Int32) (m_hook : Nat → Int32) (m_on : Nat → Int32) (v1 : Int32) (v2 : Int32) (v3 : Int32) : Prop := bk_M_X8_hang_27 m_legs m_isSold Q m_thrown m_hook m_on v1 v2 v3 1
def wp_M_X8_hang (m_legs : Int32) (m_isSold : Nat → Int32) (Q : Int32 → Int32 → (Nat → Int32) → (Nat → Int32) → Prop) (m_thrown : Int32) (m_hook : Nat → Int32) (m_on : Nat → Int32) (p0 : Int32) (p1 : Int32) (p2 : Int32) : Prop := wp_M_X8_noLeg m_legs (fun r_1 => ((¬ r_1 = 0 → bk_M_X8_hang_22 m_legs m_isSold Q 0 m_hook m_on p0 p1 p2) ∧ (r_1 = 0 → wp_M_X8_noHook (fun r_13 => ((r_13 = 0 → bk_M_X8_hang_27 m_legs m_isSold Q 0 m_hook m_on p0 p1 p2 0) ∧ (¬ (r_13 = 0) → bk_M_X8_hang_22 m_legs m_isSold Q 0 m_hook m_on p0 p1 p2))) p1 p2))) p0
def rm_M_X8_hang : Room := { frames := 2, cells := 0, slots := 0, locals := 43 }
abbrev pq_M_X8_hang (dC : Nat → ClassId) (dI : Nat → Nat → Nat) (ad : Nat → Nat) (cB cI cZ cL : ClassId) (A : Nat → Prop) (m_thrown m_today m_legs m_feeds m_taped m_point m_end m_begin m_faultAt : Int32) (m_farm m_pig m_begun m_first m_weight m_salted m_heat m_isBad m_isSold m_sealedFeed m_hook m_should m_on m_warmth m_damp m_isOpen m_fFarm m_fFrom m_fWhat m_fTold m_rule m_draft m_tape m_five m_those : Nat → Int32) (Q : Int32 → Int32 → (Nat → Int32) → (Nat → Int32) → Prop) : Array Value → State → Outcome → State → Prop := va_Qi (fun (r : Int32) (u : Int32 × (Nat → Int32) × (Nat → Int32)) => Q r u.1 u.2.1 u.2.2) (fun u t => kB dC dI A (wM ad cB cI cZ cL u.1 m_today m_legs m_feeds m_taped m_point m_end m_begin m_faultAt m_farm m_pig m_begun m_first m_weight m_salted m_heat m_isBad m_isSold m_sealedFeed u.2.1 m_should u.2.2 m_warmth m_damp m_isOpen m_fFarm m_fFrom m_fWhat m_fTold m_rule m_draft m_tape m_five m_those) (kTy cB cI cZ cL) t) A
set_option maxHeartbeats 4000000 in
set_option maxRecDepth 100000 in
theorem c_M_X8_hang (l : Launch) (dC : Nat → ClassId) (dI : Nat → Nat → Nat) (ad : Nat → Nat) (cB cI cZ cL : ClassId) (A : Nat → Prop) (m_thrown m_today m_legs m_feeds m_taped m_point m_end m_begin m_faultAt : Int32) (m_farm m_pig m_begun m_first m_weight m_salted m_heat m_isBad m_isSold m_sealedFeed m_hook m_should m_on m_warmth m_damp m_isOpen m_fFarm m_fFrom m_fWhat m_fTold m_rule m_draft m_tape m_five m_those : Nat → Int32) (p0 : Int32) (p1 : Int32) (p2 : Int32)  (Q : Int32 → Int32 → (Nat → Int32) → (Nat → Int32) → Prop) (h : wp_M_X8_hang m_legs m_isSold Q m_thrown m_hook m_on p0 p1 p2) : Met l yX8_hang wsX8_hang rm_M_X8_hang (va_Pc [.ref (ad 0), .int p0, .int p1, .int p2] (kC dC dI ad A (wM ad cB cI cZ cL m_thrown m_today m_legs m_feeds m_taped m_point m_end m_begin m_faultAt m_farm m_pig m_begun m_first m_weight m_salted m_heat m_isBad m_isSold m_sealedFeed m_hook m_should m_on m_warmth m_damp m_isOpen m_fFarm m_fFrom m_fWhat m_fTold m_rule m_draft m_tape m_five m_those) (kTy cB cI cZ cL))) (pq_M_X8_hang dC dI ad cB cI cZ cL A m_thrown m_today m_legs m_feeds m_taped m_point m_end m_begin m_faultAt m_farm m_pig m_begun m_first m_weight m_salted m_heat m_isBad m_isSold m_sealedFeed m_hook m_should m_on m_warmth m_damp m_isOpen m_fFarm m_fFrom m_fWhat m_fTold m_rule m_draft m_tape m_five m_those Q) 0 0 A := by
  refine Met.ofW (cc := cX8_hang) (maxL := 4) (ret := (some .boolean)) (by decide) rfl ?_
  intro p e s m args below meth c s₁ B hml hv
  obtain ⟨rfl, hA, hP, hK, hD, hE⟩ := hv
  have hx := B.exec
  have hb := B.bytes
  have hr := B.returns
  have hts := atoms_spec (ws := wsX8_hang) B.pre
  have hown : s.vm.findClass RX8 = some m.cls := findClass_of_methodNamed B.named
  have hlocks := B.notSynchronized
  have hS : va_S A s.heap s.heap [] := va_S.rf
  have hk_0 := hts (.fieldLink RX8 1 "HamCellarModel" "thrown" "I") (by decide +kernel)
  have hk_1 : ∀ w ∈ wsX80, w ∈ wsX8_hang := by decide +kernel
  have hk_2 := hts (.fieldLink RX8 39 "HamCellarModel" "isSold" "[Z") (by decide +kernel)
  have hk_3 := hts (.fieldLink RX8 51 "HamCellarModel" "on" "[I") (by decide +kernel)
  have hk_4 := hts (.fieldLink RX8 45 "HamCellarModel" "hook" "[I") (by decide +kernel)
  have hbk_M_X8_hang_27 : ∀ (m_thrown : Int32) (m_hook : Nat → Int32) (m_on : Nat → Int32) (v1 : Int32) (v2 : Int32) (v3 : Int32) (k0 : Int32) (H : Heap) (locs : List Loc) (ls : Array Slot), va_P (dC, dI) vwCl (wM ad cB cI cZ cL m_thrown m_today m_legs m_feeds m_taped m_point m_end m_begin m_faultAt m_farm m_pig m_begun m_first m_weight m_salted m_heat m_isBad m_isSold m_sealedFeed m_hook m_should m_on m_warmth m_damp m_isOpen m_fFarm m_fFrom m_fWhat m_fTold m_rule m_draft m_tape m_five m_those) H → va_D A (wM ad cB cI cZ cL m_thrown m_today m_legs m_feeds m_taped m_point m_end m_begin m_faultAt m_farm m_pig m_begun m_first m_weight m_salted m_heat m_isBad m_isSold m_sealedFeed m_hook m_should m_on m_warmth m_damp m_isOpen m_fFarm m_fFrom m_fWhat m_fTold m_rule m_draft m_tape m_five m_those) → va_S A s.heap H locs → lv_has ls 4 [(0, .ref (ad 0)), (1, .int v1), (2, .int v2), (3, .int v3)] → bk_M_X8_hang_27 m_legs m_isSold Q m_thrown m_hook m_on v1 v2 v3 k0 → W p l e (headSpec wsX8_hang rm_M_X8_hang).room s m ([.ref (ad 0), .int p0, .int p1, .int p2] : List Value).toArray below meth c H locs 0 0 (MQ below (pq_M_X8_hang dC dI ad cB cI cZ cL A m_thrown m_today m_legs m_feeds m_taped m_point m_end m_begin m_faultAt m_farm m_pig m_begun m_first m_weight m_salted m_heat m_isBad m_isSold m_sealedFeed m_hook m_should m_on m_warmth m_damp m_isOpen m_fFarm m_fFrom m_fWhat m_fTold m_rule m_draft m_tape m_five m_those Q) ([.ref (ad 0), .int p0, .int p1, .int p2] : List Value).toArray s 0 0 A) (F0 m 27 ls [.int k0, .ref (ad 0)]) := by
    intro m_thrown m_hook m_on v1 v2 v3 k0 H locs ls hP hD hS hl h
    have h : wp_M_X8_throwsIf (fun r_3 m_thrown_3 => ((¬ r_3 = 0 → (o01 0 ∧ Q 0 m_thrown_3 m_hook m_on)) ∧ (r_3 = 0 → (vp_in v1 60 ∧ ((¬ (m_isSold v1.toNatClampNeg) = 0 → (o01 0 ∧ Q 0 m_thrown_3 m_hook m_on)) ∧ ((m_isSold v1.toNatClampNeg) = 0 → (vp_in ((10 * v2) + v3) 60 ∧ (((m_on ((10 * v2) + v3).toNatClampNeg) < 0 → wp_M_X8_leaves (fun m_hook_9 m_on_9 => (vp_in v1 60 ∧ (vp_in v1 60 ∧ (vp_in ((upd m_hook_9 v1.toNatClampNeg ((10 * v2) + v3)) v1.toNatClampNeg) 60 ∧ (o01 1 ∧ Q 1 m_thrown_3 (upd m_hook_9 v1.toNatClampNeg ((10 * v2) + v3)) (upd m_on_9 ((upd m_hook_9 v1.toNatClampNeg ((10 * v2) + v3)) v1.toNatClampNeg).toNatClampNeg v1)))))) m_hook m_on v1) ∧ (¬ ((m_on ((10 * v2) + v3).toNatClampNeg) < 0) → (o01 0 ∧ Q 0 m_thrown_3 m_hook m_on)))))))))) m_thrown k0 1 := h
    refine lv_iconst (v := 1) hx hb dX8_hang_27 (by decide) ?_
    refine va_calli (va_runV (As := [.int k0, .int 1]) (rest := []) ⟨hx, hb, hml, hown, hts⟩ (c_M_X8_throwsIf l dC dI ad cB cI cZ cL A m_thrown m_today m_legs m_feeds m_taped m_point m_end m_begin m_faultAt m_farm m_pig m_begun m_first m_weight m_salted m_heat m_isBad m_isSold m_sealedFeed m_hook m_should m_on m_warmth m_damp m_isOpen m_fFarm m_fFrom m_fWhat m_fTold m_rule m_draft m_tape m_five m_those k0 1 _ h) (cwV 2 hts gX8_hang_X8_throwsIf rfl rfl rfl (by decide +kernel) ⟨(Nat.le_of_ble_eq_true rfl), (Nat.le_of_ble_eq_true rfl)⟩) ⟨kC_blind, va_recv hK hP (ci := 8) (q0 := 0) rfl wM_g0, fun U hU hW => ⟨rfl, kC_go hA hS hP hK hD hE U hU hW⟩⟩ rfl rfl hl.1 rfl (lv_room (Nat.le_of_ble_eq_true rfl)) dX8_hang_28 ⟨(Nat.le_of_ble_eq_true rfl), (Nat.le_of_ble_eq_true rfl)⟩) hS (fun q _ h => h) (fun q h => h) (fun r_3 u t H locs ht hvm hw hB hz1 hk1 hS => ?_)
    obtain ⟨m_thrown_3, rfl⟩ : ∃ z, z = u := ⟨_, rfl⟩
    have h := hw
    try dsimp only at h
    have hP : va_P (dC, dI) vwCl (wM ad cB cI cZ cL m_thrown_3 m_today m_legs m_feeds m_taped m_point m_end m_begin m_faultAt m_farm m_pig m_begun m_first m_weight m_salted m_heat m_isBad m_isSold m_sealedFeed m_hook m_should m_on m_warmth m_damp m_isOpen m_fFarm m_fFrom m_fWhat m_fTold m_rule m_draft m_tape m_five m_those) H := by rw [← ht]; exact hB.1
    have hD : va_D A (wM ad cB cI cZ cL m_thrown_3 m_today m_legs m_feeds m_taped m_point m_end m_begin m_faultAt m_farm m_pig m_begun m_first m_weight m_salted m_heat m_isBad m_isSold m_sealedFeed m_hook m_should m_on m_warmth m_damp m_isOpen m_fFarm m_fFrom m_fWhat m_fTold m_rule m_draft m_tape m_five m_those) := hB.2.2
    refine lv_if_ne (tgt := 57) hx hb dX8_hang_31 (by decide) (fun c_4 => ?_) (fun c_4 => ?_)
    · have h := h.1 c_4
      refine lv_iconst (v := 0) hx hb dX8_hang_57 (by decide) ?_
      exact W.zret (v := 0) (ty := .boolean) hx hb hr (z01 h.1) (fun t ht hW => ⟨⟨0, (m_thrown_3, m_hook, m_on), rfl, h.2, kB_mk hP hK hD ht hW.alike⟩, hS.F ht⟩) hS.2.2 dX8_hang_58
    · have h := h.2 c_4
      refine lv_aload_n hx hb dX8_hang_34 rfl (lv_at hl 0 rfl) ?_
      refine va_get (D := (dC, dI)) (ci := 8) (v := .ref (ad 9)) (C := RX8) (T := TX8) (N := 34) hx hb hts hk_1 hown hK hP 0 wM_g0 rfl 10 (by decide) hk_2 (fun _ h9 => h9) rfl dX8_hang_35 ?_
      refine lv_iload_n hx hb dX8_hang_38 rfl (lv_at hl 1 rfl) ?_
      have hi_5 := h.1
      have h := h.2
      refine va_zald hx hb hK hP 9 2 wM_g9 rfl hi_5 dX8_hang_39 ?_
      refine lv_if_ne (tgt := 57) hx hb dX8_hang_40 (by decide) (fun c_6 => ?_) (fun c_6 => ?_)
      · have h := h.1 c_6
        refine lv_iconst (v := 0) hx hb dX8_hang_57 (by decide) ?_
        exact W.zret (v := 0) (ty := .boolean) hx hb hr (z01 h.1) (fun t ht hW => ⟨⟨0, (m_thrown_3, m_hook, m_on), rfl, h.2, kB_mk hP hK hD ht hW.alike⟩, hS.F ht⟩) hS.2.2 dX8_hang_58
      · have h := h.2 c_6
        refine lv_aload_n hx hb dX8_hang_43 rfl (lv_at hl 0 rfl) ?_
        refine va_get (D := (dC, dI)) (ci := 8) (v := .ref (ad 13)) (C := RX8) (T := TX8) (N := 34) hx hb hts hk_1 hown hK hP 0 wM_g0 rfl 15 (by decide) hk_3 (fun _ h9 => h9) rfl dX8_hang_44 ?_
        refine lv_bipush (v := 10) hx hb dX8_hang_47 (by decide) ?_
        refine lv_iload_n hx hb dX8_hang_49 rfl (lv_at hl 2 rfl) ?_
        refine lv_imul hx hb dX8_hang_50 ?_
        refine lv_iload_n hx hb dX8_hang_51 rfl (lv_at hl 3 rfl) ?_
        refine lv_iadd hx hb dX8_hang_52 ?_
        have hi_7 := h.1
        have h := h.2
        refine va_iald hx hb hK hP 13 1 wM_g13 rfl hi_7 dX8_hang_53 ?_
        refine lv_if_lt (tgt := 59) hx hb dX8_hang_54 (by decide) (fun c_8 => ?_) (fun c_8 => ?_)
        · have h := h.1 c_8
          refine lv_aload_n hx hb dX8_hang_59 rfl (lv_at hl 0 rfl) ?_
          refine lv_iload_n hx hb dX8_hang_60 rfl (lv_at hl 1 rfl) ?_
          refine va_callv (va_runV (As := [.int v1]) (rest := []) ⟨hx, hb, hml, hown, hts⟩ (c_M_X8_leaves l dC dI ad cB cI cZ cL A m_thrown_3 m_today m_legs m_feeds m_taped m_point m_end m_begin m_faultAt m_farm m_pig m_begun m_first m_weight m_salted m_heat m_isBad m_isSold m_sealedFeed m_hook m_should m_on m_warmth m_damp m_isOpen m_fFarm m_fFrom m_fWhat m_fTold m_rule m_draft m_tape m_five m_those v1 _ h) (cwV 1 hts gX8_hang_X8_leaves rfl rfl rfl (by decide +kernel) ⟨(Nat.le_of_ble_eq_true rfl), (Nat.le_of_ble_eq_true rfl)⟩) ⟨kC_blind, va_recv hK hP (ci := 8) (q0 := 0) rfl wM_g0, fun U hU hW => ⟨rfl, kC_go hA hS hP hK hD hE U hU hW⟩⟩ rfl rfl hl.1 rfl (lv_room (Nat.le_of_ble_eq_true rfl)) dX8_hang_61 ⟨(Nat.le_of_ble_eq_true rfl), (Nat.le_of_ble_eq_true rfl)⟩) hS (fun q _ h => h) (fun q h => h) (fun u t H locs ht hvm hw hB hz1 hk1 hS => ?_)
          obtain ⟨m_hook_9, m_on_9⟩ := u
          have h := hw
          try dsimp only at h
          have hP : va_P (dC, dI) vwCl (wM ad cB cI cZ cL m_thrown_3 m_today m_legs m_feeds m_taped m_point m_end m_begin m_faultAt m_farm m_pig m_begun m_first m_weight m_salted m_heat m_isBad m_isSold m_sealedFeed m_hook_9 m_should m_on_9 m_warmth m_damp m_isOpen m_fFarm m_fFrom m_fWhat m_fTold m_rule m_draft m_tape m_five m_those) H := by rw [← ht]; exact hB.1
          have hD : va_D A (wM ad cB cI cZ cL m_thrown_3 m_today m_legs m_feeds m_taped m_point m_end m_begin m_faultAt m_farm m_pig m_begun m_first m_weight m_salted m_heat m_isBad m_isSold m_sealedFeed m_hook_9 m_should m_on_9 m_warmth m_damp m_isOpen m_fFarm m_fFrom m_fWhat m_fTold m_rule m_draft m_tape m_five m_those) := hB.2.2
          refine lv_aload_n hx hb dX8_hang_64 rfl (lv_at hl 0 rfl) ?_
          refine va_get (D := (dC, dI)) (ci := 8) (v := .ref (ad 11)) (C := RX8) (T := TX8) (N := 34) hx hb hts hk_1 hown hK hP 0 wM_g0 rfl 12 (by decide) hk_4 (fun _ h9 => h9) rfl dX8_hang_65 ?_
          refine lv_iload_n hx hb dX8_hang_68 rfl (lv_at hl 1 rfl) ?_
          refine lv_bipush (v := 10) hx hb dX8_hang_69 (by decide) ?_
          refine lv_iload_n hx hb dX8_hang_71 rfl (lv_at hl 2 rfl) ?_
          refine lv_imul hx hb dX8_hang_72 ?_
          refine lv_iload_n hx hb dX8_hang_73 rfl (lv_at hl 3 rfl) ?_
          refine lv_iadd hx hb dX8_hang_74 ?_
          have hi_10 := h.1
          have h := h.2
          refine va_iast hx hb hK hP hD hS 11 1 wM_g11 rfl hi_10 dX8_hang_75 (fun H locs hP2 hD2 hS => ?_)
          have hP : va_P (dC, dI) vwCl (wM ad cB cI cZ cL m_thrown_3 m_today m_legs m_feeds m_taped m_point m_end m_begin m_faultAt m_farm m_pig m_begun m_first m_weight m_salted m_heat m_isBad m_isSold m_sealedFeed (upd m_hook_9 v1.toNatClampNeg ((10 * v2) + v3)) m_should m_on_9 m_warmth m_damp m_isOpen m_fFarm m_fFrom m_fWhat m_fTold m_rule m_draft m_tape m_five m_those) H := hP_eq (wM_p_m_hook) hP2
          have hD : va_D A (wM ad cB cI cZ cL m_thrown_3 m_today m_legs m_feeds m_taped m_point m_end m_begin m_faultAt m_farm m_pig m_begun m_first m_weight m_salted m_heat m_isBad m_isSold m_sealedFeed (upd m_hook_9 v1.toNatClampNeg ((10 * v2) + v3)) m_should m_on_9 m_warmth m_damp m_isOpen m_fFarm m_fFrom m_fWhat m_fTold m_rule m_draft m_tape m_five m_those) := hD_eq (wM_p_m_hook) hD2
          refine lv_aload_n hx hb dX8_hang_76 rfl (lv_at hl 0 rfl) ?_
          refine va_get (D := (dC, dI)) (ci := 8) (v := .ref (ad 13)) (C := RX8) (T := TX8) (N := 34) hx hb hts hk_1 hown hK hP 0 wM_g0 rfl 15 (by decide) hk_3 (fun _ h9 => h9) rfl dX8_hang_77 ?_
          refine lv_aload_n hx hb dX8_hang_80 rfl (lv_at hl 0 rfl) ?_
          refine va_get (D := (dC, dI)) (ci := 8) (v := .ref (ad 11)) (C := RX8) (T := TX8) (N := 34) hx hb hts hk_1 hown hK hP 0 wM_g0 rfl 12 (by decide) hk_4 (fun _ h9 => h9) rfl dX8_hang_81 ?_
          refine lv_iload_n hx hb dX8_hang_84 rfl (lv_at hl 1 rfl) ?_
          have hi_11 := h.1
          have h := h.2
          refine va_iald hx hb hK hP 11 1 wM_g11 rfl hi_11 dX8_hang_85 ?_
          refine lv_iload_n hx hb dX8_hang_86 rfl (lv_at hl 1 rfl) ?_
          have hi_12 := h.1
          have h := h.2
          refine va_iast hx hb hK hP hD hS 13 1 wM_g13 rfl hi_12 dX8_hang_87 (fun H locs hP2 hD2 hS => ?_)
          have hP : va_P (dC, dI) vwCl (wM ad cB cI cZ cL m_thrown_3 m_today m_legs m_feeds m_taped m_point m_end m_begin m_faultAt m_farm m_pig m_begun m_first m_weight m_salted m_heat m_isBad m_isSold m_sealedFeed (upd m_hook_9 v1.toNatClampNeg ((10 * v2) + v3)) m_should (upd m_on_9 ((upd m_hook_9 v1.toNatClampNeg ((10 * v2) + v3)) v1.toNatClampNeg).toNatClampNeg v1) m_warmth m_damp m_isOpen m_fFarm m_fFrom m_fWhat m_fTold m_rule m_draft m_tape m_five m_those) H := hP_eq (wM_p_m_on) hP2
          have hD : va_D A (wM ad cB cI cZ cL m_thrown_3 m_today m_legs m_feeds m_taped m_point m_end m_begin m_faultAt m_farm m_pig m_begun m_first m_weight m_salted m_heat m_isBad m_isSold m_sealedFeed (upd m_hook_9 v1.toNatClampNeg ((10 * v2) + v3)) m_should (upd m_on_9 ((upd m_hook_9 v1.toNatClampNeg ((10 * v2) + v3)) v1.toNatClampNeg).toNatClampNeg v1) m_warmth m_damp m_isOpen m_fFarm m_fFrom m_fWhat m_fTold m_rule m_draft m_tape m_five m_those) := hD_eq (wM_p_m_on) hD2
          refine lv_iconst (v := 1) hx hb dX8_hang_88 (by decide) ?_
          exact W.zret (v := 1) (ty := .boolean) hx hb hr (z01 h.1) (fun t ht hW => ⟨⟨1, (m_thrown_3, upd m_hook_9 v1.toNatClampNeg ((10 * v2) + v3), upd m_on_9 ((upd m_hook_9 v1.toNatClampNeg ((10 * v2) + v3)) v1.toNatClampNeg).toNatClampNeg v1), rfl, h.2, kB_mk hP hK hD ht hW.alike⟩, hS.F ht⟩) hS.2.2 dX8_hang_89
        · have h := h.2 c_8
          refine lv_iconst (v := 0) hx hb dX8_hang_57 (by decide) ?_
          exact W.zret (v := 0) (ty := .boolean) hx hb hr (z01 h.1) (fun t ht hW => ⟨⟨0, (m_thrown_3, m_hook, m_on), rfl, h.2, kB_mk hP hK hD ht hW.alike⟩, hS.F ht⟩) hS.2.2 dX8_hang_58
  have hbk_M_X8_hang_22 : ∀ (m_thrown : Int32) (m_hook : Nat → Int32) (m_on : Nat → Int32) (v1 : Int32) (v2 : Int32) (v3 : Int32) (H : Heap) (locs : List Loc) (ls : Array Slot), va_P (dC, dI) vwCl (wM ad cB cI cZ cL m_thrown m_today m_legs m_feeds m_taped m_point m_end m_begin m_faultAt m_farm m_pig m_begun m_first m_weight m_salted m_heat m_isBad m_isSold m_sealedFeed m_hook m_should m_on m_warmth m_damp m_isOpen m_fFarm m_fFrom m_fWhat m_fTold m_rule m_draft m_tape m_five m_those) H → va_D A (wM ad cB cI cZ cL m_thrown m_today m_legs m_feeds m_taped m_point m_end m_begin m_faultAt m_farm m_pig m_begun m_first m_weight m_salted m_heat m_isBad m_isSold m_sealedFeed m_hook m_should m_on m_warmth m_damp m_isOpen m_fFarm m_fFrom m_fWhat m_fTold m_rule m_draft m_tape m_five m_those) → va_S A s.heap H locs → lv_has ls 4 [(0, .ref (ad 0)), (1, .int v1), (2, .int v2), (3, .int v3)] → bk_M_X8_hang_22 m_legs m_isSold Q m_thrown m_hook m_on v1 v2 v3 → W p l e (headSpec wsX8_hang rm_M_X8_hang).room s m ([.ref (ad 0), .int p0, .int p1, .int p2] : List Value).toArray below meth c H locs 0 0 (MQ below (pq_M_X8_hang dC dI ad cB cI cZ cL A m_thrown m_today m_legs m_feeds m_taped m_point m_end m_begin m_faultAt m_farm m_pig m_begun m_first m_weight m_salted m_heat m_isBad m_isSold m_sealedFeed m_hook m_should m_on m_warmth m_damp m_isOpen m_fFarm m_fFrom m_fWhat m_fTold m_rule m_draft m_tape m_five m_those Q) ([.ref (ad 0), .int p0, .int p1, .int p2] : List Value).toArray s 0 0 A) (F0 m 22 ls [.ref (ad 0)]) := by
    intro m_thrown m_hook m_on v1 v2 v3 H locs ls hP hD hS hl h
    refine lv_iconst (v := 1) hx hb dX8_hang_22 (by decide) ?_
    refine lv_goto (tgt := 27) hx hb dX8_hang_23 (by decide) ?_
    exact hbk_M_X8_hang_27 m_thrown m_hook m_on v1 v2 v3 1 _ _ _ hP hD hS (lv_sub hl [0, 1, 2, 3] rfl) h
  have hl := lv_entry ([.ref (ad 0), .int p0, .int p1, .int p2]) (n := 4) (Nat.le_of_ble_eq_true rfl)
  rw [lg_entry_eq]
  generalize (lg_sl ([.ref (ad 0), .int p0, .int p1, .int p2]) ++ List.replicate (4 - (lg_sl ([.ref (ad 0), .int p0, .int p1, .int p2])).length) Slot.unset).toArray = ls at hl ⊢
  have hl : lv_has ls 4 [(0, .ref (ad 0)), (1, .int p0), (2, .int p1), (3, .int p2)] := hl
  unfold wp_M_X8_hang at h
  refine lv_aload_n hx hb dX8_hang_0 rfl (lv_at hl 0 rfl) ?_
  refine lv_iconst (v := 0) hx hb dX8_hang_1 (by decide) ?_
  refine va_put (D := (dC, dI)) (ci := 8) (v := .int 0) (ty := .int) (C := RX8) (T := TX8) (N := 34) hx hb hts hk_1 tyX8 tyX8_ok nmX8 hown hK hP hD hS 0 wM_g0 rfl 0 (by decide) hk_0 (fun _ h9 => h9) rfl (by decide +kernel) rfl rfl (Nat.le_of_ble_eq_true rfl) dX8_hang_2 (fun H locs hP2 hD2 hS => ?_)
  have hP : va_P (dC, dI) vwCl (wM ad cB cI cZ cL 0 m_today m_legs m_feeds m_taped m_point m_end m_begin m_faultAt m_farm m_pig m_begun m_first m_weight m_salted m_heat m_isBad m_isSold m_sealedFeed m_hook m_should m_on m_warmth m_damp m_isOpen m_fFarm m_fFrom m_fWhat m_fTold m_rule m_draft m_tape m_five m_those) H := hP_eq (wM_p_m_thrown) hP2
  have hD : va_D A (wM ad cB cI cZ cL 0 m_today m_legs m_feeds m_taped m_point m_end m_begin m_faultAt m_farm m_pig m_begun m_first m_weight m_salted m_heat m_isBad m_isSold m_sealedFeed m_hook m_should m_on m_warmth m_damp m_isOpen m_fFarm m_fFrom m_fWhat m_fTold m_rule m_draft m_tape m_five m_those) := hD_eq (wM_p_m_thrown) hD2
  refine lv_aload_n hx hb dX8_hang_5 rfl (lv_at hl 0 rfl) ?_
  refine lv_aload_n hx hb dX8_hang_6 rfl (lv_at hl 0 rfl) ?_
  refine lv_iload_n hx hb dX8_hang_7 rfl (lv_at hl 1 rfl) ?_
  refine va_calli (va_runV (As := [.int p0]) (rest := [.ref (ad 0)]) ⟨hx, hb, hml, hown, hts⟩ (c_M_X8_noLeg l dC dI ad cB cI cZ cL A 0 m_today m_legs m_feeds m_taped m_point m_end m_begin m_faultAt m_farm m_pig m_begun m_first m_weight m_salted m_heat m_isBad m_isSold m_sealedFeed m_hook m_should m_on m_warmth m_damp m_isOpen m_fFarm m_fFrom m_fWhat m_fTold m_rule m_draft m_tape m_five m_those p0 _ h) (cwV 1 hts gX8_hang_X8_noLeg rfl rfl rfl (by decide +kernel) ⟨(Nat.le_of_ble_eq_true rfl), (Nat.le_of_ble_eq_true rfl)⟩) ⟨kC_blind, va_recv hK hP (ci := 8) (q0 := 0) rfl wM_g0, fun U hU hW => ⟨rfl, kC_go hA hS hP hK hD hE U hU hW⟩⟩ rfl rfl hl.1 rfl (lv_room (Nat.le_of_ble_eq_true rfl)) dX8_hang_8 ⟨(Nat.le_of_ble_eq_true rfl), (Nat.le_of_ble_eq_true rfl)⟩) hS (fun q _ h => h) (fun q h => h) (fun r_1 u t H locs ht hvm hw hB hz1 hk1 hS => ?_)
  have h := hw
  try dsimp only at h
  have hP : va_P (dC, dI) vwCl (wM ad cB cI cZ cL 0 m_today m_legs m_feeds m_taped m_point m_end m_begin m_faultAt m_farm m_pig m_begun m_first m_weight m_salted m_heat m_isBad m_isSold m_sealedFeed m_hook m_should m_on m_warmth m_damp m_isOpen m_fFarm m_fFrom m_fWhat m_fTold m_rule m_draft m_tape m_five m_those) H := by rw [← ht]; exact hB.1
  have hD : va_D A (wM ad cB cI cZ cL 0 m_today m_legs m_feeds m_taped m_point m_end m_begin m_faultAt m_farm m_pig m_begun m_first m_weight m_salted m_heat m_isBad m_isSold m_sealedFeed m_hook m_should m_on m_warmth m_damp m_isOpen m_fFarm m_fFrom m_fWhat m_fTold m_rule m_draft m_tape m_five m_those) := hB.2.2
  refine lv_if_ne (tgt := 22) hx hb dX8_hang_11 (by decide) (fun c_2 => ?_) (fun c_2 => ?_)
  · have h := h.1 c_2
    exact hbk_M_X8_hang_22 0 m_hook m_on p0 p1 p2 _ _ _ hP hD hS (lv_sub hl [0, 1, 2, 3] rfl) h
  · have h := h.2 c_2
    refine lv_iload_n hx hb dX8_hang_14 rfl (lv_at hl 2 rfl) ?_
    refine lv_iload_n hx hb dX8_hang_15 rfl (lv_at hl 3 rfl) ?_
    refine va_calli (va_runS (As := [.int p1, .int p2]) (rest := [.ref (ad 0)]) ⟨hx, hb, hml, hown, hts⟩ (c_M_X8_noHook l dC dI ad cB cI cZ cL A 0 m_today m_legs m_feeds m_taped m_point m_end m_begin m_faultAt m_farm m_pig m_begun m_first m_weight m_salted m_heat m_isBad m_isSold m_sealedFeed m_hook m_should m_on m_warmth m_damp m_isOpen m_fFarm m_fFrom m_fWhat m_fTold m_rule m_draft m_tape m_five m_those p1 p2 _ h) (va_cwS 2 hts gX8_hang_X8_noHook rfl rfl rfl (by decide +kernel) ⟨(Nat.le_of_ble_eq_true rfl), (Nat.le_of_ble_eq_true rfl)⟩) ⟨kC_blind, fun U hU hW => ⟨rfl, kC_go hA hS hP hK hD hE U hU hW⟩⟩ rfl rfl hl.1 rfl (lv_room (Nat.le_of_ble_eq_true rfl)) dX8_hang_16 ⟨(Nat.le_of_ble_eq_true rfl), (Nat.le_of_ble_eq_true rfl)⟩) hS (fun q _ h => h) (fun q h => h) (fun r_13 u t H locs ht hvm hw hB hz1 hk1 hS => ?_)
    have h := hw
    try dsimp only at h
    have hP : va_P (dC, dI) vwCl (wM ad cB cI cZ cL 0 m_today m_legs m_feeds m_taped m_point m_end m_begin m_faultAt m_farm m_pig m_begun m_first m_weight m_salted m_heat m_isBad m_isSold m_sealedFeed m_hook m_should m_on m_warmth m_damp m_isOpen m_fFarm m_fFrom m_fWhat m_fTold m_rule m_draft m_tape m_five m_those) H := by rw [← ht]; exact hB.1
    have hD : va_D A (wM ad cB cI cZ cL 0 m_today m_legs m_feeds m_taped m_point m_end m_begin m_faultAt m_farm m_pig m_begun m_first m_weight m_salted m_heat m_isBad m_isSold m_sealedFeed m_hook m_should m_on m_warmth m_damp m_isOpen m_fFarm m_fFrom m_fWhat m_fTold m_rule m_draft m_tape m_five m_those) := hB.2.2
    refine lv_if_eq (tgt := 26) hx hb dX8_hang_19 (by decide) (fun c_14 => ?_) (fun c_14 => ?_)
    · have h := h.1 c_14
      refine lv_iconst (v := 0) hx hb dX8_hang_26 (by decide) ?_
      exact hbk_M_X8_hang_27 0 m_hook m_on p0 p1 p2 0 _ _ _ hP hD hS (lv_sub hl [0, 1, 2, 3] rfl) h
    · have h := h.2 c_14
      exact hbk_M_X8_hang_22 0 m_hook m_on p0 p1 p2 _ _ _ hP hD hS (lv_sub hl [0, 1, 2, 3] rfl) h
def wp_M_X8_take (m_legs : Int32) (Q : Int32 → Int32 → (Nat → Int32) → (Nat → Int32) → Prop) (m_thrown : Int32) (m_hook : Nat → Int32) (m_on : Nat → Int32) (p0 : Int32) : Prop := wp_M_X8_noLeg m_legs (fun r_1 => wp_M_X8_throwsIf (fun r_2 m_thrown_2 => ((¬ r_2 = 0 → (o01 0 ∧ Q 0 m_thrown_2 m_hook m_on)) ∧ (r_2 = 0 → (vp_in p0 60 ∧ ((0 ≤ (m_hook p0.toNatClampNeg) → wp_M_X8_leaves (fun m_hook_6 m_on_6 => (o01 1 ∧ Q 1 m_thrown_2 m_hook_6 m_on_6)) m_hook m_on p0) ∧ (¬ (0 ≤ (m_hook p0.toNatClampNeg)) → (o01 0 ∧ Q 0 m_thrown_2 m_hook m_on))))))) 0 r_1 1) p0
def rm_M_X8_take : Room := { frames := 2, cells := 0, slots := 0, locals := 43 }
abbrev pq_M_X8_take (dC : Nat → ClassId) (dI : Nat → Nat → Nat) (ad : Nat → Nat) (cB cI cZ cL : ClassId) (A : Nat → Prop) (m_thrown m_today m_legs m_feeds m_taped m_point m_end m_begin m_faultAt : Int32) (m_farm m_pig m_begun m_first m_weight m_salted m_heat m_isBad m_isSold m_sealedFeed m_hook m_should m_on m_warmth m_damp m_isOpen m_fFarm m_fFrom m_fWhat m_fTold m_rule m_draft m_tape m_five m_those : Nat → Int32) (Q : Int32 → Int32 → (Nat → Int32) → (Nat → Int32) → Prop) : Array Value → State → Outcome → State → Prop := va_Qi (fun (r : Int32) (u : Int32 × (Nat → Int32) × (Nat → Int32)) => Q r u.1 u.2.1 u.2.2) (fun u t => kB dC dI A (wM ad cB cI cZ cL u.1 m_today m_legs m_feeds m_taped m_point m_end m_begin m_faultAt m_farm m_pig m_begun m_first m_weight m_salted m_heat m_isBad m_isSold m_sealedFeed u.2.1 m_should u.2.2 m_warmth m_damp m_isOpen m_fFarm m_fFrom m_fWhat m_fTold m_rule m_draft m_tape m_five m_those) (kTy cB cI cZ cL) t) A
set_option maxHeartbeats 4000000 in
set_option maxRecDepth 100000 in
theorem c_M_X8_take (l : Launch) (dC : Nat → ClassId) (dI : Nat → Nat → Nat) (ad : Nat → Nat) (cB cI cZ cL : ClassId) (A : Nat → Prop) (m_thrown m_today m_legs m_feeds m_taped m_point m_end m_begin m_faultAt : Int32) (m_farm m_pig m_begun m_first m_weight m_salted m_heat m_isBad m_isSold m_sealedFeed m_hook m_should m_on m_warmth m_damp m_isOpen m_fFarm m_fFrom m_fWhat m_fTold m_rule m_draft m_tape m_five m_those : Nat → Int32) (p0 : Int32)  (Q : Int32 → Int32 → (Nat → Int32) → (Nat → Int32) → Prop) (h : wp_M_X8_take m_legs Q m_thrown m_hook m_on p0) : Met l yX8_take wsX8_take rm_M_X8_take (va_Pc [.ref (ad 0), .int p0] (kC dC dI ad A (wM ad cB cI cZ cL m_thrown m_today m_legs m_feeds m_taped m_point m_end m_begin m_faultAt m_farm m_pig m_begun m_first m_weight m_salted m_heat m_isBad m_isSold m_sealedFeed m_hook m_should m_on m_warmth m_damp m_isOpen m_fFarm m_fFrom m_fWhat m_fTold m_rule m_draft m_tape m_five m_those) (kTy cB cI cZ cL))) (pq_M_X8_take dC dI ad cB cI cZ cL A m_thrown m_today m_legs m_feeds m_taped m_point m_end m_begin m_faultAt m_farm m_pig m_begun m_first m_weight m_salted m_heat m_isBad m_isSold m_sealedFeed m_hook m_should m_on m_warmth m_damp m_isOpen m_fFarm m_fFrom m_fWhat m_fTold m_rule m_draft m_tape m_five m_those Q) 0 0 A := by
  refine Met.ofW (cc := cX8_take) (maxL := 2) (ret := (some .boolean)) (by decide) rfl ?_
  intro p e s m args below meth c s₁ B hml hv
  obtain ⟨rfl, hA, hP, hK, hD, hE⟩ := hv
  have hx := B.exec
  have hb := B.bytes
  have hr := B.returns
  have hts := atoms_spec (ws := wsX8_take) B.pre
  have hown : s.vm.findClass RX8 = some m.cls := findClass_of_methodNamed B.named
  have hlocks := B.notSynchronized
  have hS : va_S A s.heap s.heap [] := va_S.rf
  have hk_0 := hts (.fieldLink RX8 1 "HamCellarModel" "thrown" "I") (by decide +kernel)
  have hk_1 : ∀ w ∈ wsX80, w ∈ wsX8_take := by decide +kernel
  have hk_2 := hts (.fieldLink RX8 45 "HamCellarModel" "hook" "[I") (by decide +kernel)
  have hl := lv_entry ([.ref (ad 0), .int p0]) (n := 2) (Nat.le_of_ble_eq_true rfl)
  rw [lg_entry_eq]
  generalize (lg_sl ([.ref (ad 0), .int p0]) ++ List.replicate (2 - (lg_sl ([.ref (ad 0), .int p0])).length) Slot.unset).toArray = ls at hl ⊢
  have hl : lv_has ls 2 [(0, .ref (ad 0)), (1, .int p0)] := hl
  unfold wp_M_X8_take at h
  refine lv_aload_n hx hb dX8_take_0 rfl (lv_at hl 0 rfl) ?_
  refine lv_iconst (v := 0) hx hb dX8_take_1 (by decide) ?_
  refine va_put (D := (dC, dI)) (ci := 8) (v := .int 0) (ty := .int) (C := RX8) (T := TX8) (N := 34) hx hb hts hk_1 tyX8 tyX8_ok nmX8 hown hK hP hD hS 0 wM_g0 rfl 0 (by decide) hk_0 (fun _ h9 => h9) rfl (by decide +kernel) rfl rfl (Nat.le_of_ble_eq_true rfl) dX8_take_2 (fun H locs hP2 hD2 hS => ?_)
  have hP : va_P (dC, dI) vwCl (wM ad cB cI cZ cL 0 m_today m_legs m_feeds m_taped m_point m_end m_begin m_faultAt m_farm m_pig m_begun m_first m_weight m_salted m_heat m_isBad m_isSold m_sealedFeed m_hook m_should m_on m_warmth m_damp m_isOpen m_fFarm m_fFrom m_fWhat m_fTold m_rule m_draft m_tape m_five m_those) H := hP_eq (wM_p_m_thrown) hP2
  have hD : va_D A (wM ad cB cI cZ cL 0 m_today m_legs m_feeds m_taped m_point m_end m_begin m_faultAt m_farm m_pig m_begun m_first m_weight m_salted m_heat m_isBad m_isSold m_sealedFeed m_hook m_should m_on m_warmth m_damp m_isOpen m_fFarm m_fFrom m_fWhat m_fTold m_rule m_draft m_tape m_five m_those) := hD_eq (wM_p_m_thrown) hD2
  refine lv_aload_n hx hb dX8_take_5 rfl (lv_at hl 0 rfl) ?_
  refine lv_aload_n hx hb dX8_take_6 rfl (lv_at hl 0 rfl) ?_
  refine lv_iload_n hx hb dX8_take_7 rfl (lv_at hl 1 rfl) ?_
  refine va_calli (va_runV (As := [.int p0]) (rest := [.ref (ad 0)]) ⟨hx, hb, hml, hown, hts⟩ (c_M_X8_noLeg l dC dI ad cB cI cZ cL A 0 m_today m_legs m_feeds m_taped m_point m_end m_begin m_faultAt m_farm m_pig m_begun m_first m_weight m_salted m_heat m_isBad m_isSold m_sealedFeed m_hook m_should m_on m_warmth m_damp m_isOpen m_fFarm m_fFrom m_fWhat m_fTold m_rule m_draft m_tape m_five m_those p0 _ h) (cwV 1 hts gX8_take_X8_noLeg rfl rfl rfl (by decide +kernel) ⟨(Nat.le_of_ble_eq_true rfl), (Nat.le_of_ble_eq_true rfl)⟩) ⟨kC_blind, va_recv hK hP (ci := 8) (q0 := 0) rfl wM_g0, fun U hU hW => ⟨rfl, kC_go hA hS hP hK hD hE U hU hW⟩⟩ rfl rfl hl.1 rfl (lv_room (Nat.le_of_ble_eq_true rfl)) dX8_take_8 ⟨(Nat.le_of_ble_eq_true rfl), (Nat.le_of_ble_eq_true rfl)⟩) hS (fun q _ h => h) (fun q h => h) (fun r_1 u t H locs ht hvm hw hB hz1 hk1 hS => ?_)
  have h := hw
  try dsimp only at h
  have hP : va_P (dC, dI) vwCl (wM ad cB cI cZ cL 0 m_today m_legs m_feeds m_taped m_point m_end m_begin m_faultAt m_farm m_pig m_begun m_first m_weight m_salted m_heat m_isBad m_isSold m_sealedFeed m_hook m_should m_on m_warmth m_damp m_isOpen m_fFarm m_fFrom m_fWhat m_fTold m_rule m_draft m_tape m_five m_those) H := by rw [← ht]; exact hB.1
  have hD : va_D A (wM ad cB cI cZ cL 0 m_today m_legs m_feeds m_taped m_point m_end m_begin m_faultAt m_farm m_pig m_begun m_first m_weight m_salted m_heat m_isBad m_isSold m_sealedFeed m_hook m_should m_on m_warmth m_damp m_isOpen m_fFarm m_fFrom m_fWhat m_fTold m_rule m_draft m_tape m_five m_those) := hB.2.2
  refine lv_iconst (v := 1) hx hb dX8_take_11 (by decide) ?_
  refine va_calli (va_runV (As := [.int r_1, .int 1]) (rest := []) ⟨hx, hb, hml, hown, hts⟩ (c_M_X8_throwsIf l dC dI ad cB cI cZ cL A 0 m_today m_legs m_feeds m_taped m_point m_end m_begin m_faultAt m_farm m_pig m_begun m_first m_weight m_salted m_heat m_isBad m_isSold m_sealedFeed m_hook m_should m_on m_warmth m_damp m_isOpen m_fFarm m_fFrom m_fWhat m_fTold m_rule m_draft m_tape m_five m_those r_1 1 _ h) (cwV 2 hts gX8_take_X8_throwsIf rfl rfl rfl (by decide +kernel) ⟨(Nat.le_of_ble_eq_true rfl), (Nat.le_of_ble_eq_true rfl)⟩) ⟨kC_blind, va_recv hK hP (ci := 8) (q0 := 0) rfl wM_g0, fun U hU hW => ⟨rfl, kC_go hA hS hP hK hD hE U hU hW⟩⟩ rfl rfl hl.1 rfl (lv_room (Nat.le_of_ble_eq_true rfl)) dX8_take_12 ⟨(Nat.le_of_ble_eq_true rfl), (Nat.le_of_ble_eq_true rfl)⟩) hS (fun q _ h => h) (fun q h => h) (fun r_2 u t H locs ht hvm hw hB hz1 hk1 hS => ?_)
  obtain ⟨m_thrown_2, rfl⟩ : ∃ z, z = u := ⟨_, rfl⟩
  have h := hw
  try dsimp only at h
  have hP : va_P (dC, dI) vwCl (wM ad cB cI cZ cL m_thrown_2 m_today m_legs m_feeds m_taped m_point m_end m_begin m_faultAt m_farm m_pig m_begun m_first m_weight m_salted m_heat m_isBad m_isSold m_sealedFeed m_hook m_should m_on m_warmth m_damp m_isOpen m_fFarm m_fFrom m_fWhat m_fTold m_rule m_draft m_tape m_five m_those) H := by rw [← ht]; exact hB.1
  have hD : va_D A (wM ad cB cI cZ cL m_thrown_2 m_today m_legs m_feeds m_taped m_point m_end m_begin m_faultAt m_farm m_pig m_begun m_first m_weight m_salted m_heat m_isBad m_isSold m_sealedFeed m_hook m_should m_on m_warmth m_damp m_isOpen m_fFarm m_fFrom m_fWhat m_fTold m_rule m_draft m_tape m_five m_those) := hB.2.2
  refine lv_if_ne (tgt := 27) hx hb dX8_take_15 (by decide) (fun c_3 => ?_) (fun c_3 => ?_)
  · have h := h.1 c_3
    refine lv_iconst (v := 0) hx hb dX8_take_27 (by decide) ?_
    exact W.zret (v := 0) (ty := .boolean) hx hb hr (z01 h.1) (fun t ht hW => ⟨⟨0, (m_thrown_2, m_hook, m_on), rfl, h.2, kB_mk hP hK hD ht hW.alike⟩, hS.F ht⟩) hS.2.2 dX8_take_28
  · have h := h.2 c_3
    refine lv_aload_n hx hb dX8_take_18 rfl (lv_at hl 0 rfl) ?_
    refine va_get (D := (dC, dI)) (ci := 8) (v := .ref (ad 11)) (C := RX8) (T := TX8) (N := 34) hx hb hts hk_1 hown hK hP 0 wM_g0 rfl 12 (by decide) hk_2 (fun _ h9 => h9) rfl dX8_take_19 ?_
    refine lv_iload_n hx hb dX8_take_22 rfl (lv_at hl 1 rfl) ?_
    have hi_4 := h.1
    have h := h.2
    refine va_iald hx hb hK hP 11 1 wM_g11 rfl hi_4 dX8_take_23 ?_
    refine lv_if_ge (tgt := 29) hx hb dX8_take_24 (by decide) (fun c_5 => ?_) (fun c_5 => ?_)
    · have h := h.1 c_5
      refine lv_aload_n hx hb dX8_take_29 rfl (lv_at hl 0 rfl) ?_
      refine lv_iload_n hx hb dX8_take_30 rfl (lv_at hl 1 rfl) ?_
      refine va_callv (va_runV (As := [.int p0]) (rest := []) ⟨hx, hb, hml, hown, hts⟩ (c_M_X8_leaves l dC dI ad cB cI cZ cL A m_thrown_2 m_today m_legs m_feeds m_taped m_point m_end m_begin m_faultAt m_farm m_pig m_begun m_first m_weight m_salted m_heat m_isBad m_isSold m_sealedFeed m_hook m_should m_on m_warmth m_damp m_isOpen m_fFarm m_fFrom m_fWhat m_fTold m_rule m_draft m_tape m_five m_those p0 _ h) (cwV 1 hts gX8_take_X8_leaves rfl rfl rfl (by decide +kernel) ⟨(Nat.le_of_ble_eq_true rfl), (Nat.le_of_ble_eq_true rfl)⟩) ⟨kC_blind, va_recv hK hP (ci := 8) (q0 := 0) rfl wM_g0, fun U hU hW => ⟨rfl, kC_go hA hS hP hK hD hE U hU hW⟩⟩ rfl rfl hl.1 rfl (lv_room (Nat.le_of_ble_eq_true rfl)) dX8_take_31 ⟨(Nat.le_of_ble_eq_true rfl), (Nat.le_of_ble_eq_true rfl)⟩) hS (fun q _ h => h) (fun q h => h) (fun u t H locs ht hvm hw hB hz1 hk1 hS => ?_)
      obtain ⟨m_hook_6, m_on_6⟩ := u
      have h := hw
      try dsimp only at h
      have hP : va_P (dC, dI) vwCl (wM ad cB cI cZ cL m_thrown_2 m_today m_legs m_feeds m_taped m_point m_end m_begin m_faultAt m_farm m_pig m_begun m_first m_weight m_salted m_heat m_isBad m_isSold m_sealedFeed m_hook_6 m_should m_on_6 m_warmth m_damp m_isOpen m_fFarm m_fFrom m_fWhat m_fTold m_rule m_draft m_tape m_five m_those) H := by rw [← ht]; exact hB.1
      have hD : va_D A (wM ad cB cI cZ cL m_thrown_2 m_today m_legs m_feeds m_taped m_point m_end m_begin m_faultAt m_farm m_pig m_begun m_first m_weight m_salted m_heat m_isBad m_isSold m_sealedFeed m_hook_6 m_should m_on_6 m_warmth m_damp m_isOpen m_fFarm m_fFrom m_fWhat m_fTold m_rule m_draft m_tape m_five m_those) := hB.2.2
      refine lv_iconst (v := 1) hx hb dX8_take_34 (by decide) ?_
      exact W.zret (v := 1) (ty := .boolean) hx hb hr (z01 h.1) (fun t ht hW => ⟨⟨1, (m_thrown_2, m_hook_6, m_on_6), rfl, h.2, kB_mk hP hK hD ht hW.alike⟩, hS.F ht⟩) hS.2.2 dX8_take_35
    · have h := h.2 c_5
      refine lv_iconst (v := 0) hx hb dX8_take_27 (by decide) ?_
      exact W.zret (v := 0) (ty := .boolean) hx hb hr (z01 h.1) (fun t ht hW => ⟨⟨0, (m_thrown_2, m_hook, m_on), rfl, h.2, kB_mk hP hK hD ht hW.alike⟩, hS.F ht⟩) hS.2.2 dX8_take_28
def bk_M_X8_air_54   (Q : Int32 → (Nat → Int32) → (Nat → Int32) → Prop) (m_thrown : Int32) (m_warmth : Nat → Int32) (m_damp : Nat → Int32) (v1 : Int32) (v2 : Int32) (v3 : Int32) (k0 : Int32) : Prop := wp_M_X8_throwsIf (fun r_7 m_thrown_7 => ((r_7 = 0 → (vp_in v1 6 ∧ (vp_in v1 6 ∧ Q m_thrown_7 (upd m_warmth v1.toNatClampNeg v2) (upd m_damp v1.toNatClampNeg v3)))) ∧ (¬ (r_7 = 0) → Q m_thrown_7 m_warmth m_damp))) m_thrown k0 2
def bk_M_X8_air_49   (Q : Int32 → (Nat → Int32) → (Nat → Int32) → Prop) (m_thrown : Int32) (m_warmth : Nat → Int32) (m_damp : Nat → Int32) (v1 : Int32) (v2 : Int32) (v3 : Int32) : Prop := bk_M_X8_air_54 Q m_thrown m_warmth m_damp v1 v2 v3 1
def bk_M_X8_air_20   (Q : Int32 → (Nat → Int32) → (Nat → Int32) → Prop) (m_thrown : Int32) (m_warmth : Nat → Int32) (m_damp : Nat → Int32) (v1 : Int32) (v2 : Int32) (v3 : Int32) (k0 : Int32) : Prop := wp_M_X8_throwsIf (fun r_3 m_thrown_3 => ((¬ r_3 = 0 → Q m_thrown_3 m_warmth m_damp) ∧ (r_3 = 0 → wp_M_X8_in (fun r_5 => ((r_5 = 0 → bk_M_X8_air_49 Q m_thrown_3 m_warmth m_damp v1 v2 v3) ∧ (¬ (r_5 = 0) → wp_M_X8_in (fun r_11 => ((¬ r_11 = 0 → bk_M_X8_air_54 Q m_thrown_3 m_warmth m_damp v1 v2 v3 0) ∧ (r_11 = 0 → bk_M_X8_air_49 Q m_thrown_3 m_warmth m_damp v1 v2 v3))) v3 0 100))) v2 (-5) 40))) m_thrown k0 1
def wp_M_X8_air (Q : Int32 → (Nat → Int32) → (Nat → Int32) → Prop) (m_thrown : Int32) (m_warmth : Nat → Int32) (m_damp : Nat → Int32) (p0 : Int32) (p1 : Int32) (p2 : Int32) : Prop := wp_M_X8_in (fun r_1 => ((¬ r_1 = 0 → bk_M_X8_air_20 Q 0 m_warmth m_damp p0 p1 p2 0) ∧ (r_1 = 0 → bk_M_X8_air_20 Q 0 m_warmth m_damp p0 p1 p2 1))) p0 0 5
def rm_M_X8_air : Room := { frames := 1, cells := 0, slots := 0, locals := 22 }
abbrev pq_M_X8_air (dC : Nat → ClassId) (dI : Nat → Nat → Nat) (ad : Nat → Nat) (cB cI cZ cL : ClassId) (A : Nat → Prop) (m_thrown m_today m_legs m_feeds m_taped m_point m_end m_begin m_faultAt : Int32) (m_farm m_pig m_begun m_first m_weight m_salted m_heat m_isBad m_isSold m_sealedFeed m_hook m_should m_on m_warmth m_damp m_isOpen m_fFarm m_fFrom m_fWhat m_fTold m_rule m_draft m_tape m_five m_those : Nat → Int32) (Q : Int32 → (Nat → Int32) → (Nat → Int32) → Prop) : Array Value → State → Outcome → State → Prop := va_Qv (fun u : Int32 × (Nat → Int32) × (Nat → Int32) => Q u.1 u.2.1 u.2.2) (fun u t => kB dC dI A (wM ad cB cI cZ cL u.1 m_today m_legs m_feeds m_taped m_point m_end m_begin m_faultAt m_farm m_pig m_begun m_first m_weight m_salted m_heat m_isBad m_isSold m_sealedFeed m_hook m_should m_on u.2.1 u.2.2 m_isOpen m_fFarm m_fFrom m_fWhat m_fTold m_rule m_draft m_tape m_five m_those) (kTy cB cI cZ cL) t) A
set_option maxHeartbeats 4000000 in
set_option maxRecDepth 100000 in
theorem c_M_X8_air (l : Launch) (dC : Nat → ClassId) (dI : Nat → Nat → Nat) (ad : Nat → Nat) (cB cI cZ cL : ClassId) (A : Nat → Prop) (m_thrown m_today m_legs m_feeds m_taped m_point m_end m_begin m_faultAt : Int32) (m_farm m_pig m_begun m_first m_weight m_salted m_heat m_isBad m_isSold m_sealedFeed m_hook m_should m_on m_warmth m_damp m_isOpen m_fFarm m_fFrom m_fWhat m_fTold m_rule m_draft m_tape m_five m_those : Nat → Int32) (p0 : Int32) (p1 : Int32) (p2 : Int32)  (Q : Int32 → (Nat → Int32) → (Nat → Int32) → Prop) (h : wp_M_X8_air Q m_thrown m_warmth m_damp p0 p1 p2) : Met l yX8_air wsX8_air rm_M_X8_air (va_Pc [.ref (ad 0), .int p0, .int p1, .int p2] (kC dC dI ad A (wM ad cB cI cZ cL m_thrown m_today m_legs m_feeds m_taped m_point m_end m_begin m_faultAt m_farm m_pig m_begun m_first m_weight m_salted m_heat m_isBad m_isSold m_sealedFeed m_hook m_should m_on m_warmth m_damp m_isOpen m_fFarm m_fFrom m_fWhat m_fTold m_rule m_draft m_tape m_five m_those) (kTy cB cI cZ cL))) (pq_M_X8_air dC dI ad cB cI cZ cL A m_thrown m_today m_legs m_feeds m_taped m_point m_end m_begin m_faultAt m_farm m_pig m_begun m_first m_weight m_salted m_heat m_isBad m_isSold m_sealedFeed m_hook m_should m_on m_warmth m_damp m_isOpen m_fFarm m_fFrom m_fWhat m_fTold m_rule m_draft m_tape m_five m_those Q) 0 0 A := by
  refine Met.ofW (cc := cX8_air) (maxL := 4) (ret := none) (by decide) rfl ?_
  intro p e s m args below meth c s₁ B hml hv
  obtain ⟨rfl, hA, hP, hK, hD, hE⟩ := hv
  have hx := B.exec
  have hb := B.bytes
  have hr := B.returns
  have hts := atoms_spec (ws := wsX8_air) B.pre
  have hown : s.vm.findClass RX8 = some m.cls := findClass_of_methodNamed B.named
  have hlocks := B.notSynchronized
  have hS : va_S A s.heap s.heap [] := va_S.rf
  have hk_0 := hts (.fieldLink RX8 1 "HamCellarModel" "thrown" "I") (by decide +kernel)
  have hk_1 : ∀ w ∈ wsX80, w ∈ wsX8_air := by decide +kernel
  have hk_2 := hts (.fieldLink RX8 54 "HamCellarModel" "warmth" "[I") (by decide +kernel)
  have hk_3 := hts (.fieldLink RX8 57 "HamCellarModel" "damp" "[I") (by decide +kernel)
  have hbk_M_X8_air_54 : ∀ (m_thrown : Int32) (m_warmth : Nat → Int32) (m_damp : Nat → Int32) (v1 : Int32) (v2 : Int32) (v3 : Int32) (k0 : Int32) (H : Heap) (locs : List Loc) (ls : Array Slot), va_P (dC, dI) vwCl (wM ad cB cI cZ cL m_thrown m_today m_legs m_feeds m_taped m_point m_end m_begin m_faultAt m_farm m_pig m_begun m_first m_weight m_salted m_heat m_isBad m_isSold m_sealedFeed m_hook m_should m_on m_warmth m_damp m_isOpen m_fFarm m_fFrom m_fWhat m_fTold m_rule m_draft m_tape m_five m_those) H → va_D A (wM ad cB cI cZ cL m_thrown m_today m_legs m_feeds m_taped m_point m_end m_begin m_faultAt m_farm m_pig m_begun m_first m_weight m_salted m_heat m_isBad m_isSold m_sealedFeed m_hook m_should m_on m_warmth m_damp m_isOpen m_fFarm m_fFrom m_fWhat m_fTold m_rule m_draft m_tape m_five m_those) → va_S A s.heap H locs → lv_has ls 4 [(0, .ref (ad 0)), (1, .int v1), (2, .int v2), (3, .int v3)] → bk_M_X8_air_54 Q m_thrown m_warmth m_damp v1 v2 v3 k0 → W p l e (headSpec wsX8_air rm_M_X8_air).room s m ([.ref (ad 0), .int p0, .int p1, .int p2] : List Value).toArray below meth c H locs 0 0 (MQ below (pq_M_X8_air dC dI ad cB cI cZ cL A m_thrown m_today m_legs m_feeds m_taped m_point m_end m_begin m_faultAt m_farm m_pig m_begun m_first m_weight m_salted m_heat m_isBad m_isSold m_sealedFeed m_hook m_should m_on m_warmth m_damp m_isOpen m_fFarm m_fFrom m_fWhat m_fTold m_rule m_draft m_tape m_five m_those Q) ([.ref (ad 0), .int p0, .int p1, .int p2] : List Value).toArray s 0 0 A) (F0 m 54 ls [.int k0, .ref (ad 0)]) := by
    intro m_thrown m_warmth m_damp v1 v2 v3 k0 H locs ls hP hD hS hl h
    have h : wp_M_X8_throwsIf (fun r_7 m_thrown_7 => ((r_7 = 0 → (vp_in v1 6 ∧ (vp_in v1 6 ∧ Q m_thrown_7 (upd m_warmth v1.toNatClampNeg v2) (upd m_damp v1.toNatClampNeg v3)))) ∧ (¬ (r_7 = 0) → Q m_thrown_7 m_warmth m_damp))) m_thrown k0 2 := h
    refine lv_iconst (v := 2) hx hb dX8_air_54 (by decide) ?_
    refine va_calli (va_runV (As := [.int k0, .int 2]) (rest := []) ⟨hx, hb, hml, hown, hts⟩ (c_M_X8_throwsIf l dC dI ad cB cI cZ cL A m_thrown m_today m_legs m_feeds m_taped m_point m_end m_begin m_faultAt m_farm m_pig m_begun m_first m_weight m_salted m_heat m_isBad m_isSold m_sealedFeed m_hook m_should m_on m_warmth m_damp m_isOpen m_fFarm m_fFrom m_fWhat m_fTold m_rule m_draft m_tape m_five m_those k0 2 _ h) (cwV 2 hts gX8_air_X8_throwsIf rfl rfl rfl (by decide +kernel) ⟨(Nat.le_of_ble_eq_true rfl), (Nat.le_of_ble_eq_true rfl)⟩) ⟨kC_blind, va_recv hK hP (ci := 8) (q0 := 0) rfl wM_g0, fun U hU hW => ⟨rfl, kC_go hA hS hP hK hD hE U hU hW⟩⟩ rfl rfl hl.1 rfl (lv_room (Nat.le_of_ble_eq_true rfl)) dX8_air_55 ⟨(Nat.le_of_ble_eq_true rfl), (Nat.le_of_ble_eq_true rfl)⟩) hS (fun q _ h => h) (fun q h => h) (fun r_7 u t H locs ht hvm hw hB hz1 hk1 hS => ?_)
    obtain ⟨m_thrown_7, rfl⟩ : ∃ z, z = u := ⟨_, rfl⟩
    have h := hw
    try dsimp only at h
    have hP : va_P (dC, dI) vwCl (wM ad cB cI cZ cL m_thrown_7 m_today m_legs m_feeds m_taped m_point m_end m_begin m_faultAt m_farm m_pig m_begun m_first m_weight m_salted m_heat m_isBad m_isSold m_sealedFeed m_hook m_should m_on m_warmth m_damp m_isOpen m_fFarm m_fFrom m_fWhat m_fTold m_rule m_draft m_tape m_five m_those) H := by rw [← ht]; exact hB.1
    have hD : va_D A (wM ad cB cI cZ cL m_thrown_7 m_today m_legs m_feeds m_taped m_point m_end m_begin m_faultAt m_farm m_pig m_begun m_first m_weight m_salted m_heat m_isBad m_isSold m_sealedFeed m_hook m_should m_on m_warmth m_damp m_isOpen m_fFarm m_fFrom m_fWhat m_fTold m_rule m_draft m_tape m_five m_those) := hB.2.2
    refine lv_if_eq (tgt := 62) hx hb dX8_air_58 (by decide) (fun c_8 => ?_) (fun c_8 => ?_)
    · have h := h.1 c_8
      refine lv_aload_n hx hb dX8_air_62 rfl (lv_at hl 0 rfl) ?_
      refine va_get (D := (dC, dI)) (ci := 8) (v := .ref (ad 14)) (C := RX8) (T := TX8) (N := 34) hx hb hts hk_1 hown hK hP 0 wM_g0 rfl 16 (by decide) hk_2 (fun _ h9 => h9) rfl dX8_air_63 ?_
      refine lv_iload_n hx hb dX8_air_66 rfl (lv_at hl 1 rfl) ?_
      refine lv_iload_n hx hb dX8_air_67 rfl (lv_at hl 2 rfl) ?_
      have hi_9 := h.1
      have h := h.2
      refine va_iast hx hb hK hP hD hS 14 1 wM_g14 rfl hi_9 dX8_air_68 (fun H locs hP2 hD2 hS => ?_)
      have hP : va_P (dC, dI) vwCl (wM ad cB cI cZ cL m_thrown_7 m_today m_legs m_feeds m_taped m_point m_end m_begin m_faultAt m_farm m_pig m_begun m_first m_weight m_salted m_heat m_isBad m_isSold m_sealedFeed m_hook m_should m_on (upd m_warmth v1.toNatClampNeg v2) m_damp m_isOpen m_fFarm m_fFrom m_fWhat m_fTold m_rule m_draft m_tape m_five m_those) H := hP_eq (wM_p_m_warmth) hP2
      have hD : va_D A (wM ad cB cI cZ cL m_thrown_7 m_today m_legs m_feeds m_taped m_point m_end m_begin m_faultAt m_farm m_pig m_begun m_first m_weight m_salted m_heat m_isBad m_isSold m_sealedFeed m_hook m_should m_on (upd m_warmth v1.toNatClampNeg v2) m_damp m_isOpen m_fFarm m_fFrom m_fWhat m_fTold m_rule m_draft m_tape m_five m_those) := hD_eq (wM_p_m_warmth) hD2
      refine lv_aload_n hx hb dX8_air_69 rfl (lv_at hl 0 rfl) ?_
      refine va_get (D := (dC, dI)) (ci := 8) (v := .ref (ad 15)) (C := RX8) (T := TX8) (N := 34) hx hb hts hk_1 hown hK hP 0 wM_g0 rfl 17 (by decide) hk_3 (fun _ h9 => h9) rfl dX8_air_70 ?_
      refine lv_iload_n hx hb dX8_air_73 rfl (lv_at hl 1 rfl) ?_
      refine lv_iload_n hx hb dX8_air_74 rfl (lv_at hl 3 rfl) ?_
      have hi_10 := h.1
      have h := h.2
      refine va_iast hx hb hK hP hD hS 15 1 wM_g15 rfl hi_10 dX8_air_75 (fun H locs hP2 hD2 hS => ?_)
      have hP : va_P (dC, dI) vwCl (wM ad cB cI cZ cL m_thrown_7 m_today m_legs m_feeds m_taped m_point m_end m_begin m_faultAt m_farm m_pig m_begun m_first m_weight m_salted m_heat m_isBad m_isSold m_sealedFeed m_hook m_should m_on (upd m_warmth v1.toNatClampNeg v2) (upd m_damp v1.toNatClampNeg v3) m_isOpen m_fFarm m_fFrom m_fWhat m_fTold m_rule m_draft m_tape m_five m_those) H := hP_eq (wM_p_m_damp) hP2
      have hD : va_D A (wM ad cB cI cZ cL m_thrown_7 m_today m_legs m_feeds m_taped m_point m_end m_begin m_faultAt m_farm m_pig m_begun m_first m_weight m_salted m_heat m_isBad m_isSold m_sealedFeed m_hook m_should m_on (upd m_warmth v1.toNatClampNeg v2) (upd m_damp v1.toNatClampNeg v3) m_isOpen m_fFarm m_fFrom m_fWhat m_fTold m_rule m_draft m_tape m_five m_those) := hD_eq (wM_p_m_damp) hD2
      exact W.vret hx hb hr (fun t ht hW => ⟨⟨(m_thrown_7, upd m_warmth v1.toNatClampNeg v2, upd m_damp v1.toNatClampNeg v3), rfl, h, kB_mk hP hK hD ht hW.alike⟩, hS.F ht⟩) hS.2.2 dX8_air_76
    · have h := h.2 c_8
      exact W.vret hx hb hr (fun t ht hW => ⟨⟨(m_thrown_7, m_warmth, m_damp), rfl, h, kB_mk hP hK hD ht hW.alike⟩, hS.F ht⟩) hS.2.2 dX8_air_61
  have hbk_M_X8_air_49 : ∀ (m_thrown : Int32) (m_warmth : Nat → Int32) (m_damp : Nat → Int32) (v1 : Int32) (v2 : Int32) (v3 : Int32) (H : Heap) (locs : List Loc) (ls : Array Slot), va_P (dC, dI) vwCl (wM ad cB cI cZ cL m_thrown m_today m_legs m_feeds m_taped m_point m_end m_begin m_faultAt m_farm m_pig m_begun m_first m_weight m_salted m_heat m_isBad m_isSold m_sealedFeed m_hook m_should m_on m_warmth m_damp m_isOpen m_fFarm m_fFrom m_fWhat m_fTold m_rule m_draft m_tape m_five m_those) H → va_D A (wM ad cB cI cZ cL m_thrown m_today m_legs m_feeds m_taped m_point m_end m_begin m_faultAt m_farm m_pig m_begun m_first m_weight m_salted m_heat m_isBad m_isSold m_sealedFeed m_hook m_should m_on m_warmth m_damp m_isOpen m_fFarm m_fFrom m_fWhat m_fTold m_rule m_draft m_tape m_five m_those) → va_S A s.heap H locs → lv_has ls 4 [(0, .ref (ad 0)), (1, .int v1), (2, .int v2), (3, .int v3)] → bk_M_X8_air_49 Q m_thrown m_warmth m_damp v1 v2 v3 → W p l e (headSpec wsX8_air rm_M_X8_air).room s m ([.ref (ad 0), .int p0, .int p1, .int p2] : List Value).toArray below meth c H locs 0 0 (MQ below (pq_M_X8_air dC dI ad cB cI cZ cL A m_thrown m_today m_legs m_feeds m_taped m_point m_end m_begin m_faultAt m_farm m_pig m_begun m_first m_weight m_salted m_heat m_isBad m_isSold m_sealedFeed m_hook m_should m_on m_warmth m_damp m_isOpen m_fFarm m_fFrom m_fWhat m_fTold m_rule m_draft m_tape m_five m_those Q) ([.ref (ad 0), .int p0, .int p1, .int p2] : List Value).toArray s 0 0 A) (F0 m 49 ls [.ref (ad 0)]) := by
    intro m_thrown m_warmth m_damp v1 v2 v3 H locs ls hP hD hS hl h
    refine lv_iconst (v := 1) hx hb dX8_air_49 (by decide) ?_
    refine lv_goto (tgt := 54) hx hb dX8_air_50 (by decide) ?_
    exact hbk_M_X8_air_54 m_thrown m_warmth m_damp v1 v2 v3 1 _ _ _ hP hD hS (lv_sub hl [0, 1, 2, 3] rfl) h
  have hbk_M_X8_air_20 : ∀ (m_thrown : Int32) (m_warmth : Nat → Int32) (m_damp : Nat → Int32) (v1 : Int32) (v2 : Int32) (v3 : Int32) (k0 : Int32) (H : Heap) (locs : List Loc) (ls : Array Slot), va_P (dC, dI) vwCl (wM ad cB cI cZ cL m_thrown m_today m_legs m_feeds m_taped m_point m_end m_begin m_faultAt m_farm m_pig m_begun m_first m_weight m_salted m_heat m_isBad m_isSold m_sealedFeed m_hook m_should m_on m_warmth m_damp m_isOpen m_fFarm m_fFrom m_fWhat m_fTold m_rule m_draft m_tape m_five m_those) H → va_D A (wM ad cB cI cZ cL m_thrown m_today m_legs m_feeds m_taped m_point m_end m_begin m_faultAt m_farm m_pig m_begun m_first m_weight m_salted m_heat m_isBad m_isSold m_sealedFeed m_hook m_should m_on m_warmth m_damp m_isOpen m_fFarm m_fFrom m_fWhat m_fTold m_rule m_draft m_tape m_five m_those) → va_S A s.heap H locs → lv_has ls 4 [(0, .ref (ad 0)), (1, .int v1), (2, .int v2), (3, .int v3)] → bk_M_X8_air_20 Q m_thrown m_warmth m_damp v1 v2 v3 k0 → W p l e (headSpec wsX8_air rm_M_X8_air).room s m ([.ref (ad 0), .int p0, .int p1, .int p2] : List Value).toArray below meth c H locs 0 0 (MQ below (pq_M_X8_air dC dI ad cB cI cZ cL A m_thrown m_today m_legs m_feeds m_taped m_point m_end m_begin m_faultAt m_farm m_pig m_begun m_first m_weight m_salted m_heat m_isBad m_isSold m_sealedFeed m_hook m_should m_on m_warmth m_damp m_isOpen m_fFarm m_fFrom m_fWhat m_fTold m_rule m_draft m_tape m_five m_those Q) ([.ref (ad 0), .int p0, .int p1, .int p2] : List Value).toArray s 0 0 A) (F0 m 20 ls [.int k0, .ref (ad 0)]) := by
    intro m_thrown m_warmth m_damp v1 v2 v3 k0 H locs ls hP hD hS hl h
    have h : wp_M_X8_throwsIf (fun r_3 m_thrown_3 => ((¬ r_3 = 0 → Q m_thrown_3 m_warmth m_damp) ∧ (r_3 = 0 → wp_M_X8_in (fun r_5 => ((r_5 = 0 → bk_M_X8_air_49 Q m_thrown_3 m_warmth m_damp v1 v2 v3) ∧ (¬ (r_5 = 0) → wp_M_X8_in (fun r_11 => ((¬ r_11 = 0 → bk_M_X8_air_54 Q m_thrown_3 m_warmth m_damp v1 v2 v3 0) ∧ (r_11 = 0 → bk_M_X8_air_49 Q m_thrown_3 m_warmth m_damp v1 v2 v3))) v3 0 100))) v2 (-5) 40))) m_thrown k0 1 := h
    refine lv_iconst (v := 1) hx hb dX8_air_20 (by decide) ?_
    refine va_calli (va_runV (As := [.int k0, .int 1]) (rest := []) ⟨hx, hb, hml, hown, hts⟩ (c_M_X8_throwsIf l dC dI ad cB cI cZ cL A m_thrown m_today m_legs m_feeds m_taped m_point m_end m_begin m_faultAt m_farm m_pig m_begun m_first m_weight m_salted m_heat m_isBad m_isSold m_sealedFeed m_hook m_should m_on m_warmth m_damp m_isOpen m_fFarm m_fFrom m_fWhat m_fTold m_rule m_draft m_tape m_five m_those k0 1 _ h) (cwV 2 hts gX8_air_X8_throwsIf rfl rfl rfl (by decide +kernel) ⟨(Nat.le_of_ble_eq_true rfl), (Nat.le_of_ble_eq_true rfl)⟩) ⟨kC_blind, va_recv hK hP (ci := 8) (q0 := 0) rfl wM_g0, fun U hU hW => ⟨rfl, kC_go hA hS hP hK hD hE U hU hW⟩⟩ rfl rfl hl.1 rfl (lv_room (Nat.le_of_ble_eq_true rfl)) dX8_air_21 ⟨(Nat.le_of_ble_eq_true rfl), (Nat.le_of_ble_eq_true rfl)⟩) hS (fun q _ h => h) (fun q h => h) (fun r_3 u t H locs ht hvm hw hB hz1 hk1 hS => ?_)
    obtain ⟨m_thrown_3, rfl⟩ : ∃ z, z = u := ⟨_, rfl⟩
    have h := hw
    try dsimp only at h
    have hP : va_P (dC, dI) vwCl (wM ad cB cI cZ cL m_thrown_3 m_today m_legs m_feeds m_taped m_point m_end m_begin m_faultAt m_farm m_pig m_begun m_first m_weight m_salted m_heat m_isBad m_isSold m_sealedFeed m_hook m_should m_on m_warmth m_damp m_isOpen m_fFarm m_fFrom m_fWhat m_fTold m_rule m_draft m_tape m_five m_those) H := by rw [← ht]; exact hB.1
    have hD : va_D A (wM ad cB cI cZ cL m_thrown_3 m_today m_legs m_feeds m_taped m_point m_end m_begin m_faultAt m_farm m_pig m_begun m_first m_weight m_salted m_heat m_isBad m_isSold m_sealedFeed m_hook m_should m_on m_warmth m_damp m_isOpen m_fFarm m_fFrom m_fWhat m_fTold m_rule m_draft m_tape m_five m_those) := hB.2.2
    refine lv_if_ne (tgt := 61) hx hb dX8_air_24 (by decide) (fun c_4 => ?_) (fun c_4 => ?_)
    · have h := h.1 c_4
      exact W.vret hx hb hr (fun t ht hW => ⟨⟨(m_thrown_3, m_warmth, m_damp), rfl, h, kB_mk hP hK hD ht hW.alike⟩, hS.F ht⟩) hS.2.2 dX8_air_61
    · have h := h.2 c_4
      refine lv_aload_n hx hb dX8_air_27 rfl (lv_at hl 0 rfl) ?_
      refine lv_iload_n hx hb dX8_air_28 rfl (lv_at hl 2 rfl) ?_
      refine lv_bipush (v := (-5)) hx hb dX8_air_29 (by decide) ?_
      refine lv_bipush (v := 40) hx hb dX8_air_31 (by decide) ?_
      refine va_calli (va_runS (As := [.int v2, .int (-5), .int 40]) (rest := [.ref (ad 0)]) ⟨hx, hb, hml, hown, hts⟩ (c_M_X8_in l dC dI ad cB cI cZ cL A m_thrown_3 m_today m_legs m_feeds m_taped m_point m_end m_begin m_faultAt m_farm m_pig m_begun m_first m_weight m_salted m_heat m_isBad m_isSold m_sealedFeed m_hook m_should m_on m_warmth m_damp m_isOpen m_fFarm m_fFrom m_fWhat m_fTold m_rule m_draft m_tape m_five m_those v2 (-5) 40 _ h) (va_cwS 3 hts gX8_air_X8_in rfl rfl rfl (by decide +kernel) ⟨(Nat.le_of_ble_eq_true rfl), (Nat.le_of_ble_eq_true rfl)⟩) ⟨kC_blind, fun U hU hW => ⟨rfl, kC_go hA hS hP hK hD hE U hU hW⟩⟩ rfl rfl hl.1 rfl (lv_room (Nat.le_of_ble_eq_true rfl)) dX8_air_33 ⟨(Nat.le_of_ble_eq_true rfl), (Nat.le_of_ble_eq_true rfl)⟩) hS (fun q _ h => h) (fun q h => h) (fun r_5 u t H locs ht hvm hw hB hz1 hk1 hS => ?_)
      have h := hw
      try dsimp only at h
      have hP : va_P (dC, dI) vwCl (wM ad cB cI cZ cL m_thrown_3 m_today m_legs m_feeds m_taped m_point m_end m_begin m_faultAt m_farm m_pig m_begun m_first m_weight m_salted m_heat m_isBad m_isSold m_sealedFeed m_hook m_should m_on m_warmth m_damp m_isOpen m_fFarm m_fFrom m_fWhat m_fTold m_rule m_draft m_tape m_five m_those) H := by rw [← ht]; exact hB.1
      have hD : va_D A (wM ad cB cI cZ cL m_thrown_3 m_today m_legs m_feeds m_taped m_point m_end m_begin m_faultAt m_farm m_pig m_begun m_first m_weight m_salted m_heat m_isBad m_isSold m_sealedFeed m_hook m_should m_on m_warmth m_damp m_isOpen m_fFarm m_fFrom m_fWhat m_fTold m_rule m_draft m_tape m_five m_those) := hB.2.2
      refine lv_if_eq (tgt := 49) hx hb dX8_air_36 (by decide) (fun c_6 => ?_) (fun c_6 => ?_)
      · have h := h.1 c_6
        exact hbk_M_X8_air_49 m_thrown_3 m_warmth m_damp v1 v2 v3 _ _ _ hP hD hS (lv_sub hl [0, 1, 2, 3] rfl) h
      · have h := h.2 c_6
        refine lv_iload_n hx hb dX8_air_39 rfl (lv_at hl 3 rfl) ?_
        refine lv_iconst (v := 0) hx hb dX8_air_40 (by decide) ?_
        refine lv_bipush (v := 100) hx hb dX8_air_41 (by decide) ?_
        refine va_calli (va_runS (As := [.int v3, .int 0, .int 100]) (rest := [.ref (ad 0)]) ⟨hx, hb, hml, hown, hts⟩ (c_M_X8_in l dC dI ad cB cI cZ cL A m_thrown_3 m_today m_legs m_feeds m_taped m_point m_end m_begin m_faultAt m_farm m_pig m_begun m_first m_weight m_salted m_heat m_isBad m_isSold m_sealedFeed m_hook m_should m_on m_warmth m_damp m_isOpen m_fFarm m_fFrom m_fWhat m_fTold m_rule m_draft m_tape m_five m_those v3 0 100 _ h) (va_cwS 3 hts gX8_air_X8_in rfl rfl rfl (by decide +kernel) ⟨(Nat.le_of_ble_eq_true rfl), (Nat.le_of_ble_eq_true rfl)⟩) ⟨kC_blind, fun U hU hW => ⟨rfl, kC_go hA hS hP hK hD hE U hU hW⟩⟩ rfl rfl hl.1 rfl (lv_room (Nat.le_of_ble_eq_true rfl)) dX8_air_43 ⟨(Nat.le_of_ble_eq_true rfl), (Nat.le_of_ble_eq_true rfl)⟩) hS (fun q _ h => h) (fun q h => h) (fun r_11 u t H locs ht hvm hw hB hz1 hk1 hS => ?_)
        have h := hw
        try dsimp only at h
        have hP : va_P (dC, dI) vwCl (wM ad cB cI cZ cL m_thrown_3 m_today m_legs m_feeds m_taped m_point m_end m_begin m_faultAt m_farm m_pig m_begun m_first m_weight m_salted m_heat m_isBad m_isSold m_sealedFeed m_hook m_should m_on m_warmth m_damp m_isOpen m_fFarm m_fFrom m_fWhat m_fTold m_rule m_draft m_tape m_five m_those) H := by rw [← ht]; exact hB.1
        have hD : va_D A (wM ad cB cI cZ cL m_thrown_3 m_today m_legs m_feeds m_taped m_point m_end m_begin m_faultAt m_farm m_pig m_begun m_first m_weight m_salted m_heat m_isBad m_isSold m_sealedFeed m_hook m_should m_on m_warmth m_damp m_isOpen m_fFarm m_fFrom m_fWhat m_fTold m_rule m_draft m_tape m_five m_those) := hB.2.2
        refine lv_if_ne (tgt := 53) hx hb dX8_air_46 (by decide) (fun c_12 => ?_) (fun c_12 => ?_)
        · have h := h.1 c_12
          refine lv_iconst (v := 0) hx hb dX8_air_53 (by decide) ?_
          exact hbk_M_X8_air_54 m_thrown_3 m_warmth m_damp v1 v2 v3 0 _ _ _ hP hD hS (lv_sub hl [0, 1, 2, 3] rfl) h
        · have h := h.2 c_12
          exact hbk_M_X8_air_49 m_thrown_3 m_warmth m_damp v1 v2 v3 _ _ _ hP hD hS (lv_sub hl [0, 1, 2, 3] rfl) h
  have hl := lv_entry ([.ref (ad 0), .int p0, .int p1, .int p2]) (n := 4) (Nat.le_of_ble_eq_true rfl)
  rw [lg_entry_eq]
  generalize (lg_sl ([.ref (ad 0), .int p0, .int p1, .int p2]) ++ List.replicate (4 - (lg_sl ([.ref (ad 0), .int p0, .int p1, .int p2])).length) Slot.unset).toArray = ls at hl ⊢
  have hl : lv_has ls 4 [(0, .ref (ad 0)), (1, .int p0), (2, .int p1), (3, .int p2)] := hl
  unfold wp_M_X8_air at h
  refine lv_aload_n hx hb dX8_air_0 rfl (lv_at hl 0 rfl) ?_
  refine lv_iconst (v := 0) hx hb dX8_air_1 (by decide) ?_
  refine va_put (D := (dC, dI)) (ci := 8) (v := .int 0) (ty := .int) (C := RX8) (T := TX8) (N := 34) hx hb hts hk_1 tyX8 tyX8_ok nmX8 hown hK hP hD hS 0 wM_g0 rfl 0 (by decide) hk_0 (fun _ h9 => h9) rfl (by decide +kernel) rfl rfl (Nat.le_of_ble_eq_true rfl) dX8_air_2 (fun H locs hP2 hD2 hS => ?_)
  have hP : va_P (dC, dI) vwCl (wM ad cB cI cZ cL 0 m_today m_legs m_feeds m_taped m_point m_end m_begin m_faultAt m_farm m_pig m_begun m_first m_weight m_salted m_heat m_isBad m_isSold m_sealedFeed m_hook m_should m_on m_warmth m_damp m_isOpen m_fFarm m_fFrom m_fWhat m_fTold m_rule m_draft m_tape m_five m_those) H := hP_eq (wM_p_m_thrown) hP2
  have hD : va_D A (wM ad cB cI cZ cL 0 m_today m_legs m_feeds m_taped m_point m_end m_begin m_faultAt m_farm m_pig m_begun m_first m_weight m_salted m_heat m_isBad m_isSold m_sealedFeed m_hook m_should m_on m_warmth m_damp m_isOpen m_fFarm m_fFrom m_fWhat m_fTold m_rule m_draft m_tape m_five m_those) := hD_eq (wM_p_m_thrown) hD2
  refine lv_aload_n hx hb dX8_air_5 rfl (lv_at hl 0 rfl) ?_
  refine lv_iload_n hx hb dX8_air_6 rfl (lv_at hl 1 rfl) ?_
  refine lv_iconst (v := 0) hx hb dX8_air_7 (by decide) ?_
  refine lv_iconst (v := 5) hx hb dX8_air_8 (by decide) ?_
  refine va_calli (va_runS (As := [.int p0, .int 0, .int 5]) (rest := [.ref (ad 0)]) ⟨hx, hb, hml, hown, hts⟩ (c_M_X8_in l dC dI ad cB cI cZ cL A 0 m_today m_legs m_feeds m_taped m_point m_end m_begin m_faultAt m_farm m_pig m_begun m_first m_weight m_salted m_heat m_isBad m_isSold m_sealedFeed m_hook m_should m_on m_warmth m_damp m_isOpen m_fFarm m_fFrom m_fWhat m_fTold m_rule m_draft m_tape m_five m_those p0 0 5 _ h) (va_cwS 3 hts gX8_air_X8_in rfl rfl rfl (by decide +kernel) ⟨(Nat.le_of_ble_eq_true rfl), (Nat.le_of_ble_eq_true rfl)⟩) ⟨kC_blind, fun U hU hW => ⟨rfl, kC_go hA hS hP hK hD hE U hU hW⟩⟩ rfl rfl hl.1 rfl (lv_room (Nat.le_of_ble_eq_true rfl)) dX8_air_9 ⟨(Nat.le_of_ble_eq_true rfl), (Nat.le_of_ble_eq_true rfl)⟩) hS (fun q _ h => h) (fun q h => h) (fun r_1 u t H locs ht hvm hw hB hz1 hk1 hS => ?_)
  have h := hw
  try dsimp only at h
  have hP : va_P (dC, dI) vwCl (wM ad cB cI cZ cL 0 m_today m_legs m_feeds m_taped m_point m_end m_begin m_faultAt m_farm m_pig m_begun m_first m_weight m_salted m_heat m_isBad m_isSold m_sealedFeed m_hook m_should m_on m_warmth m_damp m_isOpen m_fFarm m_fFrom m_fWhat m_fTold m_rule m_draft m_tape m_five m_those) H := by rw [← ht]; exact hB.1
  have hD : va_D A (wM ad cB cI cZ cL 0 m_today m_legs m_feeds m_taped m_point m_end m_begin m_faultAt m_farm m_pig m_begun m_first m_weight m_salted m_heat m_isBad m_isSold m_sealedFeed m_hook m_should m_on m_warmth m_damp m_isOpen m_fFarm m_fFrom m_fWhat m_fTold m_rule m_draft m_tape m_five m_those) := hB.2.2
  refine lv_if_ne (tgt := 19) hx hb dX8_air_12 (by decide) (fun c_2 => ?_) (fun c_2 => ?_)
  · have h := h.1 c_2
    refine lv_iconst (v := 0) hx hb dX8_air_19 (by decide) ?_
    exact hbk_M_X8_air_20 0 m_warmth m_damp p0 p1 p2 0 _ _ _ hP hD hS (lv_sub hl [0, 1, 2, 3] rfl) h
  · have h := h.2 c_2
    refine lv_iconst (v := 1) hx hb dX8_air_15 (by decide) ?_
    refine lv_goto (tgt := 20) hx hb dX8_air_16 (by decide) ?_
    exact hbk_M_X8_air_20 0 m_warmth m_damp p0 p1 p2 1 _ _ _ hP hD hS (lv_sub hl [0, 1, 2, 3] rfl) h
def bk_M_X8_open_20   (Q : Int32 → Int32 → (Nat → Int32) → Prop) (m_thrown : Int32) (m_isOpen : Nat → Int32) (v1 : Int32) (v2 : Int32) (k0 : Int32) : Prop := wp_M_X8_throwsIf (fun r_3 m_thrown_3 => ((r_3 = 0 → (vp_in v1 6 ∧ (vp_in v1 6 ∧ (((m_isOpen v1.toNatClampNeg) = v2 → (o01 0 ∧ Q 0 m_thrown_3 (upd m_isOpen v1.toNatClampNeg (vp_nar .boolean v2)))) ∧ (¬ ((m_isOpen v1.toNatClampNeg) = v2) → (o01 1 ∧ Q 1 m_thrown_3 (upd m_isOpen v1.toNatClampNeg (vp_nar .boolean v2)))))))) ∧ (¬ (r_3 = 0) → (o01 0 ∧ Q 0 m_thrown_3 m_isOpen)))) m_thrown k0 1
def wp_M_X8_open (Q : Int32 → Int32 → (Nat → Int32) → Prop) (m_thrown : Int32) (m_isOpen : Nat → Int32) (p0 : Int32) (p1 : Int32) : Prop := wp_M_X8_in (fun r_1 => ((¬ r_1 = 0 → bk_M_X8_open_20 Q 0 m_isOpen p0 p1 0) ∧ (r_1 = 0 → bk_M_X8_open_20 Q 0 m_isOpen p0 p1 1))) p0 1 5
def rm_M_X8_open : Room := { frames := 1, cells := 0, slots := 0, locals := 22 }
abbrev pq_M_X8_open (dC : Nat → ClassId) (dI : Nat → Nat → Nat) (ad : Nat → Nat) (cB cI cZ cL : ClassId) (A : Nat → Prop) (m_thrown m_today m_legs m_feeds m_taped m_point m_end m_begin m_faultAt : Int32) (m_farm m_pig m_begun m_first m_weight m_salted m_heat m_isBad m_isSold m_sealedFeed m_hook m_should m_on m_warmth m_damp m_isOpen m_fFarm m_fFrom m_fWhat m_fTold m_rule m_draft m_tape m_five m_those : Nat → Int32) (Q : Int32 → Int32 → (Nat → Int32) → Prop) : Array Value → State → Outcome → State → Prop := va_Qi (fun (r : Int32) (u : Int32 × (Nat → Int32)) => Q r u.1 u.2) (fun u t => kB dC dI A (wM ad cB cI cZ cL u.1 m_today m_legs m_feeds m_taped m_point m_end m_begin m_faultAt m_farm m_pig m_begun m_first m_weight m_salted m_heat m_isBad m_isSold m_sealedFeed m_hook m_should m_on m_warmth m_damp u.2 m_fFarm m_fFrom m_fWhat m_fTold m_rule m_draft m_tape m_five m_those) (kTy cB cI cZ cL) t) A
set_option maxHeartbeats 4000000 in
set_option maxRecDepth 100000 in
theorem c_M_X8_open (l : Launch) (dC : Nat → ClassId) (dI : Nat → Nat → Nat) (ad : Nat → Nat) (cB cI cZ cL : ClassId) (A : Nat → Prop) (m_thrown m_today m_legs m_feeds m_taped m_point m_end m_begin m_faultAt : Int32) (m_farm m_pig m_begun m_first m_weight m_salted m_heat m_isBad m_isSold m_sealedFeed m_hook m_should m_on m_warmth m_damp m_isOpen m_fFarm m_fFrom m_fWhat m_fTold m_rule m_draft m_tape m_five m_those : Nat → Int32) (p0 : Int32) (p1 : Int32)  (Q : Int32 → Int32 → (Nat → Int32) → Prop) (h : wp_M_X8_open Q m_thrown m_isOpen p0 p1) : Met l yX8_open wsX8_open rm_M_X8_open (va_Pc [.ref (ad 0), .int p0, .int p1] (kC dC dI ad A (wM ad cB cI cZ cL m_thrown m_today m_legs m_feeds m_taped m_point m_end m_begin m_faultAt m_farm m_pig m_begun m_first m_weight m_salted m_heat m_isBad m_isSold m_sealedFeed m_hook m_should m_on m_warmth m_damp m_isOpen m_fFarm m_fFrom m_fWhat m_fTold m_rule m_draft m_tape m_five m_those) (kTy cB cI cZ cL))) (pq_M_X8_open dC dI ad cB cI cZ cL A m_thrown m_today m_legs m_feeds m_taped m_point m_end m_begin m_faultAt m_farm m_pig m_begun m_first m_weight m_salted m_heat m_isBad m_isSold m_sealedFeed m_hook m_should m_on m_warmth m_damp m_isOpen m_fFarm m_fFrom m_fWhat m_fTold m_rule m_draft m_tape m_five m_those Q) 0 0 A := by
  refine Met.ofW (cc := cX8_open) (maxL := 4) (ret := (some .boolean)) (by decide) rfl ?_
  intro p e s m args below meth c s₁ B hml hv
  obtain ⟨rfl, hA, hP, hK, hD, hE⟩ := hv
  have hx := B.exec
  have hb := B.bytes
  have hr := B.returns
  have hts := atoms_spec (ws := wsX8_open) B.pre
  have hown : s.vm.findClass RX8 = some m.cls := findClass_of_methodNamed B.named
  have hlocks := B.notSynchronized
  have hS : va_S A s.heap s.heap [] := va_S.rf
  have hk_0 := hts (.fieldLink RX8 1 "HamCellarModel" "thrown" "I") (by decide +kernel)
  have hk_1 : ∀ w ∈ wsX80, w ∈ wsX8_open := by decide +kernel
  have hk_2 := hts (.fieldLink RX8 60 "HamCellarModel" "isOpen" "[Z") (by decide +kernel)
  have hbk_M_X8_open_20 : ∀ (m_thrown : Int32) (m_isOpen : Nat → Int32) (v1 : Int32) (v2 : Int32) (k0 : Int32) (H : Heap) (locs : List Loc) (ls : Array Slot), va_P (dC, dI) vwCl (wM ad cB cI cZ cL m_thrown m_today m_legs m_feeds m_taped m_point m_end m_begin m_faultAt m_farm m_pig m_begun m_first m_weight m_salted m_heat m_isBad m_isSold m_sealedFeed m_hook m_should m_on m_warmth m_damp m_isOpen m_fFarm m_fFrom m_fWhat m_fTold m_rule m_draft m_tape m_five m_those) H → va_D A (wM ad cB cI cZ cL m_thrown m_today m_legs m_feeds m_taped m_point m_end m_begin m_faultAt m_farm m_pig m_begun m_first m_weight m_salted m_heat m_isBad m_isSold m_sealedFeed m_hook m_should m_on m_warmth m_damp m_isOpen m_fFarm m_fFrom m_fWhat m_fTold m_rule m_draft m_tape m_five m_those) → va_S A s.heap H locs → lv_has ls 4 [(0, .ref (ad 0)), (1, .int v1), (2, .int v2)] → bk_M_X8_open_20 Q m_thrown m_isOpen v1 v2 k0 → W p l e (headSpec wsX8_open rm_M_X8_open).room s m ([.ref (ad 0), .int p0, .int p1] : List Value).toArray below meth c H locs 0 0 (MQ below (pq_M_X8_open dC dI ad cB cI cZ cL A m_thrown m_today m_legs m_feeds m_taped m_point m_end m_begin m_faultAt m_farm m_pig m_begun m_first m_weight m_salted m_heat m_isBad m_isSold m_sealedFeed m_hook m_should m_on m_warmth m_damp m_isOpen m_fFarm m_fFrom m_fWhat m_fTold m_rule m_draft m_tape m_five m_those Q) ([.ref (ad 0), .int p0, .int p1] : List Value).toArray s 0 0 A) (F0 m 20 ls [.int k0, .ref (ad 0)]) := by
    intro m_thrown m_isOpen v1 v2 k0 H locs ls hP hD hS hl h
    have h : wp_M_X8_throwsIf (fun r_3 m_thrown_3 => ((r_3 = 0 → (vp_in v1 6 ∧ (vp_in v1 6 ∧ (((m_isOpen v1.toNatClampNeg) = v2 → (o01 0 ∧ Q 0 m_thrown_3 (upd m_isOpen v1.toNatClampNeg (vp_nar .boolean v2)))) ∧ (¬ ((m_isOpen v1.toNatClampNeg) = v2) → (o01 1 ∧ Q 1 m_thrown_3 (upd m_isOpen v1.toNatClampNeg (vp_nar .boolean v2)))))))) ∧ (¬ (r_3 = 0) → (o01 0 ∧ Q 0 m_thrown_3 m_isOpen)))) m_thrown k0 1 := h
    refine lv_iconst (v := 1) hx hb dX8_open_20 (by decide) ?_
    refine va_calli (va_runV (As := [.int k0, .int 1]) (rest := []) ⟨hx, hb, hml, hown, hts⟩ (c_M_X8_throwsIf l dC dI ad cB cI cZ cL A m_thrown m_today m_legs m_feeds m_taped m_point m_end m_begin m_faultAt m_farm m_pig m_begun m_first m_weight m_salted m_heat m_isBad m_isSold m_sealedFeed m_hook m_should m_on m_warmth m_damp m_isOpen m_fFarm m_fFrom m_fWhat m_fTold m_rule m_draft m_tape m_five m_those k0 1 _ h) (cwV 2 hts gX8_open_X8_throwsIf rfl rfl rfl (by decide +kernel) ⟨(Nat.le_of_ble_eq_true rfl), (Nat.le_of_ble_eq_true rfl)⟩) ⟨kC_blind, va_recv hK hP (ci := 8) (q0 := 0) rfl wM_g0, fun U hU hW => ⟨rfl, kC_go hA hS hP hK hD hE U hU hW⟩⟩ rfl rfl hl.1 rfl (lv_room (Nat.le_of_ble_eq_true rfl)) dX8_open_21 ⟨(Nat.le_of_ble_eq_true rfl), (Nat.le_of_ble_eq_true rfl)⟩) hS (fun q _ h => h) (fun q h => h) (fun r_3 u t H locs ht hvm hw hB hz1 hk1 hS => ?_)
    obtain ⟨m_thrown_3, rfl⟩ : ∃ z, z = u := ⟨_, rfl⟩
    have h := hw
    try dsimp only at h
    have hP : va_P (dC, dI) vwCl (wM ad cB cI cZ cL m_thrown_3 m_today m_legs m_feeds m_taped m_point m_end m_begin m_faultAt m_farm m_pig m_begun m_first m_weight m_salted m_heat m_isBad m_isSold m_sealedFeed m_hook m_should m_on m_warmth m_damp m_isOpen m_fFarm m_fFrom m_fWhat m_fTold m_rule m_draft m_tape m_five m_those) H := by rw [← ht]; exact hB.1
    have hD : va_D A (wM ad cB cI cZ cL m_thrown_3 m_today m_legs m_feeds m_taped m_point m_end m_begin m_faultAt m_farm m_pig m_begun m_first m_weight m_salted m_heat m_isBad m_isSold m_sealedFeed m_hook m_should m_on m_warmth m_damp m_isOpen m_fFarm m_fFrom m_fWhat m_fTold m_rule m_draft m_tape m_five m_those) := hB.2.2
    refine lv_if_eq (tgt := 29) hx hb dX8_open_24 (by decide) (fun c_4 => ?_) (fun c_4 => ?_)
    · have h := h.1 c_4
      refine lv_aload_n hx hb dX8_open_29 rfl (lv_at hl 0 rfl) ?_
      refine va_get (D := (dC, dI)) (ci := 8) (v := .ref (ad 16)) (C := RX8) (T := TX8) (N := 34) hx hb hts hk_1 hown hK hP 0 wM_g0 rfl 18 (by decide) hk_2 (fun _ h9 => h9) rfl dX8_open_30 ?_
      refine lv_iload_n hx hb dX8_open_33 rfl (lv_at hl 1 rfl) ?_
      have hi_5 := h.1
      have h := h.2
      refine va_zald hx hb hK hP 16 2 wM_g16 rfl hi_5 dX8_open_34 ?_
      refine lv_istore_n (lv' := [(3, .int (m_isOpen v1.toNatClampNeg)), (0, .ref (ad 0)), (1, .int v1), (2, .int v2)]) hx hb dX8_open_35 rfl hl (by decide) rfl (fun ls hl => ?_)
      refine lv_aload_n hx hb dX8_open_36 rfl (lv_at hl 1 rfl) ?_
      refine va_get (D := (dC, dI)) (ci := 8) (v := .ref (ad 16)) (C := RX8) (T := TX8) (N := 34) hx hb hts hk_1 hown hK hP 0 wM_g0 rfl 18 (by decide) hk_2 (fun _ h9 => h9) rfl dX8_open_37 ?_
      refine lv_iload_n hx hb dX8_open_40 rfl (lv_at hl 2 rfl) ?_
      refine lv_iload_n hx hb dX8_open_41 rfl (lv_at hl 3 rfl) ?_
      have hi_6 := h.1
      have h := h.2
      refine va_zast hx hb hK hP hD hS 16 2 wM_g16 rfl hi_6 dX8_open_42 (fun H locs hP2 hD2 hS => ?_)
      have hP : va_P (dC, dI) vwCl (wM ad cB cI cZ cL m_thrown_3 m_today m_legs m_feeds m_taped m_point m_end m_begin m_faultAt m_farm m_pig m_begun m_first m_weight m_salted m_heat m_isBad m_isSold m_sealedFeed m_hook m_should m_on m_warmth m_damp (upd m_isOpen v1.toNatClampNeg (vp_nar .boolean v2)) m_fFarm m_fFrom m_fWhat m_fTold m_rule m_draft m_tape m_five m_those) H := hP_eq (wM_p_m_isOpen) hP2
      have hD : va_D A (wM ad cB cI cZ cL m_thrown_3 m_today m_legs m_feeds m_taped m_point m_end m_begin m_faultAt m_farm m_pig m_begun m_first m_weight m_salted m_heat m_isBad m_isSold m_sealedFeed m_hook m_should m_on m_warmth m_damp (upd m_isOpen v1.toNatClampNeg (vp_nar .boolean v2)) m_fFarm m_fFrom m_fWhat m_fTold m_rule m_draft m_tape m_five m_those) := hD_eq (wM_p_m_isOpen) hD2
      refine lv_iload_n hx hb dX8_open_43 rfl (lv_at hl 0 rfl) ?_
      refine lv_iload_n hx hb dX8_open_44 rfl (lv_at hl 3 rfl) ?_
      refine lv_icmp_eq (tgt := 52) hx hb dX8_open_45 (by decide) (fun c_7 => ?_) (fun c_7 => ?_)
      · have h := h.1 c_7
        refine lv_iconst (v := 0) hx hb dX8_open_52 (by decide) ?_
        exact W.zret (v := 0) (ty := .boolean) hx hb hr (z01 h.1) (fun t ht hW => ⟨⟨0, (m_thrown_3, upd m_isOpen v1.toNatClampNeg (vp_nar .boolean v2)), rfl, h.2, kB_mk hP hK hD ht hW.alike⟩, hS.F ht⟩) hS.2.2 dX8_open_53
      · have h := h.2 c_7
        refine lv_iconst (v := 1) hx hb dX8_open_48 (by decide) ?_
        refine lv_goto (tgt := 53) hx hb dX8_open_49 (by decide) ?_
        exact W.zret (v := 1) (ty := .boolean) hx hb hr (z01 h.1) (fun t ht hW => ⟨⟨1, (m_thrown_3, upd m_isOpen v1.toNatClampNeg (vp_nar .boolean v2)), rfl, h.2, kB_mk hP hK hD ht hW.alike⟩, hS.F ht⟩) hS.2.2 dX8_open_53
    · have h := h.2 c_4
      refine lv_iconst (v := 0) hx hb dX8_open_27 (by decide) ?_
      exact W.zret (v := 0) (ty := .boolean) hx hb hr (z01 h.1) (fun t ht hW => ⟨⟨0, (m_thrown_3, m_isOpen), rfl, h.2, kB_mk hP hK hD ht hW.alike⟩, hS.F ht⟩) hS.2.2 dX8_open_28
  have hl := lv_entry ([.ref (ad 0), .int p0, .int p1]) (n := 4) (Nat.le_of_ble_eq_true rfl)
  rw [lg_entry_eq]
  generalize (lg_sl ([.ref (ad 0), .int p0, .int p1]) ++ List.replicate (4 - (lg_sl ([.ref (ad 0), .int p0, .int p1])).length) Slot.unset).toArray = ls at hl ⊢
  have hl : lv_has ls 4 [(0, .ref (ad 0)), (1, .int p0), (2, .int p1)] := hl
  unfold wp_M_X8_open at h
  refine lv_aload_n hx hb dX8_open_0 rfl (lv_at hl 0 rfl) ?_
  refine lv_iconst (v := 0) hx hb dX8_open_1 (by decide) ?_
  refine va_put (D := (dC, dI)) (ci := 8) (v := .int 0) (ty := .int) (C := RX8) (T := TX8) (N := 34) hx hb hts hk_1 tyX8 tyX8_ok nmX8 hown hK hP hD hS 0 wM_g0 rfl 0 (by decide) hk_0 (fun _ h9 => h9) rfl (by decide +kernel) rfl rfl (Nat.le_of_ble_eq_true rfl) dX8_open_2 (fun H locs hP2 hD2 hS => ?_)
  have hP : va_P (dC, dI) vwCl (wM ad cB cI cZ cL 0 m_today m_legs m_feeds m_taped m_point m_end m_begin m_faultAt m_farm m_pig m_begun m_first m_weight m_salted m_heat m_isBad m_isSold m_sealedFeed m_hook m_should m_on m_warmth m_damp m_isOpen m_fFarm m_fFrom m_fWhat m_fTold m_rule m_draft m_tape m_five m_those) H := hP_eq (wM_p_m_thrown) hP2
  have hD : va_D A (wM ad cB cI cZ cL 0 m_today m_legs m_feeds m_taped m_point m_end m_begin m_faultAt m_farm m_pig m_begun m_first m_weight m_salted m_heat m_isBad m_isSold m_sealedFeed m_hook m_should m_on m_warmth m_damp m_isOpen m_fFarm m_fFrom m_fWhat m_fTold m_rule m_draft m_tape m_five m_those) := hD_eq (wM_p_m_thrown) hD2
  refine lv_aload_n hx hb dX8_open_5 rfl (lv_at hl 0 rfl) ?_
  refine lv_iload_n hx hb dX8_open_6 rfl (lv_at hl 1 rfl) ?_
  refine lv_iconst (v := 1) hx hb dX8_open_7 (by decide) ?_
  refine lv_iconst (v := 5) hx hb dX8_open_8 (by decide) ?_
  refine va_calli (va_runS (As := [.int p0, .int 1, .int 5]) (rest := [.ref (ad 0)]) ⟨hx, hb, hml, hown, hts⟩ (c_M_X8_in l dC dI ad cB cI cZ cL A 0 m_today m_legs m_feeds m_taped m_point m_end m_begin m_faultAt m_farm m_pig m_begun m_first m_weight m_salted m_heat m_isBad m_isSold m_sealedFeed m_hook m_should m_on m_warmth m_damp m_isOpen m_fFarm m_fFrom m_fWhat m_fTold m_rule m_draft m_tape m_five m_those p0 1 5 _ h) (va_cwS 3 hts gX8_open_X8_in rfl rfl rfl (by decide +kernel) ⟨(Nat.le_of_ble_eq_true rfl), (Nat.le_of_ble_eq_true rfl)⟩) ⟨kC_blind, fun U hU hW => ⟨rfl, kC_go hA hS hP hK hD hE U hU hW⟩⟩ rfl rfl hl.1 rfl (lv_room (Nat.le_of_ble_eq_true rfl)) dX8_open_9 ⟨(Nat.le_of_ble_eq_true rfl), (Nat.le_of_ble_eq_true rfl)⟩) hS (fun q _ h => h) (fun q h => h) (fun r_1 u t H locs ht hvm hw hB hz1 hk1 hS => ?_)
  have h := hw
  try dsimp only at h
  have hP : va_P (dC, dI) vwCl (wM ad cB cI cZ cL 0 m_today m_legs m_feeds m_taped m_point m_end m_begin m_faultAt m_farm m_pig m_begun m_first m_weight m_salted m_heat m_isBad m_isSold m_sealedFeed m_hook m_should m_on m_warmth m_damp m_isOpen m_fFarm m_fFrom m_fWhat m_fTold m_rule m_draft m_tape m_five m_those) H := by rw [← ht]; exact hB.1
  have hD : va_D A (wM ad cB cI cZ cL 0 m_today m_legs m_feeds m_taped m_point m_end m_begin m_faultAt m_farm m_pig m_begun m_first m_weight m_salted m_heat m_isBad m_isSold m_sealedFeed m_hook m_should m_on m_warmth m_damp m_isOpen m_fFarm m_fFrom m_fWhat m_fTold m_rule m_draft m_tape m_five m_those) := hB.2.2
  refine lv_if_ne (tgt := 19) hx hb dX8_open_12 (by decide) (fun c_2 => ?_) (fun c_2 => ?_)
  · have h := h.1 c_2
    refine lv_iconst (v := 0) hx hb dX8_open_19 (by decide) ?_
    exact hbk_M_X8_open_20 0 m_isOpen p0 p1 0 _ _ _ hP hD hS (lv_sub hl [0, 1, 2] rfl) h
  · have h := h.2 c_2
    refine lv_iconst (v := 1) hx hb dX8_open_15 (by decide) ?_
    refine lv_goto (tgt := 20) hx hb dX8_open_16 (by decide) ?_
    exact hbk_M_X8_open_20 0 m_isOpen p0 p1 1 _ _ _ hP hD hS (lv_sub hl [0, 1, 2] rfl) h
def bk_M_X8_legDay_138 (m_first : Nat → Int32) (m_hook : Nat → Int32) (m_warmth : Nat → Int32) (m_damp : Nat → Int32)  (Q : (Nat → Int32) → (Nat → Int32) → (Nat → Int32) → (Nat → Int32) → Prop) (m_weight : Nat → Int32) (m_salted : Nat → Int32) (m_heat : Nat → Int32) (m_isBad : Nat → Int32) (v1 : Int32) (k0 : Int32) (k1 : Int32) (k2 : Int32) : Prop := (vp_in k2 60 ∧ (vp_in v1 60 ∧ (vp_in v1 60 ∧ ((((upd m_heat k2.toNatClampNeg (k1 + k0)) v1.toNatClampNeg) ≤ (20 * (m_salted v1.toNatClampNeg)) → Q m_weight m_salted (upd m_heat k2.toNatClampNeg (k1 + k0)) m_isBad) ∧ (¬ (((upd m_heat k2.toNatClampNeg (k1 + k0)) v1.toNatClampNeg) ≤ (20 * (m_salted v1.toNatClampNeg))) → (vp_in v1 60 ∧ (vp_in v1 60 ∧ ((((m_first v1.toNatClampNeg) / 1000) ≤ (m_salted v1.toNatClampNeg) → Q m_weight m_salted (upd m_heat k2.toNatClampNeg (k1 + k0)) m_isBad) ∧ (¬ (((m_first v1.toNatClampNeg) / 1000) ≤ (m_salted v1.toNatClampNeg)) → (vp_in v1 60 ∧ Q m_weight m_salted (upd m_heat k2.toNatClampNeg (k1 + k0)) (upd m_isBad v1.toNatClampNeg (vp_nar .boolean 1))))))))))))
def bk_M_X8_legDay_109 (m_first : Nat → Int32) (m_hook : Nat → Int32) (m_warmth : Nat → Int32) (m_damp : Nat → Int32)  (Q : (Nat → Int32) → (Nat → Int32) → (Nat → Int32) → (Nat → Int32) → Prop) (m_weight : Nat → Int32) (m_salted : Nat → Int32) (m_heat : Nat → Int32) (m_isBad : Nat → Int32) (v1 : Int32) (v2 : Int32) : Prop := (vp_in v1 60 ∧ ((v2 ≤ 0 → bk_M_X8_legDay_138 m_first m_hook m_warmth m_damp Q m_weight m_salted m_heat m_isBad v1 8 (m_heat v1.toNatClampNeg) v1) ∧ (¬ (v2 ≤ 0) → (vp_in v2 6 ∧ bk_M_X8_legDay_138 m_first m_hook m_warmth m_damp Q m_weight m_salted m_heat m_isBad v1 (if 0 < ((m_warmth v2.toNatClampNeg) - 12) then ((m_warmth v2.toNatClampNeg) - 12) else 0) (m_heat v1.toNatClampNeg) v1))))
def bk_M_X8_legDay_22 (m_first : Nat → Int32) (m_hook : Nat → Int32) (m_warmth : Nat → Int32) (m_damp : Nat → Int32)  (Q : (Nat → Int32) → (Nat → Int32) → (Nat → Int32) → (Nat → Int32) → Prop) (m_weight : Nat → Int32) (m_salted : Nat → Int32) (m_heat : Nat → Int32) (m_isBad : Nat → Int32) (v1 : Int32) (k0 : Int32) : Prop := ((¬ k0 = 0 → ((k0 ≤ 0 → bk_M_X8_legDay_109 m_first m_hook m_warmth m_damp Q m_weight m_salted m_heat m_isBad v1 k0) ∧ (¬ (k0 ≤ 0) → (vp_in v1 60 ∧ (vp_in v1 60 ∧ (vp_in k0 6 ∧ (vp_in k0 6 ∧ (vp_in v1 60 ∧ bk_M_X8_legDay_109 m_first m_hook m_warmth m_damp Q (upd m_weight v1.toNatClampNeg ((m_weight v1.toNatClampNeg) - (((((m_weight v1.toNatClampNeg).toInt64) * ((((100 - (m_damp k0.toNatClampNeg)) * (5 + (if 0 < (m_warmth k0.toNatClampNeg) then (m_warmth k0.toNatClampNeg) else 0))) / 10).toInt64)) / 100000).toInt32))) m_salted m_heat m_isBad v1 k0)))))))) ∧ (k0 = 0 → (vp_in v1 60 ∧ (vp_in v1 60 ∧ (vp_in v1 60 ∧ (vp_in v1 60 ∧ (vp_in v1 60 ∧ Q (upd m_weight v1.toNatClampNeg ((m_weight v1.toNatClampNeg) - ((m_weight v1.toNatClampNeg) / 1000))) (upd m_salted v1.toNatClampNeg ((m_salted v1.toNatClampNeg) + 1)) m_heat m_isBad)))))))
def wp_M_X8_legDay (m_first : Nat → Int32) (m_hook : Nat → Int32) (m_warmth : Nat → Int32) (m_damp : Nat → Int32) (Q : (Nat → Int32) → (Nat → Int32) → (Nat → Int32) → (Nat → Int32) → Prop) (m_weight : Nat → Int32) (m_salted : Nat → Int32) (m_heat : Nat → Int32) (m_isBad : Nat → Int32) (p0 : Int32) : Prop := (vp_in p0 60 ∧ ((0 ≤ (m_hook p0.toNatClampNeg) → (vp_in p0 60 ∧ bk_M_X8_legDay_22 m_first m_hook m_warmth m_damp Q m_weight m_salted m_heat m_isBad p0 ((m_hook p0.toNatClampNeg) / 10))) ∧ (¬ (0 ≤ (m_hook p0.toNatClampNeg)) → bk_M_X8_legDay_22 m_first m_hook m_warmth m_damp Q m_weight m_salted m_heat m_isBad p0 (-1))))
def rm_M_X8_legDay : Room := { frames := 1, cells := 0, slots := 0, locals := 25 }
abbrev pq_M_X8_legDay (dC : Nat → ClassId) (dI : Nat → Nat → Nat) (ad : Nat → Nat) (cB cI cZ cL : ClassId) (A : Nat → Prop) (m_thrown m_today m_legs m_feeds m_taped m_point m_end m_begin m_faultAt : Int32) (m_farm m_pig m_begun m_first m_weight m_salted m_heat m_isBad m_isSold m_sealedFeed m_hook m_should m_on m_warmth m_damp m_isOpen m_fFarm m_fFrom m_fWhat m_fTold m_rule m_draft m_tape m_five m_those : Nat → Int32) (Q : (Nat → Int32) → (Nat → Int32) → (Nat → Int32) → (Nat → Int32) → Prop) : Array Value → State → Outcome → State → Prop := va_Qv (fun u : (Nat → Int32) × (Nat → Int32) × (Nat → Int32) × (Nat → Int32) => Q u.1 u.2.1 u.2.2.1 u.2.2.2) (fun u t => kB dC dI A (wM ad cB cI cZ cL m_thrown m_today m_legs m_feeds m_taped m_point m_end m_begin m_faultAt m_farm m_pig m_begun m_first u.1 u.2.1 u.2.2.1 u.2.2.2 m_isSold m_sealedFeed m_hook m_should m_on m_warmth m_damp m_isOpen m_fFarm m_fFrom m_fWhat m_fTold m_rule m_draft m_tape m_five m_those) (kTy cB cI cZ cL) t) A
set_option maxHeartbeats 4000000 in
set_option maxRecDepth 100000 in
theorem c_M_X8_legDay (l : Launch) (dC : Nat → ClassId) (dI : Nat → Nat → Nat) (ad : Nat → Nat) (cB cI cZ cL : ClassId) (A : Nat → Prop) (m_thrown m_today m_legs m_feeds m_taped m_point m_end m_begin m_faultAt : Int32) (m_farm m_pig m_begun m_first m_weight m_salted m_heat m_isBad m_isSold m_sealedFeed m_hook m_should m_on m_warmth m_damp m_isOpen m_fFarm m_fFrom m_fWhat m_fTold m_rule m_draft m_tape m_five m_those : Nat → Int32) (p0 : Int32)  (Q : (Nat → Int32) → (Nat → Int32) → (Nat → Int32) → (Nat → Int32) → Prop) (h : wp_M_X8_legDay m_first m_hook m_warmth m_damp Q m_weight m_salted m_heat m_isBad p0) : Met l yX8_legDay wsX8_legDay rm_M_X8_legDay (va_Pc [.ref (ad 0), .int p0] (kC dC dI ad A (wM ad cB cI cZ cL m_thrown m_today m_legs m_feeds m_taped m_point m_end m_begin m_faultAt m_farm m_pig m_begun m_first m_weight m_salted m_heat m_isBad m_isSold m_sealedFeed m_hook m_should m_on m_warmth m_damp m_isOpen m_fFarm m_fFrom m_fWhat m_fTold m_rule m_draft m_tape m_five m_those) (kTy cB cI cZ cL))) (pq_M_X8_legDay dC dI ad cB cI cZ cL A m_thrown m_today m_legs m_feeds m_taped m_point m_end m_begin m_faultAt m_farm m_pig m_begun m_first m_weight m_salted m_heat m_isBad m_isSold m_sealedFeed m_hook m_should m_on m_warmth m_damp m_isOpen m_fFarm m_fFrom m_fWhat m_fTold m_rule m_draft m_tape m_five m_those Q) 0 0 A := by
  refine Met.ofW (cc := cX8_legDay) (maxL := 3) (ret := none) (by decide) rfl ?_
  intro p e s m args below meth c s₁ B hml hv
  obtain ⟨rfl, hA, hP, hK, hD, hE⟩ := hv
  have hx := B.exec
  have hb := B.bytes
  have hr := B.returns
  have hts := atoms_spec (ws := wsX8_legDay) B.pre
  have hown : s.vm.findClass RX8 = some m.cls := findClass_of_methodNamed B.named
  have hlocks := B.notSynchronized
  have hS : va_S A s.heap s.heap [] := va_S.rf
  have hk_0 := hts (.fieldLink RX8 45 "HamCellarModel" "hook" "[I") (by decide +kernel)
  have hk_1 : ∀ w ∈ wsX80, w ∈ wsX8_legDay := by decide +kernel
  have hk_2 := hts (.fieldLink RX8 32 "HamCellarModel" "heat" "[I") (by decide +kernel)
  have hk_3 := hts (.fieldLink RX8 29 "HamCellarModel" "salted" "[I") (by decide +kernel)
  have hk_4 := hts (.fieldLink RX8 23 "HamCellarModel" "first" "[I") (by decide +kernel)
  have hk_5 := hts (.fieldLink RX8 35 "HamCellarModel" "isBad" "[Z") (by decide +kernel)
  have hk_6 := hts (.fieldLink RX8 54 "HamCellarModel" "warmth" "[I") (by decide +kernel)
  have hk_7 := hts (.methodLink RX8 120 yJ9_max_7cf53) (by decide +kernel)
  have hk_8 := hts (.static yJ9_max_7cf53) (by decide +kernel)
  have hk_9 := hts (.initialized RJ9) (by decide +kernel)
  have hk_10 := hts (.code yJ9_max_7cf53 cJ9_max_7cf53 2 (some .int)) (by decide +kernel)
  have hk_11 := hts (.fieldLink RX8 26 "HamCellarModel" "weight" "[I") (by decide +kernel)
  have hk_12 := hts (.fieldLink RX8 57 "HamCellarModel" "damp" "[I") (by decide +kernel)
  have hk_13 := hts (.constantLong RX8 126 100000) (by decide +kernel)
  have hbk_M_X8_legDay_138 : ∀ (m_weight : Nat → Int32) (m_salted : Nat → Int32) (m_heat : Nat → Int32) (m_isBad : Nat → Int32) (v1 : Int32) (k0 : Int32) (k1 : Int32) (k2 : Int32) (H : Heap) (locs : List Loc) (ls : Array Slot), va_P (dC, dI) vwCl (wM ad cB cI cZ cL m_thrown m_today m_legs m_feeds m_taped m_point m_end m_begin m_faultAt m_farm m_pig m_begun m_first m_weight m_salted m_heat m_isBad m_isSold m_sealedFeed m_hook m_should m_on m_warmth m_damp m_isOpen m_fFarm m_fFrom m_fWhat m_fTold m_rule m_draft m_tape m_five m_those) H → va_D A (wM ad cB cI cZ cL m_thrown m_today m_legs m_feeds m_taped m_point m_end m_begin m_faultAt m_farm m_pig m_begun m_first m_weight m_salted m_heat m_isBad m_isSold m_sealedFeed m_hook m_should m_on m_warmth m_damp m_isOpen m_fFarm m_fFrom m_fWhat m_fTold m_rule m_draft m_tape m_five m_those) → va_S A s.heap H locs → lv_has ls 3 [(0, .ref (ad 0)), (1, .int v1)] → bk_M_X8_legDay_138 m_first m_hook m_warmth m_damp Q m_weight m_salted m_heat m_isBad v1 k0 k1 k2 → W p l e (headSpec wsX8_legDay rm_M_X8_legDay).room s m ([.ref (ad 0), .int p0] : List Value).toArray below meth c H locs 0 0 (MQ below (pq_M_X8_legDay dC dI ad cB cI cZ cL A m_thrown m_today m_legs m_feeds m_taped m_point m_end m_begin m_faultAt m_farm m_pig m_begun m_first m_weight m_salted m_heat m_isBad m_isSold m_sealedFeed m_hook m_should m_on m_warmth m_damp m_isOpen m_fFarm m_fFrom m_fWhat m_fTold m_rule m_draft m_tape m_five m_those Q) ([.ref (ad 0), .int p0] : List Value).toArray s 0 0 A) (F0 m 138 ls [.int k0, .int k1, .int k2, .ref (ad 7)]) := by
    intro m_weight m_salted m_heat m_isBad v1 k0 k1 k2 H locs ls hP hD hS hl h
    refine lv_iadd hx hb dX8_legDay_138 ?_
    have hi_8 := h.1
    have h := h.2
    refine va_iast hx hb hK hP hD hS 7 1 wM_g7 rfl hi_8 dX8_legDay_139 (fun H locs hP2 hD2 hS => ?_)
    have hP : va_P (dC, dI) vwCl (wM ad cB cI cZ cL m_thrown m_today m_legs m_feeds m_taped m_point m_end m_begin m_faultAt m_farm m_pig m_begun m_first m_weight m_salted (upd m_heat k2.toNatClampNeg (k1 + k0)) m_isBad m_isSold m_sealedFeed m_hook m_should m_on m_warmth m_damp m_isOpen m_fFarm m_fFrom m_fWhat m_fTold m_rule m_draft m_tape m_five m_those) H := hP_eq (wM_p_m_heat) hP2
    have hD : va_D A (wM ad cB cI cZ cL m_thrown m_today m_legs m_feeds m_taped m_point m_end m_begin m_faultAt m_farm m_pig m_begun m_first m_weight m_salted (upd m_heat k2.toNatClampNeg (k1 + k0)) m_isBad m_isSold m_sealedFeed m_hook m_should m_on m_warmth m_damp m_isOpen m_fFarm m_fFrom m_fWhat m_fTold m_rule m_draft m_tape m_five m_those) := hD_eq (wM_p_m_heat) hD2
    refine lv_aload_n hx hb dX8_legDay_140 rfl (lv_at hl 0 rfl) ?_
    refine va_get (D := (dC, dI)) (ci := 8) (v := .ref (ad 7)) (C := RX8) (T := TX8) (N := 34) hx hb hts hk_1 hown hK hP 0 wM_g0 rfl 8 (by decide) hk_2 (fun _ h9 => h9) rfl dX8_legDay_141 ?_
    refine lv_iload_n hx hb dX8_legDay_144 rfl (lv_at hl 1 rfl) ?_
    have hi_9 := h.1
    have h := h.2
    refine va_iald hx hb hK hP 7 1 wM_g7 rfl hi_9 dX8_legDay_145 ?_
    refine lv_bipush (v := 20) hx hb dX8_legDay_146 (by decide) ?_
    refine lv_aload_n hx hb dX8_legDay_148 rfl (lv_at hl 0 rfl) ?_
    refine va_get (D := (dC, dI)) (ci := 8) (v := .ref (ad 6)) (C := RX8) (T := TX8) (N := 34) hx hb hts hk_1 hown hK hP 0 wM_g0 rfl 7 (by decide) hk_3 (fun _ h9 => h9) rfl dX8_legDay_149 ?_
    refine lv_iload_n hx hb dX8_legDay_152 rfl (lv_at hl 1 rfl) ?_
    have hi_10 := h.1
    have h := h.2
    refine va_iald hx hb hK hP 6 1 wM_g6 rfl hi_10 dX8_legDay_153 ?_
    refine lv_imul hx hb dX8_legDay_154 ?_
    refine lv_icmp_le (tgt := 184) hx hb dX8_legDay_155 (by decide) (fun c_11 => ?_) (fun c_11 => ?_)
    · have h := h.1 c_11
      exact W.vret hx hb hr (fun t ht hW => ⟨⟨(m_weight, m_salted, upd m_heat k2.toNatClampNeg (k1 + k0), m_isBad), rfl, h, kB_mk hP hK hD ht hW.alike⟩, hS.F ht⟩) hS.2.2 dX8_legDay_184
    · have h := h.2 c_11
      refine lv_aload_n hx hb dX8_legDay_158 rfl (lv_at hl 0 rfl) ?_
      refine va_get (D := (dC, dI)) (ci := 8) (v := .ref (ad 6)) (C := RX8) (T := TX8) (N := 34) hx hb hts hk_1 hown hK hP 0 wM_g0 rfl 7 (by decide) hk_3 (fun _ h9 => h9) rfl dX8_legDay_159 ?_
      refine lv_iload_n hx hb dX8_legDay_162 rfl (lv_at hl 1 rfl) ?_
      have hi_12 := h.1
      have h := h.2
      refine va_iald hx hb hK hP 6 1 wM_g6 rfl hi_12 dX8_legDay_163 ?_
      refine lv_aload_n hx hb dX8_legDay_164 rfl (lv_at hl 0 rfl) ?_
      refine va_get (D := (dC, dI)) (ci := 8) (v := .ref (ad 4)) (C := RX8) (T := TX8) (N := 34) hx hb hts hk_1 hown hK hP 0 wM_g0 rfl 5 (by decide) hk_4 (fun _ h9 => h9) rfl dX8_legDay_165 ?_
      refine lv_iload_n hx hb dX8_legDay_168 rfl (lv_at hl 1 rfl) ?_
      have hi_13 := h.1
      have h := h.2
      refine va_iald hx hb hK hP 4 1 wM_g4 rfl hi_13 dX8_legDay_169 ?_
      refine lv_sipush (v := 1000) hx hb dX8_legDay_170 (by decide) ?_
      refine lv_idiv hx hb dX8_legDay_173 (by decide) ?_
      refine lv_icmp_ge (tgt := 184) hx hb dX8_legDay_174 (by decide) (fun c_14 => ?_) (fun c_14 => ?_)
      · have h := h.1 c_14
        exact W.vret hx hb hr (fun t ht hW => ⟨⟨(m_weight, m_salted, upd m_heat k2.toNatClampNeg (k1 + k0), m_isBad), rfl, h, kB_mk hP hK hD ht hW.alike⟩, hS.F ht⟩) hS.2.2 dX8_legDay_184
      · have h := h.2 c_14
        refine lv_aload_n hx hb dX8_legDay_177 rfl (lv_at hl 0 rfl) ?_
        refine va_get (D := (dC, dI)) (ci := 8) (v := .ref (ad 8)) (C := RX8) (T := TX8) (N := 34) hx hb hts hk_1 hown hK hP 0 wM_g0 rfl 9 (by decide) hk_5 (fun _ h9 => h9) rfl dX8_legDay_178 ?_
        refine lv_iload_n hx hb dX8_legDay_181 rfl (lv_at hl 1 rfl) ?_
        refine lv_iconst (v := 1) hx hb dX8_legDay_182 (by decide) ?_
        have hi_15 := h.1
        have h := h.2
        refine va_zast hx hb hK hP hD hS 8 2 wM_g8 rfl hi_15 dX8_legDay_183 (fun H locs hP2 hD2 hS => ?_)
        have hP : va_P (dC, dI) vwCl (wM ad cB cI cZ cL m_thrown m_today m_legs m_feeds m_taped m_point m_end m_begin m_faultAt m_farm m_pig m_begun m_first m_weight m_salted (upd m_heat k2.toNatClampNeg (k1 + k0)) (upd m_isBad v1.toNatClampNeg (vp_nar .boolean 1)) m_isSold m_sealedFeed m_hook m_should m_on m_warmth m_damp m_isOpen m_fFarm m_fFrom m_fWhat m_fTold m_rule m_draft m_tape m_five m_those) H := hP_eq (wM_p_m_isBad) hP2
        have hD : va_D A (wM ad cB cI cZ cL m_thrown m_today m_legs m_feeds m_taped m_point m_end m_begin m_faultAt m_farm m_pig m_begun m_first m_weight m_salted (upd m_heat k2.toNatClampNeg (k1 + k0)) (upd m_isBad v1.toNatClampNeg (vp_nar .boolean 1)) m_isSold m_sealedFeed m_hook m_should m_on m_warmth m_damp m_isOpen m_fFarm m_fFrom m_fWhat m_fTold m_rule m_draft m_tape m_five m_those) := hD_eq (wM_p_m_isBad) hD2
        exact W.vret hx hb hr (fun t ht hW => ⟨⟨(m_weight, m_salted, upd m_heat k2.toNatClampNeg (k1 + k0), upd m_isBad v1.toNatClampNeg (vp_nar .boolean 1)), rfl, h, kB_mk hP hK hD ht hW.alike⟩, hS.F ht⟩) hS.2.2 dX8_legDay_184
  have hbk_M_X8_legDay_109 : ∀ (m_weight : Nat → Int32) (m_salted : Nat → Int32) (m_heat : Nat → Int32) (m_isBad : Nat → Int32) (v1 : Int32) (v2 : Int32) (H : Heap) (locs : List Loc) (ls : Array Slot), va_P (dC, dI) vwCl (wM ad cB cI cZ cL m_thrown m_today m_legs m_feeds m_taped m_point m_end m_begin m_faultAt m_farm m_pig m_begun m_first m_weight m_salted m_heat m_isBad m_isSold m_sealedFeed m_hook m_should m_on m_warmth m_damp m_isOpen m_fFarm m_fFrom m_fWhat m_fTold m_rule m_draft m_tape m_five m_those) H → va_D A (wM ad cB cI cZ cL m_thrown m_today m_legs m_feeds m_taped m_point m_end m_begin m_faultAt m_farm m_pig m_begun m_first m_weight m_salted m_heat m_isBad m_isSold m_sealedFeed m_hook m_should m_on m_warmth m_damp m_isOpen m_fFarm m_fFrom m_fWhat m_fTold m_rule m_draft m_tape m_five m_those) → va_S A s.heap H locs → lv_has ls 3 [(0, .ref (ad 0)), (1, .int v1), (2, .int v2)] → bk_M_X8_legDay_109 m_first m_hook m_warmth m_damp Q m_weight m_salted m_heat m_isBad v1 v2 → W p l e (headSpec wsX8_legDay rm_M_X8_legDay).room s m ([.ref (ad 0), .int p0] : List Value).toArray below meth c H locs 0 0 (MQ below (pq_M_X8_legDay dC dI ad cB cI cZ cL A m_thrown m_today m_legs m_feeds m_taped m_point m_end m_begin m_faultAt m_farm m_pig m_begun m_first m_weight m_salted m_heat m_isBad m_isSold m_sealedFeed m_hook m_should m_on m_warmth m_damp m_isOpen m_fFarm m_fFrom m_fWhat m_fTold m_rule m_draft m_tape m_five m_those Q) ([.ref (ad 0), .int p0] : List Value).toArray s 0 0 A) (F0 m 109 ls []) := by
    intro m_weight m_salted m_heat m_isBad v1 v2 H locs ls hP hD hS hl h
    refine lv_aload_n hx hb dX8_legDay_109 rfl (lv_at hl 0 rfl) ?_
    refine va_get (D := (dC, dI)) (ci := 8) (v := .ref (ad 7)) (C := RX8) (T := TX8) (N := 34) hx hb hts hk_1 hown hK hP 0 wM_g0 rfl 8 (by decide) hk_2 (fun _ h9 => h9) rfl dX8_legDay_110 ?_
    refine lv_iload_n hx hb dX8_legDay_113 rfl (lv_at hl 1 rfl) ?_
    refine lv_dup2_11 hx hb dX8_legDay_114 rfl rfl ?_
    have hi_6 := h.1
    have h := h.2
    refine va_iald hx hb hK hP 7 1 wM_g7 rfl hi_6 dX8_legDay_115 ?_
    refine lv_iload_n hx hb dX8_legDay_116 rfl (lv_at hl 2 rfl) ?_
    refine lv_if_le (tgt := 136) hx hb dX8_legDay_117 (by decide) (fun c_7 => ?_) (fun c_7 => ?_)
    · have h := h.1 c_7
      refine lv_bipush (v := 8) hx hb dX8_legDay_136 (by decide) ?_
      exact hbk_M_X8_legDay_138 m_weight m_salted m_heat m_isBad v1 8 (m_heat v1.toNatClampNeg) v1 _ _ _ hP hD hS (lv_sub hl [0, 1] rfl) h
    · have h := h.2 c_7
      refine lv_iconst (v := 0) hx hb dX8_legDay_120 (by decide) ?_
      refine lv_aload_n hx hb dX8_legDay_121 rfl (lv_at hl 0 rfl) ?_
      refine va_get (D := (dC, dI)) (ci := 8) (v := .ref (ad 14)) (C := RX8) (T := TX8) (N := 34) hx hb hts hk_1 hown hK hP 0 wM_g0 rfl 16 (by decide) hk_6 (fun _ h9 => h9) rfl dX8_legDay_122 ?_
      refine lv_iload_n hx hb dX8_legDay_125 rfl (lv_at hl 2 rfl) ?_
      have hi_16 := h.1
      have h := h.2
      refine va_iald hx hb hK hP 14 1 wM_g14 rfl hi_16 dX8_legDay_126 ?_
      refine lv_bipush (v := 12) hx hb dX8_legDay_127 (by decide) ?_
      refine lv_isub hx hb dX8_legDay_129 ?_
      refine va_mmax hx hb (hml.trans hl.1.symm) hown hk_7 hk_8 hk_9 hk_10 (Nat.le_of_ble_eq_true rfl) (Nat.le_of_ble_eq_true rfl) (Nat.le_of_ble_eq_true rfl) (Nat.le_of_ble_eq_true rfl) (x := 0) (y := ((m_warmth v2.toNatClampNeg) - 12)) dX8_legDay_130 ?_
      refine lv_goto (tgt := 138) hx hb dX8_legDay_133 (by decide) ?_
      exact hbk_M_X8_legDay_138 m_weight m_salted m_heat m_isBad v1 (if 0 < ((m_warmth v2.toNatClampNeg) - 12) then ((m_warmth v2.toNatClampNeg) - 12) else 0) (m_heat v1.toNatClampNeg) v1 _ _ _ hP hD hS (lv_sub hl [0, 1] rfl) h
  have hbk_M_X8_legDay_22 : ∀ (m_weight : Nat → Int32) (m_salted : Nat → Int32) (m_heat : Nat → Int32) (m_isBad : Nat → Int32) (v1 : Int32) (k0 : Int32) (H : Heap) (locs : List Loc) (ls : Array Slot), va_P (dC, dI) vwCl (wM ad cB cI cZ cL m_thrown m_today m_legs m_feeds m_taped m_point m_end m_begin m_faultAt m_farm m_pig m_begun m_first m_weight m_salted m_heat m_isBad m_isSold m_sealedFeed m_hook m_should m_on m_warmth m_damp m_isOpen m_fFarm m_fFrom m_fWhat m_fTold m_rule m_draft m_tape m_five m_those) H → va_D A (wM ad cB cI cZ cL m_thrown m_today m_legs m_feeds m_taped m_point m_end m_begin m_faultAt m_farm m_pig m_begun m_first m_weight m_salted m_heat m_isBad m_isSold m_sealedFeed m_hook m_should m_on m_warmth m_damp m_isOpen m_fFarm m_fFrom m_fWhat m_fTold m_rule m_draft m_tape m_five m_those) → va_S A s.heap H locs → lv_has ls 3 [(0, .ref (ad 0)), (1, .int v1)] → bk_M_X8_legDay_22 m_first m_hook m_warmth m_damp Q m_weight m_salted m_heat m_isBad v1 k0 → W p l e (headSpec wsX8_legDay rm_M_X8_legDay).room s m ([.ref (ad 0), .int p0] : List Value).toArray below meth c H locs 0 0 (MQ below (pq_M_X8_legDay dC dI ad cB cI cZ cL A m_thrown m_today m_legs m_feeds m_taped m_point m_end m_begin m_faultAt m_farm m_pig m_begun m_first m_weight m_salted m_heat m_isBad m_isSold m_sealedFeed m_hook m_should m_on m_warmth m_damp m_isOpen m_fFarm m_fFrom m_fWhat m_fTold m_rule m_draft m_tape m_five m_those Q) ([.ref (ad 0), .int p0] : List Value).toArray s 0 0 A) (F0 m 22 ls [.int k0]) := by
    intro m_weight m_salted m_heat m_isBad v1 k0 H locs ls hP hD hS hl h
    refine lv_istore_n (lv' := [(2, .int k0), (0, .ref (ad 0)), (1, .int v1)]) hx hb dX8_legDay_22 rfl hl (by decide) rfl (fun ls hl => ?_)
    refine lv_iload_n hx hb dX8_legDay_23 rfl (lv_at hl 0 rfl) ?_
    refine lv_if_ne (tgt := 57) hx hb dX8_legDay_24 (by decide) (fun c_4 => ?_) (fun c_4 => ?_)
    · have h := h.1 c_4
      refine lv_iload_n hx hb dX8_legDay_57 rfl (lv_at hl 0 rfl) ?_
      refine lv_if_le (tgt := 109) hx hb dX8_legDay_58 (by decide) (fun c_5 => ?_) (fun c_5 => ?_)
      · have h := h.1 c_5
        exact hbk_M_X8_legDay_109 m_weight m_salted m_heat m_isBad v1 k0 _ _ _ hP hD hS (lv_sub hl [1, 2, 0] rfl) h
      · have h := h.2 c_5
        refine lv_aload_n hx hb dX8_legDay_61 rfl (lv_at hl 1 rfl) ?_
        refine va_get (D := (dC, dI)) (ci := 8) (v := .ref (ad 5)) (C := RX8) (T := TX8) (N := 34) hx hb hts hk_1 hown hK hP 0 wM_g0 rfl 6 (by decide) hk_11 (fun _ h9 => h9) rfl dX8_legDay_62 ?_
        refine lv_iload_n hx hb dX8_legDay_65 rfl (lv_at hl 2 rfl) ?_
        refine lv_dup2_11 hx hb dX8_legDay_66 rfl rfl ?_
        have hi_17 := h.1
        have h := h.2
        refine va_iald hx hb hK hP 5 1 wM_g5 rfl hi_17 dX8_legDay_67 ?_
        refine lv_aload_n hx hb dX8_legDay_68 rfl (lv_at hl 1 rfl) ?_
        refine va_get (D := (dC, dI)) (ci := 8) (v := .ref (ad 5)) (C := RX8) (T := TX8) (N := 34) hx hb hts hk_1 hown hK hP 0 wM_g0 rfl 6 (by decide) hk_11 (fun _ h9 => h9) rfl dX8_legDay_69 ?_
        refine lv_iload_n hx hb dX8_legDay_72 rfl (lv_at hl 2 rfl) ?_
        have hi_18 := h.1
        have h := h.2
        refine va_iald hx hb hK hP 5 1 wM_g5 rfl hi_18 dX8_legDay_73 ?_
        refine lv_i2l (v := (m_weight v1.toNatClampNeg).toInt64) hx hb dX8_legDay_74 rfl ?_
        refine lv_bipush (v := 100) hx hb dX8_legDay_75 (by decide) ?_
        refine lv_aload_n hx hb dX8_legDay_77 rfl (lv_at hl 1 rfl) ?_
        refine va_get (D := (dC, dI)) (ci := 8) (v := .ref (ad 15)) (C := RX8) (T := TX8) (N := 34) hx hb hts hk_1 hown hK hP 0 wM_g0 rfl 17 (by decide) hk_12 (fun _ h9 => h9) rfl dX8_legDay_78 ?_
        refine lv_iload_n hx hb dX8_legDay_81 rfl (lv_at hl 0 rfl) ?_
        have hi_19 := h.1
        have h := h.2
        refine va_iald hx hb hK hP 15 1 wM_g15 rfl hi_19 dX8_legDay_82 ?_
        refine lv_isub hx hb dX8_legDay_83 ?_
        refine lv_iconst (v := 5) hx hb dX8_legDay_84 (by decide) ?_
        refine lv_iconst (v := 0) hx hb dX8_legDay_85 (by decide) ?_
        refine lv_aload_n hx hb dX8_legDay_86 rfl (lv_at hl 1 rfl) ?_
        refine va_get (D := (dC, dI)) (ci := 8) (v := .ref (ad 14)) (C := RX8) (T := TX8) (N := 34) hx hb hts hk_1 hown hK hP 0 wM_g0 rfl 16 (by decide) hk_6 (fun _ h9 => h9) rfl dX8_legDay_87 ?_
        refine lv_iload_n hx hb dX8_legDay_90 rfl (lv_at hl 0 rfl) ?_
        have hi_20 := h.1
        have h := h.2
        refine va_iald hx hb hK hP 14 1 wM_g14 rfl hi_20 dX8_legDay_91 ?_
        refine va_mmax hx hb (hml.trans hl.1.symm) hown hk_7 hk_8 hk_9 hk_10 (Nat.le_of_ble_eq_true rfl) (Nat.le_of_ble_eq_true rfl) (Nat.le_of_ble_eq_true rfl) (Nat.le_of_ble_eq_true rfl) (x := 0) (y := (m_warmth k0.toNatClampNeg)) dX8_legDay_92 ?_
        refine lv_iadd hx hb dX8_legDay_95 ?_
        refine lv_imul hx hb dX8_legDay_96 ?_
        refine lv_bipush (v := 10) hx hb dX8_legDay_97 (by decide) ?_
        refine lv_idiv hx hb dX8_legDay_99 (by decide) ?_
        refine lv_i2l (v := (((100 - (m_damp k0.toNatClampNeg)) * (5 + (if 0 < (m_warmth k0.toNatClampNeg) then (m_warmth k0.toNatClampNeg) else 0))) / 10).toInt64) hx hb dX8_legDay_100 rfl ?_
        refine lv_lmul hx hb dX8_legDay_101 ?_
        refine lv_ldc2 hx hb hown hk_13 dX8_legDay_102 ?_
        refine lv_ldiv hx hb dX8_legDay_105 (by decide) ?_
        refine lv_l2i (v := ((((m_weight v1.toNatClampNeg).toInt64) * ((((100 - (m_damp k0.toNatClampNeg)) * (5 + (if 0 < (m_warmth k0.toNatClampNeg) then (m_warmth k0.toNatClampNeg) else 0))) / 10).toInt64)) / 100000).toInt32) hx hb dX8_legDay_106 rfl ?_
        refine lv_isub hx hb dX8_legDay_107 ?_
        have hi_21 := h.1
        have h := h.2
        refine va_iast hx hb hK hP hD hS 5 1 wM_g5 rfl hi_21 dX8_legDay_108 (fun H locs hP2 hD2 hS => ?_)
        have hP : va_P (dC, dI) vwCl (wM ad cB cI cZ cL m_thrown m_today m_legs m_feeds m_taped m_point m_end m_begin m_faultAt m_farm m_pig m_begun m_first (upd m_weight v1.toNatClampNeg ((m_weight v1.toNatClampNeg) - (((((m_weight v1.toNatClampNeg).toInt64) * ((((100 - (m_damp k0.toNatClampNeg)) * (5 + (if 0 < (m_warmth k0.toNatClampNeg) then (m_warmth k0.toNatClampNeg) else 0))) / 10).toInt64)) / 100000).toInt32))) m_salted m_heat m_isBad m_isSold m_sealedFeed m_hook m_should m_on m_warmth m_damp m_isOpen m_fFarm m_fFrom m_fWhat m_fTold m_rule m_draft m_tape m_five m_those) H := hP_eq (wM_p_m_weight) hP2
        have hD : va_D A (wM ad cB cI cZ cL m_thrown m_today m_legs m_feeds m_taped m_point m_end m_begin m_faultAt m_farm m_pig m_begun m_first (upd m_weight v1.toNatClampNeg ((m_weight v1.toNatClampNeg) - (((((m_weight v1.toNatClampNeg).toInt64) * ((((100 - (m_damp k0.toNatClampNeg)) * (5 + (if 0 < (m_warmth k0.toNatClampNeg) then (m_warmth k0.toNatClampNeg) else 0))) / 10).toInt64)) / 100000).toInt32))) m_salted m_heat m_isBad m_isSold m_sealedFeed m_hook m_should m_on m_warmth m_damp m_isOpen m_fFarm m_fFrom m_fWhat m_fTold m_rule m_draft m_tape m_five m_those) := hD_eq (wM_p_m_weight) hD2
        exact hbk_M_X8_legDay_109 (upd m_weight v1.toNatClampNeg ((m_weight v1.toNatClampNeg) - (((((m_weight v1.toNatClampNeg).toInt64) * ((((100 - (m_damp k0.toNatClampNeg)) * (5 + (if 0 < (m_warmth k0.toNatClampNeg) then (m_warmth k0.toNatClampNeg) else 0))) / 10).toInt64)) / 100000).toInt32))) m_salted m_heat m_isBad v1 k0 _ _ _ hP hD hS (lv_sub hl [1, 2, 0] rfl) h
    · have h := h.2 c_4
      refine lv_aload_n hx hb dX8_legDay_27 rfl (lv_at hl 1 rfl) ?_
      refine va_get (D := (dC, dI)) (ci := 8) (v := .ref (ad 6)) (C := RX8) (T := TX8) (N := 34) hx hb hts hk_1 hown hK hP 0 wM_g0 rfl 7 (by decide) hk_3 (fun _ h9 => h9) rfl dX8_legDay_28 ?_
      refine lv_iload_n hx hb dX8_legDay_31 rfl (lv_at hl 2 rfl) ?_
      refine lv_dup2_11 hx hb dX8_legDay_32 rfl rfl ?_
      have hi_22 := h.1
      have h := h.2
      refine va_iald hx hb hK hP 6 1 wM_g6 rfl hi_22 dX8_legDay_33 ?_
      refine lv_iconst (v := 1) hx hb dX8_legDay_34 (by decide) ?_
      refine lv_iadd hx hb dX8_legDay_35 ?_
      have hi_23 := h.1
      have h := h.2
      refine va_iast hx hb hK hP hD hS 6 1 wM_g6 rfl hi_23 dX8_legDay_36 (fun H locs hP2 hD2 hS => ?_)
      have hP : va_P (dC, dI) vwCl (wM ad cB cI cZ cL m_thrown m_today m_legs m_feeds m_taped m_point m_end m_begin m_faultAt m_farm m_pig m_begun m_first m_weight (upd m_salted v1.toNatClampNeg ((m_salted v1.toNatClampNeg) + 1)) m_heat m_isBad m_isSold m_sealedFeed m_hook m_should m_on m_warmth m_damp m_isOpen m_fFarm m_fFrom m_fWhat m_fTold m_rule m_draft m_tape m_five m_those) H := hP_eq (wM_p_m_salted) hP2
      have hD : va_D A (wM ad cB cI cZ cL m_thrown m_today m_legs m_feeds m_taped m_point m_end m_begin m_faultAt m_farm m_pig m_begun m_first m_weight (upd m_salted v1.toNatClampNeg ((m_salted v1.toNatClampNeg) + 1)) m_heat m_isBad m_isSold m_sealedFeed m_hook m_should m_on m_warmth m_damp m_isOpen m_fFarm m_fFrom m_fWhat m_fTold m_rule m_draft m_tape m_five m_those) := hD_eq (wM_p_m_salted) hD2
      refine lv_aload_n hx hb dX8_legDay_37 rfl (lv_at hl 1 rfl) ?_
      refine va_get (D := (dC, dI)) (ci := 8) (v := .ref (ad 5)) (C := RX8) (T := TX8) (N := 34) hx hb hts hk_1 hown hK hP 0 wM_g0 rfl 6 (by decide) hk_11 (fun _ h9 => h9) rfl dX8_legDay_38 ?_
      refine lv_iload_n hx hb dX8_legDay_41 rfl (lv_at hl 2 rfl) ?_
      refine lv_dup2_11 hx hb dX8_legDay_42 rfl rfl ?_
      have hi_24 := h.1
      have h := h.2
      refine va_iald hx hb hK hP 5 1 wM_g5 rfl hi_24 dX8_legDay_43 ?_
      refine lv_aload_n hx hb dX8_legDay_44 rfl (lv_at hl 1 rfl) ?_
      refine va_get (D := (dC, dI)) (ci := 8) (v := .ref (ad 5)) (C := RX8) (T := TX8) (N := 34) hx hb hts hk_1 hown hK hP 0 wM_g0 rfl 6 (by decide) hk_11 (fun _ h9 => h9) rfl dX8_legDay_45 ?_
      refine lv_iload_n hx hb dX8_legDay_48 rfl (lv_at hl 2 rfl) ?_
      have hi_25 := h.1
      have h := h.2
      refine va_iald hx hb hK hP 5 1 wM_g5 rfl hi_25 dX8_legDay_49 ?_
      refine lv_sipush (v := 1000) hx hb dX8_legDay_50 (by decide) ?_
      refine lv_idiv hx hb dX8_legDay_53 (by decide) ?_
      refine lv_isub hx hb dX8_legDay_54 ?_
      have hi_26 := h.1
      have h := h.2
      refine va_iast hx hb hK hP hD hS 5 1 wM_g5 rfl hi_26 dX8_legDay_55 (fun H locs hP2 hD2 hS => ?_)
      have hP : va_P (dC, dI) vwCl (wM ad cB cI cZ cL m_thrown m_today m_legs m_feeds m_taped m_point m_end m_begin m_faultAt m_farm m_pig m_begun m_first (upd m_weight v1.toNatClampNeg ((m_weight v1.toNatClampNeg) - ((m_weight v1.toNatClampNeg) / 1000))) (upd m_salted v1.toNatClampNeg ((m_salted v1.toNatClampNeg) + 1)) m_heat m_isBad m_isSold m_sealedFeed m_hook m_should m_on m_warmth m_damp m_isOpen m_fFarm m_fFrom m_fWhat m_fTold m_rule m_draft m_tape m_five m_those) H := hP_eq (wM_p_m_weight) hP2
      have hD : va_D A (wM ad cB cI cZ cL m_thrown m_today m_legs m_feeds m_taped m_point m_end m_begin m_faultAt m_farm m_pig m_begun m_first (upd m_weight v1.toNatClampNeg ((m_weight v1.toNatClampNeg) - ((m_weight v1.toNatClampNeg) / 1000))) (upd m_salted v1.toNatClampNeg ((m_salted v1.toNatClampNeg) + 1)) m_heat m_isBad m_isSold m_sealedFeed m_hook m_should m_on m_warmth m_damp m_isOpen m_fFarm m_fFrom m_fWhat m_fTold m_rule m_draft m_tape m_five m_those) := hD_eq (wM_p_m_weight) hD2
      exact W.vret hx hb hr (fun t ht hW => ⟨⟨(upd m_weight v1.toNatClampNeg ((m_weight v1.toNatClampNeg) - ((m_weight v1.toNatClampNeg) / 1000)), upd m_salted v1.toNatClampNeg ((m_salted v1.toNatClampNeg) + 1), m_heat, m_isBad), rfl, h, kB_mk hP hK hD ht hW.alike⟩, hS.F ht⟩) hS.2.2 dX8_legDay_56
  have hl := lv_entry ([.ref (ad 0), .int p0]) (n := 3) (Nat.le_of_ble_eq_true rfl)
  rw [lg_entry_eq]
  generalize (lg_sl ([.ref (ad 0), .int p0]) ++ List.replicate (3 - (lg_sl ([.ref (ad 0), .int p0])).length) Slot.unset).toArray = ls at hl ⊢
  have hl : lv_has ls 3 [(0, .ref (ad 0)), (1, .int p0)] := hl
  unfold wp_M_X8_legDay at h
  refine lv_aload_n hx hb dX8_legDay_0 rfl (lv_at hl 0 rfl) ?_
  refine va_get (D := (dC, dI)) (ci := 8) (v := .ref (ad 11)) (C := RX8) (T := TX8) (N := 34) hx hb hts hk_1 hown hK hP 0 wM_g0 rfl 12 (by decide) hk_0 (fun _ h9 => h9) rfl dX8_legDay_1 ?_
  refine lv_iload_n hx hb dX8_legDay_4 rfl (lv_at hl 1 rfl) ?_
  have hi_1 := h.1
  have h := h.2
  refine va_iald hx hb hK hP 11 1 wM_g11 rfl hi_1 dX8_legDay_5 ?_
  refine lv_if_ge (tgt := 13) hx hb dX8_legDay_6 (by decide) (fun c_2 => ?_) (fun c_2 => ?_)
  · have h := h.1 c_2
    refine lv_aload_n hx hb dX8_legDay_13 rfl (lv_at hl 0 rfl) ?_
    refine va_get (D := (dC, dI)) (ci := 8) (v := .ref (ad 11)) (C := RX8) (T := TX8) (N := 34) hx hb hts hk_1 hown hK hP 0 wM_g0 rfl 12 (by decide) hk_0 (fun _ h9 => h9) rfl dX8_legDay_14 ?_
    refine lv_iload_n hx hb dX8_legDay_17 rfl (lv_at hl 1 rfl) ?_
    have hi_3 := h.1
    have h := h.2
    refine va_iald hx hb hK hP 11 1 wM_g11 rfl hi_3 dX8_legDay_18 ?_
    refine lv_bipush (v := 10) hx hb dX8_legDay_19 (by decide) ?_
    refine lv_idiv hx hb dX8_legDay_21 (by decide) ?_
    exact hbk_M_X8_legDay_22 m_weight m_salted m_heat m_isBad p0 ((m_hook p0.toNatClampNeg) / 10) _ _ _ hP hD hS (lv_sub hl [0, 1] rfl) h
  · have h := h.2 c_2
    refine lv_iconst (v := (-1)) hx hb dX8_legDay_9 (by decide) ?_
    refine lv_goto (tgt := 22) hx hb dX8_legDay_10 (by decide) ?_
    exact hbk_M_X8_legDay_22 m_weight m_salted m_heat m_isBad p0 (-1) _ _ _ hP hD hS (lv_sub hl [0, 1] rfl) h
def bk_M_X8_days_132 (m_legs : Int32) (m_first : Nat → Int32) (m_isSold : Nat → Int32) (m_hook : Nat → Int32) (m_isOpen : Nat → Int32)  (Q : Int32 → Int32 → Int32 → (Nat → Int32) → (Nat → Int32) → (Nat → Int32) → (Nat → Int32) → (Nat → Int32) → (Nat → Int32) → Prop) (K33 : Int32 → Int32 → (Nat → Int32) → (Nat → Int32) → (Nat → Int32) → (Nat → Int32) → (Nat → Int32) → (Nat → Int32) → Int32 → Int32 → Prop) (K110 : Int32 → Int32 → (Nat → Int32) → (Nat → Int32) → (Nat → Int32) → (Nat → Int32) → (Nat → Int32) → (Nat → Int32) → Int32 → Int32 → Int32 → Prop) (m_thrown : Int32) (m_today : Int32) (m_weight : Nat → Int32) (m_salted : Nat → Int32) (m_heat : Nat → Int32) (m_isBad : Nat → Int32) (m_warmth : Nat → Int32) (m_damp : Nat → Int32) (v1 : Int32) (v2 : Int32) (v3 : Int32) : Prop := K110 m_thrown m_today m_weight m_salted m_heat m_isBad m_warmth m_damp v1 v2 (v3 + 1)
def lp_M_X8_days_110 (m_legs : Int32) (m_first : Nat → Int32) (m_isSold : Nat → Int32) (m_hook : Nat → Int32) (m_isOpen : Nat → Int32)  (Q : Int32 → Int32 → Int32 → (Nat → Int32) → (Nat → Int32) → (Nat → Int32) → (Nat → Int32) → (Nat → Int32) → (Nat → Int32) → Prop) (K33 : Int32 → Int32 → (Nat → Int32) → (Nat → Int32) → (Nat → Int32) → (Nat → Int32) → (Nat → Int32) → (Nat → Int32) → Int32 → Int32 → Prop) : Nat → Int32 → Int32 → (Nat → Int32) → (Nat → Int32) → (Nat → Int32) → (Nat → Int32) → (Nat → Int32) → (Nat → Int32) → Int32 → Int32 → Int32 → Prop
  | 0 => fun _ _ _ _ _ _ _ _ _ _ _ => False
  | n + 1 => fun m_thrown m_today m_weight m_salted m_heat m_isBad m_warmth m_damp v1 v2 v3 => ((m_legs ≤ v3 → K33 m_thrown m_today m_weight m_salted m_heat m_isBad m_warmth m_damp v1 (v2 + 1)) ∧ (¬ (m_legs ≤ v3) → (vp_in v3 60 ∧ ((¬ (m_isSold v3.toNatClampNeg) = 0 → bk_M_X8_days_132 m_legs m_first m_isSold m_hook m_isOpen Q K33 (lp_M_X8_days_110 m_legs m_first m_isSold m_hook m_isOpen Q K33 n) m_thrown m_today m_weight m_salted m_heat m_isBad m_warmth m_damp v1 v2 v3) ∧ ((m_isSold v3.toNatClampNeg) = 0 → wp_M_X8_legDay m_first m_hook m_warmth m_damp (fun m_weight_11 m_salted_11 m_heat_11 m_isBad_11 => bk_M_X8_days_132 m_legs m_first m_isSold m_hook m_isOpen Q K33 (lp_M_X8_days_110 m_legs m_first m_isSold m_hook m_isOpen Q K33 n) m_thrown m_today m_weight_11 m_salted_11 m_heat_11 m_isBad_11 m_warmth m_damp v1 v2 v3) m_weight m_salted m_heat m_isBad v3)))))
def bk_M_X8_days_102 (m_legs : Int32) (m_first : Nat → Int32) (m_isSold : Nat → Int32) (m_hook : Nat → Int32) (m_isOpen : Nat → Int32)  (Q : Int32 → Int32 → Int32 → (Nat → Int32) → (Nat → Int32) → (Nat → Int32) → (Nat → Int32) → (Nat → Int32) → (Nat → Int32) → Prop) (K33 : Int32 → Int32 → (Nat → Int32) → (Nat → Int32) → (Nat → Int32) → (Nat → Int32) → (Nat → Int32) → (Nat → Int32) → Int32 → Int32 → Prop) (K60 : Int32 → Int32 → (Nat → Int32) → (Nat → Int32) → (Nat → Int32) → (Nat → Int32) → (Nat → Int32) → (Nat → Int32) → Int32 → Int32 → Int32 → Prop) (m_thrown : Int32) (m_today : Int32) (m_weight : Nat → Int32) (m_salted : Nat → Int32) (m_heat : Nat → Int32) (m_isBad : Nat → Int32) (m_warmth : Nat → Int32) (m_damp : Nat → Int32) (v1 : Int32) (v2 : Int32) (v3 : Int32) : Prop := K60 m_thrown m_today m_weight m_salted m_heat m_isBad m_warmth m_damp v1 v2 (v3 + 1)
def lp_M_X8_days_60 (m_legs : Int32) (m_first : Nat → Int32) (m_isSold : Nat → Int32) (m_hook : Nat → Int32) (m_isOpen : Nat → Int32)  (Q : Int32 → Int32 → Int32 → (Nat → Int32) → (Nat → Int32) → (Nat → Int32) → (Nat → Int32) → (Nat → Int32) → (Nat → Int32) → Prop) (K33 : Int32 → Int32 → (Nat → Int32) → (Nat → Int32) → (Nat → Int32) → (Nat → Int32) → (Nat → Int32) → (Nat → Int32) → Int32 → Int32 → Prop) : Nat → Int32 → Int32 → (Nat → Int32) → (Nat → Int32) → (Nat → Int32) → (Nat → Int32) → (Nat → Int32) → (Nat → Int32) → Int32 → Int32 → Int32 → Prop
  | 0 => fun _ _ _ _ _ _ _ _ _ _ _ => False
  | n + 1 => fun m_thrown m_today m_weight m_salted m_heat m_isBad m_warmth m_damp v1 v2 v3 => ((6 ≤ v3 → (∃ n_12, lp_M_X8_days_110 m_legs m_first m_isSold m_hook m_isOpen Q K33 n_12 m_thrown m_today m_weight m_salted m_heat m_isBad m_warmth m_damp v1 v2 0)) ∧ (¬ (6 ≤ v3) → (vp_in v3 6 ∧ ((¬ (m_isOpen v3.toNatClampNeg) = 0 → (vp_in v3 6 ∧ (vp_in v3 6 ∧ bk_M_X8_days_102 m_legs m_first m_isSold m_hook m_isOpen Q K33 (lp_M_X8_days_60 m_legs m_first m_isSold m_hook m_isOpen Q K33 n) m_thrown m_today m_weight m_salted m_heat m_isBad (upd m_warmth v3.toNatClampNeg (m_warmth (0 : Int32).toNatClampNeg)) (upd m_damp v3.toNatClampNeg (m_damp (0 : Int32).toNatClampNeg)) v1 v2 v3))) ∧ ((m_isOpen v3.toNatClampNeg) = 0 → bk_M_X8_days_102 m_legs m_first m_isSold m_hook m_isOpen Q K33 (lp_M_X8_days_60 m_legs m_first m_isSold m_hook m_isOpen Q K33 n) m_thrown m_today m_weight m_salted m_heat m_isBad m_warmth m_damp v1 v2 v3)))))
def lp_M_X8_days_33 (m_legs : Int32) (m_first : Nat → Int32) (m_isSold : Nat → Int32) (m_hook : Nat → Int32) (m_isOpen : Nat → Int32)  (Q : Int32 → Int32 → Int32 → (Nat → Int32) → (Nat → Int32) → (Nat → Int32) → (Nat → Int32) → (Nat → Int32) → (Nat → Int32) → Prop) : Nat → Int32 → Int32 → (Nat → Int32) → (Nat → Int32) → (Nat → Int32) → (Nat → Int32) → (Nat → Int32) → (Nat → Int32) → Int32 → Int32 → Prop
  | 0 => fun _ _ _ _ _ _ _ _ _ _ => False
  | n + 1 => fun m_thrown m_today m_weight m_salted m_heat m_isBad m_warmth m_damp v1 v2 => ((v1 ≤ v2 → Q m_today m_thrown m_today m_weight m_salted m_heat m_isBad m_warmth m_damp) ∧ (¬ (v1 ≤ v2) → ((2000 ≤ m_today → Q m_today m_thrown m_today m_weight m_salted m_heat m_isBad m_warmth m_damp) ∧ (¬ (2000 ≤ m_today) → (∃ n_17, lp_M_X8_days_60 m_legs m_first m_isSold m_hook m_isOpen Q (lp_M_X8_days_33 m_legs m_first m_isSold m_hook m_isOpen Q n) n_17 m_thrown (m_today + 1) m_weight m_salted m_heat m_isBad m_warmth m_damp v1 v2 1)))))
def bk_M_X8_days_22 (m_legs : Int32) (m_first : Nat → Int32) (m_isSold : Nat → Int32) (m_hook : Nat → Int32) (m_isOpen : Nat → Int32)  (Q : Int32 → Int32 → Int32 → (Nat → Int32) → (Nat → Int32) → (Nat → Int32) → (Nat → Int32) → (Nat → Int32) → (Nat → Int32) → Prop) (m_thrown : Int32) (m_today : Int32) (m_weight : Nat → Int32) (m_salted : Nat → Int32) (m_heat : Nat → Int32) (m_isBad : Nat → Int32) (m_warmth : Nat → Int32) (m_damp : Nat → Int32) (v1 : Int32) (k0 : Int32) : Prop := wp_M_X8_throwsIf (fun r_3 m_thrown_3 => ((r_3 = 0 → (∃ n_18, lp_M_X8_days_33 m_legs m_first m_isSold m_hook m_isOpen Q n_18 m_thrown_3 m_today m_weight m_salted m_heat m_isBad m_warmth m_damp v1 0)) ∧ (¬ (r_3 = 0) → Q 0 m_thrown_3 m_today m_weight m_salted m_heat m_isBad m_warmth m_damp))) m_thrown k0 1
def wp_M_X8_days (m_legs : Int32) (m_first : Nat → Int32) (m_isSold : Nat → Int32) (m_hook : Nat → Int32) (m_isOpen : Nat → Int32) (Q : Int32 → Int32 → Int32 → (Nat → Int32) → (Nat → Int32) → (Nat → Int32) → (Nat → Int32) → (Nat → Int32) → (Nat → Int32) → Prop) (m_thrown : Int32) (m_today : Int32) (m_weight : Nat → Int32) (m_salted : Nat → Int32) (m_heat : Nat → Int32) (m_isBad : Nat → Int32) (m_warmth : Nat → Int32) (m_damp : Nat → Int32) (p0 : Int32) : Prop := wp_M_X8_in (fun r_1 => ((¬ r_1 = 0 → bk_M_X8_days_22 m_legs m_first m_isSold m_hook m_isOpen Q 0 m_today m_weight m_salted m_heat m_isBad m_warmth m_damp p0 0) ∧ (r_1 = 0 → bk_M_X8_days_22 m_legs m_first m_isSold m_hook m_isOpen Q 0 m_today m_weight m_salted m_heat m_isBad m_warmth m_damp p0 1))) p0 0 200
def rm_M_X8_days : Room := { frames := 2, cells := 0, slots := 0, locals := 47 }
abbrev pq_M_X8_days (dC : Nat → ClassId) (dI : Nat → Nat → Nat) (ad : Nat → Nat) (cB cI cZ cL : ClassId) (A : Nat → Prop) (m_thrown m_today m_legs m_feeds m_taped m_point m_end m_begin m_faultAt : Int32) (m_farm m_pig m_begun m_first m_weight m_salted m_heat m_isBad m_isSold m_sealedFeed m_hook m_should m_on m_warmth m_damp m_isOpen m_fFarm m_fFrom m_fWhat m_fTold m_rule m_draft m_tape m_five m_those : Nat → Int32) (Q : Int32 → Int32 → Int32 → (Nat → Int32) → (Nat → Int32) → (Nat → Int32) → (Nat → Int32) → (Nat → Int32) → (Nat → Int32) → Prop) : Array Value → State → Outcome → State → Prop := va_Qi (fun (r : Int32) (u : Int32 × Int32 × (Nat → Int32) × (Nat → Int32) × (Nat → Int32) × (Nat → Int32) × (Nat → Int32) × (Nat → Int32)) => Q r u.1 u.2.1 u.2.2.1 u.2.2.2.1 u.2.2.2.2.1 u.2.2.2.2.2.1 u.2.2.2.2.2.2.1 u.2.2.2.2.2.2.2) (fun u t => kB dC dI A (wM ad cB cI cZ cL u.1 u.2.1 m_legs m_feeds m_taped m_point m_end m_begin m_faultAt m_farm m_pig m_begun m_first u.2.2.1 u.2.2.2.1 u.2.2.2.2.1 u.2.2.2.2.2.1 m_isSold m_sealedFeed m_hook m_should m_on u.2.2.2.2.2.2.1 u.2.2.2.2.2.2.2 m_isOpen m_fFarm m_fFrom m_fWhat m_fTold m_rule m_draft m_tape m_five m_those) (kTy cB cI cZ cL) t) A
set_option maxHeartbeats 4000000 in
set_option maxRecDepth 100000 in
theorem c_M_X8_days (l : Launch) (dC : Nat → ClassId) (dI : Nat → Nat → Nat) (ad : Nat → Nat) (cB cI cZ cL : ClassId) (A : Nat → Prop) (m_thrown m_today m_legs m_feeds m_taped m_point m_end m_begin m_faultAt : Int32) (m_farm m_pig m_begun m_first m_weight m_salted m_heat m_isBad m_isSold m_sealedFeed m_hook m_should m_on m_warmth m_damp m_isOpen m_fFarm m_fFrom m_fWhat m_fTold m_rule m_draft m_tape m_five m_those : Nat → Int32) (p0 : Int32)  (Q : Int32 → Int32 → Int32 → (Nat → Int32) → (Nat → Int32) → (Nat → Int32) → (Nat → Int32) → (Nat → Int32) → (Nat → Int32) → Prop) (h : wp_M_X8_days m_legs m_first m_isSold m_hook m_isOpen Q m_thrown m_today m_weight m_salted m_heat m_isBad m_warmth m_damp p0) : Met l yX8_days wsX8_days rm_M_X8_days (va_Pc [.ref (ad 0), .int p0] (kC dC dI ad A (wM ad cB cI cZ cL m_thrown m_today m_legs m_feeds m_taped m_point m_end m_begin m_faultAt m_farm m_pig m_begun m_first m_weight m_salted m_heat m_isBad m_isSold m_sealedFeed m_hook m_should m_on m_warmth m_damp m_isOpen m_fFarm m_fFrom m_fWhat m_fTold m_rule m_draft m_tape m_five m_those) (kTy cB cI cZ cL))) (pq_M_X8_days dC dI ad cB cI cZ cL A m_thrown m_today m_legs m_feeds m_taped m_point m_end m_begin m_faultAt m_farm m_pig m_begun m_first m_weight m_salted m_heat m_isBad m_isSold m_sealedFeed m_hook m_should m_on m_warmth m_damp m_isOpen m_fFarm m_fFrom m_fWhat m_fTold m_rule m_draft m_tape m_five m_those Q) 0 0 A := by
  refine Met.ofW (cc := cX8_days) (maxL := 4) (ret := (some .int)) (by decide) rfl ?_
  intro p e s m args below meth c s₁ B hml hv
  obtain ⟨rfl, hA, hP, hK, hD, hE⟩ := hv
  have hx := B.exec
  have hb := B.bytes
  have hr := B.returns
  have hts := atoms_spec (ws := wsX8_days) B.pre
  have hown : s.vm.findClass RX8 = some m.cls := findClass_of_methodNamed B.named
  have hlocks := B.notSynchronized
  have hS : va_S A s.heap s.heap [] := va_S.rf
  have hk_0 := hts (.fieldLink RX8 1 "HamCellarModel" "thrown" "I") (by decide +kernel)
  have hk_1 : ∀ w ∈ wsX80, w ∈ wsX8_days := by decide +kernel
  have hk_2 := hts (.fieldLink RX8 105 "HamCellarModel" "today" "I") (by decide +kernel)
  have hk_3 := hts (.fieldLink RX8 94 "HamCellarModel" "legs" "I") (by decide +kernel)
  have hk_4 := hts (.fieldLink RX8 39 "HamCellarModel" "isSold" "[Z") (by decide +kernel)
  have hk_5 := hts (.fieldLink RX8 60 "HamCellarModel" "isOpen" "[Z") (by decide +kernel)
  have hk_6 := hts (.fieldLink RX8 54 "HamCellarModel" "warmth" "[I") (by decide +kernel)
  have hk_7 := hts (.fieldLink RX8 57 "HamCellarModel" "damp" "[I") (by decide +kernel)
  have hbk_M_X8_days_132 : ∀ (K33 : Int32 → Int32 → (Nat → Int32) → (Nat → Int32) → (Nat → Int32) → (Nat → Int32) → (Nat → Int32) → (Nat → Int32) → Int32 → Int32 → Prop) (hK33 : ∀ (m_thrown : Int32) (m_today : Int32) (m_weight : Nat → Int32) (m_salted : Nat → Int32) (m_heat : Nat → Int32) (m_isBad : Nat → Int32) (m_warmth : Nat → Int32) (m_damp : Nat → Int32) (v1 : Int32) (v2 : Int32) (H : Heap) (locs : List Loc) (ls : Array Slot), va_P (dC, dI) vwCl (wM ad cB cI cZ cL m_thrown m_today m_legs m_feeds m_taped m_point m_end m_begin m_faultAt m_farm m_pig m_begun m_first m_weight m_salted m_heat m_isBad m_isSold m_sealedFeed m_hook m_should m_on m_warmth m_damp m_isOpen m_fFarm m_fFrom m_fWhat m_fTold m_rule m_draft m_tape m_five m_those) H → va_D A (wM ad cB cI cZ cL m_thrown m_today m_legs m_feeds m_taped m_point m_end m_begin m_faultAt m_farm m_pig m_begun m_first m_weight m_salted m_heat m_isBad m_isSold m_sealedFeed m_hook m_should m_on m_warmth m_damp m_isOpen m_fFarm m_fFrom m_fWhat m_fTold m_rule m_draft m_tape m_five m_those) → va_S A s.heap H locs → lv_has ls 4 [(0, .ref (ad 0)), (1, .int v1), (2, .int v2)] → K33 m_thrown m_today m_weight m_salted m_heat m_isBad m_warmth m_damp v1 v2 → W p l e (headSpec wsX8_days rm_M_X8_days).room s m ([.ref (ad 0), .int p0] : List Value).toArray below meth c H locs 0 0 (MQ below (pq_M_X8_days dC dI ad cB cI cZ cL A m_thrown m_today m_legs m_feeds m_taped m_point m_end m_begin m_faultAt m_farm m_pig m_begun m_first m_weight m_salted m_heat m_isBad m_isSold m_sealedFeed m_hook m_should m_on m_warmth m_damp m_isOpen m_fFarm m_fFrom m_fWhat m_fTold m_rule m_draft m_tape m_five m_those Q) ([.ref (ad 0), .int p0] : List Value).toArray s 0 0 A) (F0 m 33 ls [])) (K110 : Int32 → Int32 → (Nat → Int32) → (Nat → Int32) → (Nat → Int32) → (Nat → Int32) → (Nat → Int32) → (Nat → Int32) → Int32 → Int32 → Int32 → Prop) (hK110 : ∀ (m_thrown : Int32) (m_today : Int32) (m_weight : Nat → Int32) (m_salted : Nat → Int32) (m_heat : Nat → Int32) (m_isBad : Nat → Int32) (m_warmth : Nat → Int32) (m_damp : Nat → Int32) (v1 : Int32) (v2 : Int32) (v3 : Int32) (H : Heap) (locs : List Loc) (ls : Array Slot), va_P (dC, dI) vwCl (wM ad cB cI cZ cL m_thrown m_today m_legs m_feeds m_taped m_point m_end m_begin m_faultAt m_farm m_pig m_begun m_first m_weight m_salted m_heat m_isBad m_isSold m_sealedFeed m_hook m_should m_on m_warmth m_damp m_isOpen m_fFarm m_fFrom m_fWhat m_fTold m_rule m_draft m_tape m_five m_those) H → va_D A (wM ad cB cI cZ cL m_thrown m_today m_legs m_feeds m_taped m_point m_end m_begin m_faultAt m_farm m_pig m_begun m_first m_weight m_salted m_heat m_isBad m_isSold m_sealedFeed m_hook m_should m_on m_warmth m_damp m_isOpen m_fFarm m_fFrom m_fWhat m_fTold m_rule m_draft m_tape m_five m_those) → va_S A s.heap H locs → lv_has ls 4 [(0, .ref (ad 0)), (1, .int v1), (2, .int v2), (3, .int v3)] → K110 m_thrown m_today m_weight m_salted m_heat m_isBad m_warmth m_damp v1 v2 v3 → W p l e (headSpec wsX8_days rm_M_X8_days).room s m ([.ref (ad 0), .int p0] : List Value).toArray below meth c H locs 0 0 (MQ below (pq_M_X8_days dC dI ad cB cI cZ cL A m_thrown m_today m_legs m_feeds m_taped m_point m_end m_begin m_faultAt m_farm m_pig m_begun m_first m_weight m_salted m_heat m_isBad m_isSold m_sealedFeed m_hook m_should m_on m_warmth m_damp m_isOpen m_fFarm m_fFrom m_fWhat m_fTold m_rule m_draft m_tape m_five m_those Q) ([.ref (ad 0), .int p0] : List Value).toArray s 0 0 A) (F0 m 110 ls [])) (m_thrown : Int32) (m_today : Int32) (m_weight : Nat → Int32) (m_salted : Nat → Int32) (m_heat : Nat → Int32) (m_isBad : Nat → Int32) (m_warmth : Nat → Int32) (m_damp : Nat → Int32) (v1 : Int32) (v2 : Int32) (v3 : Int32) (H : Heap) (locs : List Loc) (ls : Array Slot), va_P (dC, dI) vwCl (wM ad cB cI cZ cL m_thrown m_today m_legs m_feeds m_taped m_point m_end m_begin m_faultAt m_farm m_pig m_begun m_first m_weight m_salted m_heat m_isBad m_isSold m_sealedFeed m_hook m_should m_on m_warmth m_damp m_isOpen m_fFarm m_fFrom m_fWhat m_fTold m_rule m_draft m_tape m_five m_those) H → va_D A (wM ad cB cI cZ cL m_thrown m_today m_legs m_feeds m_taped m_point m_end m_begin m_faultAt m_farm m_pig m_begun m_first m_weight m_salted m_heat m_isBad m_isSold m_sealedFeed m_hook m_should m_on m_warmth m_damp m_isOpen m_fFarm m_fFrom m_fWhat m_fTold m_rule m_draft m_tape m_five m_those) → va_S A s.heap H locs → lv_has ls 4 [(0, .ref (ad 0)), (1, .int v1), (2, .int v2), (3, .int v3)] → bk_M_X8_days_132 m_legs m_first m_isSold m_hook m_isOpen Q K33 K110 m_thrown m_today m_weight m_salted m_heat m_isBad m_warmth m_damp v1 v2 v3 → W p l e (headSpec wsX8_days rm_M_X8_days).room s m ([.ref (ad 0), .int p0] : List Value).toArray below meth c H locs 0 0 (MQ below (pq_M_X8_days dC dI ad cB cI cZ cL A m_thrown m_today m_legs m_feeds m_taped m_point m_end m_begin m_faultAt m_farm m_pig m_begun m_first m_weight m_salted m_heat m_isBad m_isSold m_sealedFeed m_hook m_should m_on m_warmth m_damp m_isOpen m_fFarm m_fFrom m_fWhat m_fTold m_rule m_draft m_tape m_five m_those Q) ([.ref (ad 0), .int p0] : List Value).toArray s 0 0 A) (F0 m 132 ls []) := by
    intro K33 hK33 K110 hK110 m_thrown m_today m_weight m_salted m_heat m_isBad m_warmth m_damp v1 v2 v3 H locs ls hP hD hS hl h
    refine lv_iinc (v := v3 + 1) (lv' := [(3, .int (v3 + 1)), (0, .ref (ad 0)), (1, .int v1), (2, .int v2)]) hx hb dX8_days_132 hl (k := 3) rfl rfl (by decide) rfl (fun ls hl => ?_)
    refine lv_goto (tgt := 110) hx hb dX8_days_135 (by decide) ?_
    exact hK110 m_thrown m_today m_weight m_salted m_heat m_isBad m_warmth m_damp v1 v2 (v3 + 1) _ _ _ hP hD hS (lv_sub hl [1, 2, 3, 0] rfl) h
  have hlp_M_X8_days_110 : ∀ (K33 : Int32 → Int32 → (Nat → Int32) → (Nat → Int32) → (Nat → Int32) → (Nat → Int32) → (Nat → Int32) → (Nat → Int32) → Int32 → Int32 → Prop) (hK33 : ∀ (m_thrown : Int32) (m_today : Int32) (m_weight : Nat → Int32) (m_salted : Nat → Int32) (m_heat : Nat → Int32) (m_isBad : Nat → Int32) (m_warmth : Nat → Int32) (m_damp : Nat → Int32) (v1 : Int32) (v2 : Int32) (H : Heap) (locs : List Loc) (ls : Array Slot), va_P (dC, dI) vwCl (wM ad cB cI cZ cL m_thrown m_today m_legs m_feeds m_taped m_point m_end m_begin m_faultAt m_farm m_pig m_begun m_first m_weight m_salted m_heat m_isBad m_isSold m_sealedFeed m_hook m_should m_on m_warmth m_damp m_isOpen m_fFarm m_fFrom m_fWhat m_fTold m_rule m_draft m_tape m_five m_those) H → va_D A (wM ad cB cI cZ cL m_thrown m_today m_legs m_feeds m_taped m_point m_end m_begin m_faultAt m_farm m_pig m_begun m_first m_weight m_salted m_heat m_isBad m_isSold m_sealedFeed m_hook m_should m_on m_warmth m_damp m_isOpen m_fFarm m_fFrom m_fWhat m_fTold m_rule m_draft m_tape m_five m_those) → va_S A s.heap H locs → lv_has ls 4 [(0, .ref (ad 0)), (1, .int v1), (2, .int v2)] → K33 m_thrown m_today m_weight m_salted m_heat m_isBad m_warmth m_damp v1 v2 → W p l e (headSpec wsX8_days rm_M_X8_days).room s m ([.ref (ad 0), .int p0] : List Value).toArray below meth c H locs 0 0 (MQ below (pq_M_X8_days dC dI ad cB cI cZ cL A m_thrown m_today m_legs m_feeds m_taped m_point m_end m_begin m_faultAt m_farm m_pig m_begun m_first m_weight m_salted m_heat m_isBad m_isSold m_sealedFeed m_hook m_should m_on m_warmth m_damp m_isOpen m_fFarm m_fFrom m_fWhat m_fTold m_rule m_draft m_tape m_five m_those Q) ([.ref (ad 0), .int p0] : List Value).toArray s 0 0 A) (F0 m 33 ls [])) (n : Nat) (m_thrown : Int32) (m_today : Int32) (m_weight : Nat → Int32) (m_salted : Nat → Int32) (m_heat : Nat → Int32) (m_isBad : Nat → Int32) (m_warmth : Nat → Int32) (m_damp : Nat → Int32) (v1 : Int32) (v2 : Int32) (v3 : Int32) (H : Heap) (locs : List Loc) (ls : Array Slot), va_P (dC, dI) vwCl (wM ad cB cI cZ cL m_thrown m_today m_legs m_feeds m_taped m_point m_end m_begin m_faultAt m_farm m_pig m_begun m_first m_weight m_salted m_heat m_isBad m_isSold m_sealedFeed m_hook m_should m_on m_warmth m_damp m_isOpen m_fFarm m_fFrom m_fWhat m_fTold m_rule m_draft m_tape m_five m_those) H → va_D A (wM ad cB cI cZ cL m_thrown m_today m_legs m_feeds m_taped m_point m_end m_begin m_faultAt m_farm m_pig m_begun m_first m_weight m_salted m_heat m_isBad m_isSold m_sealedFeed m_hook m_should m_on m_warmth m_damp m_isOpen m_fFarm m_fFrom m_fWhat m_fTold m_rule m_draft m_tape m_five m_those) → va_S A s.heap H locs → lv_has ls 4 [(0, .ref (ad 0)), (1, .int v1), (2, .int v2), (3, .int v3)] → lp_M_X8_days_110 m_legs m_first m_isSold m_hook m_isOpen Q K33 n m_thrown m_today m_weight m_salted m_heat m_isBad m_warmth m_damp v1 v2 v3 → W p l e (headSpec wsX8_days rm_M_X8_days).room s m ([.ref (ad 0), .int p0] : List Value).toArray below meth c H locs 0 0 (MQ below (pq_M_X8_days dC dI ad cB cI cZ cL A m_thrown m_today m_legs m_feeds m_taped m_point m_end m_begin m_faultAt m_farm m_pig m_begun m_first m_weight m_salted m_heat m_isBad m_isSold m_sealedFeed m_hook m_should m_on m_warmth m_damp m_isOpen m_fFarm m_fFrom m_fWhat m_fTold m_rule m_draft m_tape m_five m_those Q) ([.ref (ad 0), .int p0] : List Value).toArray s 0 0 A) (F0 m 110 ls []) := by
    intro K33 hK33
    intro n
    induction n with
    | zero => intro m_thrown m_today m_weight m_salted m_heat m_isBad m_warmth m_damp v1 v2 v3 H locs ls hP hD hS hl h; exact h.elim
    | succ n ih =>
      intro m_thrown m_today m_weight m_salted m_heat m_isBad m_warmth m_damp v1 v2 v3 H locs ls hP hD hS hl h
      refine lv_iload_n hx hb dX8_days_110 rfl (lv_at hl 3 rfl) ?_
      refine lv_aload_n hx hb dX8_days_111 rfl (lv_at hl 0 rfl) ?_
      refine va_get (D := (dC, dI)) (ci := 8) (v := .int m_legs) (C := RX8) (T := TX8) (N := 34) hx hb hts hk_1 hown hK hP 0 wM_g0 rfl 14 (by decide) hk_3 (fun _ h9 => h9) rfl dX8_days_112 ?_
      refine lv_icmp_ge (tgt := 138) hx hb dX8_days_115 (by decide) (fun c_8 => ?_) (fun c_8 => ?_)
      · have h := h.1 c_8
        refine lv_iinc (v := v2 + 1) (lv' := [(2, .int (v2 + 1)), (0, .ref (ad 0)), (1, .int v1), (3, .int v3)]) hx hb dX8_days_138 hl (k := 2) rfl rfl (by decide) rfl (fun ls hl => ?_)
        refine lv_goto (tgt := 33) hx hb dX8_days_141 (by decide) ?_
        exact hK33 m_thrown m_today m_weight m_salted m_heat m_isBad m_warmth m_damp v1 (v2 + 1) _ _ _ hP hD hS (lv_sub hl [1, 2, 0] rfl) h
      · have h := h.2 c_8
        refine lv_aload_n hx hb dX8_days_118 rfl (lv_at hl 0 rfl) ?_
        refine va_get (D := (dC, dI)) (ci := 8) (v := .ref (ad 9)) (C := RX8) (T := TX8) (N := 34) hx hb hts hk_1 hown hK hP 0 wM_g0 rfl 10 (by decide) hk_4 (fun _ h9 => h9) rfl dX8_days_119 ?_
        refine lv_iload_n hx hb dX8_days_122 rfl (lv_at hl 3 rfl) ?_
        have hi_9 := h.1
        have h := h.2
        refine va_zald hx hb hK hP 9 2 wM_g9 rfl hi_9 dX8_days_123 ?_
        refine lv_if_ne (tgt := 132) hx hb dX8_days_124 (by decide) (fun c_10 => ?_) (fun c_10 => ?_)
        · have h := h.1 c_10
          exact hbk_M_X8_days_132 K33 hK33 (lp_M_X8_days_110 m_legs m_first m_isSold m_hook m_isOpen Q K33 n) ih m_thrown m_today m_weight m_salted m_heat m_isBad m_warmth m_damp v1 v2 v3 _ _ _ hP hD hS (lv_sub hl [0, 1, 2, 3] rfl) h
        · have h := h.2 c_10
          refine lv_aload_n hx hb dX8_days_127 rfl (lv_at hl 0 rfl) ?_
          refine lv_iload_n hx hb dX8_days_128 rfl (lv_at hl 3 rfl) ?_
          refine va_callv (va_runV (As := [.int v3]) (rest := []) ⟨hx, hb, hml, hown, hts⟩ (c_M_X8_legDay l dC dI ad cB cI cZ cL A m_thrown m_today m_legs m_feeds m_taped m_point m_end m_begin m_faultAt m_farm m_pig m_begun m_first m_weight m_salted m_heat m_isBad m_isSold m_sealedFeed m_hook m_should m_on m_warmth m_damp m_isOpen m_fFarm m_fFrom m_fWhat m_fTold m_rule m_draft m_tape m_five m_those v3 _ h) (cwV 1 hts gX8_days_X8_legDay rfl rfl rfl (by decide +kernel) ⟨(Nat.le_of_ble_eq_true rfl), (Nat.le_of_ble_eq_true rfl)⟩) ⟨kC_blind, va_recv hK hP (ci := 8) (q0 := 0) rfl wM_g0, fun U hU hW => ⟨rfl, kC_go hA hS hP hK hD hE U hU hW⟩⟩ rfl rfl hl.1 rfl (lv_room (Nat.le_of_ble_eq_true rfl)) dX8_days_129 ⟨(Nat.le_of_ble_eq_true rfl), (Nat.le_of_ble_eq_true rfl)⟩) hS (fun q _ h => h) (fun q h => h) (fun u t H locs ht hvm hw hB hz1 hk1 hS => ?_)
          obtain ⟨m_weight_11, m_salted_11, m_heat_11, m_isBad_11⟩ := u
          have h := hw
          try dsimp only at h
          have hP : va_P (dC, dI) vwCl (wM ad cB cI cZ cL m_thrown m_today m_legs m_feeds m_taped m_point m_end m_begin m_faultAt m_farm m_pig m_begun m_first m_weight_11 m_salted_11 m_heat_11 m_isBad_11 m_isSold m_sealedFeed m_hook m_should m_on m_warmth m_damp m_isOpen m_fFarm m_fFrom m_fWhat m_fTold m_rule m_draft m_tape m_five m_those) H := by rw [← ht]; exact hB.1
          have hD : va_D A (wM ad cB cI cZ cL m_thrown m_today m_legs m_feeds m_taped m_point m_end m_begin m_faultAt m_farm m_pig m_begun m_first m_weight_11 m_salted_11 m_heat_11 m_isBad_11 m_isSold m_sealedFeed m_hook m_should m_on m_warmth m_damp m_isOpen m_fFarm m_fFrom m_fWhat m_fTold m_rule m_draft m_tape m_five m_those) := hB.2.2
          exact hbk_M_X8_days_132 K33 hK33 (lp_M_X8_days_110 m_legs m_first m_isSold m_hook m_isOpen Q K33 n) ih m_thrown m_today m_weight_11 m_salted_11 m_heat_11 m_isBad_11 m_warmth m_damp v1 v2 v3 _ _ _ hP hD hS (lv_sub hl [0, 1, 2, 3] rfl) h
  have hbk_M_X8_days_102 : ∀ (K33 : Int32 → Int32 → (Nat → Int32) → (Nat → Int32) → (Nat → Int32) → (Nat → Int32) → (Nat → Int32) → (Nat → Int32) → Int32 → Int32 → Prop) (hK33 : ∀ (m_thrown : Int32) (m_today : Int32) (m_weight : Nat → Int32) (m_salted : Nat → Int32) (m_heat : Nat → Int32) (m_isBad : Nat → Int32) (m_warmth : Nat → Int32) (m_damp : Nat → Int32) (v1 : Int32) (v2 : Int32) (H : Heap) (locs : List Loc) (ls : Array Slot), va_P (dC, dI) vwCl (wM ad cB cI cZ cL m_thrown m_today m_legs m_feeds m_taped m_point m_end m_begin m_faultAt m_farm m_pig m_begun m_first m_weight m_salted m_heat m_isBad m_isSold m_sealedFeed m_hook m_should m_on m_warmth m_damp m_isOpen m_fFarm m_fFrom m_fWhat m_fTold m_rule m_draft m_tape m_five m_those) H → va_D A (wM ad cB cI cZ cL m_thrown m_today m_legs m_feeds m_taped m_point m_end m_begin m_faultAt m_farm m_pig m_begun m_first m_weight m_salted m_heat m_isBad m_isSold m_sealedFeed m_hook m_should m_on m_warmth m_damp m_isOpen m_fFarm m_fFrom m_fWhat m_fTold m_rule m_draft m_tape m_five m_those) → va_S A s.heap H locs → lv_has ls 4 [(0, .ref (ad 0)), (1, .int v1), (2, .int v2)] → K33 m_thrown m_today m_weight m_salted m_heat m_isBad m_warmth m_damp v1 v2 → W p l e (headSpec wsX8_days rm_M_X8_days).room s m ([.ref (ad 0), .int p0] : List Value).toArray below meth c H locs 0 0 (MQ below (pq_M_X8_days dC dI ad cB cI cZ cL A m_thrown m_today m_legs m_feeds m_taped m_point m_end m_begin m_faultAt m_farm m_pig m_begun m_first m_weight m_salted m_heat m_isBad m_isSold m_sealedFeed m_hook m_should m_on m_warmth m_damp m_isOpen m_fFarm m_fFrom m_fWhat m_fTold m_rule m_draft m_tape m_five m_those Q) ([.ref (ad 0), .int p0] : List Value).toArray s 0 0 A) (F0 m 33 ls [])) (K60 : Int32 → Int32 → (Nat → Int32) → (Nat → Int32) → (Nat → Int32) → (Nat → Int32) → (Nat → Int32) → (Nat → Int32) → Int32 → Int32 → Int32 → Prop) (hK60 : ∀ (m_thrown : Int32) (m_today : Int32) (m_weight : Nat → Int32) (m_salted : Nat → Int32) (m_heat : Nat → Int32) (m_isBad : Nat → Int32) (m_warmth : Nat → Int32) (m_damp : Nat → Int32) (v1 : Int32) (v2 : Int32) (v3 : Int32) (H : Heap) (locs : List Loc) (ls : Array Slot), va_P (dC, dI) vwCl (wM ad cB cI cZ cL m_thrown m_today m_legs m_feeds m_taped m_point m_end m_begin m_faultAt m_farm m_pig m_begun m_first m_weight m_salted m_heat m_isBad m_isSold m_sealedFeed m_hook m_should m_on m_warmth m_damp m_isOpen m_fFarm m_fFrom m_fWhat m_fTold m_rule m_draft m_tape m_five m_those) H → va_D A (wM ad cB cI cZ cL m_thrown m_today m_legs m_feeds m_taped m_point m_end m_begin m_faultAt m_farm m_pig m_begun m_first m_weight m_salted m_heat m_isBad m_isSold m_sealedFeed m_hook m_should m_on m_warmth m_damp m_isOpen m_fFarm m_fFrom m_fWhat m_fTold m_rule m_draft m_tape m_five m_those) → va_S A s.heap H locs → lv_has ls 4 [(0, .ref (ad 0)), (1, .int v1), (2, .int v2), (3, .int v3)] → K60 m_thrown m_today m_weight m_salted m_heat m_isBad m_warmth m_damp v1 v2 v3 → W p l e (headSpec wsX8_days rm_M_X8_days).room s m ([.ref (ad 0), .int p0] : List Value).toArray below meth c H locs 0 0 (MQ below (pq_M_X8_days dC dI ad cB cI cZ cL A m_thrown m_today m_legs m_feeds m_taped m_point m_end m_begin m_faultAt m_farm m_pig m_begun m_first m_weight m_salted m_heat m_isBad m_isSold m_sealedFeed m_hook m_should m_on m_warmth m_damp m_isOpen m_fFarm m_fFrom m_fWhat m_fTold m_rule m_draft m_tape m_five m_those Q) ([.ref (ad 0), .int p0] : List Value).toArray s 0 0 A) (F0 m 60 ls [])) (m_thrown : Int32) (m_today : Int32) (m_weight : Nat → Int32) (m_salted : Nat → Int32) (m_heat : Nat → Int32) (m_isBad : Nat → Int32) (m_warmth : Nat → Int32) (m_damp : Nat → Int32) (v1 : Int32) (v2 : Int32) (v3 : Int32) (H : Heap) (locs : List Loc) (ls : Array Slot), va_P (dC, dI) vwCl (wM ad cB cI cZ cL m_thrown m_today m_legs m_feeds m_taped m_point m_end m_begin m_faultAt m_farm m_pig m_begun m_first m_weight m_salted m_heat m_isBad m_isSold m_sealedFeed m_hook m_should m_on m_warmth m_damp m_isOpen m_fFarm m_fFrom m_fWhat m_fTold m_rule m_draft m_tape m_five m_those) H → va_D A (wM ad cB cI cZ cL m_thrown m_today m_legs m_feeds m_taped m_point m_end m_begin m_faultAt m_farm m_pig m_begun m_first m_weight m_salted m_heat m_isBad m_isSold m_sealedFeed m_hook m_should m_on m_warmth m_damp m_isOpen m_fFarm m_fFrom m_fWhat m_fTold m_rule m_draft m_tape m_five m_those) → va_S A s.heap H locs → lv_has ls 4 [(0, .ref (ad 0)), (1, .int v1), (2, .int v2), (3, .int v3)] → bk_M_X8_days_102 m_legs m_first m_isSold m_hook m_isOpen Q K33 K60 m_thrown m_today m_weight m_salted m_heat m_isBad m_warmth m_damp v1 v2 v3 → W p l e (headSpec wsX8_days rm_M_X8_days).room s m ([.ref (ad 0), .int p0] : List Value).toArray below meth c H locs 0 0 (MQ below (pq_M_X8_days dC dI ad cB cI cZ cL A m_thrown m_today m_legs m_feeds m_taped m_point m_end m_begin m_faultAt m_farm m_pig m_begun m_first m_weight m_salted m_heat m_isBad m_isSold m_sealedFeed m_hook m_should m_on m_warmth m_damp m_isOpen m_fFarm m_fFrom m_fWhat m_fTold m_rule m_draft m_tape m_five m_those Q) ([.ref (ad 0), .int p0] : List Value).toArray s 0 0 A) (F0 m 102 ls []) := by
    intro K33 hK33 K60 hK60 m_thrown m_today m_weight m_salted m_heat m_isBad m_warmth m_damp v1 v2 v3 H locs ls hP hD hS hl h
    refine lv_iinc (v := v3 + 1) (lv' := [(3, .int (v3 + 1)), (0, .ref (ad 0)), (1, .int v1), (2, .int v2)]) hx hb dX8_days_102 hl (k := 3) rfl rfl (by decide) rfl (fun ls hl => ?_)
    refine lv_goto (tgt := 60) hx hb dX8_days_105 (by decide) ?_
    exact hK60 m_thrown m_today m_weight m_salted m_heat m_isBad m_warmth m_damp v1 v2 (v3 + 1) _ _ _ hP hD hS (lv_sub hl [1, 2, 3, 0] rfl) h
  have hlp_M_X8_days_60 : ∀ (K33 : Int32 → Int32 → (Nat → Int32) → (Nat → Int32) → (Nat → Int32) → (Nat → Int32) → (Nat → Int32) → (Nat → Int32) → Int32 → Int32 → Prop) (hK33 : ∀ (m_thrown : Int32) (m_today : Int32) (m_weight : Nat → Int32) (m_salted : Nat → Int32) (m_heat : Nat → Int32) (m_isBad : Nat → Int32) (m_warmth : Nat → Int32) (m_damp : Nat → Int32) (v1 : Int32) (v2 : Int32) (H : Heap) (locs : List Loc) (ls : Array Slot), va_P (dC, dI) vwCl (wM ad cB cI cZ cL m_thrown m_today m_legs m_feeds m_taped m_point m_end m_begin m_faultAt m_farm m_pig m_begun m_first m_weight m_salted m_heat m_isBad m_isSold m_sealedFeed m_hook m_should m_on m_warmth m_damp m_isOpen m_fFarm m_fFrom m_fWhat m_fTold m_rule m_draft m_tape m_five m_those) H → va_D A (wM ad cB cI cZ cL m_thrown m_today m_legs m_feeds m_taped m_point m_end m_begin m_faultAt m_farm m_pig m_begun m_first m_weight m_salted m_heat m_isBad m_isSold m_sealedFeed m_hook m_should m_on m_warmth m_damp m_isOpen m_fFarm m_fFrom m_fWhat m_fTold m_rule m_draft m_tape m_five m_those) → va_S A s.heap H locs → lv_has ls 4 [(0, .ref (ad 0)), (1, .int v1), (2, .int v2)] → K33 m_thrown m_today m_weight m_salted m_heat m_isBad m_warmth m_damp v1 v2 → W p l e (headSpec wsX8_days rm_M_X8_days).room s m ([.ref (ad 0), .int p0] : List Value).toArray below meth c H locs 0 0 (MQ below (pq_M_X8_days dC dI ad cB cI cZ cL A m_thrown m_today m_legs m_feeds m_taped m_point m_end m_begin m_faultAt m_farm m_pig m_begun m_first m_weight m_salted m_heat m_isBad m_isSold m_sealedFeed m_hook m_should m_on m_warmth m_damp m_isOpen m_fFarm m_fFrom m_fWhat m_fTold m_rule m_draft m_tape m_five m_those Q) ([.ref (ad 0), .int p0] : List Value).toArray s 0 0 A) (F0 m 33 ls [])) (n : Nat) (m_thrown : Int32) (m_today : Int32) (m_weight : Nat → Int32) (m_salted : Nat → Int32) (m_heat : Nat → Int32) (m_isBad : Nat → Int32) (m_warmth : Nat → Int32) (m_damp : Nat → Int32) (v1 : Int32) (v2 : Int32) (v3 : Int32) (H : Heap) (locs : List Loc) (ls : Array Slot), va_P (dC, dI) vwCl (wM ad cB cI cZ cL m_thrown m_today m_legs m_feeds m_taped m_point m_end m_begin m_faultAt m_farm m_pig m_begun m_first m_weight m_salted m_heat m_isBad m_isSold m_sealedFeed m_hook m_should m_on m_warmth m_damp m_isOpen m_fFarm m_fFrom m_fWhat m_fTold m_rule m_draft m_tape m_five m_those) H → va_D A (wM ad cB cI cZ cL m_thrown m_today m_legs m_feeds m_taped m_point m_end m_begin m_faultAt m_farm m_pig m_begun m_first m_weight m_salted m_heat m_isBad m_isSold m_sealedFeed m_hook m_should m_on m_warmth m_damp m_isOpen m_fFarm m_fFrom m_fWhat m_fTold m_rule m_draft m_tape m_five m_those) → va_S A s.heap H locs → lv_has ls 4 [(0, .ref (ad 0)), (1, .int v1), (2, .int v2), (3, .int v3)] → lp_M_X8_days_60 m_legs m_first m_isSold m_hook m_isOpen Q K33 n m_thrown m_today m_weight m_salted m_heat m_isBad m_warmth m_damp v1 v2 v3 → W p l e (headSpec wsX8_days rm_M_X8_days).room s m ([.ref (ad 0), .int p0] : List Value).toArray below meth c H locs 0 0 (MQ below (pq_M_X8_days dC dI ad cB cI cZ cL A m_thrown m_today m_legs m_feeds m_taped m_point m_end m_begin m_faultAt m_farm m_pig m_begun m_first m_weight m_salted m_heat m_isBad m_isSold m_sealedFeed m_hook m_should m_on m_warmth m_damp m_isOpen m_fFarm m_fFrom m_fWhat m_fTold m_rule m_draft m_tape m_five m_those Q) ([.ref (ad 0), .int p0] : List Value).toArray s 0 0 A) (F0 m 60 ls []) := by
    intro K33 hK33
    intro n
    induction n with
    | zero => intro m_thrown m_today m_weight m_salted m_heat m_isBad m_warmth m_damp v1 v2 v3 H locs ls hP hD hS hl h; exact h.elim
    | succ n ih =>
      intro m_thrown m_today m_weight m_salted m_heat m_isBad m_warmth m_damp v1 v2 v3 H locs ls hP hD hS hl h
      refine lv_iload_n hx hb dX8_days_60 rfl (lv_at hl 3 rfl) ?_
      refine lv_bipush (v := 6) hx hb dX8_days_61 (by decide) ?_
      refine lv_icmp_ge (tgt := 108) hx hb dX8_days_63 (by decide) (fun c_7 => ?_) (fun c_7 => ?_)
      · have h := h.1 c_7
        refine lv_iconst (v := 0) hx hb dX8_days_108 (by decide) ?_
        refine lv_istore_n (lv' := [(3, .int 0), (0, .ref (ad 0)), (1, .int v1), (2, .int v2)]) hx hb dX8_days_109 rfl hl (by decide) rfl (fun ls hl => ?_)
        obtain ⟨n_12, h⟩ := h
        exact hlp_M_X8_days_110 K33 hK33 n_12 m_thrown m_today m_weight m_salted m_heat m_isBad m_warmth m_damp v1 v2 0 _ _ _ hP hD hS (lv_sub hl [1, 2, 3, 0] rfl) h
      · have h := h.2 c_7
        refine lv_aload_n hx hb dX8_days_66 rfl (lv_at hl 0 rfl) ?_
        refine va_get (D := (dC, dI)) (ci := 8) (v := .ref (ad 16)) (C := RX8) (T := TX8) (N := 34) hx hb hts hk_1 hown hK hP 0 wM_g0 rfl 18 (by decide) hk_5 (fun _ h9 => h9) rfl dX8_days_67 ?_
        refine lv_iload_n hx hb dX8_days_70 rfl (lv_at hl 3 rfl) ?_
        have hi_13 := h.1
        have h := h.2
        refine va_zald hx hb hK hP 16 2 wM_g16 rfl hi_13 dX8_days_71 ?_
        refine lv_if_ne (tgt := 78) hx hb dX8_days_72 (by decide) (fun c_14 => ?_) (fun c_14 => ?_)
        · have h := h.1 c_14
          refine lv_aload_n hx hb dX8_days_78 rfl (lv_at hl 0 rfl) ?_
          refine va_get (D := (dC, dI)) (ci := 8) (v := .ref (ad 14)) (C := RX8) (T := TX8) (N := 34) hx hb hts hk_1 hown hK hP 0 wM_g0 rfl 16 (by decide) hk_6 (fun _ h9 => h9) rfl dX8_days_79 ?_
          refine lv_iload_n hx hb dX8_days_82 rfl (lv_at hl 3 rfl) ?_
          refine lv_aload_n hx hb dX8_days_83 rfl (lv_at hl 0 rfl) ?_
          refine va_get (D := (dC, dI)) (ci := 8) (v := .ref (ad 14)) (C := RX8) (T := TX8) (N := 34) hx hb hts hk_1 hown hK hP 0 wM_g0 rfl 16 (by decide) hk_6 (fun _ h9 => h9) rfl dX8_days_84 ?_
          refine lv_iconst (v := 0) hx hb dX8_days_87 (by decide) ?_
          refine va_iald hx hb hK hP 14 1 wM_g14 rfl (by unfold vp_in; decide) dX8_days_88 ?_
          have hi_15 := h.1
          have h := h.2
          refine va_iast hx hb hK hP hD hS 14 1 wM_g14 rfl hi_15 dX8_days_89 (fun H locs hP2 hD2 hS => ?_)
          have hP : va_P (dC, dI) vwCl (wM ad cB cI cZ cL m_thrown m_today m_legs m_feeds m_taped m_point m_end m_begin m_faultAt m_farm m_pig m_begun m_first m_weight m_salted m_heat m_isBad m_isSold m_sealedFeed m_hook m_should m_on (upd m_warmth v3.toNatClampNeg (m_warmth (0 : Int32).toNatClampNeg)) m_damp m_isOpen m_fFarm m_fFrom m_fWhat m_fTold m_rule m_draft m_tape m_five m_those) H := hP_eq (wM_p_m_warmth) hP2
          have hD : va_D A (wM ad cB cI cZ cL m_thrown m_today m_legs m_feeds m_taped m_point m_end m_begin m_faultAt m_farm m_pig m_begun m_first m_weight m_salted m_heat m_isBad m_isSold m_sealedFeed m_hook m_should m_on (upd m_warmth v3.toNatClampNeg (m_warmth (0 : Int32).toNatClampNeg)) m_damp m_isOpen m_fFarm m_fFrom m_fWhat m_fTold m_rule m_draft m_tape m_five m_those) := hD_eq (wM_p_m_warmth) hD2
          refine lv_aload_n hx hb dX8_days_90 rfl (lv_at hl 0 rfl) ?_
          refine va_get (D := (dC, dI)) (ci := 8) (v := .ref (ad 15)) (C := RX8) (T := TX8) (N := 34) hx hb hts hk_1 hown hK hP 0 wM_g0 rfl 17 (by decide) hk_7 (fun _ h9 => h9) rfl dX8_days_91 ?_
          refine lv_iload_n hx hb dX8_days_94 rfl (lv_at hl 3 rfl) ?_
          refine lv_aload_n hx hb dX8_days_95 rfl (lv_at hl 0 rfl) ?_
          refine va_get (D := (dC, dI)) (ci := 8) (v := .ref (ad 15)) (C := RX8) (T := TX8) (N := 34) hx hb hts hk_1 hown hK hP 0 wM_g0 rfl 17 (by decide) hk_7 (fun _ h9 => h9) rfl dX8_days_96 ?_
          refine lv_iconst (v := 0) hx hb dX8_days_99 (by decide) ?_
          refine va_iald hx hb hK hP 15 1 wM_g15 rfl (by unfold vp_in; decide) dX8_days_100 ?_
          have hi_16 := h.1
          have h := h.2
          refine va_iast hx hb hK hP hD hS 15 1 wM_g15 rfl hi_16 dX8_days_101 (fun H locs hP2 hD2 hS => ?_)
          have hP : va_P (dC, dI) vwCl (wM ad cB cI cZ cL m_thrown m_today m_legs m_feeds m_taped m_point m_end m_begin m_faultAt m_farm m_pig m_begun m_first m_weight m_salted m_heat m_isBad m_isSold m_sealedFeed m_hook m_should m_on (upd m_warmth v3.toNatClampNeg (m_warmth (0 : Int32).toNatClampNeg)) (upd m_damp v3.toNatClampNeg (m_damp (0 : Int32).toNatClampNeg)) m_isOpen m_fFarm m_fFrom m_fWhat m_fTold m_rule m_draft m_tape m_five m_those) H := hP_eq (wM_p_m_damp) hP2
          have hD : va_D A (wM ad cB cI cZ cL m_thrown m_today m_legs m_feeds m_taped m_point m_end m_begin m_faultAt m_farm m_pig m_begun m_first m_weight m_salted m_heat m_isBad m_isSold m_sealedFeed m_hook m_should m_on (upd m_warmth v3.toNatClampNeg (m_warmth (0 : Int32).toNatClampNeg)) (upd m_damp v3.toNatClampNeg (m_damp (0 : Int32).toNatClampNeg)) m_isOpen m_fFarm m_fFrom m_fWhat m_fTold m_rule m_draft m_tape m_five m_those) := hD_eq (wM_p_m_damp) hD2
          exact hbk_M_X8_days_102 K33 hK33 (lp_M_X8_days_60 m_legs m_first m_isSold m_hook m_isOpen Q K33 n) ih m_thrown m_today m_weight m_salted m_heat m_isBad (upd m_warmth v3.toNatClampNeg (m_warmth (0 : Int32).toNatClampNeg)) (upd m_damp v3.toNatClampNeg (m_damp (0 : Int32).toNatClampNeg)) v1 v2 v3 _ _ _ hP hD hS (lv_sub hl [0, 1, 2, 3] rfl) h
        · have h := h.2 c_14
          refine lv_goto (tgt := 102) hx hb dX8_days_75 (by decide) ?_
          exact hbk_M_X8_days_102 K33 hK33 (lp_M_X8_days_60 m_legs m_first m_isSold m_hook m_isOpen Q K33 n) ih m_thrown m_today m_weight m_salted m_heat m_isBad m_warmth m_damp v1 v2 v3 _ _ _ hP hD hS (lv_sub hl [0, 1, 2, 3] rfl) h
  have hlp_M_X8_days_33 : ∀ (n : Nat) (m_thrown : Int32) (m_today : Int32) (m_weight : Nat → Int32) (m_salted : Nat → Int32) (m_heat : Nat → Int32) (m_isBad : Nat → Int32) (m_warmth : Nat → Int32) (m_damp : Nat → Int32) (v1 : Int32) (v2 : Int32) (H : Heap) (locs : List Loc) (ls : Array Slot), va_P (dC, dI) vwCl (wM ad cB cI cZ cL m_thrown m_today m_legs m_feeds m_taped m_point m_end m_begin m_faultAt m_farm m_pig m_begun m_first m_weight m_salted m_heat m_isBad m_isSold m_sealedFeed m_hook m_should m_on m_warmth m_damp m_isOpen m_fFarm m_fFrom m_fWhat m_fTold m_rule m_draft m_tape m_five m_those) H → va_D A (wM ad cB cI cZ cL m_thrown m_today m_legs m_feeds m_taped m_point m_end m_begin m_faultAt m_farm m_pig m_begun m_first m_weight m_salted m_heat m_isBad m_isSold m_sealedFeed m_hook m_should m_on m_warmth m_damp m_isOpen m_fFarm m_fFrom m_fWhat m_fTold m_rule m_draft m_tape m_five m_those) → va_S A s.heap H locs → lv_has ls 4 [(0, .ref (ad 0)), (1, .int v1), (2, .int v2)] → lp_M_X8_days_33 m_legs m_first m_isSold m_hook m_isOpen Q n m_thrown m_today m_weight m_salted m_heat m_isBad m_warmth m_damp v1 v2 → W p l e (headSpec wsX8_days rm_M_X8_days).room s m ([.ref (ad 0), .int p0] : List Value).toArray below meth c H locs 0 0 (MQ below (pq_M_X8_days dC dI ad cB cI cZ cL A m_thrown m_today m_legs m_feeds m_taped m_point m_end m_begin m_faultAt m_farm m_pig m_begun m_first m_weight m_salted m_heat m_isBad m_isSold m_sealedFeed m_hook m_should m_on m_warmth m_damp m_isOpen m_fFarm m_fFrom m_fWhat m_fTold m_rule m_draft m_tape m_five m_those Q) ([.ref (ad 0), .int p0] : List Value).toArray s 0 0 A) (F0 m 33 ls []) := by
    intro n
    induction n with
    | zero => intro m_thrown m_today m_weight m_salted m_heat m_isBad m_warmth m_damp v1 v2 H locs ls hP hD hS hl h; exact h.elim
    | succ n ih =>
      intro m_thrown m_today m_weight m_salted m_heat m_isBad m_warmth m_damp v1 v2 H locs ls hP hD hS hl h
      refine lv_iload_n hx hb dX8_days_33 rfl (lv_at hl 2 rfl) ?_
      refine lv_iload_n hx hb dX8_days_34 rfl (lv_at hl 1 rfl) ?_
      refine lv_icmp_ge (tgt := 144) hx hb dX8_days_35 (by decide) (fun c_5 => ?_) (fun c_5 => ?_)
      · have h := h.1 c_5
        refine lv_aload_n hx hb dX8_days_144 rfl (lv_at hl 0 rfl) ?_
        refine va_get (D := (dC, dI)) (ci := 8) (v := .int m_today) (C := RX8) (T := TX8) (N := 34) hx hb hts hk_1 hown hK hP 0 wM_g0 rfl 1 (by decide) hk_2 (fun _ h9 => h9) rfl dX8_days_145 ?_
        exact W.iret (v := m_today) hx hb hr (fun t ht hW => ⟨⟨m_today, (m_thrown, m_today, m_weight, m_salted, m_heat, m_isBad, m_warmth, m_damp), rfl, h, kB_mk hP hK hD ht hW.alike⟩, hS.F ht⟩) hS.2.2 dX8_days_148
      · have h := h.2 c_5
        refine lv_aload_n hx hb dX8_days_38 rfl (lv_at hl 0 rfl) ?_
        refine va_get (D := (dC, dI)) (ci := 8) (v := .int m_today) (C := RX8) (T := TX8) (N := 34) hx hb hts hk_1 hown hK hP 0 wM_g0 rfl 1 (by decide) hk_2 (fun _ h9 => h9) rfl dX8_days_39 ?_
        refine lv_sipush (v := 2000) hx hb dX8_days_42 (by decide) ?_
        refine lv_icmp_ge (tgt := 144) hx hb dX8_days_45 (by decide) (fun c_6 => ?_) (fun c_6 => ?_)
        · have h := h.1 c_6
          refine lv_aload_n hx hb dX8_days_144 rfl (lv_at hl 0 rfl) ?_
          refine va_get (D := (dC, dI)) (ci := 8) (v := .int m_today) (C := RX8) (T := TX8) (N := 34) hx hb hts hk_1 hown hK hP 0 wM_g0 rfl 1 (by decide) hk_2 (fun _ h9 => h9) rfl dX8_days_145 ?_
          exact W.iret (v := m_today) hx hb hr (fun t ht hW => ⟨⟨m_today, (m_thrown, m_today, m_weight, m_salted, m_heat, m_isBad, m_warmth, m_damp), rfl, h, kB_mk hP hK hD ht hW.alike⟩, hS.F ht⟩) hS.2.2 dX8_days_148
        · have h := h.2 c_6
          refine lv_aload_n hx hb dX8_days_48 rfl (lv_at hl 0 rfl) ?_
          refine lv_dup hx hb dX8_days_49 rfl ?_
          refine va_get (D := (dC, dI)) (ci := 8) (v := .int m_today) (C := RX8) (T := TX8) (N := 34) hx hb hts hk_1 hown hK hP 0 wM_g0 rfl 1 (by decide) hk_2 (fun _ h9 => h9) rfl dX8_days_50 ?_
          refine lv_iconst (v := 1) hx hb dX8_days_53 (by decide) ?_
          refine lv_iadd hx hb dX8_days_54 ?_
          refine va_put (D := (dC, dI)) (ci := 8) (v := .int (m_today + 1)) (ty := .int) (C := RX8) (T := TX8) (N := 34) hx hb hts hk_1 tyX8 tyX8_ok nmX8 hown hK hP hD hS 0 wM_g0 rfl 1 (by decide) hk_2 (fun _ h9 => h9) rfl (by decide +kernel) rfl rfl (Nat.le_of_ble_eq_true rfl) dX8_days_55 (fun H locs hP2 hD2 hS => ?_)
          have hP : va_P (dC, dI) vwCl (wM ad cB cI cZ cL m_thrown (m_today + 1) m_legs m_feeds m_taped m_point m_end m_begin m_faultAt m_farm m_pig m_begun m_first m_weight m_salted m_heat m_isBad m_isSold m_sealedFeed m_hook m_should m_on m_warmth m_damp m_isOpen m_fFarm m_fFrom m_fWhat m_fTold m_rule m_draft m_tape m_five m_those) H := hP_eq (wM_p_m_today) hP2
          have hD : va_D A (wM ad cB cI cZ cL m_thrown (m_today + 1) m_legs m_feeds m_taped m_point m_end m_begin m_faultAt m_farm m_pig m_begun m_first m_weight m_salted m_heat m_isBad m_isSold m_sealedFeed m_hook m_should m_on m_warmth m_damp m_isOpen m_fFarm m_fFrom m_fWhat m_fTold m_rule m_draft m_tape m_five m_those) := hD_eq (wM_p_m_today) hD2
          refine lv_iconst (v := 1) hx hb dX8_days_58 (by decide) ?_
          refine lv_istore_n (lv' := [(3, .int 1), (0, .ref (ad 0)), (1, .int v1), (2, .int v2)]) hx hb dX8_days_59 rfl hl (by decide) rfl (fun ls hl => ?_)
          obtain ⟨n_17, h⟩ := h
          exact hlp_M_X8_days_60 (lp_M_X8_days_33 m_legs m_first m_isSold m_hook m_isOpen Q n) ih n_17 m_thrown (m_today + 1) m_weight m_salted m_heat m_isBad m_warmth m_damp v1 v2 1 _ _ _ hP hD hS (lv_sub hl [1, 2, 3, 0] rfl) h
  have hbk_M_X8_days_22 : ∀ (m_thrown : Int32) (m_today : Int32) (m_weight : Nat → Int32) (m_salted : Nat → Int32) (m_heat : Nat → Int32) (m_isBad : Nat → Int32) (m_warmth : Nat → Int32) (m_damp : Nat → Int32) (v1 : Int32) (k0 : Int32) (H : Heap) (locs : List Loc) (ls : Array Slot), va_P (dC, dI) vwCl (wM ad cB cI cZ cL m_thrown m_today m_legs m_feeds m_taped m_point m_end m_begin m_faultAt m_farm m_pig m_begun m_first m_weight m_salted m_heat m_isBad m_isSold m_sealedFeed m_hook m_should m_on m_warmth m_damp m_isOpen m_fFarm m_fFrom m_fWhat m_fTold m_rule m_draft m_tape m_five m_those) H → va_D A (wM ad cB cI cZ cL m_thrown m_today m_legs m_feeds m_taped m_point m_end m_begin m_faultAt m_farm m_pig m_begun m_first m_weight m_salted m_heat m_isBad m_isSold m_sealedFeed m_hook m_should m_on m_warmth m_damp m_isOpen m_fFarm m_fFrom m_fWhat m_fTold m_rule m_draft m_tape m_five m_those) → va_S A s.heap H locs → lv_has ls 4 [(0, .ref (ad 0)), (1, .int v1)] → bk_M_X8_days_22 m_legs m_first m_isSold m_hook m_isOpen Q m_thrown m_today m_weight m_salted m_heat m_isBad m_warmth m_damp v1 k0 → W p l e (headSpec wsX8_days rm_M_X8_days).room s m ([.ref (ad 0), .int p0] : List Value).toArray below meth c H locs 0 0 (MQ below (pq_M_X8_days dC dI ad cB cI cZ cL A m_thrown m_today m_legs m_feeds m_taped m_point m_end m_begin m_faultAt m_farm m_pig m_begun m_first m_weight m_salted m_heat m_isBad m_isSold m_sealedFeed m_hook m_should m_on m_warmth m_damp m_isOpen m_fFarm m_fFrom m_fWhat m_fTold m_rule m_draft m_tape m_five m_those Q) ([.ref (ad 0), .int p0] : List Value).toArray s 0 0 A) (F0 m 22 ls [.int k0, .ref (ad 0)]) := by
    intro m_thrown m_today m_weight m_salted m_heat m_isBad m_warmth m_damp v1 k0 H locs ls hP hD hS hl h
    have h : wp_M_X8_throwsIf (fun r_3 m_thrown_3 => ((r_3 = 0 → (∃ n_18, lp_M_X8_days_33 m_legs m_first m_isSold m_hook m_isOpen Q n_18 m_thrown_3 m_today m_weight m_salted m_heat m_isBad m_warmth m_damp v1 0)) ∧ (¬ (r_3 = 0) → Q 0 m_thrown_3 m_today m_weight m_salted m_heat m_isBad m_warmth m_damp))) m_thrown k0 1 := h
    refine lv_iconst (v := 1) hx hb dX8_days_22 (by decide) ?_
    refine va_calli (va_runV (As := [.int k0, .int 1]) (rest := []) ⟨hx, hb, hml, hown, hts⟩ (c_M_X8_throwsIf l dC dI ad cB cI cZ cL A m_thrown m_today m_legs m_feeds m_taped m_point m_end m_begin m_faultAt m_farm m_pig m_begun m_first m_weight m_salted m_heat m_isBad m_isSold m_sealedFeed m_hook m_should m_on m_warmth m_damp m_isOpen m_fFarm m_fFrom m_fWhat m_fTold m_rule m_draft m_tape m_five m_those k0 1 _ h) (cwV 2 hts gX8_days_X8_throwsIf rfl rfl rfl (by decide +kernel) ⟨(Nat.le_of_ble_eq_true rfl), (Nat.le_of_ble_eq_true rfl)⟩) ⟨kC_blind, va_recv hK hP (ci := 8) (q0 := 0) rfl wM_g0, fun U hU hW => ⟨rfl, kC_go hA hS hP hK hD hE U hU hW⟩⟩ rfl rfl hl.1 rfl (lv_room (Nat.le_of_ble_eq_true rfl)) dX8_days_23 ⟨(Nat.le_of_ble_eq_true rfl), (Nat.le_of_ble_eq_true rfl)⟩) hS (fun q _ h => h) (fun q h => h) (fun r_3 u t H locs ht hvm hw hB hz1 hk1 hS => ?_)
    obtain ⟨m_thrown_3, rfl⟩ : ∃ z, z = u := ⟨_, rfl⟩
    have h := hw
    try dsimp only at h
    have hP : va_P (dC, dI) vwCl (wM ad cB cI cZ cL m_thrown_3 m_today m_legs m_feeds m_taped m_point m_end m_begin m_faultAt m_farm m_pig m_begun m_first m_weight m_salted m_heat m_isBad m_isSold m_sealedFeed m_hook m_should m_on m_warmth m_damp m_isOpen m_fFarm m_fFrom m_fWhat m_fTold m_rule m_draft m_tape m_five m_those) H := by rw [← ht]; exact hB.1
    have hD : va_D A (wM ad cB cI cZ cL m_thrown_3 m_today m_legs m_feeds m_taped m_point m_end m_begin m_faultAt m_farm m_pig m_begun m_first m_weight m_salted m_heat m_isBad m_isSold m_sealedFeed m_hook m_should m_on m_warmth m_damp m_isOpen m_fFarm m_fFrom m_fWhat m_fTold m_rule m_draft m_tape m_five m_those) := hB.2.2
    refine lv_if_eq (tgt := 31) hx hb dX8_days_26 (by decide) (fun c_4 => ?_) (fun c_4 => ?_)
    · have h := h.1 c_4
      refine lv_iconst (v := 0) hx hb dX8_days_31 (by decide) ?_
      refine lv_istore_n (lv' := [(2, .int 0), (0, .ref (ad 0)), (1, .int v1)]) hx hb dX8_days_32 rfl hl (by decide) rfl (fun ls hl => ?_)
      obtain ⟨n_18, h⟩ := h
      exact hlp_M_X8_days_33 n_18 m_thrown_3 m_today m_weight m_salted m_heat m_isBad m_warmth m_damp v1 0 _ _ _ hP hD hS (lv_sub hl [1, 2, 0] rfl) h
    · have h := h.2 c_4
      refine lv_iconst (v := 0) hx hb dX8_days_29 (by decide) ?_
      exact W.iret (v := 0) hx hb hr (fun t ht hW => ⟨⟨0, (m_thrown_3, m_today, m_weight, m_salted, m_heat, m_isBad, m_warmth, m_damp), rfl, h, kB_mk hP hK hD ht hW.alike⟩, hS.F ht⟩) hS.2.2 dX8_days_30
  have hl := lv_entry ([.ref (ad 0), .int p0]) (n := 4) (Nat.le_of_ble_eq_true rfl)
  rw [lg_entry_eq]
  generalize (lg_sl ([.ref (ad 0), .int p0]) ++ List.replicate (4 - (lg_sl ([.ref (ad 0), .int p0])).length) Slot.unset).toArray = ls at hl ⊢
  have hl : lv_has ls 4 [(0, .ref (ad 0)), (1, .int p0)] := hl
  unfold wp_M_X8_days at h
  refine lv_aload_n hx hb dX8_days_0 rfl (lv_at hl 0 rfl) ?_
  refine lv_iconst (v := 0) hx hb dX8_days_1 (by decide) ?_
  refine va_put (D := (dC, dI)) (ci := 8) (v := .int 0) (ty := .int) (C := RX8) (T := TX8) (N := 34) hx hb hts hk_1 tyX8 tyX8_ok nmX8 hown hK hP hD hS 0 wM_g0 rfl 0 (by decide) hk_0 (fun _ h9 => h9) rfl (by decide +kernel) rfl rfl (Nat.le_of_ble_eq_true rfl) dX8_days_2 (fun H locs hP2 hD2 hS => ?_)
  have hP : va_P (dC, dI) vwCl (wM ad cB cI cZ cL 0 m_today m_legs m_feeds m_taped m_point m_end m_begin m_faultAt m_farm m_pig m_begun m_first m_weight m_salted m_heat m_isBad m_isSold m_sealedFeed m_hook m_should m_on m_warmth m_damp m_isOpen m_fFarm m_fFrom m_fWhat m_fTold m_rule m_draft m_tape m_five m_those) H := hP_eq (wM_p_m_thrown) hP2
  have hD : va_D A (wM ad cB cI cZ cL 0 m_today m_legs m_feeds m_taped m_point m_end m_begin m_faultAt m_farm m_pig m_begun m_first m_weight m_salted m_heat m_isBad m_isSold m_sealedFeed m_hook m_should m_on m_warmth m_damp m_isOpen m_fFarm m_fFrom m_fWhat m_fTold m_rule m_draft m_tape m_five m_those) := hD_eq (wM_p_m_thrown) hD2
  refine lv_aload_n hx hb dX8_days_5 rfl (lv_at hl 0 rfl) ?_
  refine lv_iload_n hx hb dX8_days_6 rfl (lv_at hl 1 rfl) ?_
  refine lv_iconst (v := 0) hx hb dX8_days_7 (by decide) ?_
  refine lv_sipush (v := 200) hx hb dX8_days_8 (by decide) ?_
  refine va_calli (va_runS (As := [.int p0, .int 0, .int 200]) (rest := [.ref (ad 0)]) ⟨hx, hb, hml, hown, hts⟩ (c_M_X8_in l dC dI ad cB cI cZ cL A 0 m_today m_legs m_feeds m_taped m_point m_end m_begin m_faultAt m_farm m_pig m_begun m_first m_weight m_salted m_heat m_isBad m_isSold m_sealedFeed m_hook m_should m_on m_warmth m_damp m_isOpen m_fFarm m_fFrom m_fWhat m_fTold m_rule m_draft m_tape m_five m_those p0 0 200 _ h) (va_cwS 3 hts gX8_days_X8_in rfl rfl rfl (by decide +kernel) ⟨(Nat.le_of_ble_eq_true rfl), (Nat.le_of_ble_eq_true rfl)⟩) ⟨kC_blind, fun U hU hW => ⟨rfl, kC_go hA hS hP hK hD hE U hU hW⟩⟩ rfl rfl hl.1 rfl (lv_room (Nat.le_of_ble_eq_true rfl)) dX8_days_11 ⟨(Nat.le_of_ble_eq_true rfl), (Nat.le_of_ble_eq_true rfl)⟩) hS (fun q _ h => h) (fun q h => h) (fun r_1 u t H locs ht hvm hw hB hz1 hk1 hS => ?_)
  have h := hw
  try dsimp only at h
  have hP : va_P (dC, dI) vwCl (wM ad cB cI cZ cL 0 m_today m_legs m_feeds m_taped m_point m_end m_begin m_faultAt m_farm m_pig m_begun m_first m_weight m_salted m_heat m_isBad m_isSold m_sealedFeed m_hook m_should m_on m_warmth m_damp m_isOpen m_fFarm m_fFrom m_fWhat m_fTold m_rule m_draft m_tape m_five m_those) H := by rw [← ht]; exact hB.1
  have hD : va_D A (wM ad cB cI cZ cL 0 m_today m_legs m_feeds m_taped m_point m_end m_begin m_faultAt m_farm m_pig m_begun m_first m_weight m_salted m_heat m_isBad m_isSold m_sealedFeed m_hook m_should m_on m_warmth m_damp m_isOpen m_fFarm m_fFrom m_fWhat m_fTold m_rule m_draft m_tape m_five m_those) := hB.2.2
  refine lv_if_ne (tgt := 21) hx hb dX8_days_14 (by decide) (fun c_2 => ?_) (fun c_2 => ?_)
  · have h := h.1 c_2
    refine lv_iconst (v := 0) hx hb dX8_days_21 (by decide) ?_
    exact hbk_M_X8_days_22 0 m_today m_weight m_salted m_heat m_isBad m_warmth m_damp p0 0 _ _ _ hP hD hS (lv_sub hl [0, 1] rfl) h
  · have h := h.2 c_2
    refine lv_iconst (v := 1) hx hb dX8_days_17 (by decide) ?_
    refine lv_goto (tgt := 22) hx hb dX8_days_18 (by decide) ?_
    exact hbk_M_X8_days_22 0 m_today m_weight m_salted m_heat m_isBad m_warmth m_damp p0 1 _ _ _ hP hD hS (lv_sub hl [0, 1] rfl) h
def lp_M_X8_feed_60   (Q : Int32 → Int32 → Int32 → (Nat → Int32) → (Nat → Int32) → Prop) : Nat → Int32 → Int32 → (Nat → Int32) → (Nat → Int32) → Int32 → Prop
  | 0 => fun _ _ _ _ _ => False
  | n + 1 => fun m_thrown m_taped m_tape m_five v6 => ((20 ≤ v6 → Q (m_taped + 20) m_thrown (m_taped + 20) m_tape m_five) ∧ (¬ (20 ≤ v6) → (vp_in (v6 / 4) 5 ∧ (vp_in (m_taped + v6) 400 ∧ lp_M_X8_feed_60 Q n m_thrown m_taped (upd m_tape (m_taped + v6).toNatClampNeg (vp_nar .byte (((m_five (v6 / 4).toNatClampNeg) >>> ((24 - (8 * (v6 - v6 / 4 * 4))) &&& 31)).toInt8.toInt32))) m_five (v6 + 1)))))
def wp_M_X8_feed (Q : Int32 → Int32 → Int32 → (Nat → Int32) → (Nat → Int32) → Prop) (m_thrown : Int32) (m_taped : Int32) (m_tape : Nat → Int32) (m_five : Nat → Int32) (p0 : Int32) (p1 : Int32) (p2 : Int32) (p3 : Int32) (p4 : Int32) : Prop := (((m_taped + 20) ≤ 400 → (∃ n_5, lp_M_X8_feed_60 Q n_5 0 m_taped m_tape (upd (upd (upd (upd (upd m_five (0 : Int32).toNatClampNeg p0) (1 : Int32).toNatClampNeg p1) (2 : Int32).toNatClampNeg p2) (3 : Int32).toNatClampNeg p3) (4 : Int32).toNatClampNeg p4) 0)) ∧ (¬ ((m_taped + 20) ≤ 400) → Q (-1) 0 m_taped m_tape m_five))
def rm_M_X8_feed : Room := { frames := 0, cells := 0, slots := 0, locals := 0 }
abbrev pq_M_X8_feed (dC : Nat → ClassId) (dI : Nat → Nat → Nat) (ad : Nat → Nat) (cB cI cZ cL : ClassId) (A : Nat → Prop) (m_thrown m_today m_legs m_feeds m_taped m_point m_end m_begin m_faultAt : Int32) (m_farm m_pig m_begun m_first m_weight m_salted m_heat m_isBad m_isSold m_sealedFeed m_hook m_should m_on m_warmth m_damp m_isOpen m_fFarm m_fFrom m_fWhat m_fTold m_rule m_draft m_tape m_five m_those : Nat → Int32) (Q : Int32 → Int32 → Int32 → (Nat → Int32) → (Nat → Int32) → Prop) : Array Value → State → Outcome → State → Prop := va_Qi (fun (r : Int32) (u : Int32 × Int32 × (Nat → Int32) × (Nat → Int32)) => Q r u.1 u.2.1 u.2.2.1 u.2.2.2) (fun u t => kB dC dI A (wM ad cB cI cZ cL u.1 m_today m_legs m_feeds u.2.1 m_point m_end m_begin m_faultAt m_farm m_pig m_begun m_first m_weight m_salted m_heat m_isBad m_isSold m_sealedFeed m_hook m_should m_on m_warmth m_damp m_isOpen m_fFarm m_fFrom m_fWhat m_fTold m_rule m_draft u.2.2.1 u.2.2.2 m_those) (kTy cB cI cZ cL) t) A
set_option maxHeartbeats 4000000 in
set_option maxRecDepth 100000 in
theorem c_M_X8_feed (l : Launch) (dC : Nat → ClassId) (dI : Nat → Nat → Nat) (ad : Nat → Nat) (cB cI cZ cL : ClassId) (A : Nat → Prop) (m_thrown m_today m_legs m_feeds m_taped m_point m_end m_begin m_faultAt : Int32) (m_farm m_pig m_begun m_first m_weight m_salted m_heat m_isBad m_isSold m_sealedFeed m_hook m_should m_on m_warmth m_damp m_isOpen m_fFarm m_fFrom m_fWhat m_fTold m_rule m_draft m_tape m_five m_those : Nat → Int32) (p0 : Int32) (p1 : Int32) (p2 : Int32) (p3 : Int32) (p4 : Int32)  (Q : Int32 → Int32 → Int32 → (Nat → Int32) → (Nat → Int32) → Prop) (h : wp_M_X8_feed Q m_thrown m_taped m_tape m_five p0 p1 p2 p3 p4) : Met l yX8_feed wsX8_feed rm_M_X8_feed (va_Pc [.ref (ad 0), .int p0, .int p1, .int p2, .int p3, .int p4] (kC dC dI ad A (wM ad cB cI cZ cL m_thrown m_today m_legs m_feeds m_taped m_point m_end m_begin m_faultAt m_farm m_pig m_begun m_first m_weight m_salted m_heat m_isBad m_isSold m_sealedFeed m_hook m_should m_on m_warmth m_damp m_isOpen m_fFarm m_fFrom m_fWhat m_fTold m_rule m_draft m_tape m_five m_those) (kTy cB cI cZ cL))) (pq_M_X8_feed dC dI ad cB cI cZ cL A m_thrown m_today m_legs m_feeds m_taped m_point m_end m_begin m_faultAt m_farm m_pig m_begun m_first m_weight m_salted m_heat m_isBad m_isSold m_sealedFeed m_hook m_should m_on m_warmth m_damp m_isOpen m_fFarm m_fFrom m_fWhat m_fTold m_rule m_draft m_tape m_five m_those Q) 0 0 A := by
  refine Met.ofW (cc := cX8_feed) (maxL := 7) (ret := (some .int)) (by decide) rfl ?_
  intro p e s m args below meth c s₁ B hml hv
  obtain ⟨rfl, hA, hP, hK, hD, hE⟩ := hv
  have hx := B.exec
  have hb := B.bytes
  have hr := B.returns
  have hts := atoms_spec (ws := wsX8_feed) B.pre
  have hown : s.vm.findClass RX8 = some m.cls := findClass_of_methodNamed B.named
  have hlocks := B.notSynchronized
  have hS : va_S A s.heap s.heap [] := va_S.rf
  have hk_0 := hts (.fieldLink RX8 1 "HamCellarModel" "thrown" "I") (by decide +kernel)
  have hk_1 : ∀ w ∈ wsX80, w ∈ wsX8_feed := by decide +kernel
  have hk_2 := hts (.fieldLink RX8 131 "HamCellarModel" "taped" "I") (by decide +kernel)
  have hk_3 := hts (.fieldLink RX8 88 "HamCellarModel" "five" "[I") (by decide +kernel)
  have hk_4 := hts (.fieldLink RX8 81 "HamCellarModel" "tape" "[B") (by decide +kernel)
  have hlp_M_X8_feed_60 : ∀ (n : Nat) (m_thrown : Int32) (m_taped : Int32) (m_tape : Nat → Int32) (m_five : Nat → Int32) (v6 : Int32) (H : Heap) (locs : List Loc) (ls : Array Slot), va_P (dC, dI) vwCl (wM ad cB cI cZ cL m_thrown m_today m_legs m_feeds m_taped m_point m_end m_begin m_faultAt m_farm m_pig m_begun m_first m_weight m_salted m_heat m_isBad m_isSold m_sealedFeed m_hook m_should m_on m_warmth m_damp m_isOpen m_fFarm m_fFrom m_fWhat m_fTold m_rule m_draft m_tape m_five m_those) H → va_D A (wM ad cB cI cZ cL m_thrown m_today m_legs m_feeds m_taped m_point m_end m_begin m_faultAt m_farm m_pig m_begun m_first m_weight m_salted m_heat m_isBad m_isSold m_sealedFeed m_hook m_should m_on m_warmth m_damp m_isOpen m_fFarm m_fFrom m_fWhat m_fTold m_rule m_draft m_tape m_five m_those) → va_S A s.heap H locs → lv_has ls 7 [(0, .ref (ad 0)), (6, .int v6)] → lp_M_X8_feed_60 Q n m_thrown m_taped m_tape m_five v6 → W p l e (headSpec wsX8_feed rm_M_X8_feed).room s m ([.ref (ad 0), .int p0, .int p1, .int p2, .int p3, .int p4] : List Value).toArray below meth c H locs 0 0 (MQ below (pq_M_X8_feed dC dI ad cB cI cZ cL A m_thrown m_today m_legs m_feeds m_taped m_point m_end m_begin m_faultAt m_farm m_pig m_begun m_first m_weight m_salted m_heat m_isBad m_isSold m_sealedFeed m_hook m_should m_on m_warmth m_damp m_isOpen m_fFarm m_fFrom m_fWhat m_fTold m_rule m_draft m_tape m_five m_those Q) ([.ref (ad 0), .int p0, .int p1, .int p2, .int p3, .int p4] : List Value).toArray s 0 0 A) (F0 m 60 ls []) := by
    intro n
    induction n with
    | zero => intro m_thrown m_taped m_tape m_five v6 H locs ls hP hD hS hl h; exact h.elim
    | succ n ih =>
      intro m_thrown m_taped m_tape m_five v6 H locs ls hP hD hS hl h
      refine lv_iload hx hb dX8_feed_60 (lv_at hl 1 rfl) ?_
      refine lv_bipush (v := 20) hx hb dX8_feed_62 (by decide) ?_
      refine lv_icmp_ge (tgt := 106) hx hb dX8_feed_64 (by decide) (fun c_2 => ?_) (fun c_2 => ?_)
      · have h := h.1 c_2
        refine lv_aload_n hx hb dX8_feed_106 rfl (lv_at hl 0 rfl) ?_
        refine lv_dup hx hb dX8_feed_107 rfl ?_
        refine va_get (D := (dC, dI)) (ci := 8) (v := .int m_taped) (C := RX8) (T := TX8) (N := 34) hx hb hts hk_1 hown hK hP 0 wM_g0 rfl 27 (by decide) hk_2 (fun _ h9 => h9) rfl dX8_feed_108 ?_
        refine lv_bipush (v := 20) hx hb dX8_feed_111 (by decide) ?_
        refine lv_iadd hx hb dX8_feed_113 ?_
        refine va_put (D := (dC, dI)) (ci := 8) (v := .int (m_taped + 20)) (ty := .int) (C := RX8) (T := TX8) (N := 34) hx hb hts hk_1 tyX8 tyX8_ok nmX8 hown hK hP hD hS 0 wM_g0 rfl 27 (by decide) hk_2 (fun _ h9 => h9) rfl (by decide +kernel) rfl rfl (Nat.le_of_ble_eq_true rfl) dX8_feed_114 (fun H locs hP2 hD2 hS => ?_)
        have hP : va_P (dC, dI) vwCl (wM ad cB cI cZ cL m_thrown m_today m_legs m_feeds (m_taped + 20) m_point m_end m_begin m_faultAt m_farm m_pig m_begun m_first m_weight m_salted m_heat m_isBad m_isSold m_sealedFeed m_hook m_should m_on m_warmth m_damp m_isOpen m_fFarm m_fFrom m_fWhat m_fTold m_rule m_draft m_tape m_five m_those) H := hP_eq (wM_p_m_taped) hP2
        have hD : va_D A (wM ad cB cI cZ cL m_thrown m_today m_legs m_feeds (m_taped + 20) m_point m_end m_begin m_faultAt m_farm m_pig m_begun m_first m_weight m_salted m_heat m_isBad m_isSold m_sealedFeed m_hook m_should m_on m_warmth m_damp m_isOpen m_fFarm m_fFrom m_fWhat m_fTold m_rule m_draft m_tape m_five m_those) := hD_eq (wM_p_m_taped) hD2
        refine lv_aload_n hx hb dX8_feed_117 rfl (lv_at hl 0 rfl) ?_
        refine va_get (D := (dC, dI)) (ci := 8) (v := .int (m_taped + 20)) (C := RX8) (T := TX8) (N := 34) hx hb hts hk_1 hown hK hP 0 wM_g0 rfl 27 (by decide) hk_2 (fun _ h9 => h9) rfl dX8_feed_118 ?_
        exact W.iret (v := m_taped + 20) hx hb hr (fun t ht hW => ⟨⟨m_taped + 20, (m_thrown, m_taped + 20, m_tape, m_five), rfl, h, kB_mk hP hK hD ht hW.alike⟩, hS.F ht⟩) hS.2.2 dX8_feed_121
      · have h := h.2 c_2
        refine lv_aload_n hx hb dX8_feed_67 rfl (lv_at hl 0 rfl) ?_
        refine va_get (D := (dC, dI)) (ci := 8) (v := .ref (ad 23)) (C := RX8) (T := TX8) (N := 34) hx hb hts hk_1 hown hK hP 0 wM_g0 rfl 26 (by decide) hk_4 (fun _ h9 => h9) rfl dX8_feed_68 ?_
        refine lv_aload_n hx hb dX8_feed_71 rfl (lv_at hl 0 rfl) ?_
        refine va_get (D := (dC, dI)) (ci := 8) (v := .int m_taped) (C := RX8) (T := TX8) (N := 34) hx hb hts hk_1 hown hK hP 0 wM_g0 rfl 27 (by decide) hk_2 (fun _ h9 => h9) rfl dX8_feed_72 ?_
        refine lv_iload hx hb dX8_feed_75 (lv_at hl 1 rfl) ?_
        refine lv_iadd hx hb dX8_feed_77 ?_
        refine lv_aload_n hx hb dX8_feed_78 rfl (lv_at hl 0 rfl) ?_
        refine va_get (D := (dC, dI)) (ci := 8) (v := .ref (ad 24)) (C := RX8) (T := TX8) (N := 34) hx hb hts hk_1 hown hK hP 0 wM_g0 rfl 32 (by decide) hk_3 (fun _ h9 => h9) rfl dX8_feed_79 ?_
        refine lv_iload hx hb dX8_feed_82 (lv_at hl 1 rfl) ?_
        refine lv_iconst (v := 4) hx hb dX8_feed_84 (by decide) ?_
        refine lv_idiv hx hb dX8_feed_85 (by decide) ?_
        have hi_3 := h.1
        have h := h.2
        refine va_iald hx hb hK hP 24 1 wM_g24 rfl hi_3 dX8_feed_86 ?_
        refine lv_bipush (v := 24) hx hb dX8_feed_87 (by decide) ?_
        refine lv_bipush (v := 8) hx hb dX8_feed_89 (by decide) ?_
        refine lv_iload hx hb dX8_feed_91 (lv_at hl 1 rfl) ?_
        refine lv_iconst (v := 4) hx hb dX8_feed_93 (by decide) ?_
        refine lv_irem hx hb dX8_feed_94 (by decide) ?_
        refine lv_imul hx hb dX8_feed_95 ?_
        refine lv_isub hx hb dX8_feed_96 ?_
        refine lv_ishr hx hb dX8_feed_97 ?_
        refine lv_i2b (v := ((m_five (v6 / 4).toNatClampNeg) >>> ((24 - (8 * (v6 - v6 / 4 * 4))) &&& 31)).toInt8.toInt32) hx hb dX8_feed_98 rfl ?_
        have hi_4 := h.1
        have h := h.2
        refine va_bast hx hb hK hP hD hS 23 0 wM_g23 rfl hi_4 dX8_feed_99 (fun H locs hP2 hD2 hS => ?_)
        have hP : va_P (dC, dI) vwCl (wM ad cB cI cZ cL m_thrown m_today m_legs m_feeds m_taped m_point m_end m_begin m_faultAt m_farm m_pig m_begun m_first m_weight m_salted m_heat m_isBad m_isSold m_sealedFeed m_hook m_should m_on m_warmth m_damp m_isOpen m_fFarm m_fFrom m_fWhat m_fTold m_rule m_draft (upd m_tape (m_taped + v6).toNatClampNeg (vp_nar .byte (((m_five (v6 / 4).toNatClampNeg) >>> ((24 - (8 * (v6 - v6 / 4 * 4))) &&& 31)).toInt8.toInt32))) m_five m_those) H := hP_eq (wM_p_m_tape) hP2
        have hD : va_D A (wM ad cB cI cZ cL m_thrown m_today m_legs m_feeds m_taped m_point m_end m_begin m_faultAt m_farm m_pig m_begun m_first m_weight m_salted m_heat m_isBad m_isSold m_sealedFeed m_hook m_should m_on m_warmth m_damp m_isOpen m_fFarm m_fFrom m_fWhat m_fTold m_rule m_draft (upd m_tape (m_taped + v6).toNatClampNeg (vp_nar .byte (((m_five (v6 / 4).toNatClampNeg) >>> ((24 - (8 * (v6 - v6 / 4 * 4))) &&& 31)).toInt8.toInt32))) m_five m_those) := hD_eq (wM_p_m_tape) hD2
        refine lv_iinc (v := v6 + 1) (lv' := [(6, .int (v6 + 1)), (0, .ref (ad 0))]) hx hb dX8_feed_100 hl (k := 1) rfl rfl (by decide) rfl (fun ls hl => ?_)
        refine lv_goto (tgt := 60) hx hb dX8_feed_103 (by decide) ?_
        exact ih m_thrown m_taped (upd m_tape (m_taped + v6).toNatClampNeg (vp_nar .byte (((m_five (v6 / 4).toNatClampNeg) >>> ((24 - (8 * (v6 - v6 / 4 * 4))) &&& 31)).toInt8.toInt32))) m_five (v6 + 1) _ _ _ hP hD hS (lv_sub hl [1, 0] rfl) h
  have hl := lv_entry ([.ref (ad 0), .int p0, .int p1, .int p2, .int p3, .int p4]) (n := 7) (Nat.le_of_ble_eq_true rfl)
  rw [lg_entry_eq]
  generalize (lg_sl ([.ref (ad 0), .int p0, .int p1, .int p2, .int p3, .int p4]) ++ List.replicate (7 - (lg_sl ([.ref (ad 0), .int p0, .int p1, .int p2, .int p3, .int p4])).length) Slot.unset).toArray = ls at hl ⊢
  have hl : lv_has ls 7 [(0, .ref (ad 0)), (1, .int p0), (2, .int p1), (3, .int p2), (4, .int p3), (5, .int p4)] := hl
  unfold wp_M_X8_feed at h
  refine lv_aload_n hx hb dX8_feed_0 rfl (lv_at hl 0 rfl) ?_
  refine lv_iconst (v := 0) hx hb dX8_feed_1 (by decide) ?_
  refine va_put (D := (dC, dI)) (ci := 8) (v := .int 0) (ty := .int) (C := RX8) (T := TX8) (N := 34) hx hb hts hk_1 tyX8 tyX8_ok nmX8 hown hK hP hD hS 0 wM_g0 rfl 0 (by decide) hk_0 (fun _ h9 => h9) rfl (by decide +kernel) rfl rfl (Nat.le_of_ble_eq_true rfl) dX8_feed_2 (fun H locs hP2 hD2 hS => ?_)
  have hP : va_P (dC, dI) vwCl (wM ad cB cI cZ cL 0 m_today m_legs m_feeds m_taped m_point m_end m_begin m_faultAt m_farm m_pig m_begun m_first m_weight m_salted m_heat m_isBad m_isSold m_sealedFeed m_hook m_should m_on m_warmth m_damp m_isOpen m_fFarm m_fFrom m_fWhat m_fTold m_rule m_draft m_tape m_five m_those) H := hP_eq (wM_p_m_thrown) hP2
  have hD : va_D A (wM ad cB cI cZ cL 0 m_today m_legs m_feeds m_taped m_point m_end m_begin m_faultAt m_farm m_pig m_begun m_first m_weight m_salted m_heat m_isBad m_isSold m_sealedFeed m_hook m_should m_on m_warmth m_damp m_isOpen m_fFarm m_fFrom m_fWhat m_fTold m_rule m_draft m_tape m_five m_those) := hD_eq (wM_p_m_thrown) hD2
  refine lv_aload_n hx hb dX8_feed_5 rfl (lv_at hl 0 rfl) ?_
  refine va_get (D := (dC, dI)) (ci := 8) (v := .int m_taped) (C := RX8) (T := TX8) (N := 34) hx hb hts hk_1 hown hK hP 0 wM_g0 rfl 27 (by decide) hk_2 (fun _ h9 => h9) rfl dX8_feed_6 ?_
  refine lv_bipush (v := 20) hx hb dX8_feed_9 (by decide) ?_
  refine lv_iadd hx hb dX8_feed_11 ?_
  refine lv_sipush (v := 400) hx hb dX8_feed_12 (by decide) ?_
  refine lv_icmp_le (tgt := 20) hx hb dX8_feed_15 (by decide) (fun c_1 => ?_) (fun c_1 => ?_)
  · have h := h.1 c_1
    refine lv_aload_n hx hb dX8_feed_20 rfl (lv_at hl 0 rfl) ?_
    refine va_get (D := (dC, dI)) (ci := 8) (v := .ref (ad 24)) (C := RX8) (T := TX8) (N := 34) hx hb hts hk_1 hown hK hP 0 wM_g0 rfl 32 (by decide) hk_3 (fun _ h9 => h9) rfl dX8_feed_21 ?_
    refine lv_iconst (v := 0) hx hb dX8_feed_24 (by decide) ?_
    refine lv_iload_n hx hb dX8_feed_25 rfl (lv_at hl 1 rfl) ?_
    refine va_iast hx hb hK hP hD hS 24 1 wM_g24 rfl (by unfold vp_in; decide) dX8_feed_26 (fun H locs hP2 hD2 hS => ?_)
    have hP : va_P (dC, dI) vwCl (wM ad cB cI cZ cL 0 m_today m_legs m_feeds m_taped m_point m_end m_begin m_faultAt m_farm m_pig m_begun m_first m_weight m_salted m_heat m_isBad m_isSold m_sealedFeed m_hook m_should m_on m_warmth m_damp m_isOpen m_fFarm m_fFrom m_fWhat m_fTold m_rule m_draft m_tape (upd m_five (0 : Int32).toNatClampNeg p0) m_those) H := hP_eq (wM_p_m_five) hP2
    have hD : va_D A (wM ad cB cI cZ cL 0 m_today m_legs m_feeds m_taped m_point m_end m_begin m_faultAt m_farm m_pig m_begun m_first m_weight m_salted m_heat m_isBad m_isSold m_sealedFeed m_hook m_should m_on m_warmth m_damp m_isOpen m_fFarm m_fFrom m_fWhat m_fTold m_rule m_draft m_tape (upd m_five (0 : Int32).toNatClampNeg p0) m_those) := hD_eq (wM_p_m_five) hD2
    refine lv_aload_n hx hb dX8_feed_27 rfl (lv_at hl 0 rfl) ?_
    refine va_get (D := (dC, dI)) (ci := 8) (v := .ref (ad 24)) (C := RX8) (T := TX8) (N := 34) hx hb hts hk_1 hown hK hP 0 wM_g0 rfl 32 (by decide) hk_3 (fun _ h9 => h9) rfl dX8_feed_28 ?_
    refine lv_iconst (v := 1) hx hb dX8_feed_31 (by decide) ?_
    refine lv_iload_n hx hb dX8_feed_32 rfl (lv_at hl 2 rfl) ?_
    refine va_iast hx hb hK hP hD hS 24 1 wM_g24 rfl (by unfold vp_in; decide) dX8_feed_33 (fun H locs hP2 hD2 hS => ?_)
    have hP : va_P (dC, dI) vwCl (wM ad cB cI cZ cL 0 m_today m_legs m_feeds m_taped m_point m_end m_begin m_faultAt m_farm m_pig m_begun m_first m_weight m_salted m_heat m_isBad m_isSold m_sealedFeed m_hook m_should m_on m_warmth m_damp m_isOpen m_fFarm m_fFrom m_fWhat m_fTold m_rule m_draft m_tape (upd (upd m_five (0 : Int32).toNatClampNeg p0) (1 : Int32).toNatClampNeg p1) m_those) H := hP_eq (wM_p_m_five) hP2
    have hD : va_D A (wM ad cB cI cZ cL 0 m_today m_legs m_feeds m_taped m_point m_end m_begin m_faultAt m_farm m_pig m_begun m_first m_weight m_salted m_heat m_isBad m_isSold m_sealedFeed m_hook m_should m_on m_warmth m_damp m_isOpen m_fFarm m_fFrom m_fWhat m_fTold m_rule m_draft m_tape (upd (upd m_five (0 : Int32).toNatClampNeg p0) (1 : Int32).toNatClampNeg p1) m_those) := hD_eq (wM_p_m_five) hD2
    refine lv_aload_n hx hb dX8_feed_34 rfl (lv_at hl 0 rfl) ?_
    refine va_get (D := (dC, dI)) (ci := 8) (v := .ref (ad 24)) (C := RX8) (T := TX8) (N := 34) hx hb hts hk_1 hown hK hP 0 wM_g0 rfl 32 (by decide) hk_3 (fun _ h9 => h9) rfl dX8_feed_35 ?_
    refine lv_iconst (v := 2) hx hb dX8_feed_38 (by decide) ?_
    refine lv_iload_n hx hb dX8_feed_39 rfl (lv_at hl 3 rfl) ?_
    refine va_iast hx hb hK hP hD hS 24 1 wM_g24 rfl (by unfold vp_in; decide) dX8_feed_40 (fun H locs hP2 hD2 hS => ?_)
    have hP : va_P (dC, dI) vwCl (wM ad cB cI cZ cL 0 m_today m_legs m_feeds m_taped m_point m_end m_begin m_faultAt m_farm m_pig m_begun m_first m_weight m_salted m_heat m_isBad m_isSold m_sealedFeed m_hook m_should m_on m_warmth m_damp m_isOpen m_fFarm m_fFrom m_fWhat m_fTold m_rule m_draft m_tape (upd (upd (upd m_five (0 : Int32).toNatClampNeg p0) (1 : Int32).toNatClampNeg p1) (2 : Int32).toNatClampNeg p2) m_those) H := hP_eq (wM_p_m_five) hP2
    have hD : va_D A (wM ad cB cI cZ cL 0 m_today m_legs m_feeds m_taped m_point m_end m_begin m_faultAt m_farm m_pig m_begun m_first m_weight m_salted m_heat m_isBad m_isSold m_sealedFeed m_hook m_should m_on m_warmth m_damp m_isOpen m_fFarm m_fFrom m_fWhat m_fTold m_rule m_draft m_tape (upd (upd (upd m_five (0 : Int32).toNatClampNeg p0) (1 : Int32).toNatClampNeg p1) (2 : Int32).toNatClampNeg p2) m_those) := hD_eq (wM_p_m_five) hD2
    refine lv_aload_n hx hb dX8_feed_41 rfl (lv_at hl 0 rfl) ?_
    refine va_get (D := (dC, dI)) (ci := 8) (v := .ref (ad 24)) (C := RX8) (T := TX8) (N := 34) hx hb hts hk_1 hown hK hP 0 wM_g0 rfl 32 (by decide) hk_3 (fun _ h9 => h9) rfl dX8_feed_42 ?_
    refine lv_iconst (v := 3) hx hb dX8_feed_45 (by decide) ?_
    refine lv_iload hx hb dX8_feed_46 (lv_at hl 4 rfl) ?_
    refine va_iast hx hb hK hP hD hS 24 1 wM_g24 rfl (by unfold vp_in; decide) dX8_feed_48 (fun H locs hP2 hD2 hS => ?_)
    have hP : va_P (dC, dI) vwCl (wM ad cB cI cZ cL 0 m_today m_legs m_feeds m_taped m_point m_end m_begin m_faultAt m_farm m_pig m_begun m_first m_weight m_salted m_heat m_isBad m_isSold m_sealedFeed m_hook m_should m_on m_warmth m_damp m_isOpen m_fFarm m_fFrom m_fWhat m_fTold m_rule m_draft m_tape (upd (upd (upd (upd m_five (0 : Int32).toNatClampNeg p0) (1 : Int32).toNatClampNeg p1) (2 : Int32).toNatClampNeg p2) (3 : Int32).toNatClampNeg p3) m_those) H := hP_eq (wM_p_m_five) hP2
    have hD : va_D A (wM ad cB cI cZ cL 0 m_today m_legs m_feeds m_taped m_point m_end m_begin m_faultAt m_farm m_pig m_begun m_first m_weight m_salted m_heat m_isBad m_isSold m_sealedFeed m_hook m_should m_on m_warmth m_damp m_isOpen m_fFarm m_fFrom m_fWhat m_fTold m_rule m_draft m_tape (upd (upd (upd (upd m_five (0 : Int32).toNatClampNeg p0) (1 : Int32).toNatClampNeg p1) (2 : Int32).toNatClampNeg p2) (3 : Int32).toNatClampNeg p3) m_those) := hD_eq (wM_p_m_five) hD2
    refine lv_aload_n hx hb dX8_feed_49 rfl (lv_at hl 0 rfl) ?_
    refine va_get (D := (dC, dI)) (ci := 8) (v := .ref (ad 24)) (C := RX8) (T := TX8) (N := 34) hx hb hts hk_1 hown hK hP 0 wM_g0 rfl 32 (by decide) hk_3 (fun _ h9 => h9) rfl dX8_feed_50 ?_
    refine lv_iconst (v := 4) hx hb dX8_feed_53 (by decide) ?_
    refine lv_iload hx hb dX8_feed_54 (lv_at hl 5 rfl) ?_
    refine va_iast hx hb hK hP hD hS 24 1 wM_g24 rfl (by unfold vp_in; decide) dX8_feed_56 (fun H locs hP2 hD2 hS => ?_)
    have hP : va_P (dC, dI) vwCl (wM ad cB cI cZ cL 0 m_today m_legs m_feeds m_taped m_point m_end m_begin m_faultAt m_farm m_pig m_begun m_first m_weight m_salted m_heat m_isBad m_isSold m_sealedFeed m_hook m_should m_on m_warmth m_damp m_isOpen m_fFarm m_fFrom m_fWhat m_fTold m_rule m_draft m_tape (upd (upd (upd (upd (upd m_five (0 : Int32).toNatClampNeg p0) (1 : Int32).toNatClampNeg p1) (2 : Int32).toNatClampNeg p2) (3 : Int32).toNatClampNeg p3) (4 : Int32).toNatClampNeg p4) m_those) H := hP_eq (wM_p_m_five) hP2
    have hD : va_D A (wM ad cB cI cZ cL 0 m_today m_legs m_feeds m_taped m_point m_end m_begin m_faultAt m_farm m_pig m_begun m_first m_weight m_salted m_heat m_isBad m_isSold m_sealedFeed m_hook m_should m_on m_warmth m_damp m_isOpen m_fFarm m_fFrom m_fWhat m_fTold m_rule m_draft m_tape (upd (upd (upd (upd (upd m_five (0 : Int32).toNatClampNeg p0) (1 : Int32).toNatClampNeg p1) (2 : Int32).toNatClampNeg p2) (3 : Int32).toNatClampNeg p3) (4 : Int32).toNatClampNeg p4) m_those) := hD_eq (wM_p_m_five) hD2
    refine lv_iconst (v := 0) hx hb dX8_feed_57 (by decide) ?_
    refine lv_istore (lv' := [(6, .int 0), (0, .ref (ad 0)), (1, .int p0), (2, .int p1), (3, .int p2), (4, .int p3), (5, .int p4)]) hx hb dX8_feed_58 hl (by decide) rfl (fun ls hl => ?_)
    obtain ⟨n_5, h⟩ := h
    exact hlp_M_X8_feed_60 n_5 0 m_taped m_tape (upd (upd (upd (upd (upd m_five (0 : Int32).toNatClampNeg p0) (1 : Int32).toNatClampNeg p1) (2 : Int32).toNatClampNeg p2) (3 : Int32).toNatClampNeg p3) (4 : Int32).toNatClampNeg p4) 0 _ _ _ hP hD hS (lv_sub hl [1, 0] rfl) h
  · have h := h.2 c_1
    refine lv_iconst (v := (-1)) hx hb dX8_feed_18 (by decide) ?_
    exact W.iret (v := (-1)) hx hb hr (fun t ht hW => ⟨⟨(-1), (0, m_taped, m_tape, m_five), rfl, h, kB_mk hP hK hD ht hW.alike⟩, hS.F ht⟩) hS.2.2 dX8_feed_19
def wp_M_X8_end (Q : Int32 → Int32 → Int32 → Prop) (m_thrown : Int32) (m_taped : Int32) (p0 : Int32) : Prop := ((p0 < 0 → (o01 0 ∧ Q 0 0 m_taped)) ∧ (¬ (p0 < 0) → ((p0 ≤ m_taped → (o01 1 ∧ Q 1 0 p0)) ∧ (¬ (p0 ≤ m_taped) → (o01 0 ∧ Q 0 0 m_taped)))))
def rm_M_X8_end : Room := { frames := 0, cells := 0, slots := 0, locals := 0 }
abbrev pq_M_X8_end (dC : Nat → ClassId) (dI : Nat → Nat → Nat) (ad : Nat → Nat) (cB cI cZ cL : ClassId) (A : Nat → Prop) (m_thrown m_today m_legs m_feeds m_taped m_point m_end m_begin m_faultAt : Int32) (m_farm m_pig m_begun m_first m_weight m_salted m_heat m_isBad m_isSold m_sealedFeed m_hook m_should m_on m_warmth m_damp m_isOpen m_fFarm m_fFrom m_fWhat m_fTold m_rule m_draft m_tape m_five m_those : Nat → Int32) (Q : Int32 → Int32 → Int32 → Prop) : Array Value → State → Outcome → State → Prop := va_Qi (fun (r : Int32) (u : Int32 × Int32) => Q r u.1 u.2) (fun u t => kB dC dI A (wM ad cB cI cZ cL u.1 m_today m_legs m_feeds u.2 m_point m_end m_begin m_faultAt m_farm m_pig m_begun m_first m_weight m_salted m_heat m_isBad m_isSold m_sealedFeed m_hook m_should m_on m_warmth m_damp m_isOpen m_fFarm m_fFrom m_fWhat m_fTold m_rule m_draft m_tape m_five m_those) (kTy cB cI cZ cL) t) A
set_option maxHeartbeats 4000000 in
set_option maxRecDepth 100000 in
theorem c_M_X8_end (l : Launch) (dC : Nat → ClassId) (dI : Nat → Nat → Nat) (ad : Nat → Nat) (cB cI cZ cL : ClassId) (A : Nat → Prop) (m_thrown m_today m_legs m_feeds m_taped m_point m_end m_begin m_faultAt : Int32) (m_farm m_pig m_begun m_first m_weight m_salted m_heat m_isBad m_isSold m_sealedFeed m_hook m_should m_on m_warmth m_damp m_isOpen m_fFarm m_fFrom m_fWhat m_fTold m_rule m_draft m_tape m_five m_those : Nat → Int32) (p0 : Int32)  (Q : Int32 → Int32 → Int32 → Prop) (h : wp_M_X8_end Q m_thrown m_taped p0) : Met l yX8_end wsX8_end rm_M_X8_end (va_Pc [.ref (ad 0), .int p0] (kC dC dI ad A (wM ad cB cI cZ cL m_thrown m_today m_legs m_feeds m_taped m_point m_end m_begin m_faultAt m_farm m_pig m_begun m_first m_weight m_salted m_heat m_isBad m_isSold m_sealedFeed m_hook m_should m_on m_warmth m_damp m_isOpen m_fFarm m_fFrom m_fWhat m_fTold m_rule m_draft m_tape m_five m_those) (kTy cB cI cZ cL))) (pq_M_X8_end dC dI ad cB cI cZ cL A m_thrown m_today m_legs m_feeds m_taped m_point m_end m_begin m_faultAt m_farm m_pig m_begun m_first m_weight m_salted m_heat m_isBad m_isSold m_sealedFeed m_hook m_should m_on m_warmth m_damp m_isOpen m_fFarm m_fFrom m_fWhat m_fTold m_rule m_draft m_tape m_five m_those Q) 0 0 A := by
  refine Met.ofW (cc := cX8_end) (maxL := 2) (ret := (some .boolean)) (by decide) rfl ?_
  intro p e s m args below meth c s₁ B hml hv
  obtain ⟨rfl, hA, hP, hK, hD, hE⟩ := hv
  have hx := B.exec
  have hb := B.bytes
  have hr := B.returns
  have hts := atoms_spec (ws := wsX8_end) B.pre
  have hown : s.vm.findClass RX8 = some m.cls := findClass_of_methodNamed B.named
  have hlocks := B.notSynchronized
  have hS : va_S A s.heap s.heap [] := va_S.rf
  have hk_0 := hts (.fieldLink RX8 1 "HamCellarModel" "thrown" "I") (by decide +kernel)
  have hk_1 : ∀ w ∈ wsX80, w ∈ wsX8_end := by decide +kernel
  have hk_2 := hts (.fieldLink RX8 131 "HamCellarModel" "taped" "I") (by decide +kernel)
  have hl := lv_entry ([.ref (ad 0), .int p0]) (n := 2) (Nat.le_of_ble_eq_true rfl)
  rw [lg_entry_eq]
  generalize (lg_sl ([.ref (ad 0), .int p0]) ++ List.replicate (2 - (lg_sl ([.ref (ad 0), .int p0])).length) Slot.unset).toArray = ls at hl ⊢
  have hl : lv_has ls 2 [(0, .ref (ad 0)), (1, .int p0)] := hl
  unfold wp_M_X8_end at h
  refine lv_aload_n hx hb dX8_end_0 rfl (lv_at hl 0 rfl) ?_
  refine lv_iconst (v := 0) hx hb dX8_end_1 (by decide) ?_
  refine va_put (D := (dC, dI)) (ci := 8) (v := .int 0) (ty := .int) (C := RX8) (T := TX8) (N := 34) hx hb hts hk_1 tyX8 tyX8_ok nmX8 hown hK hP hD hS 0 wM_g0 rfl 0 (by decide) hk_0 (fun _ h9 => h9) rfl (by decide +kernel) rfl rfl (Nat.le_of_ble_eq_true rfl) dX8_end_2 (fun H locs hP2 hD2 hS => ?_)
  have hP : va_P (dC, dI) vwCl (wM ad cB cI cZ cL 0 m_today m_legs m_feeds m_taped m_point m_end m_begin m_faultAt m_farm m_pig m_begun m_first m_weight m_salted m_heat m_isBad m_isSold m_sealedFeed m_hook m_should m_on m_warmth m_damp m_isOpen m_fFarm m_fFrom m_fWhat m_fTold m_rule m_draft m_tape m_five m_those) H := hP_eq (wM_p_m_thrown) hP2
  have hD : va_D A (wM ad cB cI cZ cL 0 m_today m_legs m_feeds m_taped m_point m_end m_begin m_faultAt m_farm m_pig m_begun m_first m_weight m_salted m_heat m_isBad m_isSold m_sealedFeed m_hook m_should m_on m_warmth m_damp m_isOpen m_fFarm m_fFrom m_fWhat m_fTold m_rule m_draft m_tape m_five m_those) := hD_eq (wM_p_m_thrown) hD2
  refine lv_iload_n hx hb dX8_end_5 rfl (lv_at hl 1 rfl) ?_
  refine lv_if_lt (tgt := 17) hx hb dX8_end_6 (by decide) (fun c_1 => ?_) (fun c_1 => ?_)
  · have h := h.1 c_1
    refine lv_iconst (v := 0) hx hb dX8_end_17 (by decide) ?_
    exact W.zret (v := 0) (ty := .boolean) hx hb hr (z01 h.1) (fun t ht hW => ⟨⟨0, (0, m_taped), rfl, h.2, kB_mk hP hK hD ht hW.alike⟩, hS.F ht⟩) hS.2.2 dX8_end_18
  · have h := h.2 c_1
    refine lv_iload_n hx hb dX8_end_9 rfl (lv_at hl 1 rfl) ?_
    refine lv_aload_n hx hb dX8_end_10 rfl (lv_at hl 0 rfl) ?_
    refine va_get (D := (dC, dI)) (ci := 8) (v := .int m_taped) (C := RX8) (T := TX8) (N := 34) hx hb hts hk_1 hown hK hP 0 wM_g0 rfl 27 (by decide) hk_2 (fun _ h9 => h9) rfl dX8_end_11 ?_
    refine lv_icmp_le (tgt := 19) hx hb dX8_end_14 (by decide) (fun c_2 => ?_) (fun c_2 => ?_)
    · have h := h.1 c_2
      refine lv_aload_n hx hb dX8_end_19 rfl (lv_at hl 0 rfl) ?_
      refine lv_iload_n hx hb dX8_end_20 rfl (lv_at hl 1 rfl) ?_
      refine va_put (D := (dC, dI)) (ci := 8) (v := .int p0) (ty := .int) (C := RX8) (T := TX8) (N := 34) hx hb hts hk_1 tyX8 tyX8_ok nmX8 hown hK hP hD hS 0 wM_g0 rfl 27 (by decide) hk_2 (fun _ h9 => h9) rfl (by decide +kernel) rfl rfl (Nat.le_of_ble_eq_true rfl) dX8_end_21 (fun H locs hP2 hD2 hS => ?_)
      have hP : va_P (dC, dI) vwCl (wM ad cB cI cZ cL 0 m_today m_legs m_feeds p0 m_point m_end m_begin m_faultAt m_farm m_pig m_begun m_first m_weight m_salted m_heat m_isBad m_isSold m_sealedFeed m_hook m_should m_on m_warmth m_damp m_isOpen m_fFarm m_fFrom m_fWhat m_fTold m_rule m_draft m_tape m_five m_those) H := hP_eq (wM_p_m_taped) hP2
      have hD : va_D A (wM ad cB cI cZ cL 0 m_today m_legs m_feeds p0 m_point m_end m_begin m_faultAt m_farm m_pig m_begun m_first m_weight m_salted m_heat m_isBad m_isSold m_sealedFeed m_hook m_should m_on m_warmth m_damp m_isOpen m_fFarm m_fFrom m_fWhat m_fTold m_rule m_draft m_tape m_five m_those) := hD_eq (wM_p_m_taped) hD2
      refine lv_iconst (v := 1) hx hb dX8_end_24 (by decide) ?_
      exact W.zret (v := 1) (ty := .boolean) hx hb hr (z01 h.1) (fun t ht hW => ⟨⟨1, (0, p0), rfl, h.2, kB_mk hP hK hD ht hW.alike⟩, hS.F ht⟩) hS.2.2 dX8_end_25
    · have h := h.2 c_2
      refine lv_iconst (v := 0) hx hb dX8_end_17 (by decide) ?_
      exact W.zret (v := 0) (ty := .boolean) hx hb hr (z01 h.1) (fun t ht hW => ⟨⟨0, (0, m_taped), rfl, h.2, kB_mk hP hK hD ht hW.alike⟩, hS.F ht⟩) hS.2.2 dX8_end_18
def wp_M_X8_fault (m_faultAt : Int32) (Q : Int32 → Int32 → Prop) (m_thrown : Int32) : Prop := Q m_faultAt 0
def rm_M_X8_fault : Room := { frames := 0, cells := 0, slots := 0, locals := 0 }
abbrev pq_M_X8_fault (dC : Nat → ClassId) (dI : Nat → Nat → Nat) (ad : Nat → Nat) (cB cI cZ cL : ClassId) (A : Nat → Prop) (m_thrown m_today m_legs m_feeds m_taped m_point m_end m_begin m_faultAt : Int32) (m_farm m_pig m_begun m_first m_weight m_salted m_heat m_isBad m_isSold m_sealedFeed m_hook m_should m_on m_warmth m_damp m_isOpen m_fFarm m_fFrom m_fWhat m_fTold m_rule m_draft m_tape m_five m_those : Nat → Int32) (Q : Int32 → Int32 → Prop) : Array Value → State → Outcome → State → Prop := va_Qi (fun (r : Int32) (u : Int32) => Q r u) (fun u t => kB dC dI A (wM ad cB cI cZ cL u m_today m_legs m_feeds m_taped m_point m_end m_begin m_faultAt m_farm m_pig m_begun m_first m_weight m_salted m_heat m_isBad m_isSold m_sealedFeed m_hook m_should m_on m_warmth m_damp m_isOpen m_fFarm m_fFrom m_fWhat m_fTold m_rule m_draft m_tape m_five m_those) (kTy cB cI cZ cL) t) A
set_option maxHeartbeats 4000000 in
set_option maxRecDepth 100000 in
theorem c_M_X8_fault (l : Launch) (dC : Nat → ClassId) (dI : Nat → Nat → Nat) (ad : Nat → Nat) (cB cI cZ cL : ClassId) (A : Nat → Prop) (m_thrown m_today m_legs m_feeds m_taped m_point m_end m_begin m_faultAt : Int32) (m_farm m_pig m_begun m_first m_weight m_salted m_heat m_isBad m_isSold m_sealedFeed m_hook m_should m_on m_warmth m_damp m_isOpen m_fFarm m_fFrom m_fWhat m_fTold m_rule m_draft m_tape m_five m_those : Nat → Int32)   (Q : Int32 → Int32 → Prop) (h : wp_M_X8_fault m_faultAt Q m_thrown) : Met l yX8_fault wsX8_fault rm_M_X8_fault (va_Pc [.ref (ad 0)] (kC dC dI ad A (wM ad cB cI cZ cL m_thrown m_today m_legs m_feeds m_taped m_point m_end m_begin m_faultAt m_farm m_pig m_begun m_first m_weight m_salted m_heat m_isBad m_isSold m_sealedFeed m_hook m_should m_on m_warmth m_damp m_isOpen m_fFarm m_fFrom m_fWhat m_fTold m_rule m_draft m_tape m_five m_those) (kTy cB cI cZ cL))) (pq_M_X8_fault dC dI ad cB cI cZ cL A m_thrown m_today m_legs m_feeds m_taped m_point m_end m_begin m_faultAt m_farm m_pig m_begun m_first m_weight m_salted m_heat m_isBad m_isSold m_sealedFeed m_hook m_should m_on m_warmth m_damp m_isOpen m_fFarm m_fFrom m_fWhat m_fTold m_rule m_draft m_tape m_five m_those Q) 0 0 A := by
  refine Met.ofW (cc := cX8_fault) (maxL := 1) (ret := (some .int)) (by decide) rfl ?_
  intro p e s m args below meth c s₁ B hml hv
  obtain ⟨rfl, hA, hP, hK, hD, hE⟩ := hv
  have hx := B.exec
  have hb := B.bytes
  have hr := B.returns
  have hts := atoms_spec (ws := wsX8_fault) B.pre
  have hown : s.vm.findClass RX8 = some m.cls := findClass_of_methodNamed B.named
  have hlocks := B.notSynchronized
  have hS : va_S A s.heap s.heap [] := va_S.rf
  have hk_0 := hts (.fieldLink RX8 1 "HamCellarModel" "thrown" "I") (by decide +kernel)
  have hk_1 : ∀ w ∈ wsX80, w ∈ wsX8_fault := by decide +kernel
  have hk_2 := hts (.fieldLink RX8 85 "HamCellarModel" "faultAt" "I") (by decide +kernel)
  have hl := lv_entry ([.ref (ad 0)]) (n := 1) (Nat.le_of_ble_eq_true rfl)
  rw [lg_entry_eq]
  generalize (lg_sl ([.ref (ad 0)]) ++ List.replicate (1 - (lg_sl ([.ref (ad 0)])).length) Slot.unset).toArray = ls at hl ⊢
  have hl : lv_has ls 1 [(0, .ref (ad 0))] := hl
  unfold wp_M_X8_fault at h
  refine lv_aload_n hx hb dX8_fault_0 rfl (lv_at hl 0 rfl) ?_
  refine lv_iconst (v := 0) hx hb dX8_fault_1 (by decide) ?_
  refine va_put (D := (dC, dI)) (ci := 8) (v := .int 0) (ty := .int) (C := RX8) (T := TX8) (N := 34) hx hb hts hk_1 tyX8 tyX8_ok nmX8 hown hK hP hD hS 0 wM_g0 rfl 0 (by decide) hk_0 (fun _ h9 => h9) rfl (by decide +kernel) rfl rfl (Nat.le_of_ble_eq_true rfl) dX8_fault_2 (fun H locs hP2 hD2 hS => ?_)
  have hP : va_P (dC, dI) vwCl (wM ad cB cI cZ cL 0 m_today m_legs m_feeds m_taped m_point m_end m_begin m_faultAt m_farm m_pig m_begun m_first m_weight m_salted m_heat m_isBad m_isSold m_sealedFeed m_hook m_should m_on m_warmth m_damp m_isOpen m_fFarm m_fFrom m_fWhat m_fTold m_rule m_draft m_tape m_five m_those) H := hP_eq (wM_p_m_thrown) hP2
  have hD : va_D A (wM ad cB cI cZ cL 0 m_today m_legs m_feeds m_taped m_point m_end m_begin m_faultAt m_farm m_pig m_begun m_first m_weight m_salted m_heat m_isBad m_isSold m_sealedFeed m_hook m_should m_on m_warmth m_damp m_isOpen m_fFarm m_fFrom m_fWhat m_fTold m_rule m_draft m_tape m_five m_those) := hD_eq (wM_p_m_thrown) hD2
  refine lv_aload_n hx hb dX8_fault_5 rfl (lv_at hl 0 rfl) ?_
  refine va_get (D := (dC, dI)) (ci := 8) (v := .int m_faultAt) (C := RX8) (T := TX8) (N := 34) hx hb hts hk_1 hown hK hP 0 wM_g0 rfl 31 (by decide) hk_2 (fun _ h9 => h9) rfl dX8_fault_6 ?_
  exact W.iret (v := m_faultAt) hx hb hr (fun t ht hW => ⟨⟨m_faultAt, (0), rfl, h, kB_mk hP hK hD ht hW.alike⟩, hS.F ht⟩) hS.2.2 dX8_fault_9
def bk_M_X8_knownOf_74 (m_feeds : Int32) (m_fFarm : Nat → Int32) (m_fFrom : Nat → Int32) (m_fWhat : Nat → Int32) (m_fTold : Nat → Int32)  (Q : Int32 → Prop) (K6 : Int32 → Int32 → Int32 → Int32 → Int32 → Prop) (v1 : Int32) (v2 : Int32) (v3 : Int32) (v4 : Int32) (v5 : Int32) : Prop := K6 v1 v2 v3 v4 (v5 + 1)
def bk_M_X8_knownOf_70 (m_feeds : Int32) (m_fFarm : Nat → Int32) (m_fFrom : Nat → Int32) (m_fWhat : Nat → Int32) (m_fTold : Nat → Int32)  (Q : Int32 → Prop) (K6 : Int32 → Int32 → Int32 → Int32 → Int32 → Prop) (v1 : Int32) (v2 : Int32) (v3 : Int32) (v5 : Int32) : Prop := bk_M_X8_knownOf_74 m_feeds m_fFarm m_fFrom m_fWhat m_fTold Q K6 v1 v2 v3 v5 v5
def lp_M_X8_knownOf_6 (m_feeds : Int32) (m_fFarm : Nat → Int32) (m_fFrom : Nat → Int32) (m_fWhat : Nat → Int32) (m_fTold : Nat → Int32)  (Q : Int32 → Prop) : Nat → Int32 → Int32 → Int32 → Int32 → Int32 → Prop
  | 0 => fun _ _ _ _ _ => False
  | n + 1 => fun v1 v2 v3 v4 v5 => ((m_feeds ≤ v5 → ((0 ≤ v4 → (vp_in v4 60 ∧ Q (m_fWhat v4.toNatClampNeg))) ∧ (¬ (0 ≤ v4) → Q 0))) ∧ (¬ (m_feeds ≤ v5) → (vp_in v5 60 ∧ ((¬ (m_fFarm v5.toNatClampNeg) = v1 → bk_M_X8_knownOf_74 m_feeds m_fFarm m_fFrom m_fWhat m_fTold Q (lp_M_X8_knownOf_6 m_feeds m_fFarm m_fFrom m_fWhat m_fTold Q n) v1 v2 v3 v4 v5) ∧ ((m_fFarm v5.toNatClampNeg) = v1 → (vp_in v5 60 ∧ ((v3 < (m_fTold v5.toNatClampNeg) → bk_M_X8_knownOf_74 m_feeds m_fFarm m_fFrom m_fWhat m_fTold Q (lp_M_X8_knownOf_6 m_feeds m_fFarm m_fFrom m_fWhat m_fTold Q n) v1 v2 v3 v4 v5) ∧ (¬ (v3 < (m_fTold v5.toNatClampNeg)) → (vp_in v5 60 ∧ ((v2 < (m_fFrom v5.toNatClampNeg) → bk_M_X8_knownOf_74 m_feeds m_fFarm m_fFrom m_fWhat m_fTold Q (lp_M_X8_knownOf_6 m_feeds m_fFarm m_fFrom m_fWhat m_fTold Q n) v1 v2 v3 v4 v5) ∧ (¬ (v2 < (m_fFrom v5.toNatClampNeg)) → ((v4 < 0 → bk_M_X8_knownOf_70 m_feeds m_fFarm m_fFrom m_fWhat m_fTold Q (lp_M_X8_knownOf_6 m_feeds m_fFarm m_fFrom m_fWhat m_fTold Q n) v1 v2 v3 v5) ∧ (¬ (v4 < 0) → (vp_in v5 60 ∧ (vp_in v4 60 ∧ (((m_fFrom v5.toNatClampNeg) < (m_fFrom v4.toNatClampNeg) → bk_M_X8_knownOf_74 m_feeds m_fFarm m_fFrom m_fWhat m_fTold Q (lp_M_X8_knownOf_6 m_feeds m_fFarm m_fFrom m_fWhat m_fTold Q n) v1 v2 v3 v4 v5) ∧ (¬ ((m_fFrom v5.toNatClampNeg) < (m_fFrom v4.toNatClampNeg)) → bk_M_X8_knownOf_70 m_feeds m_fFarm m_fFrom m_fWhat m_fTold Q (lp_M_X8_knownOf_6 m_feeds m_fFarm m_fFrom m_fWhat m_fTold Q n) v1 v2 v3 v5)))))))))))))))))
def wp_M_X8_knownOf (m_feeds : Int32) (m_fFarm : Nat → Int32) (m_fFrom : Nat → Int32) (m_fWhat : Nat → Int32) (m_fTold : Nat → Int32) (Q : Int32 → Prop) (p0 : Int32) (p1 : Int32) (p2 : Int32) : Prop := (∃ n_14, lp_M_X8_knownOf_6 m_feeds m_fFarm m_fFrom m_fWhat m_fTold Q n_14 p0 p1 p2 (-1) 0)
def rm_M_X8_knownOf : Room := { frames := 0, cells := 0, slots := 0, locals := 0 }
abbrev pq_M_X8_knownOf (dC : Nat → ClassId) (dI : Nat → Nat → Nat) (ad : Nat → Nat) (cB cI cZ cL : ClassId) (A : Nat → Prop) (m_thrown m_today m_legs m_feeds m_taped m_point m_end m_begin m_faultAt : Int32) (m_farm m_pig m_begun m_first m_weight m_salted m_heat m_isBad m_isSold m_sealedFeed m_hook m_should m_on m_warmth m_damp m_isOpen m_fFarm m_fFrom m_fWhat m_fTold m_rule m_draft m_tape m_five m_those : Nat → Int32) (Q : Int32 → Prop) : Array Value → State → Outcome → State → Prop := va_Qi (fun (r : Int32) (u : Unit) => Q r ) (fun u t => kB dC dI A (wM ad cB cI cZ cL m_thrown m_today m_legs m_feeds m_taped m_point m_end m_begin m_faultAt m_farm m_pig m_begun m_first m_weight m_salted m_heat m_isBad m_isSold m_sealedFeed m_hook m_should m_on m_warmth m_damp m_isOpen m_fFarm m_fFrom m_fWhat m_fTold m_rule m_draft m_tape m_five m_those) (kTy cB cI cZ cL) t) A
set_option maxHeartbeats 4000000 in
set_option maxRecDepth 100000 in
theorem c_M_X8_knownOf (l : Launch) (dC : Nat → ClassId) (dI : Nat → Nat → Nat) (ad : Nat → Nat) (cB cI cZ cL : ClassId) (A : Nat → Prop) (m_thrown m_today m_legs m_feeds m_taped m_point m_end m_begin m_faultAt : Int32) (m_farm m_pig m_begun m_first m_weight m_salted m_heat m_isBad m_isSold m_sealedFeed m_hook m_should m_on m_warmth m_damp m_isOpen m_fFarm m_fFrom m_fWhat m_fTold m_rule m_draft m_tape m_five m_those : Nat → Int32) (p0 : Int32) (p1 : Int32) (p2 : Int32)  (Q : Int32 → Prop) (h : wp_M_X8_knownOf m_feeds m_fFarm m_fFrom m_fWhat m_fTold Q p0 p1 p2) : Met l yX8_knownOf wsX8_knownOf rm_M_X8_knownOf (va_Pc [.ref (ad 0), .int p0, .int p1, .int p2] (kC dC dI ad A (wM ad cB cI cZ cL m_thrown m_today m_legs m_feeds m_taped m_point m_end m_begin m_faultAt m_farm m_pig m_begun m_first m_weight m_salted m_heat m_isBad m_isSold m_sealedFeed m_hook m_should m_on m_warmth m_damp m_isOpen m_fFarm m_fFrom m_fWhat m_fTold m_rule m_draft m_tape m_five m_those) (kTy cB cI cZ cL))) (pq_M_X8_knownOf dC dI ad cB cI cZ cL A m_thrown m_today m_legs m_feeds m_taped m_point m_end m_begin m_faultAt m_farm m_pig m_begun m_first m_weight m_salted m_heat m_isBad m_isSold m_sealedFeed m_hook m_should m_on m_warmth m_damp m_isOpen m_fFarm m_fFrom m_fWhat m_fTold m_rule m_draft m_tape m_five m_those Q) 0 0 A := by
  refine Met.ofW (cc := cX8_knownOf) (maxL := 6) (ret := (some .int)) (by decide) rfl ?_
  intro p e s m args below meth c s₁ B hml hv
  obtain ⟨rfl, hA, hP, hK, hD, hE⟩ := hv
  have hx := B.exec
  have hb := B.bytes
  have hr := B.returns
  have hts := atoms_spec (ws := wsX8_knownOf) B.pre
  have hown : s.vm.findClass RX8 = some m.cls := findClass_of_methodNamed B.named
  have hlocks := B.notSynchronized
  have hS : va_S A s.heap s.heap [] := va_S.rf
  have hk_0 := hts (.fieldLink RX8 179 "HamCellarModel" "feeds" "I") (by decide +kernel)
  have hk_1 : ∀ w ∈ wsX80, w ∈ wsX8_knownOf := by decide +kernel
  have hk_2 := hts (.fieldLink RX8 69 "HamCellarModel" "fWhat" "[I") (by decide +kernel)
  have hk_3 := hts (.fieldLink RX8 63 "HamCellarModel" "fFarm" "[I") (by decide +kernel)
  have hk_4 := hts (.fieldLink RX8 72 "HamCellarModel" "fTold" "[I") (by decide +kernel)
  have hk_5 := hts (.fieldLink RX8 66 "HamCellarModel" "fFrom" "[I") (by decide +kernel)
  have hbk_M_X8_knownOf_74 : ∀ (K6 : Int32 → Int32 → Int32 → Int32 → Int32 → Prop) (hK6 : ∀ (v1 : Int32) (v2 : Int32) (v3 : Int32) (v4 : Int32) (v5 : Int32) (H : Heap) (locs : List Loc) (ls : Array Slot), va_P (dC, dI) vwCl (wM ad cB cI cZ cL m_thrown m_today m_legs m_feeds m_taped m_point m_end m_begin m_faultAt m_farm m_pig m_begun m_first m_weight m_salted m_heat m_isBad m_isSold m_sealedFeed m_hook m_should m_on m_warmth m_damp m_isOpen m_fFarm m_fFrom m_fWhat m_fTold m_rule m_draft m_tape m_five m_those) H → va_D A (wM ad cB cI cZ cL m_thrown m_today m_legs m_feeds m_taped m_point m_end m_begin m_faultAt m_farm m_pig m_begun m_first m_weight m_salted m_heat m_isBad m_isSold m_sealedFeed m_hook m_should m_on m_warmth m_damp m_isOpen m_fFarm m_fFrom m_fWhat m_fTold m_rule m_draft m_tape m_five m_those) → va_S A s.heap H locs → lv_has ls 6 [(0, .ref (ad 0)), (1, .int v1), (2, .int v2), (3, .int v3), (4, .int v4), (5, .int v5)] → K6 v1 v2 v3 v4 v5 → W p l e (headSpec wsX8_knownOf rm_M_X8_knownOf).room s m ([.ref (ad 0), .int p0, .int p1, .int p2] : List Value).toArray below meth c H locs 0 0 (MQ below (pq_M_X8_knownOf dC dI ad cB cI cZ cL A m_thrown m_today m_legs m_feeds m_taped m_point m_end m_begin m_faultAt m_farm m_pig m_begun m_first m_weight m_salted m_heat m_isBad m_isSold m_sealedFeed m_hook m_should m_on m_warmth m_damp m_isOpen m_fFarm m_fFrom m_fWhat m_fTold m_rule m_draft m_tape m_five m_those Q) ([.ref (ad 0), .int p0, .int p1, .int p2] : List Value).toArray s 0 0 A) (F0 m 6 ls [])) (v1 : Int32) (v2 : Int32) (v3 : Int32) (v4 : Int32) (v5 : Int32) (H : Heap) (locs : List Loc) (ls : Array Slot), va_P (dC, dI) vwCl (wM ad cB cI cZ cL m_thrown m_today m_legs m_feeds m_taped m_point m_end m_begin m_faultAt m_farm m_pig m_begun m_first m_weight m_salted m_heat m_isBad m_isSold m_sealedFeed m_hook m_should m_on m_warmth m_damp m_isOpen m_fFarm m_fFrom m_fWhat m_fTold m_rule m_draft m_tape m_five m_those) H → va_D A (wM ad cB cI cZ cL m_thrown m_today m_legs m_feeds m_taped m_point m_end m_begin m_faultAt m_farm m_pig m_begun m_first m_weight m_salted m_heat m_isBad m_isSold m_sealedFeed m_hook m_should m_on m_warmth m_damp m_isOpen m_fFarm m_fFrom m_fWhat m_fTold m_rule m_draft m_tape m_five m_those) → va_S A s.heap H locs → lv_has ls 6 [(0, .ref (ad 0)), (1, .int v1), (2, .int v2), (3, .int v3), (4, .int v4), (5, .int v5)] → bk_M_X8_knownOf_74 m_feeds m_fFarm m_fFrom m_fWhat m_fTold Q K6 v1 v2 v3 v4 v5 → W p l e (headSpec wsX8_knownOf rm_M_X8_knownOf).room s m ([.ref (ad 0), .int p0, .int p1, .int p2] : List Value).toArray below meth c H locs 0 0 (MQ below (pq_M_X8_knownOf dC dI ad cB cI cZ cL A m_thrown m_today m_legs m_feeds m_taped m_point m_end m_begin m_faultAt m_farm m_pig m_begun m_first m_weight m_salted m_heat m_isBad m_isSold m_sealedFeed m_hook m_should m_on m_warmth m_damp m_isOpen m_fFarm m_fFrom m_fWhat m_fTold m_rule m_draft m_tape m_five m_those Q) ([.ref (ad 0), .int p0, .int p1, .int p2] : List Value).toArray s 0 0 A) (F0 m 74 ls []) := by
    intro K6 hK6 v1 v2 v3 v4 v5 H locs ls hP hD hS hl h
    refine lv_iinc (v := v5 + 1) (lv' := [(5, .int (v5 + 1)), (0, .ref (ad 0)), (1, .int v1), (2, .int v2), (3, .int v3), (4, .int v4)]) hx hb dX8_knownOf_74 hl (k := 5) rfl rfl (by decide) rfl (fun ls hl => ?_)
    refine lv_goto (tgt := 6) hx hb dX8_knownOf_77 (by decide) ?_
    exact hK6 v1 v2 v3 v4 (v5 + 1) _ _ _ hP hD hS (lv_sub hl [1, 2, 3, 4, 5, 0] rfl) h
  have hbk_M_X8_knownOf_70 : ∀ (K6 : Int32 → Int32 → Int32 → Int32 → Int32 → Prop) (hK6 : ∀ (v1 : Int32) (v2 : Int32) (v3 : Int32) (v4 : Int32) (v5 : Int32) (H : Heap) (locs : List Loc) (ls : Array Slot), va_P (dC, dI) vwCl (wM ad cB cI cZ cL m_thrown m_today m_legs m_feeds m_taped m_point m_end m_begin m_faultAt m_farm m_pig m_begun m_first m_weight m_salted m_heat m_isBad m_isSold m_sealedFeed m_hook m_should m_on m_warmth m_damp m_isOpen m_fFarm m_fFrom m_fWhat m_fTold m_rule m_draft m_tape m_five m_those) H → va_D A (wM ad cB cI cZ cL m_thrown m_today m_legs m_feeds m_taped m_point m_end m_begin m_faultAt m_farm m_pig m_begun m_first m_weight m_salted m_heat m_isBad m_isSold m_sealedFeed m_hook m_should m_on m_warmth m_damp m_isOpen m_fFarm m_fFrom m_fWhat m_fTold m_rule m_draft m_tape m_five m_those) → va_S A s.heap H locs → lv_has ls 6 [(0, .ref (ad 0)), (1, .int v1), (2, .int v2), (3, .int v3), (4, .int v4), (5, .int v5)] → K6 v1 v2 v3 v4 v5 → W p l e (headSpec wsX8_knownOf rm_M_X8_knownOf).room s m ([.ref (ad 0), .int p0, .int p1, .int p2] : List Value).toArray below meth c H locs 0 0 (MQ below (pq_M_X8_knownOf dC dI ad cB cI cZ cL A m_thrown m_today m_legs m_feeds m_taped m_point m_end m_begin m_faultAt m_farm m_pig m_begun m_first m_weight m_salted m_heat m_isBad m_isSold m_sealedFeed m_hook m_should m_on m_warmth m_damp m_isOpen m_fFarm m_fFrom m_fWhat m_fTold m_rule m_draft m_tape m_five m_those Q) ([.ref (ad 0), .int p0, .int p1, .int p2] : List Value).toArray s 0 0 A) (F0 m 6 ls [])) (v1 : Int32) (v2 : Int32) (v3 : Int32) (v5 : Int32) (H : Heap) (locs : List Loc) (ls : Array Slot), va_P (dC, dI) vwCl (wM ad cB cI cZ cL m_thrown m_today m_legs m_feeds m_taped m_point m_end m_begin m_faultAt m_farm m_pig m_begun m_first m_weight m_salted m_heat m_isBad m_isSold m_sealedFeed m_hook m_should m_on m_warmth m_damp m_isOpen m_fFarm m_fFrom m_fWhat m_fTold m_rule m_draft m_tape m_five m_those) H → va_D A (wM ad cB cI cZ cL m_thrown m_today m_legs m_feeds m_taped m_point m_end m_begin m_faultAt m_farm m_pig m_begun m_first m_weight m_salted m_heat m_isBad m_isSold m_sealedFeed m_hook m_should m_on m_warmth m_damp m_isOpen m_fFarm m_fFrom m_fWhat m_fTold m_rule m_draft m_tape m_five m_those) → va_S A s.heap H locs → lv_has ls 6 [(0, .ref (ad 0)), (1, .int v1), (2, .int v2), (3, .int v3), (5, .int v5)] → bk_M_X8_knownOf_70 m_feeds m_fFarm m_fFrom m_fWhat m_fTold Q K6 v1 v2 v3 v5 → W p l e (headSpec wsX8_knownOf rm_M_X8_knownOf).room s m ([.ref (ad 0), .int p0, .int p1, .int p2] : List Value).toArray below meth c H locs 0 0 (MQ below (pq_M_X8_knownOf dC dI ad cB cI cZ cL A m_thrown m_today m_legs m_feeds m_taped m_point m_end m_begin m_faultAt m_farm m_pig m_begun m_first m_weight m_salted m_heat m_isBad m_isSold m_sealedFeed m_hook m_should m_on m_warmth m_damp m_isOpen m_fFarm m_fFrom m_fWhat m_fTold m_rule m_draft m_tape m_five m_those Q) ([.ref (ad 0), .int p0, .int p1, .int p2] : List Value).toArray s 0 0 A) (F0 m 70 ls []) := by
    intro K6 hK6 v1 v2 v3 v5 H locs ls hP hD hS hl h
    refine lv_iload hx hb dX8_knownOf_70 (lv_at hl 4 rfl) ?_
    refine lv_istore (lv' := [(4, .int v5), (0, .ref (ad 0)), (1, .int v1), (2, .int v2), (3, .int v3), (5, .int v5)]) hx hb dX8_knownOf_72 hl (by decide) rfl (fun ls hl => ?_)
    exact hbk_M_X8_knownOf_74 K6 hK6 v1 v2 v3 v5 v5 _ _ _ hP hD hS (lv_sub hl [1, 2, 3, 4, 0, 5] rfl) h
  have hlp_M_X8_knownOf_6 : ∀ (n : Nat) (v1 : Int32) (v2 : Int32) (v3 : Int32) (v4 : Int32) (v5 : Int32) (H : Heap) (locs : List Loc) (ls : Array Slot), va_P (dC, dI) vwCl (wM ad cB cI cZ cL m_thrown m_today m_legs m_feeds m_taped m_point m_end m_begin m_faultAt m_farm m_pig m_begun m_first m_weight m_salted m_heat m_isBad m_isSold m_sealedFeed m_hook m_should m_on m_warmth m_damp m_isOpen m_fFarm m_fFrom m_fWhat m_fTold m_rule m_draft m_tape m_five m_those) H → va_D A (wM ad cB cI cZ cL m_thrown m_today m_legs m_feeds m_taped m_point m_end m_begin m_faultAt m_farm m_pig m_begun m_first m_weight m_salted m_heat m_isBad m_isSold m_sealedFeed m_hook m_should m_on m_warmth m_damp m_isOpen m_fFarm m_fFrom m_fWhat m_fTold m_rule m_draft m_tape m_five m_those) → va_S A s.heap H locs → lv_has ls 6 [(0, .ref (ad 0)), (1, .int v1), (2, .int v2), (3, .int v3), (4, .int v4), (5, .int v5)] → lp_M_X8_knownOf_6 m_feeds m_fFarm m_fFrom m_fWhat m_fTold Q n v1 v2 v3 v4 v5 → W p l e (headSpec wsX8_knownOf rm_M_X8_knownOf).room s m ([.ref (ad 0), .int p0, .int p1, .int p2] : List Value).toArray below meth c H locs 0 0 (MQ below (pq_M_X8_knownOf dC dI ad cB cI cZ cL A m_thrown m_today m_legs m_feeds m_taped m_point m_end m_begin m_faultAt m_farm m_pig m_begun m_first m_weight m_salted m_heat m_isBad m_isSold m_sealedFeed m_hook m_should m_on m_warmth m_damp m_isOpen m_fFarm m_fFrom m_fWhat m_fTold m_rule m_draft m_tape m_five m_those Q) ([.ref (ad 0), .int p0, .int p1, .int p2] : List Value).toArray s 0 0 A) (F0 m 6 ls []) := by
    intro n
    induction n with
    | zero => intro v1 v2 v3 v4 v5 H locs ls hP hD hS hl h; exact h.elim
    | succ n ih =>
      intro v1 v2 v3 v4 v5 H locs ls hP hD hS hl h
      refine lv_iload hx hb dX8_knownOf_6 (lv_at hl 5 rfl) ?_
      refine lv_aload_n hx hb dX8_knownOf_8 rfl (lv_at hl 0 rfl) ?_
      refine va_get (D := (dC, dI)) (ci := 8) (v := .int m_feeds) (C := RX8) (T := TX8) (N := 34) hx hb hts hk_1 hown hK hP 0 wM_g0 rfl 23 (by decide) hk_0 (fun _ h9 => h9) rfl dX8_knownOf_9 ?_
      refine lv_icmp_ge (tgt := 80) hx hb dX8_knownOf_12 (by decide) (fun c_1 => ?_) (fun c_1 => ?_)
      · have h := h.1 c_1
        refine lv_iload hx hb dX8_knownOf_80 (lv_at hl 4 rfl) ?_
        refine lv_if_ge (tgt := 89) hx hb dX8_knownOf_82 (by decide) (fun c_2 => ?_) (fun c_2 => ?_)
        · have h := h.1 c_2
          refine lv_aload_n hx hb dX8_knownOf_89 rfl (lv_at hl 0 rfl) ?_
          refine va_get (D := (dC, dI)) (ci := 8) (v := .ref (ad 19)) (C := RX8) (T := TX8) (N := 34) hx hb hts hk_1 hown hK hP 0 wM_g0 rfl 21 (by decide) hk_2 (fun _ h9 => h9) rfl dX8_knownOf_90 ?_
          refine lv_iload hx hb dX8_knownOf_93 (lv_at hl 4 rfl) ?_
          have hi_3 := h.1
          have h := h.2
          refine va_iald hx hb hK hP 19 1 wM_g19 rfl hi_3 dX8_knownOf_95 ?_
          exact W.iret (v := m_fWhat v4.toNatClampNeg) hx hb hr (fun t ht hW => ⟨⟨m_fWhat v4.toNatClampNeg, (), rfl, h, kB_mk hP hK hD ht hW.alike⟩, hS.F ht⟩) hS.2.2 dX8_knownOf_96
        · have h := h.2 c_2
          refine lv_iconst (v := 0) hx hb dX8_knownOf_85 (by decide) ?_
          refine lv_goto (tgt := 96) hx hb dX8_knownOf_86 (by decide) ?_
          exact W.iret (v := 0) hx hb hr (fun t ht hW => ⟨⟨0, (), rfl, h, kB_mk hP hK hD ht hW.alike⟩, hS.F ht⟩) hS.2.2 dX8_knownOf_96
      · have h := h.2 c_1
        refine lv_aload_n hx hb dX8_knownOf_15 rfl (lv_at hl 0 rfl) ?_
        refine va_get (D := (dC, dI)) (ci := 8) (v := .ref (ad 17)) (C := RX8) (T := TX8) (N := 34) hx hb hts hk_1 hown hK hP 0 wM_g0 rfl 19 (by decide) hk_3 (fun _ h9 => h9) rfl dX8_knownOf_16 ?_
        refine lv_iload hx hb dX8_knownOf_19 (lv_at hl 5 rfl) ?_
        have hi_4 := h.1
        have h := h.2
        refine va_iald hx hb hK hP 17 1 wM_g17 rfl hi_4 dX8_knownOf_21 ?_
        refine lv_iload_n hx hb dX8_knownOf_22 rfl (lv_at hl 1 rfl) ?_
        refine lv_icmp_ne (tgt := 74) hx hb dX8_knownOf_23 (by decide) (fun c_5 => ?_) (fun c_5 => ?_)
        · have h := h.1 c_5
          exact hbk_M_X8_knownOf_74 (lp_M_X8_knownOf_6 m_feeds m_fFarm m_fFrom m_fWhat m_fTold Q n) ih v1 v2 v3 v4 v5 _ _ _ hP hD hS (lv_sub hl [0, 1, 2, 3, 4, 5] rfl) h
        · have h := h.2 c_5
          refine lv_aload_n hx hb dX8_knownOf_26 rfl (lv_at hl 0 rfl) ?_
          refine va_get (D := (dC, dI)) (ci := 8) (v := .ref (ad 20)) (C := RX8) (T := TX8) (N := 34) hx hb hts hk_1 hown hK hP 0 wM_g0 rfl 22 (by decide) hk_4 (fun _ h9 => h9) rfl dX8_knownOf_27 ?_
          refine lv_iload hx hb dX8_knownOf_30 (lv_at hl 5 rfl) ?_
          have hi_6 := h.1
          have h := h.2
          refine va_iald hx hb hK hP 20 1 wM_g20 rfl hi_6 dX8_knownOf_32 ?_
          refine lv_iload_n hx hb dX8_knownOf_33 rfl (lv_at hl 3 rfl) ?_
          refine lv_icmp_gt (tgt := 74) hx hb dX8_knownOf_34 (by decide) (fun c_7 => ?_) (fun c_7 => ?_)
          · have h := h.1 c_7
            exact hbk_M_X8_knownOf_74 (lp_M_X8_knownOf_6 m_feeds m_fFarm m_fFrom m_fWhat m_fTold Q n) ih v1 v2 v3 v4 v5 _ _ _ hP hD hS (lv_sub hl [0, 1, 2, 3, 4, 5] rfl) h
          · have h := h.2 c_7
            refine lv_aload_n hx hb dX8_knownOf_37 rfl (lv_at hl 0 rfl) ?_
            refine va_get (D := (dC, dI)) (ci := 8) (v := .ref (ad 18)) (C := RX8) (T := TX8) (N := 34) hx hb hts hk_1 hown hK hP 0 wM_g0 rfl 20 (by decide) hk_5 (fun _ h9 => h9) rfl dX8_knownOf_38 ?_
            refine lv_iload hx hb dX8_knownOf_41 (lv_at hl 5 rfl) ?_
            have hi_8 := h.1
            have h := h.2
            refine va_iald hx hb hK hP 18 1 wM_g18 rfl hi_8 dX8_knownOf_43 ?_
            refine lv_iload_n hx hb dX8_knownOf_44 rfl (lv_at hl 2 rfl) ?_
            refine lv_icmp_gt (tgt := 74) hx hb dX8_knownOf_45 (by decide) (fun c_9 => ?_) (fun c_9 => ?_)
            · have h := h.1 c_9
              exact hbk_M_X8_knownOf_74 (lp_M_X8_knownOf_6 m_feeds m_fFarm m_fFrom m_fWhat m_fTold Q n) ih v1 v2 v3 v4 v5 _ _ _ hP hD hS (lv_sub hl [0, 1, 2, 3, 4, 5] rfl) h
            · have h := h.2 c_9
              refine lv_iload hx hb dX8_knownOf_48 (lv_at hl 4 rfl) ?_
              refine lv_if_lt (tgt := 70) hx hb dX8_knownOf_50 (by decide) (fun c_10 => ?_) (fun c_10 => ?_)
              · have h := h.1 c_10
                exact hbk_M_X8_knownOf_70 (lp_M_X8_knownOf_6 m_feeds m_fFarm m_fFrom m_fWhat m_fTold Q n) ih v1 v2 v3 v5 _ _ _ hP hD hS (lv_sub hl [0, 1, 2, 3, 5] rfl) h
              · have h := h.2 c_10
                refine lv_aload_n hx hb dX8_knownOf_53 rfl (lv_at hl 0 rfl) ?_
                refine va_get (D := (dC, dI)) (ci := 8) (v := .ref (ad 18)) (C := RX8) (T := TX8) (N := 34) hx hb hts hk_1 hown hK hP 0 wM_g0 rfl 20 (by decide) hk_5 (fun _ h9 => h9) rfl dX8_knownOf_54 ?_
                refine lv_iload hx hb dX8_knownOf_57 (lv_at hl 5 rfl) ?_
                have hi_11 := h.1
                have h := h.2
                refine va_iald hx hb hK hP 18 1 wM_g18 rfl hi_11 dX8_knownOf_59 ?_
                refine lv_aload_n hx hb dX8_knownOf_60 rfl (lv_at hl 0 rfl) ?_
                refine va_get (D := (dC, dI)) (ci := 8) (v := .ref (ad 18)) (C := RX8) (T := TX8) (N := 34) hx hb hts hk_1 hown hK hP 0 wM_g0 rfl 20 (by decide) hk_5 (fun _ h9 => h9) rfl dX8_knownOf_61 ?_
                refine lv_iload hx hb dX8_knownOf_64 (lv_at hl 4 rfl) ?_
                have hi_12 := h.1
                have h := h.2
                refine va_iald hx hb hK hP 18 1 wM_g18 rfl hi_12 dX8_knownOf_66 ?_
                refine lv_icmp_lt (tgt := 74) hx hb dX8_knownOf_67 (by decide) (fun c_13 => ?_) (fun c_13 => ?_)
                · have h := h.1 c_13
                  exact hbk_M_X8_knownOf_74 (lp_M_X8_knownOf_6 m_feeds m_fFarm m_fFrom m_fWhat m_fTold Q n) ih v1 v2 v3 v4 v5 _ _ _ hP hD hS (lv_sub hl [0, 1, 2, 3, 4, 5] rfl) h
                · have h := h.2 c_13
                  exact hbk_M_X8_knownOf_70 (lp_M_X8_knownOf_6 m_feeds m_fFarm m_fFrom m_fWhat m_fTold Q n) ih v1 v2 v3 v5 _ _ _ hP hD hS (lv_sub hl [0, 1, 2, 3, 5] rfl) h
  have hl := lv_entry ([.ref (ad 0), .int p0, .int p1, .int p2]) (n := 6) (Nat.le_of_ble_eq_true rfl)
  rw [lg_entry_eq]
  generalize (lg_sl ([.ref (ad 0), .int p0, .int p1, .int p2]) ++ List.replicate (6 - (lg_sl ([.ref (ad 0), .int p0, .int p1, .int p2])).length) Slot.unset).toArray = ls at hl ⊢
  have hl : lv_has ls 6 [(0, .ref (ad 0)), (1, .int p0), (2, .int p1), (3, .int p2)] := hl
  unfold wp_M_X8_knownOf at h
  refine lv_iconst (v := (-1)) hx hb dX8_knownOf_0 (by decide) ?_
  refine lv_istore (lv' := [(4, .int (-1)), (0, .ref (ad 0)), (1, .int p0), (2, .int p1), (3, .int p2)]) hx hb dX8_knownOf_1 hl (by decide) rfl (fun ls hl => ?_)
  refine lv_iconst (v := 0) hx hb dX8_knownOf_3 (by decide) ?_
  refine lv_istore (lv' := [(5, .int 0), (4, .int (-1)), (0, .ref (ad 0)), (1, .int p0), (2, .int p1), (3, .int p2)]) hx hb dX8_knownOf_4 hl (by decide) rfl (fun ls hl => ?_)
  obtain ⟨n_14, h⟩ := h
  exact hlp_M_X8_knownOf_6 n_14 p0 p1 p2 (-1) 0 _ _ _ hP hD hS (lv_sub hl [2, 3, 4, 5, 1, 0] rfl) h
def bk_M_X8_known_21 (m_feeds : Int32) (m_fFarm : Nat → Int32) (m_fFrom : Nat → Int32) (m_fWhat : Nat → Int32) (m_fTold : Nat → Int32)  (Q : Int32 → Int32 → Prop) (m_thrown : Int32) (v1 : Int32) (v2 : Int32) (v3 : Int32) (k0 : Int32) : Prop := wp_M_X8_throwsIf (fun r_3 m_thrown_3 => ((r_3 = 0 → wp_M_X8_knownOf m_feeds m_fFarm m_fFrom m_fWhat m_fTold (fun r_5 => Q r_5 m_thrown_3) v1 v2 v3) ∧ (¬ (r_3 = 0) → Q 0 m_thrown_3))) m_thrown k0 1
def wp_M_X8_known (m_feeds : Int32) (m_fFarm : Nat → Int32) (m_fFrom : Nat → Int32) (m_fWhat : Nat → Int32) (m_fTold : Nat → Int32) (Q : Int32 → Int32 → Prop) (m_thrown : Int32) (p0 : Int32) (p1 : Int32) (p2 : Int32) : Prop := wp_M_X8_in (fun r_1 => ((¬ r_1 = 0 → bk_M_X8_known_21 m_feeds m_fFarm m_fFrom m_fWhat m_fTold Q 0 p0 p1 p2 0) ∧ (r_1 = 0 → bk_M_X8_known_21 m_feeds m_fFarm m_fFrom m_fWhat m_fTold Q 0 p0 p1 p2 1))) p0 0 9
def rm_M_X8_known : Room := { frames := 1, cells := 0, slots := 0, locals := 25 }
abbrev pq_M_X8_known (dC : Nat → ClassId) (dI : Nat → Nat → Nat) (ad : Nat → Nat) (cB cI cZ cL : ClassId) (A : Nat → Prop) (m_thrown m_today m_legs m_feeds m_taped m_point m_end m_begin m_faultAt : Int32) (m_farm m_pig m_begun m_first m_weight m_salted m_heat m_isBad m_isSold m_sealedFeed m_hook m_should m_on m_warmth m_damp m_isOpen m_fFarm m_fFrom m_fWhat m_fTold m_rule m_draft m_tape m_five m_those : Nat → Int32) (Q : Int32 → Int32 → Prop) : Array Value → State → Outcome → State → Prop := va_Qi (fun (r : Int32) (u : Int32) => Q r u) (fun u t => kB dC dI A (wM ad cB cI cZ cL u m_today m_legs m_feeds m_taped m_point m_end m_begin m_faultAt m_farm m_pig m_begun m_first m_weight m_salted m_heat m_isBad m_isSold m_sealedFeed m_hook m_should m_on m_warmth m_damp m_isOpen m_fFarm m_fFrom m_fWhat m_fTold m_rule m_draft m_tape m_five m_those) (kTy cB cI cZ cL) t) A
set_option maxHeartbeats 4000000 in
set_option maxRecDepth 100000 in
theorem c_M_X8_known (l : Launch) (dC : Nat → ClassId) (dI : Nat → Nat → Nat) (ad : Nat → Nat) (cB cI cZ cL : ClassId) (A : Nat → Prop) (m_thrown m_today m_legs m_feeds m_taped m_point m_end m_begin m_faultAt : Int32) (m_farm m_pig m_begun m_first m_weight m_salted m_heat m_isBad m_isSold m_sealedFeed m_hook m_should m_on m_warmth m_damp m_isOpen m_fFarm m_fFrom m_fWhat m_fTold m_rule m_draft m_tape m_five m_those : Nat → Int32) (p0 : Int32) (p1 : Int32) (p2 : Int32)  (Q : Int32 → Int32 → Prop) (h : wp_M_X8_known m_feeds m_fFarm m_fFrom m_fWhat m_fTold Q m_thrown p0 p1 p2) : Met l yX8_known wsX8_known rm_M_X8_known (va_Pc [.ref (ad 0), .int p0, .int p1, .int p2] (kC dC dI ad A (wM ad cB cI cZ cL m_thrown m_today m_legs m_feeds m_taped m_point m_end m_begin m_faultAt m_farm m_pig m_begun m_first m_weight m_salted m_heat m_isBad m_isSold m_sealedFeed m_hook m_should m_on m_warmth m_damp m_isOpen m_fFarm m_fFrom m_fWhat m_fTold m_rule m_draft m_tape m_five m_those) (kTy cB cI cZ cL))) (pq_M_X8_known dC dI ad cB cI cZ cL A m_thrown m_today m_legs m_feeds m_taped m_point m_end m_begin m_faultAt m_farm m_pig m_begun m_first m_weight m_salted m_heat m_isBad m_isSold m_sealedFeed m_hook m_should m_on m_warmth m_damp m_isOpen m_fFarm m_fFrom m_fWhat m_fTold m_rule m_draft m_tape m_five m_those Q) 0 0 A := by
  refine Met.ofW (cc := cX8_known) (maxL := 4) (ret := (some .int)) (by decide) rfl ?_
  intro p e s m args below meth c s₁ B hml hv
  obtain ⟨rfl, hA, hP, hK, hD, hE⟩ := hv
  have hx := B.exec
  have hb := B.bytes
  have hr := B.returns
  have hts := atoms_spec (ws := wsX8_known) B.pre
  have hown : s.vm.findClass RX8 = some m.cls := findClass_of_methodNamed B.named
  have hlocks := B.notSynchronized
  have hS : va_S A s.heap s.heap [] := va_S.rf
  have hk_0 := hts (.fieldLink RX8 1 "HamCellarModel" "thrown" "I") (by decide +kernel)
  have hk_1 : ∀ w ∈ wsX80, w ∈ wsX8_known := by decide +kernel
  have hbk_M_X8_known_21 : ∀ (m_thrown : Int32) (v1 : Int32) (v2 : Int32) (v3 : Int32) (k0 : Int32) (H : Heap) (locs : List Loc) (ls : Array Slot), va_P (dC, dI) vwCl (wM ad cB cI cZ cL m_thrown m_today m_legs m_feeds m_taped m_point m_end m_begin m_faultAt m_farm m_pig m_begun m_first m_weight m_salted m_heat m_isBad m_isSold m_sealedFeed m_hook m_should m_on m_warmth m_damp m_isOpen m_fFarm m_fFrom m_fWhat m_fTold m_rule m_draft m_tape m_five m_those) H → va_D A (wM ad cB cI cZ cL m_thrown m_today m_legs m_feeds m_taped m_point m_end m_begin m_faultAt m_farm m_pig m_begun m_first m_weight m_salted m_heat m_isBad m_isSold m_sealedFeed m_hook m_should m_on m_warmth m_damp m_isOpen m_fFarm m_fFrom m_fWhat m_fTold m_rule m_draft m_tape m_five m_those) → va_S A s.heap H locs → lv_has ls 4 [(0, .ref (ad 0)), (1, .int v1), (2, .int v2), (3, .int v3)] → bk_M_X8_known_21 m_feeds m_fFarm m_fFrom m_fWhat m_fTold Q m_thrown v1 v2 v3 k0 → W p l e (headSpec wsX8_known rm_M_X8_known).room s m ([.ref (ad 0), .int p0, .int p1, .int p2] : List Value).toArray below meth c H locs 0 0 (MQ below (pq_M_X8_known dC dI ad cB cI cZ cL A m_thrown m_today m_legs m_feeds m_taped m_point m_end m_begin m_faultAt m_farm m_pig m_begun m_first m_weight m_salted m_heat m_isBad m_isSold m_sealedFeed m_hook m_should m_on m_warmth m_damp m_isOpen m_fFarm m_fFrom m_fWhat m_fTold m_rule m_draft m_tape m_five m_those Q) ([.ref (ad 0), .int p0, .int p1, .int p2] : List Value).toArray s 0 0 A) (F0 m 21 ls [.int k0, .ref (ad 0)]) := by
    intro m_thrown v1 v2 v3 k0 H locs ls hP hD hS hl h
    have h : wp_M_X8_throwsIf (fun r_3 m_thrown_3 => ((r_3 = 0 → wp_M_X8_knownOf m_feeds m_fFarm m_fFrom m_fWhat m_fTold (fun r_5 => Q r_5 m_thrown_3) v1 v2 v3) ∧ (¬ (r_3 = 0) → Q 0 m_thrown_3))) m_thrown k0 1 := h
    refine lv_iconst (v := 1) hx hb dX8_known_21 (by decide) ?_
    refine va_calli (va_runV (As := [.int k0, .int 1]) (rest := []) ⟨hx, hb, hml, hown, hts⟩ (c_M_X8_throwsIf l dC dI ad cB cI cZ cL A m_thrown m_today m_legs m_feeds m_taped m_point m_end m_begin m_faultAt m_farm m_pig m_begun m_first m_weight m_salted m_heat m_isBad m_isSold m_sealedFeed m_hook m_should m_on m_warmth m_damp m_isOpen m_fFarm m_fFrom m_fWhat m_fTold m_rule m_draft m_tape m_five m_those k0 1 _ h) (cwV 2 hts gX8_known_X8_throwsIf rfl rfl rfl (by decide +kernel) ⟨(Nat.le_of_ble_eq_true rfl), (Nat.le_of_ble_eq_true rfl)⟩) ⟨kC_blind, va_recv hK hP (ci := 8) (q0 := 0) rfl wM_g0, fun U hU hW => ⟨rfl, kC_go hA hS hP hK hD hE U hU hW⟩⟩ rfl rfl hl.1 rfl (lv_room (Nat.le_of_ble_eq_true rfl)) dX8_known_22 ⟨(Nat.le_of_ble_eq_true rfl), (Nat.le_of_ble_eq_true rfl)⟩) hS (fun q _ h => h) (fun q h => h) (fun r_3 u t H locs ht hvm hw hB hz1 hk1 hS => ?_)
    obtain ⟨m_thrown_3, rfl⟩ : ∃ z, z = u := ⟨_, rfl⟩
    have h := hw
    try dsimp only at h
    have hP : va_P (dC, dI) vwCl (wM ad cB cI cZ cL m_thrown_3 m_today m_legs m_feeds m_taped m_point m_end m_begin m_faultAt m_farm m_pig m_begun m_first m_weight m_salted m_heat m_isBad m_isSold m_sealedFeed m_hook m_should m_on m_warmth m_damp m_isOpen m_fFarm m_fFrom m_fWhat m_fTold m_rule m_draft m_tape m_five m_those) H := by rw [← ht]; exact hB.1
    have hD : va_D A (wM ad cB cI cZ cL m_thrown_3 m_today m_legs m_feeds m_taped m_point m_end m_begin m_faultAt m_farm m_pig m_begun m_first m_weight m_salted m_heat m_isBad m_isSold m_sealedFeed m_hook m_should m_on m_warmth m_damp m_isOpen m_fFarm m_fFrom m_fWhat m_fTold m_rule m_draft m_tape m_five m_those) := hB.2.2
    refine lv_if_eq (tgt := 32) hx hb dX8_known_25 (by decide) (fun c_4 => ?_) (fun c_4 => ?_)
    · have h := h.1 c_4
      refine lv_aload_n hx hb dX8_known_32 rfl (lv_at hl 0 rfl) ?_
      refine lv_iload_n hx hb dX8_known_33 rfl (lv_at hl 1 rfl) ?_
      refine lv_iload_n hx hb dX8_known_34 rfl (lv_at hl 2 rfl) ?_
      refine lv_iload_n hx hb dX8_known_35 rfl (lv_at hl 3 rfl) ?_
      refine va_calli (va_runV (As := [.int v1, .int v2, .int v3]) (rest := []) ⟨hx, hb, hml, hown, hts⟩ (c_M_X8_knownOf l dC dI ad cB cI cZ cL A m_thrown_3 m_today m_legs m_feeds m_taped m_point m_end m_begin m_faultAt m_farm m_pig m_begun m_first m_weight m_salted m_heat m_isBad m_isSold m_sealedFeed m_hook m_should m_on m_warmth m_damp m_isOpen m_fFarm m_fFrom m_fWhat m_fTold m_rule m_draft m_tape m_five m_those v1 v2 v3 _ h) (cwV 3 hts gX8_known_X8_knownOf rfl rfl rfl (by decide +kernel) ⟨(Nat.le_of_ble_eq_true rfl), (Nat.le_of_ble_eq_true rfl)⟩) ⟨kC_blind, va_recv hK hP (ci := 8) (q0 := 0) rfl wM_g0, fun U hU hW => ⟨rfl, kC_go hA hS hP hK hD hE U hU hW⟩⟩ rfl rfl hl.1 rfl (lv_room (Nat.le_of_ble_eq_true rfl)) dX8_known_36 ⟨(Nat.le_of_ble_eq_true rfl), (Nat.le_of_ble_eq_true rfl)⟩) hS (fun q _ h => h) (fun q h => h) (fun r_5 u t H locs ht hvm hw hB hz1 hk1 hS => ?_)
      have h := hw
      try dsimp only at h
      have hP : va_P (dC, dI) vwCl (wM ad cB cI cZ cL m_thrown_3 m_today m_legs m_feeds m_taped m_point m_end m_begin m_faultAt m_farm m_pig m_begun m_first m_weight m_salted m_heat m_isBad m_isSold m_sealedFeed m_hook m_should m_on m_warmth m_damp m_isOpen m_fFarm m_fFrom m_fWhat m_fTold m_rule m_draft m_tape m_five m_those) H := by rw [← ht]; exact hB.1
      have hD : va_D A (wM ad cB cI cZ cL m_thrown_3 m_today m_legs m_feeds m_taped m_point m_end m_begin m_faultAt m_farm m_pig m_begun m_first m_weight m_salted m_heat m_isBad m_isSold m_sealedFeed m_hook m_should m_on m_warmth m_damp m_isOpen m_fFarm m_fFrom m_fWhat m_fTold m_rule m_draft m_tape m_five m_those) := hB.2.2
      exact W.iret (v := r_5) hx hb hr (fun t ht hW => ⟨⟨r_5, (m_thrown_3), rfl, h, kB_mk hP hK hD ht hW.alike⟩, hS.F ht⟩) hS.2.2 dX8_known_39
    · have h := h.2 c_4
      refine lv_iconst (v := 0) hx hb dX8_known_28 (by decide) ?_
      refine lv_goto (tgt := 39) hx hb dX8_known_29 (by decide) ?_
      exact W.iret (v := 0) hx hb hr (fun t ht hW => ⟨⟨0, (m_thrown_3), rfl, h, kB_mk hP hK hD ht hW.alike⟩, hS.F ht⟩) hS.2.2 dX8_known_39
  have hl := lv_entry ([.ref (ad 0), .int p0, .int p1, .int p2]) (n := 4) (Nat.le_of_ble_eq_true rfl)
  rw [lg_entry_eq]
  generalize (lg_sl ([.ref (ad 0), .int p0, .int p1, .int p2]) ++ List.replicate (4 - (lg_sl ([.ref (ad 0), .int p0, .int p1, .int p2])).length) Slot.unset).toArray = ls at hl ⊢
  have hl : lv_has ls 4 [(0, .ref (ad 0)), (1, .int p0), (2, .int p1), (3, .int p2)] := hl
  unfold wp_M_X8_known at h
  refine lv_aload_n hx hb dX8_known_0 rfl (lv_at hl 0 rfl) ?_
  refine lv_iconst (v := 0) hx hb dX8_known_1 (by decide) ?_
  refine va_put (D := (dC, dI)) (ci := 8) (v := .int 0) (ty := .int) (C := RX8) (T := TX8) (N := 34) hx hb hts hk_1 tyX8 tyX8_ok nmX8 hown hK hP hD hS 0 wM_g0 rfl 0 (by decide) hk_0 (fun _ h9 => h9) rfl (by decide +kernel) rfl rfl (Nat.le_of_ble_eq_true rfl) dX8_known_2 (fun H locs hP2 hD2 hS => ?_)
  have hP : va_P (dC, dI) vwCl (wM ad cB cI cZ cL 0 m_today m_legs m_feeds m_taped m_point m_end m_begin m_faultAt m_farm m_pig m_begun m_first m_weight m_salted m_heat m_isBad m_isSold m_sealedFeed m_hook m_should m_on m_warmth m_damp m_isOpen m_fFarm m_fFrom m_fWhat m_fTold m_rule m_draft m_tape m_five m_those) H := hP_eq (wM_p_m_thrown) hP2
  have hD : va_D A (wM ad cB cI cZ cL 0 m_today m_legs m_feeds m_taped m_point m_end m_begin m_faultAt m_farm m_pig m_begun m_first m_weight m_salted m_heat m_isBad m_isSold m_sealedFeed m_hook m_should m_on m_warmth m_damp m_isOpen m_fFarm m_fFrom m_fWhat m_fTold m_rule m_draft m_tape m_five m_those) := hD_eq (wM_p_m_thrown) hD2
  refine lv_aload_n hx hb dX8_known_5 rfl (lv_at hl 0 rfl) ?_
  refine lv_iload_n hx hb dX8_known_6 rfl (lv_at hl 1 rfl) ?_
  refine lv_iconst (v := 0) hx hb dX8_known_7 (by decide) ?_
  refine lv_bipush (v := 9) hx hb dX8_known_8 (by decide) ?_
  refine va_calli (va_runS (As := [.int p0, .int 0, .int 9]) (rest := [.ref (ad 0)]) ⟨hx, hb, hml, hown, hts⟩ (c_M_X8_in l dC dI ad cB cI cZ cL A 0 m_today m_legs m_feeds m_taped m_point m_end m_begin m_faultAt m_farm m_pig m_begun m_first m_weight m_salted m_heat m_isBad m_isSold m_sealedFeed m_hook m_should m_on m_warmth m_damp m_isOpen m_fFarm m_fFrom m_fWhat m_fTold m_rule m_draft m_tape m_five m_those p0 0 9 _ h) (va_cwS 3 hts gX8_known_X8_in rfl rfl rfl (by decide +kernel) ⟨(Nat.le_of_ble_eq_true rfl), (Nat.le_of_ble_eq_true rfl)⟩) ⟨kC_blind, fun U hU hW => ⟨rfl, kC_go hA hS hP hK hD hE U hU hW⟩⟩ rfl rfl hl.1 rfl (lv_room (Nat.le_of_ble_eq_true rfl)) dX8_known_10 ⟨(Nat.le_of_ble_eq_true rfl), (Nat.le_of_ble_eq_true rfl)⟩) hS (fun q _ h => h) (fun q h => h) (fun r_1 u t H locs ht hvm hw hB hz1 hk1 hS => ?_)
  have h := hw
  try dsimp only at h
  have hP : va_P (dC, dI) vwCl (wM ad cB cI cZ cL 0 m_today m_legs m_feeds m_taped m_point m_end m_begin m_faultAt m_farm m_pig m_begun m_first m_weight m_salted m_heat m_isBad m_isSold m_sealedFeed m_hook m_should m_on m_warmth m_damp m_isOpen m_fFarm m_fFrom m_fWhat m_fTold m_rule m_draft m_tape m_five m_those) H := by rw [← ht]; exact hB.1
  have hD : va_D A (wM ad cB cI cZ cL 0 m_today m_legs m_feeds m_taped m_point m_end m_begin m_faultAt m_farm m_pig m_begun m_first m_weight m_salted m_heat m_isBad m_isSold m_sealedFeed m_hook m_should m_on m_warmth m_damp m_isOpen m_fFarm m_fFrom m_fWhat m_fTold m_rule m_draft m_tape m_five m_those) := hB.2.2
  refine lv_if_ne (tgt := 20) hx hb dX8_known_13 (by decide) (fun c_2 => ?_) (fun c_2 => ?_)
  · have h := h.1 c_2
    refine lv_iconst (v := 0) hx hb dX8_known_20 (by decide) ?_
    exact hbk_M_X8_known_21 0 p0 p1 p2 0 _ _ _ hP hD hS (lv_sub hl [0, 1, 2, 3] rfl) h
  · have h := h.2 c_2
    refine lv_iconst (v := 1) hx hb dX8_known_16 (by decide) ?_
    refine lv_goto (tgt := 21) hx hb dX8_known_17 (by decide) ?_
    exact hbk_M_X8_known_21 0 p0 p1 p2 1 _ _ _ hP hD hS (lv_sub hl [0, 1, 2, 3] rfl) h
def bk_M_X8_fed_208 (m_today : Int32) (m_legs : Int32) (m_farm : Nat → Int32) (m_begun : Nat → Int32) (m_isSold : Nat → Int32)  (Q : Int32 → Int32 → Int32 → (Nat → Int32) → (Nat → Int32) → (Nat → Int32) → (Nat → Int32) → (Nat → Int32) → Prop) (K133 : Int32 → Int32 → (Nat → Int32) → (Nat → Int32) → (Nat → Int32) → (Nat → Int32) → (Nat → Int32) → Int32 → Int32 → Prop) (m_thrown : Int32) (m_feeds : Int32) (m_sealedFeed : Nat → Int32) (m_fFarm : Nat → Int32) (m_fFrom : Nat → Int32) (m_fWhat : Nat → Int32) (m_fTold : Nat → Int32) (v4 : Int32) (v5 : Int32) : Prop := K133 m_thrown m_feeds m_sealedFeed m_fFarm m_fFrom m_fWhat m_fTold v4 (v5 + 1)
def lp_M_X8_fed_133 (m_today : Int32) (m_legs : Int32) (m_farm : Nat → Int32) (m_begun : Nat → Int32) (m_isSold : Nat → Int32)  (Q : Int32 → Int32 → Int32 → (Nat → Int32) → (Nat → Int32) → (Nat → Int32) → (Nat → Int32) → (Nat → Int32) → Prop) : Nat → Int32 → Int32 → (Nat → Int32) → (Nat → Int32) → (Nat → Int32) → (Nat → Int32) → (Nat → Int32) → Int32 → Int32 → Prop
  | 0 => fun _ _ _ _ _ _ _ _ _ => False
  | n + 1 => fun m_thrown m_feeds m_sealedFeed m_fFarm m_fFrom m_fWhat m_fTold v4 v5 => ((m_legs ≤ v5 → Q v4 m_thrown m_feeds m_sealedFeed m_fFarm m_fFrom m_fWhat m_fTold) ∧ (¬ (m_legs ≤ v5) → (vp_in v5 60 ∧ ((¬ (m_isSold v5.toNatClampNeg) = 0 → bk_M_X8_fed_208 m_today m_legs m_farm m_begun m_isSold Q (lp_M_X8_fed_133 m_today m_legs m_farm m_begun m_isSold Q n) m_thrown m_feeds m_sealedFeed m_fFarm m_fFrom m_fWhat m_fTold v4 v5) ∧ ((m_isSold v5.toNatClampNeg) = 0 → (vp_in v5 60 ∧ (((m_sealedFeed v5.toNatClampNeg) < 0 → bk_M_X8_fed_208 m_today m_legs m_farm m_begun m_isSold Q (lp_M_X8_fed_133 m_today m_legs m_farm m_begun m_isSold Q n) m_thrown m_feeds m_sealedFeed m_fFarm m_fFrom m_fWhat m_fTold v4 v5) ∧ (¬ ((m_sealedFeed v5.toNatClampNeg) < 0) → (vp_in v5 60 ∧ (vp_in v5 60 ∧ wp_M_X8_knownOf m_feeds m_fFarm m_fFrom m_fWhat m_fTold (fun r_21 => (vp_in v5 60 ∧ ((r_21 < (m_sealedFeed v5.toNatClampNeg) → (vp_in v5 60 ∧ bk_M_X8_fed_208 m_today m_legs m_farm m_begun m_isSold Q (lp_M_X8_fed_133 m_today m_legs m_farm m_begun m_isSold Q n) m_thrown m_feeds (upd m_sealedFeed v5.toNatClampNeg (-1)) m_fFarm m_fFrom m_fWhat m_fTold (v4 + 1) v5)) ∧ (¬ (r_21 < (m_sealedFeed v5.toNatClampNeg)) → bk_M_X8_fed_208 m_today m_legs m_farm m_begun m_isSold Q (lp_M_X8_fed_133 m_today m_legs m_farm m_begun m_isSold Q n) m_thrown m_feeds m_sealedFeed m_fFarm m_fFrom m_fWhat m_fTold v4 v5)))) (m_farm v5.toNatClampNeg) (m_begun v5.toNatClampNeg) m_today))))))))))
def bk_M_X8_fed_54 (m_today : Int32) (m_legs : Int32) (m_farm : Nat → Int32) (m_begun : Nat → Int32) (m_isSold : Nat → Int32)  (Q : Int32 → Int32 → Int32 → (Nat → Int32) → (Nat → Int32) → (Nat → Int32) → (Nat → Int32) → (Nat → Int32) → Prop) (m_thrown : Int32) (m_feeds : Int32) (m_sealedFeed : Nat → Int32) (m_fFarm : Nat → Int32) (m_fFrom : Nat → Int32) (m_fWhat : Nat → Int32) (m_fTold : Nat → Int32) (v1 : Int32) (v2 : Int32) (v3 : Int32) (k0 : Int32) : Prop := wp_M_X8_throwsIf (fun r_7 m_thrown_7 => ((r_7 = 0 → ((¬ m_feeds = 60 → (vp_in m_feeds 60 ∧ (vp_in m_feeds 60 ∧ (vp_in m_feeds 60 ∧ (vp_in m_feeds 60 ∧ (∃ n_25, lp_M_X8_fed_133 m_today m_legs m_farm m_begun m_isSold Q n_25 m_thrown_7 (m_feeds + 1) m_sealedFeed (upd m_fFarm m_feeds.toNatClampNeg v1) (upd m_fFrom m_feeds.toNatClampNeg v2) (upd m_fWhat m_feeds.toNatClampNeg v3) (upd m_fTold m_feeds.toNatClampNeg m_today) 0 0)))))) ∧ (m_feeds = 60 → Q (-1) m_thrown_7 m_feeds m_sealedFeed m_fFarm m_fFrom m_fWhat m_fTold))) ∧ (¬ (r_7 = 0) → Q 0 m_thrown_7 m_feeds m_sealedFeed m_fFarm m_fFrom m_fWhat m_fTold))) m_thrown k0 2
def bk_M_X8_fed_49 (m_today : Int32) (m_legs : Int32) (m_farm : Nat → Int32) (m_begun : Nat → Int32) (m_isSold : Nat → Int32)  (Q : Int32 → Int32 → Int32 → (Nat → Int32) → (Nat → Int32) → (Nat → Int32) → (Nat → Int32) → (Nat → Int32) → Prop) (m_thrown : Int32) (m_feeds : Int32) (m_sealedFeed : Nat → Int32) (m_fFarm : Nat → Int32) (m_fFrom : Nat → Int32) (m_fWhat : Nat → Int32) (m_fTold : Nat → Int32) (v1 : Int32) (v2 : Int32) (v3 : Int32) : Prop := bk_M_X8_fed_54 m_today m_legs m_farm m_begun m_isSold Q m_thrown m_feeds m_sealedFeed m_fFarm m_fFrom m_fWhat m_fTold v1 v2 v3 1
def bk_M_X8_fed_21 (m_today : Int32) (m_legs : Int32) (m_farm : Nat → Int32) (m_begun : Nat → Int32) (m_isSold : Nat → Int32)  (Q : Int32 → Int32 → Int32 → (Nat → Int32) → (Nat → Int32) → (Nat → Int32) → (Nat → Int32) → (Nat → Int32) → Prop) (m_thrown : Int32) (m_feeds : Int32) (m_sealedFeed : Nat → Int32) (m_fFarm : Nat → Int32) (m_fFrom : Nat → Int32) (m_fWhat : Nat → Int32) (m_fTold : Nat → Int32) (v1 : Int32) (v2 : Int32) (v3 : Int32) (k0 : Int32) : Prop := wp_M_X8_throwsIf (fun r_3 m_thrown_3 => ((¬ r_3 = 0 → Q 0 m_thrown_3 m_feeds m_sealedFeed m_fFarm m_fFrom m_fWhat m_fTold) ∧ (r_3 = 0 → wp_M_X8_in (fun r_5 => ((r_5 = 0 → bk_M_X8_fed_49 m_today m_legs m_farm m_begun m_isSold Q m_thrown_3 m_feeds m_sealedFeed m_fFarm m_fFrom m_fWhat m_fTold v1 v2 v3) ∧ (¬ (r_5 = 0) → wp_M_X8_in (fun r_26 => ((¬ r_26 = 0 → bk_M_X8_fed_54 m_today m_legs m_farm m_begun m_isSold Q m_thrown_3 m_feeds m_sealedFeed m_fFarm m_fFrom m_fWhat m_fTold v1 v2 v3 0) ∧ (r_26 = 0 → bk_M_X8_fed_49 m_today m_legs m_farm m_begun m_isSold Q m_thrown_3 m_feeds m_sealedFeed m_fFarm m_fFrom m_fWhat m_fTold v1 v2 v3))) v3 0 3))) v2 0 2000))) m_thrown k0 1
def wp_M_X8_fed (m_today : Int32) (m_legs : Int32) (m_farm : Nat → Int32) (m_begun : Nat → Int32) (m_isSold : Nat → Int32) (Q : Int32 → Int32 → Int32 → (Nat → Int32) → (Nat → Int32) → (Nat → Int32) → (Nat → Int32) → (Nat → Int32) → Prop) (m_thrown : Int32) (m_feeds : Int32) (m_sealedFeed : Nat → Int32) (m_fFarm : Nat → Int32) (m_fFrom : Nat → Int32) (m_fWhat : Nat → Int32) (m_fTold : Nat → Int32) (p0 : Int32) (p1 : Int32) (p2 : Int32) : Prop := wp_M_X8_in (fun r_1 => ((¬ r_1 = 0 → bk_M_X8_fed_21 m_today m_legs m_farm m_begun m_isSold Q 0 m_feeds m_sealedFeed m_fFarm m_fFrom m_fWhat m_fTold p0 p1 p2 0) ∧ (r_1 = 0 → bk_M_X8_fed_21 m_today m_legs m_farm m_begun m_isSold Q 0 m_feeds m_sealedFeed m_fFarm m_fFrom m_fWhat m_fTold p0 p1 p2 1))) p0 0 9
def rm_M_X8_fed : Room := { frames := 1, cells := 0, slots := 0, locals := 25 }
abbrev pq_M_X8_fed (dC : Nat → ClassId) (dI : Nat → Nat → Nat) (ad : Nat → Nat) (cB cI cZ cL : ClassId) (A : Nat → Prop) (m_thrown m_today m_legs m_feeds m_taped m_point m_end m_begin m_faultAt : Int32) (m_farm m_pig m_begun m_first m_weight m_salted m_heat m_isBad m_isSold m_sealedFeed m_hook m_should m_on m_warmth m_damp m_isOpen m_fFarm m_fFrom m_fWhat m_fTold m_rule m_draft m_tape m_five m_those : Nat → Int32) (Q : Int32 → Int32 → Int32 → (Nat → Int32) → (Nat → Int32) → (Nat → Int32) → (Nat → Int32) → (Nat → Int32) → Prop) : Array Value → State → Outcome → State → Prop := va_Qi (fun (r : Int32) (u : Int32 × Int32 × (Nat → Int32) × (Nat → Int32) × (Nat → Int32) × (Nat → Int32) × (Nat → Int32)) => Q r u.1 u.2.1 u.2.2.1 u.2.2.2.1 u.2.2.2.2.1 u.2.2.2.2.2.1 u.2.2.2.2.2.2) (fun u t => kB dC dI A (wM ad cB cI cZ cL u.1 m_today m_legs u.2.1 m_taped m_point m_end m_begin m_faultAt m_farm m_pig m_begun m_first m_weight m_salted m_heat m_isBad m_isSold u.2.2.1 m_hook m_should m_on m_warmth m_damp m_isOpen u.2.2.2.1 u.2.2.2.2.1 u.2.2.2.2.2.1 u.2.2.2.2.2.2 m_rule m_draft m_tape m_five m_those) (kTy cB cI cZ cL) t) A
set_option maxHeartbeats 4000000 in
set_option maxRecDepth 100000 in
theorem c_M_X8_fed (l : Launch) (dC : Nat → ClassId) (dI : Nat → Nat → Nat) (ad : Nat → Nat) (cB cI cZ cL : ClassId) (A : Nat → Prop) (m_thrown m_today m_legs m_feeds m_taped m_point m_end m_begin m_faultAt : Int32) (m_farm m_pig m_begun m_first m_weight m_salted m_heat m_isBad m_isSold m_sealedFeed m_hook m_should m_on m_warmth m_damp m_isOpen m_fFarm m_fFrom m_fWhat m_fTold m_rule m_draft m_tape m_five m_those : Nat → Int32) (p0 : Int32) (p1 : Int32) (p2 : Int32)  (Q : Int32 → Int32 → Int32 → (Nat → Int32) → (Nat → Int32) → (Nat → Int32) → (Nat → Int32) → (Nat → Int32) → Prop) (h : wp_M_X8_fed m_today m_legs m_farm m_begun m_isSold Q m_thrown m_feeds m_sealedFeed m_fFarm m_fFrom m_fWhat m_fTold p0 p1 p2) : Met l yX8_fed wsX8_fed rm_M_X8_fed (va_Pc [.ref (ad 0), .int p0, .int p1, .int p2] (kC dC dI ad A (wM ad cB cI cZ cL m_thrown m_today m_legs m_feeds m_taped m_point m_end m_begin m_faultAt m_farm m_pig m_begun m_first m_weight m_salted m_heat m_isBad m_isSold m_sealedFeed m_hook m_should m_on m_warmth m_damp m_isOpen m_fFarm m_fFrom m_fWhat m_fTold m_rule m_draft m_tape m_five m_those) (kTy cB cI cZ cL))) (pq_M_X8_fed dC dI ad cB cI cZ cL A m_thrown m_today m_legs m_feeds m_taped m_point m_end m_begin m_faultAt m_farm m_pig m_begun m_first m_weight m_salted m_heat m_isBad m_isSold m_sealedFeed m_hook m_should m_on m_warmth m_damp m_isOpen m_fFarm m_fFrom m_fWhat m_fTold m_rule m_draft m_tape m_five m_those Q) 0 0 A := by
  refine Met.ofW (cc := cX8_fed) (maxL := 6) (ret := (some .int)) (by decide) rfl ?_
  intro p e s m args below meth c s₁ B hml hv
  obtain ⟨rfl, hA, hP, hK, hD, hE⟩ := hv
  have hx := B.exec
  have hb := B.bytes
  have hr := B.returns
  have hts := atoms_spec (ws := wsX8_fed) B.pre
  have hown : s.vm.findClass RX8 = some m.cls := findClass_of_methodNamed B.named
  have hlocks := B.notSynchronized
  have hS : va_S A s.heap s.heap [] := va_S.rf
  have hk_0 := hts (.fieldLink RX8 1 "HamCellarModel" "thrown" "I") (by decide +kernel)
  have hk_1 : ∀ w ∈ wsX80, w ∈ wsX8_fed := by decide +kernel
  have hk_2 := hts (.fieldLink RX8 179 "HamCellarModel" "feeds" "I") (by decide +kernel)
  have hk_3 := hts (.fieldLink RX8 63 "HamCellarModel" "fFarm" "[I") (by decide +kernel)
  have hk_4 := hts (.fieldLink RX8 66 "HamCellarModel" "fFrom" "[I") (by decide +kernel)
  have hk_5 := hts (.fieldLink RX8 69 "HamCellarModel" "fWhat" "[I") (by decide +kernel)
  have hk_6 := hts (.fieldLink RX8 72 "HamCellarModel" "fTold" "[I") (by decide +kernel)
  have hk_7 := hts (.fieldLink RX8 105 "HamCellarModel" "today" "I") (by decide +kernel)
  have hk_8 := hts (.fieldLink RX8 94 "HamCellarModel" "legs" "I") (by decide +kernel)
  have hk_9 := hts (.fieldLink RX8 39 "HamCellarModel" "isSold" "[Z") (by decide +kernel)
  have hk_10 := hts (.fieldLink RX8 42 "HamCellarModel" "sealedFeed" "[I") (by decide +kernel)
  have hk_11 := hts (.fieldLink RX8 13 "HamCellarModel" "farm" "[I") (by decide +kernel)
  have hk_12 := hts (.fieldLink RX8 20 "HamCellarModel" "begun" "[I") (by decide +kernel)
  have hbk_M_X8_fed_208 : ∀ (K133 : Int32 → Int32 → (Nat → Int32) → (Nat → Int32) → (Nat → Int32) → (Nat → Int32) → (Nat → Int32) → Int32 → Int32 → Prop) (hK133 : ∀ (m_thrown : Int32) (m_feeds : Int32) (m_sealedFeed : Nat → Int32) (m_fFarm : Nat → Int32) (m_fFrom : Nat → Int32) (m_fWhat : Nat → Int32) (m_fTold : Nat → Int32) (v4 : Int32) (v5 : Int32) (H : Heap) (locs : List Loc) (ls : Array Slot), va_P (dC, dI) vwCl (wM ad cB cI cZ cL m_thrown m_today m_legs m_feeds m_taped m_point m_end m_begin m_faultAt m_farm m_pig m_begun m_first m_weight m_salted m_heat m_isBad m_isSold m_sealedFeed m_hook m_should m_on m_warmth m_damp m_isOpen m_fFarm m_fFrom m_fWhat m_fTold m_rule m_draft m_tape m_five m_those) H → va_D A (wM ad cB cI cZ cL m_thrown m_today m_legs m_feeds m_taped m_point m_end m_begin m_faultAt m_farm m_pig m_begun m_first m_weight m_salted m_heat m_isBad m_isSold m_sealedFeed m_hook m_should m_on m_warmth m_damp m_isOpen m_fFarm m_fFrom m_fWhat m_fTold m_rule m_draft m_tape m_five m_those) → va_S A s.heap H locs → lv_has ls 6 [(0, .ref (ad 0)), (4, .int v4), (5, .int v5)] → K133 m_thrown m_feeds m_sealedFeed m_fFarm m_fFrom m_fWhat m_fTold v4 v5 → W p l e (headSpec wsX8_fed rm_M_X8_fed).room s m ([.ref (ad 0), .int p0, .int p1, .int p2] : List Value).toArray below meth c H locs 0 0 (MQ below (pq_M_X8_fed dC dI ad cB cI cZ cL A m_thrown m_today m_legs m_feeds m_taped m_point m_end m_begin m_faultAt m_farm m_pig m_begun m_first m_weight m_salted m_heat m_isBad m_isSold m_sealedFeed m_hook m_should m_on m_warmth m_damp m_isOpen m_fFarm m_fFrom m_fWhat m_fTold m_rule m_draft m_tape m_five m_those Q) ([.ref (ad 0), .int p0, .int p1, .int p2] : List Value).toArray s 0 0 A) (F0 m 133 ls [])) (m_thrown : Int32) (m_feeds : Int32) (m_sealedFeed : Nat → Int32) (m_fFarm : Nat → Int32) (m_fFrom : Nat → Int32) (m_fWhat : Nat → Int32) (m_fTold : Nat → Int32) (v4 : Int32) (v5 : Int32) (H : Heap) (locs : List Loc) (ls : Array Slot), va_P (dC, dI) vwCl (wM ad cB cI cZ cL m_thrown m_today m_legs m_feeds m_taped m_point m_end m_begin m_faultAt m_farm m_pig m_begun m_first m_weight m_salted m_heat m_isBad m_isSold m_sealedFeed m_hook m_should m_on m_warmth m_damp m_isOpen m_fFarm m_fFrom m_fWhat m_fTold m_rule m_draft m_tape m_five m_those) H → va_D A (wM ad cB cI cZ cL m_thrown m_today m_legs m_feeds m_taped m_point m_end m_begin m_faultAt m_farm m_pig m_begun m_first m_weight m_salted m_heat m_isBad m_isSold m_sealedFeed m_hook m_should m_on m_warmth m_damp m_isOpen m_fFarm m_fFrom m_fWhat m_fTold m_rule m_draft m_tape m_five m_those) → va_S A s.heap H locs → lv_has ls 6 [(0, .ref (ad 0)), (4, .int v4), (5, .int v5)] → bk_M_X8_fed_208 m_today m_legs m_farm m_begun m_isSold Q K133 m_thrown m_feeds m_sealedFeed m_fFarm m_fFrom m_fWhat m_fTold v4 v5 → W p l e (headSpec wsX8_fed rm_M_X8_fed).room s m ([.ref (ad 0), .int p0, .int p1, .int p2] : List Value).toArray below meth c H locs 0 0 (MQ below (pq_M_X8_fed dC dI ad cB cI cZ cL A m_thrown m_today m_legs m_feeds m_taped m_point m_end m_begin m_faultAt m_farm m_pig m_begun m_first m_weight m_salted m_heat m_isBad m_isSold m_sealedFeed m_hook m_should m_on m_warmth m_damp m_isOpen m_fFarm m_fFrom m_fWhat m_fTold m_rule m_draft m_tape m_five m_those Q) ([.ref (ad 0), .int p0, .int p1, .int p2] : List Value).toArray s 0 0 A) (F0 m 208 ls []) := by
    intro K133 hK133 m_thrown m_feeds m_sealedFeed m_fFarm m_fFrom m_fWhat m_fTold v4 v5 H locs ls hP hD hS hl h
    refine lv_iinc (v := v5 + 1) (lv' := [(5, .int (v5 + 1)), (0, .ref (ad 0)), (4, .int v4)]) hx hb dX8_fed_208 hl (k := 2) rfl rfl (by decide) rfl (fun ls hl => ?_)
    refine lv_goto (tgt := 133) hx hb dX8_fed_211 (by decide) ?_
    exact hK133 m_thrown m_feeds m_sealedFeed m_fFarm m_fFrom m_fWhat m_fTold v4 (v5 + 1) _ _ _ hP hD hS (lv_sub hl [1, 2, 0] rfl) h
  have hlp_M_X8_fed_133 : ∀ (n : Nat) (m_thrown : Int32) (m_feeds : Int32) (m_sealedFeed : Nat → Int32) (m_fFarm : Nat → Int32) (m_fFrom : Nat → Int32) (m_fWhat : Nat → Int32) (m_fTold : Nat → Int32) (v4 : Int32) (v5 : Int32) (H : Heap) (locs : List Loc) (ls : Array Slot), va_P (dC, dI) vwCl (wM ad cB cI cZ cL m_thrown m_today m_legs m_feeds m_taped m_point m_end m_begin m_faultAt m_farm m_pig m_begun m_first m_weight m_salted m_heat m_isBad m_isSold m_sealedFeed m_hook m_should m_on m_warmth m_damp m_isOpen m_fFarm m_fFrom m_fWhat m_fTold m_rule m_draft m_tape m_five m_those) H → va_D A (wM ad cB cI cZ cL m_thrown m_today m_legs m_feeds m_taped m_point m_end m_begin m_faultAt m_farm m_pig m_begun m_first m_weight m_salted m_heat m_isBad m_isSold m_sealedFeed m_hook m_should m_on m_warmth m_damp m_isOpen m_fFarm m_fFrom m_fWhat m_fTold m_rule m_draft m_tape m_five m_those) → va_S A s.heap H locs → lv_has ls 6 [(0, .ref (ad 0)), (4, .int v4), (5, .int v5)] → lp_M_X8_fed_133 m_today m_legs m_farm m_begun m_isSold Q n m_thrown m_feeds m_sealedFeed m_fFarm m_fFrom m_fWhat m_fTold v4 v5 → W p l e (headSpec wsX8_fed rm_M_X8_fed).room s m ([.ref (ad 0), .int p0, .int p1, .int p2] : List Value).toArray below meth c H locs 0 0 (MQ below (pq_M_X8_fed dC dI ad cB cI cZ cL A m_thrown m_today m_legs m_feeds m_taped m_point m_end m_begin m_faultAt m_farm m_pig m_begun m_first m_weight m_salted m_heat m_isBad m_isSold m_sealedFeed m_hook m_should m_on m_warmth m_damp m_isOpen m_fFarm m_fFrom m_fWhat m_fTold m_rule m_draft m_tape m_five m_those Q) ([.ref (ad 0), .int p0, .int p1, .int p2] : List Value).toArray s 0 0 A) (F0 m 133 ls []) := by
    intro n
    induction n with
    | zero => intro m_thrown m_feeds m_sealedFeed m_fFarm m_fFrom m_fWhat m_fTold v4 v5 H locs ls hP hD hS hl h; exact h.elim
    | succ n ih =>
      intro m_thrown m_feeds m_sealedFeed m_fFarm m_fFrom m_fWhat m_fTold v4 v5 H locs ls hP hD hS hl h
      refine lv_iload hx hb dX8_fed_133 (lv_at hl 2 rfl) ?_
      refine lv_aload_n hx hb dX8_fed_135 rfl (lv_at hl 0 rfl) ?_
      refine va_get (D := (dC, dI)) (ci := 8) (v := .int m_legs) (C := RX8) (T := TX8) (N := 34) hx hb hts hk_1 hown hK hP 0 wM_g0 rfl 14 (by decide) hk_8 (fun _ h9 => h9) rfl dX8_fed_136 ?_
      refine lv_icmp_ge (tgt := 214) hx hb dX8_fed_139 (by decide) (fun c_14 => ?_) (fun c_14 => ?_)
      · have h := h.1 c_14
        refine lv_iload hx hb dX8_fed_214 (lv_at hl 1 rfl) ?_
        exact W.iret (v := v4) hx hb hr (fun t ht hW => ⟨⟨v4, (m_thrown, m_feeds, m_sealedFeed, m_fFarm, m_fFrom, m_fWhat, m_fTold), rfl, h, kB_mk hP hK hD ht hW.alike⟩, hS.F ht⟩) hS.2.2 dX8_fed_216
      · have h := h.2 c_14
        refine lv_aload_n hx hb dX8_fed_142 rfl (lv_at hl 0 rfl) ?_
        refine va_get (D := (dC, dI)) (ci := 8) (v := .ref (ad 9)) (C := RX8) (T := TX8) (N := 34) hx hb hts hk_1 hown hK hP 0 wM_g0 rfl 10 (by decide) hk_9 (fun _ h9 => h9) rfl dX8_fed_143 ?_
        refine lv_iload hx hb dX8_fed_146 (lv_at hl 2 rfl) ?_
        have hi_15 := h.1
        have h := h.2
        refine va_zald hx hb hK hP 9 2 wM_g9 rfl hi_15 dX8_fed_148 ?_
        refine lv_if_ne (tgt := 208) hx hb dX8_fed_149 (by decide) (fun c_16 => ?_) (fun c_16 => ?_)
        · have h := h.1 c_16
          exact hbk_M_X8_fed_208 (lp_M_X8_fed_133 m_today m_legs m_farm m_begun m_isSold Q n) ih m_thrown m_feeds m_sealedFeed m_fFarm m_fFrom m_fWhat m_fTold v4 v5 _ _ _ hP hD hS (lv_sub hl [0, 1, 2] rfl) h
        · have h := h.2 c_16
          refine lv_aload_n hx hb dX8_fed_152 rfl (lv_at hl 0 rfl) ?_
          refine va_get (D := (dC, dI)) (ci := 8) (v := .ref (ad 10)) (C := RX8) (T := TX8) (N := 34) hx hb hts hk_1 hown hK hP 0 wM_g0 rfl 11 (by decide) hk_10 (fun _ h9 => h9) rfl dX8_fed_153 ?_
          refine lv_iload hx hb dX8_fed_156 (lv_at hl 2 rfl) ?_
          have hi_17 := h.1
          have h := h.2
          refine va_iald hx hb hK hP 10 1 wM_g10 rfl hi_17 dX8_fed_158 ?_
          refine lv_if_lt (tgt := 208) hx hb dX8_fed_159 (by decide) (fun c_18 => ?_) (fun c_18 => ?_)
          · have h := h.1 c_18
            exact hbk_M_X8_fed_208 (lp_M_X8_fed_133 m_today m_legs m_farm m_begun m_isSold Q n) ih m_thrown m_feeds m_sealedFeed m_fFarm m_fFrom m_fWhat m_fTold v4 v5 _ _ _ hP hD hS (lv_sub hl [0, 1, 2] rfl) h
          · have h := h.2 c_18
            refine lv_aload_n hx hb dX8_fed_162 rfl (lv_at hl 0 rfl) ?_
            refine lv_aload_n hx hb dX8_fed_163 rfl (lv_at hl 0 rfl) ?_
            refine va_get (D := (dC, dI)) (ci := 8) (v := .ref (ad 1)) (C := RX8) (T := TX8) (N := 34) hx hb hts hk_1 hown hK hP 0 wM_g0 rfl 2 (by decide) hk_11 (fun _ h9 => h9) rfl dX8_fed_164 ?_
            refine lv_iload hx hb dX8_fed_167 (lv_at hl 2 rfl) ?_
            have hi_19 := h.1
            have h := h.2
            refine va_iald hx hb hK hP 1 1 wM_g1 rfl hi_19 dX8_fed_169 ?_
            refine lv_aload_n hx hb dX8_fed_170 rfl (lv_at hl 0 rfl) ?_
            refine va_get (D := (dC, dI)) (ci := 8) (v := .ref (ad 3)) (C := RX8) (T := TX8) (N := 34) hx hb hts hk_1 hown hK hP 0 wM_g0 rfl 4 (by decide) hk_12 (fun _ h9 => h9) rfl dX8_fed_171 ?_
            refine lv_iload hx hb dX8_fed_174 (lv_at hl 2 rfl) ?_
            have hi_20 := h.1
            have h := h.2
            refine va_iald hx hb hK hP 3 1 wM_g3 rfl hi_20 dX8_fed_176 ?_
            refine lv_aload_n hx hb dX8_fed_177 rfl (lv_at hl 0 rfl) ?_
            refine va_get (D := (dC, dI)) (ci := 8) (v := .int m_today) (C := RX8) (T := TX8) (N := 34) hx hb hts hk_1 hown hK hP 0 wM_g0 rfl 1 (by decide) hk_7 (fun _ h9 => h9) rfl dX8_fed_178 ?_
            refine va_calli (va_runV (As := [.int (m_farm v5.toNatClampNeg), .int (m_begun v5.toNatClampNeg), .int m_today]) (rest := []) ⟨hx, hb, hml, hown, hts⟩ (c_M_X8_knownOf l dC dI ad cB cI cZ cL A m_thrown m_today m_legs m_feeds m_taped m_point m_end m_begin m_faultAt m_farm m_pig m_begun m_first m_weight m_salted m_heat m_isBad m_isSold m_sealedFeed m_hook m_should m_on m_warmth m_damp m_isOpen m_fFarm m_fFrom m_fWhat m_fTold m_rule m_draft m_tape m_five m_those (m_farm v5.toNatClampNeg) (m_begun v5.toNatClampNeg) m_today _ h) (cwV 3 hts gX8_fed_X8_knownOf rfl rfl rfl (by decide +kernel) ⟨(Nat.le_of_ble_eq_true rfl), (Nat.le_of_ble_eq_true rfl)⟩) ⟨kC_blind, va_recv hK hP (ci := 8) (q0 := 0) rfl wM_g0, fun U hU hW => ⟨rfl, kC_go hA hS hP hK hD hE U hU hW⟩⟩ rfl rfl hl.1 rfl (lv_room (Nat.le_of_ble_eq_true rfl)) dX8_fed_181 ⟨(Nat.le_of_ble_eq_true rfl), (Nat.le_of_ble_eq_true rfl)⟩) hS (fun q _ h => h) (fun q h => h) (fun r_21 u t H locs ht hvm hw hB hz1 hk1 hS => ?_)
            have h := hw
            try dsimp only at h
            have hP : va_P (dC, dI) vwCl (wM ad cB cI cZ cL m_thrown m_today m_legs m_feeds m_taped m_point m_end m_begin m_faultAt m_farm m_pig m_begun m_first m_weight m_salted m_heat m_isBad m_isSold m_sealedFeed m_hook m_should m_on m_warmth m_damp m_isOpen m_fFarm m_fFrom m_fWhat m_fTold m_rule m_draft m_tape m_five m_those) H := by rw [← ht]; exact hB.1
            have hD : va_D A (wM ad cB cI cZ cL m_thrown m_today m_legs m_feeds m_taped m_point m_end m_begin m_faultAt m_farm m_pig m_begun m_first m_weight m_salted m_heat m_isBad m_isSold m_sealedFeed m_hook m_should m_on m_warmth m_damp m_isOpen m_fFarm m_fFrom m_fWhat m_fTold m_rule m_draft m_tape m_five m_those) := hB.2.2
            refine lv_aload_n hx hb dX8_fed_184 rfl (lv_at hl 0 rfl) ?_
            refine va_get (D := (dC, dI)) (ci := 8) (v := .ref (ad 10)) (C := RX8) (T := TX8) (N := 34) hx hb hts hk_1 hown hK hP 0 wM_g0 rfl 11 (by decide) hk_10 (fun _ h9 => h9) rfl dX8_fed_185 ?_
            refine lv_iload hx hb dX8_fed_188 (lv_at hl 2 rfl) ?_
            have hi_22 := h.1
            have h := h.2
            refine va_iald hx hb hK hP 10 1 wM_g10 rfl hi_22 dX8_fed_190 ?_
            refine lv_icmp_lt (tgt := 197) hx hb dX8_fed_191 (by decide) (fun c_23 => ?_) (fun c_23 => ?_)
            · have h := h.1 c_23
              refine lv_aload_n hx hb dX8_fed_197 rfl (lv_at hl 0 rfl) ?_
              refine va_get (D := (dC, dI)) (ci := 8) (v := .ref (ad 10)) (C := RX8) (T := TX8) (N := 34) hx hb hts hk_1 hown hK hP 0 wM_g0 rfl 11 (by decide) hk_10 (fun _ h9 => h9) rfl dX8_fed_198 ?_
              refine lv_iload hx hb dX8_fed_201 (lv_at hl 2 rfl) ?_
              refine lv_iconst (v := (-1)) hx hb dX8_fed_203 (by decide) ?_
              have hi_24 := h.1
              have h := h.2
              refine va_iast hx hb hK hP hD hS 10 1 wM_g10 rfl hi_24 dX8_fed_204 (fun H locs hP2 hD2 hS => ?_)
              have hP : va_P (dC, dI) vwCl (wM ad cB cI cZ cL m_thrown m_today m_legs m_feeds m_taped m_point m_end m_begin m_faultAt m_farm m_pig m_begun m_first m_weight m_salted m_heat m_isBad m_isSold (upd m_sealedFeed v5.toNatClampNeg (-1)) m_hook m_should m_on m_warmth m_damp m_isOpen m_fFarm m_fFrom m_fWhat m_fTold m_rule m_draft m_tape m_five m_those) H := hP_eq (wM_p_m_sealedFeed) hP2
              have hD : va_D A (wM ad cB cI cZ cL m_thrown m_today m_legs m_feeds m_taped m_point m_end m_begin m_faultAt m_farm m_pig m_begun m_first m_weight m_salted m_heat m_isBad m_isSold (upd m_sealedFeed v5.toNatClampNeg (-1)) m_hook m_should m_on m_warmth m_damp m_isOpen m_fFarm m_fFrom m_fWhat m_fTold m_rule m_draft m_tape m_five m_those) := hD_eq (wM_p_m_sealedFeed) hD2
              refine lv_iinc (v := v4 + 1) (lv' := [(4, .int (v4 + 1)), (0, .ref (ad 0)), (5, .int v5)]) hx hb dX8_fed_205 hl (k := 1) rfl rfl (by decide) rfl (fun ls hl => ?_)
              exact hbk_M_X8_fed_208 (lp_M_X8_fed_133 m_today m_legs m_farm m_begun m_isSold Q n) ih m_thrown m_feeds (upd m_sealedFeed v5.toNatClampNeg (-1)) m_fFarm m_fFrom m_fWhat m_fTold (v4 + 1) v5 _ _ _ hP hD hS (lv_sub hl [1, 0, 2] rfl) h
            · have h := h.2 c_23
              refine lv_goto (tgt := 208) hx hb dX8_fed_194 (by decide) ?_
              exact hbk_M_X8_fed_208 (lp_M_X8_fed_133 m_today m_legs m_farm m_begun m_isSold Q n) ih m_thrown m_feeds m_sealedFeed m_fFarm m_fFrom m_fWhat m_fTold v4 v5 _ _ _ hP hD hS (lv_sub hl [0, 1, 2] rfl) h
  have hbk_M_X8_fed_54 : ∀ (m_thrown : Int32) (m_feeds : Int32) (m_sealedFeed : Nat → Int32) (m_fFarm : Nat → Int32) (m_fFrom : Nat → Int32) (m_fWhat : Nat → Int32) (m_fTold : Nat → Int32) (v1 : Int32) (v2 : Int32) (v3 : Int32) (k0 : Int32) (H : Heap) (locs : List Loc) (ls : Array Slot), va_P (dC, dI) vwCl (wM ad cB cI cZ cL m_thrown m_today m_legs m_feeds m_taped m_point m_end m_begin m_faultAt m_farm m_pig m_begun m_first m_weight m_salted m_heat m_isBad m_isSold m_sealedFeed m_hook m_should m_on m_warmth m_damp m_isOpen m_fFarm m_fFrom m_fWhat m_fTold m_rule m_draft m_tape m_five m_those) H → va_D A (wM ad cB cI cZ cL m_thrown m_today m_legs m_feeds m_taped m_point m_end m_begin m_faultAt m_farm m_pig m_begun m_first m_weight m_salted m_heat m_isBad m_isSold m_sealedFeed m_hook m_should m_on m_warmth m_damp m_isOpen m_fFarm m_fFrom m_fWhat m_fTold m_rule m_draft m_tape m_five m_those) → va_S A s.heap H locs → lv_has ls 6 [(0, .ref (ad 0)), (1, .int v1), (2, .int v2), (3, .int v3)] → bk_M_X8_fed_54 m_today m_legs m_farm m_begun m_isSold Q m_thrown m_feeds m_sealedFeed m_fFarm m_fFrom m_fWhat m_fTold v1 v2 v3 k0 → W p l e (headSpec wsX8_fed rm_M_X8_fed).room s m ([.ref (ad 0), .int p0, .int p1, .int p2] : List Value).toArray below meth c H locs 0 0 (MQ below (pq_M_X8_fed dC dI ad cB cI cZ cL A m_thrown m_today m_legs m_feeds m_taped m_point m_end m_begin m_faultAt m_farm m_pig m_begun m_first m_weight m_salted m_heat m_isBad m_isSold m_sealedFeed m_hook m_should m_on m_warmth m_damp m_isOpen m_fFarm m_fFrom m_fWhat m_fTold m_rule m_draft m_tape m_five m_those Q) ([.ref (ad 0), .int p0, .int p1, .int p2] : List Value).toArray s 0 0 A) (F0 m 54 ls [.int k0, .ref (ad 0)]) := by
    intro m_thrown m_feeds m_sealedFeed m_fFarm m_fFrom m_fWhat m_fTold v1 v2 v3 k0 H locs ls hP hD hS hl h
    have h : wp_M_X8_throwsIf (fun r_7 m_thrown_7 => ((r_7 = 0 → ((¬ m_feeds = 60 → (vp_in m_feeds 60 ∧ (vp_in m_feeds 60 ∧ (vp_in m_feeds 60 ∧ (vp_in m_feeds 60 ∧ (∃ n_25, lp_M_X8_fed_133 m_today m_legs m_farm m_begun m_isSold Q n_25 m_thrown_7 (m_feeds + 1) m_sealedFeed (upd m_fFarm m_feeds.toNatClampNeg v1) (upd m_fFrom m_feeds.toNatClampNeg v2) (upd m_fWhat m_feeds.toNatClampNeg v3) (upd m_fTold m_feeds.toNatClampNeg m_today) 0 0)))))) ∧ (m_feeds = 60 → Q (-1) m_thrown_7 m_feeds m_sealedFeed m_fFarm m_fFrom m_fWhat m_fTold))) ∧ (¬ (r_7 = 0) → Q 0 m_thrown_7 m_feeds m_sealedFeed m_fFarm m_fFrom m_fWhat m_fTold))) m_thrown k0 2 := h
    refine lv_iconst (v := 2) hx hb dX8_fed_54 (by decide) ?_
    refine va_calli (va_runV (As := [.int k0, .int 2]) (rest := []) ⟨hx, hb, hml, hown, hts⟩ (c_M_X8_throwsIf l dC dI ad cB cI cZ cL A m_thrown m_today m_legs m_feeds m_taped m_point m_end m_begin m_faultAt m_farm m_pig m_begun m_first m_weight m_salted m_heat m_isBad m_isSold m_sealedFeed m_hook m_should m_on m_warmth m_damp m_isOpen m_fFarm m_fFrom m_fWhat m_fTold m_rule m_draft m_tape m_five m_those k0 2 _ h) (cwV 2 hts gX8_fed_X8_throwsIf rfl rfl rfl (by decide +kernel) ⟨(Nat.le_of_ble_eq_true rfl), (Nat.le_of_ble_eq_true rfl)⟩) ⟨kC_blind, va_recv hK hP (ci := 8) (q0 := 0) rfl wM_g0, fun U hU hW => ⟨rfl, kC_go hA hS hP hK hD hE U hU hW⟩⟩ rfl rfl hl.1 rfl (lv_room (Nat.le_of_ble_eq_true rfl)) dX8_fed_55 ⟨(Nat.le_of_ble_eq_true rfl), (Nat.le_of_ble_eq_true rfl)⟩) hS (fun q _ h => h) (fun q h => h) (fun r_7 u t H locs ht hvm hw hB hz1 hk1 hS => ?_)
    obtain ⟨m_thrown_7, rfl⟩ : ∃ z, z = u := ⟨_, rfl⟩
    have h := hw
    try dsimp only at h
    have hP : va_P (dC, dI) vwCl (wM ad cB cI cZ cL m_thrown_7 m_today m_legs m_feeds m_taped m_point m_end m_begin m_faultAt m_farm m_pig m_begun m_first m_weight m_salted m_heat m_isBad m_isSold m_sealedFeed m_hook m_should m_on m_warmth m_damp m_isOpen m_fFarm m_fFrom m_fWhat m_fTold m_rule m_draft m_tape m_five m_those) H := by rw [← ht]; exact hB.1
    have hD : va_D A (wM ad cB cI cZ cL m_thrown_7 m_today m_legs m_feeds m_taped m_point m_end m_begin m_faultAt m_farm m_pig m_begun m_first m_weight m_salted m_heat m_isBad m_isSold m_sealedFeed m_hook m_should m_on m_warmth m_damp m_isOpen m_fFarm m_fFrom m_fWhat m_fTold m_rule m_draft m_tape m_five m_those) := hB.2.2
    refine lv_if_eq (tgt := 63) hx hb dX8_fed_58 (by decide) (fun c_8 => ?_) (fun c_8 => ?_)
    · have h := h.1 c_8
      refine lv_aload_n hx hb dX8_fed_63 rfl (lv_at hl 0 rfl) ?_
      refine va_get (D := (dC, dI)) (ci := 8) (v := .int m_feeds) (C := RX8) (T := TX8) (N := 34) hx hb hts hk_1 hown hK hP 0 wM_g0 rfl 23 (by decide) hk_2 (fun _ h9 => h9) rfl dX8_fed_64 ?_
      refine lv_bipush (v := 60) hx hb dX8_fed_67 (by decide) ?_
      refine lv_icmp_ne (tgt := 74) hx hb dX8_fed_69 (by decide) (fun c_9 => ?_) (fun c_9 => ?_)
      · have h := h.1 c_9
        refine lv_aload_n hx hb dX8_fed_74 rfl (lv_at hl 0 rfl) ?_
        refine va_get (D := (dC, dI)) (ci := 8) (v := .ref (ad 17)) (C := RX8) (T := TX8) (N := 34) hx hb hts hk_1 hown hK hP 0 wM_g0 rfl 19 (by decide) hk_3 (fun _ h9 => h9) rfl dX8_fed_75 ?_
        refine lv_aload_n hx hb dX8_fed_78 rfl (lv_at hl 0 rfl) ?_
        refine va_get (D := (dC, dI)) (ci := 8) (v := .int m_feeds) (C := RX8) (T := TX8) (N := 34) hx hb hts hk_1 hown hK hP 0 wM_g0 rfl 23 (by decide) hk_2 (fun _ h9 => h9) rfl dX8_fed_79 ?_
        refine lv_iload_n hx hb dX8_fed_82 rfl (lv_at hl 1 rfl) ?_
        have hi_10 := h.1
        have h := h.2
        refine va_iast hx hb hK hP hD hS 17 1 wM_g17 rfl hi_10 dX8_fed_83 (fun H locs hP2 hD2 hS => ?_)
        have hP : va_P (dC, dI) vwCl (wM ad cB cI cZ cL m_thrown_7 m_today m_legs m_feeds m_taped m_point m_end m_begin m_faultAt m_farm m_pig m_begun m_first m_weight m_salted m_heat m_isBad m_isSold m_sealedFeed m_hook m_should m_on m_warmth m_damp m_isOpen (upd m_fFarm m_feeds.toNatClampNeg v1) m_fFrom m_fWhat m_fTold m_rule m_draft m_tape m_five m_those) H := hP_eq (wM_p_m_fFarm) hP2
        have hD : va_D A (wM ad cB cI cZ cL m_thrown_7 m_today m_legs m_feeds m_taped m_point m_end m_begin m_faultAt m_farm m_pig m_begun m_first m_weight m_salted m_heat m_isBad m_isSold m_sealedFeed m_hook m_should m_on m_warmth m_damp m_isOpen (upd m_fFarm m_feeds.toNatClampNeg v1) m_fFrom m_fWhat m_fTold m_rule m_draft m_tape m_five m_those) := hD_eq (wM_p_m_fFarm) hD2
        refine lv_aload_n hx hb dX8_fed_84 rfl (lv_at hl 0 rfl) ?_
        refine va_get (D := (dC, dI)) (ci := 8) (v := .ref (ad 18)) (C := RX8) (T := TX8) (N := 34) hx hb hts hk_1 hown hK hP 0 wM_g0 rfl 20 (by decide) hk_4 (fun _ h9 => h9) rfl dX8_fed_85 ?_
        refine lv_aload_n hx hb dX8_fed_88 rfl (lv_at hl 0 rfl) ?_
        refine va_get (D := (dC, dI)) (ci := 8) (v := .int m_feeds) (C := RX8) (T := TX8) (N := 34) hx hb hts hk_1 hown hK hP 0 wM_g0 rfl 23 (by decide) hk_2 (fun _ h9 => h9) rfl dX8_fed_89 ?_
        refine lv_iload_n hx hb dX8_fed_92 rfl (lv_at hl 2 rfl) ?_
        have hi_11 := h.1
        have h := h.2
        refine va_iast hx hb hK hP hD hS 18 1 wM_g18 rfl hi_11 dX8_fed_93 (fun H locs hP2 hD2 hS => ?_)
        have hP : va_P (dC, dI) vwCl (wM ad cB cI cZ cL m_thrown_7 m_today m_legs m_feeds m_taped m_point m_end m_begin m_faultAt m_farm m_pig m_begun m_first m_weight m_salted m_heat m_isBad m_isSold m_sealedFeed m_hook m_should m_on m_warmth m_damp m_isOpen (upd m_fFarm m_feeds.toNatClampNeg v1) (upd m_fFrom m_feeds.toNatClampNeg v2) m_fWhat m_fTold m_rule m_draft m_tape m_five m_those) H := hP_eq (wM_p_m_fFrom) hP2
        have hD : va_D A (wM ad cB cI cZ cL m_thrown_7 m_today m_legs m_feeds m_taped m_point m_end m_begin m_faultAt m_farm m_pig m_begun m_first m_weight m_salted m_heat m_isBad m_isSold m_sealedFeed m_hook m_should m_on m_warmth m_damp m_isOpen (upd m_fFarm m_feeds.toNatClampNeg v1) (upd m_fFrom m_feeds.toNatClampNeg v2) m_fWhat m_fTold m_rule m_draft m_tape m_five m_those) := hD_eq (wM_p_m_fFrom) hD2
        refine lv_aload_n hx hb dX8_fed_94 rfl (lv_at hl 0 rfl) ?_
        refine va_get (D := (dC, dI)) (ci := 8) (v := .ref (ad 19)) (C := RX8) (T := TX8) (N := 34) hx hb hts hk_1 hown hK hP 0 wM_g0 rfl 21 (by decide) hk_5 (fun _ h9 => h9) rfl dX8_fed_95 ?_
        refine lv_aload_n hx hb dX8_fed_98 rfl (lv_at hl 0 rfl) ?_
        refine va_get (D := (dC, dI)) (ci := 8) (v := .int m_feeds) (C := RX8) (T := TX8) (N := 34) hx hb hts hk_1 hown hK hP 0 wM_g0 rfl 23 (by decide) hk_2 (fun _ h9 => h9) rfl dX8_fed_99 ?_
        refine lv_iload_n hx hb dX8_fed_102 rfl (lv_at hl 3 rfl) ?_
        have hi_12 := h.1
        have h := h.2
        refine va_iast hx hb hK hP hD hS 19 1 wM_g19 rfl hi_12 dX8_fed_103 (fun H locs hP2 hD2 hS => ?_)
        have hP : va_P (dC, dI) vwCl (wM ad cB cI cZ cL m_thrown_7 m_today m_legs m_feeds m_taped m_point m_end m_begin m_faultAt m_farm m_pig m_begun m_first m_weight m_salted m_heat m_isBad m_isSold m_sealedFeed m_hook m_should m_on m_warmth m_damp m_isOpen (upd m_fFarm m_feeds.toNatClampNeg v1) (upd m_fFrom m_feeds.toNatClampNeg v2) (upd m_fWhat m_feeds.toNatClampNeg v3) m_fTold m_rule m_draft m_tape m_five m_those) H := hP_eq (wM_p_m_fWhat) hP2
        have hD : va_D A (wM ad cB cI cZ cL m_thrown_7 m_today m_legs m_feeds m_taped m_point m_end m_begin m_faultAt m_farm m_pig m_begun m_first m_weight m_salted m_heat m_isBad m_isSold m_sealedFeed m_hook m_should m_on m_warmth m_damp m_isOpen (upd m_fFarm m_feeds.toNatClampNeg v1) (upd m_fFrom m_feeds.toNatClampNeg v2) (upd m_fWhat m_feeds.toNatClampNeg v3) m_fTold m_rule m_draft m_tape m_five m_those) := hD_eq (wM_p_m_fWhat) hD2
        refine lv_aload_n hx hb dX8_fed_104 rfl (lv_at hl 0 rfl) ?_
        refine va_get (D := (dC, dI)) (ci := 8) (v := .ref (ad 20)) (C := RX8) (T := TX8) (N := 34) hx hb hts hk_1 hown hK hP 0 wM_g0 rfl 22 (by decide) hk_6 (fun _ h9 => h9) rfl dX8_fed_105 ?_
        refine lv_aload_n hx hb dX8_fed_108 rfl (lv_at hl 0 rfl) ?_
        refine va_get (D := (dC, dI)) (ci := 8) (v := .int m_feeds) (C := RX8) (T := TX8) (N := 34) hx hb hts hk_1 hown hK hP 0 wM_g0 rfl 23 (by decide) hk_2 (fun _ h9 => h9) rfl dX8_fed_109 ?_
        refine lv_aload_n hx hb dX8_fed_112 rfl (lv_at hl 0 rfl) ?_
        refine va_get (D := (dC, dI)) (ci := 8) (v := .int m_today) (C := RX8) (T := TX8) (N := 34) hx hb hts hk_1 hown hK hP 0 wM_g0 rfl 1 (by decide) hk_7 (fun _ h9 => h9) rfl dX8_fed_113 ?_
        have hi_13 := h.1
        have h := h.2
        refine va_iast hx hb hK hP hD hS 20 1 wM_g20 rfl hi_13 dX8_fed_116 (fun H locs hP2 hD2 hS => ?_)
        have hP : va_P (dC, dI) vwCl (wM ad cB cI cZ cL m_thrown_7 m_today m_legs m_feeds m_taped m_point m_end m_begin m_faultAt m_farm m_pig m_begun m_first m_weight m_salted m_heat m_isBad m_isSold m_sealedFeed m_hook m_should m_on m_warmth m_damp m_isOpen (upd m_fFarm m_feeds.toNatClampNeg v1) (upd m_fFrom m_feeds.toNatClampNeg v2) (upd m_fWhat m_feeds.toNatClampNeg v3) (upd m_fTold m_feeds.toNatClampNeg m_today) m_rule m_draft m_tape m_five m_those) H := hP_eq (wM_p_m_fTold) hP2
        have hD : va_D A (wM ad cB cI cZ cL m_thrown_7 m_today m_legs m_feeds m_taped m_point m_end m_begin m_faultAt m_farm m_pig m_begun m_first m_weight m_salted m_heat m_isBad m_isSold m_sealedFeed m_hook m_should m_on m_warmth m_damp m_isOpen (upd m_fFarm m_feeds.toNatClampNeg v1) (upd m_fFrom m_feeds.toNatClampNeg v2) (upd m_fWhat m_feeds.toNatClampNeg v3) (upd m_fTold m_feeds.toNatClampNeg m_today) m_rule m_draft m_tape m_five m_those) := hD_eq (wM_p_m_fTold) hD2
        refine lv_aload_n hx hb dX8_fed_117 rfl (lv_at hl 0 rfl) ?_
        refine lv_dup hx hb dX8_fed_118 rfl ?_
        refine va_get (D := (dC, dI)) (ci := 8) (v := .int m_feeds) (C := RX8) (T := TX8) (N := 34) hx hb hts hk_1 hown hK hP 0 wM_g0 rfl 23 (by decide) hk_2 (fun _ h9 => h9) rfl dX8_fed_119 ?_
        refine lv_iconst (v := 1) hx hb dX8_fed_122 (by decide) ?_
        refine lv_iadd hx hb dX8_fed_123 ?_
        refine va_put (D := (dC, dI)) (ci := 8) (v := .int (m_feeds + 1)) (ty := .int) (C := RX8) (T := TX8) (N := 34) hx hb hts hk_1 tyX8 tyX8_ok nmX8 hown hK hP hD hS 0 wM_g0 rfl 23 (by decide) hk_2 (fun _ h9 => h9) rfl (by decide +kernel) rfl rfl (Nat.le_of_ble_eq_true rfl) dX8_fed_124 (fun H locs hP2 hD2 hS => ?_)
        have hP : va_P (dC, dI) vwCl (wM ad cB cI cZ cL m_thrown_7 m_today m_legs (m_feeds + 1) m_taped m_point m_end m_begin m_faultAt m_farm m_pig m_begun m_first m_weight m_salted m_heat m_isBad m_isSold m_sealedFeed m_hook m_should m_on m_warmth m_damp m_isOpen (upd m_fFarm m_feeds.toNatClampNeg v1) (upd m_fFrom m_feeds.toNatClampNeg v2) (upd m_fWhat m_feeds.toNatClampNeg v3) (upd m_fTold m_feeds.toNatClampNeg m_today) m_rule m_draft m_tape m_five m_those) H := hP_eq (wM_p_m_feeds) hP2
        have hD : va_D A (wM ad cB cI cZ cL m_thrown_7 m_today m_legs (m_feeds + 1) m_taped m_point m_end m_begin m_faultAt m_farm m_pig m_begun m_first m_weight m_salted m_heat m_isBad m_isSold m_sealedFeed m_hook m_should m_on m_warmth m_damp m_isOpen (upd m_fFarm m_feeds.toNatClampNeg v1) (upd m_fFrom m_feeds.toNatClampNeg v2) (upd m_fWhat m_feeds.toNatClampNeg v3) (upd m_fTold m_feeds.toNatClampNeg m_today) m_rule m_draft m_tape m_five m_those) := hD_eq (wM_p_m_feeds) hD2
        refine lv_iconst (v := 0) hx hb dX8_fed_127 (by decide) ?_
        refine lv_istore (lv' := [(4, .int 0), (0, .ref (ad 0)), (1, .int v1), (2, .int v2), (3, .int v3)]) hx hb dX8_fed_128 hl (by decide) rfl (fun ls hl => ?_)
        refine lv_iconst (v := 0) hx hb dX8_fed_130 (by decide) ?_
        refine lv_istore (lv' := [(5, .int 0), (4, .int 0), (0, .ref (ad 0)), (1, .int v1), (2, .int v2), (3, .int v3)]) hx hb dX8_fed_131 hl (by decide) rfl (fun ls hl => ?_)
        obtain ⟨n_25, h⟩ := h
        exact hlp_M_X8_fed_133 n_25 m_thrown_7 (m_feeds + 1) m_sealedFeed (upd m_fFarm m_feeds.toNatClampNeg v1) (upd m_fFrom m_feeds.toNatClampNeg v2) (upd m_fWhat m_feeds.toNatClampNeg v3) (upd m_fTold m_feeds.toNatClampNeg m_today) 0 0 _ _ _ hP hD hS (lv_sub hl [2, 1, 0] rfl) h
      · have h := h.2 c_9
        refine lv_iconst (v := (-1)) hx hb dX8_fed_72 (by decide) ?_
        exact W.iret (v := (-1)) hx hb hr (fun t ht hW => ⟨⟨(-1), (m_thrown_7, m_feeds, m_sealedFeed, m_fFarm, m_fFrom, m_fWhat, m_fTold), rfl, h, kB_mk hP hK hD ht hW.alike⟩, hS.F ht⟩) hS.2.2 dX8_fed_73
    · have h := h.2 c_8
      refine lv_iconst (v := 0) hx hb dX8_fed_61 (by decide) ?_
      exact W.iret (v := 0) hx hb hr (fun t ht hW => ⟨⟨0, (m_thrown_7, m_feeds, m_sealedFeed, m_fFarm, m_fFrom, m_fWhat, m_fTold), rfl, h, kB_mk hP hK hD ht hW.alike⟩, hS.F ht⟩) hS.2.2 dX8_fed_62
  have hbk_M_X8_fed_49 : ∀ (m_thrown : Int32) (m_feeds : Int32) (m_sealedFeed : Nat → Int32) (m_fFarm : Nat → Int32) (m_fFrom : Nat → Int32) (m_fWhat : Nat → Int32) (m_fTold : Nat → Int32) (v1 : Int32) (v2 : Int32) (v3 : Int32) (H : Heap) (locs : List Loc) (ls : Array Slot), va_P (dC, dI) vwCl (wM ad cB cI cZ cL m_thrown m_today m_legs m_feeds m_taped m_point m_end m_begin m_faultAt m_farm m_pig m_begun m_first m_weight m_salted m_heat m_isBad m_isSold m_sealedFeed m_hook m_should m_on m_warmth m_damp m_isOpen m_fFarm m_fFrom m_fWhat m_fTold m_rule m_draft m_tape m_five m_those) H → va_D A (wM ad cB cI cZ cL m_thrown m_today m_legs m_feeds m_taped m_point m_end m_begin m_faultAt m_farm m_pig m_begun m_first m_weight m_salted m_heat m_isBad m_isSold m_sealedFeed m_hook m_should m_on m_warmth m_damp m_isOpen m_fFarm m_fFrom m_fWhat m_fTold m_rule m_draft m_tape m_five m_those) → va_S A s.heap H locs → lv_has ls 6 [(0, .ref (ad 0)), (1, .int v1), (2, .int v2), (3, .int v3)] → bk_M_X8_fed_49 m_today m_legs m_farm m_begun m_isSold Q m_thrown m_feeds m_sealedFeed m_fFarm m_fFrom m_fWhat m_fTold v1 v2 v3 → W p l e (headSpec wsX8_fed rm_M_X8_fed).room s m ([.ref (ad 0), .int p0, .int p1, .int p2] : List Value).toArray below meth c H locs 0 0 (MQ below (pq_M_X8_fed dC dI ad cB cI cZ cL A m_thrown m_today m_legs m_feeds m_taped m_point m_end m_begin m_faultAt m_farm m_pig m_begun m_first m_weight m_salted m_heat m_isBad m_isSold m_sealedFeed m_hook m_should m_on m_warmth m_damp m_isOpen m_fFarm m_fFrom m_fWhat m_fTold m_rule m_draft m_tape m_five m_those Q) ([.ref (ad 0), .int p0, .int p1, .int p2] : List Value).toArray s 0 0 A) (F0 m 49 ls [.ref (ad 0)]) := by
    intro m_thrown m_feeds m_sealedFeed m_fFarm m_fFrom m_fWhat m_fTold v1 v2 v3 H locs ls hP hD hS hl h
    refine lv_iconst (v := 1) hx hb dX8_fed_49 (by decide) ?_
    refine lv_goto (tgt := 54) hx hb dX8_fed_50 (by decide) ?_
    exact hbk_M_X8_fed_54 m_thrown m_feeds m_sealedFeed m_fFarm m_fFrom m_fWhat m_fTold v1 v2 v3 1 _ _ _ hP hD hS (lv_sub hl [0, 1, 2, 3] rfl) h
  have hbk_M_X8_fed_21 : ∀ (m_thrown : Int32) (m_feeds : Int32) (m_sealedFeed : Nat → Int32) (m_fFarm : Nat → Int32) (m_fFrom : Nat → Int32) (m_fWhat : Nat → Int32) (m_fTold : Nat → Int32) (v1 : Int32) (v2 : Int32) (v3 : Int32) (k0 : Int32) (H : Heap) (locs : List Loc) (ls : Array Slot), va_P (dC, dI) vwCl (wM ad cB cI cZ cL m_thrown m_today m_legs m_feeds m_taped m_point m_end m_begin m_faultAt m_farm m_pig m_begun m_first m_weight m_salted m_heat m_isBad m_isSold m_sealedFeed m_hook m_should m_on m_warmth m_damp m_isOpen m_fFarm m_fFrom m_fWhat m_fTold m_rule m_draft m_tape m_five m_those) H → va_D A (wM ad cB cI cZ cL m_thrown m_today m_legs m_feeds m_taped m_point m_end m_begin m_faultAt m_farm m_pig m_begun m_first m_weight m_salted m_heat m_isBad m_isSold m_sealedFeed m_hook m_should m_on m_warmth m_damp m_isOpen m_fFarm m_fFrom m_fWhat m_fTold m_rule m_draft m_tape m_five m_those) → va_S A s.heap H locs → lv_has ls 6 [(0, .ref (ad 0)), (1, .int v1), (2, .int v2), (3, .int v3)] → bk_M_X8_fed_21 m_today m_legs m_farm m_begun m_isSold Q m_thrown m_feeds m_sealedFeed m_fFarm m_fFrom m_fWhat m_fTold v1 v2 v3 k0 → W p l e (headSpec wsX8_fed rm_M_X8_fed).room s m ([.ref (ad 0), .int p0, .int p1, .int p2] : List Value).toArray below meth c H locs 0 0 (MQ below (pq_M_X8_fed dC dI ad cB cI cZ cL A m_thrown m_today m_legs m_feeds m_taped m_point m_end m_begin m_faultAt m_farm m_pig m_begun m_first m_weight m_salted m_heat m_isBad m_isSold m_sealedFeed m_hook m_should m_on m_warmth m_damp m_isOpen m_fFarm m_fFrom m_fWhat m_fTold m_rule m_draft m_tape m_five m_those Q) ([.ref (ad 0), .int p0, .int p1, .int p2] : List Value).toArray s 0 0 A) (F0 m 21 ls [.int k0, .ref (ad 0)]) := by
    intro m_thrown m_feeds m_sealedFeed m_fFarm m_fFrom m_fWhat m_fTold v1 v2 v3 k0 H locs ls hP hD hS hl h
    have h : wp_M_X8_throwsIf (fun r_3 m_thrown_3 => ((¬ r_3 = 0 → Q 0 m_thrown_3 m_feeds m_sealedFeed m_fFarm m_fFrom m_fWhat m_fTold) ∧ (r_3 = 0 → wp_M_X8_in (fun r_5 => ((r_5 = 0 → bk_M_X8_fed_49 m_today m_legs m_farm m_begun m_isSold Q m_thrown_3 m_feeds m_sealedFeed m_fFarm m_fFrom m_fWhat m_fTold v1 v2 v3) ∧ (¬ (r_5 = 0) → wp_M_X8_in (fun r_26 => ((¬ r_26 = 0 → bk_M_X8_fed_54 m_today m_legs m_farm m_begun m_isSold Q m_thrown_3 m_feeds m_sealedFeed m_fFarm m_fFrom m_fWhat m_fTold v1 v2 v3 0) ∧ (r_26 = 0 → bk_M_X8_fed_49 m_today m_legs m_farm m_begun m_isSold Q m_thrown_3 m_feeds m_sealedFeed m_fFarm m_fFrom m_fWhat m_fTold v1 v2 v3))) v3 0 3))) v2 0 2000))) m_thrown k0 1 := h
    refine lv_iconst (v := 1) hx hb dX8_fed_21 (by decide) ?_
    refine va_calli (va_runV (As := [.int k0, .int 1]) (rest := []) ⟨hx, hb, hml, hown, hts⟩ (c_M_X8_throwsIf l dC dI ad cB cI cZ cL A m_thrown m_today m_legs m_feeds m_taped m_point m_end m_begin m_faultAt m_farm m_pig m_begun m_first m_weight m_salted m_heat m_isBad m_isSold m_sealedFeed m_hook m_should m_on m_warmth m_damp m_isOpen m_fFarm m_fFrom m_fWhat m_fTold m_rule m_draft m_tape m_five m_those k0 1 _ h) (cwV 2 hts gX8_fed_X8_throwsIf rfl rfl rfl (by decide +kernel) ⟨(Nat.le_of_ble_eq_true rfl), (Nat.le_of_ble_eq_true rfl)⟩) ⟨kC_blind, va_recv hK hP (ci := 8) (q0 := 0) rfl wM_g0, fun U hU hW => ⟨rfl, kC_go hA hS hP hK hD hE U hU hW⟩⟩ rfl rfl hl.1 rfl (lv_room (Nat.le_of_ble_eq_true rfl)) dX8_fed_22 ⟨(Nat.le_of_ble_eq_true rfl), (Nat.le_of_ble_eq_true rfl)⟩) hS (fun q _ h => h) (fun q h => h) (fun r_3 u t H locs ht hvm hw hB hz1 hk1 hS => ?_)
    obtain ⟨m_thrown_3, rfl⟩ : ∃ z, z = u := ⟨_, rfl⟩
    have h := hw
    try dsimp only at h
    have hP : va_P (dC, dI) vwCl (wM ad cB cI cZ cL m_thrown_3 m_today m_legs m_feeds m_taped m_point m_end m_begin m_faultAt m_farm m_pig m_begun m_first m_weight m_salted m_heat m_isBad m_isSold m_sealedFeed m_hook m_should m_on m_warmth m_damp m_isOpen m_fFarm m_fFrom m_fWhat m_fTold m_rule m_draft m_tape m_five m_those) H := by rw [← ht]; exact hB.1
    have hD : va_D A (wM ad cB cI cZ cL m_thrown_3 m_today m_legs m_feeds m_taped m_point m_end m_begin m_faultAt m_farm m_pig m_begun m_first m_weight m_salted m_heat m_isBad m_isSold m_sealedFeed m_hook m_should m_on m_warmth m_damp m_isOpen m_fFarm m_fFrom m_fWhat m_fTold m_rule m_draft m_tape m_five m_those) := hB.2.2
    refine lv_if_ne (tgt := 61) hx hb dX8_fed_25 (by decide) (fun c_4 => ?_) (fun c_4 => ?_)
    · have h := h.1 c_4
      refine lv_iconst (v := 0) hx hb dX8_fed_61 (by decide) ?_
      exact W.iret (v := 0) hx hb hr (fun t ht hW => ⟨⟨0, (m_thrown_3, m_feeds, m_sealedFeed, m_fFarm, m_fFrom, m_fWhat, m_fTold), rfl, h, kB_mk hP hK hD ht hW.alike⟩, hS.F ht⟩) hS.2.2 dX8_fed_62
    · have h := h.2 c_4
      refine lv_aload_n hx hb dX8_fed_28 rfl (lv_at hl 0 rfl) ?_
      refine lv_iload_n hx hb dX8_fed_29 rfl (lv_at hl 2 rfl) ?_
      refine lv_iconst (v := 0) hx hb dX8_fed_30 (by decide) ?_
      refine lv_sipush (v := 2000) hx hb dX8_fed_31 (by decide) ?_
      refine va_calli (va_runS (As := [.int v2, .int 0, .int 2000]) (rest := [.ref (ad 0)]) ⟨hx, hb, hml, hown, hts⟩ (c_M_X8_in l dC dI ad cB cI cZ cL A m_thrown_3 m_today m_legs m_feeds m_taped m_point m_end m_begin m_faultAt m_farm m_pig m_begun m_first m_weight m_salted m_heat m_isBad m_isSold m_sealedFeed m_hook m_should m_on m_warmth m_damp m_isOpen m_fFarm m_fFrom m_fWhat m_fTold m_rule m_draft m_tape m_five m_those v2 0 2000 _ h) (va_cwS 3 hts gX8_fed_X8_in rfl rfl rfl (by decide +kernel) ⟨(Nat.le_of_ble_eq_true rfl), (Nat.le_of_ble_eq_true rfl)⟩) ⟨kC_blind, fun U hU hW => ⟨rfl, kC_go hA hS hP hK hD hE U hU hW⟩⟩ rfl rfl hl.1 rfl (lv_room (Nat.le_of_ble_eq_true rfl)) dX8_fed_34 ⟨(Nat.le_of_ble_eq_true rfl), (Nat.le_of_ble_eq_true rfl)⟩) hS (fun q _ h => h) (fun q h => h) (fun r_5 u t H locs ht hvm hw hB hz1 hk1 hS => ?_)
      have h := hw
      try dsimp only at h
      have hP : va_P (dC, dI) vwCl (wM ad cB cI cZ cL m_thrown_3 m_today m_legs m_feeds m_taped m_point m_end m_begin m_faultAt m_farm m_pig m_begun m_first m_weight m_salted m_heat m_isBad m_isSold m_sealedFeed m_hook m_should m_on m_warmth m_damp m_isOpen m_fFarm m_fFrom m_fWhat m_fTold m_rule m_draft m_tape m_five m_those) H := by rw [← ht]; exact hB.1
      have hD : va_D A (wM ad cB cI cZ cL m_thrown_3 m_today m_legs m_feeds m_taped m_point m_end m_begin m_faultAt m_farm m_pig m_begun m_first m_weight m_salted m_heat m_isBad m_isSold m_sealedFeed m_hook m_should m_on m_warmth m_damp m_isOpen m_fFarm m_fFrom m_fWhat m_fTold m_rule m_draft m_tape m_five m_those) := hB.2.2
      refine lv_if_eq (tgt := 49) hx hb dX8_fed_37 (by decide) (fun c_6 => ?_) (fun c_6 => ?_)
      · have h := h.1 c_6
        exact hbk_M_X8_fed_49 m_thrown_3 m_feeds m_sealedFeed m_fFarm m_fFrom m_fWhat m_fTold v1 v2 v3 _ _ _ hP hD hS (lv_sub hl [0, 1, 2, 3] rfl) h
      · have h := h.2 c_6
        refine lv_iload_n hx hb dX8_fed_40 rfl (lv_at hl 3 rfl) ?_
        refine lv_iconst (v := 0) hx hb dX8_fed_41 (by decide) ?_
        refine lv_iconst (v := 3) hx hb dX8_fed_42 (by decide) ?_
        refine va_calli (va_runS (As := [.int v3, .int 0, .int 3]) (rest := [.ref (ad 0)]) ⟨hx, hb, hml, hown, hts⟩ (c_M_X8_in l dC dI ad cB cI cZ cL A m_thrown_3 m_today m_legs m_feeds m_taped m_point m_end m_begin m_faultAt m_farm m_pig m_begun m_first m_weight m_salted m_heat m_isBad m_isSold m_sealedFeed m_hook m_should m_on m_warmth m_damp m_isOpen m_fFarm m_fFrom m_fWhat m_fTold m_rule m_draft m_tape m_five m_those v3 0 3 _ h) (va_cwS 3 hts gX8_fed_X8_in rfl rfl rfl (by decide +kernel) ⟨(Nat.le_of_ble_eq_true rfl), (Nat.le_of_ble_eq_true rfl)⟩) ⟨kC_blind, fun U hU hW => ⟨rfl, kC_go hA hS hP hK hD hE U hU hW⟩⟩ rfl rfl hl.1 rfl (lv_room (Nat.le_of_ble_eq_true rfl)) dX8_fed_43 ⟨(Nat.le_of_ble_eq_true rfl), (Nat.le_of_ble_eq_true rfl)⟩) hS (fun q _ h => h) (fun q h => h) (fun r_26 u t H locs ht hvm hw hB hz1 hk1 hS => ?_)
        have h := hw
        try dsimp only at h
        have hP : va_P (dC, dI) vwCl (wM ad cB cI cZ cL m_thrown_3 m_today m_legs m_feeds m_taped m_point m_end m_begin m_faultAt m_farm m_pig m_begun m_first m_weight m_salted m_heat m_isBad m_isSold m_sealedFeed m_hook m_should m_on m_warmth m_damp m_isOpen m_fFarm m_fFrom m_fWhat m_fTold m_rule m_draft m_tape m_five m_those) H := by rw [← ht]; exact hB.1
        have hD : va_D A (wM ad cB cI cZ cL m_thrown_3 m_today m_legs m_feeds m_taped m_point m_end m_begin m_faultAt m_farm m_pig m_begun m_first m_weight m_salted m_heat m_isBad m_isSold m_sealedFeed m_hook m_should m_on m_warmth m_damp m_isOpen m_fFarm m_fFrom m_fWhat m_fTold m_rule m_draft m_tape m_five m_those) := hB.2.2
        refine lv_if_ne (tgt := 53) hx hb dX8_fed_46 (by decide) (fun c_27 => ?_) (fun c_27 => ?_)
        · have h := h.1 c_27
          refine lv_iconst (v := 0) hx hb dX8_fed_53 (by decide) ?_
          exact hbk_M_X8_fed_54 m_thrown_3 m_feeds m_sealedFeed m_fFarm m_fFrom m_fWhat m_fTold v1 v2 v3 0 _ _ _ hP hD hS (lv_sub hl [0, 1, 2, 3] rfl) h
        · have h := h.2 c_27
          exact hbk_M_X8_fed_49 m_thrown_3 m_feeds m_sealedFeed m_fFarm m_fFrom m_fWhat m_fTold v1 v2 v3 _ _ _ hP hD hS (lv_sub hl [0, 1, 2, 3] rfl) h
  have hl := lv_entry ([.ref (ad 0), .int p0, .int p1, .int p2]) (n := 6) (Nat.le_of_ble_eq_true rfl)
  rw [lg_entry_eq]
  generalize (lg_sl ([.ref (ad 0), .int p0, .int p1, .int p2]) ++ List.replicate (6 - (lg_sl ([.ref (ad 0), .int p0, .int p1, .int p2])).length) Slot.unset).toArray = ls at hl ⊢
  have hl : lv_has ls 6 [(0, .ref (ad 0)), (1, .int p0), (2, .int p1), (3, .int p2)] := hl
  unfold wp_M_X8_fed at h
  refine lv_aload_n hx hb dX8_fed_0 rfl (lv_at hl 0 rfl) ?_
  refine lv_iconst (v := 0) hx hb dX8_fed_1 (by decide) ?_
  refine va_put (D := (dC, dI)) (ci := 8) (v := .int 0) (ty := .int) (C := RX8) (T := TX8) (N := 34) hx hb hts hk_1 tyX8 tyX8_ok nmX8 hown hK hP hD hS 0 wM_g0 rfl 0 (by decide) hk_0 (fun _ h9 => h9) rfl (by decide +kernel) rfl rfl (Nat.le_of_ble_eq_true rfl) dX8_fed_2 (fun H locs hP2 hD2 hS => ?_)
  have hP : va_P (dC, dI) vwCl (wM ad cB cI cZ cL 0 m_today m_legs m_feeds m_taped m_point m_end m_begin m_faultAt m_farm m_pig m_begun m_first m_weight m_salted m_heat m_isBad m_isSold m_sealedFeed m_hook m_should m_on m_warmth m_damp m_isOpen m_fFarm m_fFrom m_fWhat m_fTold m_rule m_draft m_tape m_five m_those) H := hP_eq (wM_p_m_thrown) hP2
  have hD : va_D A (wM ad cB cI cZ cL 0 m_today m_legs m_feeds m_taped m_point m_end m_begin m_faultAt m_farm m_pig m_begun m_first m_weight m_salted m_heat m_isBad m_isSold m_sealedFeed m_hook m_should m_on m_warmth m_damp m_isOpen m_fFarm m_fFrom m_fWhat m_fTold m_rule m_draft m_tape m_five m_those) := hD_eq (wM_p_m_thrown) hD2
  refine lv_aload_n hx hb dX8_fed_5 rfl (lv_at hl 0 rfl) ?_
  refine lv_iload_n hx hb dX8_fed_6 rfl (lv_at hl 1 rfl) ?_
  refine lv_iconst (v := 0) hx hb dX8_fed_7 (by decide) ?_
  refine lv_bipush (v := 9) hx hb dX8_fed_8 (by decide) ?_
  refine va_calli (va_runS (As := [.int p0, .int 0, .int 9]) (rest := [.ref (ad 0)]) ⟨hx, hb, hml, hown, hts⟩ (c_M_X8_in l dC dI ad cB cI cZ cL A 0 m_today m_legs m_feeds m_taped m_point m_end m_begin m_faultAt m_farm m_pig m_begun m_first m_weight m_salted m_heat m_isBad m_isSold m_sealedFeed m_hook m_should m_on m_warmth m_damp m_isOpen m_fFarm m_fFrom m_fWhat m_fTold m_rule m_draft m_tape m_five m_those p0 0 9 _ h) (va_cwS 3 hts gX8_fed_X8_in rfl rfl rfl (by decide +kernel) ⟨(Nat.le_of_ble_eq_true rfl), (Nat.le_of_ble_eq_true rfl)⟩) ⟨kC_blind, fun U hU hW => ⟨rfl, kC_go hA hS hP hK hD hE U hU hW⟩⟩ rfl rfl hl.1 rfl (lv_room (Nat.le_of_ble_eq_true rfl)) dX8_fed_10 ⟨(Nat.le_of_ble_eq_true rfl), (Nat.le_of_ble_eq_true rfl)⟩) hS (fun q _ h => h) (fun q h => h) (fun r_1 u t H locs ht hvm hw hB hz1 hk1 hS => ?_)
  have h := hw
  try dsimp only at h
  have hP : va_P (dC, dI) vwCl (wM ad cB cI cZ cL 0 m_today m_legs m_feeds m_taped m_point m_end m_begin m_faultAt m_farm m_pig m_begun m_first m_weight m_salted m_heat m_isBad m_isSold m_sealedFeed m_hook m_should m_on m_warmth m_damp m_isOpen m_fFarm m_fFrom m_fWhat m_fTold m_rule m_draft m_tape m_five m_those) H := by rw [← ht]; exact hB.1
  have hD : va_D A (wM ad cB cI cZ cL 0 m_today m_legs m_feeds m_taped m_point m_end m_begin m_faultAt m_farm m_pig m_begun m_first m_weight m_salted m_heat m_isBad m_isSold m_sealedFeed m_hook m_should m_on m_warmth m_damp m_isOpen m_fFarm m_fFrom m_fWhat m_fTold m_rule m_draft m_tape m_five m_those) := hB.2.2
  refine lv_if_ne (tgt := 20) hx hb dX8_fed_13 (by decide) (fun c_2 => ?_) (fun c_2 => ?_)
  · have h := h.1 c_2
    refine lv_iconst (v := 0) hx hb dX8_fed_20 (by decide) ?_
    exact hbk_M_X8_fed_21 0 m_feeds m_sealedFeed m_fFarm m_fFrom m_fWhat m_fTold p0 p1 p2 0 _ _ _ hP hD hS (lv_sub hl [0, 1, 2, 3] rfl) h
  · have h := h.2 c_2
    refine lv_iconst (v := 1) hx hb dX8_fed_16 (by decide) ?_
    refine lv_goto (tgt := 21) hx hb dX8_fed_17 (by decide) ?_
    exact hbk_M_X8_fed_21 0 m_feeds m_sealedFeed m_fFarm m_fFrom m_fWhat m_fTold p0 p1 p2 1 _ _ _ hP hD hS (lv_sub hl [0, 1, 2, 3] rfl) h
