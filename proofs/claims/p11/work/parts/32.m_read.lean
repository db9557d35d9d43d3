def wp_M_X8_isAt (m_point : Int32) (m_end : Int32) (m_tape : Nat → Int32) (Q : Int32 → Prop) (p0 : Int32) (p1 : Int32) : Prop := ((m_end ≤ m_point → (o01 0 ∧ Q 0 )) ∧ (¬ (m_end ≤ m_point) → (vp_in m_point 400 ∧ (((m_tape m_point.toNatClampNeg) < p0 → (o01 0 ∧ Q 0 )) ∧ (¬ ((m_tape m_point.toNatClampNeg) < p0) → (vp_in m_point 400 ∧ ((p1 < (m_tape m_point.toNatClampNeg) → (o01 0 ∧ Q 0 )) ∧ (¬ (p1 < (m_tape m_point.toNatClampNeg)) → (o01 1 ∧ Q 1 )))))))))
def rm_M_X8_isAt : Room := { frames := 0, cells := 0, slots := 0, locals := 0 }
abbrev pq_M_X8_isAt (dC : Nat → ClassId) (dI : Nat → Nat → Nat) (ad : Nat → Nat) (cB cI cZ cL : ClassId) (A : Nat → Prop) (m_thrown m_today m_legs m_feeds m_taped m_point m_end m_begin m_faultAt : Int32) (m_farm m_pig m_begun m_first m_weight m_salted m_heat m_isBad m_isSold m_sealedFeed m_hook m_should m_on m_warmth m_damp m_isOpen m_fFarm m_fFrom m_fWhat m_fTold m_rule m_draft m_tape m_five m_those : Nat → Int32) (Q : Int32 → Prop) : Array Value → State → Outcome → State → Prop := va_Qi (fun (r : Int32) (u : Unit) => Q r ) (fun u t => kB dC dI A (wM ad cB cI cZ cL m_thrown m_today m_legs m_feeds m_taped m_point m_end m_begin m_faultAt m_farm m_pig m_begun m_first m_weight m_salted m_heat m_isBad m_isSold m_sealedFeed m_hook m_should m_on m_warmth m_damp m_isOpen m_fFarm m_fFrom m_fWhat m_fTold m_rule m_draft m_tape m_five m_those) (kTy cB cI cZ cL) t) A
set_option maxHeartbeats 4000000 in
set_option maxRecDepth 100000 in
theorem c_M_X8_isAt (l : Launch) (dC : Nat → ClassId) (dI : Nat → Nat → Nat) (ad : Nat → Nat) (cB cI cZ cL : ClassId) (A : Nat → Prop) (m_thrown m_today m_legs m_feeds m_taped m_point m_end m_begin m_faultAt : Int32) (m_farm m_pig m_begun m_first m_weight m_salted m_heat m_isBad m_isSold m_sealedFeed m_hook m_should m_on m_warmth m_damp m_isOpen m_fFarm m_fFrom m_fWhat m_fTold m_rule m_draft m_tape m_five m_those : Nat → Int32) (p0 : Int32) (p1 : Int32)  (Q : Int32 → Prop) (h : wp_M_X8_isAt m_point m_end m_tape Q p0 p1) : Met l yX8_isAt wsX8_isAt rm_M_X8_isAt (va_Pc [.ref (ad 0), .int p0, .int p1] (kC dC dI ad A (wM ad cB cI cZ cL m_thrown m_today m_legs m_feeds m_taped m_point m_end m_begin m_faultAt m_farm m_pig m_begun m_first m_weight m_salted m_heat m_isBad m_isSold m_sealedFeed m_hook m_should m_on m_warmth m_damp m_isOpen m_fFarm m_fFrom m_fWhat m_fTold m_rule m_draft m_tape m_five m_those) (kTy cB cI cZ cL))) (pq_M_X8_isAt dC dI ad cB cI cZ cL A m_thrown m_today m_legs m_feeds m_taped m_point m_end m_begin m_faultAt m_farm m_pig m_begun m_first m_weight m_salted m_heat m_isBad m_isSold m_sealedFeed m_hook m_should m_on m_warmth m_damp m_isOpen m_fFarm m_fFrom m_fWhat m_fTold m_rule m_draft m_tape m_five m_those Q) 0 0 A := by
  refine Met.ofW (cc := cX8_isAt) (maxL := 3) (ret := (some .boolean)) (by decide) rfl ?_
  intro p e s m args below meth c s₁ B hml hv
  obtain ⟨rfl, hA, hP, hK, hD, hE⟩ := hv
  have hx := B.exec
  have hb := B.bytes
  have hr := B.returns
  have hts := atoms_spec (ws := wsX8_isAt) B.pre
  have hown : s.vm.findClass RX8 = some m.cls := findClass_of_methodNamed B.named
  have hlocks := B.notSynchronized
  have hS : va_S A s.heap s.heap [] := va_S.rf
  have hk_0 := hts (.fieldLink RX8 134 "HamCellarModel" "point" "I") (by decide +kernel)
  have hk_1 : ∀ w ∈ wsX80, w ∈ wsX8_isAt := by decide +kernel
  have hk_2 := hts (.fieldLink RX8 137 "HamCellarModel" "end" "I") (by decide +kernel)
  have hk_3 := hts (.fieldLink RX8 81 "HamCellarModel" "tape" "[B") (by decide +kernel)
  have hl := lv_entry ([.ref (ad 0), .int p0, .int p1]) (n := 3) (Nat.le_of_ble_eq_true rfl)
  rw [lg_entry_eq]
  generalize (lg_sl ([.ref (ad 0), .int p0, .int p1]) ++ List.replicate (3 - (lg_sl ([.ref (ad 0), .int p0, .int p1])).length) Slot.unset).toArray = ls at hl ⊢
  have hl : lv_has ls 3 [(0, .ref (ad 0)), (1, .int p0), (2, .int p1)] := hl
  unfold wp_M_X8_isAt at h
  refine lv_aload_n hx hb dX8_isAt_0 rfl (lv_at hl 0 rfl) ?_
  refine va_get (D := (dC, dI)) (ci := 8) (v := .int m_point) (C := RX8) (T := TX8) (N := 34) hx hb hts hk_1 hown hK hP 0 wM_g0 rfl 28 (by decide) hk_0 (fun _ h9 => h9) rfl dX8_isAt_1 ?_
  refine lv_aload_n hx hb dX8_isAt_4 rfl (lv_at hl 0 rfl) ?_
  refine va_get (D := (dC, dI)) (ci := 8) (v := .int m_end) (C := RX8) (T := TX8) (N := 34) hx hb hts hk_1 hown hK hP 0 wM_g0 rfl 29 (by decide) hk_2 (fun _ h9 => h9) rfl dX8_isAt_5 ?_
  refine lv_icmp_ge (tgt := 41) hx hb dX8_isAt_8 (by decide) (fun c_1 => ?_) (fun c_1 => ?_)
  · have h := h.1 c_1
    refine lv_iconst (v := 0) hx hb dX8_isAt_41 (by decide) ?_
    exact W.zret (v := 0) (ty := .boolean) hx hb hr (z01 h.1) (fun t ht hW => ⟨⟨0, (), rfl, h.2, kB_mk hP hK hD ht hW.alike⟩, hS.F ht⟩) hS.2.2 dX8_isAt_42
  · have h := h.2 c_1
    refine lv_aload_n hx hb dX8_isAt_11 rfl (lv_at hl 0 rfl) ?_
    refine va_get (D := (dC, dI)) (ci := 8) (v := .ref (ad 23)) (C := RX8) (T := TX8) (N := 34) hx hb hts hk_1 hown hK hP 0 wM_g0 rfl 26 (by decide) hk_3 (fun _ h9 => h9) rfl dX8_isAt_12 ?_
    refine lv_aload_n hx hb dX8_isAt_15 rfl (lv_at hl 0 rfl) ?_
    refine va_get (D := (dC, dI)) (ci := 8) (v := .int m_point) (C := RX8) (T := TX8) (N := 34) hx hb hts hk_1 hown hK hP 0 wM_g0 rfl 28 (by decide) hk_0 (fun _ h9 => h9) rfl dX8_isAt_16 ?_
    have hi_2 := h.1
    have h := h.2
    refine va_bald hx hb hK hP 23 0 wM_g23 rfl hi_2 dX8_isAt_19 ?_
    refine lv_iload_n hx hb dX8_isAt_20 rfl (lv_at hl 1 rfl) ?_
    refine lv_icmp_lt (tgt := 41) hx hb dX8_isAt_21 (by decide) (fun c_3 => ?_) (fun c_3 => ?_)
    · have h := h.1 c_3
      refine lv_iconst (v := 0) hx hb dX8_isAt_41 (by decide) ?_
      exact W.zret (v := 0) (ty := .boolean) hx hb hr (z01 h.1) (fun t ht hW => ⟨⟨0, (), rfl, h.2, kB_mk hP hK hD ht hW.alike⟩, hS.F ht⟩) hS.2.2 dX8_isAt_42
    · have h := h.2 c_3
      refine lv_aload_n hx hb dX8_isAt_24 rfl (lv_at hl 0 rfl) ?_
      refine va_get (D := (dC, dI)) (ci := 8) (v := .ref (ad 23)) (C := RX8) (T := TX8) (N := 34) hx hb hts hk_1 hown hK hP 0 wM_g0 rfl 26 (by decide) hk_3 (fun _ h9 => h9) rfl dX8_isAt_25 ?_
      refine lv_aload_n hx hb dX8_isAt_28 rfl (lv_at hl 0 rfl) ?_
      refine va_get (D := (dC, dI)) (ci := 8) (v := .int m_point) (C := RX8) (T := TX8) (N := 34) hx hb hts hk_1 hown hK hP 0 wM_g0 rfl 28 (by decide) hk_0 (fun _ h9 => h9) rfl dX8_isAt_29 ?_
      have hi_4 := h.1
      have h := h.2
      refine va_bald hx hb hK hP 23 0 wM_g23 rfl hi_4 dX8_isAt_32 ?_
      refine lv_iload_n hx hb dX8_isAt_33 rfl (lv_at hl 2 rfl) ?_
      refine lv_icmp_gt (tgt := 41) hx hb dX8_isAt_34 (by decide) (fun c_5 => ?_) (fun c_5 => ?_)
      · have h := h.1 c_5
        refine lv_iconst (v := 0) hx hb dX8_isAt_41 (by decide) ?_
        exact W.zret (v := 0) (ty := .boolean) hx hb hr (z01 h.1) (fun t ht hW => ⟨⟨0, (), rfl, h.2, kB_mk hP hK hD ht hW.alike⟩, hS.F ht⟩) hS.2.2 dX8_isAt_42
      · have h := h.2 c_5
        refine lv_iconst (v := 1) hx hb dX8_isAt_37 (by decide) ?_
        refine lv_goto (tgt := 42) hx hb dX8_isAt_38 (by decide) ?_
        exact W.zret (v := 1) (ty := .boolean) hx hb hr (z01 h.1) (fun t ht hW => ⟨⟨1, (), rfl, h.2, kB_mk hP hK hD ht hW.alike⟩, hS.F ht⟩) hS.2.2 dX8_isAt_42
def lp_M_X8_blanks_0 (m_end : Int32) (m_tape : Nat → Int32)  (Q : Int32 → Int32 → Prop) : Nat → Int32 → Int32 → Prop
  | 0 => fun _ _ => False
  | n + 1 => fun m_point m_begin => wp_M_X8_isAt m_point m_end m_tape (fun r_1 => ((r_1 = 0 → Q m_point m_point) ∧ (¬ (r_1 = 0) → lp_M_X8_blanks_0 m_end m_tape Q n (m_point + 1) m_begin))) 32 32
def wp_M_X8_blanks (m_end : Int32) (m_tape : Nat → Int32) (Q : Int32 → Int32 → Prop) (m_point : Int32) (m_begin : Int32) : Prop := (∃ n_3, lp_M_X8_blanks_0 m_end m_tape Q n_3 m_point m_begin)
def rm_M_X8_blanks : Room := { frames := 1, cells := 0, slots := 0, locals := 22 }
abbrev pq_M_X8_blanks (dC : Nat → ClassId) (dI : Nat → Nat → Nat) (ad : Nat → Nat) (cB cI cZ cL : ClassId) (A : Nat → Prop) (m_thrown m_today m_legs m_feeds m_taped m_point m_end m_begin m_faultAt : Int32) (m_farm m_pig m_begun m_first m_weight m_salted m_heat m_isBad m_isSold m_sealedFeed m_hook m_should m_on m_warmth m_damp m_isOpen m_fFarm m_fFrom m_fWhat m_fTold m_rule m_draft m_tape m_five m_those : Nat → Int32) (Q : Int32 → Int32 → Prop) : Array Value → State → Outcome → State → Prop := va_Qv (fun u : Int32 × Int32 => Q u.1 u.2) (fun u t => kB dC dI A (wM ad cB cI cZ cL m_thrown m_today m_legs m_feeds m_taped u.1 m_end u.2 m_faultAt m_farm m_pig m_begun m_first m_weight m_salted m_heat m_isBad m_isSold m_sealedFeed m_hook m_should m_on m_warmth m_damp m_isOpen m_fFarm m_fFrom m_fWhat m_fTold m_rule m_draft m_tape m_five m_those) (kTy cB cI cZ cL) t) A
set_option maxHeartbeats 4000000 in
set_option maxRecDepth 100000 in
theorem c_M_X8_blanks (l : Launch) (dC : Nat → ClassId) (dI : Nat → Nat → Nat) (ad : Nat → Nat) (cB cI cZ cL : ClassId) (A : Nat → Prop) (m_thrown m_today m_legs m_feeds m_taped m_point m_end m_begin m_faultAt : Int32) (m_farm m_pig m_begun m_first m_weight m_salted m_heat m_isBad m_isSold m_sealedFeed m_hook m_should m_on m_warmth m_damp m_isOpen m_fFarm m_fFrom m_fWhat m_fTold m_rule m_draft m_tape m_five m_those : Nat → Int32)   (Q : Int32 → Int32 → Prop) (h : wp_M_X8_blanks m_end m_tape Q m_point m_begin) : Met l yX8_blanks wsX8_blanks rm_M_X8_blanks (va_Pc [.ref (ad 0)] (kC dC dI ad A (wM ad cB cI cZ cL m_thrown m_today m_legs m_feeds m_taped m_point m_end m_begin m_faultAt m_farm m_pig m_begun m_first m_weight m_salted m_heat m_isBad m_isSold m_sealedFeed m_hook m_should m_on m_warmth m_damp m_isOpen m_fFarm m_fFrom m_fWhat m_fTold m_rule m_draft m_tape m_five m_those) (kTy cB cI cZ cL))) (pq_M_X8_blanks dC dI ad cB cI cZ cL A m_thrown m_today m_legs m_feeds m_taped m_point m_end m_begin m_faultAt m_farm m_pig m_begun m_first m_weight m_salted m_heat m_isBad m_isSold m_sealedFeed m_hook m_should m_on m_warmth m_damp m_isOpen m_fFarm m_fFrom m_fWhat m_fTold m_rule m_draft m_tape m_five m_those Q) 0 0 A := by
  refine Met.ofW (cc := cX8_blanks) (maxL := 1) (ret := none) (by decide) rfl ?_
  intro p e s m args below meth c s₁ B hml hv
  obtain ⟨rfl, hA, hP, hK, hD, hE⟩ := hv
  have hx := B.exec
  have hb := B.bytes
  have hr := B.returns
  have hts := atoms_spec (ws := wsX8_blanks) B.pre
  have hown : s.vm.findClass RX8 = some m.cls := findClass_of_methodNamed B.named
  have hlocks := B.notSynchronized
  have hS : va_S A s.heap s.heap [] := va_S.rf
  have hk_0 := hts (.fieldLink RX8 134 "HamCellarModel" "point" "I") (by decide +kernel)
  have hk_1 : ∀ w ∈ wsX80, w ∈ wsX8_blanks := by decide +kernel
  have hk_2 := hts (.fieldLink RX8 143 "HamCellarModel" "begin" "I") (by decide +kernel)
  have hlp_M_X8_blanks_0 : ∀ (n : Nat) (m_point : Int32) (m_begin : Int32) (H : Heap) (locs : List Loc) (ls : Array Slot), va_P (dC, dI) vwCl (wM ad cB cI cZ cL m_thrown m_today m_legs m_feeds m_taped m_point m_end m_begin m_faultAt m_farm m_pig m_begun m_first m_weight m_salted m_heat m_isBad m_isSold m_sealedFeed m_hook m_should m_on m_warmth m_damp m_isOpen m_fFarm m_fFrom m_fWhat m_fTold m_rule m_draft m_tape m_five m_those) H → va_D A (wM ad cB cI cZ cL m_thrown m_today m_legs m_feeds m_taped m_point m_end m_begin m_faultAt m_farm m_pig m_begun m_first m_weight m_salted m_heat m_isBad m_isSold m_sealedFeed m_hook m_should m_on m_warmth m_damp m_isOpen m_fFarm m_fFrom m_fWhat m_fTold m_rule m_draft m_tape m_five m_those) → va_S A s.heap H locs → lv_has ls 1 [(0, .ref (ad 0))] → lp_M_X8_blanks_0 m_end m_tape Q n m_point m_begin → W p l e (headSpec wsX8_blanks rm_M_X8_blanks).room s m ([.ref (ad 0)] : List Value).toArray below meth c H locs 0 0 (MQ below (pq_M_X8_blanks dC dI ad cB cI cZ cL A m_thrown m_today m_legs m_feeds m_taped m_point m_end m_begin m_faultAt m_farm m_pig m_begun m_first m_weight m_salted m_heat m_isBad m_isSold m_sealedFeed m_hook m_should m_on m_warmth m_damp m_isOpen m_fFarm m_fFrom m_fWhat m_fTold m_rule m_draft m_tape m_five m_those Q) ([.ref (ad 0)] : List Value).toArray s 0 0 A) (F0 m 0 ls []) := by
    intro n
    induction n with
    | zero => intro m_point m_begin H locs ls hP hD hS hl h; exact h.elim
    | succ n ih =>
      intro m_point m_begin H locs ls hP hD hS hl h
      have h : wp_M_X8_isAt m_point m_end m_tape (fun r_1 => ((r_1 = 0 → Q m_point m_point) ∧ (¬ (r_1 = 0) → lp_M_X8_blanks_0 m_end m_tape Q n (m_point + 1) m_begin))) 32 32 := h
      refine lv_aload_n hx hb dX8_blanks_0 rfl (lv_at hl 0 rfl) ?_
      refine lv_bipush (v := 32) hx hb dX8_blanks_1 (by decide) ?_
      refine lv_bipush (v := 32) hx hb dX8_blanks_3 (by decide) ?_
      refine va_calli (va_runV (As := [.int 32, .int 32]) (rest := []) ⟨hx, hb, hml, hown, hts⟩ (c_M_X8_isAt l dC dI ad cB cI cZ cL A m_thrown m_today m_legs m_feeds m_taped m_point m_end m_begin m_faultAt m_farm m_pig m_begun m_first m_weight m_salted m_heat m_isBad m_isSold m_sealedFeed m_hook m_should m_on m_warmth m_damp m_isOpen m_fFarm m_fFrom m_fWhat m_fTold m_rule m_draft m_tape m_five m_those 32 32 _ h) (cwV 2 hts gX8_blanks_X8_isAt rfl rfl rfl (by decide +kernel) ⟨(Nat.le_of_ble_eq_true rfl), (Nat.le_of_ble_eq_true rfl)⟩) ⟨kC_blind, va_recv hK hP (ci := 8) (q0 := 0) rfl wM_g0, fun U hU hW => ⟨rfl, kC_go hA hS hP hK hD hE U hU hW⟩⟩ rfl rfl hl.1 rfl (lv_room (Nat.le_of_ble_eq_true rfl)) dX8_blanks_5 ⟨(Nat.le_of_ble_eq_true rfl), (Nat.le_of_ble_eq_true rfl)⟩) hS (fun q _ h => h) (fun q h => h) (fun r_1 u t H locs ht hvm hw hB hz1 hk1 hS => ?_)
      have h := hw
      try dsimp only at h
      have hP : va_P (dC, dI) vwCl (wM ad cB cI cZ cL m_thrown m_today m_legs m_feeds m_taped m_point m_end m_begin m_faultAt m_farm m_pig m_begun m_first m_weight m_salted m_heat m_isBad m_isSold m_sealedFeed m_hook m_should m_on m_warmth m_damp m_isOpen m_fFarm m_fFrom m_fWhat m_fTold m_rule m_draft m_tape m_five m_those) H := by rw [← ht]; exact hB.1
      have hD : va_D A (wM ad cB cI cZ cL m_thrown m_today m_legs m_feeds m_taped m_point m_end m_begin m_faultAt m_farm m_pig m_begun m_first m_weight m_salted m_heat m_isBad m_isSold m_sealedFeed m_hook m_should m_on m_warmth m_damp m_isOpen m_fFarm m_fFrom m_fWhat m_fTold m_rule m_draft m_tape m_five m_those) := hB.2.2
      refine lv_if_eq (tgt := 24) hx hb dX8_blanks_8 (by decide) (fun c_2 => ?_) (fun c_2 => ?_)
      · have h := h.1 c_2
        refine lv_aload_n hx hb dX8_blanks_24 rfl (lv_at hl 0 rfl) ?_
        refine lv_aload_n hx hb dX8_blanks_25 rfl (lv_at hl 0 rfl) ?_
        refine va_get (D := (dC, dI)) (ci := 8) (v := .int m_point) (C := RX8) (T := TX8) (N := 34) hx hb hts hk_1 hown hK hP 0 wM_g0 rfl 28 (by decide) hk_0 (fun _ h9 => h9) rfl dX8_blanks_26 ?_
        refine va_put (D := (dC, dI)) (ci := 8) (v := .int m_point) (ty := .int) (C := RX8) (T := TX8) (N := 34) hx hb hts hk_1 tyX8 tyX8_ok nmX8 hown hK hP hD hS 0 wM_g0 rfl 30 (by decide) hk_2 (fun _ h9 => h9) rfl (by decide +kernel) rfl rfl (Nat.le_of_ble_eq_true rfl) dX8_blanks_29 (fun H locs hP2 hD2 hS => ?_)
        have hP : va_P (dC, dI) vwCl (wM ad cB cI cZ cL m_thrown m_today m_legs m_feeds m_taped m_point m_end m_point m_faultAt m_farm m_pig m_begun m_first m_weight m_salted m_heat m_isBad m_isSold m_sealedFeed m_hook m_should m_on m_warmth m_damp m_isOpen m_fFarm m_fFrom m_fWhat m_fTold m_rule m_draft m_tape m_five m_those) H := hP_eq (wM_p_m_begin) hP2
        have hD : va_D A (wM ad cB cI cZ cL m_thrown m_today m_legs m_feeds m_taped m_point m_end m_point m_faultAt m_farm m_pig m_begun m_first m_weight m_salted m_heat m_isBad m_isSold m_sealedFeed m_hook m_should m_on m_warmth m_damp m_isOpen m_fFarm m_fFrom m_fWhat m_fTold m_rule m_draft m_tape m_five m_those) := hD_eq (wM_p_m_begin) hD2
        exact W.vret hx hb hr (fun t ht hW => ⟨⟨(m_point, m_point), rfl, h, kB_mk hP hK hD ht hW.alike⟩, hS.F ht⟩) hS.2.2 dX8_blanks_32
      · have h := h.2 c_2
        refine lv_aload_n hx hb dX8_blanks_11 rfl (lv_at hl 0 rfl) ?_
        refine lv_dup hx hb dX8_blanks_12 rfl ?_
        refine va_get (D := (dC, dI)) (ci := 8) (v := .int m_point) (C := RX8) (T := TX8) (N := 34) hx hb hts hk_1 hown hK hP 0 wM_g0 rfl 28 (by decide) hk_0 (fun _ h9 => h9) rfl dX8_blanks_13 ?_
        refine lv_iconst (v := 1) hx hb dX8_blanks_16 (by decide) ?_
        refine lv_iadd hx hb dX8_blanks_17 ?_
        refine va_put (D := (dC, dI)) (ci := 8) (v := .int (m_point + 1)) (ty := .int) (C := RX8) (T := TX8) (N := 34) hx hb hts hk_1 tyX8 tyX8_ok nmX8 hown hK hP hD hS 0 wM_g0 rfl 28 (by decide) hk_0 (fun _ h9 => h9) rfl (by decide +kernel) rfl rfl (Nat.le_of_ble_eq_true rfl) dX8_blanks_18 (fun H locs hP2 hD2 hS => ?_)
        have hP : va_P (dC, dI) vwCl (wM ad cB cI cZ cL m_thrown m_today m_legs m_feeds m_taped (m_point + 1) m_end m_begin m_faultAt m_farm m_pig m_begun m_first m_weight m_salted m_heat m_isBad m_isSold m_sealedFeed m_hook m_should m_on m_warmth m_damp m_isOpen m_fFarm m_fFrom m_fWhat m_fTold m_rule m_draft m_tape m_five m_those) H := hP_eq (wM_p_m_point) hP2
        have hD : va_D A (wM ad cB cI cZ cL m_thrown m_today m_legs m_feeds m_taped (m_point + 1) m_end m_begin m_faultAt m_farm m_pig m_begun m_first m_weight m_salted m_heat m_isBad m_isSold m_sealedFeed m_hook m_should m_on m_warmth m_damp m_isOpen m_fFarm m_fFrom m_fWhat m_fTold m_rule m_draft m_tape m_five m_those) := hD_eq (wM_p_m_point) hD2
        refine lv_goto (tgt := 0) hx hb dX8_blanks_21 (by decide) ?_
        exact ih (m_point + 1) m_begin _ _ _ hP hD hS (lv_sub hl [0] rfl) h
  have hl := lv_entry ([.ref (ad 0)]) (n := 1) (Nat.le_of_ble_eq_true rfl)
  rw [lg_entry_eq]
  generalize (lg_sl ([.ref (ad 0)]) ++ List.replicate (1 - (lg_sl ([.ref (ad 0)])).length) Slot.unset).toArray = ls at hl ⊢
  have hl : lv_has ls 1 [(0, .ref (ad 0))] := hl
  unfold wp_M_X8_blanks at h
  obtain ⟨n_3, h⟩ := h
  exact hlp_M_X8_blanks_0 n_3 m_point m_begin _ _ _ hP hD hS (lv_sub hl [0] rfl) h
def bk_M_X8_isWord_60 (m_point : Int32) (m_begin : Int32) (m_tape : Nat → Int32)  (Q : Int32 → Prop) (K24 : Nat → Int32 → Int32 → Prop) (v1 : Nat) (v3 : Int32) (k0 : Int32) : Prop := K24 v1 k0 (v3 + 1)
def lp_M_X8_isWord_24 (m_point : Int32) (m_begin : Int32) (m_tape : Nat → Int32)  (Q : Int32 → Prop) : Nat → Nat → Int32 → Int32 → Prop
  | 0 => fun _ _ _ => False
  | n + 1 => fun v1 v2 v3 => ((v2 = 0 → (o01 v2 ∧ Q v2 )) ∧ (¬ (v2 = 0) → wp_M_J0_length_8abf5 (fun r_4 => ((r_4 ≤ v3 → (o01 v2 ∧ Q v2 )) ∧ (¬ (r_4 ≤ v3) → (vp_in (m_begin + v3) 400 ∧ wp_M_J0_charAt_5068e (fun r_7 => ((¬ (m_tape (m_begin + v3).toNatClampNeg) = r_7 → bk_M_X8_isWord_60 m_point m_begin m_tape Q (lp_M_X8_isWord_24 m_point m_begin m_tape Q n) v1 v3 0) ∧ ((m_tape (m_begin + v3).toNatClampNeg) = r_7 → bk_M_X8_isWord_60 m_point m_begin m_tape Q (lp_M_X8_isWord_24 m_point m_begin m_tape Q n) v1 v3 1))) v1 v3)))) v1))
def bk_M_X8_isWord_21 (m_point : Int32) (m_begin : Int32) (m_tape : Nat → Int32)  (Q : Int32 → Prop) (v1 : Nat) (k0 : Int32) : Prop := (∃ n_9, lp_M_X8_isWord_24 m_point m_begin m_tape Q n_9 v1 k0 0)
def wp_M_X8_isWord (m_point : Int32) (m_begin : Int32) (m_tape : Nat → Int32) (Q : Int32 → Prop) (p0 : Nat) : Prop := wp_M_J0_length_8abf5 (fun r_1 => ((¬ (m_point - m_begin) = r_1 → bk_M_X8_isWord_21 m_point m_begin m_tape Q p0 0) ∧ ((m_point - m_begin) = r_1 → bk_M_X8_isWord_21 m_point m_begin m_tape Q p0 1))) p0
def rm_M_X8_isWord : Room := { frames := 4, cells := 0, slots := 0, locals := 85 }
abbrev pq_M_X8_isWord (dC : Nat → ClassId) (dI : Nat → Nat → Nat) (ad : Nat → Nat) (cB cI cZ cL : ClassId) (A : Nat → Prop) (m_thrown m_today m_legs m_feeds m_taped m_point m_end m_begin m_faultAt : Int32) (m_farm m_pig m_begun m_first m_weight m_salted m_heat m_isBad m_isSold m_sealedFeed m_hook m_should m_on m_warmth m_damp m_isOpen m_fFarm m_fFrom m_fWhat m_fTold m_rule m_draft m_tape m_five m_those : Nat → Int32) (Q : Int32 → Prop) : Array Value → State → Outcome → State → Prop := va_Qi (fun (r : Int32) (u : Unit) => Q r ) (fun u t => kB dC dI A (wM ad cB cI cZ cL m_thrown m_today m_legs m_feeds m_taped m_point m_end m_begin m_faultAt m_farm m_pig m_begun m_first m_weight m_salted m_heat m_isBad m_isSold m_sealedFeed m_hook m_should m_on m_warmth m_damp m_isOpen m_fFarm m_fFrom m_fWhat m_fTold m_rule m_draft m_tape m_five m_those) (kTy cB cI cZ cL) t) A
set_option maxHeartbeats 4000000 in
set_option maxRecDepth 100000 in
theorem c_M_X8_isWord (l : Launch) (dC : Nat → ClassId) (dI : Nat → Nat → Nat) (ad : Nat → Nat) (cB cI cZ cL : ClassId) (A : Nat → Prop) (m_thrown m_today m_legs m_feeds m_taped m_point m_end m_begin m_faultAt : Int32) (m_farm m_pig m_begun m_first m_weight m_salted m_heat m_isBad m_isSold m_sealedFeed m_hook m_should m_on m_warmth m_damp m_isOpen m_fFarm m_fFrom m_fWhat m_fTold m_rule m_draft m_tape m_five m_those : Nat → Int32) (p0 : Nat) (hy_p0 : p0 < 5) (Q : Int32 → Prop) (h : wp_M_X8_isWord m_point m_begin m_tape Q p0) : Met l yX8_isWord wsX8_isWord rm_M_X8_isWord (va_Pc [.ref (ad 0), .ref (ad (40 + p0))] (kC dC dI ad A (wM ad cB cI cZ cL m_thrown m_today m_legs m_feeds m_taped m_point m_end m_begin m_faultAt m_farm m_pig m_begun m_first m_weight m_salted m_heat m_isBad m_isSold m_sealedFeed m_hook m_should m_on m_warmth m_damp m_isOpen m_fFarm m_fFrom m_fWhat m_fTold m_rule m_draft m_tape m_five m_those) (kTy cB cI cZ cL))) (pq_M_X8_isWord dC dI ad cB cI cZ cL A m_thrown m_today m_legs m_feeds m_taped m_point m_end m_begin m_faultAt m_farm m_pig m_begun m_first m_weight m_salted m_heat m_isBad m_isSold m_sealedFeed m_hook m_should m_on m_warmth m_damp m_isOpen m_fFarm m_fFrom m_fWhat m_fTold m_rule m_draft m_tape m_five m_those Q) 0 0 A := by
  refine Met.ofW (cc := cX8_isWord) (maxL := 4) (ret := (some .boolean)) (by decide) rfl ?_
  intro p e s m args below meth c s₁ B hml hv
  obtain ⟨rfl, hA, hP, hK, hD, hE⟩ := hv
  have hx := B.exec
  have hb := B.bytes
  have hr := B.returns
  have hts := atoms_spec (ws := wsX8_isWord) B.pre
  have hown : s.vm.findClass RX8 = some m.cls := findClass_of_methodNamed B.named
  have hlocks := B.notSynchronized
  have hS : va_S A s.heap s.heap [] := va_S.rf
  have hk_0 := hts (.fieldLink RX8 134 "HamCellarModel" "point" "I") (by decide +kernel)
  have hk_1 : ∀ w ∈ wsX80, w ∈ wsX8_isWord := by decide +kernel
  have hk_2 := hts (.fieldLink RX8 143 "HamCellarModel" "begin" "I") (by decide +kernel)
  have hk_3 := hts (.fieldLink RX8 81 "HamCellarModel" "tape" "[B") (by decide +kernel)
  have hbk_M_X8_isWord_60 : ∀ (K24 : Nat → Int32 → Int32 → Prop) (hK24 : ∀ (v1 : Nat) (v2 : Int32) (v3 : Int32) (hy_v1 : v1 < 5) (H : Heap) (locs : List Loc) (ls : Array Slot), va_P (dC, dI) vwCl (wM ad cB cI cZ cL m_thrown m_today m_legs m_feeds m_taped m_point m_end m_begin m_faultAt m_farm m_pig m_begun m_first m_weight m_salted m_heat m_isBad m_isSold m_sealedFeed m_hook m_should m_on m_warmth m_damp m_isOpen m_fFarm m_fFrom m_fWhat m_fTold m_rule m_draft m_tape m_five m_those) H → va_D A (wM ad cB cI cZ cL m_thrown m_today m_legs m_feeds m_taped m_point m_end m_begin m_faultAt m_farm m_pig m_begun m_first m_weight m_salted m_heat m_isBad m_isSold m_sealedFeed m_hook m_should m_on m_warmth m_damp m_isOpen m_fFarm m_fFrom m_fWhat m_fTold m_rule m_draft m_tape m_five m_those) → va_S A s.heap H locs → lv_has ls 4 [(0, .ref (ad 0)), (1, .ref (ad (40 + v1))), (2, .int v2), (3, .int v3)] → K24 v1 v2 v3 → W p l e (headSpec wsX8_isWord rm_M_X8_isWord).room s m ([.ref (ad 0), .ref (ad (40 + p0))] : List Value).toArray below meth c H locs 0 0 (MQ below (pq_M_X8_isWord dC dI ad cB cI cZ cL A m_thrown m_today m_legs m_feeds m_taped m_point m_end m_begin m_faultAt m_farm m_pig m_begun m_first m_weight m_salted m_heat m_isBad m_isSold m_sealedFeed m_hook m_should m_on m_warmth m_damp m_isOpen m_fFarm m_fFrom m_fWhat m_fTold m_rule m_draft m_tape m_five m_those Q) ([.ref (ad 0), .ref (ad (40 + p0))] : List Value).toArray s 0 0 A) (F0 m 24 ls [])) (v1 : Nat) (v3 : Int32) (k0 : Int32) (hy_v1 : v1 < 5) (H : Heap) (locs : List Loc) (ls : Array Slot), va_P (dC, dI) vwCl (wM ad cB cI cZ cL m_thrown m_today m_legs m_feeds m_taped m_point m_end m_begin m_faultAt m_farm m_pig m_begun m_first m_weight m_salted m_heat m_isBad m_isSold m_sealedFeed m_hook m_should m_on m_warmth m_damp m_isOpen m_fFarm m_fFrom m_fWhat m_fTold m_rule m_draft m_tape m_five m_those) H → va_D A (wM ad cB cI cZ cL m_thrown m_today m_legs m_feeds m_taped m_point m_end m_begin m_faultAt m_farm m_pig m_begun m_first m_weight m_salted m_heat m_isBad m_isSold m_sealedFeed m_hook m_should m_on m_warmth m_damp m_isOpen m_fFarm m_fFrom m_fWhat m_fTold m_rule m_draft m_tape m_five m_those) → va_S A s.heap H locs → lv_has ls 4 [(0, .ref (ad 0)), (1, .ref (ad (40 + v1))), (3, .int v3)] → bk_M_X8_isWord_60 m_point m_begin m_tape Q K24 v1 v3 k0 → W p l e (headSpec wsX8_isWord rm_M_X8_isWord).room s m ([.ref (ad 0), .ref (ad (40 + p0))] : List Value).toArray below meth c H locs 0 0 (MQ below (pq_M_X8_isWord dC dI ad cB cI cZ cL A m_thrown m_today m_legs m_feeds m_taped m_point m_end m_begin m_faultAt m_farm m_pig m_begun m_first m_weight m_salted m_heat m_isBad m_isSold m_sealedFeed m_hook m_should m_on m_warmth m_damp m_isOpen m_fFarm m_fFrom m_fWhat m_fTold m_rule m_draft m_tape m_five m_those Q) ([.ref (ad 0), .ref (ad (40 + p0))] : List Value).toArray s 0 0 A) (F0 m 60 ls [.int k0]) := by
    intro K24 hK24 v1 v3 k0 hy_v1 H locs ls hP hD hS hl h
    refine lv_istore_n (lv' := [(2, .int k0), (0, .ref (ad 0)), (1, .ref (ad (40 + v1))), (3, .int v3)]) hx hb dX8_isWord_60 rfl hl (by decide) rfl (fun ls hl => ?_)
    refine lv_iinc (v := v3 + 1) (lv' := [(3, .int (v3 + 1)), (2, .int k0), (0, .ref (ad 0)), (1, .ref (ad (40 + v1)))]) hx hb dX8_isWord_61 hl (k := 3) rfl rfl (by decide) rfl (fun ls hl => ?_)
    refine lv_goto (tgt := 24) hx hb dX8_isWord_64 (by decide) ?_
    exact hK24 v1 k0 (v3 + 1) hy_v1 _ _ _ hP hD hS (lv_sub hl [2, 3, 1, 0] rfl) h
  have hlp_M_X8_isWord_24 : ∀ (n : Nat) (v1 : Nat) (v2 : Int32) (v3 : Int32) (hy_v1 : v1 < 5) (H : Heap) (locs : List Loc) (ls : Array Slot), va_P (dC, dI) vwCl (wM ad cB cI cZ cL m_thrown m_today m_legs m_feeds m_taped m_point m_end m_begin m_faultAt m_farm m_pig m_begun m_first m_weight m_salted m_heat m_isBad m_isSold m_sealedFeed m_hook m_should m_on m_warmth m_damp m_isOpen m_fFarm m_fFrom m_fWhat m_fTold m_rule m_draft m_tape m_five m_those) H → va_D A (wM ad cB cI cZ cL m_thrown m_today m_legs m_feeds m_taped m_point m_end m_begin m_faultAt m_farm m_pig m_begun m_first m_weight m_salted m_heat m_isBad m_isSold m_sealedFeed m_hook m_should m_on m_warmth m_damp m_isOpen m_fFarm m_fFrom m_fWhat m_fTold m_rule m_draft m_tape m_five m_those) → va_S A s.heap H locs → lv_has ls 4 [(0, .ref (ad 0)), (1, .ref (ad (40 + v1))), (2, .int v2), (3, .int v3)] → lp_M_X8_isWord_24 m_point m_begin m_tape Q n v1 v2 v3 → W p l e (headSpec wsX8_isWord rm_M_X8_isWord).room s m ([.ref (ad 0), .ref (ad (40 + p0))] : List Value).toArray below meth c H locs 0 0 (MQ below (pq_M_X8_isWord dC dI ad cB cI cZ cL A m_thrown m_today m_legs m_feeds m_taped m_point m_end m_begin m_faultAt m_farm m_pig m_begun m_first m_weight m_salted m_heat m_isBad m_isSold m_sealedFeed m_hook m_should m_on m_warmth m_damp m_isOpen m_fFarm m_fFrom m_fWhat m_fTold m_rule m_draft m_tape m_five m_those Q) ([.ref (ad 0), .ref (ad (40 + p0))] : List Value).toArray s 0 0 A) (F0 m 24 ls []) := by
    intro n
    induction n with
    | zero => intro v1 v2 v3 hy_v1 H locs ls hP hD hS hl h; exact h.elim
    | succ n ih =>
      intro v1 v2 v3 hy_v1 H locs ls hP hD hS hl h
      refine lv_iload_n hx hb dX8_isWord_24 rfl (lv_at hl 2 rfl) ?_
      refine lv_if_eq (tgt := 67) hx hb dX8_isWord_25 (by decide) (fun c_3 => ?_) (fun c_3 => ?_)
      · have h := h.1 c_3
        refine lv_iload_n hx hb dX8_isWord_67 rfl (lv_at hl 2 rfl) ?_
        exact W.zret (v := v2) (ty := .boolean) hx hb hr (z01 h.1) (fun t ht hW => ⟨⟨v2, (), rfl, h.2, kB_mk hP hK hD ht hW.alike⟩, hS.F ht⟩) hS.2.2 dX8_isWord_68
      · have h := h.2 c_3
        refine lv_iload_n hx hb dX8_isWord_28 rfl (lv_at hl 3 rfl) ?_
        refine lv_aload_n hx hb dX8_isWord_29 rfl (lv_at hl 1 rfl) ?_
        refine va_calli (va_runV (As := []) (rest := [.int v3]) ⟨hx, hb, hml, hown, hts⟩ (c_M_J0_length_8abf5 l dC dI ad cB cI cZ cL A m_thrown m_today m_legs m_feeds m_taped m_point m_end m_begin m_faultAt m_farm m_pig m_begun m_first m_weight m_salted m_heat m_isBad m_isSold m_sealedFeed m_hook m_should m_on m_warmth m_damp m_isOpen m_fFarm m_fFrom m_fWhat m_fTold m_rule m_draft m_tape m_five m_those v1 hy_v1 _ h) (cwV 0 hts gX8_isWord_J0_length_8abf5 rfl rfl rfl (by decide +kernel) ⟨(Nat.le_of_ble_eq_true rfl), (Nat.le_of_ble_eq_true rfl)⟩) ⟨kC_blind, kS_recv hE hS hy_v1, fun U hU hW => ⟨rfl, kC_go hA hS hP hK hD hE U hU hW⟩⟩ rfl rfl hl.1 rfl (lv_room (Nat.le_of_ble_eq_true rfl)) dX8_isWord_30 ⟨(Nat.le_of_ble_eq_true rfl), (Nat.le_of_ble_eq_true rfl)⟩) hS (fun q _ h => h) (fun q h => h) (fun r_4 u t H locs ht hvm hw hB hz1 hk1 hS => ?_)
        have h := hw
        try dsimp only at h
        have hP : va_P (dC, dI) vwCl (wM ad cB cI cZ cL m_thrown m_today m_legs m_feeds m_taped m_point m_end m_begin m_faultAt m_farm m_pig m_begun m_first m_weight m_salted m_heat m_isBad m_isSold m_sealedFeed m_hook m_should m_on m_warmth m_damp m_isOpen m_fFarm m_fFrom m_fWhat m_fTold m_rule m_draft m_tape m_five m_those) H := by rw [← ht]; exact hB.1
        have hD : va_D A (wM ad cB cI cZ cL m_thrown m_today m_legs m_feeds m_taped m_point m_end m_begin m_faultAt m_farm m_pig m_begun m_first m_weight m_salted m_heat m_isBad m_isSold m_sealedFeed m_hook m_should m_on m_warmth m_damp m_isOpen m_fFarm m_fFrom m_fWhat m_fTold m_rule m_draft m_tape m_five m_those) := hB.2.2
        refine lv_icmp_ge (tgt := 67) hx hb dX8_isWord_33 (by decide) (fun c_5 => ?_) (fun c_5 => ?_)
        · have h := h.1 c_5
          refine lv_iload_n hx hb dX8_isWord_67 rfl (lv_at hl 2 rfl) ?_
          exact W.zret (v := v2) (ty := .boolean) hx hb hr (z01 h.1) (fun t ht hW => ⟨⟨v2, (), rfl, h.2, kB_mk hP hK hD ht hW.alike⟩, hS.F ht⟩) hS.2.2 dX8_isWord_68
        · have h := h.2 c_5
          refine lv_aload_n hx hb dX8_isWord_36 rfl (lv_at hl 0 rfl) ?_
          refine va_get (D := (dC, dI)) (ci := 8) (v := .ref (ad 23)) (C := RX8) (T := TX8) (N := 34) hx hb hts hk_1 hown hK hP 0 wM_g0 rfl 26 (by decide) hk_3 (fun _ h9 => h9) rfl dX8_isWord_37 ?_
          refine lv_aload_n hx hb dX8_isWord_40 rfl (lv_at hl 0 rfl) ?_
          refine va_get (D := (dC, dI)) (ci := 8) (v := .int m_begin) (C := RX8) (T := TX8) (N := 34) hx hb hts hk_1 hown hK hP 0 wM_g0 rfl 30 (by decide) hk_2 (fun _ h9 => h9) rfl dX8_isWord_41 ?_
          refine lv_iload_n hx hb dX8_isWord_44 rfl (lv_at hl 3 rfl) ?_
          refine lv_iadd hx hb dX8_isWord_45 ?_
          have hi_6 := h.1
          have h := h.2
          refine va_bald hx hb hK hP 23 0 wM_g23 rfl hi_6 dX8_isWord_46 ?_
          refine lv_aload_n hx hb dX8_isWord_47 rfl (lv_at hl 1 rfl) ?_
          refine lv_iload_n hx hb dX8_isWord_48 rfl (lv_at hl 3 rfl) ?_
          refine va_calli (va_runV (As := [.int v3]) (rest := [.int (m_tape (m_begin + v3).toNatClampNeg)]) ⟨hx, hb, hml, hown, hts⟩ (c_M_J0_charAt_5068e l dC dI ad cB cI cZ cL A m_thrown m_today m_legs m_feeds m_taped m_point m_end m_begin m_faultAt m_farm m_pig m_begun m_first m_weight m_salted m_heat m_isBad m_isSold m_sealedFeed m_hook m_should m_on m_warmth m_damp m_isOpen m_fFarm m_fFrom m_fWhat m_fTold m_rule m_draft m_tape m_five m_those v1 v3 hy_v1 _ h) (cwV 1 hts gX8_isWord_J0_charAt_5068e rfl rfl rfl (by decide +kernel) ⟨(Nat.le_of_ble_eq_true rfl), (Nat.le_of_ble_eq_true rfl)⟩) ⟨kC_blind, kS_recv hE hS hy_v1, fun U hU hW => ⟨rfl, kC_go hA hS hP hK hD hE U hU hW⟩⟩ rfl rfl hl.1 rfl (lv_room (Nat.le_of_ble_eq_true rfl)) dX8_isWord_49 ⟨(Nat.le_of_ble_eq_true rfl), (Nat.le_of_ble_eq_true rfl)⟩) hS (fun q _ h => h) (fun q h => h) (fun r_7 u t H locs ht hvm hw hB hz1 hk1 hS => ?_)
          have h := hw
          try dsimp only at h
          have hP : va_P (dC, dI) vwCl (wM ad cB cI cZ cL m_thrown m_today m_legs m_feeds m_taped m_point m_end m_begin m_faultAt m_farm m_pig m_begun m_first m_weight m_salted m_heat m_isBad m_isSold m_sealedFeed m_hook m_should m_on m_warmth m_damp m_isOpen m_fFarm m_fFrom m_fWhat m_fTold m_rule m_draft m_tape m_five m_those) H := by rw [← ht]; exact hB.1
          have hD : va_D A (wM ad cB cI cZ cL m_thrown m_today m_legs m_feeds m_taped m_point m_end m_begin m_faultAt m_farm m_pig m_begun m_first m_weight m_salted m_heat m_isBad m_isSold m_sealedFeed m_hook m_should m_on m_warmth m_damp m_isOpen m_fFarm m_fFrom m_fWhat m_fTold m_rule m_draft m_tape m_five m_those) := hB.2.2
          refine lv_icmp_ne (tgt := 59) hx hb dX8_isWord_52 (by decide) (fun c_8 => ?_) (fun c_8 => ?_)
          · have h := h.1 c_8
            refine lv_iconst (v := 0) hx hb dX8_isWord_59 (by decide) ?_
            exact hbk_M_X8_isWord_60 (lp_M_X8_isWord_24 m_point m_begin m_tape Q n) ih v1 v3 0 hy_v1 _ _ _ hP hD hS (lv_sub hl [0, 1, 3] rfl) h
          · have h := h.2 c_8
            refine lv_iconst (v := 1) hx hb dX8_isWord_55 (by decide) ?_
            refine lv_goto (tgt := 60) hx hb dX8_isWord_56 (by decide) ?_
            exact hbk_M_X8_isWord_60 (lp_M_X8_isWord_24 m_point m_begin m_tape Q n) ih v1 v3 1 hy_v1 _ _ _ hP hD hS (lv_sub hl [0, 1, 3] rfl) h
  have hbk_M_X8_isWord_21 : ∀ (v1 : Nat) (k0 : Int32) (hy_v1 : v1 < 5) (H : Heap) (locs : List Loc) (ls : Array Slot), va_P (dC, dI) vwCl (wM ad cB cI cZ cL m_thrown m_today m_legs m_feeds m_taped m_point m_end m_begin m_faultAt m_farm m_pig m_begun m_first m_weight m_salted m_heat m_isBad m_isSold m_sealedFeed m_hook m_should m_on m_warmth m_damp m_isOpen m_fFarm m_fFrom m_fWhat m_fTold m_rule m_draft m_tape m_five m_those) H → va_D A (wM ad cB cI cZ cL m_thrown m_today m_legs m_feeds m_taped m_point m_end m_begin m_faultAt m_farm m_pig m_begun m_first m_weight m_salted m_heat m_isBad m_isSold m_sealedFeed m_hook m_should m_on m_warmth m_damp m_isOpen m_fFarm m_fFrom m_fWhat m_fTold m_rule m_draft m_tape m_five m_those) → va_S A s.heap H locs → lv_has ls 4 [(0, .ref (ad 0)), (1, .ref (ad (40 + v1)))] → bk_M_X8_isWord_21 m_point m_begin m_tape Q v1 k0 → W p l e (headSpec wsX8_isWord rm_M_X8_isWord).room s m ([.ref (ad 0), .ref (ad (40 + p0))] : List Value).toArray below meth c H locs 0 0 (MQ below (pq_M_X8_isWord dC dI ad cB cI cZ cL A m_thrown m_today m_legs m_feeds m_taped m_point m_end m_begin m_faultAt m_farm m_pig m_begun m_first m_weight m_salted m_heat m_isBad m_isSold m_sealedFeed m_hook m_should m_on m_warmth m_damp m_isOpen m_fFarm m_fFrom m_fWhat m_fTold m_rule m_draft m_tape m_five m_those Q) ([.ref (ad 0), .ref (ad (40 + p0))] : List Value).toArray s 0 0 A) (F0 m 21 ls [.int k0]) := by
    intro v1 k0 hy_v1 H locs ls hP hD hS hl h
    refine lv_istore_n (lv' := [(2, .int k0), (0, .ref (ad 0)), (1, .ref (ad (40 + v1)))]) hx hb dX8_isWord_21 rfl hl (by decide) rfl (fun ls hl => ?_)
    refine lv_iconst (v := 0) hx hb dX8_isWord_22 (by decide) ?_
    refine lv_istore_n (lv' := [(3, .int 0), (2, .int k0), (0, .ref (ad 0)), (1, .ref (ad (40 + v1)))]) hx hb dX8_isWord_23 rfl hl (by decide) rfl (fun ls hl => ?_)
    obtain ⟨n_9, h⟩ := h
    exact hlp_M_X8_isWord_24 n_9 v1 k0 0 hy_v1 _ _ _ hP hD hS (lv_sub hl [2, 3, 1, 0] rfl) h
  have hl := lv_entry ([.ref (ad 0), .ref (ad (40 + p0))]) (n := 4) (Nat.le_of_ble_eq_true rfl)
  rw [lg_entry_eq]
  generalize (lg_sl ([.ref (ad 0), .ref (ad (40 + p0))]) ++ List.replicate (4 - (lg_sl ([.ref (ad 0), .ref (ad (40 + p0))])).length) Slot.unset).toArray = ls at hl ⊢
  have hl : lv_has ls 4 [(0, .ref (ad 0)), (1, .ref (ad (40 + p0)))] := hl
  unfold wp_M_X8_isWord at h
  refine lv_aload_n hx hb dX8_isWord_0 rfl (lv_at hl 0 rfl) ?_
  refine va_get (D := (dC, dI)) (ci := 8) (v := .int m_point) (C := RX8) (T := TX8) (N := 34) hx hb hts hk_1 hown hK hP 0 wM_g0 rfl 28 (by decide) hk_0 (fun _ h9 => h9) rfl dX8_isWord_1 ?_
  refine lv_aload_n hx hb dX8_isWord_4 rfl (lv_at hl 0 rfl) ?_
  refine va_get (D := (dC, dI)) (ci := 8) (v := .int m_begin) (C := RX8) (T := TX8) (N := 34) hx hb hts hk_1 hown hK hP 0 wM_g0 rfl 30 (by decide) hk_2 (fun _ h9 => h9) rfl dX8_isWord_5 ?_
  refine lv_isub hx hb dX8_isWord_8 ?_
  refine lv_aload_n hx hb dX8_isWord_9 rfl (lv_at hl 1 rfl) ?_
  refine va_calli (va_runV (As := []) (rest := [.int (m_point - m_begin)]) ⟨hx, hb, hml, hown, hts⟩ (c_M_J0_length_8abf5 l dC dI ad cB cI cZ cL A m_thrown m_today m_legs m_feeds m_taped m_point m_end m_begin m_faultAt m_farm m_pig m_begun m_first m_weight m_salted m_heat m_isBad m_isSold m_sealedFeed m_hook m_should m_on m_warmth m_damp m_isOpen m_fFarm m_fFrom m_fWhat m_fTold m_rule m_draft m_tape m_five m_those p0 hy_p0 _ h) (cwV 0 hts gX8_isWord_J0_length_8abf5 rfl rfl rfl (by decide +kernel) ⟨(Nat.le_of_ble_eq_true rfl), (Nat.le_of_ble_eq_true rfl)⟩) ⟨kC_blind, kS_recv hE hS hy_p0, fun U hU hW => ⟨rfl, kC_go hA hS hP hK hD hE U hU hW⟩⟩ rfl rfl hl.1 rfl (lv_room (Nat.le_of_ble_eq_true rfl)) dX8_isWord_10 ⟨(Nat.le_of_ble_eq_true rfl), (Nat.le_of_ble_eq_true rfl)⟩) hS (fun q _ h => h) (fun q h => h) (fun r_1 u t H locs ht hvm hw hB hz1 hk1 hS => ?_)
  have h := hw
  try dsimp only at h
  have hP : va_P (dC, dI) vwCl (wM ad cB cI cZ cL m_thrown m_today m_legs m_feeds m_taped m_point m_end m_begin m_faultAt m_farm m_pig m_begun m_first m_weight m_salted m_heat m_isBad m_isSold m_sealedFeed m_hook m_should m_on m_warmth m_damp m_isOpen m_fFarm m_fFrom m_fWhat m_fTold m_rule m_draft m_tape m_five m_those) H := by rw [← ht]; exact hB.1
  have hD : va_D A (wM ad cB cI cZ cL m_thrown m_today m_legs m_feeds m_taped m_point m_end m_begin m_faultAt m_farm m_pig m_begun m_first m_weight m_salted m_heat m_isBad m_isSold m_sealedFeed m_hook m_should m_on m_warmth m_damp m_isOpen m_fFarm m_fFrom m_fWhat m_fTold m_rule m_draft m_tape m_five m_those) := hB.2.2
  refine lv_icmp_ne (tgt := 20) hx hb dX8_isWord_13 (by decide) (fun c_2 => ?_) (fun c_2 => ?_)
  · have h := h.1 c_2
    refine lv_iconst (v := 0) hx hb dX8_isWord_20 (by decide) ?_
    exact hbk_M_X8_isWord_21 p0 0 hy_p0 _ _ _ hP hD hS (lv_sub hl [0, 1] rfl) h
  · have h := h.2 c_2
    refine lv_iconst (v := 1) hx hb dX8_isWord_16 (by decide) ?_
    refine lv_goto (tgt := 21) hx hb dX8_isWord_17 (by decide) ?_
    exact hbk_M_X8_isWord_21 p0 1 hy_p0 _ _ _ hP hD hS (lv_sub hl [0, 1] rfl) h
def bk_M_X8_number_51 (m_end : Int32) (m_tape : Nat → Int32)  (Q : Int32 → Int32 → Int32 → (Nat → Int32) → Prop) (K6 : Int32 → Int32 → (Nat → Int32) → Int32 → Int32 → Int32 → Prop) (m_point : Int32) (m_begin : Int32) (m_draft : Nat → Int32) (v1 : Int32) (v2 : Int32) (k0 : Int32) : Prop := K6 (m_point + 1) m_begin m_draft v1 v2 k0
def lp_M_X8_number_6 (m_end : Int32) (m_tape : Nat → Int32)  (Q : Int32 → Int32 → Int32 → (Nat → Int32) → Prop) : Nat → Int32 → Int32 → (Nat → Int32) → Int32 → Int32 → Int32 → Prop
  | 0 => fun _ _ _ _ _ _ => False
  | n + 1 => fun m_point m_begin m_draft v1 v2 v3 => wp_M_X8_isAt m_point m_end m_tape (fun r_2 => ((r_2 = 0 → (vp_in v1 5 ∧ ((m_point ≤ m_begin → (o01 0 ∧ Q 0 m_point m_begin (upd m_draft v1.toNatClampNeg v3))) ∧ (¬ (m_point ≤ m_begin) → ((6 ≤ (m_point - m_begin) → (o01 0 ∧ Q 0 m_point m_begin (upd m_draft v1.toNatClampNeg v3))) ∧ (¬ (6 ≤ (m_point - m_begin)) → ((v2 < v3 → (o01 0 ∧ Q 0 m_point m_begin (upd m_draft v1.toNatClampNeg v3))) ∧ (¬ (v2 < v3) → (o01 1 ∧ Q 1 m_point m_begin (upd m_draft v1.toNatClampNeg v3)))))))))) ∧ (¬ (r_2 = 0) → ((5 ≤ (m_point - m_begin) → bk_M_X8_number_51 m_end m_tape Q (lp_M_X8_number_6 m_end m_tape Q n) m_point m_begin m_draft v1 v2 v3) ∧ (¬ (5 ≤ (m_point - m_begin)) → (vp_in m_point 400 ∧ bk_M_X8_number_51 m_end m_tape Q (lp_M_X8_number_6 m_end m_tape Q n) m_point m_begin m_draft v1 v2 (((10 * v3) + (m_tape m_point.toNatClampNeg)) - 48))))))) 48 57
def wp_M_X8_number (m_end : Int32) (m_tape : Nat → Int32) (Q : Int32 → Int32 → Int32 → (Nat → Int32) → Prop) (m_point : Int32) (m_begin : Int32) (m_draft : Nat → Int32) (p0 : Int32) (p1 : Int32) : Prop := wp_M_X8_blanks m_end m_tape (fun m_point_1 m_begin_1 => (∃ n_10, lp_M_X8_number_6 m_end m_tape Q n_10 m_point_1 m_begin_1 m_draft p0 p1 0)) m_point m_begin
def rm_M_X8_number : Room := { frames := 2, cells := 0, slots := 0, locals := 42 }
abbrev pq_M_X8_number (dC : Nat → ClassId) (dI : Nat → Nat → Nat) (ad : Nat → Nat) (cB cI cZ cL : ClassId) (A : Nat → Prop) (m_thrown m_today m_legs m_feeds m_taped m_point m_end m_begin m_faultAt : Int32) (m_farm m_pig m_begun m_first m_weight m_salted m_heat m_isBad m_isSold m_sealedFeed m_hook m_should m_on m_warmth m_damp m_isOpen m_fFarm m_fFrom m_fWhat m_fTold m_rule m_draft m_tape m_five m_those : Nat → Int32) (Q : Int32 → Int32 → Int32 → (Nat → Int32) → Prop) : Array Value → State → Outcome → State → Prop := va_Qi (fun (r : Int32) (u : Int32 × Int32 × (Nat → Int32)) => Q r u.1 u.2.1 u.2.2) (fun u t => kB dC dI A (wM ad cB cI cZ cL m_thrown m_today m_legs m_feeds m_taped u.1 m_end u.2.1 m_faultAt m_farm m_pig m_begun m_first m_weight m_salted m_heat m_isBad m_isSold m_sealedFeed m_hook m_should m_on m_warmth m_damp m_isOpen m_fFarm m_fFrom m_fWhat m_fTold m_rule u.2.2 m_tape m_five m_those) (kTy cB cI cZ cL) t) A
set_option maxHeartbeats 4000000 in
set_option maxRecDepth 100000 in
theorem c_M_X8_number (l : Launch) (dC : Nat → ClassId) (dI : Nat → Nat → Nat) (ad : Nat → Nat) (cB cI cZ cL : ClassId) (A : Nat → Prop) (m_thrown m_today m_legs m_feeds m_taped m_point m_end m_begin m_faultAt : Int32) (m_farm m_pig m_begun m_first m_weight m_salted m_heat m_isBad m_isSold m_sealedFeed m_hook m_should m_on m_warmth m_damp m_isOpen m_fFarm m_fFrom m_fWhat m_fTold m_rule m_draft m_tape m_five m_those : Nat → Int32) (p0 : Int32) (p1 : Int32)  (Q : Int32 → Int32 → Int32 → (Nat → Int32) → Prop) (h : wp_M_X8_number m_end m_tape Q m_point m_begin m_draft p0 p1) : Met l yX8_number wsX8_number rm_M_X8_number (va_Pc [.ref (ad 0), .int p0, .int p1] (kC dC dI ad A (wM ad cB cI cZ cL m_thrown m_today m_legs m_feeds m_taped m_point m_end m_begin m_faultAt m_farm m_pig m_begun m_first m_weight m_salted m_heat m_isBad m_isSold m_sealedFeed m_hook m_should m_on m_warmth m_damp m_isOpen m_fFarm m_fFrom m_fWhat m_fTold m_rule m_draft m_tape m_five m_those) (kTy cB cI cZ cL))) (pq_M_X8_number dC dI ad cB cI cZ cL A m_thrown m_today m_legs m_feeds m_taped m_point m_end m_begin m_faultAt m_farm m_pig m_begun m_first m_weight m_salted m_heat m_isBad m_isSold m_sealedFeed m_hook m_should m_on m_warmth m_damp m_isOpen m_fFarm m_fFrom m_fWhat m_fTold m_rule m_draft m_tape m_five m_those Q) 0 0 A := by
  refine Met.ofW (cc := cX8_number) (maxL := 4) (ret := (some .boolean)) (by decide) rfl ?_
  intro p e s m args below meth c s₁ B hml hv
  obtain ⟨rfl, hA, hP, hK, hD, hE⟩ := hv
  have hx := B.exec
  have hb := B.bytes
  have hr := B.returns
  have hts := atoms_spec (ws := wsX8_number) B.pre
  have hown : s.vm.findClass RX8 = some m.cls := findClass_of_methodNamed B.named
  have hlocks := B.notSynchronized
  have hS : va_S A s.heap s.heap [] := va_S.rf
  have hk_0 := hts (.fieldLink RX8 78 "HamCellarModel" "draft" "[I") (by decide +kernel)
  have hk_1 : ∀ w ∈ wsX80, w ∈ wsX8_number := by decide +kernel
  have hk_2 := hts (.fieldLink RX8 134 "HamCellarModel" "point" "I") (by decide +kernel)
  have hk_3 := hts (.fieldLink RX8 143 "HamCellarModel" "begin" "I") (by decide +kernel)
  have hk_4 := hts (.fieldLink RX8 81 "HamCellarModel" "tape" "[B") (by decide +kernel)
  have hbk_M_X8_number_51 : ∀ (K6 : Int32 → Int32 → (Nat → Int32) → Int32 → Int32 → Int32 → Prop) (hK6 : ∀ (m_point : Int32) (m_begin : Int32) (m_draft : Nat → Int32) (v1 : Int32) (v2 : Int32) (v3 : Int32) (H : Heap) (locs : List Loc) (ls : Array Slot), va_P (dC, dI) vwCl (wM ad cB cI cZ cL m_thrown m_today m_legs m_feeds m_taped m_point m_end m_begin m_faultAt m_farm m_pig m_begun m_first m_weight m_salted m_heat m_isBad m_isSold m_sealedFeed m_hook m_should m_on m_warmth m_damp m_isOpen m_fFarm m_fFrom m_fWhat m_fTold m_rule m_draft m_tape m_five m_those) H → va_D A (wM ad cB cI cZ cL m_thrown m_today m_legs m_feeds m_taped m_point m_end m_begin m_faultAt m_farm m_pig m_begun m_first m_weight m_salted m_heat m_isBad m_isSold m_sealedFeed m_hook m_should m_on m_warmth m_damp m_isOpen m_fFarm m_fFrom m_fWhat m_fTold m_rule m_draft m_tape m_five m_those) → va_S A s.heap H locs → lv_has ls 4 [(0, .ref (ad 0)), (1, .int v1), (2, .int v2), (3, .int v3)] → K6 m_point m_begin m_draft v1 v2 v3 → W p l e (headSpec wsX8_number rm_M_X8_number).room s m ([.ref (ad 0), .int p0, .int p1] : List Value).toArray below meth c H locs 0 0 (MQ below (pq_M_X8_number dC dI ad cB cI cZ cL A m_thrown m_today m_legs m_feeds m_taped m_point m_end m_begin m_faultAt m_farm m_pig m_begun m_first m_weight m_salted m_heat m_isBad m_isSold m_sealedFeed m_hook m_should m_on m_warmth m_damp m_isOpen m_fFarm m_fFrom m_fWhat m_fTold m_rule m_draft m_tape m_five m_those Q) ([.ref (ad 0), .int p0, .int p1] : List Value).toArray s 0 0 A) (F0 m 6 ls [])) (m_point : Int32) (m_begin : Int32) (m_draft : Nat → Int32) (v1 : Int32) (v2 : Int32) (k0 : Int32) (H : Heap) (locs : List Loc) (ls : Array Slot), va_P (dC, dI) vwCl (wM ad cB cI cZ cL m_thrown m_today m_legs m_feeds m_taped m_point m_end m_begin m_faultAt m_farm m_pig m_begun m_first m_weight m_salted m_heat m_isBad m_isSold m_sealedFeed m_hook m_should m_on m_warmth m_damp m_isOpen m_fFarm m_fFrom m_fWhat m_fTold m_rule m_draft m_tape m_five m_those) H → va_D A (wM ad cB cI cZ cL m_thrown m_today m_legs m_feeds m_taped m_point m_end m_begin m_faultAt m_farm m_pig m_begun m_first m_weight m_salted m_heat m_isBad m_isSold m_sealedFeed m_hook m_should m_on m_warmth m_damp m_isOpen m_fFarm m_fFrom m_fWhat m_fTold m_rule m_draft m_tape m_five m_those) → va_S A s.heap H locs → lv_has ls 4 [(0, .ref (ad 0)), (1, .int v1), (2, .int v2)] → bk_M_X8_number_51 m_end m_tape Q K6 m_point m_begin m_draft v1 v2 k0 → W p l e (headSpec wsX8_number rm_M_X8_number).room s m ([.ref (ad 0), .int p0, .int p1] : List Value).toArray below meth c H locs 0 0 (MQ below (pq_M_X8_number dC dI ad cB cI cZ cL A m_thrown m_today m_legs m_feeds m_taped m_point m_end m_begin m_faultAt m_farm m_pig m_begun m_first m_weight m_salted m_heat m_isBad m_isSold m_sealedFeed m_hook m_should m_on m_warmth m_damp m_isOpen m_fFarm m_fFrom m_fWhat m_fTold m_rule m_draft m_tape m_five m_those Q) ([.ref (ad 0), .int p0, .int p1] : List Value).toArray s 0 0 A) (F0 m 51 ls [.int k0]) := by
    intro K6 hK6 m_point m_begin m_draft v1 v2 k0 H locs ls hP hD hS hl h
    refine lv_istore_n (lv' := [(3, .int k0), (0, .ref (ad 0)), (1, .int v1), (2, .int v2)]) hx hb dX8_number_51 rfl hl (by decide) rfl (fun ls hl => ?_)
    refine lv_aload_n hx hb dX8_number_52 rfl (lv_at hl 1 rfl) ?_
    refine lv_dup hx hb dX8_number_53 rfl ?_
    refine va_get (D := (dC, dI)) (ci := 8) (v := .int m_point) (C := RX8) (T := TX8) (N := 34) hx hb hts hk_1 hown hK hP 0 wM_g0 rfl 28 (by decide) hk_2 (fun _ h9 => h9) rfl dX8_number_54 ?_
    refine lv_iconst (v := 1) hx hb dX8_number_57 (by decide) ?_
    refine lv_iadd hx hb dX8_number_58 ?_
    refine va_put (D := (dC, dI)) (ci := 8) (v := .int (m_point + 1)) (ty := .int) (C := RX8) (T := TX8) (N := 34) hx hb hts hk_1 tyX8 tyX8_ok nmX8 hown hK hP hD hS 0 wM_g0 rfl 28 (by decide) hk_2 (fun _ h9 => h9) rfl (by decide +kernel) rfl rfl (Nat.le_of_ble_eq_true rfl) dX8_number_59 (fun H locs hP2 hD2 hS => ?_)
    have hP : va_P (dC, dI) vwCl (wM ad cB cI cZ cL m_thrown m_today m_legs m_feeds m_taped (m_point + 1) m_end m_begin m_faultAt m_farm m_pig m_begun m_first m_weight m_salted m_heat m_isBad m_isSold m_sealedFeed m_hook m_should m_on m_warmth m_damp m_isOpen m_fFarm m_fFrom m_fWhat m_fTold m_rule m_draft m_tape m_five m_those) H := hP_eq (wM_p_m_point) hP2
    have hD : va_D A (wM ad cB cI cZ cL m_thrown m_today m_legs m_feeds m_taped (m_point + 1) m_end m_begin m_faultAt m_farm m_pig m_begun m_first m_weight m_salted m_heat m_isBad m_isSold m_sealedFeed m_hook m_should m_on m_warmth m_damp m_isOpen m_fFarm m_fFrom m_fWhat m_fTold m_rule m_draft m_tape m_five m_those) := hD_eq (wM_p_m_point) hD2
    refine lv_goto (tgt := 6) hx hb dX8_number_62 (by decide) ?_
    exact hK6 (m_point + 1) m_begin m_draft v1 v2 k0 _ _ _ hP hD hS (lv_sub hl [1, 2, 3, 0] rfl) h
  have hlp_M_X8_number_6 : ∀ (n : Nat) (m_point : Int32) (m_begin : Int32) (m_draft : Nat → Int32) (v1 : Int32) (v2 : Int32) (v3 : Int32) (H : Heap) (locs : List Loc) (ls : Array Slot), va_P (dC, dI) vwCl (wM ad cB cI cZ cL m_thrown m_today m_legs m_feeds m_taped m_point m_end m_begin m_faultAt m_farm m_pig m_begun m_first m_weight m_salted m_heat m_isBad m_isSold m_sealedFeed m_hook m_should m_on m_warmth m_damp m_isOpen m_fFarm m_fFrom m_fWhat m_fTold m_rule m_draft m_tape m_five m_those) H → va_D A (wM ad cB cI cZ cL m_thrown m_today m_legs m_feeds m_taped m_point m_end m_begin m_faultAt m_farm m_pig m_begun m_first m_weight m_salted m_heat m_isBad m_isSold m_sealedFeed m_hook m_should m_on m_warmth m_damp m_isOpen m_fFarm m_fFrom m_fWhat m_fTold m_rule m_draft m_tape m_five m_those) → va_S A s.heap H locs → lv_has ls 4 [(0, .ref (ad 0)), (1, .int v1), (2, .int v2), (3, .int v3)] → lp_M_X8_number_6 m_end m_tape Q n m_point m_begin m_draft v1 v2 v3 → W p l e (headSpec wsX8_number rm_M_X8_number).room s m ([.ref (ad 0), .int p0, .int p1] : List Value).toArray below meth c H locs 0 0 (MQ below (pq_M_X8_number dC dI ad cB cI cZ cL A m_thrown m_today m_legs m_feeds m_taped m_point m_end m_begin m_faultAt m_farm m_pig m_begun m_first m_weight m_salted m_heat m_isBad m_isSold m_sealedFeed m_hook m_should m_on m_warmth m_damp m_isOpen m_fFarm m_fFrom m_fWhat m_fTold m_rule m_draft m_tape m_five m_those Q) ([.ref (ad 0), .int p0, .int p1] : List Value).toArray s 0 0 A) (F0 m 6 ls []) := by
    intro n
    induction n with
    | zero => intro m_point m_begin m_draft v1 v2 v3 H locs ls hP hD hS hl h; exact h.elim
    | succ n ih =>
      intro m_point m_begin m_draft v1 v2 v3 H locs ls hP hD hS hl h
      have h : wp_M_X8_isAt m_point m_end m_tape (fun r_2 => ((r_2 = 0 → (vp_in v1 5 ∧ ((m_point ≤ m_begin → (o01 0 ∧ Q 0 m_point m_begin (upd m_draft v1.toNatClampNeg v3))) ∧ (¬ (m_point ≤ m_begin) → ((6 ≤ (m_point - m_begin) → (o01 0 ∧ Q 0 m_point m_begin (upd m_draft v1.toNatClampNeg v3))) ∧ (¬ (6 ≤ (m_point - m_begin)) → ((v2 < v3 → (o01 0 ∧ Q 0 m_point m_begin (upd m_draft v1.toNatClampNeg v3))) ∧ (¬ (v2 < v3) → (o01 1 ∧ Q 1 m_point m_begin (upd m_draft v1.toNatClampNeg v3)))))))))) ∧ (¬ (r_2 = 0) → ((5 ≤ (m_point - m_begin) → bk_M_X8_number_51 m_end m_tape Q (lp_M_X8_number_6 m_end m_tape Q n) m_point m_begin m_draft v1 v2 v3) ∧ (¬ (5 ≤ (m_point - m_begin)) → (vp_in m_point 400 ∧ bk_M_X8_number_51 m_end m_tape Q (lp_M_X8_number_6 m_end m_tape Q n) m_point m_begin m_draft v1 v2 (((10 * v3) + (m_tape m_point.toNatClampNeg)) - 48))))))) 48 57 := h
      refine lv_aload_n hx hb dX8_number_6 rfl (lv_at hl 0 rfl) ?_
      refine lv_bipush (v := 48) hx hb dX8_number_7 (by decide) ?_
      refine lv_bipush (v := 57) hx hb dX8_number_9 (by decide) ?_
      refine va_calli (va_runV (As := [.int 48, .int 57]) (rest := []) ⟨hx, hb, hml, hown, hts⟩ (c_M_X8_isAt l dC dI ad cB cI cZ cL A m_thrown m_today m_legs m_feeds m_taped m_point m_end m_begin m_faultAt m_farm m_pig m_begun m_first m_weight m_salted m_heat m_isBad m_isSold m_sealedFeed m_hook m_should m_on m_warmth m_damp m_isOpen m_fFarm m_fFrom m_fWhat m_fTold m_rule m_draft m_tape m_five m_those 48 57 _ h) (cwV 2 hts gX8_number_X8_isAt rfl rfl rfl (by decide +kernel) ⟨(Nat.le_of_ble_eq_true rfl), (Nat.le_of_ble_eq_true rfl)⟩) ⟨kC_blind, va_recv hK hP (ci := 8) (q0 := 0) rfl wM_g0, fun U hU hW => ⟨rfl, kC_go hA hS hP hK hD hE U hU hW⟩⟩ rfl rfl hl.1 rfl (lv_room (Nat.le_of_ble_eq_true rfl)) dX8_number_11 ⟨(Nat.le_of_ble_eq_true rfl), (Nat.le_of_ble_eq_true rfl)⟩) hS (fun q _ h => h) (fun q h => h) (fun r_2 u t H locs ht hvm hw hB hz1 hk1 hS => ?_)
      have h := hw
      try dsimp only at h
      have hP : va_P (dC, dI) vwCl (wM ad cB cI cZ cL m_thrown m_today m_legs m_feeds m_taped m_point m_end m_begin m_faultAt m_farm m_pig m_begun m_first m_weight m_salted m_heat m_isBad m_isSold m_sealedFeed m_hook m_should m_on m_warmth m_damp m_isOpen m_fFarm m_fFrom m_fWhat m_fTold m_rule m_draft m_tape m_five m_those) H := by rw [← ht]; exact hB.1
      have hD : va_D A (wM ad cB cI cZ cL m_thrown m_today m_legs m_feeds m_taped m_point m_end m_begin m_faultAt m_farm m_pig m_begun m_first m_weight m_salted m_heat m_isBad m_isSold m_sealedFeed m_hook m_should m_on m_warmth m_damp m_isOpen m_fFarm m_fFrom m_fWhat m_fTold m_rule m_draft m_tape m_five m_those) := hB.2.2
      refine lv_if_eq (tgt := 65) hx hb dX8_number_14 (by decide) (fun c_3 => ?_) (fun c_3 => ?_)
      · have h := h.1 c_3
        refine lv_aload_n hx hb dX8_number_65 rfl (lv_at hl 0 rfl) ?_
        refine va_get (D := (dC, dI)) (ci := 8) (v := .ref (ad 22)) (C := RX8) (T := TX8) (N := 34) hx hb hts hk_1 hown hK hP 0 wM_g0 rfl 25 (by decide) hk_0 (fun _ h9 => h9) rfl dX8_number_66 ?_
        refine lv_iload_n hx hb dX8_number_69 rfl (lv_at hl 1 rfl) ?_
        refine lv_iload_n hx hb dX8_number_70 rfl (lv_at hl 3 rfl) ?_
        have hi_4 := h.1
        have h := h.2
        refine va_iast hx hb hK hP hD hS 22 1 wM_g22 rfl hi_4 dX8_number_71 (fun H locs hP2 hD2 hS => ?_)
        have hP : va_P (dC, dI) vwCl (wM ad cB cI cZ cL m_thrown m_today m_legs m_feeds m_taped m_point m_end m_begin m_faultAt m_farm m_pig m_begun m_first m_weight m_salted m_heat m_isBad m_isSold m_sealedFeed m_hook m_should m_on m_warmth m_damp m_isOpen m_fFarm m_fFrom m_fWhat m_fTold m_rule (upd m_draft v1.toNatClampNeg v3) m_tape m_five m_those) H := hP_eq (wM_p_m_draft) hP2
        have hD : va_D A (wM ad cB cI cZ cL m_thrown m_today m_legs m_feeds m_taped m_point m_end m_begin m_faultAt m_farm m_pig m_begun m_first m_weight m_salted m_heat m_isBad m_isSold m_sealedFeed m_hook m_should m_on m_warmth m_damp m_isOpen m_fFarm m_fFrom m_fWhat m_fTold m_rule (upd m_draft v1.toNatClampNeg v3) m_tape m_five m_those) := hD_eq (wM_p_m_draft) hD2
        refine lv_aload_n hx hb dX8_number_72 rfl (lv_at hl 0 rfl) ?_
        refine va_get (D := (dC, dI)) (ci := 8) (v := .int m_point) (C := RX8) (T := TX8) (N := 34) hx hb hts hk_1 hown hK hP 0 wM_g0 rfl 28 (by decide) hk_2 (fun _ h9 => h9) rfl dX8_number_73 ?_
        refine lv_aload_n hx hb dX8_number_76 rfl (lv_at hl 0 rfl) ?_
        refine va_get (D := (dC, dI)) (ci := 8) (v := .int m_begin) (C := RX8) (T := TX8) (N := 34) hx hb hts hk_1 hown hK hP 0 wM_g0 rfl 30 (by decide) hk_3 (fun _ h9 => h9) rfl dX8_number_77 ?_
        refine lv_icmp_le (tgt := 106) hx hb dX8_number_80 (by decide) (fun c_5 => ?_) (fun c_5 => ?_)
        · have h := h.1 c_5
          refine lv_iconst (v := 0) hx hb dX8_number_106 (by decide) ?_
          exact W.zret (v := 0) (ty := .boolean) hx hb hr (z01 h.1) (fun t ht hW => ⟨⟨0, (m_point, m_begin, upd m_draft v1.toNatClampNeg v3), rfl, h.2, kB_mk hP hK hD ht hW.alike⟩, hS.F ht⟩) hS.2.2 dX8_number_107
        · have h := h.2 c_5
          refine lv_aload_n hx hb dX8_number_83 rfl (lv_at hl 0 rfl) ?_
          refine va_get (D := (dC, dI)) (ci := 8) (v := .int m_point) (C := RX8) (T := TX8) (N := 34) hx hb hts hk_1 hown hK hP 0 wM_g0 rfl 28 (by decide) hk_2 (fun _ h9 => h9) rfl dX8_number_84 ?_
          refine lv_aload_n hx hb dX8_number_87 rfl (lv_at hl 0 rfl) ?_
          refine va_get (D := (dC, dI)) (ci := 8) (v := .int m_begin) (C := RX8) (T := TX8) (N := 34) hx hb hts hk_1 hown hK hP 0 wM_g0 rfl 30 (by decide) hk_3 (fun _ h9 => h9) rfl dX8_number_88 ?_
          refine lv_isub hx hb dX8_number_91 ?_
          refine lv_bipush (v := 6) hx hb dX8_number_92 (by decide) ?_
          refine lv_icmp_ge (tgt := 106) hx hb dX8_number_94 (by decide) (fun c_6 => ?_) (fun c_6 => ?_)
          · have h := h.1 c_6
            refine lv_iconst (v := 0) hx hb dX8_number_106 (by decide) ?_
            exact W.zret (v := 0) (ty := .boolean) hx hb hr (z01 h.1) (fun t ht hW => ⟨⟨0, (m_point, m_begin, upd m_draft v1.toNatClampNeg v3), rfl, h.2, kB_mk hP hK hD ht hW.alike⟩, hS.F ht⟩) hS.2.2 dX8_number_107
          · have h := h.2 c_6
            refine lv_iload_n hx hb dX8_number_97 rfl (lv_at hl 3 rfl) ?_
            refine lv_iload_n hx hb dX8_number_98 rfl (lv_at hl 2 rfl) ?_
            refine lv_icmp_gt (tgt := 106) hx hb dX8_number_99 (by decide) (fun c_7 => ?_) (fun c_7 => ?_)
            · have h := h.1 c_7
              refine lv_iconst (v := 0) hx hb dX8_number_106 (by decide) ?_
              exact W.zret (v := 0) (ty := .boolean) hx hb hr (z01 h.1) (fun t ht hW => ⟨⟨0, (m_point, m_begin, upd m_draft v1.toNatClampNeg v3), rfl, h.2, kB_mk hP hK hD ht hW.alike⟩, hS.F ht⟩) hS.2.2 dX8_number_107
            · have h := h.2 c_7
              refine lv_iconst (v := 1) hx hb dX8_number_102 (by decide) ?_
              refine lv_goto (tgt := 107) hx hb dX8_number_103 (by decide) ?_
              exact W.zret (v := 1) (ty := .boolean) hx hb hr (z01 h.1) (fun t ht hW => ⟨⟨1, (m_point, m_begin, upd m_draft v1.toNatClampNeg v3), rfl, h.2, kB_mk hP hK hD ht hW.alike⟩, hS.F ht⟩) hS.2.2 dX8_number_107
      · have h := h.2 c_3
        refine lv_aload_n hx hb dX8_number_17 rfl (lv_at hl 0 rfl) ?_
        refine va_get (D := (dC, dI)) (ci := 8) (v := .int m_point) (C := RX8) (T := TX8) (N := 34) hx hb hts hk_1 hown hK hP 0 wM_g0 rfl 28 (by decide) hk_2 (fun _ h9 => h9) rfl dX8_number_18 ?_
        refine lv_aload_n hx hb dX8_number_21 rfl (lv_at hl 0 rfl) ?_
        refine va_get (D := (dC, dI)) (ci := 8) (v := .int m_begin) (C := RX8) (T := TX8) (N := 34) hx hb hts hk_1 hown hK hP 0 wM_g0 rfl 30 (by decide) hk_3 (fun _ h9 => h9) rfl dX8_number_22 ?_
        refine lv_isub hx hb dX8_number_25 ?_
        refine lv_iconst (v := 5) hx hb dX8_number_26 (by decide) ?_
        refine lv_icmp_ge (tgt := 50) hx hb dX8_number_27 (by decide) (fun c_8 => ?_) (fun c_8 => ?_)
        · have h := h.1 c_8
          refine lv_iload_n hx hb dX8_number_50 rfl (lv_at hl 3 rfl) ?_
          exact hbk_M_X8_number_51 (lp_M_X8_number_6 m_end m_tape Q n) ih m_point m_begin m_draft v1 v2 v3 _ _ _ hP hD hS (lv_sub hl [0, 1, 2] rfl) h
        · have h := h.2 c_8
          refine lv_bipush (v := 10) hx hb dX8_number_30 (by decide) ?_
          refine lv_iload_n hx hb dX8_number_32 rfl (lv_at hl 3 rfl) ?_
          refine lv_imul hx hb dX8_number_33 ?_
          refine lv_aload_n hx hb dX8_number_34 rfl (lv_at hl 0 rfl) ?_
          refine va_get (D := (dC, dI)) (ci := 8) (v := .ref (ad 23)) (C := RX8) (T := TX8) (N := 34) hx hb hts hk_1 hown hK hP 0 wM_g0 rfl 26 (by decide) hk_4 (fun _ h9 => h9) rfl dX8_number_35 ?_
          refine lv_aload_n hx hb dX8_number_38 rfl (lv_at hl 0 rfl) ?_
          refine va_get (D := (dC, dI)) (ci := 8) (v := .int m_point) (C := RX8) (T := TX8) (N := 34) hx hb hts hk_1 hown hK hP 0 wM_g0 rfl 28 (by decide) hk_2 (fun _ h9 => h9) rfl dX8_number_39 ?_
          have hi_9 := h.1
          have h := h.2
          refine va_bald hx hb hK hP 23 0 wM_g23 rfl hi_9 dX8_number_42 ?_
          refine lv_iadd hx hb dX8_number_43 ?_
          refine lv_bipush (v := 48) hx hb dX8_number_44 (by decide) ?_
          refine lv_isub hx hb dX8_number_46 ?_
          refine lv_goto (tgt := 51) hx hb dX8_number_47 (by decide) ?_
          exact hbk_M_X8_number_51 (lp_M_X8_number_6 m_end m_tape Q n) ih m_point m_begin m_draft v1 v2 (((10 * v3) + (m_tape m_point.toNatClampNeg)) - 48) _ _ _ hP hD hS (lv_sub hl [0, 1, 2] rfl) h
  have hl := lv_entry ([.ref (ad 0), .int p0, .int p1]) (n := 4) (Nat.le_of_ble_eq_true rfl)
  rw [lg_entry_eq]
  generalize (lg_sl ([.ref (ad 0), .int p0, .int p1]) ++ List.replicate (4 - (lg_sl ([.ref (ad 0), .int p0, .int p1])).length) Slot.unset).toArray = ls at hl ⊢
  have hl : lv_has ls 4 [(0, .ref (ad 0)), (1, .int p0), (2, .int p1)] := hl
  unfold wp_M_X8_number at h
  refine lv_aload_n hx hb dX8_number_0 rfl (lv_at hl 0 rfl) ?_
  refine va_callv (va_runV (As := []) (rest := []) ⟨hx, hb, hml, hown, hts⟩ (c_M_X8_blanks l dC dI ad cB cI cZ cL A m_thrown m_today m_legs m_feeds m_taped m_point m_end m_begin m_faultAt m_farm m_pig m_begun m_first m_weight m_salted m_heat m_isBad m_isSold m_sealedFeed m_hook m_should m_on m_warmth m_damp m_isOpen m_fFarm m_fFrom m_fWhat m_fTold m_rule m_draft m_tape m_five m_those _ h) (cwV 0 hts gX8_number_X8_blanks rfl rfl rfl (by decide +kernel) ⟨(Nat.le_of_ble_eq_true rfl), (Nat.le_of_ble_eq_true rfl)⟩) ⟨kC_blind, va_recv hK hP (ci := 8) (q0 := 0) rfl wM_g0, fun U hU hW => ⟨rfl, kC_go hA hS hP hK hD hE U hU hW⟩⟩ rfl rfl hl.1 rfl (lv_room (Nat.le_of_ble_eq_true rfl)) dX8_number_1 ⟨(Nat.le_of_ble_eq_true rfl), (Nat.le_of_ble_eq_true rfl)⟩) hS (fun q _ h => h) (fun q h => h) (fun u t H locs ht hvm hw hB hz1 hk1 hS => ?_)
  obtain ⟨m_point_1, m_begin_1⟩ := u
  have h := hw
  try dsimp only at h
  have hP : va_P (dC, dI) vwCl (wM ad cB cI cZ cL m_thrown m_today m_legs m_feeds m_taped m_point_1 m_end m_begin_1 m_faultAt m_farm m_pig m_begun m_first m_weight m_salted m_heat m_isBad m_isSold m_sealedFeed m_hook m_should m_on m_warmth m_damp m_isOpen m_fFarm m_fFrom m_fWhat m_fTold m_rule m_draft m_tape m_five m_those) H := by rw [← ht]; exact hB.1
  have hD : va_D A (wM ad cB cI cZ cL m_thrown m_today m_legs m_feeds m_taped m_point_1 m_end m_begin_1 m_faultAt m_farm m_pig m_begun m_first m_weight m_salted m_heat m_isBad m_isSold m_sealedFeed m_hook m_should m_on m_warmth m_damp m_isOpen m_fFarm m_fFrom m_fWhat m_fTold m_rule m_draft m_tape m_five m_those) := hB.2.2
  refine lv_iconst (v := 0) hx hb dX8_number_4 (by decide) ?_
  refine lv_istore_n (lv' := [(3, .int 0), (0, .ref (ad 0)), (1, .int p0), (2, .int p1)]) hx hb dX8_number_5 rfl hl (by decide) rfl (fun ls hl => ?_)
  obtain ⟨n_10, h⟩ := h
  exact hlp_M_X8_number_6 n_10 m_point_1 m_begin_1 m_draft p0 p1 0 _ _ _ hP hD hS (lv_sub hl [1, 2, 3, 0] rfl) h
def lp_M_X8_readRule_4 (m_end : Int32) (m_tape : Nat → Int32)  (Q : Int32 → Int32 → Int32 → (Nat → Int32) → Prop) : Nat → Int32 → Int32 → (Nat → Int32) → Prop
  | 0 => fun _ _ _ => False
  | n + 1 => fun m_point m_begin m_draft => wp_M_X8_isAt m_point m_end m_tape (fun r_2 => ((r_2 = 0 → wp_M_X8_isWord m_point m_begin m_tape (fun r_4 => ((r_4 = 0 → wp_M_X8_isWord m_point m_begin m_tape (fun r_6 => ((r_6 = 0 → wp_M_X8_isWord m_point m_begin m_tape (fun r_8 => ((r_8 = 0 → wp_M_X8_isWord m_point m_begin m_tape (fun r_10 => ((r_10 = 0 → wp_M_X8_isWord m_point m_begin m_tape (fun r_12 => ((r_12 = 0 → (o01 0 ∧ Q 0 m_point m_begin m_draft)) ∧ (¬ (r_12 = 0) → wp_M_X8_number m_end m_tape (fun r_14 m_point_14 m_begin_14 m_draft_14 => ((r_14 = 0 → (o01 0 ∧ Q 0 m_point_14 m_begin_14 m_draft_14)) ∧ (¬ (r_14 = 0) → (o01 1 ∧ Q 1 m_point_14 m_begin_14 m_draft_14)))) m_point m_begin m_draft 4 15000))) 4) ∧ (¬ (r_10 = 0) → wp_M_X8_number m_end m_tape (fun r_16 m_point_16 m_begin_16 m_draft_16 => (o01 r_16 ∧ Q r_16 m_point_16 m_begin_16 m_draft_16)) m_point m_begin m_draft 3 3))) 3) ∧ (¬ (r_8 = 0) → wp_M_X8_number m_end m_tape (fun r_17 m_point_17 m_begin_17 m_draft_17 => (o01 r_17 ∧ Q r_17 m_point_17 m_begin_17 m_draft_17)) m_point m_begin m_draft 2 99))) 2) ∧ (¬ (r_6 = 0) → wp_M_X8_number m_end m_tape (fun r_18 m_point_18 m_begin_18 m_draft_18 => (o01 r_18 ∧ Q r_18 m_point_18 m_begin_18 m_draft_18)) m_point m_begin m_draft 1 100))) 1) ∧ (¬ (r_4 = 0) → wp_M_X8_number m_end m_tape (fun r_19 m_point_19 m_begin_19 m_draft_19 => (o01 r_19 ∧ Q r_19 m_point_19 m_begin_19 m_draft_19)) m_point m_begin m_draft 0 2000))) 0) ∧ (¬ (r_2 = 0) → lp_M_X8_readRule_4 m_end m_tape Q n (m_point + 1) m_begin m_draft))) 97 122
def wp_M_X8_readRule (m_end : Int32) (m_tape : Nat → Int32) (Q : Int32 → Int32 → Int32 → (Nat → Int32) → Prop) (m_point : Int32) (m_begin : Int32) (m_draft : Nat → Int32) : Prop := wp_M_X8_blanks m_end m_tape (fun m_point_1 m_begin_1 => (∃ n_20, lp_M_X8_readRule_4 m_end m_tape Q n_20 m_point_1 m_begin_1 m_draft)) m_point m_begin
def rm_M_X8_readRule : Room := { frames := 5, cells := 0, slots := 0, locals := 108 }
abbrev pq_M_X8_readRule (dC : Nat → ClassId) (dI : Nat → Nat → Nat) (ad : Nat → Nat) (cB cI cZ cL : ClassId) (A : Nat → Prop) (m_thrown m_today m_legs m_feeds m_taped m_point m_end m_begin m_faultAt : Int32) (m_farm m_pig m_begun m_first m_weight m_salted m_heat m_isBad m_isSold m_sealedFeed m_hook m_should m_on m_warmth m_damp m_isOpen m_fFarm m_fFrom m_fWhat m_fTold m_rule m_draft m_tape m_five m_those : Nat → Int32) (Q : Int32 → Int32 → Int32 → (Nat → Int32) → Prop) : Array Value → State → Outcome → State → Prop := va_Qi (fun (r : Int32) (u : Int32 × Int32 × (Nat → Int32)) => Q r u.1 u.2.1 u.2.2) (fun u t => kB dC dI A (wM ad cB cI cZ cL m_thrown m_today m_legs m_feeds m_taped u.1 m_end u.2.1 m_faultAt m_farm m_pig m_begun m_first m_weight m_salted m_heat m_isBad m_isSold m_sealedFeed m_hook m_should m_on m_warmth m_damp m_isOpen m_fFarm m_fFrom m_fWhat m_fTold m_rule u.2.2 m_tape m_five m_those) (kTy cB cI cZ cL) t) A
set_option maxHeartbeats 4000000 in
set_option maxRecDepth 100000 in
theorem c_M_X8_readRule (l : Launch) (dC : Nat → ClassId) (dI : Nat → Nat → Nat) (ad : Nat → Nat) (cB cI cZ cL : ClassId) (A : Nat → Prop) (m_thrown m_today m_legs m_feeds m_taped m_point m_end m_begin m_faultAt : Int32) (m_farm m_pig m_begun m_first m_weight m_salted m_heat m_isBad m_isSold m_sealedFeed m_hook m_should m_on m_warmth m_damp m_isOpen m_fFarm m_fFrom m_fWhat m_fTold m_rule m_draft m_tape m_five m_those : Nat → Int32)   (Q : Int32 → Int32 → Int32 → (Nat → Int32) → Prop) (h : wp_M_X8_readRule m_end m_tape Q m_point m_begin m_draft) : Met l yX8_readRule wsX8_readRule rm_M_X8_readRule (va_Pc [.ref (ad 0)] (kC dC dI ad A (wM ad cB cI cZ cL m_thrown m_today m_legs m_feeds m_taped m_point m_end m_begin m_faultAt m_farm m_pig m_begun m_first m_weight m_salted m_heat m_isBad m_isSold m_sealedFeed m_hook m_should m_on m_warmth m_damp m_isOpen m_fFarm m_fFrom m_fWhat m_fTold m_rule m_draft m_tape m_five m_those) (kTy cB cI cZ cL))) (pq_M_X8_readRule dC dI ad cB cI cZ cL A m_thrown m_today m_legs m_feeds m_taped m_point m_end m_begin m_faultAt m_farm m_pig m_begun m_first m_weight m_salted m_heat m_isBad m_isSold m_sealedFeed m_hook m_should m_on m_warmth m_damp m_isOpen m_fFarm m_fFrom m_fWhat m_fTold m_rule m_draft m_tape m_five m_those Q) 0 0 A := by
  refine Met.ofW (cc := cX8_readRule) (maxL := 1) (ret := (some .boolean)) (by decide) rfl ?_
  intro p e s m args below meth c s₁ B hml hv
  obtain ⟨rfl, hA, hP, hK, hD, hE⟩ := hv
  have hx := B.exec
  have hb := B.bytes
  have hr := B.returns
  have hts := atoms_spec (ws := wsX8_readRule) B.pre
  have hown : s.vm.findClass RX8 = some m.cls := findClass_of_methodNamed B.named
  have hlocks := B.notSynchronized
  have hS : va_S A s.heap s.heap [] := va_S.rf
  have hk_0 := hts (.fieldLink RX8 134 "HamCellarModel" "point" "I") (by decide +kernel)
  have hk_1 : ∀ w ∈ wsX80, w ∈ wsX8_readRule := by decide +kernel
  have hlp_M_X8_readRule_4 : ∀ (n : Nat) (m_point : Int32) (m_begin : Int32) (m_draft : Nat → Int32) (H : Heap) (locs : List Loc) (ls : Array Slot), va_P (dC, dI) vwCl (wM ad cB cI cZ cL m_thrown m_today m_legs m_feeds m_taped m_point m_end m_begin m_faultAt m_farm m_pig m_begun m_first m_weight m_salted m_heat m_isBad m_isSold m_sealedFeed m_hook m_should m_on m_warmth m_damp m_isOpen m_fFarm m_fFrom m_fWhat m_fTold m_rule m_draft m_tape m_five m_those) H → va_D A (wM ad cB cI cZ cL m_thrown m_today m_legs m_feeds m_taped m_point m_end m_begin m_faultAt m_farm m_pig m_begun m_first m_weight m_salted m_heat m_isBad m_isSold m_sealedFeed m_hook m_should m_on m_warmth m_damp m_isOpen m_fFarm m_fFrom m_fWhat m_fTold m_rule m_draft m_tape m_five m_those) → va_S A s.heap H locs → lv_has ls 1 [(0, .ref (ad 0))] → lp_M_X8_readRule_4 m_end m_tape Q n m_point m_begin m_draft → W p l e (headSpec wsX8_readRule rm_M_X8_readRule).room s m ([.ref (ad 0)] : List Value).toArray below meth c H locs 0 0 (MQ below (pq_M_X8_readRule dC dI ad cB cI cZ cL A m_thrown m_today m_legs m_feeds m_taped m_point m_end m_begin m_faultAt m_farm m_pig m_begun m_first m_weight m_salted m_heat m_isBad m_isSold m_sealedFeed m_hook m_should m_on m_warmth m_damp m_isOpen m_fFarm m_fFrom m_fWhat m_fTold m_rule m_draft m_tape m_five m_those Q) ([.ref (ad 0)] : List Value).toArray s 0 0 A) (F0 m 4 ls []) := by
    intro n
    induction n with
    | zero => intro m_point m_begin m_draft H locs ls hP hD hS hl h; exact h.elim
    | succ n ih =>
      intro m_point m_begin m_draft H locs ls hP hD hS hl h
      have h : wp_M_X8_isAt m_point m_end m_tape (fun r_2 => ((r_2 = 0 → wp_M_X8_isWord m_point m_begin m_tape (fun r_4 => ((r_4 = 0 → wp_M_X8_isWord m_point m_begin m_tape (fun r_6 => ((r_6 = 0 → wp_M_X8_isWord m_point m_begin m_tape (fun r_8 => ((r_8 = 0 → wp_M_X8_isWord m_point m_begin m_tape (fun r_10 => ((r_10 = 0 → wp_M_X8_isWord m_point m_begin m_tape (fun r_12 => ((r_12 = 0 → (o01 0 ∧ Q 0 m_point m_begin m_draft)) ∧ (¬ (r_12 = 0) → wp_M_X8_number m_end m_tape (fun r_14 m_point_14 m_begin_14 m_draft_14 => ((r_14 = 0 → (o01 0 ∧ Q 0 m_point_14 m_begin_14 m_draft_14)) ∧ (¬ (r_14 = 0) → (o01 1 ∧ Q 1 m_point_14 m_begin_14 m_draft_14)))) m_point m_begin m_draft 4 15000))) 4) ∧ (¬ (r_10 = 0) → wp_M_X8_number m_end m_tape (fun r_16 m_point_16 m_begin_16 m_draft_16 => (o01 r_16 ∧ Q r_16 m_point_16 m_begin_16 m_draft_16)) m_point m_begin m_draft 3 3))) 3) ∧ (¬ (r_8 = 0) → wp_M_X8_number m_end m_tape (fun r_17 m_point_17 m_begin_17 m_draft_17 => (o01 r_17 ∧ Q r_17 m_point_17 m_begin_17 m_draft_17)) m_point m_begin m_draft 2 99))) 2) ∧ (¬ (r_6 = 0) → wp_M_X8_number m_end m_tape (fun r_18 m_point_18 m_begin_18 m_draft_18 => (o01 r_18 ∧ Q r_18 m_point_18 m_begin_18 m_draft_18)) m_point m_begin m_draft 1 100))) 1) ∧ (¬ (r_4 = 0) → wp_M_X8_number m_end m_tape (fun r_19 m_point_19 m_begin_19 m_draft_19 => (o01 r_19 ∧ Q r_19 m_point_19 m_begin_19 m_draft_19)) m_point m_begin m_draft 0 2000))) 0) ∧ (¬ (r_2 = 0) → lp_M_X8_readRule_4 m_end m_tape Q n (m_point + 1) m_begin m_draft))) 97 122 := h
      refine lv_aload_n hx hb dX8_readRule_4 rfl (lv_at hl 0 rfl) ?_
      refine lv_bipush (v := 97) hx hb dX8_readRule_5 (by decide) ?_
      refine lv_bipush (v := 122) hx hb dX8_readRule_7 (by decide) ?_
      refine va_calli (va_runV (As := [.int 97, .int 122]) (rest := []) ⟨hx, hb, hml, hown, hts⟩ (c_M_X8_isAt l dC dI ad cB cI cZ cL A m_thrown m_today m_legs m_feeds m_taped m_point m_end m_begin m_faultAt m_farm m_pig m_begun m_first m_weight m_salted m_heat m_isBad m_isSold m_sealedFeed m_hook m_should m_on m_warmth m_damp m_isOpen m_fFarm m_fFrom m_fWhat m_fTold m_rule m_draft m_tape m_five m_those 97 122 _ h) (cwV 2 hts gX8_readRule_X8_isAt rfl rfl rfl (by decide +kernel) ⟨(Nat.le_of_ble_eq_true rfl), (Nat.le_of_ble_eq_true rfl)⟩) ⟨kC_blind, va_recv hK hP (ci := 8) (q0 := 0) rfl wM_g0, fun U hU hW => ⟨rfl, kC_go hA hS hP hK hD hE U hU hW⟩⟩ rfl rfl hl.1 rfl (lv_room (Nat.le_of_ble_eq_true rfl)) dX8_readRule_9 ⟨(Nat.le_of_ble_eq_true rfl), (Nat.le_of_ble_eq_true rfl)⟩) hS (fun q _ h => h) (fun q h => h) (fun r_2 u t H locs ht hvm hw hB hz1 hk1 hS => ?_)
      have h := hw
      try dsimp only at h
      have hP : va_P (dC, dI) vwCl (wM ad cB cI cZ cL m_thrown m_today m_legs m_feeds m_taped m_point m_end m_begin m_faultAt m_farm m_pig m_begun m_first m_weight m_salted m_heat m_isBad m_isSold m_sealedFeed m_hook m_should m_on m_warmth m_damp m_isOpen m_fFarm m_fFrom m_fWhat m_fTold m_rule m_draft m_tape m_five m_those) H := by rw [← ht]; exact hB.1
      have hD : va_D A (wM ad cB cI cZ cL m_thrown m_today m_legs m_feeds m_taped m_point m_end m_begin m_faultAt m_farm m_pig m_begun m_first m_weight m_salted m_heat m_isBad m_isSold m_sealedFeed m_hook m_should m_on m_warmth m_damp m_isOpen m_fFarm m_fFrom m_fWhat m_fTold m_rule m_draft m_tape m_five m_those) := hB.2.2
      refine lv_if_eq (tgt := 28) hx hb dX8_readRule_12 (by decide) (fun c_3 => ?_) (fun c_3 => ?_)
      · have h := h.1 c_3
        refine lv_aload_n hx hb dX8_readRule_28 rfl (lv_at hl 0 rfl) ?_
        refine va_ldcS hx hb hown (q := ad (40 + 0)) (hE.2.2.2.2.2 ("HamCellarModel", 159, "days", 0) (by decide +kernel)) dX8_readRule_29 ?_
        refine va_calli (va_runV (As := [.ref (ad (40 + 0))]) (rest := []) ⟨hx, hb, hml, hown, hts⟩ (c_M_X8_isWord l dC dI ad cB cI cZ cL A m_thrown m_today m_legs m_feeds m_taped m_point m_end m_begin m_faultAt m_farm m_pig m_begun m_first m_weight m_salted m_heat m_isBad m_isSold m_sealedFeed m_hook m_should m_on m_warmth m_damp m_isOpen m_fFarm m_fFrom m_fWhat m_fTold m_rule m_draft m_tape m_five m_those 0 (show 0 < 5 by decide) _ h) (cwV 1 hts gX8_readRule_X8_isWord rfl rfl rfl (by decide +kernel) ⟨(Nat.le_of_ble_eq_true rfl), (Nat.le_of_ble_eq_true rfl)⟩) ⟨kC_blind, va_recv hK hP (ci := 8) (q0 := 0) rfl wM_g0, fun U hU hW => ⟨rfl, kC_go hA hS hP hK hD hE U hU hW⟩⟩ rfl rfl hl.1 rfl (lv_room (Nat.le_of_ble_eq_true rfl)) dX8_readRule_31 ⟨(Nat.le_of_ble_eq_true rfl), (Nat.le_of_ble_eq_true rfl)⟩) hS (fun q _ h => h) (fun q h => h) (fun r_4 u t H locs ht hvm hw hB hz1 hk1 hS => ?_)
        have h := hw
        try dsimp only at h
        have hP : va_P (dC, dI) vwCl (wM ad cB cI cZ cL m_thrown m_today m_legs m_feeds m_taped m_point m_end m_begin m_faultAt m_farm m_pig m_begun m_first m_weight m_salted m_heat m_isBad m_isSold m_sealedFeed m_hook m_should m_on m_warmth m_damp m_isOpen m_fFarm m_fFrom m_fWhat m_fTold m_rule m_draft m_tape m_five m_those) H := by rw [← ht]; exact hB.1
        have hD : va_D A (wM ad cB cI cZ cL m_thrown m_today m_legs m_feeds m_taped m_point m_end m_begin m_faultAt m_farm m_pig m_begun m_first m_weight m_salted m_heat m_isBad m_isSold m_sealedFeed m_hook m_should m_on m_warmth m_damp m_isOpen m_fFarm m_fFrom m_fWhat m_fTold m_rule m_draft m_tape m_five m_those) := hB.2.2
        refine lv_if_eq (tgt := 46) hx hb dX8_readRule_34 (by decide) (fun c_5 => ?_) (fun c_5 => ?_)
        · have h := h.1 c_5
          refine lv_aload_n hx hb dX8_readRule_46 rfl (lv_at hl 0 rfl) ?_
          refine va_ldcS hx hb hown (q := ad (40 + 1)) (hE.2.2.2.2.2 ("HamCellarModel", 168, "loss", 1) (by decide +kernel)) dX8_readRule_47 ?_
          refine va_calli (va_runV (As := [.ref (ad (40 + 1))]) (rest := []) ⟨hx, hb, hml, hown, hts⟩ (c_M_X8_isWord l dC dI ad cB cI cZ cL A m_thrown m_today m_legs m_feeds m_taped m_point m_end m_begin m_faultAt m_farm m_pig m_begun m_first m_weight m_salted m_heat m_isBad m_isSold m_sealedFeed m_hook m_should m_on m_warmth m_damp m_isOpen m_fFarm m_fFrom m_fWhat m_fTold m_rule m_draft m_tape m_five m_those 1 (show 1 < 5 by decide) _ h) (cwV 1 hts gX8_readRule_X8_isWord rfl rfl rfl (by decide +kernel) ⟨(Nat.le_of_ble_eq_true rfl), (Nat.le_of_ble_eq_true rfl)⟩) ⟨kC_blind, va_recv hK hP (ci := 8) (q0 := 0) rfl wM_g0, fun U hU hW => ⟨rfl, kC_go hA hS hP hK hD hE U hU hW⟩⟩ rfl rfl hl.1 rfl (lv_room (Nat.le_of_ble_eq_true rfl)) dX8_readRule_49 ⟨(Nat.le_of_ble_eq_true rfl), (Nat.le_of_ble_eq_true rfl)⟩) hS (fun q _ h => h) (fun q h => h) (fun r_6 u t H locs ht hvm hw hB hz1 hk1 hS => ?_)
          have h := hw
          try dsimp only at h
          have hP : va_P (dC, dI) vwCl (wM ad cB cI cZ cL m_thrown m_today m_legs m_feeds m_taped m_point m_end m_begin m_faultAt m_farm m_pig m_begun m_first m_weight m_salted m_heat m_isBad m_isSold m_sealedFeed m_hook m_should m_on m_warmth m_damp m_isOpen m_fFarm m_fFrom m_fWhat m_fTold m_rule m_draft m_tape m_five m_those) H := by rw [← ht]; exact hB.1
          have hD : va_D A (wM ad cB cI cZ cL m_thrown m_today m_legs m_feeds m_taped m_point m_end m_begin m_faultAt m_farm m_pig m_begun m_first m_weight m_salted m_heat m_isBad m_isSold m_sealedFeed m_hook m_should m_on m_warmth m_damp m_isOpen m_fFarm m_fFrom m_fWhat m_fTold m_rule m_draft m_tape m_five m_those) := hB.2.2
          refine lv_if_eq (tgt := 63) hx hb dX8_readRule_52 (by decide) (fun c_7 => ?_) (fun c_7 => ?_)
          · have h := h.1 c_7
            refine lv_aload_n hx hb dX8_readRule_63 rfl (lv_at hl 0 rfl) ?_
            refine va_ldcS hx hb hown (q := ad (40 + 2)) (hE.2.2.2.2.2 ("HamCellarModel", 170, "salt", 2) (by decide +kernel)) dX8_readRule_64 ?_
            refine va_calli (va_runV (As := [.ref (ad (40 + 2))]) (rest := []) ⟨hx, hb, hml, hown, hts⟩ (c_M_X8_isWord l dC dI ad cB cI cZ cL A m_thrown m_today m_legs m_feeds m_taped m_point m_end m_begin m_faultAt m_farm m_pig m_begun m_first m_weight m_salted m_heat m_isBad m_isSold m_sealedFeed m_hook m_should m_on m_warmth m_damp m_isOpen m_fFarm m_fFrom m_fWhat m_fTold m_rule m_draft m_tape m_five m_those 2 (show 2 < 5 by decide) _ h) (cwV 1 hts gX8_readRule_X8_isWord rfl rfl rfl (by decide +kernel) ⟨(Nat.le_of_ble_eq_true rfl), (Nat.le_of_ble_eq_true rfl)⟩) ⟨kC_blind, va_recv hK hP (ci := 8) (q0 := 0) rfl wM_g0, fun U hU hW => ⟨rfl, kC_go hA hS hP hK hD hE U hU hW⟩⟩ rfl rfl hl.1 rfl (lv_room (Nat.le_of_ble_eq_true rfl)) dX8_readRule_66 ⟨(Nat.le_of_ble_eq_true rfl), (Nat.le_of_ble_eq_true rfl)⟩) hS (fun q _ h => h) (fun q h => h) (fun r_8 u t H locs ht hvm hw hB hz1 hk1 hS => ?_)
            have h := hw
            try dsimp only at h
            have hP : va_P (dC, dI) vwCl (wM ad cB cI cZ cL m_thrown m_today m_legs m_feeds m_taped m_point m_end m_begin m_faultAt m_farm m_pig m_begun m_first m_weight m_salted m_heat m_isBad m_isSold m_sealedFeed m_hook m_should m_on m_warmth m_damp m_isOpen m_fFarm m_fFrom m_fWhat m_fTold m_rule m_draft m_tape m_five m_those) H := by rw [← ht]; exact hB.1
            have hD : va_D A (wM ad cB cI cZ cL m_thrown m_today m_legs m_feeds m_taped m_point m_end m_begin m_faultAt m_farm m_pig m_begun m_first m_weight m_salted m_heat m_isBad m_isSold m_sealedFeed m_hook m_should m_on m_warmth m_damp m_isOpen m_fFarm m_fFrom m_fWhat m_fTold m_rule m_draft m_tape m_five m_those) := hB.2.2
            refine lv_if_eq (tgt := 80) hx hb dX8_readRule_69 (by decide) (fun c_9 => ?_) (fun c_9 => ?_)
            · have h := h.1 c_9
              refine lv_aload_n hx hb dX8_readRule_80 rfl (lv_at hl 0 rfl) ?_
              refine va_ldcS hx hb hown (q := ad (40 + 3)) (hE.2.2.2.2.2 ("HamCellarModel", 172, "feed", 3) (by decide +kernel)) dX8_readRule_81 ?_
              refine va_calli (va_runV (As := [.ref (ad (40 + 3))]) (rest := []) ⟨hx, hb, hml, hown, hts⟩ (c_M_X8_isWord l dC dI ad cB cI cZ cL A m_thrown m_today m_legs m_feeds m_taped m_point m_end m_begin m_faultAt m_farm m_pig m_begun m_first m_weight m_salted m_heat m_isBad m_isSold m_sealedFeed m_hook m_should m_on m_warmth m_damp m_isOpen m_fFarm m_fFrom m_fWhat m_fTold m_rule m_draft m_tape m_five m_those 3 (show 3 < 5 by decide) _ h) (cwV 1 hts gX8_readRule_X8_isWord rfl rfl rfl (by decide +kernel) ⟨(Nat.le_of_ble_eq_true rfl), (Nat.le_of_ble_eq_true rfl)⟩) ⟨kC_blind, va_recv hK hP (ci := 8) (q0 := 0) rfl wM_g0, fun U hU hW => ⟨rfl, kC_go hA hS hP hK hD hE U hU hW⟩⟩ rfl rfl hl.1 rfl (lv_room (Nat.le_of_ble_eq_true rfl)) dX8_readRule_83 ⟨(Nat.le_of_ble_eq_true rfl), (Nat.le_of_ble_eq_true rfl)⟩) hS (fun q _ h => h) (fun q h => h) (fun r_10 u t H locs ht hvm hw hB hz1 hk1 hS => ?_)
              have h := hw
              try dsimp only at h
              have hP : va_P (dC, dI) vwCl (wM ad cB cI cZ cL m_thrown m_today m_legs m_feeds m_taped m_point m_end m_begin m_faultAt m_farm m_pig m_begun m_first m_weight m_salted m_heat m_isBad m_isSold m_sealedFeed m_hook m_should m_on m_warmth m_damp m_isOpen m_fFarm m_fFrom m_fWhat m_fTold m_rule m_draft m_tape m_five m_those) H := by rw [← ht]; exact hB.1
              have hD : va_D A (wM ad cB cI cZ cL m_thrown m_today m_legs m_feeds m_taped m_point m_end m_begin m_faultAt m_farm m_pig m_begun m_first m_weight m_salted m_heat m_isBad m_isSold m_sealedFeed m_hook m_should m_on m_warmth m_damp m_isOpen m_fFarm m_fFrom m_fWhat m_fTold m_rule m_draft m_tape m_five m_those) := hB.2.2
              refine lv_if_eq (tgt := 96) hx hb dX8_readRule_86 (by decide) (fun c_11 => ?_) (fun c_11 => ?_)
              · have h := h.1 c_11
                refine lv_aload_n hx hb dX8_readRule_96 rfl (lv_at hl 0 rfl) ?_
                refine va_ldcS hx hb hown (q := ad (40 + 4)) (hE.2.2.2.2.2 ("HamCellarModel", 174, "weight", 4) (by decide +kernel)) dX8_readRule_97 ?_
                refine va_calli (va_runV (As := [.ref (ad (40 + 4))]) (rest := []) ⟨hx, hb, hml, hown, hts⟩ (c_M_X8_isWord l dC dI ad cB cI cZ cL A m_thrown m_today m_legs m_feeds m_taped m_point m_end m_begin m_faultAt m_farm m_pig m_begun m_first m_weight m_salted m_heat m_isBad m_isSold m_sealedFeed m_hook m_should m_on m_warmth m_damp m_isOpen m_fFarm m_fFrom m_fWhat m_fTold m_rule m_draft m_tape m_five m_those 4 (show 4 < 5 by decide) _ h) (cwV 1 hts gX8_readRule_X8_isWord rfl rfl rfl (by decide +kernel) ⟨(Nat.le_of_ble_eq_true rfl), (Nat.le_of_ble_eq_true rfl)⟩) ⟨kC_blind, va_recv hK hP (ci := 8) (q0 := 0) rfl wM_g0, fun U hU hW => ⟨rfl, kC_go hA hS hP hK hD hE U hU hW⟩⟩ rfl rfl hl.1 rfl (lv_room (Nat.le_of_ble_eq_true rfl)) dX8_readRule_99 ⟨(Nat.le_of_ble_eq_true rfl), (Nat.le_of_ble_eq_true rfl)⟩) hS (fun q _ h => h) (fun q h => h) (fun r_12 u t H locs ht hvm hw hB hz1 hk1 hS => ?_)
                have h := hw
                try dsimp only at h
                have hP : va_P (dC, dI) vwCl (wM ad cB cI cZ cL m_thrown m_today m_legs m_feeds m_taped m_point m_end m_begin m_faultAt m_farm m_pig m_begun m_first m_weight m_salted m_heat m_isBad m_isSold m_sealedFeed m_hook m_should m_on m_warmth m_damp m_isOpen m_fFarm m_fFrom m_fWhat m_fTold m_rule m_draft m_tape m_five m_those) H := by rw [← ht]; exact hB.1
                have hD : va_D A (wM ad cB cI cZ cL m_thrown m_today m_legs m_feeds m_taped m_point m_end m_begin m_faultAt m_farm m_pig m_begun m_first m_weight m_salted m_heat m_isBad m_isSold m_sealedFeed m_hook m_should m_on m_warmth m_damp m_isOpen m_fFarm m_fFrom m_fWhat m_fTold m_rule m_draft m_tape m_five m_those) := hB.2.2
                refine lv_if_eq (tgt := 120) hx hb dX8_readRule_102 (by decide) (fun c_13 => ?_) (fun c_13 => ?_)
                · have h := h.1 c_13
                  refine lv_iconst (v := 0) hx hb dX8_readRule_120 (by decide) ?_
                  exact W.zret (v := 0) (ty := .boolean) hx hb hr (z01 h.1) (fun t ht hW => ⟨⟨0, (m_point, m_begin, m_draft), rfl, h.2, kB_mk hP hK hD ht hW.alike⟩, hS.F ht⟩) hS.2.2 dX8_readRule_121
                · have h := h.2 c_13
                  refine lv_aload_n hx hb dX8_readRule_105 rfl (lv_at hl 0 rfl) ?_
                  refine lv_iconst (v := 4) hx hb dX8_readRule_106 (by decide) ?_
                  refine lv_sipush (v := 15000) hx hb dX8_readRule_107 (by decide) ?_
                  refine va_calli (va_runV (As := [.int 4, .int 15000]) (rest := []) ⟨hx, hb, hml, hown, hts⟩ (c_M_X8_number l dC dI ad cB cI cZ cL A m_thrown m_today m_legs m_feeds m_taped m_point m_end m_begin m_faultAt m_farm m_pig m_begun m_first m_weight m_salted m_heat m_isBad m_isSold m_sealedFeed m_hook m_should m_on m_warmth m_damp m_isOpen m_fFarm m_fFrom m_fWhat m_fTold m_rule m_draft m_tape m_five m_those 4 15000 _ h) (cwV 2 hts gX8_readRule_X8_number rfl rfl rfl (by decide +kernel) ⟨(Nat.le_of_ble_eq_true rfl), (Nat.le_of_ble_eq_true rfl)⟩) ⟨kC_blind, va_recv hK hP (ci := 8) (q0 := 0) rfl wM_g0, fun U hU hW => ⟨rfl, kC_go hA hS hP hK hD hE U hU hW⟩⟩ rfl rfl hl.1 rfl (lv_room (Nat.le_of_ble_eq_true rfl)) dX8_readRule_110 ⟨(Nat.le_of_ble_eq_true rfl), (Nat.le_of_ble_eq_true rfl)⟩) hS (fun q _ h => h) (fun q h => h) (fun r_14 u t H locs ht hvm hw hB hz1 hk1 hS => ?_)
                  obtain ⟨m_point_14, m_begin_14, m_draft_14⟩ := u
                  have h := hw
                  try dsimp only at h
                  have hP : va_P (dC, dI) vwCl (wM ad cB cI cZ cL m_thrown m_today m_legs m_feeds m_taped m_point_14 m_end m_begin_14 m_faultAt m_farm m_pig m_begun m_first m_weight m_salted m_heat m_isBad m_isSold m_sealedFeed m_hook m_should m_on m_warmth m_damp m_isOpen m_fFarm m_fFrom m_fWhat m_fTold m_rule m_draft_14 m_tape m_five m_those) H := by rw [← ht]; exact hB.1
                  have hD : va_D A (wM ad cB cI cZ cL m_thrown m_today m_legs m_feeds m_taped m_point_14 m_end m_begin_14 m_faultAt m_farm m_pig m_begun m_first m_weight m_salted m_heat m_isBad m_isSold m_sealedFeed m_hook m_should m_on m_warmth m_damp m_isOpen m_fFarm m_fFrom m_fWhat m_fTold m_rule m_draft_14 m_tape m_five m_those) := hB.2.2
                  refine lv_if_eq (tgt := 120) hx hb dX8_readRule_113 (by decide) (fun c_15 => ?_) (fun c_15 => ?_)
                  · have h := h.1 c_15
                    refine lv_iconst (v := 0) hx hb dX8_readRule_120 (by decide) ?_
                    exact W.zret (v := 0) (ty := .boolean) hx hb hr (z01 h.1) (fun t ht hW => ⟨⟨0, (m_point_14, m_begin_14, m_draft_14), rfl, h.2, kB_mk hP hK hD ht hW.alike⟩, hS.F ht⟩) hS.2.2 dX8_readRule_121
                  · have h := h.2 c_15
                    refine lv_iconst (v := 1) hx hb dX8_readRule_116 (by decide) ?_
                    refine lv_goto (tgt := 121) hx hb dX8_readRule_117 (by decide) ?_
                    exact W.zret (v := 1) (ty := .boolean) hx hb hr (z01 h.1) (fun t ht hW => ⟨⟨1, (m_point_14, m_begin_14, m_draft_14), rfl, h.2, kB_mk hP hK hD ht hW.alike⟩, hS.F ht⟩) hS.2.2 dX8_readRule_121
              · have h := h.2 c_11
                refine lv_aload_n hx hb dX8_readRule_89 rfl (lv_at hl 0 rfl) ?_
                refine lv_iconst (v := 3) hx hb dX8_readRule_90 (by decide) ?_
                refine lv_iconst (v := 3) hx hb dX8_readRule_91 (by decide) ?_
                refine va_calli (va_runV (As := [.int 3, .int 3]) (rest := []) ⟨hx, hb, hml, hown, hts⟩ (c_M_X8_number l dC dI ad cB cI cZ cL A m_thrown m_today m_legs m_feeds m_taped m_point m_end m_begin m_faultAt m_farm m_pig m_begun m_first m_weight m_salted m_heat m_isBad m_isSold m_sealedFeed m_hook m_should m_on m_warmth m_damp m_isOpen m_fFarm m_fFrom m_fWhat m_fTold m_rule m_draft m_tape m_five m_those 3 3 _ h) (cwV 2 hts gX8_readRule_X8_number rfl rfl rfl (by decide +kernel) ⟨(Nat.le_of_ble_eq_true rfl), (Nat.le_of_ble_eq_true rfl)⟩) ⟨kC_blind, va_recv hK hP (ci := 8) (q0 := 0) rfl wM_g0, fun U hU hW => ⟨rfl, kC_go hA hS hP hK hD hE U hU hW⟩⟩ rfl rfl hl.1 rfl (lv_room (Nat.le_of_ble_eq_true rfl)) dX8_readRule_92 ⟨(Nat.le_of_ble_eq_true rfl), (Nat.le_of_ble_eq_true rfl)⟩) hS (fun q _ h => h) (fun q h => h) (fun r_16 u t H locs ht hvm hw hB hz1 hk1 hS => ?_)
                obtain ⟨m_point_16, m_begin_16, m_draft_16⟩ := u
                have h := hw
                try dsimp only at h
                have hP : va_P (dC, dI) vwCl (wM ad cB cI cZ cL m_thrown m_today m_legs m_feeds m_taped m_point_16 m_end m_begin_16 m_faultAt m_farm m_pig m_begun m_first m_weight m_salted m_heat m_isBad m_isSold m_sealedFeed m_hook m_should m_on m_warmth m_damp m_isOpen m_fFarm m_fFrom m_fWhat m_fTold m_rule m_draft_16 m_tape m_five m_those) H := by rw [← ht]; exact hB.1
                have hD : va_D A (wM ad cB cI cZ cL m_thrown m_today m_legs m_feeds m_taped m_point_16 m_end m_begin_16 m_faultAt m_farm m_pig m_begun m_first m_weight m_salted m_heat m_isBad m_isSold m_sealedFeed m_hook m_should m_on m_warmth m_damp m_isOpen m_fFarm m_fFrom m_fWhat m_fTold m_rule m_draft_16 m_tape m_five m_those) := hB.2.2
                exact W.zret (v := r_16) (ty := .boolean) hx hb hr (z01 h.1) (fun t ht hW => ⟨⟨r_16, (m_point_16, m_begin_16, m_draft_16), rfl, h.2, kB_mk hP hK hD ht hW.alike⟩, hS.F ht⟩) hS.2.2 dX8_readRule_95
            · have h := h.2 c_9
              refine lv_aload_n hx hb dX8_readRule_72 rfl (lv_at hl 0 rfl) ?_
              refine lv_iconst (v := 2) hx hb dX8_readRule_73 (by decide) ?_
              refine lv_bipush (v := 99) hx hb dX8_readRule_74 (by decide) ?_
              refine va_calli (va_runV (As := [.int 2, .int 99]) (rest := []) ⟨hx, hb, hml, hown, hts⟩ (c_M_X8_number l dC dI ad cB cI cZ cL A m_thrown m_today m_legs m_feeds m_taped m_point m_end m_begin m_faultAt m_farm m_pig m_begun m_first m_weight m_salted m_heat m_isBad m_isSold m_sealedFeed m_hook m_should m_on m_warmth m_damp m_isOpen m_fFarm m_fFrom m_fWhat m_fTold m_rule m_draft m_tape m_five m_those 2 99 _ h) (cwV 2 hts gX8_readRule_X8_number rfl rfl rfl (by decide +kernel) ⟨(Nat.le_of_ble_eq_true rfl), (Nat.le_of_ble_eq_true rfl)⟩) ⟨kC_blind, va_recv hK hP (ci := 8) (q0 := 0) rfl wM_g0, fun U hU hW => ⟨rfl, kC_go hA hS hP hK hD hE U hU hW⟩⟩ rfl rfl hl.1 rfl (lv_room (Nat.le_of_ble_eq_true rfl)) dX8_readRule_76 ⟨(Nat.le_of_ble_eq_true rfl), (Nat.le_of_ble_eq_true rfl)⟩) hS (fun q _ h => h) (fun q h => h) (fun r_17 u t H locs ht hvm hw hB hz1 hk1 hS => ?_)
              obtain ⟨m_point_17, m_begin_17, m_draft_17⟩ := u
              have h := hw
              try dsimp only at h
              have hP : va_P (dC, dI) vwCl (wM ad cB cI cZ cL m_thrown m_today m_legs m_feeds m_taped m_point_17 m_end m_begin_17 m_faultAt m_farm m_pig m_begun m_first m_weight m_salted m_heat m_isBad m_isSold m_sealedFeed m_hook m_should m_on m_warmth m_damp m_isOpen m_fFarm m_fFrom m_fWhat m_fTold m_rule m_draft_17 m_tape m_five m_those) H := by rw [← ht]; exact hB.1
              have hD : va_D A (wM ad cB cI cZ cL m_thrown m_today m_legs m_feeds m_taped m_point_17 m_end m_begin_17 m_faultAt m_farm m_pig m_begun m_first m_weight m_salted m_heat m_isBad m_isSold m_sealedFeed m_hook m_should m_on m_warmth m_damp m_isOpen m_fFarm m_fFrom m_fWhat m_fTold m_rule m_draft_17 m_tape m_five m_those) := hB.2.2
              exact W.zret (v := r_17) (ty := .boolean) hx hb hr (z01 h.1) (fun t ht hW => ⟨⟨r_17, (m_point_17, m_begin_17, m_draft_17), rfl, h.2, kB_mk hP hK hD ht hW.alike⟩, hS.F ht⟩) hS.2.2 dX8_readRule_79
          · have h := h.2 c_7
            refine lv_aload_n hx hb dX8_readRule_55 rfl (lv_at hl 0 rfl) ?_
            refine lv_iconst (v := 1) hx hb dX8_readRule_56 (by decide) ?_
            refine lv_bipush (v := 100) hx hb dX8_readRule_57 (by decide) ?_
            refine va_calli (va_runV (As := [.int 1, .int 100]) (rest := []) ⟨hx, hb, hml, hown, hts⟩ (c_M_X8_number l dC dI ad cB cI cZ cL A m_thrown m_today m_legs m_feeds m_taped m_point m_end m_begin m_faultAt m_farm m_pig m_begun m_first m_weight m_salted m_heat m_isBad m_isSold m_sealedFeed m_hook m_should m_on m_warmth m_damp m_isOpen m_fFarm m_fFrom m_fWhat m_fTold m_rule m_draft m_tape m_five m_those 1 100 _ h) (cwV 2 hts gX8_readRule_X8_number rfl rfl rfl (by decide +kernel) ⟨(Nat.le_of_ble_eq_true rfl), (Nat.le_of_ble_eq_true rfl)⟩) ⟨kC_blind, va_recv hK hP (ci := 8) (q0 := 0) rfl wM_g0, fun U hU hW => ⟨rfl, kC_go hA hS hP hK hD hE U hU hW⟩⟩ rfl rfl hl.1 rfl (lv_room (Nat.le_of_ble_eq_true rfl)) dX8_readRule_59 ⟨(Nat.le_of_ble_eq_true rfl), (Nat.le_of_ble_eq_true rfl)⟩) hS (fun q _ h => h) (fun q h => h) (fun r_18 u t H locs ht hvm hw hB hz1 hk1 hS => ?_)
            obtain ⟨m_point_18, m_begin_18, m_draft_18⟩ := u
            have h := hw
            try dsimp only at h
            have hP : va_P (dC, dI) vwCl (wM ad cB cI cZ cL m_thrown m_today m_legs m_feeds m_taped m_point_18 m_end m_begin_18 m_faultAt m_farm m_pig m_begun m_first m_weight m_salted m_heat m_isBad m_isSold m_sealedFeed m_hook m_should m_on m_warmth m_damp m_isOpen m_fFarm m_fFrom m_fWhat m_fTold m_rule m_draft_18 m_tape m_five m_those) H := by rw [← ht]; exact hB.1
            have hD : va_D A (wM ad cB cI cZ cL m_thrown m_today m_legs m_feeds m_taped m_point_18 m_end m_begin_18 m_faultAt m_farm m_pig m_begun m_first m_weight m_salted m_heat m_isBad m_isSold m_sealedFeed m_hook m_should m_on m_warmth m_damp m_isOpen m_fFarm m_fFrom m_fWhat m_fTold m_rule m_draft_18 m_tape m_five m_those) := hB.2.2
            exact W.zret (v := r_18) (ty := .boolean) hx hb hr (z01 h.1) (fun t ht hW => ⟨⟨r_18, (m_point_18, m_begin_18, m_draft_18), rfl, h.2, kB_mk hP hK hD ht hW.alike⟩, hS.F ht⟩) hS.2.2 dX8_readRule_62
        · have h := h.2 c_5
          refine lv_aload_n hx hb dX8_readRule_37 rfl (lv_at hl 0 rfl) ?_
          refine lv_iconst (v := 0) hx hb dX8_readRule_38 (by decide) ?_
          refine lv_sipush (v := 2000) hx hb dX8_readRule_39 (by decide) ?_
          refine va_calli (va_runV (As := [.int 0, .int 2000]) (rest := []) ⟨hx, hb, hml, hown, hts⟩ (c_M_X8_number l dC dI ad cB cI cZ cL A m_thrown m_today m_legs m_feeds m_taped m_point m_end m_begin m_faultAt m_farm m_pig m_begun m_first m_weight m_salted m_heat m_isBad m_isSold m_sealedFeed m_hook m_should m_on m_warmth m_damp m_isOpen m_fFarm m_fFrom m_fWhat m_fTold m_rule m_draft m_tape m_five m_those 0 2000 _ h) (cwV 2 hts gX8_readRule_X8_number rfl rfl rfl (by decide +kernel) ⟨(Nat.le_of_ble_eq_true rfl), (Nat.le_of_ble_eq_true rfl)⟩) ⟨kC_blind, va_recv hK hP (ci := 8) (q0 := 0) rfl wM_g0, fun U hU hW => ⟨rfl, kC_go hA hS hP hK hD hE U hU hW⟩⟩ rfl rfl hl.1 rfl (lv_room (Nat.le_of_ble_eq_true rfl)) dX8_readRule_42 ⟨(Nat.le_of_ble_eq_true rfl), (Nat.le_of_ble_eq_true rfl)⟩) hS (fun q _ h => h) (fun q h => h) (fun r_19 u t H locs ht hvm hw hB hz1 hk1 hS => ?_)
          obtain ⟨m_point_19, m_begin_19, m_draft_19⟩ := u
          have h := hw
          try dsimp only at h
          have hP : va_P (dC, dI) vwCl (wM ad cB cI cZ cL m_thrown m_today m_legs m_feeds m_taped m_point_19 m_end m_begin_19 m_faultAt m_farm m_pig m_begun m_first m_weight m_salted m_heat m_isBad m_isSold m_sealedFeed m_hook m_should m_on m_warmth m_damp m_isOpen m_fFarm m_fFrom m_fWhat m_fTold m_rule m_draft_19 m_tape m_five m_those) H := by rw [← ht]; exact hB.1
          have hD : va_D A (wM ad cB cI cZ cL m_thrown m_today m_legs m_feeds m_taped m_point_19 m_end m_begin_19 m_faultAt m_farm m_pig m_begun m_first m_weight m_salted m_heat m_isBad m_isSold m_sealedFeed m_hook m_should m_on m_warmth m_damp m_isOpen m_fFarm m_fFrom m_fWhat m_fTold m_rule m_draft_19 m_tape m_five m_those) := hB.2.2
          exact W.zret (v := r_19) (ty := .boolean) hx hb hr (z01 h.1) (fun t ht hW => ⟨⟨r_19, (m_point_19, m_begin_19, m_draft_19), rfl, h.2, kB_mk hP hK hD ht hW.alike⟩, hS.F ht⟩) hS.2.2 dX8_readRule_45
      · have h := h.2 c_3
        refine lv_aload_n hx hb dX8_readRule_15 rfl (lv_at hl 0 rfl) ?_
        refine lv_dup hx hb dX8_readRule_16 rfl ?_
        refine va_get (D := (dC, dI)) (ci := 8) (v := .int m_point) (C := RX8) (T := TX8) (N := 34) hx hb hts hk_1 hown hK hP 0 wM_g0 rfl 28 (by decide) hk_0 (fun _ h9 => h9) rfl dX8_readRule_17 ?_
        refine lv_iconst (v := 1) hx hb dX8_readRule_20 (by decide) ?_
        refine lv_iadd hx hb dX8_readRule_21 ?_
        refine va_put (D := (dC, dI)) (ci := 8) (v := .int (m_point + 1)) (ty := .int) (C := RX8) (T := TX8) (N := 34) hx hb hts hk_1 tyX8 tyX8_ok nmX8 hown hK hP hD hS 0 wM_g0 rfl 28 (by decide) hk_0 (fun _ h9 => h9) rfl (by decide +kernel) rfl rfl (Nat.le_of_ble_eq_true rfl) dX8_readRule_22 (fun H locs hP2 hD2 hS => ?_)
        have hP : va_P (dC, dI) vwCl (wM ad cB cI cZ cL m_thrown m_today m_legs m_feeds m_taped (m_point + 1) m_end m_begin m_faultAt m_farm m_pig m_begun m_first m_weight m_salted m_heat m_isBad m_isSold m_sealedFeed m_hook m_should m_on m_warmth m_damp m_isOpen m_fFarm m_fFrom m_fWhat m_fTold m_rule m_draft m_tape m_five m_those) H := hP_eq (wM_p_m_point) hP2
        have hD : va_D A (wM ad cB cI cZ cL m_thrown m_today m_legs m_feeds m_taped (m_point + 1) m_end m_begin m_faultAt m_farm m_pig m_begun m_first m_weight m_salted m_heat m_isBad m_isSold m_sealedFeed m_hook m_should m_on m_warmth m_damp m_isOpen m_fFarm m_fFrom m_fWhat m_fTold m_rule m_draft m_tape m_five m_those) := hD_eq (wM_p_m_point) hD2
        refine lv_goto (tgt := 4) hx hb dX8_readRule_25 (by decide) ?_
        exact ih (m_point + 1) m_begin m_draft _ _ _ hP hD hS (lv_sub hl [0] rfl) h
  have hl := lv_entry ([.ref (ad 0)]) (n := 1) (Nat.le_of_ble_eq_true rfl)
  rw [lg_entry_eq]
  generalize (lg_sl ([.ref (ad 0)]) ++ List.replicate (1 - (lg_sl ([.ref (ad 0)])).length) Slot.unset).toArray = ls at hl ⊢
  have hl : lv_has ls 1 [(0, .ref (ad 0))] := hl
  unfold wp_M_X8_readRule at h
  refine lv_aload_n hx hb dX8_readRule_0 rfl (lv_at hl 0 rfl) ?_
  refine va_callv (va_runV (As := []) (rest := []) ⟨hx, hb, hml, hown, hts⟩ (c_M_X8_blanks l dC dI ad cB cI cZ cL A m_thrown m_today m_legs m_feeds m_taped m_point m_end m_begin m_faultAt m_farm m_pig m_begun m_first m_weight m_salted m_heat m_isBad m_isSold m_sealedFeed m_hook m_should m_on m_warmth m_damp m_isOpen m_fFarm m_fFrom m_fWhat m_fTold m_rule m_draft m_tape m_five m_those _ h) (cwV 0 hts gX8_readRule_X8_blanks rfl rfl rfl (by decide +kernel) ⟨(Nat.le_of_ble_eq_true rfl), (Nat.le_of_ble_eq_true rfl)⟩) ⟨kC_blind, va_recv hK hP (ci := 8) (q0 := 0) rfl wM_g0, fun U hU hW => ⟨rfl, kC_go hA hS hP hK hD hE U hU hW⟩⟩ rfl rfl hl.1 rfl (lv_room (Nat.le_of_ble_eq_true rfl)) dX8_readRule_1 ⟨(Nat.le_of_ble_eq_true rfl), (Nat.le_of_ble_eq_true rfl)⟩) hS (fun q _ h => h) (fun q h => h) (fun u t H locs ht hvm hw hB hz1 hk1 hS => ?_)
  obtain ⟨m_point_1, m_begin_1⟩ := u
  have h := hw
  try dsimp only at h
  have hP : va_P (dC, dI) vwCl (wM ad cB cI cZ cL m_thrown m_today m_legs m_feeds m_taped m_point_1 m_end m_begin_1 m_faultAt m_farm m_pig m_begun m_first m_weight m_salted m_heat m_isBad m_isSold m_sealedFeed m_hook m_should m_on m_warmth m_damp m_isOpen m_fFarm m_fFrom m_fWhat m_fTold m_rule m_draft m_tape m_five m_those) H := by rw [← ht]; exact hB.1
  have hD : va_D A (wM ad cB cI cZ cL m_thrown m_today m_legs m_feeds m_taped m_point_1 m_end m_begin_1 m_faultAt m_farm m_pig m_begun m_first m_weight m_salted m_heat m_isBad m_isSold m_sealedFeed m_hook m_should m_on m_warmth m_damp m_isOpen m_fFarm m_fFrom m_fWhat m_fTold m_rule m_draft m_tape m_five m_those) := hB.2.2
  obtain ⟨n_20, h⟩ := h
  exact hlp_M_X8_readRule_4 n_20 m_point_1 m_begin_1 m_draft _ _ _ hP hD hS (lv_sub hl [0] rfl) h
def lp_M_X8_rules_146 (m_tape : Nat → Int32)  (Q : Int32 → Int32 → Int32 → Int32 → Int32 → Int32 → Int32 → (Nat → Int32) → (Nat → Int32) → Prop) : Nat → Int32 → Int32 → Int32 → Int32 → Int32 → Int32 → (Nat → Int32) → (Nat → Int32) → Int32 → Int32 → Prop
  | 0 => fun _ _ _ _ _ _ _ _ _ _ => False
  | n + 1 => fun m_thrown m_taped m_point m_end m_begin m_faultAt m_rule m_draft v1 v3 => ((5 ≤ v3 → Q v1 m_thrown m_taped m_point m_end m_begin m_faultAt m_rule m_draft) ∧ (¬ (5 ≤ v3) → (vp_in v3 5 ∧ (vp_in v3 5 ∧ lp_M_X8_rules_146 m_tape Q n m_thrown m_taped m_point m_end m_begin m_faultAt (upd m_rule v3.toNatClampNeg (m_draft v3.toNatClampNeg)) m_draft v1 (v3 + 1)))))
def bk_M_X8_rules_135 (m_tape : Nat → Int32)  (Q : Int32 → Int32 → Int32 → Int32 → Int32 → Int32 → Int32 → (Nat → Int32) → (Nat → Int32) → Prop) (m_thrown : Int32) (m_taped : Int32) (m_point : Int32) (m_end : Int32) (m_begin : Int32) (m_faultAt : Int32) (m_rule : Nat → Int32) (m_draft : Nat → Int32) (v1 : Int32) (k0 : Int32) : Prop := wp_M_X8_throwsIf (fun r_6 m_thrown_6 => ((r_6 = 0 → (∃ n_11, lp_M_X8_rules_146 m_tape Q n_11 m_thrown_6 m_taped m_point m_end m_begin m_faultAt m_rule m_draft v1 0)) ∧ (¬ (r_6 = 0) → Q 0 m_thrown_6 m_taped m_point m_end m_begin m_faultAt m_rule m_draft))) m_thrown k0 1
def bk_M_X8_rules_122 (m_tape : Nat → Int32)  (Q : Int32 → Int32 → Int32 → Int32 → Int32 → Int32 → Int32 → (Nat → Int32) → (Nat → Int32) → Prop) (m_thrown : Int32) (m_taped : Int32) (m_point : Int32) (m_end : Int32) (m_begin : Int32) (m_faultAt : Int32) (m_rule : Nat → Int32) (m_draft : Nat → Int32) (v1 : Int32) (v2 : Int32) (k0 : Int32) : Prop := ((¬ v2 = 0 → bk_M_X8_rules_135 m_tape Q m_thrown m_taped m_point m_end m_begin k0 m_rule m_draft v1 0) ∧ (v2 = 0 → bk_M_X8_rules_135 m_tape Q m_thrown m_taped m_point m_end m_begin k0 m_rule m_draft v1 1))
def bk_M_X8_rules_109 (m_tape : Nat → Int32)  (Q : Int32 → Int32 → Int32 → Int32 → Int32 → Int32 → Int32 → (Nat → Int32) → (Nat → Int32) → Prop) (m_thrown : Int32) (m_taped : Int32) (m_point : Int32) (m_end : Int32) (m_begin : Int32) (m_faultAt : Int32) (m_rule : Nat → Int32) (m_draft : Nat → Int32) (v1 : Int32) (v2 : Int32) : Prop := ((v2 = 0 → bk_M_X8_rules_122 m_tape Q m_thrown m_taped m_point m_end m_begin m_faultAt m_rule m_draft v1 v2 m_begin) ∧ (¬ (v2 = 0) → bk_M_X8_rules_122 m_tape Q m_thrown m_taped m_point m_end m_begin m_faultAt m_rule m_draft v1 v2 (-1)))
def lp_M_X8_rules_50 (m_tape : Nat → Int32)  (Q : Int32 → Int32 → Int32 → Int32 → Int32 → Int32 → Int32 → (Nat → Int32) → (Nat → Int32) → Prop) : Nat → Int32 → Int32 → Int32 → Int32 → Int32 → Int32 → (Nat → Int32) → (Nat → Int32) → Int32 → Int32 → Prop
  | 0 => fun _ _ _ _ _ _ _ _ _ _ => False
  | n + 1 => fun m_thrown m_taped m_point m_end m_begin m_faultAt m_rule m_draft v1 v2 => ((v2 = 0 → bk_M_X8_rules_109 m_tape Q m_thrown m_taped m_point m_end m_begin m_faultAt m_rule m_draft v1 v2) ∧ (¬ (v2 = 0) → wp_M_X8_blanks m_end m_tape (fun m_point_12 m_begin_12 => ((¬ m_point_12 = m_end → wp_M_X8_isAt m_point_12 m_end m_tape (fun r_14 => ((¬ r_14 = 0 → wp_M_X8_readRule m_end m_tape (fun r_16 m_point_16 m_begin_16 m_draft_16 => lp_M_X8_rules_50 m_tape Q n m_thrown m_taped m_point_16 m_end m_begin_16 m_faultAt m_rule m_draft_16 (v1 + 1) r_16) (m_point_12 + 1) m_begin_12 m_draft) ∧ (r_14 = 0 → bk_M_X8_rules_109 m_tape Q m_thrown m_taped m_point_12 m_end m_begin_12 m_faultAt m_rule m_draft (v1 + 1) r_14))) 59 59) ∧ (m_point_12 = m_end → bk_M_X8_rules_109 m_tape Q m_thrown m_taped m_point_12 m_end m_begin_12 m_faultAt m_rule m_draft (v1 + 1) v2))) m_point m_begin))
def lp_M_X8_rules_25 (m_tape : Nat → Int32)  (Q : Int32 → Int32 → Int32 → Int32 → Int32 → Int32 → Int32 → (Nat → Int32) → (Nat → Int32) → Prop) : Nat → Int32 → Int32 → Int32 → Int32 → Int32 → Int32 → (Nat → Int32) → (Nat → Int32) → Int32 → Prop
  | 0 => fun _ _ _ _ _ _ _ _ _ => False
  | n + 1 => fun m_thrown m_taped m_point m_end m_begin m_faultAt m_rule m_draft v1 => ((5 ≤ v1 → wp_M_X8_readRule m_end m_tape (fun r_2 m_point_2 m_begin_2 m_draft_2 => (∃ n_17, lp_M_X8_rules_50 m_tape Q n_17 m_thrown m_taped m_point_2 m_end m_begin_2 m_faultAt m_rule m_draft_2 0 r_2)) m_point m_begin m_draft) ∧ (¬ (5 ≤ v1) → (vp_in v1 5 ∧ lp_M_X8_rules_25 m_tape Q n m_thrown m_taped m_point m_end m_begin m_faultAt m_rule (upd m_draft v1.toNatClampNeg 0) (v1 + 1))))
def wp_M_X8_rules (m_tape : Nat → Int32) (Q : Int32 → Int32 → Int32 → Int32 → Int32 → Int32 → Int32 → (Nat → Int32) → (Nat → Int32) → Prop) (m_thrown : Int32) (m_taped : Int32) (m_point : Int32) (m_end : Int32) (m_begin : Int32) (m_faultAt : Int32) (m_rule : Nat → Int32) (m_draft : Nat → Int32) : Prop := (∃ n_19, lp_M_X8_rules_25 m_tape Q n_19 0 0 0 m_taped m_begin m_faultAt m_rule m_draft 0)
def rm_M_X8_rules : Room := { frames := 6, cells := 0, slots := 0, locals := 128 }
abbrev pq_M_X8_rules (dC : Nat → ClassId) (dI : Nat → Nat → Nat) (ad : Nat → Nat) (cB cI cZ cL : ClassId) (A : Nat → Prop) (m_thrown m_today m_legs m_feeds m_taped m_point m_end m_begin m_faultAt : Int32) (m_farm m_pig m_begun m_first m_weight m_salted m_heat m_isBad m_isSold m_sealedFeed m_hook m_should m_on m_warmth m_damp m_isOpen m_fFarm m_fFrom m_fWhat m_fTold m_rule m_draft m_tape m_five m_those : Nat → Int32) (Q : Int32 → Int32 → Int32 → Int32 → Int32 → Int32 → Int32 → (Nat → Int32) → (Nat → Int32) → Prop) : Array Value → State → Outcome → State → Prop := va_Qi (fun (r : Int32) (u : Int32 × Int32 × Int32 × Int32 × Int32 × Int32 × (Nat → Int32) × (Nat → Int32)) => Q r u.1 u.2.1 u.2.2.1 u.2.2.2.1 u.2.2.2.2.1 u.2.2.2.2.2.1 u.2.2.2.2.2.2.1 u.2.2.2.2.2.2.2) (fun u t => kB dC dI A (wM ad cB cI cZ cL u.1 m_today m_legs m_feeds u.2.1 u.2.2.1 u.2.2.2.1 u.2.2.2.2.1 u.2.2.2.2.2.1 m_farm m_pig m_begun m_first m_weight m_salted m_heat m_isBad m_isSold m_sealedFeed m_hook m_should m_on m_warmth m_damp m_isOpen m_fFarm m_fFrom m_fWhat m_fTold u.2.2.2.2.2.2.1 u.2.2.2.2.2.2.2 m_tape m_five m_those) (kTy cB cI cZ cL) t) A
set_option maxHeartbeats 4000000 in
set_option maxRecDepth 100000 in
theorem c_M_X8_rules (l : Launch) (dC : Nat → ClassId) (dI : Nat → Nat → Nat) (ad : Nat → Nat) (cB cI cZ cL : ClassId) (A : Nat → Prop) (m_thrown m_today m_legs m_feeds m_taped m_point m_end m_begin m_faultAt : Int32) (m_farm m_pig m_begun m_first m_weight m_salted m_heat m_isBad m_isSold m_sealedFeed m_hook m_should m_on m_warmth m_damp m_isOpen m_fFarm m_fFrom m_fWhat m_fTold m_rule m_draft m_tape m_five m_those : Nat → Int32)   (Q : Int32 → Int32 → Int32 → Int32 → Int32 → Int32 → Int32 → (Nat → Int32) → (Nat → Int32) → Prop) (h : wp_M_X8_rules m_tape Q m_thrown m_taped m_point m_end m_begin m_faultAt m_rule m_draft) : Met l yX8_rules wsX8_rules rm_M_X8_rules (va_Pc [.ref (ad 0)] (kC dC dI ad A (wM ad cB cI cZ cL m_thrown m_today m_legs m_feeds m_taped m_point m_end m_begin m_faultAt m_farm m_pig m_begun m_first m_weight m_salted m_heat m_isBad m_isSold m_sealedFeed m_hook m_should m_on m_warmth m_damp m_isOpen m_fFarm m_fFrom m_fWhat m_fTold m_rule m_draft m_tape m_five m_those) (kTy cB cI cZ cL))) (pq_M_X8_rules dC dI ad cB cI cZ cL A m_thrown m_today m_legs m_feeds m_taped m_point m_end m_begin m_faultAt m_farm m_pig m_begun m_first m_weight m_salted m_heat m_isBad m_isSold m_sealedFeed m_hook m_should m_on m_warmth m_damp m_isOpen m_fFarm m_fFrom m_fWhat m_fTold m_rule m_draft m_tape m_five m_those Q) 0 0 A := by
  refine Met.ofW (cc := cX8_rules) (maxL := 4) (ret := (some .int)) (by decide) rfl ?_
  intro p e s m args below meth c s₁ B hml hv
  obtain ⟨rfl, hA, hP, hK, hD, hE⟩ := hv
  have hx := B.exec
  have hb := B.bytes
  have hr := B.returns
  have hts := atoms_spec (ws := wsX8_rules) B.pre
  have hown : s.vm.findClass RX8 = some m.cls := findClass_of_methodNamed B.named
  have hlocks := B.notSynchronized
  have hS : va_S A s.heap s.heap [] := va_S.rf
  have hk_0 := hts (.fieldLink RX8 1 "HamCellarModel" "thrown" "I") (by decide +kernel)
  have hk_1 : ∀ w ∈ wsX80, w ∈ wsX8_rules := by decide +kernel
  have hk_2 := hts (.fieldLink RX8 131 "HamCellarModel" "taped" "I") (by decide +kernel)
  have hk_3 := hts (.fieldLink RX8 137 "HamCellarModel" "end" "I") (by decide +kernel)
  have hk_4 := hts (.fieldLink RX8 134 "HamCellarModel" "point" "I") (by decide +kernel)
  have hk_5 := hts (.fieldLink RX8 143 "HamCellarModel" "begin" "I") (by decide +kernel)
  have hk_6 := hts (.fieldLink RX8 85 "HamCellarModel" "faultAt" "I") (by decide +kernel)
  have hk_7 := hts (.fieldLink RX8 75 "HamCellarModel" "rule" "[I") (by decide +kernel)
  have hk_8 := hts (.fieldLink RX8 78 "HamCellarModel" "draft" "[I") (by decide +kernel)
  have hlp_M_X8_rules_146 : ∀ (n : Nat) (m_thrown : Int32) (m_taped : Int32) (m_point : Int32) (m_end : Int32) (m_begin : Int32) (m_faultAt : Int32) (m_rule : Nat → Int32) (m_draft : Nat → Int32) (v1 : Int32) (v3 : Int32) (H : Heap) (locs : List Loc) (ls : Array Slot), va_P (dC, dI) vwCl (wM ad cB cI cZ cL m_thrown m_today m_legs m_feeds m_taped m_point m_end m_begin m_faultAt m_farm m_pig m_begun m_first m_weight m_salted m_heat m_isBad m_isSold m_sealedFeed m_hook m_should m_on m_warmth m_damp m_isOpen m_fFarm m_fFrom m_fWhat m_fTold m_rule m_draft m_tape m_five m_those) H → va_D A (wM ad cB cI cZ cL m_thrown m_today m_legs m_feeds m_taped m_point m_end m_begin m_faultAt m_farm m_pig m_begun m_first m_weight m_salted m_heat m_isBad m_isSold m_sealedFeed m_hook m_should m_on m_warmth m_damp m_isOpen m_fFarm m_fFrom m_fWhat m_fTold m_rule m_draft m_tape m_five m_those) → va_S A s.heap H locs → lv_has ls 4 [(0, .ref (ad 0)), (1, .int v1), (3, .int v3)] → lp_M_X8_rules_146 m_tape Q n m_thrown m_taped m_point m_end m_begin m_faultAt m_rule m_draft v1 v3 → W p l e (headSpec wsX8_rules rm_M_X8_rules).room s m ([.ref (ad 0)] : List Value).toArray below meth c H locs 0 0 (MQ below (pq_M_X8_rules dC dI ad cB cI cZ cL A m_thrown m_today m_legs m_feeds m_taped m_point m_end m_begin m_faultAt m_farm m_pig m_begun m_first m_weight m_salted m_heat m_isBad m_isSold m_sealedFeed m_hook m_should m_on m_warmth m_damp m_isOpen m_fFarm m_fFrom m_fWhat m_fTold m_rule m_draft m_tape m_five m_those Q) ([.ref (ad 0)] : List Value).toArray s 0 0 A) (F0 m 146 ls []) := by
    intro n
    induction n with
    | zero => intro m_thrown m_taped m_point m_end m_begin m_faultAt m_rule m_draft v1 v3 H locs ls hP hD hS hl h; exact h.elim
    | succ n ih =>
      intro m_thrown m_taped m_point m_end m_begin m_faultAt m_rule m_draft v1 v3 H locs ls hP hD hS hl h
      refine lv_iload_n hx hb dX8_rules_146 rfl (lv_at hl 2 rfl) ?_
      refine lv_iconst (v := 5) hx hb dX8_rules_147 (by decide) ?_
      refine lv_icmp_ge (tgt := 169) hx hb dX8_rules_148 (by decide) (fun c_8 => ?_) (fun c_8 => ?_)
      · have h := h.1 c_8
        refine lv_iload_n hx hb dX8_rules_169 rfl (lv_at hl 1 rfl) ?_
        exact W.iret (v := v1) hx hb hr (fun t ht hW => ⟨⟨v1, (m_thrown, m_taped, m_point, m_end, m_begin, m_faultAt, m_rule, m_draft), rfl, h, kB_mk hP hK hD ht hW.alike⟩, hS.F ht⟩) hS.2.2 dX8_rules_170
      · have h := h.2 c_8
        refine lv_aload_n hx hb dX8_rules_151 rfl (lv_at hl 0 rfl) ?_
        refine va_get (D := (dC, dI)) (ci := 8) (v := .ref (ad 21)) (C := RX8) (T := TX8) (N := 34) hx hb hts hk_1 hown hK hP 0 wM_g0 rfl 24 (by decide) hk_7 (fun _ h9 => h9) rfl dX8_rules_152 ?_
        refine lv_iload_n hx hb dX8_rules_155 rfl (lv_at hl 2 rfl) ?_
        refine lv_aload_n hx hb dX8_rules_156 rfl (lv_at hl 0 rfl) ?_
        refine va_get (D := (dC, dI)) (ci := 8) (v := .ref (ad 22)) (C := RX8) (T := TX8) (N := 34) hx hb hts hk_1 hown hK hP 0 wM_g0 rfl 25 (by decide) hk_8 (fun _ h9 => h9) rfl dX8_rules_157 ?_
        refine lv_iload_n hx hb dX8_rules_160 rfl (lv_at hl 2 rfl) ?_
        have hi_9 := h.1
        have h := h.2
        refine va_iald hx hb hK hP 22 1 wM_g22 rfl hi_9 dX8_rules_161 ?_
        have hi_10 := h.1
        have h := h.2
        refine va_iast hx hb hK hP hD hS 21 1 wM_g21 rfl hi_10 dX8_rules_162 (fun H locs hP2 hD2 hS => ?_)
        have hP : va_P (dC, dI) vwCl (wM ad cB cI cZ cL m_thrown m_today m_legs m_feeds m_taped m_point m_end m_begin m_faultAt m_farm m_pig m_begun m_first m_weight m_salted m_heat m_isBad m_isSold m_sealedFeed m_hook m_should m_on m_warmth m_damp m_isOpen m_fFarm m_fFrom m_fWhat m_fTold (upd m_rule v3.toNatClampNeg (m_draft v3.toNatClampNeg)) m_draft m_tape m_five m_those) H := hP_eq (wM_p_m_rule) hP2
        have hD : va_D A (wM ad cB cI cZ cL m_thrown m_today m_legs m_feeds m_taped m_point m_end m_begin m_faultAt m_farm m_pig m_begun m_first m_weight m_salted m_heat m_isBad m_isSold m_sealedFeed m_hook m_should m_on m_warmth m_damp m_isOpen m_fFarm m_fFrom m_fWhat m_fTold (upd m_rule v3.toNatClampNeg (m_draft v3.toNatClampNeg)) m_draft m_tape m_five m_those) := hD_eq (wM_p_m_rule) hD2
        refine lv_iinc (v := v3 + 1) (lv' := [(3, .int (v3 + 1)), (0, .ref (ad 0)), (1, .int v1)]) hx hb dX8_rules_163 hl (k := 2) rfl rfl (by decide) rfl (fun ls hl => ?_)
        refine lv_goto (tgt := 146) hx hb dX8_rules_166 (by decide) ?_
        exact ih m_thrown m_taped m_point m_end m_begin m_faultAt (upd m_rule v3.toNatClampNeg (m_draft v3.toNatClampNeg)) m_draft v1 (v3 + 1) _ _ _ hP hD hS (lv_sub hl [1, 2, 0] rfl) h
  have hbk_M_X8_rules_135 : ∀ (m_thrown : Int32) (m_taped : Int32) (m_point : Int32) (m_end : Int32) (m_begin : Int32) (m_faultAt : Int32) (m_rule : Nat → Int32) (m_draft : Nat → Int32) (v1 : Int32) (k0 : Int32) (H : Heap) (locs : List Loc) (ls : Array Slot), va_P (dC, dI) vwCl (wM ad cB cI cZ cL m_thrown m_today m_legs m_feeds m_taped m_point m_end m_begin m_faultAt m_farm m_pig m_begun m_first m_weight m_salted m_heat m_isBad m_isSold m_sealedFeed m_hook m_should m_on m_warmth m_damp m_isOpen m_fFarm m_fFrom m_fWhat m_fTold m_rule m_draft m_tape m_five m_those) H → va_D A (wM ad cB cI cZ cL m_thrown m_today m_legs m_feeds m_taped m_point m_end m_begin m_faultAt m_farm m_pig m_begun m_first m_weight m_salted m_heat m_isBad m_isSold m_sealedFeed m_hook m_should m_on m_warmth m_damp m_isOpen m_fFarm m_fFrom m_fWhat m_fTold m_rule m_draft m_tape m_five m_those) → va_S A s.heap H locs → lv_has ls 4 [(0, .ref (ad 0)), (1, .int v1)] → bk_M_X8_rules_135 m_tape Q m_thrown m_taped m_point m_end m_begin m_faultAt m_rule m_draft v1 k0 → W p l e (headSpec wsX8_rules rm_M_X8_rules).room s m ([.ref (ad 0)] : List Value).toArray below meth c H locs 0 0 (MQ below (pq_M_X8_rules dC dI ad cB cI cZ cL A m_thrown m_today m_legs m_feeds m_taped m_point m_end m_begin m_faultAt m_farm m_pig m_begun m_first m_weight m_salted m_heat m_isBad m_isSold m_sealedFeed m_hook m_should m_on m_warmth m_damp m_isOpen m_fFarm m_fFrom m_fWhat m_fTold m_rule m_draft m_tape m_five m_those Q) ([.ref (ad 0)] : List Value).toArray s 0 0 A) (F0 m 135 ls [.int k0, .ref (ad 0)]) := by
    intro m_thrown m_taped m_point m_end m_begin m_faultAt m_rule m_draft v1 k0 H locs ls hP hD hS hl h
    have h : wp_M_X8_throwsIf (fun r_6 m_thrown_6 => ((r_6 = 0 → (∃ n_11, lp_M_X8_rules_146 m_tape Q n_11 m_thrown_6 m_taped m_point m_end m_begin m_faultAt m_rule m_draft v1 0)) ∧ (¬ (r_6 = 0) → Q 0 m_thrown_6 m_taped m_point m_end m_begin m_faultAt m_rule m_draft))) m_thrown k0 1 := h
    refine lv_iconst (v := 1) hx hb dX8_rules_135 (by decide) ?_
    refine va_calli (va_runV (As := [.int k0, .int 1]) (rest := []) ⟨hx, hb, hml, hown, hts⟩ (c_M_X8_throwsIf l dC dI ad cB cI cZ cL A m_thrown m_today m_legs m_feeds m_taped m_point m_end m_begin m_faultAt m_farm m_pig m_begun m_first m_weight m_salted m_heat m_isBad m_isSold m_sealedFeed m_hook m_should m_on m_warmth m_damp m_isOpen m_fFarm m_fFrom m_fWhat m_fTold m_rule m_draft m_tape m_five m_those k0 1 _ h) (cwV 2 hts gX8_rules_X8_throwsIf rfl rfl rfl (by decide +kernel) ⟨(Nat.le_of_ble_eq_true rfl), (Nat.le_of_ble_eq_true rfl)⟩) ⟨kC_blind, va_recv hK hP (ci := 8) (q0 := 0) rfl wM_g0, fun U hU hW => ⟨rfl, kC_go hA hS hP hK hD hE U hU hW⟩⟩ rfl rfl hl.1 rfl (lv_room (Nat.le_of_ble_eq_true rfl)) dX8_rules_136 ⟨(Nat.le_of_ble_eq_true rfl), (Nat.le_of_ble_eq_true rfl)⟩) hS (fun q _ h => h) (fun q h => h) (fun r_6 u t H locs ht hvm hw hB hz1 hk1 hS => ?_)
    obtain ⟨m_thrown_6, rfl⟩ : ∃ z, z = u := ⟨_, rfl⟩
    have h := hw
    try dsimp only at h
    have hP : va_P (dC, dI) vwCl (wM ad cB cI cZ cL m_thrown_6 m_today m_legs m_feeds m_taped m_point m_end m_begin m_faultAt m_farm m_pig m_begun m_first m_weight m_salted m_heat m_isBad m_isSold m_sealedFeed m_hook m_should m_on m_warmth m_damp m_isOpen m_fFarm m_fFrom m_fWhat m_fTold m_rule m_draft m_tape m_five m_those) H := by rw [← ht]; exact hB.1
    have hD : va_D A (wM ad cB cI cZ cL m_thrown_6 m_today m_legs m_feeds m_taped m_point m_end m_begin m_faultAt m_farm m_pig m_begun m_first m_weight m_salted m_heat m_isBad m_isSold m_sealedFeed m_hook m_should m_on m_warmth m_damp m_isOpen m_fFarm m_fFrom m_fWhat m_fTold m_rule m_draft m_tape m_five m_those) := hB.2.2
    refine lv_if_eq (tgt := 144) hx hb dX8_rules_139 (by decide) (fun c_7 => ?_) (fun c_7 => ?_)
    · have h := h.1 c_7
      refine lv_iconst (v := 0) hx hb dX8_rules_144 (by decide) ?_
      refine lv_istore_n (lv' := [(3, .int 0), (0, .ref (ad 0)), (1, .int v1)]) hx hb dX8_rules_145 rfl hl (by decide) rfl (fun ls hl => ?_)
      obtain ⟨n_11, h⟩ := h
      exact hlp_M_X8_rules_146 n_11 m_thrown_6 m_taped m_point m_end m_begin m_faultAt m_rule m_draft v1 0 _ _ _ hP hD hS (lv_sub hl [1, 2, 0] rfl) h
    · have h := h.2 c_7
      refine lv_iconst (v := 0) hx hb dX8_rules_142 (by decide) ?_
      exact W.iret (v := 0) hx hb hr (fun t ht hW => ⟨⟨0, (m_thrown_6, m_taped, m_point, m_end, m_begin, m_faultAt, m_rule, m_draft), rfl, h, kB_mk hP hK hD ht hW.alike⟩, hS.F ht⟩) hS.2.2 dX8_rules_143
  have hbk_M_X8_rules_122 : ∀ (m_thrown : Int32) (m_taped : Int32) (m_point : Int32) (m_end : Int32) (m_begin : Int32) (m_faultAt : Int32) (m_rule : Nat → Int32) (m_draft : Nat → Int32) (v1 : Int32) (v2 : Int32) (k0 : Int32) (H : Heap) (locs : List Loc) (ls : Array Slot), va_P (dC, dI) vwCl (wM ad cB cI cZ cL m_thrown m_today m_legs m_feeds m_taped m_point m_end m_begin m_faultAt m_farm m_pig m_begun m_first m_weight m_salted m_heat m_isBad m_isSold m_sealedFeed m_hook m_should m_on m_warmth m_damp m_isOpen m_fFarm m_fFrom m_fWhat m_fTold m_rule m_draft m_tape m_five m_those) H → va_D A (wM ad cB cI cZ cL m_thrown m_today m_legs m_feeds m_taped m_point m_end m_begin m_faultAt m_farm m_pig m_begun m_first m_weight m_salted m_heat m_isBad m_isSold m_sealedFeed m_hook m_should m_on m_warmth m_damp m_isOpen m_fFarm m_fFrom m_fWhat m_fTold m_rule m_draft m_tape m_five m_those) → va_S A s.heap H locs → lv_has ls 4 [(0, .ref (ad 0)), (1, .int v1), (2, .int v2)] → bk_M_X8_rules_122 m_tape Q m_thrown m_taped m_point m_end m_begin m_faultAt m_rule m_draft v1 v2 k0 → W p l e (headSpec wsX8_rules rm_M_X8_rules).room s m ([.ref (ad 0)] : List Value).toArray below meth c H locs 0 0 (MQ below (pq_M_X8_rules dC dI ad cB cI cZ cL A m_thrown m_today m_legs m_feeds m_taped m_point m_end m_begin m_faultAt m_farm m_pig m_begun m_first m_weight m_salted m_heat m_isBad m_isSold m_sealedFeed m_hook m_should m_on m_warmth m_damp m_isOpen m_fFarm m_fFrom m_fWhat m_fTold m_rule m_draft m_tape m_five m_those Q) ([.ref (ad 0)] : List Value).toArray s 0 0 A) (F0 m 122 ls [.int k0, .ref (ad 0)]) := by
    intro m_thrown m_taped m_point m_end m_begin m_faultAt m_rule m_draft v1 v2 k0 H locs ls hP hD hS hl h
    refine va_put (D := (dC, dI)) (ci := 8) (v := .int k0) (ty := .int) (C := RX8) (T := TX8) (N := 34) hx hb hts hk_1 tyX8 tyX8_ok nmX8 hown hK hP hD hS 0 wM_g0 rfl 31 (by decide) hk_6 (fun _ h9 => h9) rfl (by decide +kernel) rfl rfl (Nat.le_of_ble_eq_true rfl) dX8_rules_122 (fun H locs hP2 hD2 hS => ?_)
    have hP : va_P (dC, dI) vwCl (wM ad cB cI cZ cL m_thrown m_today m_legs m_feeds m_taped m_point m_end m_begin k0 m_farm m_pig m_begun m_first m_weight m_salted m_heat m_isBad m_isSold m_sealedFeed m_hook m_should m_on m_warmth m_damp m_isOpen m_fFarm m_fFrom m_fWhat m_fTold m_rule m_draft m_tape m_five m_those) H := hP_eq (wM_p_m_faultAt) hP2
    have hD : va_D A (wM ad cB cI cZ cL m_thrown m_today m_legs m_feeds m_taped m_point m_end m_begin k0 m_farm m_pig m_begun m_first m_weight m_salted m_heat m_isBad m_isSold m_sealedFeed m_hook m_should m_on m_warmth m_damp m_isOpen m_fFarm m_fFrom m_fWhat m_fTold m_rule m_draft m_tape m_five m_those) := hD_eq (wM_p_m_faultAt) hD2
    refine lv_aload_n hx hb dX8_rules_125 rfl (lv_at hl 0 rfl) ?_
    refine lv_iload_n hx hb dX8_rules_126 rfl (lv_at hl 2 rfl) ?_
    refine lv_if_ne (tgt := 134) hx hb dX8_rules_127 (by decide) (fun c_5 => ?_) (fun c_5 => ?_)
    · have h := h.1 c_5
      refine lv_iconst (v := 0) hx hb dX8_rules_134 (by decide) ?_
      exact hbk_M_X8_rules_135 m_thrown m_taped m_point m_end m_begin k0 m_rule m_draft v1 0 _ _ _ hP hD hS (lv_sub hl [0, 1] rfl) h
    · have h := h.2 c_5
      refine lv_iconst (v := 1) hx hb dX8_rules_130 (by decide) ?_
      refine lv_goto (tgt := 135) hx hb dX8_rules_131 (by decide) ?_
      exact hbk_M_X8_rules_135 m_thrown m_taped m_point m_end m_begin k0 m_rule m_draft v1 1 _ _ _ hP hD hS (lv_sub hl [0, 1] rfl) h
  have hbk_M_X8_rules_109 : ∀ (m_thrown : Int32) (m_taped : Int32) (m_point : Int32) (m_end : Int32) (m_begin : Int32) (m_faultAt : Int32) (m_rule : Nat → Int32) (m_draft : Nat → Int32) (v1 : Int32) (v2 : Int32) (H : Heap) (locs : List Loc) (ls : Array Slot), va_P (dC, dI) vwCl (wM ad cB cI cZ cL m_thrown m_today m_legs m_feeds m_taped m_point m_end m_begin m_faultAt m_farm m_pig m_begun m_first m_weight m_salted m_heat m_isBad m_isSold m_sealedFeed m_hook m_should m_on m_warmth m_damp m_isOpen m_fFarm m_fFrom m_fWhat m_fTold m_rule m_draft m_tape m_five m_those) H → va_D A (wM ad cB cI cZ cL m_thrown m_today m_legs m_feeds m_taped m_point m_end m_begin m_faultAt m_farm m_pig m_begun m_first m_weight m_salted m_heat m_isBad m_isSold m_sealedFeed m_hook m_should m_on m_warmth m_damp m_isOpen m_fFarm m_fFrom m_fWhat m_fTold m_rule m_draft m_tape m_five m_those) → va_S A s.heap H locs → lv_has ls 4 [(0, .ref (ad 0)), (1, .int v1), (2, .int v2)] → bk_M_X8_rules_109 m_tape Q m_thrown m_taped m_point m_end m_begin m_faultAt m_rule m_draft v1 v2 → W p l e (headSpec wsX8_rules rm_M_X8_rules).room s m ([.ref (ad 0)] : List Value).toArray below meth c H locs 0 0 (MQ below (pq_M_X8_rules dC dI ad cB cI cZ cL A m_thrown m_today m_legs m_feeds m_taped m_point m_end m_begin m_faultAt m_farm m_pig m_begun m_first m_weight m_salted m_heat m_isBad m_isSold m_sealedFeed m_hook m_should m_on m_warmth m_damp m_isOpen m_fFarm m_fFrom m_fWhat m_fTold m_rule m_draft m_tape m_five m_those Q) ([.ref (ad 0)] : List Value).toArray s 0 0 A) (F0 m 109 ls []) := by
    intro m_thrown m_taped m_point m_end m_begin m_faultAt m_rule m_draft v1 v2 H locs ls hP hD hS hl h
    refine lv_aload_n hx hb dX8_rules_109 rfl (lv_at hl 0 rfl) ?_
    refine lv_iload_n hx hb dX8_rules_110 rfl (lv_at hl 2 rfl) ?_
    refine lv_if_eq (tgt := 118) hx hb dX8_rules_111 (by decide) (fun c_4 => ?_) (fun c_4 => ?_)
    · have h := h.1 c_4
      refine lv_aload_n hx hb dX8_rules_118 rfl (lv_at hl 0 rfl) ?_
      refine va_get (D := (dC, dI)) (ci := 8) (v := .int m_begin) (C := RX8) (T := TX8) (N := 34) hx hb hts hk_1 hown hK hP 0 wM_g0 rfl 30 (by decide) hk_5 (fun _ h9 => h9) rfl dX8_rules_119 ?_
      exact hbk_M_X8_rules_122 m_thrown m_taped m_point m_end m_begin m_faultAt m_rule m_draft v1 v2 m_begin _ _ _ hP hD hS (lv_sub hl [0, 1, 2] rfl) h
    · have h := h.2 c_4
      refine lv_iconst (v := (-1)) hx hb dX8_rules_114 (by decide) ?_
      refine lv_goto (tgt := 122) hx hb dX8_rules_115 (by decide) ?_
      exact hbk_M_X8_rules_122 m_thrown m_taped m_point m_end m_begin m_faultAt m_rule m_draft v1 v2 (-1) _ _ _ hP hD hS (lv_sub hl [0, 1, 2] rfl) h
  have hlp_M_X8_rules_50 : ∀ (n : Nat) (m_thrown : Int32) (m_taped : Int32) (m_point : Int32) (m_end : Int32) (m_begin : Int32) (m_faultAt : Int32) (m_rule : Nat → Int32) (m_draft : Nat → Int32) (v1 : Int32) (v2 : Int32) (H : Heap) (locs : List Loc) (ls : Array Slot), va_P (dC, dI) vwCl (wM ad cB cI cZ cL m_thrown m_today m_legs m_feeds m_taped m_point m_end m_begin m_faultAt m_farm m_pig m_begun m_first m_weight m_salted m_heat m_isBad m_isSold m_sealedFeed m_hook m_should m_on m_warmth m_damp m_isOpen m_fFarm m_fFrom m_fWhat m_fTold m_rule m_draft m_tape m_five m_those) H → va_D A (wM ad cB cI cZ cL m_thrown m_today m_legs m_feeds m_taped m_point m_end m_begin m_faultAt m_farm m_pig m_begun m_first m_weight m_salted m_heat m_isBad m_isSold m_sealedFeed m_hook m_should m_on m_warmth m_damp m_isOpen m_fFarm m_fFrom m_fWhat m_fTold m_rule m_draft m_tape m_five m_those) → va_S A s.heap H locs → lv_has ls 4 [(0, .ref (ad 0)), (1, .int v1), (2, .int v2)] → lp_M_X8_rules_50 m_tape Q n m_thrown m_taped m_point m_end m_begin m_faultAt m_rule m_draft v1 v2 → W p l e (headSpec wsX8_rules rm_M_X8_rules).room s m ([.ref (ad 0)] : List Value).toArray below meth c H locs 0 0 (MQ below (pq_M_X8_rules dC dI ad cB cI cZ cL A m_thrown m_today m_legs m_feeds m_taped m_point m_end m_begin m_faultAt m_farm m_pig m_begun m_first m_weight m_salted m_heat m_isBad m_isSold m_sealedFeed m_hook m_should m_on m_warmth m_damp m_isOpen m_fFarm m_fFrom m_fWhat m_fTold m_rule m_draft m_tape m_five m_those Q) ([.ref (ad 0)] : List Value).toArray s 0 0 A) (F0 m 50 ls []) := by
    intro n
    induction n with
    | zero => intro m_thrown m_taped m_point m_end m_begin m_faultAt m_rule m_draft v1 v2 H locs ls hP hD hS hl h; exact h.elim
    | succ n ih =>
      intro m_thrown m_taped m_point m_end m_begin m_faultAt m_rule m_draft v1 v2 H locs ls hP hD hS hl h
      refine lv_iload_n hx hb dX8_rules_50 rfl (lv_at hl 2 rfl) ?_
      refine lv_if_eq (tgt := 109) hx hb dX8_rules_51 (by decide) (fun c_3 => ?_) (fun c_3 => ?_)
      · have h := h.1 c_3
        exact hbk_M_X8_rules_109 m_thrown m_taped m_point m_end m_begin m_faultAt m_rule m_draft v1 v2 _ _ _ hP hD hS (lv_sub hl [0, 1, 2] rfl) h
      · have h := h.2 c_3
        refine lv_iinc (v := v1 + 1) (lv' := [(1, .int (v1 + 1)), (0, .ref (ad 0)), (2, .int v2)]) hx hb dX8_rules_54 hl (k := 1) rfl rfl (by decide) rfl (fun ls hl => ?_)
        refine lv_aload_n hx hb dX8_rules_57 rfl (lv_at hl 1 rfl) ?_
        refine va_callv (va_runV (As := []) (rest := []) ⟨hx, hb, hml, hown, hts⟩ (c_M_X8_blanks l dC dI ad cB cI cZ cL A m_thrown m_today m_legs m_feeds m_taped m_point m_end m_begin m_faultAt m_farm m_pig m_begun m_first m_weight m_salted m_heat m_isBad m_isSold m_sealedFeed m_hook m_should m_on m_warmth m_damp m_isOpen m_fFarm m_fFrom m_fWhat m_fTold m_rule m_draft m_tape m_five m_those _ h) (cwV 0 hts gX8_rules_X8_blanks rfl rfl rfl (by decide +kernel) ⟨(Nat.le_of_ble_eq_true rfl), (Nat.le_of_ble_eq_true rfl)⟩) ⟨kC_blind, va_recv hK hP (ci := 8) (q0 := 0) rfl wM_g0, fun U hU hW => ⟨rfl, kC_go hA hS hP hK hD hE U hU hW⟩⟩ rfl rfl hl.1 rfl (lv_room (Nat.le_of_ble_eq_true rfl)) dX8_rules_58 ⟨(Nat.le_of_ble_eq_true rfl), (Nat.le_of_ble_eq_true rfl)⟩) hS (fun q _ h => h) (fun q h => h) (fun u t H locs ht hvm hw hB hz1 hk1 hS => ?_)
        obtain ⟨m_point_12, m_begin_12⟩ := u
        have h := hw
        try dsimp only at h
        have hP : va_P (dC, dI) vwCl (wM ad cB cI cZ cL m_thrown m_today m_legs m_feeds m_taped m_point_12 m_end m_begin_12 m_faultAt m_farm m_pig m_begun m_first m_weight m_salted m_heat m_isBad m_isSold m_sealedFeed m_hook m_should m_on m_warmth m_damp m_isOpen m_fFarm m_fFrom m_fWhat m_fTold m_rule m_draft m_tape m_five m_those) H := by rw [← ht]; exact hB.1
        have hD : va_D A (wM ad cB cI cZ cL m_thrown m_today m_legs m_feeds m_taped m_point_12 m_end m_begin_12 m_faultAt m_farm m_pig m_begun m_first m_weight m_salted m_heat m_isBad m_isSold m_sealedFeed m_hook m_should m_on m_warmth m_damp m_isOpen m_fFarm m_fFrom m_fWhat m_fTold m_rule m_draft m_tape m_five m_those) := hB.2.2
        refine lv_aload_n hx hb dX8_rules_61 rfl (lv_at hl 1 rfl) ?_
        refine va_get (D := (dC, dI)) (ci := 8) (v := .int m_point_12) (C := RX8) (T := TX8) (N := 34) hx hb hts hk_1 hown hK hP 0 wM_g0 rfl 28 (by decide) hk_4 (fun _ h9 => h9) rfl dX8_rules_62 ?_
        refine lv_aload_n hx hb dX8_rules_65 rfl (lv_at hl 1 rfl) ?_
        refine va_get (D := (dC, dI)) (ci := 8) (v := .int m_end) (C := RX8) (T := TX8) (N := 34) hx hb hts hk_1 hown hK hP 0 wM_g0 rfl 29 (by decide) hk_3 (fun _ h9 => h9) rfl dX8_rules_66 ?_
        refine lv_icmp_ne (tgt := 75) hx hb dX8_rules_69 (by decide) (fun c_13 => ?_) (fun c_13 => ?_)
        · have h := h.1 c_13
          refine lv_aload_n hx hb dX8_rules_75 rfl (lv_at hl 1 rfl) ?_
          refine lv_bipush (v := 59) hx hb dX8_rules_76 (by decide) ?_
          refine lv_bipush (v := 59) hx hb dX8_rules_78 (by decide) ?_
          refine va_calli (va_runV (As := [.int 59, .int 59]) (rest := []) ⟨hx, hb, hml, hown, hts⟩ (c_M_X8_isAt l dC dI ad cB cI cZ cL A m_thrown m_today m_legs m_feeds m_taped m_point_12 m_end m_begin_12 m_faultAt m_farm m_pig m_begun m_first m_weight m_salted m_heat m_isBad m_isSold m_sealedFeed m_hook m_should m_on m_warmth m_damp m_isOpen m_fFarm m_fFrom m_fWhat m_fTold m_rule m_draft m_tape m_five m_those 59 59 _ h) (cwV 2 hts gX8_rules_X8_isAt rfl rfl rfl (by decide +kernel) ⟨(Nat.le_of_ble_eq_true rfl), (Nat.le_of_ble_eq_true rfl)⟩) ⟨kC_blind, va_recv hK hP (ci := 8) (q0 := 0) rfl wM_g0, fun U hU hW => ⟨rfl, kC_go hA hS hP hK hD hE U hU hW⟩⟩ rfl rfl hl.1 rfl (lv_room (Nat.le_of_ble_eq_true rfl)) dX8_rules_80 ⟨(Nat.le_of_ble_eq_true rfl), (Nat.le_of_ble_eq_true rfl)⟩) hS (fun q _ h => h) (fun q h => h) (fun r_14 u t H locs ht hvm hw hB hz1 hk1 hS => ?_)
          have h := hw
          try dsimp only at h
          have hP : va_P (dC, dI) vwCl (wM ad cB cI cZ cL m_thrown m_today m_legs m_feeds m_taped m_point_12 m_end m_begin_12 m_faultAt m_farm m_pig m_begun m_first m_weight m_salted m_heat m_isBad m_isSold m_sealedFeed m_hook m_should m_on m_warmth m_damp m_isOpen m_fFarm m_fFrom m_fWhat m_fTold m_rule m_draft m_tape m_five m_those) H := by rw [← ht]; exact hB.1
          have hD : va_D A (wM ad cB cI cZ cL m_thrown m_today m_legs m_feeds m_taped m_point_12 m_end m_begin_12 m_faultAt m_farm m_pig m_begun m_first m_weight m_salted m_heat m_isBad m_isSold m_sealedFeed m_hook m_should m_on m_warmth m_damp m_isOpen m_fFarm m_fFrom m_fWhat m_fTold m_rule m_draft m_tape m_five m_those) := hB.2.2
          refine lv_istore_n (lv' := [(2, .int r_14), (1, .int (v1 + 1)), (0, .ref (ad 0))]) hx hb dX8_rules_83 rfl hl (by decide) rfl (fun ls hl => ?_)
          refine lv_iload_n hx hb dX8_rules_84 rfl (lv_at hl 0 rfl) ?_
          refine lv_if_ne (tgt := 91) hx hb dX8_rules_85 (by decide) (fun c_15 => ?_) (fun c_15 => ?_)
          · have h := h.1 c_15
            refine lv_aload_n hx hb dX8_rules_91 rfl (lv_at hl 2 rfl) ?_
            refine lv_dup hx hb dX8_rules_92 rfl ?_
            refine va_get (D := (dC, dI)) (ci := 8) (v := .int m_point_12) (C := RX8) (T := TX8) (N := 34) hx hb hts hk_1 hown hK hP 0 wM_g0 rfl 28 (by decide) hk_4 (fun _ h9 => h9) rfl dX8_rules_93 ?_
            refine lv_iconst (v := 1) hx hb dX8_rules_96 (by decide) ?_
            refine lv_iadd hx hb dX8_rules_97 ?_
            refine va_put (D := (dC, dI)) (ci := 8) (v := .int (m_point_12 + 1)) (ty := .int) (C := RX8) (T := TX8) (N := 34) hx hb hts hk_1 tyX8 tyX8_ok nmX8 hown hK hP hD hS 0 wM_g0 rfl 28 (by decide) hk_4 (fun _ h9 => h9) rfl (by decide +kernel) rfl rfl (Nat.le_of_ble_eq_true rfl) dX8_rules_98 (fun H locs hP2 hD2 hS => ?_)
            have hP : va_P (dC, dI) vwCl (wM ad cB cI cZ cL m_thrown m_today m_legs m_feeds m_taped (m_point_12 + 1) m_end m_begin_12 m_faultAt m_farm m_pig m_begun m_first m_weight m_salted m_heat m_isBad m_isSold m_sealedFeed m_hook m_should m_on m_warmth m_damp m_isOpen m_fFarm m_fFrom m_fWhat m_fTold m_rule m_draft m_tape m_five m_those) H := hP_eq (wM_p_m_point) hP2
            have hD : va_D A (wM ad cB cI cZ cL m_thrown m_today m_legs m_feeds m_taped (m_point_12 + 1) m_end m_begin_12 m_faultAt m_farm m_pig m_begun m_first m_weight m_salted m_heat m_isBad m_isSold m_sealedFeed m_hook m_should m_on m_warmth m_damp m_isOpen m_fFarm m_fFrom m_fWhat m_fTold m_rule m_draft m_tape m_five m_those) := hD_eq (wM_p_m_point) hD2
            refine lv_aload_n hx hb dX8_rules_101 rfl (lv_at hl 2 rfl) ?_
            refine va_calli (va_runV (As := []) (rest := []) ⟨hx, hb, hml, hown, hts⟩ (c_M_X8_readRule l dC dI ad cB cI cZ cL A m_thrown m_today m_legs m_feeds m_taped (m_point_12 + 1) m_end m_begin_12 m_faultAt m_farm m_pig m_begun m_first m_weight m_salted m_heat m_isBad m_isSold m_sealedFeed m_hook m_should m_on m_warmth m_damp m_isOpen m_fFarm m_fFrom m_fWhat m_fTold m_rule m_draft m_tape m_five m_those _ h) (cwV 0 hts gX8_rules_X8_readRule rfl rfl rfl (by decide +kernel) ⟨(Nat.le_of_ble_eq_true rfl), (Nat.le_of_ble_eq_true rfl)⟩) ⟨kC_blind, va_recv hK hP (ci := 8) (q0 := 0) rfl wM_g0, fun U hU hW => ⟨rfl, kC_go hA hS hP hK hD hE U hU hW⟩⟩ rfl rfl hl.1 rfl (lv_room (Nat.le_of_ble_eq_true rfl)) dX8_rules_102 ⟨(Nat.le_of_ble_eq_true rfl), (Nat.le_of_ble_eq_true rfl)⟩) hS (fun q _ h => h) (fun q h => h) (fun r_16 u t H locs ht hvm hw hB hz1 hk1 hS => ?_)
            obtain ⟨m_point_16, m_begin_16, m_draft_16⟩ := u
            have h := hw
            try dsimp only at h
            have hP : va_P (dC, dI) vwCl (wM ad cB cI cZ cL m_thrown m_today m_legs m_feeds m_taped m_point_16 m_end m_begin_16 m_faultAt m_farm m_pig m_begun m_first m_weight m_salted m_heat m_isBad m_isSold m_sealedFeed m_hook m_should m_on m_warmth m_damp m_isOpen m_fFarm m_fFrom m_fWhat m_fTold m_rule m_draft_16 m_tape m_five m_those) H := by rw [← ht]; exact hB.1
            have hD : va_D A (wM ad cB cI cZ cL m_thrown m_today m_legs m_feeds m_taped m_point_16 m_end m_begin_16 m_faultAt m_farm m_pig m_begun m_first m_weight m_salted m_heat m_isBad m_isSold m_sealedFeed m_hook m_should m_on m_warmth m_damp m_isOpen m_fFarm m_fFrom m_fWhat m_fTold m_rule m_draft_16 m_tape m_five m_those) := hB.2.2
            refine lv_istore_n (lv' := [(2, .int r_16), (1, .int (v1 + 1)), (0, .ref (ad 0))]) hx hb dX8_rules_105 rfl hl (by decide) rfl (fun ls hl => ?_)
            refine lv_goto (tgt := 50) hx hb dX8_rules_106 (by decide) ?_
            exact ih m_thrown m_taped m_point_16 m_end m_begin_16 m_faultAt m_rule m_draft_16 (v1 + 1) r_16 _ _ _ hP hD hS (lv_sub hl [2, 1, 0] rfl) h
          · have h := h.2 c_15
            refine lv_goto (tgt := 109) hx hb dX8_rules_88 (by decide) ?_
            exact hbk_M_X8_rules_109 m_thrown m_taped m_point_12 m_end m_begin_12 m_faultAt m_rule m_draft (v1 + 1) r_14 _ _ _ hP hD hS (lv_sub hl [2, 1, 0] rfl) h
        · have h := h.2 c_13
          refine lv_goto (tgt := 109) hx hb dX8_rules_72 (by decide) ?_
          exact hbk_M_X8_rules_109 m_thrown m_taped m_point_12 m_end m_begin_12 m_faultAt m_rule m_draft (v1 + 1) v2 _ _ _ hP hD hS (lv_sub hl [1, 0, 2] rfl) h
  have hlp_M_X8_rules_25 : ∀ (n : Nat) (m_thrown : Int32) (m_taped : Int32) (m_point : Int32) (m_end : Int32) (m_begin : Int32) (m_faultAt : Int32) (m_rule : Nat → Int32) (m_draft : Nat → Int32) (v1 : Int32) (H : Heap) (locs : List Loc) (ls : Array Slot), va_P (dC, dI) vwCl (wM ad cB cI cZ cL m_thrown m_today m_legs m_feeds m_taped m_point m_end m_begin m_faultAt m_farm m_pig m_begun m_first m_weight m_salted m_heat m_isBad m_isSold m_sealedFeed m_hook m_should m_on m_warmth m_damp m_isOpen m_fFarm m_fFrom m_fWhat m_fTold m_rule m_draft m_tape m_five m_those) H → va_D A (wM ad cB cI cZ cL m_thrown m_today m_legs m_feeds m_taped m_point m_end m_begin m_faultAt m_farm m_pig m_begun m_first m_weight m_salted m_heat m_isBad m_isSold m_sealedFeed m_hook m_should m_on m_warmth m_damp m_isOpen m_fFarm m_fFrom m_fWhat m_fTold m_rule m_draft m_tape m_five m_those) → va_S A s.heap H locs → lv_has ls 4 [(0, .ref (ad 0)), (1, .int v1)] → lp_M_X8_rules_25 m_tape Q n m_thrown m_taped m_point m_end m_begin m_faultAt m_rule m_draft v1 → W p l e (headSpec wsX8_rules rm_M_X8_rules).room s m ([.ref (ad 0)] : List Value).toArray below meth c H locs 0 0 (MQ below (pq_M_X8_rules dC dI ad cB cI cZ cL A m_thrown m_today m_legs m_feeds m_taped m_point m_end m_begin m_faultAt m_farm m_pig m_begun m_first m_weight m_salted m_heat m_isBad m_isSold m_sealedFeed m_hook m_should m_on m_warmth m_damp m_isOpen m_fFarm m_fFrom m_fWhat m_fTold m_rule m_draft m_tape m_five m_those Q) ([.ref (ad 0)] : List Value).toArray s 0 0 A) (F0 m 25 ls []) := by
    intro n
    induction n with
    | zero => intro m_thrown m_taped m_point m_end m_begin m_faultAt m_rule m_draft v1 H locs ls hP hD hS hl h; exact h.elim
    | succ n ih =>
      intro m_thrown m_taped m_point m_end m_begin m_faultAt m_rule m_draft v1 H locs ls hP hD hS hl h
      refine lv_iload_n hx hb dX8_rules_25 rfl (lv_at hl 1 rfl) ?_
      refine lv_iconst (v := 5) hx hb dX8_rules_26 (by decide) ?_
      refine lv_icmp_ge (tgt := 43) hx hb dX8_rules_27 (by decide) (fun c_1 => ?_) (fun c_1 => ?_)
      · have h := h.1 c_1
        refine lv_iconst (v := 0) hx hb dX8_rules_43 (by decide) ?_
        refine lv_istore_n (lv' := [(1, .int 0), (0, .ref (ad 0))]) hx hb dX8_rules_44 rfl hl (by decide) rfl (fun ls hl => ?_)
        refine lv_aload_n hx hb dX8_rules_45 rfl (lv_at hl 1 rfl) ?_
        refine va_calli (va_runV (As := []) (rest := []) ⟨hx, hb, hml, hown, hts⟩ (c_M_X8_readRule l dC dI ad cB cI cZ cL A m_thrown m_today m_legs m_feeds m_taped m_point m_end m_begin m_faultAt m_farm m_pig m_begun m_first m_weight m_salted m_heat m_isBad m_isSold m_sealedFeed m_hook m_should m_on m_warmth m_damp m_isOpen m_fFarm m_fFrom m_fWhat m_fTold m_rule m_draft m_tape m_five m_those _ h) (cwV 0 hts gX8_rules_X8_readRule rfl rfl rfl (by decide +kernel) ⟨(Nat.le_of_ble_eq_true rfl), (Nat.le_of_ble_eq_true rfl)⟩) ⟨kC_blind, va_recv hK hP (ci := 8) (q0 := 0) rfl wM_g0, fun U hU hW => ⟨rfl, kC_go hA hS hP hK hD hE U hU hW⟩⟩ rfl rfl hl.1 rfl (lv_room (Nat.le_of_ble_eq_true rfl)) dX8_rules_46 ⟨(Nat.le_of_ble_eq_true rfl), (Nat.le_of_ble_eq_true rfl)⟩) hS (fun q _ h => h) (fun q h => h) (fun r_2 u t H locs ht hvm hw hB hz1 hk1 hS => ?_)
        obtain ⟨m_point_2, m_begin_2, m_draft_2⟩ := u
        have h := hw
        try dsimp only at h
        have hP : va_P (dC, dI) vwCl (wM ad cB cI cZ cL m_thrown m_today m_legs m_feeds m_taped m_point_2 m_end m_begin_2 m_faultAt m_farm m_pig m_begun m_first m_weight m_salted m_heat m_isBad m_isSold m_sealedFeed m_hook m_should m_on m_warmth m_damp m_isOpen m_fFarm m_fFrom m_fWhat m_fTold m_rule m_draft_2 m_tape m_five m_those) H := by rw [← ht]; exact hB.1
        have hD : va_D A (wM ad cB cI cZ cL m_thrown m_today m_legs m_feeds m_taped m_point_2 m_end m_begin_2 m_faultAt m_farm m_pig m_begun m_first m_weight m_salted m_heat m_isBad m_isSold m_sealedFeed m_hook m_should m_on m_warmth m_damp m_isOpen m_fFarm m_fFrom m_fWhat m_fTold m_rule m_draft_2 m_tape m_five m_those) := hB.2.2
        refine lv_istore_n (lv' := [(2, .int r_2), (1, .int 0), (0, .ref (ad 0))]) hx hb dX8_rules_49 rfl hl (by decide) rfl (fun ls hl => ?_)
        obtain ⟨n_17, h⟩ := h
        exact hlp_M_X8_rules_50 n_17 m_thrown m_taped m_point_2 m_end m_begin_2 m_faultAt m_rule m_draft_2 0 r_2 _ _ _ hP hD hS (lv_sub hl [2, 1, 0] rfl) h
      · have h := h.2 c_1
        refine lv_aload_n hx hb dX8_rules_30 rfl (lv_at hl 0 rfl) ?_
        refine va_get (D := (dC, dI)) (ci := 8) (v := .ref (ad 22)) (C := RX8) (T := TX8) (N := 34) hx hb hts hk_1 hown hK hP 0 wM_g0 rfl 25 (by decide) hk_8 (fun _ h9 => h9) rfl dX8_rules_31 ?_
        refine lv_iload_n hx hb dX8_rules_34 rfl (lv_at hl 1 rfl) ?_
        refine lv_iconst (v := 0) hx hb dX8_rules_35 (by decide) ?_
        have hi_18 := h.1
        have h := h.2
        refine va_iast hx hb hK hP hD hS 22 1 wM_g22 rfl hi_18 dX8_rules_36 (fun H locs hP2 hD2 hS => ?_)
        have hP : va_P (dC, dI) vwCl (wM ad cB cI cZ cL m_thrown m_today m_legs m_feeds m_taped m_point m_end m_begin m_faultAt m_farm m_pig m_begun m_first m_weight m_salted m_heat m_isBad m_isSold m_sealedFeed m_hook m_should m_on m_warmth m_damp m_isOpen m_fFarm m_fFrom m_fWhat m_fTold m_rule (upd m_draft v1.toNatClampNeg 0) m_tape m_five m_those) H := hP_eq (wM_p_m_draft) hP2
        have hD : va_D A (wM ad cB cI cZ cL m_thrown m_today m_legs m_feeds m_taped m_point m_end m_begin m_faultAt m_farm m_pig m_begun m_first m_weight m_salted m_heat m_isBad m_isSold m_sealedFeed m_hook m_should m_on m_warmth m_damp m_isOpen m_fFarm m_fFrom m_fWhat m_fTold m_rule (upd m_draft v1.toNatClampNeg 0) m_tape m_five m_those) := hD_eq (wM_p_m_draft) hD2
        refine lv_iinc (v := v1 + 1) (lv' := [(1, .int (v1 + 1)), (0, .ref (ad 0))]) hx hb dX8_rules_37 hl (k := 1) rfl rfl (by decide) rfl (fun ls hl => ?_)
        refine lv_goto (tgt := 25) hx hb dX8_rules_40 (by decide) ?_
        exact ih m_thrown m_taped m_point m_end m_begin m_faultAt m_rule (upd m_draft v1.toNatClampNeg 0) (v1 + 1) _ _ _ hP hD hS (lv_sub hl [1, 0] rfl) h
  have hl := lv_entry ([.ref (ad 0)]) (n := 4) (Nat.le_of_ble_eq_true rfl)
  rw [lg_entry_eq]
  generalize (lg_sl ([.ref (ad 0)]) ++ List.replicate (4 - (lg_sl ([.ref (ad 0)])).length) Slot.unset).toArray = ls at hl ⊢
  have hl : lv_has ls 4 [(0, .ref (ad 0))] := hl
  unfold wp_M_X8_rules at h
  refine lv_aload_n hx hb dX8_rules_0 rfl (lv_at hl 0 rfl) ?_
  refine lv_iconst (v := 0) hx hb dX8_rules_1 (by decide) ?_
  refine va_put (D := (dC, dI)) (ci := 8) (v := .int 0) (ty := .int) (C := RX8) (T := TX8) (N := 34) hx hb hts hk_1 tyX8 tyX8_ok nmX8 hown hK hP hD hS 0 wM_g0 rfl 0 (by decide) hk_0 (fun _ h9 => h9) rfl (by decide +kernel) rfl rfl (Nat.le_of_ble_eq_true rfl) dX8_rules_2 (fun H locs hP2 hD2 hS => ?_)
  have hP : va_P (dC, dI) vwCl (wM ad cB cI cZ cL 0 m_today m_legs m_feeds m_taped m_point m_end m_begin m_faultAt m_farm m_pig m_begun m_first m_weight m_salted m_heat m_isBad m_isSold m_sealedFeed m_hook m_should m_on m_warmth m_damp m_isOpen m_fFarm m_fFrom m_fWhat m_fTold m_rule m_draft m_tape m_five m_those) H := hP_eq (wM_p_m_thrown) hP2
  have hD : va_D A (wM ad cB cI cZ cL 0 m_today m_legs m_feeds m_taped m_point m_end m_begin m_faultAt m_farm m_pig m_begun m_first m_weight m_salted m_heat m_isBad m_isSold m_sealedFeed m_hook m_should m_on m_warmth m_damp m_isOpen m_fFarm m_fFrom m_fWhat m_fTold m_rule m_draft m_tape m_five m_those) := hD_eq (wM_p_m_thrown) hD2
  refine lv_aload_n hx hb dX8_rules_5 rfl (lv_at hl 0 rfl) ?_
  refine lv_aload_n hx hb dX8_rules_6 rfl (lv_at hl 0 rfl) ?_
  refine va_get (D := (dC, dI)) (ci := 8) (v := .int m_taped) (C := RX8) (T := TX8) (N := 34) hx hb hts hk_1 hown hK hP 0 wM_g0 rfl 27 (by decide) hk_2 (fun _ h9 => h9) rfl dX8_rules_7 ?_
  refine va_put (D := (dC, dI)) (ci := 8) (v := .int m_taped) (ty := .int) (C := RX8) (T := TX8) (N := 34) hx hb hts hk_1 tyX8 tyX8_ok nmX8 hown hK hP hD hS 0 wM_g0 rfl 29 (by decide) hk_3 (fun _ h9 => h9) rfl (by decide +kernel) rfl rfl (Nat.le_of_ble_eq_true rfl) dX8_rules_10 (fun H locs hP2 hD2 hS => ?_)
  have hP : va_P (dC, dI) vwCl (wM ad cB cI cZ cL 0 m_today m_legs m_feeds m_taped m_point m_taped m_begin m_faultAt m_farm m_pig m_begun m_first m_weight m_salted m_heat m_isBad m_isSold m_sealedFeed m_hook m_should m_on m_warmth m_damp m_isOpen m_fFarm m_fFrom m_fWhat m_fTold m_rule m_draft m_tape m_five m_those) H := hP_eq (wM_p_m_end) hP2
  have hD : va_D A (wM ad cB cI cZ cL 0 m_today m_legs m_feeds m_taped m_point m_taped m_begin m_faultAt m_farm m_pig m_begun m_first m_weight m_salted m_heat m_isBad m_isSold m_sealedFeed m_hook m_should m_on m_warmth m_damp m_isOpen m_fFarm m_fFrom m_fWhat m_fTold m_rule m_draft m_tape m_five m_those) := hD_eq (wM_p_m_end) hD2
  refine lv_aload_n hx hb dX8_rules_13 rfl (lv_at hl 0 rfl) ?_
  refine lv_iconst (v := 0) hx hb dX8_rules_14 (by decide) ?_
  refine va_put (D := (dC, dI)) (ci := 8) (v := .int 0) (ty := .int) (C := RX8) (T := TX8) (N := 34) hx hb hts hk_1 tyX8 tyX8_ok nmX8 hown hK hP hD hS 0 wM_g0 rfl 27 (by decide) hk_2 (fun _ h9 => h9) rfl (by decide +kernel) rfl rfl (Nat.le_of_ble_eq_true rfl) dX8_rules_15 (fun H locs hP2 hD2 hS => ?_)
  have hP : va_P (dC, dI) vwCl (wM ad cB cI cZ cL 0 m_today m_legs m_feeds 0 m_point m_taped m_begin m_faultAt m_farm m_pig m_begun m_first m_weight m_salted m_heat m_isBad m_isSold m_sealedFeed m_hook m_should m_on m_warmth m_damp m_isOpen m_fFarm m_fFrom m_fWhat m_fTold m_rule m_draft m_tape m_five m_those) H := hP_eq (wM_p_m_taped) hP2
  have hD : va_D A (wM ad cB cI cZ cL 0 m_today m_legs m_feeds 0 m_point m_taped m_begin m_faultAt m_farm m_pig m_begun m_first m_weight m_salted m_heat m_isBad m_isSold m_sealedFeed m_hook m_should m_on m_warmth m_damp m_isOpen m_fFarm m_fFrom m_fWhat m_fTold m_rule m_draft m_tape m_five m_those) := hD_eq (wM_p_m_taped) hD2
  refine lv_aload_n hx hb dX8_rules_18 rfl (lv_at hl 0 rfl) ?_
  refine lv_iconst (v := 0) hx hb dX8_rules_19 (by decide) ?_
  refine va_put (D := (dC, dI)) (ci := 8) (v := .int 0) (ty := .int) (C := RX8) (T := TX8) (N := 34) hx hb hts hk_1 tyX8 tyX8_ok nmX8 hown hK hP hD hS 0 wM_g0 rfl 28 (by decide) hk_4 (fun _ h9 => h9) rfl (by decide +kernel) rfl rfl (Nat.le_of_ble_eq_true rfl) dX8_rules_20 (fun H locs hP2 hD2 hS => ?_)
  have hP : va_P (dC, dI) vwCl (wM ad cB cI cZ cL 0 m_today m_legs m_feeds 0 0 m_taped m_begin m_faultAt m_farm m_pig m_begun m_first m_weight m_salted m_heat m_isBad m_isSold m_sealedFeed m_hook m_should m_on m_warmth m_damp m_isOpen m_fFarm m_fFrom m_fWhat m_fTold m_rule m_draft m_tape m_five m_those) H := hP_eq (wM_p_m_point) hP2
  have hD : va_D A (wM ad cB cI cZ cL 0 m_today m_legs m_feeds 0 0 m_taped m_begin m_faultAt m_farm m_pig m_begun m_first m_weight m_salted m_heat m_isBad m_isSold m_sealedFeed m_hook m_should m_on m_warmth m_damp m_isOpen m_fFarm m_fFrom m_fWhat m_fTold m_rule m_draft m_tape m_five m_those) := hD_eq (wM_p_m_point) hD2
  refine lv_iconst (v := 0) hx hb dX8_rules_23 (by decide) ?_
  refine lv_istore_n (lv' := [(1, .int 0), (0, .ref (ad 0))]) hx hb dX8_rules_24 rfl hl (by decide) rfl (fun ls hl => ?_)
  obtain ⟨n_19, h⟩ := h
  exact hlp_M_X8_rules_25 n_19 0 0 0 m_taped m_begin m_faultAt m_rule m_draft 0 _ _ _ hP hD hS (lv_sub hl [1, 0] rfl) h
