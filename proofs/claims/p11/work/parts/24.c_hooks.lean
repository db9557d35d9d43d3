def wp_C_X2_legAt (LP : List Nat) (hung : Nat → Option Nat) (Q : Option Nat → Prop) (p0 : Int32) : Prop := ((p0 < 0 → Q none) ∧ (¬ (p0 < 0) → ((60 ≤ p0 → Q none) ∧ (¬ (60 ≤ p0) → (vp_in p0 60 ∧ ((hung p0.toNatClampNeg = none → Q none) ∧ (∀ y_4 : Nat, hung p0.toNatClampNeg = some y_4 → y_4 ∈ LP ∧ Q (some y_4))))))))
def rm_C_X2_legAt : Room := { frames := 0, cells := 0, slots := 0, locals := 0 }
abbrev pq_C_X2_legAt (dC : Nat → ClassId) (dI : Nat → Nat → Nat) (ad : Nat → Nat) (cB cI cZ cL : ClassId) (A : Nat → Prop) (LP : List Nat) (today legCount : Int32) (legs hung : Nat → Option Nat) (warmth damp wopen : Nat → Int32) (tsize : Int32) (bytes : Nat → Int32) (rat rtold rwrong : Int32) (numbers asked : Nat → Int32) (ftold : Int32) (ffarm ffrom fwhat fon : Nat → Int32) (csize ctotal : Int32) (offered : Nat → Option Nat) (cws cwa g_number g_farm g_pig g_first g_begun g_weight g_salted g_heat g_place g_target g_feedAsked g_sealed g_bad g_sold : Nat → Int32) (Q : Option Nat → Prop) : Array Value → State → Outcome → State → Prop := va_Qq (fun (r : Option Nat) (u : Unit) => Q r ) (fun u t => kB dC dI A (wA ad cB cI cZ cL LP today legCount legs hung warmth damp wopen tsize bytes rat rtold rwrong numbers asked ftold ffarm ffrom fwhat fon csize ctotal offered cws cwa g_number g_farm g_pig g_first g_begun g_weight g_salted g_heat g_place g_target g_feedAsked g_sealed g_bad g_sold) (kTy cB cI cZ cL) t) A
set_option maxHeartbeats 4000000 in
set_option maxRecDepth 100000 in
theorem c_C_X2_legAt (l : Launch) (dC : Nat → ClassId) (dI : Nat → Nat → Nat) (ad : Nat → Nat) (cB cI cZ cL : ClassId) (A : Nat → Prop) (LP : List Nat) (today legCount : Int32) (legs hung : Nat → Option Nat) (warmth damp wopen : Nat → Int32) (tsize : Int32) (bytes : Nat → Int32) (rat rtold rwrong : Int32) (numbers asked : Nat → Int32) (ftold : Int32) (ffarm ffrom fwhat fon : Nat → Int32) (csize ctotal : Int32) (offered : Nat → Option Nat) (cws cwa g_number g_farm g_pig g_first g_begun g_weight g_salted g_heat g_place g_target g_feedAsked g_sealed g_bad g_sold : Nat → Int32) (p0 : Int32)  (Q : Option Nat → Prop) (h : wp_C_X2_legAt LP hung Q p0) : Met l yX2_legAt wsX2_legAt rm_C_X2_legAt (va_Pc [.ref (ad 2), .int p0] (kC dC dI ad A (wA ad cB cI cZ cL LP today legCount legs hung warmth damp wopen tsize bytes rat rtold rwrong numbers asked ftold ffarm ffrom fwhat fon csize ctotal offered cws cwa g_number g_farm g_pig g_first g_begun g_weight g_salted g_heat g_place g_target g_feedAsked g_sealed g_bad g_sold) (kTy cB cI cZ cL))) (pq_C_X2_legAt dC dI ad cB cI cZ cL A LP today legCount legs hung warmth damp wopen tsize bytes rat rtold rwrong numbers asked ftold ffarm ffrom fwhat fon csize ctotal offered cws cwa g_number g_farm g_pig g_first g_begun g_weight g_salted g_heat g_place g_target g_feedAsked g_sealed g_bad g_sold Q) 0 0 A := by
  refine Met.ofW (cc := cX2_legAt) (maxL := 2) (ret := (some (.object "HamCellar$Leg"))) (by decide) rfl ?_
  intro p e s m args below meth c s₁ B hml hv
  obtain ⟨rfl, hA, hP, hK, hD, hE⟩ := hv
  have hx := B.exec
  have hb := B.bytes
  have hr := B.returns
  have hts := atoms_spec (ws := wsX2_legAt) B.pre
  have hown : s.vm.findClass RX2 = some m.cls := findClass_of_methodNamed B.named
  have hlocks := B.notSynchronized
  have hS : va_S A s.heap s.heap [] := va_S.rf
  have hk_0 := hts (.fieldLink RX2 11 "HamCellar$Hooks" "hung" "[LHamCellar$Leg;") (by decide +kernel)
  have hk_1 : ∀ w ∈ wsX20, w ∈ wsX2_legAt := by decide +kernel
  have hl := lv_entry ([.ref (ad 2), .int p0]) (n := 2) (Nat.le_of_ble_eq_true rfl)
  rw [lg_entry_eq]
  generalize (lg_sl ([.ref (ad 2), .int p0]) ++ List.replicate (2 - (lg_sl ([.ref (ad 2), .int p0])).length) Slot.unset).toArray = ls at hl ⊢
  have hl : lv_has ls 2 [(0, .ref (ad 2)), (1, .int p0)] := hl
  unfold wp_C_X2_legAt at h
  refine lv_iload_n hx hb dX2_legAt_0 rfl (lv_at hl 1 rfl) ?_
  refine lv_if_lt (tgt := 22) hx hb dX2_legAt_1 (by decide) (fun c_1 => ?_) (fun c_1 => ?_)
  · have h := h.1 c_1
    refine lv_null hx hb dX2_legAt_22 ?_
    exact W.aret (v := va_rf none) hx hb hr (Or.inl ⟨_, rfl⟩) (va_rf_or _) (fun t ht hW => ⟨⟨none, (), rfl, h, kB_mk hP hK hD ht hW.alike⟩, hS.F ht⟩) hS.2.2 dX2_legAt_23
  · have h := h.2 c_1
    refine lv_iload_n hx hb dX2_legAt_4 rfl (lv_at hl 1 rfl) ?_
    refine lv_aload_n hx hb dX2_legAt_5 rfl (lv_at hl 0 rfl) ?_
    refine va_get (D := (dC, dI)) (ci := 2) (v := .ref (ad 3)) (C := RX2) (T := TX2) (N := 1) hx hb hts hk_1 hown hK hP 2 wA_g2 rfl 0 (by decide) hk_0 (fun _ h9 => h9) rfl dX2_legAt_6 ?_
    refine va_alen hx hb hK hP 3 3 wA_g3 rfl (v := 60) rfl dX2_legAt_9 ?_
    refine lv_icmp_ge (tgt := 22) hx hb dX2_legAt_10 (by decide) (fun c_2 => ?_) (fun c_2 => ?_)
    · have h := h.1 c_2
      refine lv_null hx hb dX2_legAt_22 ?_
      exact W.aret (v := va_rf none) hx hb hr (Or.inl ⟨_, rfl⟩) (va_rf_or _) (fun t ht hW => ⟨⟨none, (), rfl, h, kB_mk hP hK hD ht hW.alike⟩, hS.F ht⟩) hS.2.2 dX2_legAt_23
    · have h := h.2 c_2
      refine lv_aload_n hx hb dX2_legAt_13 rfl (lv_at hl 0 rfl) ?_
      refine va_get (D := (dC, dI)) (ci := 2) (v := .ref (ad 3)) (C := RX2) (T := TX2) (N := 1) hx hb hts hk_1 hown hK hP 2 wA_g2 rfl 0 (by decide) hk_0 (fun _ h9 => h9) rfl dX2_legAt_14 ?_
      refine lv_iload_n hx hb dX2_legAt_17 rfl (lv_at hl 1 rfl) ?_
      have hi_3 := h.1
      have h := h.2
      refine va_aldq hx hb hK hP 3 3 wA_g3 rfl hi_3 dX2_legAt_18 ?_
      cases hr_5 : hung p0.toNatClampNeg with
      | none =>
        have h := h.1 hr_5
        refine lv_goto (tgt := 23) hx hb dX2_legAt_19 (by decide) ?_
        exact W.aret (v := va_rf none) hx hb hr (Or.inl ⟨_, rfl⟩) (va_rf_or _) (fun t ht hW => ⟨⟨none, (), rfl, h, kB_mk hP hK hD ht hW.alike⟩, hS.F ht⟩) hS.2.2 dX2_legAt_23
      | some y_4 =>
        have hy_y_4 := (h.2 y_4 hr_5).1
        have h := (h.2 y_4 hr_5).2
        refine lv_goto (tgt := 23) hx hb dX2_legAt_19 (by decide) ?_
        exact W.aret (v := va_rf (some y_4)) hx hb hr (Or.inl ⟨_, rfl⟩) (va_rf_or _) (fun t ht hW => ⟨⟨(some y_4), (), rfl, h, kB_mk hP hK hD ht hW.alike⟩, hS.F ht⟩) hS.2.2 dX2_legAt_23
def wp_C_X2_put (LP : List Nat) (Q : (Nat → Option Nat) → (Nat → Int32) → Prop) (hung : Nat → Option Nat) (g_place : Nat → Int32) (p0 : Nat) (p1 : Int32) : Prop := ((p1 < 0 → Q hung g_place) ∧ (¬ (p1 < 0) → ((60 ≤ p1 → Q hung g_place) ∧ (¬ (60 ≤ p1) → (vp_in p1 60 ∧ Q (va_up hung p1.toNatClampNeg (some p0)) (va_up g_place p0 p1))))))
def rm_C_X2_put : Room := { frames := 0, cells := 0, slots := 0, locals := 0 }
abbrev pq_C_X2_put (dC : Nat → ClassId) (dI : Nat → Nat → Nat) (ad : Nat → Nat) (cB cI cZ cL : ClassId) (A : Nat → Prop) (LP : List Nat) (today legCount : Int32) (legs hung : Nat → Option Nat) (warmth damp wopen : Nat → Int32) (tsize : Int32) (bytes : Nat → Int32) (rat rtold rwrong : Int32) (numbers asked : Nat → Int32) (ftold : Int32) (ffarm ffrom fwhat fon : Nat → Int32) (csize ctotal : Int32) (offered : Nat → Option Nat) (cws cwa g_number g_farm g_pig g_first g_begun g_weight g_salted g_heat g_place g_target g_feedAsked g_sealed g_bad g_sold : Nat → Int32) (Q : (Nat → Option Nat) → (Nat → Int32) → Prop) : Array Value → State → Outcome → State → Prop := va_Qv (fun u : (Nat → Option Nat) × (Nat → Int32) => Q u.1 u.2) (fun u t => kB dC dI A (wA ad cB cI cZ cL LP today legCount legs u.1 warmth damp wopen tsize bytes rat rtold rwrong numbers asked ftold ffarm ffrom fwhat fon csize ctotal offered cws cwa g_number g_farm g_pig g_first g_begun g_weight g_salted g_heat u.2 g_target g_feedAsked g_sealed g_bad g_sold) (kTy cB cI cZ cL) t) A
set_option maxHeartbeats 4000000 in
set_option maxRecDepth 100000 in
theorem c_C_X2_put (l : Launch) (dC : Nat → ClassId) (dI : Nat → Nat → Nat) (ad : Nat → Nat) (cB cI cZ cL : ClassId) (A : Nat → Prop) (LP : List Nat) (today legCount : Int32) (legs hung : Nat → Option Nat) (warmth damp wopen : Nat → Int32) (tsize : Int32) (bytes : Nat → Int32) (rat rtold rwrong : Int32) (numbers asked : Nat → Int32) (ftold : Int32) (ffarm ffrom fwhat fon : Nat → Int32) (csize ctotal : Int32) (offered : Nat → Option Nat) (cws cwa g_number g_farm g_pig g_first g_begun g_weight g_salted g_heat g_place g_target g_feedAsked g_sealed g_bad g_sold : Nat → Int32) (p0 : Nat) (p1 : Int32) (hy_p0 : p0 ∈ LP) (Q : (Nat → Option Nat) → (Nat → Int32) → Prop) (h : wp_C_X2_put LP Q hung g_place p0 p1) : Met l yX2_put wsX2_put rm_C_X2_put (va_Pc [.ref (ad 2), .ref p0, .int p1] (kC dC dI ad A (wA ad cB cI cZ cL LP today legCount legs hung warmth damp wopen tsize bytes rat rtold rwrong numbers asked ftold ffarm ffrom fwhat fon csize ctotal offered cws cwa g_number g_farm g_pig g_first g_begun g_weight g_salted g_heat g_place g_target g_feedAsked g_sealed g_bad g_sold) (kTy cB cI cZ cL))) (pq_C_X2_put dC dI ad cB cI cZ cL A LP today legCount legs hung warmth damp wopen tsize bytes rat rtold rwrong numbers asked ftold ffarm ffrom fwhat fon csize ctotal offered cws cwa g_number g_farm g_pig g_first g_begun g_weight g_salted g_heat g_place g_target g_feedAsked g_sealed g_bad g_sold Q) 0 0 A := by
  refine Met.ofW (cc := cX2_put) (maxL := 3) (ret := none) (by decide) rfl ?_
  intro p e s m args below meth c s₁ B hml hv
  obtain ⟨rfl, hA, hP, hK, hD, hE⟩ := hv
  have hx := B.exec
  have hb := B.bytes
  have hr := B.returns
  have hts := atoms_spec (ws := wsX2_put) B.pre
  have hown : s.vm.findClass RX2 = some m.cls := findClass_of_methodNamed B.named
  have hlocks := B.notSynchronized
  have hS : va_S A s.heap s.heap [] := va_S.rf
  have hk_0 := hts (.fieldLink RX2 11 "HamCellar$Hooks" "hung" "[LHamCellar$Leg;") (by decide +kernel)
  have hk_1 : ∀ w ∈ wsX20, w ∈ wsX2_put := by decide +kernel
  have hk_2n := hE.2.1.1 ("HamCellar$Hooks", 17, "HamCellar$Leg", "place", "I", "HamCellar") (by decide +kernel)
  have hk_2 : (Cond.fieldLinkNest "HamCellar$Hooks" 17 "HamCellar$Leg" "place" "I" "HamCellar").before ([.ref (ad 2), .ref p0, .int p1] : List Value).toArray s = true := va_Nw.use rfl hk_2n
  have hk_3 : ∀ w ∈ wsX30, w ∈ wsX2_put := by decide +kernel
  have hl := lv_entry ([.ref (ad 2), .ref p0, .int p1]) (n := 3) (Nat.le_of_ble_eq_true rfl)
  rw [lg_entry_eq]
  generalize (lg_sl ([.ref (ad 2), .ref p0, .int p1]) ++ List.replicate (3 - (lg_sl ([.ref (ad 2), .ref p0, .int p1])).length) Slot.unset).toArray = ls at hl ⊢
  have hl : lv_has ls 3 [(0, .ref (ad 2)), (1, .ref p0), (2, .int p1)] := hl
  unfold wp_C_X2_put at h
  refine lv_iload_n hx hb dX2_put_0 rfl (lv_at hl 2 rfl) ?_
  refine lv_if_lt (tgt := 25) hx hb dX2_put_1 (by decide) (fun c_1 => ?_) (fun c_1 => ?_)
  · have h := h.1 c_1
    exact W.vret hx hb hr (fun t ht hW => ⟨⟨(hung, g_place), rfl, h, kB_mk hP hK hD ht hW.alike⟩, hS.F ht⟩) hS.2.2 dX2_put_25
  · have h := h.2 c_1
    refine lv_iload_n hx hb dX2_put_4 rfl (lv_at hl 2 rfl) ?_
    refine lv_aload_n hx hb dX2_put_5 rfl (lv_at hl 0 rfl) ?_
    refine va_get (D := (dC, dI)) (ci := 2) (v := .ref (ad 3)) (C := RX2) (T := TX2) (N := 1) hx hb hts hk_1 hown hK hP 2 wA_g2 rfl 0 (by decide) hk_0 (fun _ h9 => h9) rfl dX2_put_6 ?_
    refine va_alen hx hb hK hP 3 3 wA_g3 rfl (v := 60) rfl dX2_put_9 ?_
    refine lv_icmp_ge (tgt := 25) hx hb dX2_put_10 (by decide) (fun c_2 => ?_) (fun c_2 => ?_)
    · have h := h.1 c_2
      exact W.vret hx hb hr (fun t ht hW => ⟨⟨(hung, g_place), rfl, h, kB_mk hP hK hD ht hW.alike⟩, hS.F ht⟩) hS.2.2 dX2_put_25
    · have h := h.2 c_2
      refine lv_aload_n hx hb dX2_put_13 rfl (lv_at hl 0 rfl) ?_
      refine va_get (D := (dC, dI)) (ci := 2) (v := .ref (ad 3)) (C := RX2) (T := TX2) (N := 1) hx hb hts hk_1 hown hK hP 2 wA_g2 rfl 0 (by decide) hk_0 (fun _ h9 => h9) rfl dX2_put_14 ?_
      refine lv_iload_n hx hb dX2_put_17 rfl (lv_at hl 2 rfl) ?_
      refine lv_aload_n hx hb dX2_put_18 rfl (lv_at hl 1 rfl) ?_
      have hi_3 := h.1
      have h := h.2
      obtain ⟨k_4, hg_k_4⟩ := wA_leg hy_p0
      refine va_astq (r := (RX3, TX3, 14)) hx hb hK hP hD hS 3 3 k_4 3 wA_g3 rfl hg_k_4 rfl hi_3 dX2_put_19 (fun H locs hP2 hD2 hS => ?_)
      have hP : va_P (dC, dI) vwCl (wA ad cB cI cZ cL LP today legCount legs (va_up hung p1.toNatClampNeg (some p0)) warmth damp wopen tsize bytes rat rtold rwrong numbers asked ftold ffarm ffrom fwhat fon csize ctotal offered cws cwa g_number g_farm g_pig g_first g_begun g_weight g_salted g_heat g_place g_target g_feedAsked g_sealed g_bad g_sold) H := hP_eq (wA_p_hung) hP2
      have hD : va_D A (wA ad cB cI cZ cL LP today legCount legs (va_up hung p1.toNatClampNeg (some p0)) warmth damp wopen tsize bytes rat rtold rwrong numbers asked ftold ffarm ffrom fwhat fon csize ctotal offered cws cwa g_number g_farm g_pig g_first g_begun g_weight g_salted g_heat g_place g_target g_feedAsked g_sealed g_bad g_sold) := hD_eq (wA_p_hung) hD2
      refine lv_aload_n hx hb dX2_put_20 rfl (lv_at hl 1 rfl) ?_
      refine lv_iload_n hx hb dX2_put_21 rfl (lv_at hl 2 rfl) ?_
      obtain ⟨k_5, hg_k_5⟩ := wA_leg hy_p0
      refine va_putN (D := (dC, dI)) (ci := 3) (v := .int p1) (ty := .int) (C := RX3) (T := TX3) (N := 14) hx hb hts hk_3 tyX3 tyX3_ok nmX3 hown hK hP hD hS k_5 hg_k_5 rfl 8 (by decide) hk_2 (fun _ h9 => h9) rfl (by decide +kernel) rfl rfl (Nat.le_of_ble_eq_true rfl) dX2_put_22 (fun H locs hP2 hD2 hS => ?_)
      have hP : va_P (dC, dI) vwCl (wA ad cB cI cZ cL LP today legCount legs (va_up hung p1.toNatClampNeg (some p0)) warmth damp wopen tsize bytes rat rtold rwrong numbers asked ftold ffarm ffrom fwhat fon csize ctotal offered cws cwa g_number g_farm g_pig g_first g_begun g_weight g_salted g_heat (va_up g_place p0 p1) g_target g_feedAsked g_sealed g_bad g_sold) H := hP_eq (wA_p_g_place hD hy_p0 hg_k_5) hP2
      have hD : va_D A (wA ad cB cI cZ cL LP today legCount legs (va_up hung p1.toNatClampNeg (some p0)) warmth damp wopen tsize bytes rat rtold rwrong numbers asked ftold ffarm ffrom fwhat fon csize ctotal offered cws cwa g_number g_farm g_pig g_first g_begun g_weight g_salted g_heat (va_up g_place p0 p1) g_target g_feedAsked g_sealed g_bad g_sold) := hD_eq (wA_p_g_place hD hy_p0 hg_k_5) hD2
      exact W.vret hx hb hr (fun t ht hW => ⟨⟨(va_up hung p1.toNatClampNeg (some p0), va_up g_place p0 p1), rfl, h, kB_mk hP hK hD ht hW.alike⟩, hS.F ht⟩) hS.2.2 dX2_put_25
def bk_C_X2_takeOff_25 (LP : List Nat)   (Q : (Nat → Option Nat) → (Nat → Int32) → Prop) (hung : Nat → Option Nat) (g_place : Nat → Int32) (v1 : Nat) : Prop := Q hung (va_up g_place v1 (-1))
def wp_C_X2_takeOff (LP : List Nat) (Q : (Nat → Option Nat) → (Nat → Int32) → Prop) (hung : Nat → Option Nat) (g_place : Nat → Int32) (p0 : Nat) : Prop := (((g_place p0) < 0 → bk_C_X2_takeOff_25 LP Q hung g_place p0) ∧ (¬ ((g_place p0) < 0) → ((60 ≤ (g_place p0) → bk_C_X2_takeOff_25 LP Q hung g_place p0) ∧ (¬ (60 ≤ (g_place p0)) → (vp_in (g_place p0) 60 ∧ bk_C_X2_takeOff_25 LP Q (va_up hung (g_place p0).toNatClampNeg none) g_place p0)))))
def rm_C_X2_takeOff : Room := { frames := 0, cells := 0, slots := 0, locals := 0 }
abbrev pq_C_X2_takeOff (dC : Nat → ClassId) (dI : Nat → Nat → Nat) (ad : Nat → Nat) (cB cI cZ cL : ClassId) (A : Nat → Prop) (LP : List Nat) (today legCount : Int32) (legs hung : Nat → Option Nat) (warmth damp wopen : Nat → Int32) (tsize : Int32) (bytes : Nat → Int32) (rat rtold rwrong : Int32) (numbers asked : Nat → Int32) (ftold : Int32) (ffarm ffrom fwhat fon : Nat → Int32) (csize ctotal : Int32) (offered : Nat → Option Nat) (cws cwa g_number g_farm g_pig g_first g_begun g_weight g_salted g_heat g_place g_target g_feedAsked g_sealed g_bad g_sold : Nat → Int32) (Q : (Nat → Option Nat) → (Nat → Int32) → Prop) : Array Value → State → Outcome → State → Prop := va_Qv (fun u : (Nat → Option Nat) × (Nat → Int32) => Q u.1 u.2) (fun u t => kB dC dI A (wA ad cB cI cZ cL LP today legCount legs u.1 warmth damp wopen tsize bytes rat rtold rwrong numbers asked ftold ffarm ffrom fwhat fon csize ctotal offered cws cwa g_number g_farm g_pig g_first g_begun g_weight g_salted g_heat u.2 g_target g_feedAsked g_sealed g_bad g_sold) (kTy cB cI cZ cL) t) A
set_option maxHeartbeats 4000000 in
set_option maxRecDepth 100000 in
theorem c_C_X2_takeOff (l : Launch) (dC : Nat → ClassId) (dI : Nat → Nat → Nat) (ad : Nat → Nat) (cB cI cZ cL : ClassId) (A : Nat → Prop) (LP : List Nat) (today legCount : Int32) (legs hung : Nat → Option Nat) (warmth damp wopen : Nat → Int32) (tsize : Int32) (bytes : Nat → Int32) (rat rtold rwrong : Int32) (numbers asked : Nat → Int32) (ftold : Int32) (ffarm ffrom fwhat fon : Nat → Int32) (csize ctotal : Int32) (offered : Nat → Option Nat) (cws cwa g_number g_farm g_pig g_first g_begun g_weight g_salted g_heat g_place g_target g_feedAsked g_sealed g_bad g_sold : Nat → Int32) (p0 : Nat) (hy_p0 : p0 ∈ LP) (Q : (Nat → Option Nat) → (Nat → Int32) → Prop) (h : wp_C_X2_takeOff LP Q hung g_place p0) : Met l yX2_takeOff wsX2_takeOff rm_C_X2_takeOff (va_Pc [.ref (ad 2), .ref p0] (kC dC dI ad A (wA ad cB cI cZ cL LP today legCount legs hung warmth damp wopen tsize bytes rat rtold rwrong numbers asked ftold ffarm ffrom fwhat fon csize ctotal offered cws cwa g_number g_farm g_pig g_first g_begun g_weight g_salted g_heat g_place g_target g_feedAsked g_sealed g_bad g_sold) (kTy cB cI cZ cL))) (pq_C_X2_takeOff dC dI ad cB cI cZ cL A LP today legCount legs hung warmth damp wopen tsize bytes rat rtold rwrong numbers asked ftold ffarm ffrom fwhat fon csize ctotal offered cws cwa g_number g_farm g_pig g_first g_begun g_weight g_salted g_heat g_place g_target g_feedAsked g_sealed g_bad g_sold Q) 0 0 A := by
  refine Met.ofW (cc := cX2_takeOff) (maxL := 3) (ret := none) (by decide) rfl ?_
  intro p e s m args below meth c s₁ B hml hv
  obtain ⟨rfl, hA, hP, hK, hD, hE⟩ := hv
  have hx := B.exec
  have hb := B.bytes
  have hr := B.returns
  have hts := atoms_spec (ws := wsX2_takeOff) B.pre
  have hown : s.vm.findClass RX2 = some m.cls := findClass_of_methodNamed B.named
  have hlocks := B.notSynchronized
  have hS : va_S A s.heap s.heap [] := va_S.rf
  have hk_0n := hE.2.1.1 ("HamCellar$Hooks", 17, "HamCellar$Leg", "place", "I", "HamCellar") (by decide +kernel)
  have hk_0 : (Cond.fieldLinkNest "HamCellar$Hooks" 17 "HamCellar$Leg" "place" "I" "HamCellar").before ([.ref (ad 2), .ref p0] : List Value).toArray s = true := va_Nw.use rfl hk_0n
  have hk_1 : ∀ w ∈ wsX30, w ∈ wsX2_takeOff := by decide +kernel
  have hk_2 := hts (.fieldLink RX2 11 "HamCellar$Hooks" "hung" "[LHamCellar$Leg;") (by decide +kernel)
  have hk_3 : ∀ w ∈ wsX20, w ∈ wsX2_takeOff := by decide +kernel
  have hbk_C_X2_takeOff_25 : ∀ (hung : Nat → Option Nat) (g_place : Nat → Int32) (v1 : Nat) (hy_v1 : v1 ∈ LP) (H : Heap) (locs : List Loc) (ls : Array Slot), va_P (dC, dI) vwCl (wA ad cB cI cZ cL LP today legCount legs hung warmth damp wopen tsize bytes rat rtold rwrong numbers asked ftold ffarm ffrom fwhat fon csize ctotal offered cws cwa g_number g_farm g_pig g_first g_begun g_weight g_salted g_heat g_place g_target g_feedAsked g_sealed g_bad g_sold) H → va_D A (wA ad cB cI cZ cL LP today legCount legs hung warmth damp wopen tsize bytes rat rtold rwrong numbers asked ftold ffarm ffrom fwhat fon csize ctotal offered cws cwa g_number g_farm g_pig g_first g_begun g_weight g_salted g_heat g_place g_target g_feedAsked g_sealed g_bad g_sold) → va_S A s.heap H locs → lv_has ls 3 [(1, .ref v1)] → bk_C_X2_takeOff_25 LP Q hung g_place v1 → W p l e (headSpec wsX2_takeOff rm_C_X2_takeOff).room s m ([.ref (ad 2), .ref p0] : List Value).toArray below meth c H locs 0 0 (MQ below (pq_C_X2_takeOff dC dI ad cB cI cZ cL A LP today legCount legs hung warmth damp wopen tsize bytes rat rtold rwrong numbers asked ftold ffarm ffrom fwhat fon csize ctotal offered cws cwa g_number g_farm g_pig g_first g_begun g_weight g_salted g_heat g_place g_target g_feedAsked g_sealed g_bad g_sold Q) ([.ref (ad 2), .ref p0] : List Value).toArray s 0 0 A) (F0 m 25 ls []) := by
    intro hung g_place v1 hy_v1 H locs ls hP hD hS hl h
    refine lv_aload_n hx hb dX2_takeOff_25 rfl (lv_at hl 0 rfl) ?_
    refine lv_iconst (v := (-1)) hx hb dX2_takeOff_26 (by decide) ?_
    obtain ⟨k_3, hg_k_3⟩ := wA_leg hy_v1
    refine va_putN (D := (dC, dI)) (ci := 3) (v := .int (-1)) (ty := .int) (C := RX3) (T := TX3) (N := 14) hx hb hts hk_1 tyX3 tyX3_ok nmX3 hown hK hP hD hS k_3 hg_k_3 rfl 8 (by decide) hk_0 (fun _ h9 => h9) rfl (by decide +kernel) rfl rfl (Nat.le_of_ble_eq_true rfl) dX2_takeOff_27 (fun H locs hP2 hD2 hS => ?_)
    have hP : va_P (dC, dI) vwCl (wA ad cB cI cZ cL LP today legCount legs hung warmth damp wopen tsize bytes rat rtold rwrong numbers asked ftold ffarm ffrom fwhat fon csize ctotal offered cws cwa g_number g_farm g_pig g_first g_begun g_weight g_salted g_heat (va_up g_place v1 (-1)) g_target g_feedAsked g_sealed g_bad g_sold) H := hP_eq (wA_p_g_place hD hy_v1 hg_k_3) hP2
    have hD : va_D A (wA ad cB cI cZ cL LP today legCount legs hung warmth damp wopen tsize bytes rat rtold rwrong numbers asked ftold ffarm ffrom fwhat fon csize ctotal offered cws cwa g_number g_farm g_pig g_first g_begun g_weight g_salted g_heat (va_up g_place v1 (-1)) g_target g_feedAsked g_sealed g_bad g_sold) := hD_eq (wA_p_g_place hD hy_v1 hg_k_3) hD2
    exact W.vret hx hb hr (fun t ht hW => ⟨⟨(hung, va_up g_place v1 (-1)), rfl, h, kB_mk hP hK hD ht hW.alike⟩, hS.F ht⟩) hS.2.2 dX2_takeOff_30
  have hl := lv_entry ([.ref (ad 2), .ref p0]) (n := 3) (Nat.le_of_ble_eq_true rfl)
  rw [lg_entry_eq]
  generalize (lg_sl ([.ref (ad 2), .ref p0]) ++ List.replicate (3 - (lg_sl ([.ref (ad 2), .ref p0])).length) Slot.unset).toArray = ls at hl ⊢
  have hl : lv_has ls 3 [(0, .ref (ad 2)), (1, .ref p0)] := hl
  unfold wp_C_X2_takeOff at h
  refine lv_aload_n hx hb dX2_takeOff_0 rfl (lv_at hl 1 rfl) ?_
  obtain ⟨k_1, hg_k_1⟩ := wA_leg hy_p0
  refine va_getN (D := (dC, dI)) (ci := 3) (v := .int (g_place p0)) (C := RX3) (T := TX3) (N := 14) hx hb hts hk_1 hown hK hP k_1 hg_k_1 rfl 8 (by decide) hk_0 (fun _ h9 => h9) rfl dX2_takeOff_1 ?_
  refine lv_istore_n (lv' := [(2, .int (g_place p0)), (0, .ref (ad 2)), (1, .ref p0)]) hx hb dX2_takeOff_4 rfl hl (by decide) rfl (fun ls hl => ?_)
  refine lv_iload_n hx hb dX2_takeOff_5 rfl (lv_at hl 0 rfl) ?_
  refine lv_if_lt (tgt := 25) hx hb dX2_takeOff_6 (by decide) (fun c_2 => ?_) (fun c_2 => ?_)
  · have h := h.1 c_2
    exact hbk_C_X2_takeOff_25 hung g_place p0 hy_p0 _ _ _ hP hD hS (lv_sub hl [2] rfl) h
  · have h := h.2 c_2
    refine lv_iload_n hx hb dX2_takeOff_9 rfl (lv_at hl 0 rfl) ?_
    refine lv_aload_n hx hb dX2_takeOff_10 rfl (lv_at hl 1 rfl) ?_
    refine va_get (D := (dC, dI)) (ci := 2) (v := .ref (ad 3)) (C := RX2) (T := TX2) (N := 1) hx hb hts hk_3 hown hK hP 2 wA_g2 rfl 0 (by decide) hk_2 (fun _ h9 => h9) rfl dX2_takeOff_11 ?_
    refine va_alen hx hb hK hP 3 3 wA_g3 rfl (v := 60) rfl dX2_takeOff_14 ?_
    refine lv_icmp_ge (tgt := 25) hx hb dX2_takeOff_15 (by decide) (fun c_4 => ?_) (fun c_4 => ?_)
    · have h := h.1 c_4
      exact hbk_C_X2_takeOff_25 hung g_place p0 hy_p0 _ _ _ hP hD hS (lv_sub hl [2] rfl) h
    · have h := h.2 c_4
      refine lv_aload_n hx hb dX2_takeOff_18 rfl (lv_at hl 1 rfl) ?_
      refine va_get (D := (dC, dI)) (ci := 2) (v := .ref (ad 3)) (C := RX2) (T := TX2) (N := 1) hx hb hts hk_3 hown hK hP 2 wA_g2 rfl 0 (by decide) hk_2 (fun _ h9 => h9) rfl dX2_takeOff_19 ?_
      refine lv_iload_n hx hb dX2_takeOff_22 rfl (lv_at hl 0 rfl) ?_
      refine lv_null hx hb dX2_takeOff_23 ?_
      have hi_5 := h.1
      have h := h.2
      refine va_astqN hx hb hK hP hD hS 3 3 wA_g3 rfl hi_5 dX2_takeOff_24 (fun H locs hP2 hD2 hS => ?_)
      have hP : va_P (dC, dI) vwCl (wA ad cB cI cZ cL LP today legCount legs (va_up hung (g_place p0).toNatClampNeg none) warmth damp wopen tsize bytes rat rtold rwrong numbers asked ftold ffarm ffrom fwhat fon csize ctotal offered cws cwa g_number g_farm g_pig g_first g_begun g_weight g_salted g_heat g_place g_target g_feedAsked g_sealed g_bad g_sold) H := hP_eq (wA_p_hung) hP2
      have hD : va_D A (wA ad cB cI cZ cL LP today legCount legs (va_up hung (g_place p0).toNatClampNeg none) warmth damp wopen tsize bytes rat rtold rwrong numbers asked ftold ffarm ffrom fwhat fon csize ctotal offered cws cwa g_number g_farm g_pig g_first g_begun g_weight g_salted g_heat g_place g_target g_feedAsked g_sealed g_bad g_sold) := hD_eq (wA_p_hung) hD2
      exact hbk_C_X2_takeOff_25 (va_up hung (g_place p0).toNatClampNeg none) g_place p0 hy_p0 _ _ _ hP hD hS (lv_sub hl [2] rfl) h
def wp_C_X2_isTargetKept (LP : List Nat) (hung : Nat → Option Nat) (g_target : Nat → Int32) (Q : Int32 → Prop) (p0 : Nat) : Prop := wp_C_X2_legAt LP hung (fun r_2 => ((r_2 = none → (o01 0 ∧ Q 0 )) ∧ (∀ y_3 : Nat, r_2 = some y_3 → y_3 ∈ LP ∧ ((¬ (g_target y_3) = (-1) → (o01 0 ∧ Q 0 )) ∧ ((g_target y_3) = (-1) → (o01 1 ∧ Q 1 )))))) (g_target p0)
def rm_C_X2_isTargetKept : Room := { frames := 1, cells := 0, slots := 0, locals := 21 }
abbrev pq_C_X2_isTargetKept (dC : Nat → ClassId) (dI : Nat → Nat → Nat) (ad : Nat → Nat) (cB cI cZ cL : ClassId) (A : Nat → Prop) (LP : List Nat) (today legCount : Int32) (legs hung : Nat → Option Nat) (warmth damp wopen : Nat → Int32) (tsize : Int32) (bytes : Nat → Int32) (rat rtold rwrong : Int32) (numbers asked : Nat → Int32) (ftold : Int32) (ffarm ffrom fwhat fon : Nat → Int32) (csize ctotal : Int32) (offered : Nat → Option Nat) (cws cwa g_number g_farm g_pig g_first g_begun g_weight g_salted g_heat g_place g_target g_feedAsked g_sealed g_bad g_sold : Nat → Int32) (Q : Int32 → Prop) : Array Value → State → Outcome → State → Prop := va_Qi (fun (r : Int32) (u : Unit) => Q r ) (fun u t => kB dC dI A (wA ad cB cI cZ cL LP today legCount legs hung warmth damp wopen tsize bytes rat rtold rwrong numbers asked ftold ffarm ffrom fwhat fon csize ctotal offered cws cwa g_number g_farm g_pig g_first g_begun g_weight g_salted g_heat g_place g_target g_feedAsked g_sealed g_bad g_sold) (kTy cB cI cZ cL) t) A
set_option maxHeartbeats 4000000 in
set_option maxRecDepth 100000 in
theorem c_C_X2_isTargetKept (l : Launch) (dC : Nat → ClassId) (dI : Nat → Nat → Nat) (ad : Nat → Nat) (cB cI cZ cL : ClassId) (A : Nat → Prop) (LP : List Nat) (today legCount : Int32) (legs hung : Nat → Option Nat) (warmth damp wopen : Nat → Int32) (tsize : Int32) (bytes : Nat → Int32) (rat rtold rwrong : Int32) (numbers asked : Nat → Int32) (ftold : Int32) (ffarm ffrom fwhat fon : Nat → Int32) (csize ctotal : Int32) (offered : Nat → Option Nat) (cws cwa g_number g_farm g_pig g_first g_begun g_weight g_salted g_heat g_place g_target g_feedAsked g_sealed g_bad g_sold : Nat → Int32) (p0 : Nat) (hy_p0 : p0 ∈ LP) (Q : Int32 → Prop) (h : wp_C_X2_isTargetKept LP hung g_target Q p0) : Met l yX2_isTargetKept wsX2_isTargetKept rm_C_X2_isTargetKept (va_Pc [.ref (ad 2), .ref p0] (kC dC dI ad A (wA ad cB cI cZ cL LP today legCount legs hung warmth damp wopen tsize bytes rat rtold rwrong numbers asked ftold ffarm ffrom fwhat fon csize ctotal offered cws cwa g_number g_farm g_pig g_first g_begun g_weight g_salted g_heat g_place g_target g_feedAsked g_sealed g_bad g_sold) (kTy cB cI cZ cL))) (pq_C_X2_isTargetKept dC dI ad cB cI cZ cL A LP today legCount legs hung warmth damp wopen tsize bytes rat rtold rwrong numbers asked ftold ffarm ffrom fwhat fon csize ctotal offered cws cwa g_number g_farm g_pig g_first g_begun g_weight g_salted g_heat g_place g_target g_feedAsked g_sealed g_bad g_sold Q) 0 0 A := by
  refine Met.ofW (cc := cX2_isTargetKept) (maxL := 3) (ret := (some .boolean)) (by decide) rfl ?_
  intro p e s m args below meth c s₁ B hml hv
  obtain ⟨rfl, hA, hP, hK, hD, hE⟩ := hv
  have hx := B.exec
  have hb := B.bytes
  have hr := B.returns
  have hts := atoms_spec (ws := wsX2_isTargetKept) B.pre
  have hown : s.vm.findClass RX2 = some m.cls := findClass_of_methodNamed B.named
  have hlocks := B.notSynchronized
  have hS : va_S A s.heap s.heap [] := va_S.rf
  have hk_0n := hE.2.1.1 ("HamCellar$Hooks", 21, "HamCellar$Leg", "target", "I", "HamCellar") (by decide +kernel)
  have hk_0 : (Cond.fieldLinkNest "HamCellar$Hooks" 21 "HamCellar$Leg" "target" "I" "HamCellar").before ([.ref (ad 2), .ref p0] : List Value).toArray s = true := va_Nw.use rfl hk_0n
  have hk_1 : ∀ w ∈ wsX30, w ∈ wsX2_isTargetKept := by decide +kernel
  have hl := lv_entry ([.ref (ad 2), .ref p0]) (n := 3) (Nat.le_of_ble_eq_true rfl)
  rw [lg_entry_eq]
  generalize (lg_sl ([.ref (ad 2), .ref p0]) ++ List.replicate (3 - (lg_sl ([.ref (ad 2), .ref p0])).length) Slot.unset).toArray = ls at hl ⊢
  have hl : lv_has ls 3 [(0, .ref (ad 2)), (1, .ref p0)] := hl
  unfold wp_C_X2_isTargetKept at h
  refine lv_aload_n hx hb dX2_isTargetKept_0 rfl (lv_at hl 0 rfl) ?_
  refine lv_aload_n hx hb dX2_isTargetKept_1 rfl (lv_at hl 1 rfl) ?_
  obtain ⟨k_1, hg_k_1⟩ := wA_leg hy_p0
  refine va_getN (D := (dC, dI)) (ci := 3) (v := .int (g_target p0)) (C := RX3) (T := TX3) (N := 14) hx hb hts hk_1 hown hK hP k_1 hg_k_1 rfl 9 (by decide) hk_0 (fun _ h9 => h9) rfl dX2_isTargetKept_2 ?_
  refine va_callq (va_runV (As := [.int (g_target p0)]) (rest := []) ⟨hx, hb, hml, hown, hts⟩ (c_C_X2_legAt l dC dI ad cB cI cZ cL A LP today legCount legs hung warmth damp wopen tsize bytes rat rtold rwrong numbers asked ftold ffarm ffrom fwhat fon csize ctotal offered cws cwa g_number g_farm g_pig g_first g_begun g_weight g_salted g_heat g_place g_target g_feedAsked g_sealed g_bad g_sold (g_target p0) _ h) (cwV 1 hts gX2_isTargetKept_X2_legAt rfl rfl rfl (by decide +kernel) ⟨(Nat.le_of_ble_eq_true rfl), (Nat.le_of_ble_eq_true rfl)⟩) ⟨kC_blind, va_recv hK hP (ci := 2) (q0 := 2) rfl wA_g2, fun U hU hW => ⟨rfl, kC_go hA hS hP hK hD hE U hU hW⟩⟩ rfl rfl hl.1 rfl (lv_room (Nat.le_of_ble_eq_true rfl)) dX2_isTargetKept_5 ⟨(Nat.le_of_ble_eq_true rfl), (Nat.le_of_ble_eq_true rfl)⟩) hS (fun q _ h => h) (fun q h => h) (fun r_2 u t H locs ht hvm hw hB hz1 hk1 hS => ?_)
  have h := hw
  try dsimp only at h
  have hP : va_P (dC, dI) vwCl (wA ad cB cI cZ cL LP today legCount legs hung warmth damp wopen tsize bytes rat rtold rwrong numbers asked ftold ffarm ffrom fwhat fon csize ctotal offered cws cwa g_number g_farm g_pig g_first g_begun g_weight g_salted g_heat g_place g_target g_feedAsked g_sealed g_bad g_sold) H := by rw [← ht]; exact hB.1
  have hD : va_D A (wA ad cB cI cZ cL LP today legCount legs hung warmth damp wopen tsize bytes rat rtold rwrong numbers asked ftold ffarm ffrom fwhat fon csize ctotal offered cws cwa g_number g_farm g_pig g_first g_begun g_weight g_salted g_heat g_place g_target g_feedAsked g_sealed g_bad g_sold) := hB.2.2
  cases hr_4 : r_2 with
  | none =>
    have h := h.1 hr_4
    refine lv_astore_nN (lv' := [(2, .null), (0, .ref (ad 2)), (1, .ref p0)]) hx hb dX2_isTargetKept_8 rfl hl (by decide) rfl (fun ls hl => ?_)
    refine lv_aload_nN hx hb dX2_isTargetKept_9 rfl (lv_at hl 0 rfl) ?_
    refine lv_ifnullN (tgt := 25) hx hb dX2_isTargetKept_10 (by decide) ?_
    refine lv_iconst (v := 0) hx hb dX2_isTargetKept_25 (by decide) ?_
    exact W.zret (v := 0) (ty := .boolean) hx hb hr (z01 h.1) (fun t ht hW => ⟨⟨0, (), rfl, h.2, kB_mk hP hK hD ht hW.alike⟩, hS.F ht⟩) hS.2.2 dX2_isTargetKept_26
  | some y_3 =>
    have hy_y_3 := (h.2 y_3 hr_4).1
    have h := (h.2 y_3 hr_4).2
    refine lv_astore_n (lv' := [(2, .ref y_3), (0, .ref (ad 2)), (1, .ref p0)]) hx hb dX2_isTargetKept_8 rfl hl (by decide) rfl (fun ls hl => ?_)
    refine lv_aload_n hx hb dX2_isTargetKept_9 rfl (lv_at hl 0 rfl) ?_
    refine lv_ifnull hx hb dX2_isTargetKept_10 ?_
    refine lv_aload_n hx hb dX2_isTargetKept_13 rfl (lv_at hl 0 rfl) ?_
    obtain ⟨k_6, hg_k_6⟩ := wA_leg hy_y_3
    refine va_getN (D := (dC, dI)) (ci := 3) (v := .int (g_target y_3)) (C := RX3) (T := TX3) (N := 14) hx hb hts hk_1 hown hK hP k_6 hg_k_6 rfl 9 (by decide) hk_0 (fun _ h9 => h9) rfl dX2_isTargetKept_14 ?_
    refine lv_iconst (v := (-1)) hx hb dX2_isTargetKept_17 (by decide) ?_
    refine lv_icmp_ne (tgt := 25) hx hb dX2_isTargetKept_18 (by decide) (fun c_7 => ?_) (fun c_7 => ?_)
    · have h := h.1 c_7
      refine lv_iconst (v := 0) hx hb dX2_isTargetKept_25 (by decide) ?_
      exact W.zret (v := 0) (ty := .boolean) hx hb hr (z01 h.1) (fun t ht hW => ⟨⟨0, (), rfl, h.2, kB_mk hP hK hD ht hW.alike⟩, hS.F ht⟩) hS.2.2 dX2_isTargetKept_26
    · have h := h.2 c_7
      refine lv_iconst (v := 1) hx hb dX2_isTargetKept_21 (by decide) ?_
      refine lv_goto (tgt := 26) hx hb dX2_isTargetKept_22 (by decide) ?_
      exact W.zret (v := 1) (ty := .boolean) hx hb hr (z01 h.1) (fun t ht hW => ⟨⟨1, (), rfl, h.2, kB_mk hP hK hD ht hW.alike⟩, hS.F ht⟩) hS.2.2 dX2_isTargetKept_26
def bk_C_X2_leadsRing_54 (LP : List Nat) (hung : Nat → Option Nat) (g_place : Nat → Int32) (g_target : Nat → Int32)  (Q : Int32 → Prop) (v1 : Nat) : Prop := ((¬ none = (some v1) → (o01 0 ∧ Q 0 )) ∧ (none = (some v1) → (o01 1 ∧ Q 1 )))
def bk_C_X2_leadsRing_54_1 (LP : List Nat) (hung : Nat → Option Nat) (g_place : Nat → Int32) (g_target : Nat → Int32)  (Q : Int32 → Prop) (v1 : Nat) (v2 : Nat) : Prop := ((¬ (some v2) = (some v1) → (o01 0 ∧ Q 0 )) ∧ ((some v2) = (some v1) → (o01 1 ∧ Q 1 )))
def lp_C_X2_leadsRing_11 (LP : List Nat) (hung : Nat → Option Nat) (g_place : Nat → Int32) (g_target : Nat → Int32)  (Q : Int32 → Prop) : Nat → Nat → Option Nat → Int32 → Prop
  | 0 => fun _ _ _ => False
  | n + 1 => fun v1 v2 v3 => ((v2 = none → ((60 ≤ v3 → bk_C_X2_leadsRing_54 LP hung g_place g_target Q v1) ∧ (¬ (60 ≤ v3) → bk_C_X2_leadsRing_54 LP hung g_place g_target Q v1))) ∧ (∀ y_6 : Nat, v2 = some y_6 → ((60 ≤ v3 → bk_C_X2_leadsRing_54_1 LP hung g_place g_target Q v1 y_6) ∧ (¬ (60 ≤ v3) → (((some y_6) = (some v1) → bk_C_X2_leadsRing_54_1 LP hung g_place g_target Q v1 y_6) ∧ (¬ ((some y_6) = (some v1)) → (((g_place v1) ≤ (g_place y_6) → wp_C_X2_legAt LP hung (fun r_16 => ((r_16 = none → lp_C_X2_leadsRing_11 LP hung g_place g_target Q n v1 none (v3 + 1)) ∧ (∀ y_17 : Nat, r_16 = some y_17 → y_17 ∈ LP ∧ lp_C_X2_leadsRing_11 LP hung g_place g_target Q n v1 (some y_17) (v3 + 1)))) (g_target y_6)) ∧ (¬ ((g_place v1) ≤ (g_place y_6)) → (o01 0 ∧ Q 0 )))))))))
def wp_C_X2_leadsRing (LP : List Nat) (hung : Nat → Option Nat) (g_place : Nat → Int32) (g_target : Nat → Int32) (Q : Int32 → Prop) (p0 : Nat) : Prop := wp_C_X2_legAt LP hung (fun r_2 => ((r_2 = none → (∃ n_20, lp_C_X2_leadsRing_11 LP hung g_place g_target Q n_20 p0 none 0)) ∧ (∀ y_3 : Nat, r_2 = some y_3 → y_3 ∈ LP ∧ (∃ n_21, lp_C_X2_leadsRing_11 LP hung g_place g_target Q n_21 p0 (some y_3) 0)))) (g_target p0)
def rm_C_X2_leadsRing : Room := { frames := 1, cells := 0, slots := 0, locals := 21 }
abbrev pq_C_X2_leadsRing (dC : Nat → ClassId) (dI : Nat → Nat → Nat) (ad : Nat → Nat) (cB cI cZ cL : ClassId) (A : Nat → Prop) (LP : List Nat) (today legCount : Int32) (legs hung : Nat → Option Nat) (warmth damp wopen : Nat → Int32) (tsize : Int32) (bytes : Nat → Int32) (rat rtold rwrong : Int32) (numbers asked : Nat → Int32) (ftold : Int32) (ffarm ffrom fwhat fon : Nat → Int32) (csize ctotal : Int32) (offered : Nat → Option Nat) (cws cwa g_number g_farm g_pig g_first g_begun g_weight g_salted g_heat g_place g_target g_feedAsked g_sealed g_bad g_sold : Nat → Int32) (Q : Int32 → Prop) : Array Value → State → Outcome → State → Prop := va_Qi (fun (r : Int32) (u : Unit) => Q r ) (fun u t => kB dC dI A (wA ad cB cI cZ cL LP today legCount legs hung warmth damp wopen tsize bytes rat rtold rwrong numbers asked ftold ffarm ffrom fwhat fon csize ctotal offered cws cwa g_number g_farm g_pig g_first g_begun g_weight g_salted g_heat g_place g_target g_feedAsked g_sealed g_bad g_sold) (kTy cB cI cZ cL) t) A
set_option maxHeartbeats 4000000 in
set_option maxRecDepth 100000 in
theorem c_C_X2_leadsRing (l : Launch) (dC : Nat → ClassId) (dI : Nat → Nat → Nat) (ad : Nat → Nat) (cB cI cZ cL : ClassId) (A : Nat → Prop) (LP : List Nat) (today legCount : Int32) (legs hung : Nat → Option Nat) (warmth damp wopen : Nat → Int32) (tsize : Int32) (bytes : Nat → Int32) (rat rtold rwrong : Int32) (numbers asked : Nat → Int32) (ftold : Int32) (ffarm ffrom fwhat fon : Nat → Int32) (csize ctotal : Int32) (offered : Nat → Option Nat) (cws cwa g_number g_farm g_pig g_first g_begun g_weight g_salted g_heat g_place g_target g_feedAsked g_sealed g_bad g_sold : Nat → Int32) (p0 : Nat) (hy_p0 : p0 ∈ LP) (Q : Int32 → Prop) (h : wp_C_X2_leadsRing LP hung g_place g_target Q p0) : Met l yX2_leadsRing wsX2_leadsRing rm_C_X2_leadsRing (va_Pc [.ref (ad 2), .ref p0] (kC dC dI ad A (wA ad cB cI cZ cL LP today legCount legs hung warmth damp wopen tsize bytes rat rtold rwrong numbers asked ftold ffarm ffrom fwhat fon csize ctotal offered cws cwa g_number g_farm g_pig g_first g_begun g_weight g_salted g_heat g_place g_target g_feedAsked g_sealed g_bad g_sold) (kTy cB cI cZ cL))) (pq_C_X2_leadsRing dC dI ad cB cI cZ cL A LP today legCount legs hung warmth damp wopen tsize bytes rat rtold rwrong numbers asked ftold ffarm ffrom fwhat fon csize ctotal offered cws cwa g_number g_farm g_pig g_first g_begun g_weight g_salted g_heat g_place g_target g_feedAsked g_sealed g_bad g_sold Q) 0 0 A := by
  refine Met.ofW (cc := cX2_leadsRing) (maxL := 4) (ret := (some .boolean)) (by decide) rfl ?_
  intro p e s m args below meth c s₁ B hml hv
  obtain ⟨rfl, hA, hP, hK, hD, hE⟩ := hv
  have hx := B.exec
  have hb := B.bytes
  have hr := B.returns
  have hts := atoms_spec (ws := wsX2_leadsRing) B.pre
  have hown : s.vm.findClass RX2 = some m.cls := findClass_of_methodNamed B.named
  have hlocks := B.notSynchronized
  have hS : va_S A s.heap s.heap [] := va_S.rf
  have hk_0n := hE.2.1.1 ("HamCellar$Hooks", 21, "HamCellar$Leg", "target", "I", "HamCellar") (by decide +kernel)
  have hk_0 : (Cond.fieldLinkNest "HamCellar$Hooks" 21 "HamCellar$Leg" "target" "I" "HamCellar").before ([.ref (ad 2), .ref p0] : List Value).toArray s = true := va_Nw.use rfl hk_0n
  have hk_1 : ∀ w ∈ wsX30, w ∈ wsX2_leadsRing := by decide +kernel
  have hk_2n := hE.2.1.1 ("HamCellar$Hooks", 17, "HamCellar$Leg", "place", "I", "HamCellar") (by decide +kernel)
  have hk_2 : (Cond.fieldLinkNest "HamCellar$Hooks" 17 "HamCellar$Leg" "place" "I" "HamCellar").before ([.ref (ad 2), .ref p0] : List Value).toArray s = true := va_Nw.use rfl hk_2n
  have hbk_C_X2_leadsRing_54 : ∀ (v1 : Nat) (hy_v1 : v1 ∈ LP) (H : Heap) (locs : List Loc) (ls : Array Slot), va_P (dC, dI) vwCl (wA ad cB cI cZ cL LP today legCount legs hung warmth damp wopen tsize bytes rat rtold rwrong numbers asked ftold ffarm ffrom fwhat fon csize ctotal offered cws cwa g_number g_farm g_pig g_first g_begun g_weight g_salted g_heat g_place g_target g_feedAsked g_sealed g_bad g_sold) H → va_D A (wA ad cB cI cZ cL LP today legCount legs hung warmth damp wopen tsize bytes rat rtold rwrong numbers asked ftold ffarm ffrom fwhat fon csize ctotal offered cws cwa g_number g_farm g_pig g_first g_begun g_weight g_salted g_heat g_place g_target g_feedAsked g_sealed g_bad g_sold) → va_S A s.heap H locs → lv_has ls 4 [(1, .ref v1), (2, .null)] → bk_C_X2_leadsRing_54 LP hung g_place g_target Q v1 → W p l e (headSpec wsX2_leadsRing rm_C_X2_leadsRing).room s m ([.ref (ad 2), .ref p0] : List Value).toArray below meth c H locs 0 0 (MQ below (pq_C_X2_leadsRing dC dI ad cB cI cZ cL A LP today legCount legs hung warmth damp wopen tsize bytes rat rtold rwrong numbers asked ftold ffarm ffrom fwhat fon csize ctotal offered cws cwa g_number g_farm g_pig g_first g_begun g_weight g_salted g_heat g_place g_target g_feedAsked g_sealed g_bad g_sold Q) ([.ref (ad 2), .ref p0] : List Value).toArray s 0 0 A) (F0 m 54 ls []) := by
    intro v1 hy_v1 H locs ls hP hD hS hl h
    refine lv_aload_nN hx hb dX2_leadsRing_54 rfl (lv_at hl 1 rfl) ?_
    refine lv_aload_n hx hb dX2_leadsRing_55 rfl (lv_at hl 0 rfl) ?_
    refine lv_acmp_ne (rx := none) (ry := (some v1)) (tgt := 63) hx hb dX2_leadsRing_56 (by decide) (fun c_8 => ?_) (fun c_8 => ?_)
    · have h := h.1 c_8
      refine lv_iconst (v := 0) hx hb dX2_leadsRing_63 (by decide) ?_
      exact W.zret (v := 0) (ty := .boolean) hx hb hr (z01 h.1) (fun t ht hW => ⟨⟨0, (), rfl, h.2, kB_mk hP hK hD ht hW.alike⟩, hS.F ht⟩) hS.2.2 dX2_leadsRing_64
    · have h := h.2 c_8
      refine lv_iconst (v := 1) hx hb dX2_leadsRing_59 (by decide) ?_
      refine lv_goto (tgt := 64) hx hb dX2_leadsRing_60 (by decide) ?_
      exact W.zret (v := 1) (ty := .boolean) hx hb hr (z01 h.1) (fun t ht hW => ⟨⟨1, (), rfl, h.2, kB_mk hP hK hD ht hW.alike⟩, hS.F ht⟩) hS.2.2 dX2_leadsRing_64
  have hbk_C_X2_leadsRing_54_1 : ∀ (v1 : Nat) (v2 : Nat) (hy_v1 : v1 ∈ LP) (hy_v2 : v2 ∈ LP) (H : Heap) (locs : List Loc) (ls : Array Slot), va_P (dC, dI) vwCl (wA ad cB cI cZ cL LP today legCount legs hung warmth damp wopen tsize bytes rat rtold rwrong numbers asked ftold ffarm ffrom fwhat fon csize ctotal offered cws cwa g_number g_farm g_pig g_first g_begun g_weight g_salted g_heat g_place g_target g_feedAsked g_sealed g_bad g_sold) H → va_D A (wA ad cB cI cZ cL LP today legCount legs hung warmth damp wopen tsize bytes rat rtold rwrong numbers asked ftold ffarm ffrom fwhat fon csize ctotal offered cws cwa g_number g_farm g_pig g_first g_begun g_weight g_salted g_heat g_place g_target g_feedAsked g_sealed g_bad g_sold) → va_S A s.heap H locs → lv_has ls 4 [(1, .ref v1), (2, .ref v2)] → bk_C_X2_leadsRing_54_1 LP hung g_place g_target Q v1 v2 → W p l e (headSpec wsX2_leadsRing rm_C_X2_leadsRing).room s m ([.ref (ad 2), .ref p0] : List Value).toArray below meth c H locs 0 0 (MQ below (pq_C_X2_leadsRing dC dI ad cB cI cZ cL A LP today legCount legs hung warmth damp wopen tsize bytes rat rtold rwrong numbers asked ftold ffarm ffrom fwhat fon csize ctotal offered cws cwa g_number g_farm g_pig g_first g_begun g_weight g_salted g_heat g_place g_target g_feedAsked g_sealed g_bad g_sold Q) ([.ref (ad 2), .ref p0] : List Value).toArray s 0 0 A) (F0 m 54 ls []) := by
    intro v1 v2 hy_v1 hy_v2 H locs ls hP hD hS hl h
    refine lv_aload_n hx hb dX2_leadsRing_54 rfl (lv_at hl 1 rfl) ?_
    refine lv_aload_n hx hb dX2_leadsRing_55 rfl (lv_at hl 0 rfl) ?_
    refine lv_acmp_ne (rx := (some v2)) (ry := (some v1)) (tgt := 63) hx hb dX2_leadsRing_56 (by decide) (fun c_10 => ?_) (fun c_10 => ?_)
    · have h := h.1 c_10
      refine lv_iconst (v := 0) hx hb dX2_leadsRing_63 (by decide) ?_
      exact W.zret (v := 0) (ty := .boolean) hx hb hr (z01 h.1) (fun t ht hW => ⟨⟨0, (), rfl, h.2, kB_mk hP hK hD ht hW.alike⟩, hS.F ht⟩) hS.2.2 dX2_leadsRing_64
    · have h := h.2 c_10
      refine lv_iconst (v := 1) hx hb dX2_leadsRing_59 (by decide) ?_
      refine lv_goto (tgt := 64) hx hb dX2_leadsRing_60 (by decide) ?_
      exact W.zret (v := 1) (ty := .boolean) hx hb hr (z01 h.1) (fun t ht hW => ⟨⟨1, (), rfl, h.2, kB_mk hP hK hD ht hW.alike⟩, hS.F ht⟩) hS.2.2 dX2_leadsRing_64
  have hlp_C_X2_leadsRing_11 : ∀ (n : Nat) (v1 : Nat) (v2 : Option Nat) (v3 : Int32) (hy_v1 : v1 ∈ LP) (hq_v2 : ∀ y9 : Nat, v2 = some y9 → y9 ∈ LP) (H : Heap) (locs : List Loc) (ls : Array Slot), va_P (dC, dI) vwCl (wA ad cB cI cZ cL LP today legCount legs hung warmth damp wopen tsize bytes rat rtold rwrong numbers asked ftold ffarm ffrom fwhat fon csize ctotal offered cws cwa g_number g_farm g_pig g_first g_begun g_weight g_salted g_heat g_place g_target g_feedAsked g_sealed g_bad g_sold) H → va_D A (wA ad cB cI cZ cL LP today legCount legs hung warmth damp wopen tsize bytes rat rtold rwrong numbers asked ftold ffarm ffrom fwhat fon csize ctotal offered cws cwa g_number g_farm g_pig g_first g_begun g_weight g_salted g_heat g_place g_target g_feedAsked g_sealed g_bad g_sold) → va_S A s.heap H locs → lv_has ls 4 [(0, .ref (ad 2)), (1, .ref v1), (2, va_rf v2), (3, .int v3)] → lp_C_X2_leadsRing_11 LP hung g_place g_target Q n v1 v2 v3 → W p l e (headSpec wsX2_leadsRing rm_C_X2_leadsRing).room s m ([.ref (ad 2), .ref p0] : List Value).toArray below meth c H locs 0 0 (MQ below (pq_C_X2_leadsRing dC dI ad cB cI cZ cL A LP today legCount legs hung warmth damp wopen tsize bytes rat rtold rwrong numbers asked ftold ffarm ffrom fwhat fon csize ctotal offered cws cwa g_number g_farm g_pig g_first g_begun g_weight g_salted g_heat g_place g_target g_feedAsked g_sealed g_bad g_sold Q) ([.ref (ad 2), .ref p0] : List Value).toArray s 0 0 A) (F0 m 11 ls []) := by
    intro n
    induction n with
    | zero => intro v1 v2 v3 hy_v1 hq_v2 H locs ls hP hD hS hl h; exact h.elim
    | succ n ih =>
      intro v1 v2 v3 hy_v1 hq_v2 H locs ls hP hD hS hl h
      cases v2 with
      | none =>
        have h := h.1 rfl
        refine lv_iload_n hx hb dX2_leadsRing_11 rfl (lv_at hl 3 rfl) ?_
        refine lv_bipush (v := 60) hx hb dX2_leadsRing_12 (by decide) ?_
        refine lv_icmp_ge (tgt := 54) hx hb dX2_leadsRing_14 (by decide) (fun c_7 => ?_) (fun c_7 => ?_)
        · have h := h.1 c_7
          exact hbk_C_X2_leadsRing_54 v1 hy_v1 _ _ _ hP hD hS (lv_sub hl [1, 2] rfl) h
        · have h := h.2 c_7
          refine lv_aload_nN hx hb dX2_leadsRing_17 rfl (lv_at hl 2 rfl) ?_
          refine lv_ifnullN (tgt := 54) hx hb dX2_leadsRing_18 (by decide) ?_
          exact hbk_C_X2_leadsRing_54 v1 hy_v1 _ _ _ hP hD hS (lv_sub hl [1, 2] rfl) h
      | some y_6 =>
        have hy_y_6 := hq_v2 y_6 rfl
        have h := h.2 y_6 rfl
        refine lv_iload_n hx hb dX2_leadsRing_11 rfl (lv_at hl 3 rfl) ?_
        refine lv_bipush (v := 60) hx hb dX2_leadsRing_12 (by decide) ?_
        refine lv_icmp_ge (tgt := 54) hx hb dX2_leadsRing_14 (by decide) (fun c_9 => ?_) (fun c_9 => ?_)
        · have h := h.1 c_9
          exact hbk_C_X2_leadsRing_54_1 v1 y_6 hy_v1 hy_y_6 _ _ _ hP hD hS (lv_sub hl [1, 2] rfl) h
        · have h := h.2 c_9
          refine lv_aload_n hx hb dX2_leadsRing_17 rfl (lv_at hl 2 rfl) ?_
          refine lv_ifnull hx hb dX2_leadsRing_18 ?_
          refine lv_aload_n hx hb dX2_leadsRing_21 rfl (lv_at hl 2 rfl) ?_
          refine lv_aload_n hx hb dX2_leadsRing_22 rfl (lv_at hl 1 rfl) ?_
          refine lv_acmp_eq (rx := (some y_6)) (ry := (some v1)) (tgt := 54) hx hb dX2_leadsRing_23 (by decide) (fun c_11 => ?_) (fun c_11 => ?_)
          · have h := h.1 c_11
            exact hbk_C_X2_leadsRing_54_1 v1 y_6 hy_v1 hy_y_6 _ _ _ hP hD hS (lv_sub hl [1, 2] rfl) h
          · have h := h.2 c_11
            refine lv_aload_n hx hb dX2_leadsRing_26 rfl (lv_at hl 2 rfl) ?_
            obtain ⟨k_12, hg_k_12⟩ := wA_leg hy_y_6
            refine va_getN (D := (dC, dI)) (ci := 3) (v := .int (g_place y_6)) (C := RX3) (T := TX3) (N := 14) hx hb hts hk_1 hown hK hP k_12 hg_k_12 rfl 8 (by decide) hk_2 (fun _ h9 => h9) rfl dX2_leadsRing_27 ?_
            refine lv_aload_n hx hb dX2_leadsRing_30 rfl (lv_at hl 1 rfl) ?_
            obtain ⟨k_13, hg_k_13⟩ := wA_leg hy_v1
            refine va_getN (D := (dC, dI)) (ci := 3) (v := .int (g_place v1)) (C := RX3) (T := TX3) (N := 14) hx hb hts hk_1 hown hK hP k_13 hg_k_13 rfl 8 (by decide) hk_2 (fun _ h9 => h9) rfl dX2_leadsRing_31 ?_
            refine lv_icmp_ge (tgt := 39) hx hb dX2_leadsRing_34 (by decide) (fun c_14 => ?_) (fun c_14 => ?_)
            · have h := h.1 c_14
              refine lv_aload_n hx hb dX2_leadsRing_39 rfl (lv_at hl 0 rfl) ?_
              refine lv_aload_n hx hb dX2_leadsRing_40 rfl (lv_at hl 2 rfl) ?_
              obtain ⟨k_15, hg_k_15⟩ := wA_leg hy_y_6
              refine va_getN (D := (dC, dI)) (ci := 3) (v := .int (g_target y_6)) (C := RX3) (T := TX3) (N := 14) hx hb hts hk_1 hown hK hP k_15 hg_k_15 rfl 9 (by decide) hk_0 (fun _ h9 => h9) rfl dX2_leadsRing_41 ?_
              refine va_callq (va_runV (As := [.int (g_target y_6)]) (rest := []) ⟨hx, hb, hml, hown, hts⟩ (c_C_X2_legAt l dC dI ad cB cI cZ cL A LP today legCount legs hung warmth damp wopen tsize bytes rat rtold rwrong numbers asked ftold ffarm ffrom fwhat fon csize ctotal offered cws cwa g_number g_farm g_pig g_first g_begun g_weight g_salted g_heat g_place g_target g_feedAsked g_sealed g_bad g_sold (g_target y_6) _ h) (cwV 1 hts gX2_leadsRing_X2_legAt rfl rfl rfl (by decide +kernel) ⟨(Nat.le_of_ble_eq_true rfl), (Nat.le_of_ble_eq_true rfl)⟩) ⟨kC_blind, va_recv hK hP (ci := 2) (q0 := 2) rfl wA_g2, fun U hU hW => ⟨rfl, kC_go hA hS hP hK hD hE U hU hW⟩⟩ rfl rfl hl.1 rfl (lv_room (Nat.le_of_ble_eq_true rfl)) dX2_leadsRing_44 ⟨(Nat.le_of_ble_eq_true rfl), (Nat.le_of_ble_eq_true rfl)⟩) hS (fun q _ h => h) (fun q h => h) (fun r_16 u t H locs ht hvm hw hB hz1 hk1 hS => ?_)
              have h := hw
              try dsimp only at h
              have hP : va_P (dC, dI) vwCl (wA ad cB cI cZ cL LP today legCount legs hung warmth damp wopen tsize bytes rat rtold rwrong numbers asked ftold ffarm ffrom fwhat fon csize ctotal offered cws cwa g_number g_farm g_pig g_first g_begun g_weight g_salted g_heat g_place g_target g_feedAsked g_sealed g_bad g_sold) H := by rw [← ht]; exact hB.1
              have hD : va_D A (wA ad cB cI cZ cL LP today legCount legs hung warmth damp wopen tsize bytes rat rtold rwrong numbers asked ftold ffarm ffrom fwhat fon csize ctotal offered cws cwa g_number g_farm g_pig g_first g_begun g_weight g_salted g_heat g_place g_target g_feedAsked g_sealed g_bad g_sold) := hB.2.2
              cases hr_18 : r_16 with
              | none =>
                have h := h.1 hr_18
                refine lv_astore_nN (lv' := [(2, .null), (0, .ref (ad 2)), (1, .ref v1), (3, .int v3)]) hx hb dX2_leadsRing_47 rfl hl (by decide) rfl (fun ls hl => ?_)
                refine lv_iinc (v := v3 + 1) (lv' := [(3, .int (v3 + 1)), (2, .null), (0, .ref (ad 2)), (1, .ref v1)]) hx hb dX2_leadsRing_48 hl (k := 3) rfl rfl (by decide) rfl (fun ls hl => ?_)
                refine lv_goto (tgt := 11) hx hb dX2_leadsRing_51 (by decide) ?_
                exact ih v1 none (v3 + 1) hy_v1 (fun _ h9 => nomatch h9) _ _ _ hP hD hS (lv_sub hl [2, 3, 1, 0] rfl) h
              | some y_17 =>
                have hy_y_17 := (h.2 y_17 hr_18).1
                have h := (h.2 y_17 hr_18).2
                refine lv_astore_n (lv' := [(2, .ref y_17), (0, .ref (ad 2)), (1, .ref v1), (3, .int v3)]) hx hb dX2_leadsRing_47 rfl hl (by decide) rfl (fun ls hl => ?_)
                refine lv_iinc (v := v3 + 1) (lv' := [(3, .int (v3 + 1)), (2, .ref y_17), (0, .ref (ad 2)), (1, .ref v1)]) hx hb dX2_leadsRing_48 hl (k := 3) rfl rfl (by decide) rfl (fun ls hl => ?_)
                refine lv_goto (tgt := 11) hx hb dX2_leadsRing_51 (by decide) ?_
                exact ih v1 (some y_17) (v3 + 1) hy_v1 (fun _ h9 => Option.some.inj h9 ▸ hy_y_17) _ _ _ hP hD hS (lv_sub hl [2, 3, 1, 0] rfl) h
            · have h := h.2 c_14
              refine lv_iconst (v := 0) hx hb dX2_leadsRing_37 (by decide) ?_
              exact W.zret (v := 0) (ty := .boolean) hx hb hr (z01 h.1) (fun t ht hW => ⟨⟨0, (), rfl, h.2, kB_mk hP hK hD ht hW.alike⟩, hS.F ht⟩) hS.2.2 dX2_leadsRing_38
  have hl := lv_entry ([.ref (ad 2), .ref p0]) (n := 4) (Nat.le_of_ble_eq_true rfl)
  rw [lg_entry_eq]
  generalize (lg_sl ([.ref (ad 2), .ref p0]) ++ List.replicate (4 - (lg_sl ([.ref (ad 2), .ref p0])).length) Slot.unset).toArray = ls at hl ⊢
  have hl : lv_has ls 4 [(0, .ref (ad 2)), (1, .ref p0)] := hl
  unfold wp_C_X2_leadsRing at h
  refine lv_aload_n hx hb dX2_leadsRing_0 rfl (lv_at hl 0 rfl) ?_
  refine lv_aload_n hx hb dX2_leadsRing_1 rfl (lv_at hl 1 rfl) ?_
  obtain ⟨k_1, hg_k_1⟩ := wA_leg hy_p0
  refine va_getN (D := (dC, dI)) (ci := 3) (v := .int (g_target p0)) (C := RX3) (T := TX3) (N := 14) hx hb hts hk_1 hown hK hP k_1 hg_k_1 rfl 9 (by decide) hk_0 (fun _ h9 => h9) rfl dX2_leadsRing_2 ?_
  refine va_callq (va_runV (As := [.int (g_target p0)]) (rest := []) ⟨hx, hb, hml, hown, hts⟩ (c_C_X2_legAt l dC dI ad cB cI cZ cL A LP today legCount legs hung warmth damp wopen tsize bytes rat rtold rwrong numbers asked ftold ffarm ffrom fwhat fon csize ctotal offered cws cwa g_number g_farm g_pig g_first g_begun g_weight g_salted g_heat g_place g_target g_feedAsked g_sealed g_bad g_sold (g_target p0) _ h) (cwV 1 hts gX2_leadsRing_X2_legAt rfl rfl rfl (by decide +kernel) ⟨(Nat.le_of_ble_eq_true rfl), (Nat.le_of_ble_eq_true rfl)⟩) ⟨kC_blind, va_recv hK hP (ci := 2) (q0 := 2) rfl wA_g2, fun U hU hW => ⟨rfl, kC_go hA hS hP hK hD hE U hU hW⟩⟩ rfl rfl hl.1 rfl (lv_room (Nat.le_of_ble_eq_true rfl)) dX2_leadsRing_5 ⟨(Nat.le_of_ble_eq_true rfl), (Nat.le_of_ble_eq_true rfl)⟩) hS (fun q _ h => h) (fun q h => h) (fun r_2 u t H locs ht hvm hw hB hz1 hk1 hS => ?_)
  have h := hw
  try dsimp only at h
  have hP : va_P (dC, dI) vwCl (wA ad cB cI cZ cL LP today legCount legs hung warmth damp wopen tsize bytes rat rtold rwrong numbers asked ftold ffarm ffrom fwhat fon csize ctotal offered cws cwa g_number g_farm g_pig g_first g_begun g_weight g_salted g_heat g_place g_target g_feedAsked g_sealed g_bad g_sold) H := by rw [← ht]; exact hB.1
  have hD : va_D A (wA ad cB cI cZ cL LP today legCount legs hung warmth damp wopen tsize bytes rat rtold rwrong numbers asked ftold ffarm ffrom fwhat fon csize ctotal offered cws cwa g_number g_farm g_pig g_first g_begun g_weight g_salted g_heat g_place g_target g_feedAsked g_sealed g_bad g_sold) := hB.2.2
  cases hr_4 : r_2 with
  | none =>
    have h := h.1 hr_4
    refine lv_astore_nN (lv' := [(2, .null), (0, .ref (ad 2)), (1, .ref p0)]) hx hb dX2_leadsRing_8 rfl hl (by decide) rfl (fun ls hl => ?_)
    refine lv_iconst (v := 0) hx hb dX2_leadsRing_9 (by decide) ?_
    refine lv_istore_n (lv' := [(3, .int 0), (2, .null), (0, .ref (ad 2)), (1, .ref p0)]) hx hb dX2_leadsRing_10 rfl hl (by decide) rfl (fun ls hl => ?_)
    obtain ⟨n_20, h⟩ := h
    exact hlp_C_X2_leadsRing_11 n_20 p0 none 0 hy_p0 (fun _ h9 => nomatch h9) _ _ _ hP hD hS (lv_sub hl [2, 3, 1, 0] rfl) h
  | some y_3 =>
    have hy_y_3 := (h.2 y_3 hr_4).1
    have h := (h.2 y_3 hr_4).2
    refine lv_astore_n (lv' := [(2, .ref y_3), (0, .ref (ad 2)), (1, .ref p0)]) hx hb dX2_leadsRing_8 rfl hl (by decide) rfl (fun ls hl => ?_)
    refine lv_iconst (v := 0) hx hb dX2_leadsRing_9 (by decide) ?_
    refine lv_istore_n (lv' := [(3, .int 0), (2, .ref y_3), (0, .ref (ad 2)), (1, .ref p0)]) hx hb dX2_leadsRing_10 rfl hl (by decide) rfl (fun ls hl => ?_)
    obtain ⟨n_21, h⟩ := h
    exact hlp_C_X2_leadsRing_11 n_21 p0 (some y_3) 0 hy_p0 (fun _ h9 => Option.some.inj h9 ▸ hy_y_3) _ _ _ hP hD hS (lv_sub hl [2, 3, 1, 0] rfl) h
def bk_C_X2_leastMoves_108 (LP : List Nat) (hung : Nat → Option Nat) (g_place : Nat → Int32) (g_target : Nat → Int32)  (Q : Int32 → Prop) (v1 : Int32) (v2 : Int32) : Prop := Q (v1 + v2)
def bk_C_X2_leastMoves_90 (LP : List Nat) (hung : Nat → Option Nat) (g_place : Nat → Int32) (g_target : Nat → Int32)  (Q : Int32 → Prop) (K10 : Int32 → Int32 → Int32 → Int32 → Prop) (v1 : Int32) (v2 : Int32) (v3 : Int32) (v4 : Int32) : Prop := K10 v1 v2 v3 (v4 + 1)
def bk_C_X2_leastMoves_88 (LP : List Nat) (hung : Nat → Option Nat) (g_place : Nat → Int32) (g_target : Nat → Int32)  (Q : Int32 → Prop) (K10 : Int32 → Int32 → Int32 → Int32 → Prop) (v1 : Int32) (v3 : Int32) (v4 : Int32) (k0 : Int32) (k1 : Int32) : Prop := bk_C_X2_leastMoves_90 LP hung g_place g_target Q K10 v1 (k1 + k0) v3 v4
def lp_C_X2_leastMoves_10 (LP : List Nat) (hung : Nat → Option Nat) (g_place : Nat → Int32) (g_target : Nat → Int32)  (Q : Int32 → Prop) : Nat → Int32 → Int32 → Int32 → Int32 → Prop
  | 0 => fun _ _ _ _ => False
  | n + 1 => fun v1 v2 v3 v4 => ((60 ≤ v4 → ((v2 ≤ 0 → bk_C_X2_leastMoves_108 LP hung g_place g_target Q v1 v2) ∧ (¬ (v2 ≤ 0) → ((¬ v3 = 0 → bk_C_X2_leastMoves_108 LP hung g_place g_target Q v1 v2) ∧ (v3 = 0 → Q (-1)))))) ∧ (¬ (60 ≤ v4) → (vp_in v4 60 ∧ ((hung v4.toNatClampNeg = none → bk_C_X2_leastMoves_90 LP hung g_place g_target Q (lp_C_X2_leastMoves_10 LP hung g_place g_target Q n) v1 v2 (v3 + 1) v4) ∧ (∀ y_5 : Nat, hung v4.toNatClampNeg = some y_5 → y_5 ∈ LP ∧ (((g_target y_5) = (-1) → bk_C_X2_leastMoves_90 LP hung g_place g_target Q (lp_C_X2_leastMoves_10 LP hung g_place g_target Q n) v1 v2 v3 v4) ∧ (¬ ((g_target y_5) = (-1)) → (((g_target y_5) = v4 → bk_C_X2_leastMoves_90 LP hung g_place g_target Q (lp_C_X2_leastMoves_10 LP hung g_place g_target Q n) v1 v2 v3 v4) ∧ (¬ ((g_target y_5) = v4) → wp_C_X2_isTargetKept LP hung g_target (fun r_12 => ((r_12 = 0 → wp_C_X2_leadsRing LP hung g_place g_target (fun r_14 => ((r_14 = 0 → bk_C_X2_leastMoves_88 LP hung g_place g_target Q (lp_C_X2_leastMoves_10 LP hung g_place g_target Q n) (v1 + 1) v3 v4 0 v2) ∧ (¬ (r_14 = 0) → bk_C_X2_leastMoves_88 LP hung g_place g_target Q (lp_C_X2_leastMoves_10 LP hung g_place g_target Q n) (v1 + 1) v3 v4 1 v2))) y_5) ∧ (¬ (r_12 = 0) → Q (-1)))) y_5)))))))))
def wp_C_X2_leastMoves (LP : List Nat) (hung : Nat → Option Nat) (g_place : Nat → Int32) (g_target : Nat → Int32) (Q : Int32 → Prop) : Prop := (∃ n_16, lp_C_X2_leastMoves_10 LP hung g_place g_target Q n_16 0 0 0 10)
def rm_C_X2_leastMoves : Room := { frames := 2, cells := 0, slots := 0, locals := 44 }
abbrev pq_C_X2_leastMoves (dC : Nat → ClassId) (dI : Nat → Nat → Nat) (ad : Nat → Nat) (cB cI cZ cL : ClassId) (A : Nat → Prop) (LP : List Nat) (today legCount : Int32) (legs hung : Nat → Option Nat) (warmth damp wopen : Nat → Int32) (tsize : Int32) (bytes : Nat → Int32) (rat rtold rwrong : Int32) (numbers asked : Nat → Int32) (ftold : Int32) (ffarm ffrom fwhat fon : Nat → Int32) (csize ctotal : Int32) (offered : Nat → Option Nat) (cws cwa g_number g_farm g_pig g_first g_begun g_weight g_salted g_heat g_place g_target g_feedAsked g_sealed g_bad g_sold : Nat → Int32) (Q : Int32 → Prop) : Array Value → State → Outcome → State → Prop := va_Qi (fun (r : Int32) (u : Unit) => Q r ) (fun u t => kB dC dI A (wA ad cB cI cZ cL LP today legCount legs hung warmth damp wopen tsize bytes rat rtold rwrong numbers asked ftold ffarm ffrom fwhat fon csize ctotal offered cws cwa g_number g_farm g_pig g_first g_begun g_weight g_salted g_heat g_place g_target g_feedAsked g_sealed g_bad g_sold) (kTy cB cI cZ cL) t) A
set_option maxHeartbeats 4000000 in
set_option maxRecDepth 100000 in
theorem c_C_X2_leastMoves (l : Launch) (dC : Nat → ClassId) (dI : Nat → Nat → Nat) (ad : Nat → Nat) (cB cI cZ cL : ClassId) (A : Nat → Prop) (LP : List Nat) (today legCount : Int32) (legs hung : Nat → Option Nat) (warmth damp wopen : Nat → Int32) (tsize : Int32) (bytes : Nat → Int32) (rat rtold rwrong : Int32) (numbers asked : Nat → Int32) (ftold : Int32) (ffarm ffrom fwhat fon : Nat → Int32) (csize ctotal : Int32) (offered : Nat → Option Nat) (cws cwa g_number g_farm g_pig g_first g_begun g_weight g_salted g_heat g_place g_target g_feedAsked g_sealed g_bad g_sold : Nat → Int32)   (Q : Int32 → Prop) (h : wp_C_X2_leastMoves LP hung g_place g_target Q) : Met l yX2_leastMoves wsX2_leastMoves rm_C_X2_leastMoves (va_Pc [.ref (ad 2)] (kC dC dI ad A (wA ad cB cI cZ cL LP today legCount legs hung warmth damp wopen tsize bytes rat rtold rwrong numbers asked ftold ffarm ffrom fwhat fon csize ctotal offered cws cwa g_number g_farm g_pig g_first g_begun g_weight g_salted g_heat g_place g_target g_feedAsked g_sealed g_bad g_sold) (kTy cB cI cZ cL))) (pq_C_X2_leastMoves dC dI ad cB cI cZ cL A LP today legCount legs hung warmth damp wopen tsize bytes rat rtold rwrong numbers asked ftold ffarm ffrom fwhat fon csize ctotal offered cws cwa g_number g_farm g_pig g_first g_begun g_weight g_salted g_heat g_place g_target g_feedAsked g_sealed g_bad g_sold Q) 0 0 A := by
  refine Met.ofW (cc := cX2_leastMoves) (maxL := 6) (ret := (some .int)) (by decide) rfl ?_
  intro p e s m args below meth c s₁ B hml hv
  obtain ⟨rfl, hA, hP, hK, hD, hE⟩ := hv
  have hx := B.exec
  have hb := B.bytes
  have hr := B.returns
  have hts := atoms_spec (ws := wsX2_leastMoves) B.pre
  have hown : s.vm.findClass RX2 = some m.cls := findClass_of_methodNamed B.named
  have hlocks := B.notSynchronized
  have hS : va_S A s.heap s.heap [] := va_S.rf
  have hk_0 := hts (.fieldLink RX2 11 "HamCellar$Hooks" "hung" "[LHamCellar$Leg;") (by decide +kernel)
  have hk_1 : ∀ w ∈ wsX20, w ∈ wsX2_leastMoves := by decide +kernel
  have hk_2n := hE.2.1.1 ("HamCellar$Hooks", 21, "HamCellar$Leg", "target", "I", "HamCellar") (by decide +kernel)
  have hk_2 : (Cond.fieldLinkNest "HamCellar$Hooks" 21 "HamCellar$Leg" "target" "I" "HamCellar").before ([.ref (ad 2)] : List Value).toArray s = true := va_Nw.use rfl hk_2n
  have hk_3 : ∀ w ∈ wsX30, w ∈ wsX2_leastMoves := by decide +kernel
  have hbk_C_X2_leastMoves_108 : ∀ (v1 : Int32) (v2 : Int32) (H : Heap) (locs : List Loc) (ls : Array Slot), va_P (dC, dI) vwCl (wA ad cB cI cZ cL LP today legCount legs hung warmth damp wopen tsize bytes rat rtold rwrong numbers asked ftold ffarm ffrom fwhat fon csize ctotal offered cws cwa g_number g_farm g_pig g_first g_begun g_weight g_salted g_heat g_place g_target g_feedAsked g_sealed g_bad g_sold) H → va_D A (wA ad cB cI cZ cL LP today legCount legs hung warmth damp wopen tsize bytes rat rtold rwrong numbers asked ftold ffarm ffrom fwhat fon csize ctotal offered cws cwa g_number g_farm g_pig g_first g_begun g_weight g_salted g_heat g_place g_target g_feedAsked g_sealed g_bad g_sold) → va_S A s.heap H locs → lv_has ls 6 [(1, .int v1), (2, .int v2)] → bk_C_X2_leastMoves_108 LP hung g_place g_target Q v1 v2 → W p l e (headSpec wsX2_leastMoves rm_C_X2_leastMoves).room s m ([.ref (ad 2)] : List Value).toArray below meth c H locs 0 0 (MQ below (pq_C_X2_leastMoves dC dI ad cB cI cZ cL A LP today legCount legs hung warmth damp wopen tsize bytes rat rtold rwrong numbers asked ftold ffarm ffrom fwhat fon csize ctotal offered cws cwa g_number g_farm g_pig g_first g_begun g_weight g_salted g_heat g_place g_target g_feedAsked g_sealed g_bad g_sold Q) ([.ref (ad 2)] : List Value).toArray s 0 0 A) (F0 m 108 ls []) := by
    intro v1 v2 H locs ls hP hD hS hl h
    refine lv_iload_n hx hb dX2_leastMoves_108 rfl (lv_at hl 0 rfl) ?_
    refine lv_iload_n hx hb dX2_leastMoves_109 rfl (lv_at hl 1 rfl) ?_
    refine lv_iadd hx hb dX2_leastMoves_110 ?_
    exact W.iret (v := v1 + v2) hx hb hr (fun t ht hW => ⟨⟨v1 + v2, (), rfl, h, kB_mk hP hK hD ht hW.alike⟩, hS.F ht⟩) hS.2.2 dX2_leastMoves_111
  have hbk_C_X2_leastMoves_90 : ∀ (K10 : Int32 → Int32 → Int32 → Int32 → Prop) (hK10 : ∀ (v1 : Int32) (v2 : Int32) (v3 : Int32) (v4 : Int32) (H : Heap) (locs : List Loc) (ls : Array Slot), va_P (dC, dI) vwCl (wA ad cB cI cZ cL LP today legCount legs hung warmth damp wopen tsize bytes rat rtold rwrong numbers asked ftold ffarm ffrom fwhat fon csize ctotal offered cws cwa g_number g_farm g_pig g_first g_begun g_weight g_salted g_heat g_place g_target g_feedAsked g_sealed g_bad g_sold) H → va_D A (wA ad cB cI cZ cL LP today legCount legs hung warmth damp wopen tsize bytes rat rtold rwrong numbers asked ftold ffarm ffrom fwhat fon csize ctotal offered cws cwa g_number g_farm g_pig g_first g_begun g_weight g_salted g_heat g_place g_target g_feedAsked g_sealed g_bad g_sold) → va_S A s.heap H locs → lv_has ls 6 [(0, .ref (ad 2)), (1, .int v1), (2, .int v2), (3, .int v3), (4, .int v4)] → K10 v1 v2 v3 v4 → W p l e (headSpec wsX2_leastMoves rm_C_X2_leastMoves).room s m ([.ref (ad 2)] : List Value).toArray below meth c H locs 0 0 (MQ below (pq_C_X2_leastMoves dC dI ad cB cI cZ cL A LP today legCount legs hung warmth damp wopen tsize bytes rat rtold rwrong numbers asked ftold ffarm ffrom fwhat fon csize ctotal offered cws cwa g_number g_farm g_pig g_first g_begun g_weight g_salted g_heat g_place g_target g_feedAsked g_sealed g_bad g_sold Q) ([.ref (ad 2)] : List Value).toArray s 0 0 A) (F0 m 10 ls [])) (v1 : Int32) (v2 : Int32) (v3 : Int32) (v4 : Int32) (H : Heap) (locs : List Loc) (ls : Array Slot), va_P (dC, dI) vwCl (wA ad cB cI cZ cL LP today legCount legs hung warmth damp wopen tsize bytes rat rtold rwrong numbers asked ftold ffarm ffrom fwhat fon csize ctotal offered cws cwa g_number g_farm g_pig g_first g_begun g_weight g_salted g_heat g_place g_target g_feedAsked g_sealed g_bad g_sold) H → va_D A (wA ad cB cI cZ cL LP today legCount legs hung warmth damp wopen tsize bytes rat rtold rwrong numbers asked ftold ffarm ffrom fwhat fon csize ctotal offered cws cwa g_number g_farm g_pig g_first g_begun g_weight g_salted g_heat g_place g_target g_feedAsked g_sealed g_bad g_sold) → va_S A s.heap H locs → lv_has ls 6 [(0, .ref (ad 2)), (1, .int v1), (2, .int v2), (3, .int v3), (4, .int v4)] → bk_C_X2_leastMoves_90 LP hung g_place g_target Q K10 v1 v2 v3 v4 → W p l e (headSpec wsX2_leastMoves rm_C_X2_leastMoves).room s m ([.ref (ad 2)] : List Value).toArray below meth c H locs 0 0 (MQ below (pq_C_X2_leastMoves dC dI ad cB cI cZ cL A LP today legCount legs hung warmth damp wopen tsize bytes rat rtold rwrong numbers asked ftold ffarm ffrom fwhat fon csize ctotal offered cws cwa g_number g_farm g_pig g_first g_begun g_weight g_salted g_heat g_place g_target g_feedAsked g_sealed g_bad g_sold Q) ([.ref (ad 2)] : List Value).toArray s 0 0 A) (F0 m 90 ls []) := by
    intro K10 hK10 v1 v2 v3 v4 H locs ls hP hD hS hl h
    refine lv_iinc (v := v4 + 1) (lv' := [(4, .int (v4 + 1)), (0, .ref (ad 2)), (1, .int v1), (2, .int v2), (3, .int v3)]) hx hb dX2_leastMoves_90 hl (k := 4) rfl rfl (by decide) rfl (fun ls hl => ?_)
    refine lv_goto (tgt := 10) hx hb dX2_leastMoves_93 (by decide) ?_
    exact hK10 v1 v2 v3 (v4 + 1) _ _ _ hP hD hS (lv_sub hl [1, 2, 3, 4, 0] rfl) h
  have hbk_C_X2_leastMoves_88 : ∀ (K10 : Int32 → Int32 → Int32 → Int32 → Prop) (hK10 : ∀ (v1 : Int32) (v2 : Int32) (v3 : Int32) (v4 : Int32) (H : Heap) (locs : List Loc) (ls : Array Slot), va_P (dC, dI) vwCl (wA ad cB cI cZ cL LP today legCount legs hung warmth damp wopen tsize bytes rat rtold rwrong numbers asked ftold ffarm ffrom fwhat fon csize ctotal offered cws cwa g_number g_farm g_pig g_first g_begun g_weight g_salted g_heat g_place g_target g_feedAsked g_sealed g_bad g_sold) H → va_D A (wA ad cB cI cZ cL LP today legCount legs hung warmth damp wopen tsize bytes rat rtold rwrong numbers asked ftold ffarm ffrom fwhat fon csize ctotal offered cws cwa g_number g_farm g_pig g_first g_begun g_weight g_salted g_heat g_place g_target g_feedAsked g_sealed g_bad g_sold) → va_S A s.heap H locs → lv_has ls 6 [(0, .ref (ad 2)), (1, .int v1), (2, .int v2), (3, .int v3), (4, .int v4)] → K10 v1 v2 v3 v4 → W p l e (headSpec wsX2_leastMoves rm_C_X2_leastMoves).room s m ([.ref (ad 2)] : List Value).toArray below meth c H locs 0 0 (MQ below (pq_C_X2_leastMoves dC dI ad cB cI cZ cL A LP today legCount legs hung warmth damp wopen tsize bytes rat rtold rwrong numbers asked ftold ffarm ffrom fwhat fon csize ctotal offered cws cwa g_number g_farm g_pig g_first g_begun g_weight g_salted g_heat g_place g_target g_feedAsked g_sealed g_bad g_sold Q) ([.ref (ad 2)] : List Value).toArray s 0 0 A) (F0 m 10 ls [])) (v1 : Int32) (v3 : Int32) (v4 : Int32) (k0 : Int32) (k1 : Int32) (H : Heap) (locs : List Loc) (ls : Array Slot), va_P (dC, dI) vwCl (wA ad cB cI cZ cL LP today legCount legs hung warmth damp wopen tsize bytes rat rtold rwrong numbers asked ftold ffarm ffrom fwhat fon csize ctotal offered cws cwa g_number g_farm g_pig g_first g_begun g_weight g_salted g_heat g_place g_target g_feedAsked g_sealed g_bad g_sold) H → va_D A (wA ad cB cI cZ cL LP today legCount legs hung warmth damp wopen tsize bytes rat rtold rwrong numbers asked ftold ffarm ffrom fwhat fon csize ctotal offered cws cwa g_number g_farm g_pig g_first g_begun g_weight g_salted g_heat g_place g_target g_feedAsked g_sealed g_bad g_sold) → va_S A s.heap H locs → lv_has ls 6 [(0, .ref (ad 2)), (1, .int v1), (3, .int v3), (4, .int v4)] → bk_C_X2_leastMoves_88 LP hung g_place g_target Q K10 v1 v3 v4 k0 k1 → W p l e (headSpec wsX2_leastMoves rm_C_X2_leastMoves).room s m ([.ref (ad 2)] : List Value).toArray below meth c H locs 0 0 (MQ below (pq_C_X2_leastMoves dC dI ad cB cI cZ cL A LP today legCount legs hung warmth damp wopen tsize bytes rat rtold rwrong numbers asked ftold ffarm ffrom fwhat fon csize ctotal offered cws cwa g_number g_farm g_pig g_first g_begun g_weight g_salted g_heat g_place g_target g_feedAsked g_sealed g_bad g_sold Q) ([.ref (ad 2)] : List Value).toArray s 0 0 A) (F0 m 88 ls [.int k0, .int k1]) := by
    intro K10 hK10 v1 v3 v4 k0 k1 H locs ls hP hD hS hl h
    refine lv_iadd hx hb dX2_leastMoves_88 ?_
    refine lv_istore_n (lv' := [(2, .int (k1 + k0)), (0, .ref (ad 2)), (1, .int v1), (3, .int v3), (4, .int v4)]) hx hb dX2_leastMoves_89 rfl hl (by decide) rfl (fun ls hl => ?_)
    exact hbk_C_X2_leastMoves_90 K10 hK10 v1 (k1 + k0) v3 v4 _ _ _ hP hD hS (lv_sub hl [1, 2, 0, 3, 4] rfl) h
  have hlp_C_X2_leastMoves_10 : ∀ (n : Nat) (v1 : Int32) (v2 : Int32) (v3 : Int32) (v4 : Int32) (H : Heap) (locs : List Loc) (ls : Array Slot), va_P (dC, dI) vwCl (wA ad cB cI cZ cL LP today legCount legs hung warmth damp wopen tsize bytes rat rtold rwrong numbers asked ftold ffarm ffrom fwhat fon csize ctotal offered cws cwa g_number g_farm g_pig g_first g_begun g_weight g_salted g_heat g_place g_target g_feedAsked g_sealed g_bad g_sold) H → va_D A (wA ad cB cI cZ cL LP today legCount legs hung warmth damp wopen tsize bytes rat rtold rwrong numbers asked ftold ffarm ffrom fwhat fon csize ctotal offered cws cwa g_number g_farm g_pig g_first g_begun g_weight g_salted g_heat g_place g_target g_feedAsked g_sealed g_bad g_sold) → va_S A s.heap H locs → lv_has ls 6 [(0, .ref (ad 2)), (1, .int v1), (2, .int v2), (3, .int v3), (4, .int v4)] → lp_C_X2_leastMoves_10 LP hung g_place g_target Q n v1 v2 v3 v4 → W p l e (headSpec wsX2_leastMoves rm_C_X2_leastMoves).room s m ([.ref (ad 2)] : List Value).toArray below meth c H locs 0 0 (MQ below (pq_C_X2_leastMoves dC dI ad cB cI cZ cL A LP today legCount legs hung warmth damp wopen tsize bytes rat rtold rwrong numbers asked ftold ffarm ffrom fwhat fon csize ctotal offered cws cwa g_number g_farm g_pig g_first g_begun g_weight g_salted g_heat g_place g_target g_feedAsked g_sealed g_bad g_sold Q) ([.ref (ad 2)] : List Value).toArray s 0 0 A) (F0 m 10 ls []) := by
    intro n
    induction n with
    | zero => intro v1 v2 v3 v4 H locs ls hP hD hS hl h; exact h.elim
    | succ n ih =>
      intro v1 v2 v3 v4 H locs ls hP hD hS hl h
      refine lv_iload hx hb dX2_leastMoves_10 (lv_at hl 4 rfl) ?_
      refine lv_aload_n hx hb dX2_leastMoves_12 rfl (lv_at hl 0 rfl) ?_
      refine va_get (D := (dC, dI)) (ci := 2) (v := .ref (ad 3)) (C := RX2) (T := TX2) (N := 1) hx hb hts hk_1 hown hK hP 2 wA_g2 rfl 0 (by decide) hk_0 (fun _ h9 => h9) rfl dX2_leastMoves_13 ?_
      refine va_alen hx hb hK hP 3 3 wA_g3 rfl (v := 60) rfl dX2_leastMoves_16 ?_
      refine lv_icmp_ge (tgt := 96) hx hb dX2_leastMoves_17 (by decide) (fun c_1 => ?_) (fun c_1 => ?_)
      · have h := h.1 c_1
        refine lv_iload_n hx hb dX2_leastMoves_96 rfl (lv_at hl 2 rfl) ?_
        refine lv_if_le (tgt := 108) hx hb dX2_leastMoves_97 (by decide) (fun c_2 => ?_) (fun c_2 => ?_)
        · have h := h.1 c_2
          exact hbk_C_X2_leastMoves_108 v1 v2 _ _ _ hP hD hS (lv_sub hl [1, 2] rfl) h
        · have h := h.2 c_2
          refine lv_iload_n hx hb dX2_leastMoves_100 rfl (lv_at hl 3 rfl) ?_
          refine lv_if_ne (tgt := 108) hx hb dX2_leastMoves_101 (by decide) (fun c_3 => ?_) (fun c_3 => ?_)
          · have h := h.1 c_3
            exact hbk_C_X2_leastMoves_108 v1 v2 _ _ _ hP hD hS (lv_sub hl [1, 2] rfl) h
          · have h := h.2 c_3
            refine lv_iconst (v := (-1)) hx hb dX2_leastMoves_104 (by decide) ?_
            refine lv_goto (tgt := 111) hx hb dX2_leastMoves_105 (by decide) ?_
            exact W.iret (v := (-1)) hx hb hr (fun t ht hW => ⟨⟨(-1), (), rfl, h, kB_mk hP hK hD ht hW.alike⟩, hS.F ht⟩) hS.2.2 dX2_leastMoves_111
      · have h := h.2 c_1
        refine lv_aload_n hx hb dX2_leastMoves_20 rfl (lv_at hl 0 rfl) ?_
        refine va_get (D := (dC, dI)) (ci := 2) (v := .ref (ad 3)) (C := RX2) (T := TX2) (N := 1) hx hb hts hk_1 hown hK hP 2 wA_g2 rfl 0 (by decide) hk_0 (fun _ h9 => h9) rfl dX2_leastMoves_21 ?_
        refine lv_iload hx hb dX2_leastMoves_24 (lv_at hl 4 rfl) ?_
        have hi_4 := h.1
        have h := h.2
        refine va_aldq hx hb hK hP 3 3 wA_g3 rfl hi_4 dX2_leastMoves_26 ?_
        cases hr_6 : hung v4.toNatClampNeg with
        | none =>
          have h := h.1 hr_6
          refine lv_astoreN (lv' := [(5, .null), (0, .ref (ad 2)), (1, .int v1), (2, .int v2), (3, .int v3), (4, .int v4)]) hx hb dX2_leastMoves_27 hl (by decide) rfl (fun ls hl => ?_)
          refine lv_aloadN hx hb dX2_leastMoves_29 (lv_at hl 0 rfl) ?_
          refine lv_ifnonnullN hx hb dX2_leastMoves_31 ?_
          refine lv_iinc (v := v3 + 1) (lv' := [(3, .int (v3 + 1)), (5, .null), (0, .ref (ad 2)), (1, .int v1), (2, .int v2), (4, .int v4)]) hx hb dX2_leastMoves_34 hl (k := 4) rfl rfl (by decide) rfl (fun ls hl => ?_)
          refine lv_goto (tgt := 90) hx hb dX2_leastMoves_37 (by decide) ?_
          exact hbk_C_X2_leastMoves_90 (lp_C_X2_leastMoves_10 LP hung g_place g_target Q n) ih v1 v2 (v3 + 1) v4 _ _ _ hP hD hS (lv_sub hl [2, 3, 4, 0, 5] rfl) h
        | some y_5 =>
          have hy_y_5 := (h.2 y_5 hr_6).1
          have h := (h.2 y_5 hr_6).2
          refine lv_astore (lv' := [(5, .ref y_5), (0, .ref (ad 2)), (1, .int v1), (2, .int v2), (3, .int v3), (4, .int v4)]) hx hb dX2_leastMoves_27 hl (by decide) rfl (fun ls hl => ?_)
          refine lv_aload hx hb dX2_leastMoves_29 (lv_at hl 0 rfl) ?_
          refine lv_ifnonnull (tgt := 40) hx hb dX2_leastMoves_31 (by decide) ?_
          refine lv_aload hx hb dX2_leastMoves_40 (lv_at hl 0 rfl) ?_
          obtain ⟨k_8, hg_k_8⟩ := wA_leg hy_y_5
          refine va_getN (D := (dC, dI)) (ci := 3) (v := .int (g_target y_5)) (C := RX3) (T := TX3) (N := 14) hx hb hts hk_3 hown hK hP k_8 hg_k_8 rfl 9 (by decide) hk_2 (fun _ h9 => h9) rfl dX2_leastMoves_42 ?_
          refine lv_iconst (v := (-1)) hx hb dX2_leastMoves_45 (by decide) ?_
          refine lv_icmp_eq (tgt := 90) hx hb dX2_leastMoves_46 (by decide) (fun c_9 => ?_) (fun c_9 => ?_)
          · have h := h.1 c_9
            exact hbk_C_X2_leastMoves_90 (lp_C_X2_leastMoves_10 LP hung g_place g_target Q n) ih v1 v2 v3 v4 _ _ _ hP hD hS (lv_sub hl [1, 2, 3, 4, 5] rfl) h
          · have h := h.2 c_9
            refine lv_aload hx hb dX2_leastMoves_49 (lv_at hl 0 rfl) ?_
            obtain ⟨k_10, hg_k_10⟩ := wA_leg hy_y_5
            refine va_getN (D := (dC, dI)) (ci := 3) (v := .int (g_target y_5)) (C := RX3) (T := TX3) (N := 14) hx hb hts hk_3 hown hK hP k_10 hg_k_10 rfl 9 (by decide) hk_2 (fun _ h9 => h9) rfl dX2_leastMoves_51 ?_
            refine lv_iload hx hb dX2_leastMoves_54 (lv_at hl 5 rfl) ?_
            refine lv_icmp_eq (tgt := 90) hx hb dX2_leastMoves_56 (by decide) (fun c_11 => ?_) (fun c_11 => ?_)
            · have h := h.1 c_11
              exact hbk_C_X2_leastMoves_90 (lp_C_X2_leastMoves_10 LP hung g_place g_target Q n) ih v1 v2 v3 v4 _ _ _ hP hD hS (lv_sub hl [1, 2, 3, 4, 5] rfl) h
            · have h := h.2 c_11
              refine lv_aload_n hx hb dX2_leastMoves_59 rfl (lv_at hl 1 rfl) ?_
              refine lv_aload hx hb dX2_leastMoves_60 (lv_at hl 0 rfl) ?_
              refine va_calli (va_runV (As := [.ref y_5]) (rest := []) ⟨hx, hb, hml, hown, hts⟩ (c_C_X2_isTargetKept l dC dI ad cB cI cZ cL A LP today legCount legs hung warmth damp wopen tsize bytes rat rtold rwrong numbers asked ftold ffarm ffrom fwhat fon csize ctotal offered cws cwa g_number g_farm g_pig g_first g_begun g_weight g_salted g_heat g_place g_target g_feedAsked g_sealed g_bad g_sold y_5 hy_y_5 _ h) (cwV 1 hts gX2_leastMoves_X2_isTargetKept rfl rfl rfl (by decide +kernel) ⟨(Nat.le_of_ble_eq_true rfl), (Nat.le_of_ble_eq_true rfl)⟩) ⟨kC_blind, va_recv hK hP (ci := 2) (q0 := 2) rfl wA_g2, fun U hU hW => ⟨rfl, kC_go hA hS hP hK hD hE U hU hW⟩⟩ rfl rfl hl.1 rfl (lv_room (Nat.le_of_ble_eq_true rfl)) dX2_leastMoves_62 ⟨(Nat.le_of_ble_eq_true rfl), (Nat.le_of_ble_eq_true rfl)⟩) hS (fun q _ h => h) (fun q h => h) (fun r_12 u t H locs ht hvm hw hB hz1 hk1 hS => ?_)
              have h := hw
              try dsimp only at h
              have hP : va_P (dC, dI) vwCl (wA ad cB cI cZ cL LP today legCount legs hung warmth damp wopen tsize bytes rat rtold rwrong numbers asked ftold ffarm ffrom fwhat fon csize ctotal offered cws cwa g_number g_farm g_pig g_first g_begun g_weight g_salted g_heat g_place g_target g_feedAsked g_sealed g_bad g_sold) H := by rw [← ht]; exact hB.1
              have hD : va_D A (wA ad cB cI cZ cL LP today legCount legs hung warmth damp wopen tsize bytes rat rtold rwrong numbers asked ftold ffarm ffrom fwhat fon csize ctotal offered cws cwa g_number g_farm g_pig g_first g_begun g_weight g_salted g_heat g_place g_target g_feedAsked g_sealed g_bad g_sold) := hB.2.2
              refine lv_if_eq (tgt := 70) hx hb dX2_leastMoves_65 (by decide) (fun c_13 => ?_) (fun c_13 => ?_)
              · have h := h.1 c_13
                refine lv_iinc (v := v1 + 1) (lv' := [(1, .int (v1 + 1)), (5, .ref y_5), (0, .ref (ad 2)), (2, .int v2), (3, .int v3), (4, .int v4)]) hx hb dX2_leastMoves_70 hl (k := 2) rfl rfl (by decide) rfl (fun ls hl => ?_)
                refine lv_iload_n hx hb dX2_leastMoves_73 rfl (lv_at hl 3 rfl) ?_
                refine lv_aload_n hx hb dX2_leastMoves_74 rfl (lv_at hl 2 rfl) ?_
                refine lv_aload hx hb dX2_leastMoves_75 (lv_at hl 1 rfl) ?_
                refine va_calli (va_runV (As := [.ref y_5]) (rest := [.int v2]) ⟨hx, hb, hml, hown, hts⟩ (c_C_X2_leadsRing l dC dI ad cB cI cZ cL A LP today legCount legs hung warmth damp wopen tsize bytes rat rtold rwrong numbers asked ftold ffarm ffrom fwhat fon csize ctotal offered cws cwa g_number g_farm g_pig g_first g_begun g_weight g_salted g_heat g_place g_target g_feedAsked g_sealed g_bad g_sold y_5 hy_y_5 _ h) (cwV 1 hts gX2_leastMoves_X2_leadsRing rfl rfl rfl (by decide +kernel) ⟨(Nat.le_of_ble_eq_true rfl), (Nat.le_of_ble_eq_true rfl)⟩) ⟨kC_blind, va_recv hK hP (ci := 2) (q0 := 2) rfl wA_g2, fun U hU hW => ⟨rfl, kC_go hA hS hP hK hD hE U hU hW⟩⟩ rfl rfl hl.1 rfl (lv_room (Nat.le_of_ble_eq_true rfl)) dX2_leastMoves_77 ⟨(Nat.le_of_ble_eq_true rfl), (Nat.le_of_ble_eq_true rfl)⟩) hS (fun q _ h => h) (fun q h => h) (fun r_14 u t H locs ht hvm hw hB hz1 hk1 hS => ?_)
                have h := hw
                try dsimp only at h
                have hP : va_P (dC, dI) vwCl (wA ad cB cI cZ cL LP today legCount legs hung warmth damp wopen tsize bytes rat rtold rwrong numbers asked ftold ffarm ffrom fwhat fon csize ctotal offered cws cwa g_number g_farm g_pig g_first g_begun g_weight g_salted g_heat g_place g_target g_feedAsked g_sealed g_bad g_sold) H := by rw [← ht]; exact hB.1
                have hD : va_D A (wA ad cB cI cZ cL LP today legCount legs hung warmth damp wopen tsize bytes rat rtold rwrong numbers asked ftold ffarm ffrom fwhat fon csize ctotal offered cws cwa g_number g_farm g_pig g_first g_begun g_weight g_salted g_heat g_place g_target g_feedAsked g_sealed g_bad g_sold) := hB.2.2
                refine lv_if_eq (tgt := 87) hx hb dX2_leastMoves_80 (by decide) (fun c_15 => ?_) (fun c_15 => ?_)
                · have h := h.1 c_15
                  refine lv_iconst (v := 0) hx hb dX2_leastMoves_87 (by decide) ?_
                  exact hbk_C_X2_leastMoves_88 (lp_C_X2_leastMoves_10 LP hung g_place g_target Q n) ih (v1 + 1) v3 v4 0 v2 _ _ _ hP hD hS (lv_sub hl [2, 0, 4, 5] rfl) h
                · have h := h.2 c_15
                  refine lv_iconst (v := 1) hx hb dX2_leastMoves_83 (by decide) ?_
                  refine lv_goto (tgt := 88) hx hb dX2_leastMoves_84 (by decide) ?_
                  exact hbk_C_X2_leastMoves_88 (lp_C_X2_leastMoves_10 LP hung g_place g_target Q n) ih (v1 + 1) v3 v4 1 v2 _ _ _ hP hD hS (lv_sub hl [2, 0, 4, 5] rfl) h
              · have h := h.2 c_13
                refine lv_iconst (v := (-1)) hx hb dX2_leastMoves_68 (by decide) ?_
                exact W.iret (v := (-1)) hx hb hr (fun t ht hW => ⟨⟨(-1), (), rfl, h, kB_mk hP hK hD ht hW.alike⟩, hS.F ht⟩) hS.2.2 dX2_leastMoves_69
  have hl := lv_entry ([.ref (ad 2)]) (n := 6) (Nat.le_of_ble_eq_true rfl)
  rw [lg_entry_eq]
  generalize (lg_sl ([.ref (ad 2)]) ++ List.replicate (6 - (lg_sl ([.ref (ad 2)])).length) Slot.unset).toArray = ls at hl ⊢
  have hl : lv_has ls 6 [(0, .ref (ad 2))] := hl
  unfold wp_C_X2_leastMoves at h
  refine lv_iconst (v := 0) hx hb dX2_leastMoves_0 (by decide) ?_
  refine lv_istore_n (lv' := [(1, .int 0), (0, .ref (ad 2))]) hx hb dX2_leastMoves_1 rfl hl (by decide) rfl (fun ls hl => ?_)
  refine lv_iconst (v := 0) hx hb dX2_leastMoves_2 (by decide) ?_
  refine lv_istore_n (lv' := [(2, .int 0), (1, .int 0), (0, .ref (ad 2))]) hx hb dX2_leastMoves_3 rfl hl (by decide) rfl (fun ls hl => ?_)
  refine lv_iconst (v := 0) hx hb dX2_leastMoves_4 (by decide) ?_
  refine lv_istore_n (lv' := [(3, .int 0), (2, .int 0), (1, .int 0), (0, .ref (ad 2))]) hx hb dX2_leastMoves_5 rfl hl (by decide) rfl (fun ls hl => ?_)
  refine lv_bipush (v := 10) hx hb dX2_leastMoves_6 (by decide) ?_
  refine lv_istore (lv' := [(4, .int 10), (3, .int 0), (2, .int 0), (1, .int 0), (0, .ref (ad 2))]) hx hb dX2_leastMoves_8 hl (by decide) rfl (fun ls hl => ?_)
  obtain ⟨n_16, h⟩ := h
  exact hlp_C_X2_leastMoves_10 n_16 0 0 0 10 _ _ _ hP hD hS (lv_sub hl [4, 3, 2, 1, 0] rfl) h
