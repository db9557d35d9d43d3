def wp_C_X0_clear (Q : Int32 → Int32 → Prop) (csize : Int32) (ctotal : Int32) : Prop := Q 0 0
def rm_C_X0_clear : Room := { frames := 0, cells := 0, slots := 0, locals := 0 }
abbrev pq_C_X0_clear (dC : Nat → ClassId) (dI : Nat → Nat → Nat) (ad : Nat → Nat) (cB cI cZ cL : ClassId) (A : Nat → Prop) (LP : List Nat) (today legCount : Int32) (legs hung : Nat → Option Nat) (warmth damp wopen : Nat → Int32) (tsize : Int32) (bytes : Nat → Int32) (rat rtold rwrong : Int32) (numbers asked : Nat → Int32) (ftold : Int32) (ffarm ffrom fwhat fon : Nat → Int32) (csize ctotal : Int32) (offered : Nat → Option Nat) (cws cwa g_number g_farm g_pig g_first g_begun g_weight g_salted g_heat g_place g_target g_feedAsked g_sealed g_bad g_sold : Nat → Int32) (Q : Int32 → Int32 → Prop) : Array Value → State → Outcome → State → Prop := va_Qv (fun u : Int32 × Int32 => Q u.1 u.2) (fun u t => kB dC dI A (wA ad cB cI cZ cL LP today legCount legs hung warmth damp wopen tsize bytes rat rtold rwrong numbers asked ftold ffarm ffrom fwhat fon u.1 u.2 offered cws cwa g_number g_farm g_pig g_first g_begun g_weight g_salted g_heat g_place g_target g_feedAsked g_sealed g_bad g_sold) (kTy cB cI cZ cL) t) A
set_option maxHeartbeats 4000000 in
set_option maxRecDepth 100000 in
theorem c_C_X0_clear (l : Launch) (dC : Nat → ClassId) (dI : Nat → Nat → Nat) (ad : Nat → Nat) (cB cI cZ cL : ClassId) (A : Nat → Prop) (LP : List Nat) (today legCount : Int32) (legs hung : Nat → Option Nat) (warmth damp wopen : Nat → Int32) (tsize : Int32) (bytes : Nat → Int32) (rat rtold rwrong : Int32) (numbers asked : Nat → Int32) (ftold : Int32) (ffarm ffrom fwhat fon : Nat → Int32) (csize ctotal : Int32) (offered : Nat → Option Nat) (cws cwa g_number g_farm g_pig g_first g_begun g_weight g_salted g_heat g_place g_target g_feedAsked g_sealed g_bad g_sold : Nat → Int32)   (Q : Int32 → Int32 → Prop) (h : wp_C_X0_clear Q csize ctotal) : Met l yX0_clear wsX0_clear rm_C_X0_clear (va_Pc [.ref (ad 18)] (kC dC dI ad A (wA ad cB cI cZ cL LP today legCount legs hung warmth damp wopen tsize bytes rat rtold rwrong numbers asked ftold ffarm ffrom fwhat fon csize ctotal offered cws cwa g_number g_farm g_pig g_first g_begun g_weight g_salted g_heat g_place g_target g_feedAsked g_sealed g_bad g_sold) (kTy cB cI cZ cL))) (pq_C_X0_clear dC dI ad cB cI cZ cL A LP today legCount legs hung warmth damp wopen tsize bytes rat rtold rwrong numbers asked ftold ffarm ffrom fwhat fon csize ctotal offered cws cwa g_number g_farm g_pig g_first g_begun g_weight g_salted g_heat g_place g_target g_feedAsked g_sealed g_bad g_sold Q) 0 0 A := by
  refine Met.ofW (cc := cX0_clear) (maxL := 1) (ret := none) (by decide) rfl ?_
  intro p e s m args below meth c s₁ B hml hv
  obtain ⟨rfl, hA, hP, hK, hD, hE⟩ := hv
  have hx := B.exec
  have hb := B.bytes
  have hr := B.returns
  have hts := atoms_spec (ws := wsX0_clear) B.pre
  have hown : s.vm.findClass RX0 = some m.cls := findClass_of_methodNamed B.named
  have hlocks := B.notSynchronized
  have hS : va_S A s.heap s.heap [] := va_S.rf
  have hk_0 := hts (.fieldLink RX0 24 "HamCellar$Choice" "size" "I") (by decide +kernel)
  have hk_1 : ∀ w ∈ wsX00, w ∈ wsX0_clear := by decide +kernel
  have hk_2 := hts (.fieldLink RX0 28 "HamCellar$Choice" "total" "I") (by decide +kernel)
  have hl := lv_entry ([.ref (ad 18)]) (n := 1) (Nat.le_of_ble_eq_true rfl)
  rw [lg_entry_eq]
  generalize (lg_sl ([.ref (ad 18)]) ++ List.replicate (1 - (lg_sl ([.ref (ad 18)])).length) Slot.unset).toArray = ls at hl ⊢
  have hl : lv_has ls 1 [(0, .ref (ad 18))] := hl
  unfold wp_C_X0_clear at h
  refine lv_aload_n hx hb dX0_clear_0 rfl (lv_at hl 0 rfl) ?_
  refine lv_iconst (v := 0) hx hb dX0_clear_1 (by decide) ?_
  refine va_put (D := (dC, dI)) (ci := 0) (v := .int 0) (ty := .int) (C := RX0) (T := TX0) (N := 5) hx hb hts hk_1 tyX0 tyX0_ok nmX0 hown hK hP hD hS 18 wA_g18 rfl 3 (by decide) hk_0 (fun _ h9 => h9) rfl (by decide +kernel) rfl rfl (Nat.le_of_ble_eq_true rfl) dX0_clear_2 (fun H locs hP2 hD2 hS => ?_)
  have hP : va_P (dC, dI) vwCl (wA ad cB cI cZ cL LP today legCount legs hung warmth damp wopen tsize bytes rat rtold rwrong numbers asked ftold ffarm ffrom fwhat fon 0 ctotal offered cws cwa g_number g_farm g_pig g_first g_begun g_weight g_salted g_heat g_place g_target g_feedAsked g_sealed g_bad g_sold) H := hP_eq (wA_p_csize) hP2
  have hD : va_D A (wA ad cB cI cZ cL LP today legCount legs hung warmth damp wopen tsize bytes rat rtold rwrong numbers asked ftold ffarm ffrom fwhat fon 0 ctotal offered cws cwa g_number g_farm g_pig g_first g_begun g_weight g_salted g_heat g_place g_target g_feedAsked g_sealed g_bad g_sold) := hD_eq (wA_p_csize) hD2
  refine lv_aload_n hx hb dX0_clear_5 rfl (lv_at hl 0 rfl) ?_
  refine lv_iconst (v := 0) hx hb dX0_clear_6 (by decide) ?_
  refine va_put (D := (dC, dI)) (ci := 0) (v := .int 0) (ty := .int) (C := RX0) (T := TX0) (N := 5) hx hb hts hk_1 tyX0 tyX0_ok nmX0 hown hK hP hD hS 18 wA_g18 rfl 4 (by decide) hk_2 (fun _ h9 => h9) rfl (by decide +kernel) rfl rfl (Nat.le_of_ble_eq_true rfl) dX0_clear_7 (fun H locs hP2 hD2 hS => ?_)
  have hP : va_P (dC, dI) vwCl (wA ad cB cI cZ cL LP today legCount legs hung warmth damp wopen tsize bytes rat rtold rwrong numbers asked ftold ffarm ffrom fwhat fon 0 0 offered cws cwa g_number g_farm g_pig g_first g_begun g_weight g_salted g_heat g_place g_target g_feedAsked g_sealed g_bad g_sold) H := hP_eq (wA_p_ctotal) hP2
  have hD : va_D A (wA ad cB cI cZ cL LP today legCount legs hung warmth damp wopen tsize bytes rat rtold rwrong numbers asked ftold ffarm ffrom fwhat fon 0 0 offered cws cwa g_number g_farm g_pig g_first g_begun g_weight g_salted g_heat g_place g_target g_feedAsked g_sealed g_bad g_sold) := hD_eq (wA_p_ctotal) hD2
  exact W.vret hx hb hr (fun t ht hW => ⟨⟨(0, 0), rfl, h, kB_mk hP hK hD ht hW.alike⟩, hS.F ht⟩) hS.2.2 dX0_clear_10
def wp_C_X0_offer (LP : List Nat) (g_weight : Nat → Int32) (Q : Int32 → Int32 → (Nat → Option Nat) → (Nat → Int32) → (Nat → Int32) → Prop) (csize : Int32) (ctotal : Int32) (offered : Nat → Option Nat) (cws : Nat → Int32) (cwa : Nat → Int32) (p0 : Nat) : Prop := ((csize < 0 → Q csize ctotal offered cws cwa) ∧ (¬ (csize < 0) → ((14 ≤ csize → Q csize ctotal offered cws cwa) ∧ (¬ (14 ≤ csize) → (vp_in csize 14 ∧ (vp_in csize 14 ∧ (vp_in csize 14 ∧ Q (csize + 1) (ctotal + (g_weight p0)) (va_up offered csize.toNatClampNeg (some p0)) (upd cws csize.toNatClampNeg (g_weight p0)) (upd cwa csize.toNatClampNeg ctotal))))))))
def rm_C_X0_offer : Room := { frames := 0, cells := 0, slots := 0, locals := 0 }
abbrev pq_C_X0_offer (dC : Nat → ClassId) (dI : Nat → Nat → Nat) (ad : Nat → Nat) (cB cI cZ cL : ClassId) (A : Nat → Prop) (LP : List Nat) (today legCount : Int32) (legs hung : Nat → Option Nat) (warmth damp wopen : Nat → Int32) (tsize : Int32) (bytes : Nat → Int32) (rat rtold rwrong : Int32) (numbers asked : Nat → Int32) (ftold : Int32) (ffarm ffrom fwhat fon : Nat → Int32) (csize ctotal : Int32) (offered : Nat → Option Nat) (cws cwa g_number g_farm g_pig g_first g_begun g_weight g_salted g_heat g_place g_target g_feedAsked g_sealed g_bad g_sold : Nat → Int32) (Q : Int32 → Int32 → (Nat → Option Nat) → (Nat → Int32) → (Nat → Int32) → Prop) : Array Value → State → Outcome → State → Prop := va_Qv (fun u : Int32 × Int32 × (Nat → Option Nat) × (Nat → Int32) × (Nat → Int32) => Q u.1 u.2.1 u.2.2.1 u.2.2.2.1 u.2.2.2.2) (fun u t => kB dC dI A (wA ad cB cI cZ cL LP today legCount legs hung warmth damp wopen tsize bytes rat rtold rwrong numbers asked ftold ffarm ffrom fwhat fon u.1 u.2.1 u.2.2.1 u.2.2.2.1 u.2.2.2.2 g_number g_farm g_pig g_first g_begun g_weight g_salted g_heat g_place g_target g_feedAsked g_sealed g_bad g_sold) (kTy cB cI cZ cL) t) A
set_option maxHeartbeats 4000000 in
set_option maxRecDepth 100000 in
theorem c_C_X0_offer (l : Launch) (dC : Nat → ClassId) (dI : Nat → Nat → Nat) (ad : Nat → Nat) (cB cI cZ cL : ClassId) (A : Nat → Prop) (LP : List Nat) (today legCount : Int32) (legs hung : Nat → Option Nat) (warmth damp wopen : Nat → Int32) (tsize : Int32) (bytes : Nat → Int32) (rat rtold rwrong : Int32) (numbers asked : Nat → Int32) (ftold : Int32) (ffarm ffrom fwhat fon : Nat → Int32) (csize ctotal : Int32) (offered : Nat → Option Nat) (cws cwa g_number g_farm g_pig g_first g_begun g_weight g_salted g_heat g_place g_target g_feedAsked g_sealed g_bad g_sold : Nat → Int32) (p0 : Nat) (hy_p0 : p0 ∈ LP) (Q : Int32 → Int32 → (Nat → Option Nat) → (Nat → Int32) → (Nat → Int32) → Prop) (h : wp_C_X0_offer LP g_weight Q csize ctotal offered cws cwa p0) : Met l yX0_offer wsX0_offer rm_C_X0_offer (va_Pc [.ref (ad 18), .ref p0] (kC dC dI ad A (wA ad cB cI cZ cL LP today legCount legs hung warmth damp wopen tsize bytes rat rtold rwrong numbers asked ftold ffarm ffrom fwhat fon csize ctotal offered cws cwa g_number g_farm g_pig g_first g_begun g_weight g_salted g_heat g_place g_target g_feedAsked g_sealed g_bad g_sold) (kTy cB cI cZ cL))) (pq_C_X0_offer dC dI ad cB cI cZ cL A LP today legCount legs hung warmth damp wopen tsize bytes rat rtold rwrong numbers asked ftold ffarm ffrom fwhat fon csize ctotal offered cws cwa g_number g_farm g_pig g_first g_begun g_weight g_salted g_heat g_place g_target g_feedAsked g_sealed g_bad g_sold Q) 0 0 A := by
  refine Met.ofW (cc := cX0_offer) (maxL := 2) (ret := none) (by decide) rfl ?_
  intro p e s m args below meth c s₁ B hml hv
  obtain ⟨rfl, hA, hP, hK, hD, hE⟩ := hv
  have hx := B.exec
  have hb := B.bytes
  have hr := B.returns
  have hts := atoms_spec (ws := wsX0_offer) B.pre
  have hown : s.vm.findClass RX0 = some m.cls := findClass_of_methodNamed B.named
  have hlocks := B.notSynchronized
  have hS : va_S A s.heap s.heap [] := va_S.rf
  have hk_0 := hts (.fieldLink RX0 24 "HamCellar$Choice" "size" "I") (by decide +kernel)
  have hk_1 : ∀ w ∈ wsX00, w ∈ wsX0_offer := by decide +kernel
  have hk_2 := hts (.fieldLink RX0 11 "HamCellar$Choice" "offered" "[LHamCellar$Leg;") (by decide +kernel)
  have hk_3 := hts (.fieldLink RX0 17 "HamCellar$Choice" "weights" "[I") (by decide +kernel)
  have hk_4n := hE.2.1.1 ("HamCellar$Choice", 31, "HamCellar$Leg", "weight", "I", "HamCellar") (by decide +kernel)
  have hk_4 : (Cond.fieldLinkNest "HamCellar$Choice" 31 "HamCellar$Leg" "weight" "I" "HamCellar").before ([.ref (ad 18), .ref p0] : List Value).toArray s = true := va_Nw.use rfl hk_4n
  have hk_5 : ∀ w ∈ wsX30, w ∈ wsX0_offer := by decide +kernel
  have hk_6 := hts (.fieldLink RX0 21 "HamCellar$Choice" "weightsAhead" "[I") (by decide +kernel)
  have hk_7 := hts (.fieldLink RX0 28 "HamCellar$Choice" "total" "I") (by decide +kernel)
  have hl := lv_entry ([.ref (ad 18), .ref p0]) (n := 2) (Nat.le_of_ble_eq_true rfl)
  rw [lg_entry_eq]
  generalize (lg_sl ([.ref (ad 18), .ref p0]) ++ List.replicate (2 - (lg_sl ([.ref (ad 18), .ref p0])).length) Slot.unset).toArray = ls at hl ⊢
  have hl : lv_has ls 2 [(0, .ref (ad 18)), (1, .ref p0)] := hl
  unfold wp_C_X0_offer at h
  refine lv_aload_n hx hb dX0_offer_0 rfl (lv_at hl 0 rfl) ?_
  refine va_get (D := (dC, dI)) (ci := 0) (v := .int csize) (C := RX0) (T := TX0) (N := 5) hx hb hts hk_1 hown hK hP 18 wA_g18 rfl 3 (by decide) hk_0 (fun _ h9 => h9) rfl dX0_offer_1 ?_
  refine lv_if_lt (tgt := 75) hx hb dX0_offer_4 (by decide) (fun c_1 => ?_) (fun c_1 => ?_)
  · have h := h.1 c_1
    exact W.vret hx hb hr (fun t ht hW => ⟨⟨(csize, ctotal, offered, cws, cwa), rfl, h, kB_mk hP hK hD ht hW.alike⟩, hS.F ht⟩) hS.2.2 dX0_offer_75
  · have h := h.2 c_1
    refine lv_aload_n hx hb dX0_offer_7 rfl (lv_at hl 0 rfl) ?_
    refine va_get (D := (dC, dI)) (ci := 0) (v := .int csize) (C := RX0) (T := TX0) (N := 5) hx hb hts hk_1 hown hK hP 18 wA_g18 rfl 3 (by decide) hk_0 (fun _ h9 => h9) rfl dX0_offer_8 ?_
    refine lv_bipush (v := 14) hx hb dX0_offer_11 (by decide) ?_
    refine lv_icmp_ge (tgt := 75) hx hb dX0_offer_13 (by decide) (fun c_2 => ?_) (fun c_2 => ?_)
    · have h := h.1 c_2
      exact W.vret hx hb hr (fun t ht hW => ⟨⟨(csize, ctotal, offered, cws, cwa), rfl, h, kB_mk hP hK hD ht hW.alike⟩, hS.F ht⟩) hS.2.2 dX0_offer_75
    · have h := h.2 c_2
      refine lv_aload_n hx hb dX0_offer_16 rfl (lv_at hl 0 rfl) ?_
      refine va_get (D := (dC, dI)) (ci := 0) (v := .ref (ad 19)) (C := RX0) (T := TX0) (N := 5) hx hb hts hk_1 hown hK hP 18 wA_g18 rfl 0 (by decide) hk_2 (fun _ h9 => h9) rfl dX0_offer_17 ?_
      refine lv_aload_n hx hb dX0_offer_20 rfl (lv_at hl 0 rfl) ?_
      refine va_get (D := (dC, dI)) (ci := 0) (v := .int csize) (C := RX0) (T := TX0) (N := 5) hx hb hts hk_1 hown hK hP 18 wA_g18 rfl 3 (by decide) hk_0 (fun _ h9 => h9) rfl dX0_offer_21 ?_
      refine lv_aload_n hx hb dX0_offer_24 rfl (lv_at hl 1 rfl) ?_
      have hi_3 := h.1
      have h := h.2
      obtain ⟨k_4, hg_k_4⟩ := wA_leg hy_p0
      refine va_astq (r := (RX3, TX3, 14)) hx hb hK hP hD hS 19 3 k_4 3 wA_g19 rfl hg_k_4 rfl hi_3 dX0_offer_25 (fun H locs hP2 hD2 hS => ?_)
      have hP : va_P (dC, dI) vwCl (wA ad cB cI cZ cL LP today legCount legs hung warmth damp wopen tsize bytes rat rtold rwrong numbers asked ftold ffarm ffrom fwhat fon csize ctotal (va_up offered csize.toNatClampNeg (some p0)) cws cwa g_number g_farm g_pig g_first g_begun g_weight g_salted g_heat g_place g_target g_feedAsked g_sealed g_bad g_sold) H := hP_eq (wA_p_offered) hP2
      have hD : va_D A (wA ad cB cI cZ cL LP today legCount legs hung warmth damp wopen tsize bytes rat rtold rwrong numbers asked ftold ffarm ffrom fwhat fon csize ctotal (va_up offered csize.toNatClampNeg (some p0)) cws cwa g_number g_farm g_pig g_first g_begun g_weight g_salted g_heat g_place g_target g_feedAsked g_sealed g_bad g_sold) := hD_eq (wA_p_offered) hD2
      refine lv_aload_n hx hb dX0_offer_26 rfl (lv_at hl 0 rfl) ?_
      refine va_get (D := (dC, dI)) (ci := 0) (v := .ref (ad 20)) (C := RX0) (T := TX0) (N := 5) hx hb hts hk_1 hown hK hP 18 wA_g18 rfl 1 (by decide) hk_3 (fun _ h9 => h9) rfl dX0_offer_27 ?_
      refine lv_aload_n hx hb dX0_offer_30 rfl (lv_at hl 0 rfl) ?_
      refine va_get (D := (dC, dI)) (ci := 0) (v := .int csize) (C := RX0) (T := TX0) (N := 5) hx hb hts hk_1 hown hK hP 18 wA_g18 rfl 3 (by decide) hk_0 (fun _ h9 => h9) rfl dX0_offer_31 ?_
      refine lv_aload_n hx hb dX0_offer_34 rfl (lv_at hl 1 rfl) ?_
      obtain ⟨k_5, hg_k_5⟩ := wA_leg hy_p0
      refine va_getN (D := (dC, dI)) (ci := 3) (v := .int (g_weight p0)) (C := RX3) (T := TX3) (N := 14) hx hb hts hk_5 hown hK hP k_5 hg_k_5 rfl 5 (by decide) hk_4 (fun _ h9 => h9) rfl dX0_offer_35 ?_
      have hi_6 := h.1
      have h := h.2
      refine va_iast hx hb hK hP hD hS 20 1 wA_g20 rfl hi_6 dX0_offer_38 (fun H locs hP2 hD2 hS => ?_)
      have hP : va_P (dC, dI) vwCl (wA ad cB cI cZ cL LP today legCount legs hung warmth damp wopen tsize bytes rat rtold rwrong numbers asked ftold ffarm ffrom fwhat fon csize ctotal (va_up offered csize.toNatClampNeg (some p0)) (upd cws csize.toNatClampNeg (g_weight p0)) cwa g_number g_farm g_pig g_first g_begun g_weight g_salted g_heat g_place g_target g_feedAsked g_sealed g_bad g_sold) H := hP_eq (wA_p_cws) hP2
      have hD : va_D A (wA ad cB cI cZ cL LP today legCount legs hung warmth damp wopen tsize bytes rat rtold rwrong numbers asked ftold ffarm ffrom fwhat fon csize ctotal (va_up offered csize.toNatClampNeg (some p0)) (upd cws csize.toNatClampNeg (g_weight p0)) cwa g_number g_farm g_pig g_first g_begun g_weight g_salted g_heat g_place g_target g_feedAsked g_sealed g_bad g_sold) := hD_eq (wA_p_cws) hD2
      refine lv_aload_n hx hb dX0_offer_39 rfl (lv_at hl 0 rfl) ?_
      refine va_get (D := (dC, dI)) (ci := 0) (v := .ref (ad 21)) (C := RX0) (T := TX0) (N := 5) hx hb hts hk_1 hown hK hP 18 wA_g18 rfl 2 (by decide) hk_6 (fun _ h9 => h9) rfl dX0_offer_40 ?_
      refine lv_aload_n hx hb dX0_offer_43 rfl (lv_at hl 0 rfl) ?_
      refine va_get (D := (dC, dI)) (ci := 0) (v := .int csize) (C := RX0) (T := TX0) (N := 5) hx hb hts hk_1 hown hK hP 18 wA_g18 rfl 3 (by decide) hk_0 (fun _ h9 => h9) rfl dX0_offer_44 ?_
      refine lv_aload_n hx hb dX0_offer_47 rfl (lv_at hl 0 rfl) ?_
      refine va_get (D := (dC, dI)) (ci := 0) (v := .int ctotal) (C := RX0) (T := TX0) (N := 5) hx hb hts hk_1 hown hK hP 18 wA_g18 rfl 4 (by decide) hk_7 (fun _ h9 => h9) rfl dX0_offer_48 ?_
      have hi_7 := h.1
      have h := h.2
      refine va_iast hx hb hK hP hD hS 21 1 wA_g21 rfl hi_7 dX0_offer_51 (fun H locs hP2 hD2 hS => ?_)
      have hP : va_P (dC, dI) vwCl (wA ad cB cI cZ cL LP today legCount legs hung warmth damp wopen tsize bytes rat rtold rwrong numbers asked ftold ffarm ffrom fwhat fon csize ctotal (va_up offered csize.toNatClampNeg (some p0)) (upd cws csize.toNatClampNeg (g_weight p0)) (upd cwa csize.toNatClampNeg ctotal) g_number g_farm g_pig g_first g_begun g_weight g_salted g_heat g_place g_target g_feedAsked g_sealed g_bad g_sold) H := hP_eq (wA_p_cwa) hP2
      have hD : va_D A (wA ad cB cI cZ cL LP today legCount legs hung warmth damp wopen tsize bytes rat rtold rwrong numbers asked ftold ffarm ffrom fwhat fon csize ctotal (va_up offered csize.toNatClampNeg (some p0)) (upd cws csize.toNatClampNeg (g_weight p0)) (upd cwa csize.toNatClampNeg ctotal) g_number g_farm g_pig g_first g_begun g_weight g_salted g_heat g_place g_target g_feedAsked g_sealed g_bad g_sold) := hD_eq (wA_p_cwa) hD2
      refine lv_aload_n hx hb dX0_offer_52 rfl (lv_at hl 0 rfl) ?_
      refine lv_dup hx hb dX0_offer_53 rfl ?_
      refine va_get (D := (dC, dI)) (ci := 0) (v := .int ctotal) (C := RX0) (T := TX0) (N := 5) hx hb hts hk_1 hown hK hP 18 wA_g18 rfl 4 (by decide) hk_7 (fun _ h9 => h9) rfl dX0_offer_54 ?_
      refine lv_aload_n hx hb dX0_offer_57 rfl (lv_at hl 1 rfl) ?_
      obtain ⟨k_8, hg_k_8⟩ := wA_leg hy_p0
      refine va_getN (D := (dC, dI)) (ci := 3) (v := .int (g_weight p0)) (C := RX3) (T := TX3) (N := 14) hx hb hts hk_5 hown hK hP k_8 hg_k_8 rfl 5 (by decide) hk_4 (fun _ h9 => h9) rfl dX0_offer_58 ?_
      refine lv_iadd hx hb dX0_offer_61 ?_
      refine va_put (D := (dC, dI)) (ci := 0) (v := .int (ctotal + (g_weight p0))) (ty := .int) (C := RX0) (T := TX0) (N := 5) hx hb hts hk_1 tyX0 tyX0_ok nmX0 hown hK hP hD hS 18 wA_g18 rfl 4 (by decide) hk_7 (fun _ h9 => h9) rfl (by decide +kernel) rfl rfl (Nat.le_of_ble_eq_true rfl) dX0_offer_62 (fun H locs hP2 hD2 hS => ?_)
      have hP : va_P (dC, dI) vwCl (wA ad cB cI cZ cL LP today legCount legs hung warmth damp wopen tsize bytes rat rtold rwrong numbers asked ftold ffarm ffrom fwhat fon csize (ctotal + (g_weight p0)) (va_up offered csize.toNatClampNeg (some p0)) (upd cws csize.toNatClampNeg (g_weight p0)) (upd cwa csize.toNatClampNeg ctotal) g_number g_farm g_pig g_first g_begun g_weight g_salted g_heat g_place g_target g_feedAsked g_sealed g_bad g_sold) H := hP_eq (wA_p_ctotal) hP2
      have hD : va_D A (wA ad cB cI cZ cL LP today legCount legs hung warmth damp wopen tsize bytes rat rtold rwrong numbers asked ftold ffarm ffrom fwhat fon csize (ctotal + (g_weight p0)) (va_up offered csize.toNatClampNeg (some p0)) (upd cws csize.toNatClampNeg (g_weight p0)) (upd cwa csize.toNatClampNeg ctotal) g_number g_farm g_pig g_first g_begun g_weight g_salted g_heat g_place g_target g_feedAsked g_sealed g_bad g_sold) := hD_eq (wA_p_ctotal) hD2
      refine lv_aload_n hx hb dX0_offer_65 rfl (lv_at hl 0 rfl) ?_
      refine lv_dup hx hb dX0_offer_66 rfl ?_
      refine va_get (D := (dC, dI)) (ci := 0) (v := .int csize) (C := RX0) (T := TX0) (N := 5) hx hb hts hk_1 hown hK hP 18 wA_g18 rfl 3 (by decide) hk_0 (fun _ h9 => h9) rfl dX0_offer_67 ?_
      refine lv_iconst (v := 1) hx hb dX0_offer_70 (by decide) ?_
      refine lv_iadd hx hb dX0_offer_71 ?_
      refine va_put (D := (dC, dI)) (ci := 0) (v := .int (csize + 1)) (ty := .int) (C := RX0) (T := TX0) (N := 5) hx hb hts hk_1 tyX0 tyX0_ok nmX0 hown hK hP hD hS 18 wA_g18 rfl 3 (by decide) hk_0 (fun _ h9 => h9) rfl (by decide +kernel) rfl rfl (Nat.le_of_ble_eq_true rfl) dX0_offer_72 (fun H locs hP2 hD2 hS => ?_)
      have hP : va_P (dC, dI) vwCl (wA ad cB cI cZ cL LP today legCount legs hung warmth damp wopen tsize bytes rat rtold rwrong numbers asked ftold ffarm ffrom fwhat fon (csize + 1) (ctotal + (g_weight p0)) (va_up offered csize.toNatClampNeg (some p0)) (upd cws csize.toNatClampNeg (g_weight p0)) (upd cwa csize.toNatClampNeg ctotal) g_number g_farm g_pig g_first g_begun g_weight g_salted g_heat g_place g_target g_feedAsked g_sealed g_bad g_sold) H := hP_eq (wA_p_csize) hP2
      have hD : va_D A (wA ad cB cI cZ cL LP today legCount legs hung warmth damp wopen tsize bytes rat rtold rwrong numbers asked ftold ffarm ffrom fwhat fon (csize + 1) (ctotal + (g_weight p0)) (va_up offered csize.toNatClampNeg (some p0)) (upd cws csize.toNatClampNeg (g_weight p0)) (upd cwa csize.toNatClampNeg ctotal) g_number g_farm g_pig g_first g_begun g_weight g_salted g_heat g_place g_target g_feedAsked g_sealed g_bad g_sold) := hD_eq (wA_p_csize) hD2
      exact W.vret hx hb hr (fun t ht hW => ⟨⟨(csize + 1, ctotal + (g_weight p0), va_up offered csize.toNatClampNeg (some p0), upd cws csize.toNatClampNeg (g_weight p0), upd cwa csize.toNatClampNeg ctotal), rfl, h, kB_mk hP hK hD ht hW.alike⟩, hS.F ht⟩) hS.2.2 dX0_offer_75
def wp_C_X0_legAt (LP : List Nat) (csize : Int32) (offered : Nat → Option Nat) (Q : Option Nat → Prop) (p0 : Int32) : Prop := ((p0 < 0 → Q none) ∧ (¬ (p0 < 0) → ((csize ≤ p0 → Q none) ∧ (¬ (csize ≤ p0) → ((14 ≤ p0 → Q none) ∧ (¬ (14 ≤ p0) → (vp_in p0 14 ∧ ((offered p0.toNatClampNeg = none → Q none) ∧ (∀ y_5 : Nat, offered p0.toNatClampNeg = some y_5 → y_5 ∈ LP ∧ Q (some y_5))))))))))
def rm_C_X0_legAt : Room := { frames := 0, cells := 0, slots := 0, locals := 0 }
abbrev pq_C_X0_legAt (dC : Nat → ClassId) (dI : Nat → Nat → Nat) (ad : Nat → Nat) (cB cI cZ cL : ClassId) (A : Nat → Prop) (LP : List Nat) (today legCount : Int32) (legs hung : Nat → Option Nat) (warmth damp wopen : Nat → Int32) (tsize : Int32) (bytes : Nat → Int32) (rat rtold rwrong : Int32) (numbers asked : Nat → Int32) (ftold : Int32) (ffarm ffrom fwhat fon : Nat → Int32) (csize ctotal : Int32) (offered : Nat → Option Nat) (cws cwa g_number g_farm g_pig g_first g_begun g_weight g_salted g_heat g_place g_target g_feedAsked g_sealed g_bad g_sold : Nat → Int32) (Q : Option Nat → Prop) : Array Value → State → Outcome → State → Prop := va_Qq (fun (r : Option Nat) (u : Unit) => Q r ) (fun u t => kB dC dI A (wA ad cB cI cZ cL LP today legCount legs hung warmth damp wopen tsize bytes rat rtold rwrong numbers asked ftold ffarm ffrom fwhat fon csize ctotal offered cws cwa g_number g_farm g_pig g_first g_begun g_weight g_salted g_heat g_place g_target g_feedAsked g_sealed g_bad g_sold) (kTy cB cI cZ cL) t) A
set_option maxHeartbeats 4000000 in
set_option maxRecDepth 100000 in
theorem c_C_X0_legAt (l : Launch) (dC : Nat → ClassId) (dI : Nat → Nat → Nat) (ad : Nat → Nat) (cB cI cZ cL : ClassId) (A : Nat → Prop) (LP : List Nat) (today legCount : Int32) (legs hung : Nat → Option Nat) (warmth damp wopen : Nat → Int32) (tsize : Int32) (bytes : Nat → Int32) (rat rtold rwrong : Int32) (numbers asked : Nat → Int32) (ftold : Int32) (ffarm ffrom fwhat fon : Nat → Int32) (csize ctotal : Int32) (offered : Nat → Option Nat) (cws cwa g_number g_farm g_pig g_first g_begun g_weight g_salted g_heat g_place g_target g_feedAsked g_sealed g_bad g_sold : Nat → Int32) (p0 : Int32)  (Q : Option Nat → Prop) (h : wp_C_X0_legAt LP csize offered Q p0) : Met l yX0_legAt wsX0_legAt rm_C_X0_legAt (va_Pc [.ref (ad 18), .int p0] (kC dC dI ad A (wA ad cB cI cZ cL LP today legCount legs hung warmth damp wopen tsize bytes rat rtold rwrong numbers asked ftold ffarm ffrom fwhat fon csize ctotal offered cws cwa g_number g_farm g_pig g_first g_begun g_weight g_salted g_heat g_place g_target g_feedAsked g_sealed g_bad g_sold) (kTy cB cI cZ cL))) (pq_C_X0_legAt dC dI ad cB cI cZ cL A LP today legCount legs hung warmth damp wopen tsize bytes rat rtold rwrong numbers asked ftold ffarm ffrom fwhat fon csize ctotal offered cws cwa g_number g_farm g_pig g_first g_begun g_weight g_salted g_heat g_place g_target g_feedAsked g_sealed g_bad g_sold Q) 0 0 A := by
  refine Met.ofW (cc := cX0_legAt) (maxL := 2) (ret := (some (.object "HamCellar$Leg"))) (by decide) rfl ?_
  intro p e s m args below meth c s₁ B hml hv
  obtain ⟨rfl, hA, hP, hK, hD, hE⟩ := hv
  have hx := B.exec
  have hb := B.bytes
  have hr := B.returns
  have hts := atoms_spec (ws := wsX0_legAt) B.pre
  have hown : s.vm.findClass RX0 = some m.cls := findClass_of_methodNamed B.named
  have hlocks := B.notSynchronized
  have hS : va_S A s.heap s.heap [] := va_S.rf
  have hk_0 := hts (.fieldLink RX0 24 "HamCellar$Choice" "size" "I") (by decide +kernel)
  have hk_1 : ∀ w ∈ wsX00, w ∈ wsX0_legAt := by decide +kernel
  have hk_2 := hts (.fieldLink RX0 11 "HamCellar$Choice" "offered" "[LHamCellar$Leg;") (by decide +kernel)
  have hl := lv_entry ([.ref (ad 18), .int p0]) (n := 2) (Nat.le_of_ble_eq_true rfl)
  rw [lg_entry_eq]
  generalize (lg_sl ([.ref (ad 18), .int p0]) ++ List.replicate (2 - (lg_sl ([.ref (ad 18), .int p0])).length) Slot.unset).toArray = ls at hl ⊢
  have hl : lv_has ls 2 [(0, .ref (ad 18)), (1, .int p0)] := hl
  unfold wp_C_X0_legAt at h
  refine lv_iload_n hx hb dX0_legAt_0 rfl (lv_at hl 1 rfl) ?_
  refine lv_if_lt (tgt := 27) hx hb dX0_legAt_1 (by decide) (fun c_1 => ?_) (fun c_1 => ?_)
  · have h := h.1 c_1
    refine lv_null hx hb dX0_legAt_27 ?_
    exact W.aret (v := va_rf none) hx hb hr (Or.inl ⟨_, rfl⟩) (va_rf_or _) (fun t ht hW => ⟨⟨none, (), rfl, h, kB_mk hP hK hD ht hW.alike⟩, hS.F ht⟩) hS.2.2 dX0_legAt_28
  · have h := h.2 c_1
    refine lv_iload_n hx hb dX0_legAt_4 rfl (lv_at hl 1 rfl) ?_
    refine lv_aload_n hx hb dX0_legAt_5 rfl (lv_at hl 0 rfl) ?_
    refine va_get (D := (dC, dI)) (ci := 0) (v := .int csize) (C := RX0) (T := TX0) (N := 5) hx hb hts hk_1 hown hK hP 18 wA_g18 rfl 3 (by decide) hk_0 (fun _ h9 => h9) rfl dX0_legAt_6 ?_
    refine lv_icmp_ge (tgt := 27) hx hb dX0_legAt_9 (by decide) (fun c_2 => ?_) (fun c_2 => ?_)
    · have h := h.1 c_2
      refine lv_null hx hb dX0_legAt_27 ?_
      exact W.aret (v := va_rf none) hx hb hr (Or.inl ⟨_, rfl⟩) (va_rf_or _) (fun t ht hW => ⟨⟨none, (), rfl, h, kB_mk hP hK hD ht hW.alike⟩, hS.F ht⟩) hS.2.2 dX0_legAt_28
    · have h := h.2 c_2
      refine lv_iload_n hx hb dX0_legAt_12 rfl (lv_at hl 1 rfl) ?_
      refine lv_bipush (v := 14) hx hb dX0_legAt_13 (by decide) ?_
      refine lv_icmp_ge (tgt := 27) hx hb dX0_legAt_15 (by decide) (fun c_3 => ?_) (fun c_3 => ?_)
      · have h := h.1 c_3
        refine lv_null hx hb dX0_legAt_27 ?_
        exact W.aret (v := va_rf none) hx hb hr (Or.inl ⟨_, rfl⟩) (va_rf_or _) (fun t ht hW => ⟨⟨none, (), rfl, h, kB_mk hP hK hD ht hW.alike⟩, hS.F ht⟩) hS.2.2 dX0_legAt_28
      · have h := h.2 c_3
        refine lv_aload_n hx hb dX0_legAt_18 rfl (lv_at hl 0 rfl) ?_
        refine va_get (D := (dC, dI)) (ci := 0) (v := .ref (ad 19)) (C := RX0) (T := TX0) (N := 5) hx hb hts hk_1 hown hK hP 18 wA_g18 rfl 0 (by decide) hk_2 (fun _ h9 => h9) rfl dX0_legAt_19 ?_
        refine lv_iload_n hx hb dX0_legAt_22 rfl (lv_at hl 1 rfl) ?_
        have hi_4 := h.1
        have h := h.2
        refine va_aldq hx hb hK hP 19 3 wA_g19 rfl hi_4 dX0_legAt_23 ?_
        cases hr_6 : offered p0.toNatClampNeg with
        | none =>
          have h := h.1 hr_6
          refine lv_goto (tgt := 28) hx hb dX0_legAt_24 (by decide) ?_
          exact W.aret (v := va_rf none) hx hb hr (Or.inl ⟨_, rfl⟩) (va_rf_or _) (fun t ht hW => ⟨⟨none, (), rfl, h, kB_mk hP hK hD ht hW.alike⟩, hS.F ht⟩) hS.2.2 dX0_legAt_28
        | some y_5 =>
          have hy_y_5 := (h.2 y_5 hr_6).1
          have h := (h.2 y_5 hr_6).2
          refine lv_goto (tgt := 28) hx hb dX0_legAt_24 (by decide) ?_
          exact W.aret (v := va_rf (some y_5)) hx hb hr (Or.inl ⟨_, rfl⟩) (va_rf_or _) (fun t ht hW => ⟨⟨(some y_5), (), rfl, h, kB_mk hP hK hD ht hW.alike⟩, hS.F ht⟩) hS.2.2 dX0_legAt_28
def bk_C_X0_changeOfWeight_22 (cws : Nat → Int32) (cwa : Nat → Int32)  (Q : Int32 → Prop) (v2 : Int32) : Prop := (vp_in v2 14 ∧ (vp_in v2 14 ∧ Q ((cws v2.toNatClampNeg) - (cwa v2.toNatClampNeg))))
def lp_C_X0_changeOfWeight_2 (cws : Nat → Int32) (cwa : Nat → Int32)  (Q : Int32 → Prop) : Nat → Int32 → Int32 → Prop
  | 0 => fun _ _ => False
  | n + 1 => fun v1 v2 => ((13 ≤ v2 → bk_C_X0_changeOfWeight_22 cws cwa Q v2) ∧ (¬ (13 ≤ v2) → ((¬ ((v1 >>> (v2 &&& 31)) &&& 1) = 0 → bk_C_X0_changeOfWeight_22 cws cwa Q v2) ∧ (((v1 >>> (v2 &&& 31)) &&& 1) = 0 → lp_C_X0_changeOfWeight_2 cws cwa Q n v1 (v2 + 1)))))
def wp_C_X0_changeOfWeight (cws : Nat → Int32) (cwa : Nat → Int32) (Q : Int32 → Prop) (p0 : Int32) : Prop := (∃ n_5, lp_C_X0_changeOfWeight_2 cws cwa Q n_5 p0 0)
def rm_C_X0_changeOfWeight : Room := { frames := 0, cells := 0, slots := 0, locals := 0 }
abbrev pq_C_X0_changeOfWeight (dC : Nat → ClassId) (dI : Nat → Nat → Nat) (ad : Nat → Nat) (cB cI cZ cL : ClassId) (A : Nat → Prop) (LP : List Nat) (today legCount : Int32) (legs hung : Nat → Option Nat) (warmth damp wopen : Nat → Int32) (tsize : Int32) (bytes : Nat → Int32) (rat rtold rwrong : Int32) (numbers asked : Nat → Int32) (ftold : Int32) (ffarm ffrom fwhat fon : Nat → Int32) (csize ctotal : Int32) (offered : Nat → Option Nat) (cws cwa g_number g_farm g_pig g_first g_begun g_weight g_salted g_heat g_place g_target g_feedAsked g_sealed g_bad g_sold : Nat → Int32) (Q : Int32 → Prop) : Array Value → State → Outcome → State → Prop := va_Qi (fun (r : Int32) (u : Unit) => Q r ) (fun u t => kB dC dI A (wA ad cB cI cZ cL LP today legCount legs hung warmth damp wopen tsize bytes rat rtold rwrong numbers asked ftold ffarm ffrom fwhat fon csize ctotal offered cws cwa g_number g_farm g_pig g_first g_begun g_weight g_salted g_heat g_place g_target g_feedAsked g_sealed g_bad g_sold) (kTy cB cI cZ cL) t) A
set_option maxHeartbeats 4000000 in
set_option maxRecDepth 100000 in
theorem c_C_X0_changeOfWeight (l : Launch) (dC : Nat → ClassId) (dI : Nat → Nat → Nat) (ad : Nat → Nat) (cB cI cZ cL : ClassId) (A : Nat → Prop) (LP : List Nat) (today legCount : Int32) (legs hung : Nat → Option Nat) (warmth damp wopen : Nat → Int32) (tsize : Int32) (bytes : Nat → Int32) (rat rtold rwrong : Int32) (numbers asked : Nat → Int32) (ftold : Int32) (ffarm ffrom fwhat fon : Nat → Int32) (csize ctotal : Int32) (offered : Nat → Option Nat) (cws cwa g_number g_farm g_pig g_first g_begun g_weight g_salted g_heat g_place g_target g_feedAsked g_sealed g_bad g_sold : Nat → Int32) (p0 : Int32)  (Q : Int32 → Prop) (h : wp_C_X0_changeOfWeight cws cwa Q p0) : Met l yX0_changeOfWeight wsX0_changeOfWeight rm_C_X0_changeOfWeight (va_Pc [.ref (ad 18), .int p0] (kC dC dI ad A (wA ad cB cI cZ cL LP today legCount legs hung warmth damp wopen tsize bytes rat rtold rwrong numbers asked ftold ffarm ffrom fwhat fon csize ctotal offered cws cwa g_number g_farm g_pig g_first g_begun g_weight g_salted g_heat g_place g_target g_feedAsked g_sealed g_bad g_sold) (kTy cB cI cZ cL))) (pq_C_X0_changeOfWeight dC dI ad cB cI cZ cL A LP today legCount legs hung warmth damp wopen tsize bytes rat rtold rwrong numbers asked ftold ffarm ffrom fwhat fon csize ctotal offered cws cwa g_number g_farm g_pig g_first g_begun g_weight g_salted g_heat g_place g_target g_feedAsked g_sealed g_bad g_sold Q) 0 0 A := by
  refine Met.ofW (cc := cX0_changeOfWeight) (maxL := 3) (ret := (some .int)) (by decide) rfl ?_
  intro p e s m args below meth c s₁ B hml hv
  obtain ⟨rfl, hA, hP, hK, hD, hE⟩ := hv
  have hx := B.exec
  have hb := B.bytes
  have hr := B.returns
  have hts := atoms_spec (ws := wsX0_changeOfWeight) B.pre
  have hown : s.vm.findClass RX0 = some m.cls := findClass_of_methodNamed B.named
  have hlocks := B.notSynchronized
  have hS : va_S A s.heap s.heap [] := va_S.rf
  have hk_0 := hts (.fieldLink RX0 17 "HamCellar$Choice" "weights" "[I") (by decide +kernel)
  have hk_1 : ∀ w ∈ wsX00, w ∈ wsX0_changeOfWeight := by decide +kernel
  have hk_2 := hts (.fieldLink RX0 21 "HamCellar$Choice" "weightsAhead" "[I") (by decide +kernel)
  have hbk_C_X0_changeOfWeight_22 : ∀ (v2 : Int32) (H : Heap) (locs : List Loc) (ls : Array Slot), va_P (dC, dI) vwCl (wA ad cB cI cZ cL LP today legCount legs hung warmth damp wopen tsize bytes rat rtold rwrong numbers asked ftold ffarm ffrom fwhat fon csize ctotal offered cws cwa g_number g_farm g_pig g_first g_begun g_weight g_salted g_heat g_place g_target g_feedAsked g_sealed g_bad g_sold) H → va_D A (wA ad cB cI cZ cL LP today legCount legs hung warmth damp wopen tsize bytes rat rtold rwrong numbers asked ftold ffarm ffrom fwhat fon csize ctotal offered cws cwa g_number g_farm g_pig g_first g_begun g_weight g_salted g_heat g_place g_target g_feedAsked g_sealed g_bad g_sold) → va_S A s.heap H locs → lv_has ls 3 [(0, .ref (ad 18)), (2, .int v2)] → bk_C_X0_changeOfWeight_22 cws cwa Q v2 → W p l e (headSpec wsX0_changeOfWeight rm_C_X0_changeOfWeight).room s m ([.ref (ad 18), .int p0] : List Value).toArray below meth c H locs 0 0 (MQ below (pq_C_X0_changeOfWeight dC dI ad cB cI cZ cL A LP today legCount legs hung warmth damp wopen tsize bytes rat rtold rwrong numbers asked ftold ffarm ffrom fwhat fon csize ctotal offered cws cwa g_number g_farm g_pig g_first g_begun g_weight g_salted g_heat g_place g_target g_feedAsked g_sealed g_bad g_sold Q) ([.ref (ad 18), .int p0] : List Value).toArray s 0 0 A) (F0 m 22 ls []) := by
    intro v2 H locs ls hP hD hS hl h
    refine lv_aload_n hx hb dX0_changeOfWeight_22 rfl (lv_at hl 0 rfl) ?_
    refine va_get (D := (dC, dI)) (ci := 0) (v := .ref (ad 20)) (C := RX0) (T := TX0) (N := 5) hx hb hts hk_1 hown hK hP 18 wA_g18 rfl 1 (by decide) hk_0 (fun _ h9 => h9) rfl dX0_changeOfWeight_23 ?_
    refine lv_iload_n hx hb dX0_changeOfWeight_26 rfl (lv_at hl 1 rfl) ?_
    have hi_2 := h.1
    have h := h.2
    refine va_iald hx hb hK hP 20 1 wA_g20 rfl hi_2 dX0_changeOfWeight_27 ?_
    refine lv_aload_n hx hb dX0_changeOfWeight_28 rfl (lv_at hl 0 rfl) ?_
    refine va_get (D := (dC, dI)) (ci := 0) (v := .ref (ad 21)) (C := RX0) (T := TX0) (N := 5) hx hb hts hk_1 hown hK hP 18 wA_g18 rfl 2 (by decide) hk_2 (fun _ h9 => h9) rfl dX0_changeOfWeight_29 ?_
    refine lv_iload_n hx hb dX0_changeOfWeight_32 rfl (lv_at hl 1 rfl) ?_
    have hi_3 := h.1
    have h := h.2
    refine va_iald hx hb hK hP 21 1 wA_g21 rfl hi_3 dX0_changeOfWeight_33 ?_
    refine lv_isub hx hb dX0_changeOfWeight_34 ?_
    exact W.iret (v := (cws v2.toNatClampNeg) - (cwa v2.toNatClampNeg)) hx hb hr (fun t ht hW => ⟨⟨(cws v2.toNatClampNeg) - (cwa v2.toNatClampNeg), (), rfl, h, kB_mk hP hK hD ht hW.alike⟩, hS.F ht⟩) hS.2.2 dX0_changeOfWeight_35
  have hlp_C_X0_changeOfWeight_2 : ∀ (n : Nat) (v1 : Int32) (v2 : Int32) (H : Heap) (locs : List Loc) (ls : Array Slot), va_P (dC, dI) vwCl (wA ad cB cI cZ cL LP today legCount legs hung warmth damp wopen tsize bytes rat rtold rwrong numbers asked ftold ffarm ffrom fwhat fon csize ctotal offered cws cwa g_number g_farm g_pig g_first g_begun g_weight g_salted g_heat g_place g_target g_feedAsked g_sealed g_bad g_sold) H → va_D A (wA ad cB cI cZ cL LP today legCount legs hung warmth damp wopen tsize bytes rat rtold rwrong numbers asked ftold ffarm ffrom fwhat fon csize ctotal offered cws cwa g_number g_farm g_pig g_first g_begun g_weight g_salted g_heat g_place g_target g_feedAsked g_sealed g_bad g_sold) → va_S A s.heap H locs → lv_has ls 3 [(0, .ref (ad 18)), (1, .int v1), (2, .int v2)] → lp_C_X0_changeOfWeight_2 cws cwa Q n v1 v2 → W p l e (headSpec wsX0_changeOfWeight rm_C_X0_changeOfWeight).room s m ([.ref (ad 18), .int p0] : List Value).toArray below meth c H locs 0 0 (MQ below (pq_C_X0_changeOfWeight dC dI ad cB cI cZ cL A LP today legCount legs hung warmth damp wopen tsize bytes rat rtold rwrong numbers asked ftold ffarm ffrom fwhat fon csize ctotal offered cws cwa g_number g_farm g_pig g_first g_begun g_weight g_salted g_heat g_place g_target g_feedAsked g_sealed g_bad g_sold Q) ([.ref (ad 18), .int p0] : List Value).toArray s 0 0 A) (F0 m 2 ls []) := by
    intro n
    induction n with
    | zero => intro v1 v2 H locs ls hP hD hS hl h; exact h.elim
    | succ n ih =>
      intro v1 v2 H locs ls hP hD hS hl h
      refine lv_iload_n hx hb dX0_changeOfWeight_2 rfl (lv_at hl 2 rfl) ?_
      refine lv_bipush (v := 13) hx hb dX0_changeOfWeight_3 (by decide) ?_
      refine lv_icmp_ge (tgt := 22) hx hb dX0_changeOfWeight_5 (by decide) (fun c_1 => ?_) (fun c_1 => ?_)
      · have h := h.1 c_1
        exact hbk_C_X0_changeOfWeight_22 v2 _ _ _ hP hD hS (lv_sub hl [0, 2] rfl) h
      · have h := h.2 c_1
        refine lv_iload_n hx hb dX0_changeOfWeight_8 rfl (lv_at hl 1 rfl) ?_
        refine lv_iload_n hx hb dX0_changeOfWeight_9 rfl (lv_at hl 2 rfl) ?_
        refine lv_ishr hx hb dX0_changeOfWeight_10 ?_
        refine lv_iconst (v := 1) hx hb dX0_changeOfWeight_11 (by decide) ?_
        refine lv_iand hx hb dX0_changeOfWeight_12 ?_
        refine lv_if_ne (tgt := 22) hx hb dX0_changeOfWeight_13 (by decide) (fun c_4 => ?_) (fun c_4 => ?_)
        · have h := h.1 c_4
          exact hbk_C_X0_changeOfWeight_22 v2 _ _ _ hP hD hS (lv_sub hl [0, 2] rfl) h
        · have h := h.2 c_4
          refine lv_iinc (v := v2 + 1) (lv' := [(2, .int (v2 + 1)), (0, .ref (ad 18)), (1, .int v1)]) hx hb dX0_changeOfWeight_16 hl (k := 2) rfl rfl (by decide) rfl (fun ls hl => ?_)
          refine lv_goto (tgt := 2) hx hb dX0_changeOfWeight_19 (by decide) ?_
          exact ih v1 (v2 + 1) _ _ _ hP hD hS (lv_sub hl [1, 2, 0] rfl) h
  have hl := lv_entry ([.ref (ad 18), .int p0]) (n := 3) (Nat.le_of_ble_eq_true rfl)
  rw [lg_entry_eq]
  generalize (lg_sl ([.ref (ad 18), .int p0]) ++ List.replicate (3 - (lg_sl ([.ref (ad 18), .int p0])).length) Slot.unset).toArray = ls at hl ⊢
  have hl : lv_has ls 3 [(0, .ref (ad 18)), (1, .int p0)] := hl
  unfold wp_C_X0_changeOfWeight at h
  refine lv_iconst (v := 0) hx hb dX0_changeOfWeight_0 (by decide) ?_
  refine lv_istore_n (lv' := [(2, .int 0), (0, .ref (ad 18)), (1, .int p0)]) hx hb dX0_changeOfWeight_1 rfl hl (by decide) rfl (fun ls hl => ?_)
  obtain ⟨n_5, h⟩ := h
  exact hlp_C_X0_changeOfWeight_2 n_5 p0 0 _ _ _ hP hD hS (lv_sub hl [1, 2, 0] rfl) h
def wp_C_J6_bitCount_0f7a4 (Q : Int32 → Prop) (p0 : Int32) : Prop := Q ((((((((p0 - (((p0.toUInt32 >>> ((1 : Int32).toUInt32 &&& Int32.toUInt32 31)).toInt32) &&& 1431655765)) &&& 858993459) + ((((p0 - (((p0.toUInt32 >>> ((1 : Int32).toUInt32 &&& Int32.toUInt32 31)).toInt32) &&& 1431655765)).toUInt32 >>> ((2 : Int32).toUInt32 &&& Int32.toUInt32 31)).toInt32) &&& 858993459)) + (((((p0 - (((p0.toUInt32 >>> ((1 : Int32).toUInt32 &&& Int32.toUInt32 31)).toInt32) &&& 1431655765)) &&& 858993459) + ((((p0 - (((p0.toUInt32 >>> ((1 : Int32).toUInt32 &&& Int32.toUInt32 31)).toInt32) &&& 1431655765)).toUInt32 >>> ((2 : Int32).toUInt32 &&& Int32.toUInt32 31)).toInt32) &&& 858993459)).toUInt32 >>> ((4 : Int32).toUInt32 &&& Int32.toUInt32 31)).toInt32)) &&& 252645135) + (((((((p0 - (((p0.toUInt32 >>> ((1 : Int32).toUInt32 &&& Int32.toUInt32 31)).toInt32) &&& 1431655765)) &&& 858993459) + ((((p0 - (((p0.toUInt32 >>> ((1 : Int32).toUInt32 &&& Int32.toUInt32 31)).toInt32) &&& 1431655765)).toUInt32 >>> ((2 : Int32).toUInt32 &&& Int32.toUInt32 31)).toInt32) &&& 858993459)) + (((((p0 - (((p0.toUInt32 >>> ((1 : Int32).toUInt32 &&& Int32.toUInt32 31)).toInt32) &&& 1431655765)) &&& 858993459) + ((((p0 - (((p0.toUInt32 >>> ((1 : Int32).toUInt32 &&& Int32.toUInt32 31)).toInt32) &&& 1431655765)).toUInt32 >>> ((2 : Int32).toUInt32 &&& Int32.toUInt32 31)).toInt32) &&& 858993459)).toUInt32 >>> ((4 : Int32).toUInt32 &&& Int32.toUInt32 31)).toInt32)) &&& 252645135).toUInt32 >>> ((8 : Int32).toUInt32 &&& Int32.toUInt32 31)).toInt32)) + ((((((((p0 - (((p0.toUInt32 >>> ((1 : Int32).toUInt32 &&& Int32.toUInt32 31)).toInt32) &&& 1431655765)) &&& 858993459) + ((((p0 - (((p0.toUInt32 >>> ((1 : Int32).toUInt32 &&& Int32.toUInt32 31)).toInt32) &&& 1431655765)).toUInt32 >>> ((2 : Int32).toUInt32 &&& Int32.toUInt32 31)).toInt32) &&& 858993459)) + (((((p0 - (((p0.toUInt32 >>> ((1 : Int32).toUInt32 &&& Int32.toUInt32 31)).toInt32) &&& 1431655765)) &&& 858993459) + ((((p0 - (((p0.toUInt32 >>> ((1 : Int32).toUInt32 &&& Int32.toUInt32 31)).toInt32) &&& 1431655765)).toUInt32 >>> ((2 : Int32).toUInt32 &&& Int32.toUInt32 31)).toInt32) &&& 858993459)).toUInt32 >>> ((4 : Int32).toUInt32 &&& Int32.toUInt32 31)).toInt32)) &&& 252645135) + (((((((p0 - (((p0.toUInt32 >>> ((1 : Int32).toUInt32 &&& Int32.toUInt32 31)).toInt32) &&& 1431655765)) &&& 858993459) + ((((p0 - (((p0.toUInt32 >>> ((1 : Int32).toUInt32 &&& Int32.toUInt32 31)).toInt32) &&& 1431655765)).toUInt32 >>> ((2 : Int32).toUInt32 &&& Int32.toUInt32 31)).toInt32) &&& 858993459)) + (((((p0 - (((p0.toUInt32 >>> ((1 : Int32).toUInt32 &&& Int32.toUInt32 31)).toInt32) &&& 1431655765)) &&& 858993459) + ((((p0 - (((p0.toUInt32 >>> ((1 : Int32).toUInt32 &&& Int32.toUInt32 31)).toInt32) &&& 1431655765)).toUInt32 >>> ((2 : Int32).toUInt32 &&& Int32.toUInt32 31)).toInt32) &&& 858993459)).toUInt32 >>> ((4 : Int32).toUInt32 &&& Int32.toUInt32 31)).toInt32)) &&& 252645135).toUInt32 >>> ((8 : Int32).toUInt32 &&& Int32.toUInt32 31)).toInt32)).toUInt32 >>> ((16 : Int32).toUInt32 &&& Int32.toUInt32 31)).toInt32)) &&& 63)
def rm_C_J6_bitCount_0f7a4 : Room := { frames := 0, cells := 0, slots := 0, locals := 0 }
abbrev pq_C_J6_bitCount_0f7a4 (dC : Nat → ClassId) (dI : Nat → Nat → Nat) (ad : Nat → Nat) (cB cI cZ cL : ClassId) (A : Nat → Prop) (LP : List Nat) (today legCount : Int32) (legs hung : Nat → Option Nat) (warmth damp wopen : Nat → Int32) (tsize : Int32) (bytes : Nat → Int32) (rat rtold rwrong : Int32) (numbers asked : Nat → Int32) (ftold : Int32) (ffarm ffrom fwhat fon : Nat → Int32) (csize ctotal : Int32) (offered : Nat → Option Nat) (cws cwa g_number g_farm g_pig g_first g_begun g_weight g_salted g_heat g_place g_target g_feedAsked g_sealed g_bad g_sold : Nat → Int32) (Q : Int32 → Prop) : Array Value → State → Outcome → State → Prop := va_Qi (fun (r : Int32) (u : Unit) => Q r ) (fun u t => kB dC dI A (wA ad cB cI cZ cL LP today legCount legs hung warmth damp wopen tsize bytes rat rtold rwrong numbers asked ftold ffarm ffrom fwhat fon csize ctotal offered cws cwa g_number g_farm g_pig g_first g_begun g_weight g_salted g_heat g_place g_target g_feedAsked g_sealed g_bad g_sold) (kTy cB cI cZ cL) t) A
set_option maxHeartbeats 4000000 in
set_option maxRecDepth 100000 in
theorem c_C_J6_bitCount_0f7a4 (l : Launch) (dC : Nat → ClassId) (dI : Nat → Nat → Nat) (ad : Nat → Nat) (cB cI cZ cL : ClassId) (A : Nat → Prop) (LP : List Nat) (today legCount : Int32) (legs hung : Nat → Option Nat) (warmth damp wopen : Nat → Int32) (tsize : Int32) (bytes : Nat → Int32) (rat rtold rwrong : Int32) (numbers asked : Nat → Int32) (ftold : Int32) (ffarm ffrom fwhat fon : Nat → Int32) (csize ctotal : Int32) (offered : Nat → Option Nat) (cws cwa g_number g_farm g_pig g_first g_begun g_weight g_salted g_heat g_place g_target g_feedAsked g_sealed g_bad g_sold : Nat → Int32) (p0 : Int32)  (Q : Int32 → Prop) (h : wp_C_J6_bitCount_0f7a4 Q p0) : Met l yJ6_bitCount_0f7a4 wsJ6_bitCount_0f7a4 rm_C_J6_bitCount_0f7a4 (va_Pc [.int p0] (kC dC dI ad A (wA ad cB cI cZ cL LP today legCount legs hung warmth damp wopen tsize bytes rat rtold rwrong numbers asked ftold ffarm ffrom fwhat fon csize ctotal offered cws cwa g_number g_farm g_pig g_first g_begun g_weight g_salted g_heat g_place g_target g_feedAsked g_sealed g_bad g_sold) (kTy cB cI cZ cL))) (pq_C_J6_bitCount_0f7a4 dC dI ad cB cI cZ cL A LP today legCount legs hung warmth damp wopen tsize bytes rat rtold rwrong numbers asked ftold ffarm ffrom fwhat fon csize ctotal offered cws cwa g_number g_farm g_pig g_first g_begun g_weight g_salted g_heat g_place g_target g_feedAsked g_sealed g_bad g_sold Q) 0 0 A := by
  refine Met.ofW (cc := cJ6_bitCount_0f7a4) (maxL := 1) (ret := (some .int)) (by decide) rfl ?_
  intro p e s m args below meth c s₁ B hml hv
  obtain ⟨rfl, hA, hP, hK, hD, hE⟩ := hv
  have hx := B.exec
  have hb := B.bytes
  have hr := B.returns
  have hts := atoms_spec (ws := wsJ6_bitCount_0f7a4) B.pre
  have hown : s.vm.findClass RJ6 = some m.cls := findClass_of_methodNamed B.named
  have hlocks := B.notSynchronized
  have hS : va_S A s.heap s.heap [] := va_S.rf
  have hk_0 := hts (.constant RJ6 265 1431655765) (by decide +kernel)
  have hk_1 := hts (.constant RJ6 266 858993459) (by decide +kernel)
  have hk_2 := hts (.constant RJ6 267 252645135) (by decide +kernel)
  have hl := lv_entry ([.int p0]) (n := 1) (Nat.le_of_ble_eq_true rfl)
  rw [lg_entry_eq]
  generalize (lg_sl ([.int p0]) ++ List.replicate (1 - (lg_sl ([.int p0])).length) Slot.unset).toArray = ls at hl ⊢
  have hl : lv_has ls 1 [(0, .int p0)] := hl
  unfold wp_C_J6_bitCount_0f7a4 at h
  refine lv_iload_n hx hb dJ6_bitCount_0f7a4_0 rfl (lv_at hl 0 rfl) ?_
  refine lv_iload_n hx hb dJ6_bitCount_0f7a4_1 rfl (lv_at hl 0 rfl) ?_
  refine lv_iconst (v := 1) hx hb dJ6_bitCount_0f7a4_2 (by decide) ?_
  refine lv_iushr (v := (p0.toUInt32 >>> ((1 : Int32).toUInt32 &&& Int32.toUInt32 31)).toInt32) hx hb dJ6_bitCount_0f7a4_3 rfl ?_
  refine lv_ldcw hx hb hown hk_0 dJ6_bitCount_0f7a4_4 ?_
  refine lv_iand hx hb dJ6_bitCount_0f7a4_7 ?_
  refine lv_isub hx hb dJ6_bitCount_0f7a4_8 ?_
  refine lv_istore_n (lv' := [(0, .int (p0 - (((p0.toUInt32 >>> ((1 : Int32).toUInt32 &&& Int32.toUInt32 31)).toInt32) &&& 1431655765)))]) hx hb dJ6_bitCount_0f7a4_9 rfl hl (by decide) rfl (fun ls hl => ?_)
  refine lv_iload_n hx hb dJ6_bitCount_0f7a4_10 rfl (lv_at hl 0 rfl) ?_
  refine lv_ldcw hx hb hown hk_1 dJ6_bitCount_0f7a4_11 ?_
  refine lv_iand hx hb dJ6_bitCount_0f7a4_14 ?_
  refine lv_iload_n hx hb dJ6_bitCount_0f7a4_15 rfl (lv_at hl 0 rfl) ?_
  refine lv_iconst (v := 2) hx hb dJ6_bitCount_0f7a4_16 (by decide) ?_
  refine lv_iushr (v := ((p0 - (((p0.toUInt32 >>> ((1 : Int32).toUInt32 &&& Int32.toUInt32 31)).toInt32) &&& 1431655765)).toUInt32 >>> ((2 : Int32).toUInt32 &&& Int32.toUInt32 31)).toInt32) hx hb dJ6_bitCount_0f7a4_17 rfl ?_
  refine lv_ldcw hx hb hown hk_1 dJ6_bitCount_0f7a4_18 ?_
  refine lv_iand hx hb dJ6_bitCount_0f7a4_21 ?_
  refine lv_iadd hx hb dJ6_bitCount_0f7a4_22 ?_
  refine lv_istore_n (lv' := [(0, .int (((p0 - (((p0.toUInt32 >>> ((1 : Int32).toUInt32 &&& Int32.toUInt32 31)).toInt32) &&& 1431655765)) &&& 858993459) + ((((p0 - (((p0.toUInt32 >>> ((1 : Int32).toUInt32 &&& Int32.toUInt32 31)).toInt32) &&& 1431655765)).toUInt32 >>> ((2 : Int32).toUInt32 &&& Int32.toUInt32 31)).toInt32) &&& 858993459)))]) hx hb dJ6_bitCount_0f7a4_23 rfl hl (by decide) rfl (fun ls hl => ?_)
  refine lv_iload_n hx hb dJ6_bitCount_0f7a4_24 rfl (lv_at hl 0 rfl) ?_
  refine lv_iload_n hx hb dJ6_bitCount_0f7a4_25 rfl (lv_at hl 0 rfl) ?_
  refine lv_iconst (v := 4) hx hb dJ6_bitCount_0f7a4_26 (by decide) ?_
  refine lv_iushr (v := ((((p0 - (((p0.toUInt32 >>> ((1 : Int32).toUInt32 &&& Int32.toUInt32 31)).toInt32) &&& 1431655765)) &&& 858993459) + ((((p0 - (((p0.toUInt32 >>> ((1 : Int32).toUInt32 &&& Int32.toUInt32 31)).toInt32) &&& 1431655765)).toUInt32 >>> ((2 : Int32).toUInt32 &&& Int32.toUInt32 31)).toInt32) &&& 858993459)).toUInt32 >>> ((4 : Int32).toUInt32 &&& Int32.toUInt32 31)).toInt32) hx hb dJ6_bitCount_0f7a4_27 rfl ?_
  refine lv_iadd hx hb dJ6_bitCount_0f7a4_28 ?_
  refine lv_ldcw hx hb hown hk_2 dJ6_bitCount_0f7a4_29 ?_
  refine lv_iand hx hb dJ6_bitCount_0f7a4_32 ?_
  refine lv_istore_n (lv' := [(0, .int (((((p0 - (((p0.toUInt32 >>> ((1 : Int32).toUInt32 &&& Int32.toUInt32 31)).toInt32) &&& 1431655765)) &&& 858993459) + ((((p0 - (((p0.toUInt32 >>> ((1 : Int32).toUInt32 &&& Int32.toUInt32 31)).toInt32) &&& 1431655765)).toUInt32 >>> ((2 : Int32).toUInt32 &&& Int32.toUInt32 31)).toInt32) &&& 858993459)) + (((((p0 - (((p0.toUInt32 >>> ((1 : Int32).toUInt32 &&& Int32.toUInt32 31)).toInt32) &&& 1431655765)) &&& 858993459) + ((((p0 - (((p0.toUInt32 >>> ((1 : Int32).toUInt32 &&& Int32.toUInt32 31)).toInt32) &&& 1431655765)).toUInt32 >>> ((2 : Int32).toUInt32 &&& Int32.toUInt32 31)).toInt32) &&& 858993459)).toUInt32 >>> ((4 : Int32).toUInt32 &&& Int32.toUInt32 31)).toInt32)) &&& 252645135))]) hx hb dJ6_bitCount_0f7a4_33 rfl hl (by decide) rfl (fun ls hl => ?_)
  refine lv_iload_n hx hb dJ6_bitCount_0f7a4_34 rfl (lv_at hl 0 rfl) ?_
  refine lv_iload_n hx hb dJ6_bitCount_0f7a4_35 rfl (lv_at hl 0 rfl) ?_
  refine lv_bipush (v := 8) hx hb dJ6_bitCount_0f7a4_36 (by decide) ?_
  refine lv_iushr (v := ((((((p0 - (((p0.toUInt32 >>> ((1 : Int32).toUInt32 &&& Int32.toUInt32 31)).toInt32) &&& 1431655765)) &&& 858993459) + ((((p0 - (((p0.toUInt32 >>> ((1 : Int32).toUInt32 &&& Int32.toUInt32 31)).toInt32) &&& 1431655765)).toUInt32 >>> ((2 : Int32).toUInt32 &&& Int32.toUInt32 31)).toInt32) &&& 858993459)) + (((((p0 - (((p0.toUInt32 >>> ((1 : Int32).toUInt32 &&& Int32.toUInt32 31)).toInt32) &&& 1431655765)) &&& 858993459) + ((((p0 - (((p0.toUInt32 >>> ((1 : Int32).toUInt32 &&& Int32.toUInt32 31)).toInt32) &&& 1431655765)).toUInt32 >>> ((2 : Int32).toUInt32 &&& Int32.toUInt32 31)).toInt32) &&& 858993459)).toUInt32 >>> ((4 : Int32).toUInt32 &&& Int32.toUInt32 31)).toInt32)) &&& 252645135).toUInt32 >>> ((8 : Int32).toUInt32 &&& Int32.toUInt32 31)).toInt32) hx hb dJ6_bitCount_0f7a4_38 rfl ?_
  refine lv_iadd hx hb dJ6_bitCount_0f7a4_39 ?_
  refine lv_istore_n (lv' := [(0, .int ((((((p0 - (((p0.toUInt32 >>> ((1 : Int32).toUInt32 &&& Int32.toUInt32 31)).toInt32) &&& 1431655765)) &&& 858993459) + ((((p0 - (((p0.toUInt32 >>> ((1 : Int32).toUInt32 &&& Int32.toUInt32 31)).toInt32) &&& 1431655765)).toUInt32 >>> ((2 : Int32).toUInt32 &&& Int32.toUInt32 31)).toInt32) &&& 858993459)) + (((((p0 - (((p0.toUInt32 >>> ((1 : Int32).toUInt32 &&& Int32.toUInt32 31)).toInt32) &&& 1431655765)) &&& 858993459) + ((((p0 - (((p0.toUInt32 >>> ((1 : Int32).toUInt32 &&& Int32.toUInt32 31)).toInt32) &&& 1431655765)).toUInt32 >>> ((2 : Int32).toUInt32 &&& Int32.toUInt32 31)).toInt32) &&& 858993459)).toUInt32 >>> ((4 : Int32).toUInt32 &&& Int32.toUInt32 31)).toInt32)) &&& 252645135) + (((((((p0 - (((p0.toUInt32 >>> ((1 : Int32).toUInt32 &&& Int32.toUInt32 31)).toInt32) &&& 1431655765)) &&& 858993459) + ((((p0 - (((p0.toUInt32 >>> ((1 : Int32).toUInt32 &&& Int32.toUInt32 31)).toInt32) &&& 1431655765)).toUInt32 >>> ((2 : Int32).toUInt32 &&& Int32.toUInt32 31)).toInt32) &&& 858993459)) + (((((p0 - (((p0.toUInt32 >>> ((1 : Int32).toUInt32 &&& Int32.toUInt32 31)).toInt32) &&& 1431655765)) &&& 858993459) + ((((p0 - (((p0.toUInt32 >>> ((1 : Int32).toUInt32 &&& Int32.toUInt32 31)).toInt32) &&& 1431655765)).toUInt32 >>> ((2 : Int32).toUInt32 &&& Int32.toUInt32 31)).toInt32) &&& 858993459)).toUInt32 >>> ((4 : Int32).toUInt32 &&& Int32.toUInt32 31)).toInt32)) &&& 252645135).toUInt32 >>> ((8 : Int32).toUInt32 &&& Int32.toUInt32 31)).toInt32)))]) hx hb dJ6_bitCount_0f7a4_40 rfl hl (by decide) rfl (fun ls hl => ?_)
  refine lv_iload_n hx hb dJ6_bitCount_0f7a4_41 rfl (lv_at hl 0 rfl) ?_
  refine lv_iload_n hx hb dJ6_bitCount_0f7a4_42 rfl (lv_at hl 0 rfl) ?_
  refine lv_bipush (v := 16) hx hb dJ6_bitCount_0f7a4_43 (by decide) ?_
  refine lv_iushr (v := (((((((p0 - (((p0.toUInt32 >>> ((1 : Int32).toUInt32 &&& Int32.toUInt32 31)).toInt32) &&& 1431655765)) &&& 858993459) + ((((p0 - (((p0.toUInt32 >>> ((1 : Int32).toUInt32 &&& Int32.toUInt32 31)).toInt32) &&& 1431655765)).toUInt32 >>> ((2 : Int32).toUInt32 &&& Int32.toUInt32 31)).toInt32) &&& 858993459)) + (((((p0 - (((p0.toUInt32 >>> ((1 : Int32).toUInt32 &&& Int32.toUInt32 31)).toInt32) &&& 1431655765)) &&& 858993459) + ((((p0 - (((p0.toUInt32 >>> ((1 : Int32).toUInt32 &&& Int32.toUInt32 31)).toInt32) &&& 1431655765)).toUInt32 >>> ((2 : Int32).toUInt32 &&& Int32.toUInt32 31)).toInt32) &&& 858993459)).toUInt32 >>> ((4 : Int32).toUInt32 &&& Int32.toUInt32 31)).toInt32)) &&& 252645135) + (((((((p0 - (((p0.toUInt32 >>> ((1 : Int32).toUInt32 &&& Int32.toUInt32 31)).toInt32) &&& 1431655765)) &&& 858993459) + ((((p0 - (((p0.toUInt32 >>> ((1 : Int32).toUInt32 &&& Int32.toUInt32 31)).toInt32) &&& 1431655765)).toUInt32 >>> ((2 : Int32).toUInt32 &&& Int32.toUInt32 31)).toInt32) &&& 858993459)) + (((((p0 - (((p0.toUInt32 >>> ((1 : Int32).toUInt32 &&& Int32.toUInt32 31)).toInt32) &&& 1431655765)) &&& 858993459) + ((((p0 - (((p0.toUInt32 >>> ((1 : Int32).toUInt32 &&& Int32.toUInt32 31)).toInt32) &&& 1431655765)).toUInt32 >>> ((2 : Int32).toUInt32 &&& Int32.toUInt32 31)).toInt32) &&& 858993459)).toUInt32 >>> ((4 : Int32).toUInt32 &&& Int32.toUInt32 31)).toInt32)) &&& 252645135).toUInt32 >>> ((8 : Int32).toUInt32 &&& Int32.toUInt32 31)).toInt32)).toUInt32 >>> ((16 : Int32).toUInt32 &&& Int32.toUInt32 31)).toInt32) hx hb dJ6_bitCount_0f7a4_45 rfl ?_
  refine lv_iadd hx hb dJ6_bitCount_0f7a4_46 ?_
  refine lv_istore_n (lv' := [(0, .int (((((((p0 - (((p0.toUInt32 >>> ((1 : Int32).toUInt32 &&& Int32.toUInt32 31)).toInt32) &&& 1431655765)) &&& 858993459) + ((((p0 - (((p0.toUInt32 >>> ((1 : Int32).toUInt32 &&& Int32.toUInt32 31)).toInt32) &&& 1431655765)).toUInt32 >>> ((2 : Int32).toUInt32 &&& Int32.toUInt32 31)).toInt32) &&& 858993459)) + (((((p0 - (((p0.toUInt32 >>> ((1 : Int32).toUInt32 &&& Int32.toUInt32 31)).toInt32) &&& 1431655765)) &&& 858993459) + ((((p0 - (((p0.toUInt32 >>> ((1 : Int32).toUInt32 &&& Int32.toUInt32 31)).toInt32) &&& 1431655765)).toUInt32 >>> ((2 : Int32).toUInt32 &&& Int32.toUInt32 31)).toInt32) &&& 858993459)).toUInt32 >>> ((4 : Int32).toUInt32 &&& Int32.toUInt32 31)).toInt32)) &&& 252645135) + (((((((p0 - (((p0.toUInt32 >>> ((1 : Int32).toUInt32 &&& Int32.toUInt32 31)).toInt32) &&& 1431655765)) &&& 858993459) + ((((p0 - (((p0.toUInt32 >>> ((1 : Int32).toUInt32 &&& Int32.toUInt32 31)).toInt32) &&& 1431655765)).toUInt32 >>> ((2 : Int32).toUInt32 &&& Int32.toUInt32 31)).toInt32) &&& 858993459)) + (((((p0 - (((p0.toUInt32 >>> ((1 : Int32).toUInt32 &&& Int32.toUInt32 31)).toInt32) &&& 1431655765)) &&& 858993459) + ((((p0 - (((p0.toUInt32 >>> ((1 : Int32).toUInt32 &&& Int32.toUInt32 31)).toInt32) &&& 1431655765)).toUInt32 >>> ((2 : Int32).toUInt32 &&& Int32.toUInt32 31)).toInt32) &&& 858993459)).toUInt32 >>> ((4 : Int32).toUInt32 &&& Int32.toUInt32 31)).toInt32)) &&& 252645135).toUInt32 >>> ((8 : Int32).toUInt32 &&& Int32.toUInt32 31)).toInt32)) + ((((((((p0 - (((p0.toUInt32 >>> ((1 : Int32).toUInt32 &&& Int32.toUInt32 31)).toInt32) &&& 1431655765)) &&& 858993459) + ((((p0 - (((p0.toUInt32 >>> ((1 : Int32).toUInt32 &&& Int32.toUInt32 31)).toInt32) &&& 1431655765)).toUInt32 >>> ((2 : Int32).toUInt32 &&& Int32.toUInt32 31)).toInt32) &&& 858993459)) + (((((p0 - (((p0.toUInt32 >>> ((1 : Int32).toUInt32 &&& Int32.toUInt32 31)).toInt32) &&& 1431655765)) &&& 858993459) + ((((p0 - (((p0.toUInt32 >>> ((1 : Int32).toUInt32 &&& Int32.toUInt32 31)).toInt32) &&& 1431655765)).toUInt32 >>> ((2 : Int32).toUInt32 &&& Int32.toUInt32 31)).toInt32) &&& 858993459)).toUInt32 >>> ((4 : Int32).toUInt32 &&& Int32.toUInt32 31)).toInt32)) &&& 252645135) + (((((((p0 - (((p0.toUInt32 >>> ((1 : Int32).toUInt32 &&& Int32.toUInt32 31)).toInt32) &&& 1431655765)) &&& 858993459) + ((((p0 - (((p0.toUInt32 >>> ((1 : Int32).toUInt32 &&& Int32.toUInt32 31)).toInt32) &&& 1431655765)).toUInt32 >>> ((2 : Int32).toUInt32 &&& Int32.toUInt32 31)).toInt32) &&& 858993459)) + (((((p0 - (((p0.toUInt32 >>> ((1 : Int32).toUInt32 &&& Int32.toUInt32 31)).toInt32) &&& 1431655765)) &&& 858993459) + ((((p0 - (((p0.toUInt32 >>> ((1 : Int32).toUInt32 &&& Int32.toUInt32 31)).toInt32) &&& 1431655765)).toUInt32 >>> ((2 : Int32).toUInt32 &&& Int32.toUInt32 31)).toInt32) &&& 858993459)).toUInt32 >>> ((4 : Int32).toUInt32 &&& Int32.toUInt32 31)).toInt32)) &&& 252645135).toUInt32 >>> ((8 : Int32).toUInt32 &&& Int32.toUInt32 31)).toInt32)).toUInt32 >>> ((16 : Int32).toUInt32 &&& Int32.toUInt32 31)).toInt32)))]) hx hb dJ6_bitCount_0f7a4_47 rfl hl (by decide) rfl (fun ls hl => ?_)
  refine lv_iload_n hx hb dJ6_bitCount_0f7a4_48 rfl (lv_at hl 0 rfl) ?_
  refine lv_bipush (v := 63) hx hb dJ6_bitCount_0f7a4_49 (by decide) ?_
  refine lv_iand hx hb dJ6_bitCount_0f7a4_51 ?_
  exact W.iret (v := (((((((p0 - (((p0.toUInt32 >>> ((1 : Int32).toUInt32 &&& Int32.toUInt32 31)).toInt32) &&& 1431655765)) &&& 858993459) + ((((p0 - (((p0.toUInt32 >>> ((1 : Int32).toUInt32 &&& Int32.toUInt32 31)).toInt32) &&& 1431655765)).toUInt32 >>> ((2 : Int32).toUInt32 &&& Int32.toUInt32 31)).toInt32) &&& 858993459)) + (((((p0 - (((p0.toUInt32 >>> ((1 : Int32).toUInt32 &&& Int32.toUInt32 31)).toInt32) &&& 1431655765)) &&& 858993459) + ((((p0 - (((p0.toUInt32 >>> ((1 : Int32).toUInt32 &&& Int32.toUInt32 31)).toInt32) &&& 1431655765)).toUInt32 >>> ((2 : Int32).toUInt32 &&& Int32.toUInt32 31)).toInt32) &&& 858993459)).toUInt32 >>> ((4 : Int32).toUInt32 &&& Int32.toUInt32 31)).toInt32)) &&& 252645135) + (((((((p0 - (((p0.toUInt32 >>> ((1 : Int32).toUInt32 &&& Int32.toUInt32 31)).toInt32) &&& 1431655765)) &&& 858993459) + ((((p0 - (((p0.toUInt32 >>> ((1 : Int32).toUInt32 &&& Int32.toUInt32 31)).toInt32) &&& 1431655765)).toUInt32 >>> ((2 : Int32).toUInt32 &&& Int32.toUInt32 31)).toInt32) &&& 858993459)) + (((((p0 - (((p0.toUInt32 >>> ((1 : Int32).toUInt32 &&& Int32.toUInt32 31)).toInt32) &&& 1431655765)) &&& 858993459) + ((((p0 - (((p0.toUInt32 >>> ((1 : Int32).toUInt32 &&& Int32.toUInt32 31)).toInt32) &&& 1431655765)).toUInt32 >>> ((2 : Int32).toUInt32 &&& Int32.toUInt32 31)).toInt32) &&& 858993459)).toUInt32 >>> ((4 : Int32).toUInt32 &&& Int32.toUInt32 31)).toInt32)) &&& 252645135).toUInt32 >>> ((8 : Int32).toUInt32 &&& Int32.toUInt32 31)).toInt32)) + ((((((((p0 - (((p0.toUInt32 >>> ((1 : Int32).toUInt32 &&& Int32.toUInt32 31)).toInt32) &&& 1431655765)) &&& 858993459) + ((((p0 - (((p0.toUInt32 >>> ((1 : Int32).toUInt32 &&& Int32.toUInt32 31)).toInt32) &&& 1431655765)).toUInt32 >>> ((2 : Int32).toUInt32 &&& Int32.toUInt32 31)).toInt32) &&& 858993459)) + (((((p0 - (((p0.toUInt32 >>> ((1 : Int32).toUInt32 &&& Int32.toUInt32 31)).toInt32) &&& 1431655765)) &&& 858993459) + ((((p0 - (((p0.toUInt32 >>> ((1 : Int32).toUInt32 &&& Int32.toUInt32 31)).toInt32) &&& 1431655765)).toUInt32 >>> ((2 : Int32).toUInt32 &&& Int32.toUInt32 31)).toInt32) &&& 858993459)).toUInt32 >>> ((4 : Int32).toUInt32 &&& Int32.toUInt32 31)).toInt32)) &&& 252645135) + (((((((p0 - (((p0.toUInt32 >>> ((1 : Int32).toUInt32 &&& Int32.toUInt32 31)).toInt32) &&& 1431655765)) &&& 858993459) + ((((p0 - (((p0.toUInt32 >>> ((1 : Int32).toUInt32 &&& Int32.toUInt32 31)).toInt32) &&& 1431655765)).toUInt32 >>> ((2 : Int32).toUInt32 &&& Int32.toUInt32 31)).toInt32) &&& 858993459)) + (((((p0 - (((p0.toUInt32 >>> ((1 : Int32).toUInt32 &&& Int32.toUInt32 31)).toInt32) &&& 1431655765)) &&& 858993459) + ((((p0 - (((p0.toUInt32 >>> ((1 : Int32).toUInt32 &&& Int32.toUInt32 31)).toInt32) &&& 1431655765)).toUInt32 >>> ((2 : Int32).toUInt32 &&& Int32.toUInt32 31)).toInt32) &&& 858993459)).toUInt32 >>> ((4 : Int32).toUInt32 &&& Int32.toUInt32 31)).toInt32)) &&& 252645135).toUInt32 >>> ((8 : Int32).toUInt32 &&& Int32.toUInt32 31)).toInt32)).toUInt32 >>> ((16 : Int32).toUInt32 &&& Int32.toUInt32 31)).toInt32)) &&& 63) hx hb hr (fun t ht hW => ⟨⟨(((((((p0 - (((p0.toUInt32 >>> ((1 : Int32).toUInt32 &&& Int32.toUInt32 31)).toInt32) &&& 1431655765)) &&& 858993459) + ((((p0 - (((p0.toUInt32 >>> ((1 : Int32).toUInt32 &&& Int32.toUInt32 31)).toInt32) &&& 1431655765)).toUInt32 >>> ((2 : Int32).toUInt32 &&& Int32.toUInt32 31)).toInt32) &&& 858993459)) + (((((p0 - (((p0.toUInt32 >>> ((1 : Int32).toUInt32 &&& Int32.toUInt32 31)).toInt32) &&& 1431655765)) &&& 858993459) + ((((p0 - (((p0.toUInt32 >>> ((1 : Int32).toUInt32 &&& Int32.toUInt32 31)).toInt32) &&& 1431655765)).toUInt32 >>> ((2 : Int32).toUInt32 &&& Int32.toUInt32 31)).toInt32) &&& 858993459)).toUInt32 >>> ((4 : Int32).toUInt32 &&& Int32.toUInt32 31)).toInt32)) &&& 252645135) + (((((((p0 - (((p0.toUInt32 >>> ((1 : Int32).toUInt32 &&& Int32.toUInt32 31)).toInt32) &&& 1431655765)) &&& 858993459) + ((((p0 - (((p0.toUInt32 >>> ((1 : Int32).toUInt32 &&& Int32.toUInt32 31)).toInt32) &&& 1431655765)).toUInt32 >>> ((2 : Int32).toUInt32 &&& Int32.toUInt32 31)).toInt32) &&& 858993459)) + (((((p0 - (((p0.toUInt32 >>> ((1 : Int32).toUInt32 &&& Int32.toUInt32 31)).toInt32) &&& 1431655765)) &&& 858993459) + ((((p0 - (((p0.toUInt32 >>> ((1 : Int32).toUInt32 &&& Int32.toUInt32 31)).toInt32) &&& 1431655765)).toUInt32 >>> ((2 : Int32).toUInt32 &&& Int32.toUInt32 31)).toInt32) &&& 858993459)).toUInt32 >>> ((4 : Int32).toUInt32 &&& Int32.toUInt32 31)).toInt32)) &&& 252645135).toUInt32 >>> ((8 : Int32).toUInt32 &&& Int32.toUInt32 31)).toInt32)) + ((((((((p0 - (((p0.toUInt32 >>> ((1 : Int32).toUInt32 &&& Int32.toUInt32 31)).toInt32) &&& 1431655765)) &&& 858993459) + ((((p0 - (((p0.toUInt32 >>> ((1 : Int32).toUInt32 &&& Int32.toUInt32 31)).toInt32) &&& 1431655765)).toUInt32 >>> ((2 : Int32).toUInt32 &&& Int32.toUInt32 31)).toInt32) &&& 858993459)) + (((((p0 - (((p0.toUInt32 >>> ((1 : Int32).toUInt32 &&& Int32.toUInt32 31)).toInt32) &&& 1431655765)) &&& 858993459) + ((((p0 - (((p0.toUInt32 >>> ((1 : Int32).toUInt32 &&& Int32.toUInt32 31)).toInt32) &&& 1431655765)).toUInt32 >>> ((2 : Int32).toUInt32 &&& Int32.toUInt32 31)).toInt32) &&& 858993459)).toUInt32 >>> ((4 : Int32).toUInt32 &&& Int32.toUInt32 31)).toInt32)) &&& 252645135) + (((((((p0 - (((p0.toUInt32 >>> ((1 : Int32).toUInt32 &&& Int32.toUInt32 31)).toInt32) &&& 1431655765)) &&& 858993459) + ((((p0 - (((p0.toUInt32 >>> ((1 : Int32).toUInt32 &&& Int32.toUInt32 31)).toInt32) &&& 1431655765)).toUInt32 >>> ((2 : Int32).toUInt32 &&& Int32.toUInt32 31)).toInt32) &&& 858993459)) + (((((p0 - (((p0.toUInt32 >>> ((1 : Int32).toUInt32 &&& Int32.toUInt32 31)).toInt32) &&& 1431655765)) &&& 858993459) + ((((p0 - (((p0.toUInt32 >>> ((1 : Int32).toUInt32 &&& Int32.toUInt32 31)).toInt32) &&& 1431655765)).toUInt32 >>> ((2 : Int32).toUInt32 &&& Int32.toUInt32 31)).toInt32) &&& 858993459)).toUInt32 >>> ((4 : Int32).toUInt32 &&& Int32.toUInt32 31)).toInt32)) &&& 252645135).toUInt32 >>> ((8 : Int32).toUInt32 &&& Int32.toUInt32 31)).toInt32)).toUInt32 >>> ((16 : Int32).toUInt32 &&& Int32.toUInt32 31)).toInt32)) &&& 63, (), rfl, h, kB_mk hP hK hD ht hW.alike⟩, hS.F ht⟩) hS.2.2 dJ6_bitCount_0f7a4_52
def bk_C_X0_leastSet_92 (csize : Int32) (ctotal : Int32) (cws : Nat → Int32) (cwa : Nat → Int32)  (Q : Int32 → Prop) (K10 : Int32 → Int32 → Int32 → Int32 → Int32 → Prop) (v1 : Int32) (v2 : Int32) (v3 : Int32) (v4 : Int32) (v5 : Int32) : Prop := K10 v1 v2 v3 v4 (v5 + 1)
def bk_C_X0_leastSet_73 (csize : Int32) (ctotal : Int32) (cws : Nat → Int32) (cwa : Nat → Int32)  (Q : Int32 → Prop) (K10 : Int32 → Int32 → Int32 → Int32 → Int32 → Prop) (v1 : Int32) (v2 : Int32) (v3 : Int32) (v4 : Int32) (v5 : Int32) (k0 : Int32) : Prop := ((v4 < v1 → bk_C_X0_leastSet_92 csize ctotal cws cwa Q K10 v1 v2 v3 v4 v5) ∧ (¬ (v4 < v1) → ((k0 = 0 → bk_C_X0_leastSet_92 csize ctotal cws cwa Q K10 v1 v2 v3 v4 v5) ∧ (¬ (k0 = 0) → bk_C_X0_leastSet_92 csize ctotal cws cwa Q K10 v1 v5 v4 v4 v5))))
def bk_C_X0_leastSet_68 (csize : Int32) (ctotal : Int32) (cws : Nat → Int32) (cwa : Nat → Int32)  (Q : Int32 → Prop) (K10 : Int32 → Int32 → Int32 → Int32 → Int32 → Prop) (v1 : Int32) (v2 : Int32) (v3 : Int32) (v4 : Int32) (v5 : Int32) : Prop := bk_C_X0_leastSet_73 csize ctotal cws cwa Q K10 v1 v2 v3 v4 v5 1
def bk_C_X0_leastSet_72 (csize : Int32) (ctotal : Int32) (cws : Nat → Int32) (cwa : Nat → Int32)  (Q : Int32 → Prop) (K10 : Int32 → Int32 → Int32 → Int32 → Int32 → Prop) (v1 : Int32) (v2 : Int32) (v3 : Int32) (v4 : Int32) (v5 : Int32) : Prop := bk_C_X0_leastSet_73 csize ctotal cws cwa Q K10 v1 v2 v3 v4 v5 0
def lp_C_X0_leastSet_10 (csize : Int32) (ctotal : Int32) (cws : Nat → Int32) (cwa : Nat → Int32)  (Q : Int32 → Prop) : Nat → Int32 → Int32 → Int32 → Int32 → Int32 → Prop
  | 0 => fun _ _ _ _ _ => False
  | n + 1 => fun v1 v2 v3 v4 v5 => (((1 <<< (csize &&& 31)) ≤ v5 → Q v2) ∧ (¬ ((1 <<< (csize &&& 31)) ≤ v5) → ((ctotal < v1 → Q v2) ∧ (¬ (ctotal < v1) → wp_C_X0_changeOfWeight cws cwa (fun r_3 => ((v2 = 0 → bk_C_X0_leastSet_68 csize ctotal cws cwa Q (lp_C_X0_leastSet_10 csize ctotal cws cwa Q n) v1 v2 v3 (v4 + r_3) v5) ∧ (¬ (v2 = 0) → (((v4 + r_3) < v3 → bk_C_X0_leastSet_68 csize ctotal cws cwa Q (lp_C_X0_leastSet_10 csize ctotal cws cwa Q n) v1 v2 v3 (v4 + r_3) v5) ∧ (¬ ((v4 + r_3) < v3) → ((¬ (v4 + r_3) = v3 → bk_C_X0_leastSet_72 csize ctotal cws cwa Q (lp_C_X0_leastSet_10 csize ctotal cws cwa Q n) v1 v2 v3 (v4 + r_3) v5) ∧ ((v4 + r_3) = v3 → wp_C_J6_bitCount_0f7a4 (fun r_9 => wp_C_J6_bitCount_0f7a4 (fun r_10 => ((r_10 ≤ r_9 → bk_C_X0_leastSet_72 csize ctotal cws cwa Q (lp_C_X0_leastSet_10 csize ctotal cws cwa Q n) v1 v2 v3 (v4 + r_3) v5) ∧ (¬ (r_10 ≤ r_9) → bk_C_X0_leastSet_68 csize ctotal cws cwa Q (lp_C_X0_leastSet_10 csize ctotal cws cwa Q n) v1 v2 v3 (v4 + r_3) v5))) v2) v5))))))) v5))))
def wp_C_X0_leastSet (csize : Int32) (ctotal : Int32) (cws : Nat → Int32) (cwa : Nat → Int32) (Q : Int32 → Prop) (p0 : Int32) : Prop := (∃ n_12, lp_C_X0_leastSet_10 csize ctotal cws cwa Q n_12 p0 0 0 0 1)
def rm_C_X0_leastSet : Room := { frames := 1, cells := 0, slots := 0, locals := 22 }
abbrev pq_C_X0_leastSet (dC : Nat → ClassId) (dI : Nat → Nat → Nat) (ad : Nat → Nat) (cB cI cZ cL : ClassId) (A : Nat → Prop) (LP : List Nat) (today legCount : Int32) (legs hung : Nat → Option Nat) (warmth damp wopen : Nat → Int32) (tsize : Int32) (bytes : Nat → Int32) (rat rtold rwrong : Int32) (numbers asked : Nat → Int32) (ftold : Int32) (ffarm ffrom fwhat fon : Nat → Int32) (csize ctotal : Int32) (offered : Nat → Option Nat) (cws cwa g_number g_farm g_pig g_first g_begun g_weight g_salted g_heat g_place g_target g_feedAsked g_sealed g_bad g_sold : Nat → Int32) (Q : Int32 → Prop) : Array Value → State → Outcome → State → Prop := va_Qi (fun (r : Int32) (u : Unit) => Q r ) (fun u t => kB dC dI A (wA ad cB cI cZ cL LP today legCount legs hung warmth damp wopen tsize bytes rat rtold rwrong numbers asked ftold ffarm ffrom fwhat fon csize ctotal offered cws cwa g_number g_farm g_pig g_first g_begun g_weight g_salted g_heat g_place g_target g_feedAsked g_sealed g_bad g_sold) (kTy cB cI cZ cL) t) A
set_option maxHeartbeats 4000000 in
set_option maxRecDepth 100000 in
theorem c_C_X0_leastSet (l : Launch) (dC : Nat → ClassId) (dI : Nat → Nat → Nat) (ad : Nat → Nat) (cB cI cZ cL : ClassId) (A : Nat → Prop) (LP : List Nat) (today legCount : Int32) (legs hung : Nat → Option Nat) (warmth damp wopen : Nat → Int32) (tsize : Int32) (bytes : Nat → Int32) (rat rtold rwrong : Int32) (numbers asked : Nat → Int32) (ftold : Int32) (ffarm ffrom fwhat fon : Nat → Int32) (csize ctotal : Int32) (offered : Nat → Option Nat) (cws cwa g_number g_farm g_pig g_first g_begun g_weight g_salted g_heat g_place g_target g_feedAsked g_sealed g_bad g_sold : Nat → Int32) (p0 : Int32)  (Q : Int32 → Prop) (h : wp_C_X0_leastSet csize ctotal cws cwa Q p0) : Met l yX0_leastSet wsX0_leastSet rm_C_X0_leastSet (va_Pc [.ref (ad 18), .int p0] (kC dC dI ad A (wA ad cB cI cZ cL LP today legCount legs hung warmth damp wopen tsize bytes rat rtold rwrong numbers asked ftold ffarm ffrom fwhat fon csize ctotal offered cws cwa g_number g_farm g_pig g_first g_begun g_weight g_salted g_heat g_place g_target g_feedAsked g_sealed g_bad g_sold) (kTy cB cI cZ cL))) (pq_C_X0_leastSet dC dI ad cB cI cZ cL A LP today legCount legs hung warmth damp wopen tsize bytes rat rtold rwrong numbers asked ftold ffarm ffrom fwhat fon csize ctotal offered cws cwa g_number g_farm g_pig g_first g_begun g_weight g_salted g_heat g_place g_target g_feedAsked g_sealed g_bad g_sold Q) 0 0 A := by
  refine Met.ofW (cc := cX0_leastSet) (maxL := 7) (ret := (some .int)) (by decide) rfl ?_
  intro p e s m args below meth c s₁ B hml hv
  obtain ⟨rfl, hA, hP, hK, hD, hE⟩ := hv
  have hx := B.exec
  have hb := B.bytes
  have hr := B.returns
  have hts := atoms_spec (ws := wsX0_leastSet) B.pre
  have hown : s.vm.findClass RX0 = some m.cls := findClass_of_methodNamed B.named
  have hlocks := B.notSynchronized
  have hS : va_S A s.heap s.heap [] := va_S.rf
  have hk_0 := hts (.fieldLink RX0 24 "HamCellar$Choice" "size" "I") (by decide +kernel)
  have hk_1 : ∀ w ∈ wsX00, w ∈ wsX0_leastSet := by decide +kernel
  have hk_2 := hts (.fieldLink RX0 28 "HamCellar$Choice" "total" "I") (by decide +kernel)
  have hbk_C_X0_leastSet_92 : ∀ (K10 : Int32 → Int32 → Int32 → Int32 → Int32 → Prop) (hK10 : ∀ (v1 : Int32) (v2 : Int32) (v3 : Int32) (v4 : Int32) (v5 : Int32) (H : Heap) (locs : List Loc) (ls : Array Slot), va_P (dC, dI) vwCl (wA ad cB cI cZ cL LP today legCount legs hung warmth damp wopen tsize bytes rat rtold rwrong numbers asked ftold ffarm ffrom fwhat fon csize ctotal offered cws cwa g_number g_farm g_pig g_first g_begun g_weight g_salted g_heat g_place g_target g_feedAsked g_sealed g_bad g_sold) H → va_D A (wA ad cB cI cZ cL LP today legCount legs hung warmth damp wopen tsize bytes rat rtold rwrong numbers asked ftold ffarm ffrom fwhat fon csize ctotal offered cws cwa g_number g_farm g_pig g_first g_begun g_weight g_salted g_heat g_place g_target g_feedAsked g_sealed g_bad g_sold) → va_S A s.heap H locs → lv_has ls 7 [(0, .ref (ad 18)), (1, .int v1), (2, .int v2), (3, .int v3), (4, .int v4), (5, .int v5)] → K10 v1 v2 v3 v4 v5 → W p l e (headSpec wsX0_leastSet rm_C_X0_leastSet).room s m ([.ref (ad 18), .int p0] : List Value).toArray below meth c H locs 0 0 (MQ below (pq_C_X0_leastSet dC dI ad cB cI cZ cL A LP today legCount legs hung warmth damp wopen tsize bytes rat rtold rwrong numbers asked ftold ffarm ffrom fwhat fon csize ctotal offered cws cwa g_number g_farm g_pig g_first g_begun g_weight g_salted g_heat g_place g_target g_feedAsked g_sealed g_bad g_sold Q) ([.ref (ad 18), .int p0] : List Value).toArray s 0 0 A) (F0 m 10 ls [])) (v1 : Int32) (v2 : Int32) (v3 : Int32) (v4 : Int32) (v5 : Int32) (H : Heap) (locs : List Loc) (ls : Array Slot), va_P (dC, dI) vwCl (wA ad cB cI cZ cL LP today legCount legs hung warmth damp wopen tsize bytes rat rtold rwrong numbers asked ftold ffarm ffrom fwhat fon csize ctotal offered cws cwa g_number g_farm g_pig g_first g_begun g_weight g_salted g_heat g_place g_target g_feedAsked g_sealed g_bad g_sold) H → va_D A (wA ad cB cI cZ cL LP today legCount legs hung warmth damp wopen tsize bytes rat rtold rwrong numbers asked ftold ffarm ffrom fwhat fon csize ctotal offered cws cwa g_number g_farm g_pig g_first g_begun g_weight g_salted g_heat g_place g_target g_feedAsked g_sealed g_bad g_sold) → va_S A s.heap H locs → lv_has ls 7 [(0, .ref (ad 18)), (1, .int v1), (2, .int v2), (3, .int v3), (4, .int v4), (5, .int v5)] → bk_C_X0_leastSet_92 csize ctotal cws cwa Q K10 v1 v2 v3 v4 v5 → W p l e (headSpec wsX0_leastSet rm_C_X0_leastSet).room s m ([.ref (ad 18), .int p0] : List Value).toArray below meth c H locs 0 0 (MQ below (pq_C_X0_leastSet dC dI ad cB cI cZ cL A LP today legCount legs hung warmth damp wopen tsize bytes rat rtold rwrong numbers asked ftold ffarm ffrom fwhat fon csize ctotal offered cws cwa g_number g_farm g_pig g_first g_begun g_weight g_salted g_heat g_place g_target g_feedAsked g_sealed g_bad g_sold Q) ([.ref (ad 18), .int p0] : List Value).toArray s 0 0 A) (F0 m 92 ls []) := by
    intro K10 hK10 v1 v2 v3 v4 v5 H locs ls hP hD hS hl h
    refine lv_iinc (v := v5 + 1) (lv' := [(5, .int (v5 + 1)), (0, .ref (ad 18)), (1, .int v1), (2, .int v2), (3, .int v3), (4, .int v4)]) hx hb dX0_leastSet_92 hl (k := 5) rfl rfl (by decide) rfl (fun ls hl => ?_)
    refine lv_goto (tgt := 10) hx hb dX0_leastSet_95 (by decide) ?_
    exact hK10 v1 v2 v3 v4 (v5 + 1) _ _ _ hP hD hS (lv_sub hl [1, 2, 3, 4, 5, 0] rfl) h
  have hbk_C_X0_leastSet_73 : ∀ (K10 : Int32 → Int32 → Int32 → Int32 → Int32 → Prop) (hK10 : ∀ (v1 : Int32) (v2 : Int32) (v3 : Int32) (v4 : Int32) (v5 : Int32) (H : Heap) (locs : List Loc) (ls : Array Slot), va_P (dC, dI) vwCl (wA ad cB cI cZ cL LP today legCount legs hung warmth damp wopen tsize bytes rat rtold rwrong numbers asked ftold ffarm ffrom fwhat fon csize ctotal offered cws cwa g_number g_farm g_pig g_first g_begun g_weight g_salted g_heat g_place g_target g_feedAsked g_sealed g_bad g_sold) H → va_D A (wA ad cB cI cZ cL LP today legCount legs hung warmth damp wopen tsize bytes rat rtold rwrong numbers asked ftold ffarm ffrom fwhat fon csize ctotal offered cws cwa g_number g_farm g_pig g_first g_begun g_weight g_salted g_heat g_place g_target g_feedAsked g_sealed g_bad g_sold) → va_S A s.heap H locs → lv_has ls 7 [(0, .ref (ad 18)), (1, .int v1), (2, .int v2), (3, .int v3), (4, .int v4), (5, .int v5)] → K10 v1 v2 v3 v4 v5 → W p l e (headSpec wsX0_leastSet rm_C_X0_leastSet).room s m ([.ref (ad 18), .int p0] : List Value).toArray below meth c H locs 0 0 (MQ below (pq_C_X0_leastSet dC dI ad cB cI cZ cL A LP today legCount legs hung warmth damp wopen tsize bytes rat rtold rwrong numbers asked ftold ffarm ffrom fwhat fon csize ctotal offered cws cwa g_number g_farm g_pig g_first g_begun g_weight g_salted g_heat g_place g_target g_feedAsked g_sealed g_bad g_sold Q) ([.ref (ad 18), .int p0] : List Value).toArray s 0 0 A) (F0 m 10 ls [])) (v1 : Int32) (v2 : Int32) (v3 : Int32) (v4 : Int32) (v5 : Int32) (k0 : Int32) (H : Heap) (locs : List Loc) (ls : Array Slot), va_P (dC, dI) vwCl (wA ad cB cI cZ cL LP today legCount legs hung warmth damp wopen tsize bytes rat rtold rwrong numbers asked ftold ffarm ffrom fwhat fon csize ctotal offered cws cwa g_number g_farm g_pig g_first g_begun g_weight g_salted g_heat g_place g_target g_feedAsked g_sealed g_bad g_sold) H → va_D A (wA ad cB cI cZ cL LP today legCount legs hung warmth damp wopen tsize bytes rat rtold rwrong numbers asked ftold ffarm ffrom fwhat fon csize ctotal offered cws cwa g_number g_farm g_pig g_first g_begun g_weight g_salted g_heat g_place g_target g_feedAsked g_sealed g_bad g_sold) → va_S A s.heap H locs → lv_has ls 7 [(0, .ref (ad 18)), (1, .int v1), (2, .int v2), (3, .int v3), (4, .int v4), (5, .int v5)] → bk_C_X0_leastSet_73 csize ctotal cws cwa Q K10 v1 v2 v3 v4 v5 k0 → W p l e (headSpec wsX0_leastSet rm_C_X0_leastSet).room s m ([.ref (ad 18), .int p0] : List Value).toArray below meth c H locs 0 0 (MQ below (pq_C_X0_leastSet dC dI ad cB cI cZ cL A LP today legCount legs hung warmth damp wopen tsize bytes rat rtold rwrong numbers asked ftold ffarm ffrom fwhat fon csize ctotal offered cws cwa g_number g_farm g_pig g_first g_begun g_weight g_salted g_heat g_place g_target g_feedAsked g_sealed g_bad g_sold Q) ([.ref (ad 18), .int p0] : List Value).toArray s 0 0 A) (F0 m 73 ls [.int k0]) := by
    intro K10 hK10 v1 v2 v3 v4 v5 k0 H locs ls hP hD hS hl h
    refine lv_istore (lv' := [(6, .int k0), (0, .ref (ad 18)), (1, .int v1), (2, .int v2), (3, .int v3), (4, .int v4), (5, .int v5)]) hx hb dX0_leastSet_73 hl (by decide) rfl (fun ls hl => ?_)
    refine lv_iload hx hb dX0_leastSet_75 (lv_at hl 5 rfl) ?_
    refine lv_iload_n hx hb dX0_leastSet_77 rfl (lv_at hl 2 rfl) ?_
    refine lv_icmp_lt (tgt := 92) hx hb dX0_leastSet_78 (by decide) (fun c_5 => ?_) (fun c_5 => ?_)
    · have h := h.1 c_5
      exact hbk_C_X0_leastSet_92 K10 hK10 v1 v2 v3 v4 v5 _ _ _ hP hD hS (lv_sub hl [1, 2, 3, 4, 5, 6] rfl) h
    · have h := h.2 c_5
      refine lv_iload hx hb dX0_leastSet_81 (lv_at hl 0 rfl) ?_
      refine lv_if_eq (tgt := 92) hx hb dX0_leastSet_83 (by decide) (fun c_6 => ?_) (fun c_6 => ?_)
      · have h := h.1 c_6
        exact hbk_C_X0_leastSet_92 K10 hK10 v1 v2 v3 v4 v5 _ _ _ hP hD hS (lv_sub hl [1, 2, 3, 4, 5, 6] rfl) h
      · have h := h.2 c_6
        refine lv_iload hx hb dX0_leastSet_86 (lv_at hl 6 rfl) ?_
        refine lv_istore_n (lv' := [(2, .int v5), (6, .int k0), (0, .ref (ad 18)), (1, .int v1), (3, .int v3), (4, .int v4), (5, .int v5)]) hx hb dX0_leastSet_88 rfl hl (by decide) rfl (fun ls hl => ?_)
        refine lv_iload hx hb dX0_leastSet_89 (lv_at hl 5 rfl) ?_
        refine lv_istore_n (lv' := [(3, .int v4), (2, .int v5), (6, .int k0), (0, .ref (ad 18)), (1, .int v1), (4, .int v4), (5, .int v5)]) hx hb dX0_leastSet_91 rfl hl (by decide) rfl (fun ls hl => ?_)
        exact hbk_C_X0_leastSet_92 K10 hK10 v1 v5 v4 v4 v5 _ _ _ hP hD hS (lv_sub hl [3, 4, 1, 0, 5, 6] rfl) h
  have hbk_C_X0_leastSet_68 : ∀ (K10 : Int32 → Int32 → Int32 → Int32 → Int32 → Prop) (hK10 : ∀ (v1 : Int32) (v2 : Int32) (v3 : Int32) (v4 : Int32) (v5 : Int32) (H : Heap) (locs : List Loc) (ls : Array Slot), va_P (dC, dI) vwCl (wA ad cB cI cZ cL LP today legCount legs hung warmth damp wopen tsize bytes rat rtold rwrong numbers asked ftold ffarm ffrom fwhat fon csize ctotal offered cws cwa g_number g_farm g_pig g_first g_begun g_weight g_salted g_heat g_place g_target g_feedAsked g_sealed g_bad g_sold) H → va_D A (wA ad cB cI cZ cL LP today legCount legs hung warmth damp wopen tsize bytes rat rtold rwrong numbers asked ftold ffarm ffrom fwhat fon csize ctotal offered cws cwa g_number g_farm g_pig g_first g_begun g_weight g_salted g_heat g_place g_target g_feedAsked g_sealed g_bad g_sold) → va_S A s.heap H locs → lv_has ls 7 [(0, .ref (ad 18)), (1, .int v1), (2, .int v2), (3, .int v3), (4, .int v4), (5, .int v5)] → K10 v1 v2 v3 v4 v5 → W p l e (headSpec wsX0_leastSet rm_C_X0_leastSet).room s m ([.ref (ad 18), .int p0] : List Value).toArray below meth c H locs 0 0 (MQ below (pq_C_X0_leastSet dC dI ad cB cI cZ cL A LP today legCount legs hung warmth damp wopen tsize bytes rat rtold rwrong numbers asked ftold ffarm ffrom fwhat fon csize ctotal offered cws cwa g_number g_farm g_pig g_first g_begun g_weight g_salted g_heat g_place g_target g_feedAsked g_sealed g_bad g_sold Q) ([.ref (ad 18), .int p0] : List Value).toArray s 0 0 A) (F0 m 10 ls [])) (v1 : Int32) (v2 : Int32) (v3 : Int32) (v4 : Int32) (v5 : Int32) (H : Heap) (locs : List Loc) (ls : Array Slot), va_P (dC, dI) vwCl (wA ad cB cI cZ cL LP today legCount legs hung warmth damp wopen tsize bytes rat rtold rwrong numbers asked ftold ffarm ffrom fwhat fon csize ctotal offered cws cwa g_number g_farm g_pig g_first g_begun g_weight g_salted g_heat g_place g_target g_feedAsked g_sealed g_bad g_sold) H → va_D A (wA ad cB cI cZ cL LP today legCount legs hung warmth damp wopen tsize bytes rat rtold rwrong numbers asked ftold ffarm ffrom fwhat fon csize ctotal offered cws cwa g_number g_farm g_pig g_first g_begun g_weight g_salted g_heat g_place g_target g_feedAsked g_sealed g_bad g_sold) → va_S A s.heap H locs → lv_has ls 7 [(0, .ref (ad 18)), (1, .int v1), (2, .int v2), (3, .int v3), (4, .int v4), (5, .int v5)] → bk_C_X0_leastSet_68 csize ctotal cws cwa Q K10 v1 v2 v3 v4 v5 → W p l e (headSpec wsX0_leastSet rm_C_X0_leastSet).room s m ([.ref (ad 18), .int p0] : List Value).toArray below meth c H locs 0 0 (MQ below (pq_C_X0_leastSet dC dI ad cB cI cZ cL A LP today legCount legs hung warmth damp wopen tsize bytes rat rtold rwrong numbers asked ftold ffarm ffrom fwhat fon csize ctotal offered cws cwa g_number g_farm g_pig g_first g_begun g_weight g_salted g_heat g_place g_target g_feedAsked g_sealed g_bad g_sold Q) ([.ref (ad 18), .int p0] : List Value).toArray s 0 0 A) (F0 m 68 ls []) := by
    intro K10 hK10 v1 v2 v3 v4 v5 H locs ls hP hD hS hl h
    refine lv_iconst (v := 1) hx hb dX0_leastSet_68 (by decide) ?_
    refine lv_goto (tgt := 73) hx hb dX0_leastSet_69 (by decide) ?_
    exact hbk_C_X0_leastSet_73 K10 hK10 v1 v2 v3 v4 v5 1 _ _ _ hP hD hS (lv_sub hl [0, 1, 2, 3, 4, 5] rfl) h
  have hbk_C_X0_leastSet_72 : ∀ (K10 : Int32 → Int32 → Int32 → Int32 → Int32 → Prop) (hK10 : ∀ (v1 : Int32) (v2 : Int32) (v3 : Int32) (v4 : Int32) (v5 : Int32) (H : Heap) (locs : List Loc) (ls : Array Slot), va_P (dC, dI) vwCl (wA ad cB cI cZ cL LP today legCount legs hung warmth damp wopen tsize bytes rat rtold rwrong numbers asked ftold ffarm ffrom fwhat fon csize ctotal offered cws cwa g_number g_farm g_pig g_first g_begun g_weight g_salted g_heat g_place g_target g_feedAsked g_sealed g_bad g_sold) H → va_D A (wA ad cB cI cZ cL LP today legCount legs hung warmth damp wopen tsize bytes rat rtold rwrong numbers asked ftold ffarm ffrom fwhat fon csize ctotal offered cws cwa g_number g_farm g_pig g_first g_begun g_weight g_salted g_heat g_place g_target g_feedAsked g_sealed g_bad g_sold) → va_S A s.heap H locs → lv_has ls 7 [(0, .ref (ad 18)), (1, .int v1), (2, .int v2), (3, .int v3), (4, .int v4), (5, .int v5)] → K10 v1 v2 v3 v4 v5 → W p l e (headSpec wsX0_leastSet rm_C_X0_leastSet).room s m ([.ref (ad 18), .int p0] : List Value).toArray below meth c H locs 0 0 (MQ below (pq_C_X0_leastSet dC dI ad cB cI cZ cL A LP today legCount legs hung warmth damp wopen tsize bytes rat rtold rwrong numbers asked ftold ffarm ffrom fwhat fon csize ctotal offered cws cwa g_number g_farm g_pig g_first g_begun g_weight g_salted g_heat g_place g_target g_feedAsked g_sealed g_bad g_sold Q) ([.ref (ad 18), .int p0] : List Value).toArray s 0 0 A) (F0 m 10 ls [])) (v1 : Int32) (v2 : Int32) (v3 : Int32) (v4 : Int32) (v5 : Int32) (H : Heap) (locs : List Loc) (ls : Array Slot), va_P (dC, dI) vwCl (wA ad cB cI cZ cL LP today legCount legs hung warmth damp wopen tsize bytes rat rtold rwrong numbers asked ftold ffarm ffrom fwhat fon csize ctotal offered cws cwa g_number g_farm g_pig g_first g_begun g_weight g_salted g_heat g_place g_target g_feedAsked g_sealed g_bad g_sold) H → va_D A (wA ad cB cI cZ cL LP today legCount legs hung warmth damp wopen tsize bytes rat rtold rwrong numbers asked ftold ffarm ffrom fwhat fon csize ctotal offered cws cwa g_number g_farm g_pig g_first g_begun g_weight g_salted g_heat g_place g_target g_feedAsked g_sealed g_bad g_sold) → va_S A s.heap H locs → lv_has ls 7 [(0, .ref (ad 18)), (1, .int v1), (2, .int v2), (3, .int v3), (4, .int v4), (5, .int v5)] → bk_C_X0_leastSet_72 csize ctotal cws cwa Q K10 v1 v2 v3 v4 v5 → W p l e (headSpec wsX0_leastSet rm_C_X0_leastSet).room s m ([.ref (ad 18), .int p0] : List Value).toArray below meth c H locs 0 0 (MQ below (pq_C_X0_leastSet dC dI ad cB cI cZ cL A LP today legCount legs hung warmth damp wopen tsize bytes rat rtold rwrong numbers asked ftold ffarm ffrom fwhat fon csize ctotal offered cws cwa g_number g_farm g_pig g_first g_begun g_weight g_salted g_heat g_place g_target g_feedAsked g_sealed g_bad g_sold Q) ([.ref (ad 18), .int p0] : List Value).toArray s 0 0 A) (F0 m 72 ls []) := by
    intro K10 hK10 v1 v2 v3 v4 v5 H locs ls hP hD hS hl h
    refine lv_iconst (v := 0) hx hb dX0_leastSet_72 (by decide) ?_
    exact hbk_C_X0_leastSet_73 K10 hK10 v1 v2 v3 v4 v5 0 _ _ _ hP hD hS (lv_sub hl [0, 1, 2, 3, 4, 5] rfl) h
  have hlp_C_X0_leastSet_10 : ∀ (n : Nat) (v1 : Int32) (v2 : Int32) (v3 : Int32) (v4 : Int32) (v5 : Int32) (H : Heap) (locs : List Loc) (ls : Array Slot), va_P (dC, dI) vwCl (wA ad cB cI cZ cL LP today legCount legs hung warmth damp wopen tsize bytes rat rtold rwrong numbers asked ftold ffarm ffrom fwhat fon csize ctotal offered cws cwa g_number g_farm g_pig g_first g_begun g_weight g_salted g_heat g_place g_target g_feedAsked g_sealed g_bad g_sold) H → va_D A (wA ad cB cI cZ cL LP today legCount legs hung warmth damp wopen tsize bytes rat rtold rwrong numbers asked ftold ffarm ffrom fwhat fon csize ctotal offered cws cwa g_number g_farm g_pig g_first g_begun g_weight g_salted g_heat g_place g_target g_feedAsked g_sealed g_bad g_sold) → va_S A s.heap H locs → lv_has ls 7 [(0, .ref (ad 18)), (1, .int v1), (2, .int v2), (3, .int v3), (4, .int v4), (5, .int v5)] → lp_C_X0_leastSet_10 csize ctotal cws cwa Q n v1 v2 v3 v4 v5 → W p l e (headSpec wsX0_leastSet rm_C_X0_leastSet).room s m ([.ref (ad 18), .int p0] : List Value).toArray below meth c H locs 0 0 (MQ below (pq_C_X0_leastSet dC dI ad cB cI cZ cL A LP today legCount legs hung warmth damp wopen tsize bytes rat rtold rwrong numbers asked ftold ffarm ffrom fwhat fon csize ctotal offered cws cwa g_number g_farm g_pig g_first g_begun g_weight g_salted g_heat g_place g_target g_feedAsked g_sealed g_bad g_sold Q) ([.ref (ad 18), .int p0] : List Value).toArray s 0 0 A) (F0 m 10 ls []) := by
    intro n
    induction n with
    | zero => intro v1 v2 v3 v4 v5 H locs ls hP hD hS hl h; exact h.elim
    | succ n ih =>
      intro v1 v2 v3 v4 v5 H locs ls hP hD hS hl h
      refine lv_iload hx hb dX0_leastSet_10 (lv_at hl 5 rfl) ?_
      refine lv_iconst (v := 1) hx hb dX0_leastSet_12 (by decide) ?_
      refine lv_aload_n hx hb dX0_leastSet_13 rfl (lv_at hl 0 rfl) ?_
      refine va_get (D := (dC, dI)) (ci := 0) (v := .int csize) (C := RX0) (T := TX0) (N := 5) hx hb hts hk_1 hown hK hP 18 wA_g18 rfl 3 (by decide) hk_0 (fun _ h9 => h9) rfl dX0_leastSet_14 ?_
      refine lv_ishl hx hb dX0_leastSet_17 ?_
      refine lv_icmp_ge (tgt := 98) hx hb dX0_leastSet_18 (by decide) (fun c_1 => ?_) (fun c_1 => ?_)
      · have h := h.1 c_1
        refine lv_iload_n hx hb dX0_leastSet_98 rfl (lv_at hl 2 rfl) ?_
        exact W.iret (v := v2) hx hb hr (fun t ht hW => ⟨⟨v2, (), rfl, h, kB_mk hP hK hD ht hW.alike⟩, hS.F ht⟩) hS.2.2 dX0_leastSet_99
      · have h := h.2 c_1
        refine lv_aload_n hx hb dX0_leastSet_21 rfl (lv_at hl 0 rfl) ?_
        refine va_get (D := (dC, dI)) (ci := 0) (v := .int ctotal) (C := RX0) (T := TX0) (N := 5) hx hb hts hk_1 hown hK hP 18 wA_g18 rfl 4 (by decide) hk_2 (fun _ h9 => h9) rfl dX0_leastSet_22 ?_
        refine lv_iload_n hx hb dX0_leastSet_25 rfl (lv_at hl 1 rfl) ?_
        refine lv_icmp_lt (tgt := 98) hx hb dX0_leastSet_26 (by decide) (fun c_2 => ?_) (fun c_2 => ?_)
        · have h := h.1 c_2
          refine lv_iload_n hx hb dX0_leastSet_98 rfl (lv_at hl 2 rfl) ?_
          exact W.iret (v := v2) hx hb hr (fun t ht hW => ⟨⟨v2, (), rfl, h, kB_mk hP hK hD ht hW.alike⟩, hS.F ht⟩) hS.2.2 dX0_leastSet_99
        · have h := h.2 c_2
          refine lv_iload hx hb dX0_leastSet_29 (lv_at hl 4 rfl) ?_
          refine lv_aload_n hx hb dX0_leastSet_31 rfl (lv_at hl 0 rfl) ?_
          refine lv_iload hx hb dX0_leastSet_32 (lv_at hl 5 rfl) ?_
          refine va_calli (va_runV (As := [.int v5]) (rest := [.int v4]) ⟨hx, hb, hml, hown, hts⟩ (c_C_X0_changeOfWeight l dC dI ad cB cI cZ cL A LP today legCount legs hung warmth damp wopen tsize bytes rat rtold rwrong numbers asked ftold ffarm ffrom fwhat fon csize ctotal offered cws cwa g_number g_farm g_pig g_first g_begun g_weight g_salted g_heat g_place g_target g_feedAsked g_sealed g_bad g_sold v5 _ h) (cwV 1 hts gX0_leastSet_X0_changeOfWeight rfl rfl rfl (by decide +kernel) ⟨(Nat.le_of_ble_eq_true rfl), (Nat.le_of_ble_eq_true rfl)⟩) ⟨kC_blind, va_recv hK hP (ci := 0) (q0 := 18) rfl wA_g18, fun U hU hW => ⟨rfl, kC_go hA hS hP hK hD hE U hU hW⟩⟩ rfl rfl hl.1 rfl (lv_room (Nat.le_of_ble_eq_true rfl)) dX0_leastSet_34 ⟨(Nat.le_of_ble_eq_true rfl), (Nat.le_of_ble_eq_true rfl)⟩) hS (fun q _ h => h) (fun q h => h) (fun r_3 u t H locs ht hvm hw hB hz1 hk1 hS => ?_)
          have h := hw
          try dsimp only at h
          have hP : va_P (dC, dI) vwCl (wA ad cB cI cZ cL LP today legCount legs hung warmth damp wopen tsize bytes rat rtold rwrong numbers asked ftold ffarm ffrom fwhat fon csize ctotal offered cws cwa g_number g_farm g_pig g_first g_begun g_weight g_salted g_heat g_place g_target g_feedAsked g_sealed g_bad g_sold) H := by rw [← ht]; exact hB.1
          have hD : va_D A (wA ad cB cI cZ cL LP today legCount legs hung warmth damp wopen tsize bytes rat rtold rwrong numbers asked ftold ffarm ffrom fwhat fon csize ctotal offered cws cwa g_number g_farm g_pig g_first g_begun g_weight g_salted g_heat g_place g_target g_feedAsked g_sealed g_bad g_sold) := hB.2.2
          refine lv_iadd hx hb dX0_leastSet_37 ?_
          refine lv_istore (lv' := [(4, .int (v4 + r_3)), (0, .ref (ad 18)), (1, .int v1), (2, .int v2), (3, .int v3), (5, .int v5)]) hx hb dX0_leastSet_38 hl (by decide) rfl (fun ls hl => ?_)
          refine lv_iload_n hx hb dX0_leastSet_40 rfl (lv_at hl 3 rfl) ?_
          refine lv_if_eq (tgt := 68) hx hb dX0_leastSet_41 (by decide) (fun c_4 => ?_) (fun c_4 => ?_)
          · have h := h.1 c_4
            exact hbk_C_X0_leastSet_68 (lp_C_X0_leastSet_10 csize ctotal cws cwa Q n) ih v1 v2 v3 (v4 + r_3) v5 _ _ _ hP hD hS (lv_sub hl [1, 2, 3, 4, 0, 5] rfl) h
          · have h := h.2 c_4
            refine lv_iload hx hb dX0_leastSet_44 (lv_at hl 0 rfl) ?_
            refine lv_iload_n hx hb dX0_leastSet_46 rfl (lv_at hl 4 rfl) ?_
            refine lv_icmp_lt (tgt := 68) hx hb dX0_leastSet_47 (by decide) (fun c_7 => ?_) (fun c_7 => ?_)
            · have h := h.1 c_7
              exact hbk_C_X0_leastSet_68 (lp_C_X0_leastSet_10 csize ctotal cws cwa Q n) ih v1 v2 v3 (v4 + r_3) v5 _ _ _ hP hD hS (lv_sub hl [1, 2, 3, 4, 0, 5] rfl) h
            · have h := h.2 c_7
              refine lv_iload hx hb dX0_leastSet_50 (lv_at hl 0 rfl) ?_
              refine lv_iload_n hx hb dX0_leastSet_52 rfl (lv_at hl 4 rfl) ?_
              refine lv_icmp_ne (tgt := 72) hx hb dX0_leastSet_53 (by decide) (fun c_8 => ?_) (fun c_8 => ?_)
              · have h := h.1 c_8
                exact hbk_C_X0_leastSet_72 (lp_C_X0_leastSet_10 csize ctotal cws cwa Q n) ih v1 v2 v3 (v4 + r_3) v5 _ _ _ hP hD hS (lv_sub hl [1, 2, 3, 4, 0, 5] rfl) h
              · have h := h.2 c_8
                refine lv_iload hx hb dX0_leastSet_56 (lv_at hl 5 rfl) ?_
                refine va_calli (va_runS (As := [.int v5]) (rest := []) ⟨hx, hb, hml, hown, hts⟩ (c_C_J6_bitCount_0f7a4 l dC dI ad cB cI cZ cL A LP today legCount legs hung warmth damp wopen tsize bytes rat rtold rwrong numbers asked ftold ffarm ffrom fwhat fon csize ctotal offered cws cwa g_number g_farm g_pig g_first g_begun g_weight g_salted g_heat g_place g_target g_feedAsked g_sealed g_bad g_sold v5 _ h) (va_cwS 1 hts gX0_leastSet_J6_bitCount_0f7a4 rfl rfl rfl (by decide +kernel) ⟨(Nat.le_of_ble_eq_true rfl), (Nat.le_of_ble_eq_true rfl)⟩) ⟨kC_blind, fun U hU hW => ⟨rfl, kC_go hA hS hP hK hD hE U hU hW⟩⟩ rfl rfl hl.1 rfl (lv_room (Nat.le_of_ble_eq_true rfl)) dX0_leastSet_58 ⟨(Nat.le_of_ble_eq_true rfl), (Nat.le_of_ble_eq_true rfl)⟩) hS (fun q _ h => h) (fun q h => h) (fun r_9 u t H locs ht hvm hw hB hz1 hk1 hS => ?_)
                have h := hw
                try dsimp only at h
                have hP : va_P (dC, dI) vwCl (wA ad cB cI cZ cL LP today legCount legs hung warmth damp wopen tsize bytes rat rtold rwrong numbers asked ftold ffarm ffrom fwhat fon csize ctotal offered cws cwa g_number g_farm g_pig g_first g_begun g_weight g_salted g_heat g_place g_target g_feedAsked g_sealed g_bad g_sold) H := by rw [← ht]; exact hB.1
                have hD : va_D A (wA ad cB cI cZ cL LP today legCount legs hung warmth damp wopen tsize bytes rat rtold rwrong numbers asked ftold ffarm ffrom fwhat fon csize ctotal offered cws cwa g_number g_farm g_pig g_first g_begun g_weight g_salted g_heat g_place g_target g_feedAsked g_sealed g_bad g_sold) := hB.2.2
                refine lv_iload_n hx hb dX0_leastSet_61 rfl (lv_at hl 3 rfl) ?_
                refine va_calli (va_runS (As := [.int v2]) (rest := [.int r_9]) ⟨hx, hb, hml, hown, hts⟩ (c_C_J6_bitCount_0f7a4 l dC dI ad cB cI cZ cL A LP today legCount legs hung warmth damp wopen tsize bytes rat rtold rwrong numbers asked ftold ffarm ffrom fwhat fon csize ctotal offered cws cwa g_number g_farm g_pig g_first g_begun g_weight g_salted g_heat g_place g_target g_feedAsked g_sealed g_bad g_sold v2 _ h) (va_cwS 1 hts gX0_leastSet_J6_bitCount_0f7a4 rfl rfl rfl (by decide +kernel) ⟨(Nat.le_of_ble_eq_true rfl), (Nat.le_of_ble_eq_true rfl)⟩) ⟨kC_blind, fun U hU hW => ⟨rfl, kC_go hA hS hP hK hD hE U hU hW⟩⟩ rfl rfl hl.1 rfl (lv_room (Nat.le_of_ble_eq_true rfl)) dX0_leastSet_62 ⟨(Nat.le_of_ble_eq_true rfl), (Nat.le_of_ble_eq_true rfl)⟩) hS (fun q _ h => h) (fun q h => h) (fun r_10 u t H locs ht hvm hw hB hz1 hk1 hS => ?_)
                have h := hw
                try dsimp only at h
                have hP : va_P (dC, dI) vwCl (wA ad cB cI cZ cL LP today legCount legs hung warmth damp wopen tsize bytes rat rtold rwrong numbers asked ftold ffarm ffrom fwhat fon csize ctotal offered cws cwa g_number g_farm g_pig g_first g_begun g_weight g_salted g_heat g_place g_target g_feedAsked g_sealed g_bad g_sold) H := by rw [← ht]; exact hB.1
                have hD : va_D A (wA ad cB cI cZ cL LP today legCount legs hung warmth damp wopen tsize bytes rat rtold rwrong numbers asked ftold ffarm ffrom fwhat fon csize ctotal offered cws cwa g_number g_farm g_pig g_first g_begun g_weight g_salted g_heat g_place g_target g_feedAsked g_sealed g_bad g_sold) := hB.2.2
                refine lv_icmp_ge (tgt := 72) hx hb dX0_leastSet_65 (by decide) (fun c_11 => ?_) (fun c_11 => ?_)
                · have h := h.1 c_11
                  exact hbk_C_X0_leastSet_72 (lp_C_X0_leastSet_10 csize ctotal cws cwa Q n) ih v1 v2 v3 (v4 + r_3) v5 _ _ _ hP hD hS (lv_sub hl [1, 2, 3, 4, 0, 5] rfl) h
                · have h := h.2 c_11
                  exact hbk_C_X0_leastSet_68 (lp_C_X0_leastSet_10 csize ctotal cws cwa Q n) ih v1 v2 v3 (v4 + r_3) v5 _ _ _ hP hD hS (lv_sub hl [1, 2, 3, 4, 0, 5] rfl) h
  have hl := lv_entry ([.ref (ad 18), .int p0]) (n := 7) (Nat.le_of_ble_eq_true rfl)
  rw [lg_entry_eq]
  generalize (lg_sl ([.ref (ad 18), .int p0]) ++ List.replicate (7 - (lg_sl ([.ref (ad 18), .int p0])).length) Slot.unset).toArray = ls at hl ⊢
  have hl : lv_has ls 7 [(0, .ref (ad 18)), (1, .int p0)] := hl
  unfold wp_C_X0_leastSet at h
  refine lv_iconst (v := 0) hx hb dX0_leastSet_0 (by decide) ?_
  refine lv_istore_n (lv' := [(2, .int 0), (0, .ref (ad 18)), (1, .int p0)]) hx hb dX0_leastSet_1 rfl hl (by decide) rfl (fun ls hl => ?_)
  refine lv_iconst (v := 0) hx hb dX0_leastSet_2 (by decide) ?_
  refine lv_istore_n (lv' := [(3, .int 0), (2, .int 0), (0, .ref (ad 18)), (1, .int p0)]) hx hb dX0_leastSet_3 rfl hl (by decide) rfl (fun ls hl => ?_)
  refine lv_iconst (v := 0) hx hb dX0_leastSet_4 (by decide) ?_
  refine lv_istore (lv' := [(4, .int 0), (3, .int 0), (2, .int 0), (0, .ref (ad 18)), (1, .int p0)]) hx hb dX0_leastSet_5 hl (by decide) rfl (fun ls hl => ?_)
  refine lv_iconst (v := 1) hx hb dX0_leastSet_7 (by decide) ?_
  refine lv_istore (lv' := [(5, .int 1), (4, .int 0), (3, .int 0), (2, .int 0), (0, .ref (ad 18)), (1, .int p0)]) hx hb dX0_leastSet_8 hl (by decide) rfl (fun ls hl => ?_)
  obtain ⟨n_12, h⟩ := h
  exact hlp_C_X0_leastSet_10 n_12 p0 0 0 0 1 _ _ _ hP hD hS (lv_sub hl [4, 5, 3, 2, 1, 0] rfl) h
