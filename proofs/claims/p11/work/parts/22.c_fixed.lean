def wp_C_X1_write (Q : Int32 → Int32 → (Nat → Int32) → (Nat → Int32) → (Nat → Int32) → (Nat → Int32) → Prop) (ftold : Int32) (ffarm : Nat → Int32) (ffrom : Nat → Int32) (fwhat : Nat → Int32) (fon : Nat → Int32) (p0 : Int32) (p1 : Int32) (p2 : Int32) (p3 : Int32) : Prop := ((ftold < 0 → (o01 0 ∧ Q 0 ftold ffarm ffrom fwhat fon)) ∧ (¬ (ftold < 0) → ((ftold < 60 → (vp_in ftold 60 ∧ (vp_in ftold 60 ∧ (vp_in ftold 60 ∧ (vp_in ftold 60 ∧ (o01 1 ∧ Q 1 (ftold + 1) (upd ffarm ftold.toNatClampNeg p0) (upd ffrom ftold.toNatClampNeg p1) (upd fwhat ftold.toNatClampNeg p2) (upd fon ftold.toNatClampNeg p3))))))) ∧ (¬ (ftold < 60) → (o01 0 ∧ Q 0 ftold ffarm ffrom fwhat fon)))))
def rm_C_X1_write : Room := { frames := 0, cells := 0, slots := 0, locals := 0 }
abbrev pq_C_X1_write (dC : Nat → ClassId) (dI : Nat → Nat → Nat) (ad : Nat → Nat) (cB cI cZ cL : ClassId) (A : Nat → Prop) (LP : List Nat) (today legCount : Int32) (legs hung : Nat → Option Nat) (warmth damp wopen : Nat → Int32) (tsize : Int32) (bytes : Nat → Int32) (rat rtold rwrong : Int32) (numbers asked : Nat → Int32) (ftold : Int32) (ffarm ffrom fwhat fon : Nat → Int32) (csize ctotal : Int32) (offered : Nat → Option Nat) (cws cwa g_number g_farm g_pig g_first g_begun g_weight g_salted g_heat g_place g_target g_feedAsked g_sealed g_bad g_sold : Nat → Int32) (Q : Int32 → Int32 → (Nat → Int32) → (Nat → Int32) → (Nat → Int32) → (Nat → Int32) → Prop) : Array Value → State → Outcome → State → Prop := va_Qi (fun (r : Int32) (u : Int32 × (Nat → Int32) × (Nat → Int32) × (Nat → Int32) × (Nat → Int32)) => Q r u.1 u.2.1 u.2.2.1 u.2.2.2.1 u.2.2.2.2) (fun u t => kB dC dI A (wA ad cB cI cZ cL LP today legCount legs hung warmth damp wopen tsize bytes rat rtold rwrong numbers asked u.1 u.2.1 u.2.2.1 u.2.2.2.1 u.2.2.2.2 csize ctotal offered cws cwa g_number g_farm g_pig g_first g_begun g_weight g_salted g_heat g_place g_target g_feedAsked g_sealed g_bad g_sold) (kTy cB cI cZ cL) t) A
set_option maxHeartbeats 4000000 in
set_option maxRecDepth 100000 in
theorem c_C_X1_write (l : Launch) (dC : Nat → ClassId) (dI : Nat → Nat → Nat) (ad : Nat → Nat) (cB cI cZ cL : ClassId) (A : Nat → Prop) (LP : List Nat) (today legCount : Int32) (legs hung : Nat → Option Nat) (warmth damp wopen : Nat → Int32) (tsize : Int32) (bytes : Nat → Int32) (rat rtold rwrong : Int32) (numbers asked : Nat → Int32) (ftold : Int32) (ffarm ffrom fwhat fon : Nat → Int32) (csize ctotal : Int32) (offered : Nat → Option Nat) (cws cwa g_number g_farm g_pig g_first g_begun g_weight g_salted g_heat g_place g_target g_feedAsked g_sealed g_bad g_sold : Nat → Int32) (p0 : Int32) (p1 : Int32) (p2 : Int32) (p3 : Int32)  (Q : Int32 → Int32 → (Nat → Int32) → (Nat → Int32) → (Nat → Int32) → (Nat → Int32) → Prop) (h : wp_C_X1_write Q ftold ffarm ffrom fwhat fon p0 p1 p2 p3) : Met l yX1_write wsX1_write rm_C_X1_write (va_Pc [.ref (ad 13), .int p0, .int p1, .int p2, .int p3] (kC dC dI ad A (wA ad cB cI cZ cL LP today legCount legs hung warmth damp wopen tsize bytes rat rtold rwrong numbers asked ftold ffarm ffrom fwhat fon csize ctotal offered cws cwa g_number g_farm g_pig g_first g_begun g_weight g_salted g_heat g_place g_target g_feedAsked g_sealed g_bad g_sold) (kTy cB cI cZ cL))) (pq_C_X1_write dC dI ad cB cI cZ cL A LP today legCount legs hung warmth damp wopen tsize bytes rat rtold rwrong numbers asked ftold ffarm ffrom fwhat fon csize ctotal offered cws cwa g_number g_farm g_pig g_first g_begun g_weight g_salted g_heat g_place g_target g_feedAsked g_sealed g_bad g_sold Q) 0 0 A := by
  refine Met.ofW (cc := cX1_write) (maxL := 5) (ret := (some .boolean)) (by decide) rfl ?_
  intro p e s m args below meth c s₁ B hml hv
  obtain ⟨rfl, hA, hP, hK, hD, hE⟩ := hv
  have hx := B.exec
  have hb := B.bytes
  have hr := B.returns
  have hts := atoms_spec (ws := wsX1_write) B.pre
  have hown : s.vm.findClass RX1 = some m.cls := findClass_of_methodNamed B.named
  have hlocks := B.notSynchronized
  have hS : va_S A s.heap s.heap [] := va_S.rf
  have hk_0 := hts (.fieldLink RX1 24 "HamCellar$FeedBook" "told" "I") (by decide +kernel)
  have hk_1 : ∀ w ∈ wsX10, w ∈ wsX1_write := by decide +kernel
  have hk_2 := hts (.fieldLink RX1 9 "HamCellar$FeedBook" "farms" "[I") (by decide +kernel)
  have hk_3 := hts (.fieldLink RX1 15 "HamCellar$FeedBook" "froms" "[I") (by decide +kernel)
  have hk_4 := hts (.fieldLink RX1 18 "HamCellar$FeedBook" "whats" "[I") (by decide +kernel)
  have hk_5 := hts (.fieldLink RX1 21 "HamCellar$FeedBook" "toldOn" "[I") (by decide +kernel)
  have hl := lv_entry ([.ref (ad 13), .int p0, .int p1, .int p2, .int p3]) (n := 5) (Nat.le_of_ble_eq_true rfl)
  rw [lg_entry_eq]
  generalize (lg_sl ([.ref (ad 13), .int p0, .int p1, .int p2, .int p3]) ++ List.replicate (5 - (lg_sl ([.ref (ad 13), .int p0, .int p1, .int p2, .int p3])).length) Slot.unset).toArray = ls at hl ⊢
  have hl : lv_has ls 5 [(0, .ref (ad 13)), (1, .int p0), (2, .int p1), (3, .int p2), (4, .int p3)] := hl
  unfold wp_C_X1_write at h
  refine lv_aload_n hx hb dX1_write_0 rfl (lv_at hl 0 rfl) ?_
  refine va_get (D := (dC, dI)) (ci := 1) (v := .int ftold) (C := RX1) (T := TX1) (N := 5) hx hb hts hk_1 hown hK hP 13 wA_g13 rfl 4 (by decide) hk_0 (fun _ h9 => h9) rfl dX1_write_1 ?_
  refine lv_if_lt (tgt := 16) hx hb dX1_write_4 (by decide) (fun c_1 => ?_) (fun c_1 => ?_)
  · have h := h.1 c_1
    refine lv_iconst (v := 0) hx hb dX1_write_16 (by decide) ?_
    exact W.zret (v := 0) (ty := .boolean) hx hb hr (z01 h.1) (fun t ht hW => ⟨⟨0, (ftold, ffarm, ffrom, fwhat, fon), rfl, h.2, kB_mk hP hK hD ht hW.alike⟩, hS.F ht⟩) hS.2.2 dX1_write_17
  · have h := h.2 c_1
    refine lv_aload_n hx hb dX1_write_7 rfl (lv_at hl 0 rfl) ?_
    refine va_get (D := (dC, dI)) (ci := 1) (v := .int ftold) (C := RX1) (T := TX1) (N := 5) hx hb hts hk_1 hown hK hP 13 wA_g13 rfl 4 (by decide) hk_0 (fun _ h9 => h9) rfl dX1_write_8 ?_
    refine lv_bipush (v := 60) hx hb dX1_write_11 (by decide) ?_
    refine lv_icmp_lt (tgt := 18) hx hb dX1_write_13 (by decide) (fun c_2 => ?_) (fun c_2 => ?_)
    · have h := h.1 c_2
      refine lv_aload_n hx hb dX1_write_18 rfl (lv_at hl 0 rfl) ?_
      refine va_get (D := (dC, dI)) (ci := 1) (v := .ref (ad 14)) (C := RX1) (T := TX1) (N := 5) hx hb hts hk_1 hown hK hP 13 wA_g13 rfl 0 (by decide) hk_2 (fun _ h9 => h9) rfl dX1_write_19 ?_
      refine lv_aload_n hx hb dX1_write_22 rfl (lv_at hl 0 rfl) ?_
      refine va_get (D := (dC, dI)) (ci := 1) (v := .int ftold) (C := RX1) (T := TX1) (N := 5) hx hb hts hk_1 hown hK hP 13 wA_g13 rfl 4 (by decide) hk_0 (fun _ h9 => h9) rfl dX1_write_23 ?_
      refine lv_iload_n hx hb dX1_write_26 rfl (lv_at hl 1 rfl) ?_
      have hi_3 := h.1
      have h := h.2
      refine va_iast hx hb hK hP hD hS 14 1 wA_g14 rfl hi_3 dX1_write_27 (fun H locs hP2 hD2 hS => ?_)
      have hP : va_P (dC, dI) vwCl (wA ad cB cI cZ cL LP today legCount legs hung warmth damp wopen tsize bytes rat rtold rwrong numbers asked ftold (upd ffarm ftold.toNatClampNeg p0) ffrom fwhat fon csize ctotal offered cws cwa g_number g_farm g_pig g_first g_begun g_weight g_salted g_heat g_place g_target g_feedAsked g_sealed g_bad g_sold) H := hP_eq (wA_p_ffarm) hP2
      have hD : va_D A (wA ad cB cI cZ cL LP today legCount legs hung warmth damp wopen tsize bytes rat rtold rwrong numbers asked ftold (upd ffarm ftold.toNatClampNeg p0) ffrom fwhat fon csize ctotal offered cws cwa g_number g_farm g_pig g_first g_begun g_weight g_salted g_heat g_place g_target g_feedAsked g_sealed g_bad g_sold) := hD_eq (wA_p_ffarm) hD2
      refine lv_aload_n hx hb dX1_write_28 rfl (lv_at hl 0 rfl) ?_
      refine va_get (D := (dC, dI)) (ci := 1) (v := .ref (ad 15)) (C := RX1) (T := TX1) (N := 5) hx hb hts hk_1 hown hK hP 13 wA_g13 rfl 1 (by decide) hk_3 (fun _ h9 => h9) rfl dX1_write_29 ?_
      refine lv_aload_n hx hb dX1_write_32 rfl (lv_at hl 0 rfl) ?_
      refine va_get (D := (dC, dI)) (ci := 1) (v := .int ftold) (C := RX1) (T := TX1) (N := 5) hx hb hts hk_1 hown hK hP 13 wA_g13 rfl 4 (by decide) hk_0 (fun _ h9 => h9) rfl dX1_write_33 ?_
      refine lv_iload_n hx hb dX1_write_36 rfl (lv_at hl 2 rfl) ?_
      have hi_4 := h.1
      have h := h.2
      refine va_iast hx hb hK hP hD hS 15 1 wA_g15 rfl hi_4 dX1_write_37 (fun H locs hP2 hD2 hS => ?_)
      have hP : va_P (dC, dI) vwCl (wA ad cB cI cZ cL LP today legCount legs hung warmth damp wopen tsize bytes rat rtold rwrong numbers asked ftold (upd ffarm ftold.toNatClampNeg p0) (upd ffrom ftold.toNatClampNeg p1) fwhat fon csize ctotal offered cws cwa g_number g_farm g_pig g_first g_begun g_weight g_salted g_heat g_place g_target g_feedAsked g_sealed g_bad g_sold) H := hP_eq (wA_p_ffrom) hP2
      have hD : va_D A (wA ad cB cI cZ cL LP today legCount legs hung warmth damp wopen tsize bytes rat rtold rwrong numbers asked ftold (upd ffarm ftold.toNatClampNeg p0) (upd ffrom ftold.toNatClampNeg p1) fwhat fon csize ctotal offered cws cwa g_number g_farm g_pig g_first g_begun g_weight g_salted g_heat g_place g_target g_feedAsked g_sealed g_bad g_sold) := hD_eq (wA_p_ffrom) hD2
      refine lv_aload_n hx hb dX1_write_38 rfl (lv_at hl 0 rfl) ?_
      refine va_get (D := (dC, dI)) (ci := 1) (v := .ref (ad 16)) (C := RX1) (T := TX1) (N := 5) hx hb hts hk_1 hown hK hP 13 wA_g13 rfl 2 (by decide) hk_4 (fun _ h9 => h9) rfl dX1_write_39 ?_
      refine lv_aload_n hx hb dX1_write_42 rfl (lv_at hl 0 rfl) ?_
      refine va_get (D := (dC, dI)) (ci := 1) (v := .int ftold) (C := RX1) (T := TX1) (N := 5) hx hb hts hk_1 hown hK hP 13 wA_g13 rfl 4 (by decide) hk_0 (fun _ h9 => h9) rfl dX1_write_43 ?_
      refine lv_iload_n hx hb dX1_write_46 rfl (lv_at hl 3 rfl) ?_
      have hi_5 := h.1
      have h := h.2
      refine va_iast hx hb hK hP hD hS 16 1 wA_g16 rfl hi_5 dX1_write_47 (fun H locs hP2 hD2 hS => ?_)
      have hP : va_P (dC, dI) vwCl (wA ad cB cI cZ cL LP today legCount legs hung warmth damp wopen tsize bytes rat rtold rwrong numbers asked ftold (upd ffarm ftold.toNatClampNeg p0) (upd ffrom ftold.toNatClampNeg p1) (upd fwhat ftold.toNatClampNeg p2) fon csize ctotal offered cws cwa g_number g_farm g_pig g_first g_begun g_weight g_salted g_heat g_place g_target g_feedAsked g_sealed g_bad g_sold) H := hP_eq (wA_p_fwhat) hP2
      have hD : va_D A (wA ad cB cI cZ cL LP today legCount legs hung warmth damp wopen tsize bytes rat rtold rwrong numbers asked ftold (upd ffarm ftold.toNatClampNeg p0) (upd ffrom ftold.toNatClampNeg p1) (upd fwhat ftold.toNatClampNeg p2) fon csize ctotal offered cws cwa g_number g_farm g_pig g_first g_begun g_weight g_salted g_heat g_place g_target g_feedAsked g_sealed g_bad g_sold) := hD_eq (wA_p_fwhat) hD2
      refine lv_aload_n hx hb dX1_write_48 rfl (lv_at hl 0 rfl) ?_
      refine va_get (D := (dC, dI)) (ci := 1) (v := .ref (ad 17)) (C := RX1) (T := TX1) (N := 5) hx hb hts hk_1 hown hK hP 13 wA_g13 rfl 3 (by decide) hk_5 (fun _ h9 => h9) rfl dX1_write_49 ?_
      refine lv_aload_n hx hb dX1_write_52 rfl (lv_at hl 0 rfl) ?_
      refine va_get (D := (dC, dI)) (ci := 1) (v := .int ftold) (C := RX1) (T := TX1) (N := 5) hx hb hts hk_1 hown hK hP 13 wA_g13 rfl 4 (by decide) hk_0 (fun _ h9 => h9) rfl dX1_write_53 ?_
      refine lv_iload hx hb dX1_write_56 (lv_at hl 4 rfl) ?_
      have hi_6 := h.1
      have h := h.2
      refine va_iast hx hb hK hP hD hS 17 1 wA_g17 rfl hi_6 dX1_write_58 (fun H locs hP2 hD2 hS => ?_)
      have hP : va_P (dC, dI) vwCl (wA ad cB cI cZ cL LP today legCount legs hung warmth damp wopen tsize bytes rat rtold rwrong numbers asked ftold (upd ffarm ftold.toNatClampNeg p0) (upd ffrom ftold.toNatClampNeg p1) (upd fwhat ftold.toNatClampNeg p2) (upd fon ftold.toNatClampNeg p3) csize ctotal offered cws cwa g_number g_farm g_pig g_first g_begun g_weight g_salted g_heat g_place g_target g_feedAsked g_sealed g_bad g_sold) H := hP_eq (wA_p_fon) hP2
      have hD : va_D A (wA ad cB cI cZ cL LP today legCount legs hung warmth damp wopen tsize bytes rat rtold rwrong numbers asked ftold (upd ffarm ftold.toNatClampNeg p0) (upd ffrom ftold.toNatClampNeg p1) (upd fwhat ftold.toNatClampNeg p2) (upd fon ftold.toNatClampNeg p3) csize ctotal offered cws cwa g_number g_farm g_pig g_first g_begun g_weight g_salted g_heat g_place g_target g_feedAsked g_sealed g_bad g_sold) := hD_eq (wA_p_fon) hD2
      refine lv_aload_n hx hb dX1_write_59 rfl (lv_at hl 0 rfl) ?_
      refine lv_dup hx hb dX1_write_60 rfl ?_
      refine va_get (D := (dC, dI)) (ci := 1) (v := .int ftold) (C := RX1) (T := TX1) (N := 5) hx hb hts hk_1 hown hK hP 13 wA_g13 rfl 4 (by decide) hk_0 (fun _ h9 => h9) rfl dX1_write_61 ?_
      refine lv_iconst (v := 1) hx hb dX1_write_64 (by decide) ?_
      refine lv_iadd hx hb dX1_write_65 ?_
      refine va_put (D := (dC, dI)) (ci := 1) (v := .int (ftold + 1)) (ty := .int) (C := RX1) (T := TX1) (N := 5) hx hb hts hk_1 tyX1 tyX1_ok nmX1 hown hK hP hD hS 13 wA_g13 rfl 4 (by decide) hk_0 (fun _ h9 => h9) rfl (by decide +kernel) rfl rfl (Nat.le_of_ble_eq_true rfl) dX1_write_66 (fun H locs hP2 hD2 hS => ?_)
      have hP : va_P (dC, dI) vwCl (wA ad cB cI cZ cL LP today legCount legs hung warmth damp wopen tsize bytes rat rtold rwrong numbers asked (ftold + 1) (upd ffarm ftold.toNatClampNeg p0) (upd ffrom ftold.toNatClampNeg p1) (upd fwhat ftold.toNatClampNeg p2) (upd fon ftold.toNatClampNeg p3) csize ctotal offered cws cwa g_number g_farm g_pig g_first g_begun g_weight g_salted g_heat g_place g_target g_feedAsked g_sealed g_bad g_sold) H := hP_eq (wA_p_ftold) hP2
      have hD : va_D A (wA ad cB cI cZ cL LP today legCount legs hung warmth damp wopen tsize bytes rat rtold rwrong numbers asked (ftold + 1) (upd ffarm ftold.toNatClampNeg p0) (upd ffrom ftold.toNatClampNeg p1) (upd fwhat ftold.toNatClampNeg p2) (upd fon ftold.toNatClampNeg p3) csize ctotal offered cws cwa g_number g_farm g_pig g_first g_begun g_weight g_salted g_heat g_place g_target g_feedAsked g_sealed g_bad g_sold) := hD_eq (wA_p_ftold) hD2
      refine lv_iconst (v := 1) hx hb dX1_write_69 (by decide) ?_
      exact W.zret (v := 1) (ty := .boolean) hx hb hr (z01 h.1) (fun t ht hW => ⟨⟨1, (ftold + 1, upd ffarm ftold.toNatClampNeg p0, upd ffrom ftold.toNatClampNeg p1, upd fwhat ftold.toNatClampNeg p2, upd fon ftold.toNatClampNeg p3), rfl, h.2, kB_mk hP hK hD ht hW.alike⟩, hS.F ht⟩) hS.2.2 dX1_write_70
    · have h := h.2 c_2
      refine lv_iconst (v := 0) hx hb dX1_write_16 (by decide) ?_
      exact W.zret (v := 0) (ty := .boolean) hx hb hr (z01 h.1) (fun t ht hW => ⟨⟨0, (ftold, ffarm, ffrom, fwhat, fon), rfl, h.2, kB_mk hP hK hD ht hW.alike⟩, hS.F ht⟩) hS.2.2 dX1_write_17
def bk_C_X1_find_100 (ftold : Int32) (ffarm : Nat → Int32) (ffrom : Nat → Int32) (fwhat : Nat → Int32) (fon : Nat → Int32)  (Q : Int32 → Prop) (K9 : Int32 → Int32 → Int32 → Int32 → Int32 → Int32 → Prop) (v1 : Int32) (v2 : Int32) (v3 : Int32) (v4 : Int32) (v5 : Int32) (v6 : Int32) : Prop := K9 v1 v2 v3 v4 v5 (v6 + 1)
def bk_C_X1_find_63 (ftold : Int32) (ffarm : Nat → Int32) (ffrom : Nat → Int32) (fwhat : Nat → Int32) (fon : Nat → Int32)  (Q : Int32 → Prop) (K9 : Int32 → Int32 → Int32 → Int32 → Int32 → Int32 → Prop) (v1 : Int32) (v2 : Int32) (v3 : Int32) (v4 : Int32) (v5 : Int32) (v6 : Int32) (k0 : Int32) : Prop := ((k0 = 0 → bk_C_X1_find_100 ftold ffarm ffrom fwhat fon Q K9 v1 v2 v3 v4 v5 v6) ∧ (¬ (k0 = 0) → (vp_in v6 60 ∧ (((ffrom v6.toNatClampNeg) < v4 → bk_C_X1_find_100 ftold ffarm ffrom fwhat fon Q K9 v1 v2 v3 v4 v5 v6) ∧ (¬ ((ffrom v6.toNatClampNeg) < v4) → (vp_in v6 60 ∧ (vp_in v6 60 ∧ bk_C_X1_find_100 ftold ffarm ffrom fwhat fon Q K9 v1 v2 v3 (ffrom v6.toNatClampNeg) (fwhat v6.toNatClampNeg) v6)))))))
def bk_C_X1_find_62 (ftold : Int32) (ffarm : Nat → Int32) (ffrom : Nat → Int32) (fwhat : Nat → Int32) (fon : Nat → Int32)  (Q : Int32 → Prop) (K9 : Int32 → Int32 → Int32 → Int32 → Int32 → Int32 → Prop) (v1 : Int32) (v2 : Int32) (v3 : Int32) (v4 : Int32) (v5 : Int32) (v6 : Int32) : Prop := bk_C_X1_find_63 ftold ffarm ffrom fwhat fon Q K9 v1 v2 v3 v4 v5 v6 0
def lp_C_X1_find_9 (ftold : Int32) (ffarm : Nat → Int32) (ffrom : Nat → Int32) (fwhat : Nat → Int32) (fon : Nat → Int32)  (Q : Int32 → Prop) : Nat → Int32 → Int32 → Int32 → Int32 → Int32 → Int32 → Prop
  | 0 => fun _ _ _ _ _ _ => False
  | n + 1 => fun v1 v2 v3 v4 v5 v6 => ((ftold ≤ v6 → Q v5) ∧ (¬ (ftold ≤ v6) → ((60 ≤ v6 → Q v5) ∧ (¬ (60 ≤ v6) → (vp_in v6 60 ∧ ((¬ (ffarm v6.toNatClampNeg) = v1 → bk_C_X1_find_62 ftold ffarm ffrom fwhat fon Q (lp_C_X1_find_9 ftold ffarm ffrom fwhat fon Q n) v1 v2 v3 v4 v5 v6) ∧ ((ffarm v6.toNatClampNeg) = v1 → (vp_in v6 60 ∧ ((v3 < (fon v6.toNatClampNeg) → bk_C_X1_find_62 ftold ffarm ffrom fwhat fon Q (lp_C_X1_find_9 ftold ffarm ffrom fwhat fon Q n) v1 v2 v3 v4 v5 v6) ∧ (¬ (v3 < (fon v6.toNatClampNeg)) → (vp_in v6 60 ∧ ((v2 < (ffrom v6.toNatClampNeg) → bk_C_X1_find_62 ftold ffarm ffrom fwhat fon Q (lp_C_X1_find_9 ftold ffarm ffrom fwhat fon Q n) v1 v2 v3 v4 v5 v6) ∧ (¬ (v2 < (ffrom v6.toNatClampNeg)) → bk_C_X1_find_63 ftold ffarm ffrom fwhat fon Q (lp_C_X1_find_9 ftold ffarm ffrom fwhat fon Q n) v1 v2 v3 v4 v5 v6 1)))))))))))))
def wp_C_X1_find (ftold : Int32) (ffarm : Nat → Int32) (ffrom : Nat → Int32) (fwhat : Nat → Int32) (fon : Nat → Int32) (Q : Int32 → Prop) (p0 : Int32) (p1 : Int32) (p2 : Int32) : Prop := (∃ n_14, lp_C_X1_find_9 ftold ffarm ffrom fwhat fon Q n_14 p0 p1 p2 0 0 0)
def rm_C_X1_find : Room := { frames := 0, cells := 0, slots := 0, locals := 0 }
abbrev pq_C_X1_find (dC : Nat → ClassId) (dI : Nat → Nat → Nat) (ad : Nat → Nat) (cB cI cZ cL : ClassId) (A : Nat → Prop) (LP : List Nat) (today legCount : Int32) (legs hung : Nat → Option Nat) (warmth damp wopen : Nat → Int32) (tsize : Int32) (bytes : Nat → Int32) (rat rtold rwrong : Int32) (numbers asked : Nat → Int32) (ftold : Int32) (ffarm ffrom fwhat fon : Nat → Int32) (csize ctotal : Int32) (offered : Nat → Option Nat) (cws cwa g_number g_farm g_pig g_first g_begun g_weight g_salted g_heat g_place g_target g_feedAsked g_sealed g_bad g_sold : Nat → Int32) (Q : Int32 → Prop) : Array Value → State → Outcome → State → Prop := va_Qi (fun (r : Int32) (u : Unit) => Q r ) (fun u t => kB dC dI A (wA ad cB cI cZ cL LP today legCount legs hung warmth damp wopen tsize bytes rat rtold rwrong numbers asked ftold ffarm ffrom fwhat fon csize ctotal offered cws cwa g_number g_farm g_pig g_first g_begun g_weight g_salted g_heat g_place g_target g_feedAsked g_sealed g_bad g_sold) (kTy cB cI cZ cL) t) A
set_option maxHeartbeats 4000000 in
set_option maxRecDepth 100000 in
theorem c_C_X1_find (l : Launch) (dC : Nat → ClassId) (dI : Nat → Nat → Nat) (ad : Nat → Nat) (cB cI cZ cL : ClassId) (A : Nat → Prop) (LP : List Nat) (today legCount : Int32) (legs hung : Nat → Option Nat) (warmth damp wopen : Nat → Int32) (tsize : Int32) (bytes : Nat → Int32) (rat rtold rwrong : Int32) (numbers asked : Nat → Int32) (ftold : Int32) (ffarm ffrom fwhat fon : Nat → Int32) (csize ctotal : Int32) (offered : Nat → Option Nat) (cws cwa g_number g_farm g_pig g_first g_begun g_weight g_salted g_heat g_place g_target g_feedAsked g_sealed g_bad g_sold : Nat → Int32) (p0 : Int32) (p1 : Int32) (p2 : Int32)  (Q : Int32 → Prop) (h : wp_C_X1_find ftold ffarm ffrom fwhat fon Q p0 p1 p2) : Met l yX1_find wsX1_find rm_C_X1_find (va_Pc [.ref (ad 13), .int p0, .int p1, .int p2] (kC dC dI ad A (wA ad cB cI cZ cL LP today legCount legs hung warmth damp wopen tsize bytes rat rtold rwrong numbers asked ftold ffarm ffrom fwhat fon csize ctotal offered cws cwa g_number g_farm g_pig g_first g_begun g_weight g_salted g_heat g_place g_target g_feedAsked g_sealed g_bad g_sold) (kTy cB cI cZ cL))) (pq_C_X1_find dC dI ad cB cI cZ cL A LP today legCount legs hung warmth damp wopen tsize bytes rat rtold rwrong numbers asked ftold ffarm ffrom fwhat fon csize ctotal offered cws cwa g_number g_farm g_pig g_first g_begun g_weight g_salted g_heat g_place g_target g_feedAsked g_sealed g_bad g_sold Q) 0 0 A := by
  refine Met.ofW (cc := cX1_find) (maxL := 8) (ret := (some .int)) (by decide) rfl ?_
  intro p e s m args below meth c s₁ B hml hv
  obtain ⟨rfl, hA, hP, hK, hD, hE⟩ := hv
  have hx := B.exec
  have hb := B.bytes
  have hr := B.returns
  have hts := atoms_spec (ws := wsX1_find) B.pre
  have hown : s.vm.findClass RX1 = some m.cls := findClass_of_methodNamed B.named
  have hlocks := B.notSynchronized
  have hS : va_S A s.heap s.heap [] := va_S.rf
  have hk_0 := hts (.fieldLink RX1 24 "HamCellar$FeedBook" "told" "I") (by decide +kernel)
  have hk_1 : ∀ w ∈ wsX10, w ∈ wsX1_find := by decide +kernel
  have hk_2 := hts (.fieldLink RX1 9 "HamCellar$FeedBook" "farms" "[I") (by decide +kernel)
  have hk_3 := hts (.fieldLink RX1 15 "HamCellar$FeedBook" "froms" "[I") (by decide +kernel)
  have hk_4 := hts (.fieldLink RX1 18 "HamCellar$FeedBook" "whats" "[I") (by decide +kernel)
  have hk_5 := hts (.fieldLink RX1 21 "HamCellar$FeedBook" "toldOn" "[I") (by decide +kernel)
  have hbk_C_X1_find_100 : ∀ (K9 : Int32 → Int32 → Int32 → Int32 → Int32 → Int32 → Prop) (hK9 : ∀ (v1 : Int32) (v2 : Int32) (v3 : Int32) (v4 : Int32) (v5 : Int32) (v6 : Int32) (H : Heap) (locs : List Loc) (ls : Array Slot), va_P (dC, dI) vwCl (wA ad cB cI cZ cL LP today legCount legs hung warmth damp wopen tsize bytes rat rtold rwrong numbers asked ftold ffarm ffrom fwhat fon csize ctotal offered cws cwa g_number g_farm g_pig g_first g_begun g_weight g_salted g_heat g_place g_target g_feedAsked g_sealed g_bad g_sold) H → va_D A (wA ad cB cI cZ cL LP today legCount legs hung warmth damp wopen tsize bytes rat rtold rwrong numbers asked ftold ffarm ffrom fwhat fon csize ctotal offered cws cwa g_number g_farm g_pig g_first g_begun g_weight g_salted g_heat g_place g_target g_feedAsked g_sealed g_bad g_sold) → va_S A s.heap H locs → lv_has ls 8 [(0, .ref (ad 13)), (1, .int v1), (2, .int v2), (3, .int v3), (4, .int v4), (5, .int v5), (6, .int v6)] → K9 v1 v2 v3 v4 v5 v6 → W p l e (headSpec wsX1_find rm_C_X1_find).room s m ([.ref (ad 13), .int p0, .int p1, .int p2] : List Value).toArray below meth c H locs 0 0 (MQ below (pq_C_X1_find dC dI ad cB cI cZ cL A LP today legCount legs hung warmth damp wopen tsize bytes rat rtold rwrong numbers asked ftold ffarm ffrom fwhat fon csize ctotal offered cws cwa g_number g_farm g_pig g_first g_begun g_weight g_salted g_heat g_place g_target g_feedAsked g_sealed g_bad g_sold Q) ([.ref (ad 13), .int p0, .int p1, .int p2] : List Value).toArray s 0 0 A) (F0 m 9 ls [])) (v1 : Int32) (v2 : Int32) (v3 : Int32) (v4 : Int32) (v5 : Int32) (v6 : Int32) (H : Heap) (locs : List Loc) (ls : Array Slot), va_P (dC, dI) vwCl (wA ad cB cI cZ cL LP today legCount legs hung warmth damp wopen tsize bytes rat rtold rwrong numbers asked ftold ffarm ffrom fwhat fon csize ctotal offered cws cwa g_number g_farm g_pig g_first g_begun g_weight g_salted g_heat g_place g_target g_feedAsked g_sealed g_bad g_sold) H → va_D A (wA ad cB cI cZ cL LP today legCount legs hung warmth damp wopen tsize bytes rat rtold rwrong numbers asked ftold ffarm ffrom fwhat fon csize ctotal offered cws cwa g_number g_farm g_pig g_first g_begun g_weight g_salted g_heat g_place g_target g_feedAsked g_sealed g_bad g_sold) → va_S A s.heap H locs → lv_has ls 8 [(0, .ref (ad 13)), (1, .int v1), (2, .int v2), (3, .int v3), (4, .int v4), (5, .int v5), (6, .int v6)] → bk_C_X1_find_100 ftold ffarm ffrom fwhat fon Q K9 v1 v2 v3 v4 v5 v6 → W p l e (headSpec wsX1_find rm_C_X1_find).room s m ([.ref (ad 13), .int p0, .int p1, .int p2] : List Value).toArray below meth c H locs 0 0 (MQ below (pq_C_X1_find dC dI ad cB cI cZ cL A LP today legCount legs hung warmth damp wopen tsize bytes rat rtold rwrong numbers asked ftold ffarm ffrom fwhat fon csize ctotal offered cws cwa g_number g_farm g_pig g_first g_begun g_weight g_salted g_heat g_place g_target g_feedAsked g_sealed g_bad g_sold Q) ([.ref (ad 13), .int p0, .int p1, .int p2] : List Value).toArray s 0 0 A) (F0 m 100 ls []) := by
    intro K9 hK9 v1 v2 v3 v4 v5 v6 H locs ls hP hD hS hl h
    refine lv_iinc (v := v6 + 1) (lv' := [(6, .int (v6 + 1)), (0, .ref (ad 13)), (1, .int v1), (2, .int v2), (3, .int v3), (4, .int v4), (5, .int v5)]) hx hb dX1_find_100 hl (k := 6) rfl rfl (by decide) rfl (fun ls hl => ?_)
    refine lv_goto (tgt := 9) hx hb dX1_find_103 (by decide) ?_
    exact hK9 v1 v2 v3 v4 v5 (v6 + 1) _ _ _ hP hD hS (lv_sub hl [1, 2, 3, 4, 5, 6, 0] rfl) h
  have hbk_C_X1_find_63 : ∀ (K9 : Int32 → Int32 → Int32 → Int32 → Int32 → Int32 → Prop) (hK9 : ∀ (v1 : Int32) (v2 : Int32) (v3 : Int32) (v4 : Int32) (v5 : Int32) (v6 : Int32) (H : Heap) (locs : List Loc) (ls : Array Slot), va_P (dC, dI) vwCl (wA ad cB cI cZ cL LP today legCount legs hung warmth damp wopen tsize bytes rat rtold rwrong numbers asked ftold ffarm ffrom fwhat fon csize ctotal offered cws cwa g_number g_farm g_pig g_first g_begun g_weight g_salted g_heat g_place g_target g_feedAsked g_sealed g_bad g_sold) H → va_D A (wA ad cB cI cZ cL LP today legCount legs hung warmth damp wopen tsize bytes rat rtold rwrong numbers asked ftold ffarm ffrom fwhat fon csize ctotal offered cws cwa g_number g_farm g_pig g_first g_begun g_weight g_salted g_heat g_place g_target g_feedAsked g_sealed g_bad g_sold) → va_S A s.heap H locs → lv_has ls 8 [(0, .ref (ad 13)), (1, .int v1), (2, .int v2), (3, .int v3), (4, .int v4), (5, .int v5), (6, .int v6)] → K9 v1 v2 v3 v4 v5 v6 → W p l e (headSpec wsX1_find rm_C_X1_find).room s m ([.ref (ad 13), .int p0, .int p1, .int p2] : List Value).toArray below meth c H locs 0 0 (MQ below (pq_C_X1_find dC dI ad cB cI cZ cL A LP today legCount legs hung warmth damp wopen tsize bytes rat rtold rwrong numbers asked ftold ffarm ffrom fwhat fon csize ctotal offered cws cwa g_number g_farm g_pig g_first g_begun g_weight g_salted g_heat g_place g_target g_feedAsked g_sealed g_bad g_sold Q) ([.ref (ad 13), .int p0, .int p1, .int p2] : List Value).toArray s 0 0 A) (F0 m 9 ls [])) (v1 : Int32) (v2 : Int32) (v3 : Int32) (v4 : Int32) (v5 : Int32) (v6 : Int32) (k0 : Int32) (H : Heap) (locs : List Loc) (ls : Array Slot), va_P (dC, dI) vwCl (wA ad cB cI cZ cL LP today legCount legs hung warmth damp wopen tsize bytes rat rtold rwrong numbers asked ftold ffarm ffrom fwhat fon csize ctotal offered cws cwa g_number g_farm g_pig g_first g_begun g_weight g_salted g_heat g_place g_target g_feedAsked g_sealed g_bad g_sold) H → va_D A (wA ad cB cI cZ cL LP today legCount legs hung warmth damp wopen tsize bytes rat rtold rwrong numbers asked ftold ffarm ffrom fwhat fon csize ctotal offered cws cwa g_number g_farm g_pig g_first g_begun g_weight g_salted g_heat g_place g_target g_feedAsked g_sealed g_bad g_sold) → va_S A s.heap H locs → lv_has ls 8 [(0, .ref (ad 13)), (1, .int v1), (2, .int v2), (3, .int v3), (4, .int v4), (5, .int v5), (6, .int v6)] → bk_C_X1_find_63 ftold ffarm ffrom fwhat fon Q K9 v1 v2 v3 v4 v5 v6 k0 → W p l e (headSpec wsX1_find rm_C_X1_find).room s m ([.ref (ad 13), .int p0, .int p1, .int p2] : List Value).toArray below meth c H locs 0 0 (MQ below (pq_C_X1_find dC dI ad cB cI cZ cL A LP today legCount legs hung warmth damp wopen tsize bytes rat rtold rwrong numbers asked ftold ffarm ffrom fwhat fon csize ctotal offered cws cwa g_number g_farm g_pig g_first g_begun g_weight g_salted g_heat g_place g_target g_feedAsked g_sealed g_bad g_sold Q) ([.ref (ad 13), .int p0, .int p1, .int p2] : List Value).toArray s 0 0 A) (F0 m 63 ls [.int k0]) := by
    intro K9 hK9 v1 v2 v3 v4 v5 v6 k0 H locs ls hP hD hS hl h
    refine lv_istore (lv' := [(7, .int k0), (0, .ref (ad 13)), (1, .int v1), (2, .int v2), (3, .int v3), (4, .int v4), (5, .int v5), (6, .int v6)]) hx hb dX1_find_63 hl (by decide) rfl (fun ls hl => ?_)
    refine lv_iload hx hb dX1_find_65 (lv_at hl 0 rfl) ?_
    refine lv_if_eq (tgt := 100) hx hb dX1_find_67 (by decide) (fun c_5 => ?_) (fun c_5 => ?_)
    · have h := h.1 c_5
      exact hbk_C_X1_find_100 K9 hK9 v1 v2 v3 v4 v5 v6 _ _ _ hP hD hS (lv_sub hl [1, 2, 3, 4, 5, 6, 7] rfl) h
    · have h := h.2 c_5
      refine lv_aload_n hx hb dX1_find_70 rfl (lv_at hl 1 rfl) ?_
      refine va_get (D := (dC, dI)) (ci := 1) (v := .ref (ad 15)) (C := RX1) (T := TX1) (N := 5) hx hb hts hk_1 hown hK hP 13 wA_g13 rfl 1 (by decide) hk_3 (fun _ h9 => h9) rfl dX1_find_71 ?_
      refine lv_iload hx hb dX1_find_74 (lv_at hl 7 rfl) ?_
      have hi_6 := h.1
      have h := h.2
      refine va_iald hx hb hK hP 15 1 wA_g15 rfl hi_6 dX1_find_76 ?_
      refine lv_iload hx hb dX1_find_77 (lv_at hl 5 rfl) ?_
      refine lv_icmp_lt (tgt := 100) hx hb dX1_find_79 (by decide) (fun c_7 => ?_) (fun c_7 => ?_)
      · have h := h.1 c_7
        exact hbk_C_X1_find_100 K9 hK9 v1 v2 v3 v4 v5 v6 _ _ _ hP hD hS (lv_sub hl [1, 2, 3, 4, 5, 6, 7] rfl) h
      · have h := h.2 c_7
        refine lv_aload_n hx hb dX1_find_82 rfl (lv_at hl 1 rfl) ?_
        refine va_get (D := (dC, dI)) (ci := 1) (v := .ref (ad 15)) (C := RX1) (T := TX1) (N := 5) hx hb hts hk_1 hown hK hP 13 wA_g13 rfl 1 (by decide) hk_3 (fun _ h9 => h9) rfl dX1_find_83 ?_
        refine lv_iload hx hb dX1_find_86 (lv_at hl 7 rfl) ?_
        have hi_8 := h.1
        have h := h.2
        refine va_iald hx hb hK hP 15 1 wA_g15 rfl hi_8 dX1_find_88 ?_
        refine lv_istore (lv' := [(4, .int (ffrom v6.toNatClampNeg)), (7, .int k0), (0, .ref (ad 13)), (1, .int v1), (2, .int v2), (3, .int v3), (5, .int v5), (6, .int v6)]) hx hb dX1_find_89 hl (by decide) rfl (fun ls hl => ?_)
        refine lv_aload_n hx hb dX1_find_91 rfl (lv_at hl 2 rfl) ?_
        refine va_get (D := (dC, dI)) (ci := 1) (v := .ref (ad 16)) (C := RX1) (T := TX1) (N := 5) hx hb hts hk_1 hown hK hP 13 wA_g13 rfl 2 (by decide) hk_4 (fun _ h9 => h9) rfl dX1_find_92 ?_
        refine lv_iload hx hb dX1_find_95 (lv_at hl 7 rfl) ?_
        have hi_9 := h.1
        have h := h.2
        refine va_iald hx hb hK hP 16 1 wA_g16 rfl hi_9 dX1_find_97 ?_
        refine lv_istore (lv' := [(5, .int (fwhat v6.toNatClampNeg)), (4, .int (ffrom v6.toNatClampNeg)), (7, .int k0), (0, .ref (ad 13)), (1, .int v1), (2, .int v2), (3, .int v3), (6, .int v6)]) hx hb dX1_find_98 hl (by decide) rfl (fun ls hl => ?_)
        exact hbk_C_X1_find_100 K9 hK9 v1 v2 v3 (ffrom v6.toNatClampNeg) (fwhat v6.toNatClampNeg) v6 _ _ _ hP hD hS (lv_sub hl [3, 4, 5, 6, 1, 0, 7] rfl) h
  have hbk_C_X1_find_62 : ∀ (K9 : Int32 → Int32 → Int32 → Int32 → Int32 → Int32 → Prop) (hK9 : ∀ (v1 : Int32) (v2 : Int32) (v3 : Int32) (v4 : Int32) (v5 : Int32) (v6 : Int32) (H : Heap) (locs : List Loc) (ls : Array Slot), va_P (dC, dI) vwCl (wA ad cB cI cZ cL LP today legCount legs hung warmth damp wopen tsize bytes rat rtold rwrong numbers asked ftold ffarm ffrom fwhat fon csize ctotal offered cws cwa g_number g_farm g_pig g_first g_begun g_weight g_salted g_heat g_place g_target g_feedAsked g_sealed g_bad g_sold) H → va_D A (wA ad cB cI cZ cL LP today legCount legs hung warmth damp wopen tsize bytes rat rtold rwrong numbers asked ftold ffarm ffrom fwhat fon csize ctotal offered cws cwa g_number g_farm g_pig g_first g_begun g_weight g_salted g_heat g_place g_target g_feedAsked g_sealed g_bad g_sold) → va_S A s.heap H locs → lv_has ls 8 [(0, .ref (ad 13)), (1, .int v1), (2, .int v2), (3, .int v3), (4, .int v4), (5, .int v5), (6, .int v6)] → K9 v1 v2 v3 v4 v5 v6 → W p l e (headSpec wsX1_find rm_C_X1_find).room s m ([.ref (ad 13), .int p0, .int p1, .int p2] : List Value).toArray below meth c H locs 0 0 (MQ below (pq_C_X1_find dC dI ad cB cI cZ cL A LP today legCount legs hung warmth damp wopen tsize bytes rat rtold rwrong numbers asked ftold ffarm ffrom fwhat fon csize ctotal offered cws cwa g_number g_farm g_pig g_first g_begun g_weight g_salted g_heat g_place g_target g_feedAsked g_sealed g_bad g_sold Q) ([.ref (ad 13), .int p0, .int p1, .int p2] : List Value).toArray s 0 0 A) (F0 m 9 ls [])) (v1 : Int32) (v2 : Int32) (v3 : Int32) (v4 : Int32) (v5 : Int32) (v6 : Int32) (H : Heap) (locs : List Loc) (ls : Array Slot), va_P (dC, dI) vwCl (wA ad cB cI cZ cL LP today legCount legs hung warmth damp wopen tsize bytes rat rtold rwrong numbers asked ftold ffarm ffrom fwhat fon csize ctotal offered cws cwa g_number g_farm g_pig g_first g_begun g_weight g_salted g_heat g_place g_target g_feedAsked g_sealed g_bad g_sold) H → va_D A (wA ad cB cI cZ cL LP today legCount legs hung warmth damp wopen tsize bytes rat rtold rwrong numbers asked ftold ffarm ffrom fwhat fon csize ctotal offered cws cwa g_number g_farm g_pig g_first g_begun g_weight g_salted g_heat g_place g_target g_feedAsked g_sealed g_bad g_sold) → va_S A s.heap H locs → lv_has ls 8 [(0, .ref (ad 13)), (1, .int v1), (2, .int v2), (3, .int v3), (4, .int v4), (5, .int v5), (6, .int v6)] → bk_C_X1_find_62 ftold ffarm ffrom fwhat fon Q K9 v1 v2 v3 v4 v5 v6 → W p l e (headSpec wsX1_find rm_C_X1_find).room s m ([.ref (ad 13), .int p0, .int p1, .int p2] : List Value).toArray below meth c H locs 0 0 (MQ below (pq_C_X1_find dC dI ad cB cI cZ cL A LP today legCount legs hung warmth damp wopen tsize bytes rat rtold rwrong numbers asked ftold ffarm ffrom fwhat fon csize ctotal offered cws cwa g_number g_farm g_pig g_first g_begun g_weight g_salted g_heat g_place g_target g_feedAsked g_sealed g_bad g_sold Q) ([.ref (ad 13), .int p0, .int p1, .int p2] : List Value).toArray s 0 0 A) (F0 m 62 ls []) := by
    intro K9 hK9 v1 v2 v3 v4 v5 v6 H locs ls hP hD hS hl h
    refine lv_iconst (v := 0) hx hb dX1_find_62 (by decide) ?_
    exact hbk_C_X1_find_63 K9 hK9 v1 v2 v3 v4 v5 v6 0 _ _ _ hP hD hS (lv_sub hl [0, 1, 2, 3, 4, 5, 6] rfl) h
  have hlp_C_X1_find_9 : ∀ (n : Nat) (v1 : Int32) (v2 : Int32) (v3 : Int32) (v4 : Int32) (v5 : Int32) (v6 : Int32) (H : Heap) (locs : List Loc) (ls : Array Slot), va_P (dC, dI) vwCl (wA ad cB cI cZ cL LP today legCount legs hung warmth damp wopen tsize bytes rat rtold rwrong numbers asked ftold ffarm ffrom fwhat fon csize ctotal offered cws cwa g_number g_farm g_pig g_first g_begun g_weight g_salted g_heat g_place g_target g_feedAsked g_sealed g_bad g_sold) H → va_D A (wA ad cB cI cZ cL LP today legCount legs hung warmth damp wopen tsize bytes rat rtold rwrong numbers asked ftold ffarm ffrom fwhat fon csize ctotal offered cws cwa g_number g_farm g_pig g_first g_begun g_weight g_salted g_heat g_place g_target g_feedAsked g_sealed g_bad g_sold) → va_S A s.heap H locs → lv_has ls 8 [(0, .ref (ad 13)), (1, .int v1), (2, .int v2), (3, .int v3), (4, .int v4), (5, .int v5), (6, .int v6)] → lp_C_X1_find_9 ftold ffarm ffrom fwhat fon Q n v1 v2 v3 v4 v5 v6 → W p l e (headSpec wsX1_find rm_C_X1_find).room s m ([.ref (ad 13), .int p0, .int p1, .int p2] : List Value).toArray below meth c H locs 0 0 (MQ below (pq_C_X1_find dC dI ad cB cI cZ cL A LP today legCount legs hung warmth damp wopen tsize bytes rat rtold rwrong numbers asked ftold ffarm ffrom fwhat fon csize ctotal offered cws cwa g_number g_farm g_pig g_first g_begun g_weight g_salted g_heat g_place g_target g_feedAsked g_sealed g_bad g_sold Q) ([.ref (ad 13), .int p0, .int p1, .int p2] : List Value).toArray s 0 0 A) (F0 m 9 ls []) := by
    intro n
    induction n with
    | zero => intro v1 v2 v3 v4 v5 v6 H locs ls hP hD hS hl h; exact h.elim
    | succ n ih =>
      intro v1 v2 v3 v4 v5 v6 H locs ls hP hD hS hl h
      refine lv_iload hx hb dX1_find_9 (lv_at hl 6 rfl) ?_
      refine lv_aload_n hx hb dX1_find_11 rfl (lv_at hl 0 rfl) ?_
      refine va_get (D := (dC, dI)) (ci := 1) (v := .int ftold) (C := RX1) (T := TX1) (N := 5) hx hb hts hk_1 hown hK hP 13 wA_g13 rfl 4 (by decide) hk_0 (fun _ h9 => h9) rfl dX1_find_12 ?_
      refine lv_icmp_ge (tgt := 106) hx hb dX1_find_15 (by decide) (fun c_1 => ?_) (fun c_1 => ?_)
      · have h := h.1 c_1
        refine lv_iload hx hb dX1_find_106 (lv_at hl 5 rfl) ?_
        exact W.iret (v := v5) hx hb hr (fun t ht hW => ⟨⟨v5, (), rfl, h, kB_mk hP hK hD ht hW.alike⟩, hS.F ht⟩) hS.2.2 dX1_find_108
      · have h := h.2 c_1
        refine lv_iload hx hb dX1_find_18 (lv_at hl 6 rfl) ?_
        refine lv_bipush (v := 60) hx hb dX1_find_20 (by decide) ?_
        refine lv_icmp_ge (tgt := 106) hx hb dX1_find_22 (by decide) (fun c_2 => ?_) (fun c_2 => ?_)
        · have h := h.1 c_2
          refine lv_iload hx hb dX1_find_106 (lv_at hl 5 rfl) ?_
          exact W.iret (v := v5) hx hb hr (fun t ht hW => ⟨⟨v5, (), rfl, h, kB_mk hP hK hD ht hW.alike⟩, hS.F ht⟩) hS.2.2 dX1_find_108
        · have h := h.2 c_2
          refine lv_aload_n hx hb dX1_find_25 rfl (lv_at hl 0 rfl) ?_
          refine va_get (D := (dC, dI)) (ci := 1) (v := .ref (ad 14)) (C := RX1) (T := TX1) (N := 5) hx hb hts hk_1 hown hK hP 13 wA_g13 rfl 0 (by decide) hk_2 (fun _ h9 => h9) rfl dX1_find_26 ?_
          refine lv_iload hx hb dX1_find_29 (lv_at hl 6 rfl) ?_
          have hi_3 := h.1
          have h := h.2
          refine va_iald hx hb hK hP 14 1 wA_g14 rfl hi_3 dX1_find_31 ?_
          refine lv_iload_n hx hb dX1_find_32 rfl (lv_at hl 1 rfl) ?_
          refine lv_icmp_ne (tgt := 62) hx hb dX1_find_33 (by decide) (fun c_4 => ?_) (fun c_4 => ?_)
          · have h := h.1 c_4
            exact hbk_C_X1_find_62 (lp_C_X1_find_9 ftold ffarm ffrom fwhat fon Q n) ih v1 v2 v3 v4 v5 v6 _ _ _ hP hD hS (lv_sub hl [0, 1, 2, 3, 4, 5, 6] rfl) h
          · have h := h.2 c_4
            refine lv_aload_n hx hb dX1_find_36 rfl (lv_at hl 0 rfl) ?_
            refine va_get (D := (dC, dI)) (ci := 1) (v := .ref (ad 17)) (C := RX1) (T := TX1) (N := 5) hx hb hts hk_1 hown hK hP 13 wA_g13 rfl 3 (by decide) hk_5 (fun _ h9 => h9) rfl dX1_find_37 ?_
            refine lv_iload hx hb dX1_find_40 (lv_at hl 6 rfl) ?_
            have hi_10 := h.1
            have h := h.2
            refine va_iald hx hb hK hP 17 1 wA_g17 rfl hi_10 dX1_find_42 ?_
            refine lv_iload_n hx hb dX1_find_43 rfl (lv_at hl 3 rfl) ?_
            refine lv_icmp_gt (tgt := 62) hx hb dX1_find_44 (by decide) (fun c_11 => ?_) (fun c_11 => ?_)
            · have h := h.1 c_11
              exact hbk_C_X1_find_62 (lp_C_X1_find_9 ftold ffarm ffrom fwhat fon Q n) ih v1 v2 v3 v4 v5 v6 _ _ _ hP hD hS (lv_sub hl [0, 1, 2, 3, 4, 5, 6] rfl) h
            · have h := h.2 c_11
              refine lv_aload_n hx hb dX1_find_47 rfl (lv_at hl 0 rfl) ?_
              refine va_get (D := (dC, dI)) (ci := 1) (v := .ref (ad 15)) (C := RX1) (T := TX1) (N := 5) hx hb hts hk_1 hown hK hP 13 wA_g13 rfl 1 (by decide) hk_3 (fun _ h9 => h9) rfl dX1_find_48 ?_
              refine lv_iload hx hb dX1_find_51 (lv_at hl 6 rfl) ?_
              have hi_12 := h.1
              have h := h.2
              refine va_iald hx hb hK hP 15 1 wA_g15 rfl hi_12 dX1_find_53 ?_
              refine lv_iload_n hx hb dX1_find_54 rfl (lv_at hl 2 rfl) ?_
              refine lv_icmp_gt (tgt := 62) hx hb dX1_find_55 (by decide) (fun c_13 => ?_) (fun c_13 => ?_)
              · have h := h.1 c_13
                exact hbk_C_X1_find_62 (lp_C_X1_find_9 ftold ffarm ffrom fwhat fon Q n) ih v1 v2 v3 v4 v5 v6 _ _ _ hP hD hS (lv_sub hl [0, 1, 2, 3, 4, 5, 6] rfl) h
              · have h := h.2 c_13
                refine lv_iconst (v := 1) hx hb dX1_find_58 (by decide) ?_
                refine lv_goto (tgt := 63) hx hb dX1_find_59 (by decide) ?_
                exact hbk_C_X1_find_63 (lp_C_X1_find_9 ftold ffarm ffrom fwhat fon Q n) ih v1 v2 v3 v4 v5 v6 1 _ _ _ hP hD hS (lv_sub hl [0, 1, 2, 3, 4, 5, 6] rfl) h
  have hl := lv_entry ([.ref (ad 13), .int p0, .int p1, .int p2]) (n := 8) (Nat.le_of_ble_eq_true rfl)
  rw [lg_entry_eq]
  generalize (lg_sl ([.ref (ad 13), .int p0, .int p1, .int p2]) ++ List.replicate (8 - (lg_sl ([.ref (ad 13), .int p0, .int p1, .int p2])).length) Slot.unset).toArray = ls at hl ⊢
  have hl : lv_has ls 8 [(0, .ref (ad 13)), (1, .int p0), (2, .int p1), (3, .int p2)] := hl
  unfold wp_C_X1_find at h
  refine lv_iconst (v := 0) hx hb dX1_find_0 (by decide) ?_
  refine lv_istore (lv' := [(4, .int 0), (0, .ref (ad 13)), (1, .int p0), (2, .int p1), (3, .int p2)]) hx hb dX1_find_1 hl (by decide) rfl (fun ls hl => ?_)
  refine lv_iconst (v := 0) hx hb dX1_find_3 (by decide) ?_
  refine lv_istore (lv' := [(5, .int 0), (4, .int 0), (0, .ref (ad 13)), (1, .int p0), (2, .int p1), (3, .int p2)]) hx hb dX1_find_4 hl (by decide) rfl (fun ls hl => ?_)
  refine lv_iconst (v := 0) hx hb dX1_find_6 (by decide) ?_
  refine lv_istore (lv' := [(6, .int 0), (5, .int 0), (4, .int 0), (0, .ref (ad 13)), (1, .int p0), (2, .int p1), (3, .int p2)]) hx hb dX1_find_7 hl (by decide) rfl (fun ls hl => ?_)
  obtain ⟨n_14, h⟩ := h
  exact hlp_C_X1_find_9 n_14 p0 p1 p2 0 0 0 _ _ _ hP hD hS (lv_sub hl [3, 4, 5, 6, 2, 1, 0] rfl) h
def wp_C_X4_setAir (Q : (Nat → Int32) → (Nat → Int32) → Prop) (warmth : Nat → Int32) (damp : Nat → Int32) (p0 : Int32) (p1 : Int32) (p2 : Int32) : Prop := ((p0 < 0 → Q warmth damp) ∧ (¬ (p0 < 0) → ((6 ≤ p0 → Q warmth damp) ∧ (¬ (6 ≤ p0) → (vp_in p0 6 ∧ (vp_in p0 6 ∧ Q (upd warmth p0.toNatClampNeg p1) (upd damp p0.toNatClampNeg p2)))))))
def rm_C_X4_setAir : Room := { frames := 0, cells := 0, slots := 0, locals := 0 }
abbrev pq_C_X4_setAir (dC : Nat → ClassId) (dI : Nat → Nat → Nat) (ad : Nat → Nat) (cB cI cZ cL : ClassId) (A : Nat → Prop) (LP : List Nat) (today legCount : Int32) (legs hung : Nat → Option Nat) (warmth damp wopen : Nat → Int32) (tsize : Int32) (bytes : Nat → Int32) (rat rtold rwrong : Int32) (numbers asked : Nat → Int32) (ftold : Int32) (ffarm ffrom fwhat fon : Nat → Int32) (csize ctotal : Int32) (offered : Nat → Option Nat) (cws cwa g_number g_farm g_pig g_first g_begun g_weight g_salted g_heat g_place g_target g_feedAsked g_sealed g_bad g_sold : Nat → Int32) (Q : (Nat → Int32) → (Nat → Int32) → Prop) : Array Value → State → Outcome → State → Prop := va_Qv (fun u : (Nat → Int32) × (Nat → Int32) => Q u.1 u.2) (fun u t => kB dC dI A (wA ad cB cI cZ cL LP today legCount legs hung u.1 u.2 wopen tsize bytes rat rtold rwrong numbers asked ftold ffarm ffrom fwhat fon csize ctotal offered cws cwa g_number g_farm g_pig g_first g_begun g_weight g_salted g_heat g_place g_target g_feedAsked g_sealed g_bad g_sold) (kTy cB cI cZ cL) t) A
set_option maxHeartbeats 4000000 in
set_option maxRecDepth 100000 in
theorem c_C_X4_setAir (l : Launch) (dC : Nat → ClassId) (dI : Nat → Nat → Nat) (ad : Nat → Nat) (cB cI cZ cL : ClassId) (A : Nat → Prop) (LP : List Nat) (today legCount : Int32) (legs hung : Nat → Option Nat) (warmth damp wopen : Nat → Int32) (tsize : Int32) (bytes : Nat → Int32) (rat rtold rwrong : Int32) (numbers asked : Nat → Int32) (ftold : Int32) (ffarm ffrom fwhat fon : Nat → Int32) (csize ctotal : Int32) (offered : Nat → Option Nat) (cws cwa g_number g_farm g_pig g_first g_begun g_weight g_salted g_heat g_place g_target g_feedAsked g_sealed g_bad g_sold : Nat → Int32) (p0 : Int32) (p1 : Int32) (p2 : Int32)  (Q : (Nat → Int32) → (Nat → Int32) → Prop) (h : wp_C_X4_setAir Q warmth damp p0 p1 p2) : Met l yX4_setAir wsX4_setAir rm_C_X4_setAir (va_Pc [.ref (ad 4), .int p0, .int p1, .int p2] (kC dC dI ad A (wA ad cB cI cZ cL LP today legCount legs hung warmth damp wopen tsize bytes rat rtold rwrong numbers asked ftold ffarm ffrom fwhat fon csize ctotal offered cws cwa g_number g_farm g_pig g_first g_begun g_weight g_salted g_heat g_place g_target g_feedAsked g_sealed g_bad g_sold) (kTy cB cI cZ cL))) (pq_C_X4_setAir dC dI ad cB cI cZ cL A LP today legCount legs hung warmth damp wopen tsize bytes rat rtold rwrong numbers asked ftold ffarm ffrom fwhat fon csize ctotal offered cws cwa g_number g_farm g_pig g_first g_begun g_weight g_salted g_heat g_place g_target g_feedAsked g_sealed g_bad g_sold Q) 0 0 A := by
  refine Met.ofW (cc := cX4_setAir) (maxL := 4) (ret := none) (by decide) rfl ?_
  intro p e s m args below meth c s₁ B hml hv
  obtain ⟨rfl, hA, hP, hK, hD, hE⟩ := hv
  have hx := B.exec
  have hb := B.bytes
  have hr := B.returns
  have hts := atoms_spec (ws := wsX4_setAir) B.pre
  have hown : s.vm.findClass RX4 = some m.cls := findClass_of_methodNamed B.named
  have hlocks := B.notSynchronized
  have hS : va_S A s.heap s.heap [] := va_S.rf
  have hk_0 := hts (.fieldLink RX4 9 "HamCellar$Rooms" "warmth" "[I") (by decide +kernel)
  have hk_1 : ∀ w ∈ wsX40, w ∈ wsX4_setAir := by decide +kernel
  have hk_2 := hts (.fieldLink RX4 15 "HamCellar$Rooms" "damp" "[I") (by decide +kernel)
  have hl := lv_entry ([.ref (ad 4), .int p0, .int p1, .int p2]) (n := 4) (Nat.le_of_ble_eq_true rfl)
  rw [lg_entry_eq]
  generalize (lg_sl ([.ref (ad 4), .int p0, .int p1, .int p2]) ++ List.replicate (4 - (lg_sl ([.ref (ad 4), .int p0, .int p1, .int p2])).length) Slot.unset).toArray = ls at hl ⊢
  have hl : lv_has ls 4 [(0, .ref (ad 4)), (1, .int p0), (2, .int p1), (3, .int p2)] := hl
  unfold wp_C_X4_setAir at h
  refine lv_iload_n hx hb dX4_setAir_0 rfl (lv_at hl 1 rfl) ?_
  refine lv_if_lt (tgt := 24) hx hb dX4_setAir_1 (by decide) (fun c_1 => ?_) (fun c_1 => ?_)
  · have h := h.1 c_1
    exact W.vret hx hb hr (fun t ht hW => ⟨⟨(warmth, damp), rfl, h, kB_mk hP hK hD ht hW.alike⟩, hS.F ht⟩) hS.2.2 dX4_setAir_24
  · have h := h.2 c_1
    refine lv_iload_n hx hb dX4_setAir_4 rfl (lv_at hl 1 rfl) ?_
    refine lv_bipush (v := 6) hx hb dX4_setAir_5 (by decide) ?_
    refine lv_icmp_ge (tgt := 24) hx hb dX4_setAir_7 (by decide) (fun c_2 => ?_) (fun c_2 => ?_)
    · have h := h.1 c_2
      exact W.vret hx hb hr (fun t ht hW => ⟨⟨(warmth, damp), rfl, h, kB_mk hP hK hD ht hW.alike⟩, hS.F ht⟩) hS.2.2 dX4_setAir_24
    · have h := h.2 c_2
      refine lv_aload_n hx hb dX4_setAir_10 rfl (lv_at hl 0 rfl) ?_
      refine va_get (D := (dC, dI)) (ci := 4) (v := .ref (ad 5)) (C := RX4) (T := TX4) (N := 3) hx hb hts hk_1 hown hK hP 4 wA_g4 rfl 0 (by decide) hk_0 (fun _ h9 => h9) rfl dX4_setAir_11 ?_
      refine lv_iload_n hx hb dX4_setAir_14 rfl (lv_at hl 1 rfl) ?_
      refine lv_iload_n hx hb dX4_setAir_15 rfl (lv_at hl 2 rfl) ?_
      have hi_3 := h.1
      have h := h.2
      refine va_iast hx hb hK hP hD hS 5 1 wA_g5 rfl hi_3 dX4_setAir_16 (fun H locs hP2 hD2 hS => ?_)
      have hP : va_P (dC, dI) vwCl (wA ad cB cI cZ cL LP today legCount legs hung (upd warmth p0.toNatClampNeg p1) damp wopen tsize bytes rat rtold rwrong numbers asked ftold ffarm ffrom fwhat fon csize ctotal offered cws cwa g_number g_farm g_pig g_first g_begun g_weight g_salted g_heat g_place g_target g_feedAsked g_sealed g_bad g_sold) H := hP_eq (wA_p_warmth) hP2
      have hD : va_D A (wA ad cB cI cZ cL LP today legCount legs hung (upd warmth p0.toNatClampNeg p1) damp wopen tsize bytes rat rtold rwrong numbers asked ftold ffarm ffrom fwhat fon csize ctotal offered cws cwa g_number g_farm g_pig g_first g_begun g_weight g_salted g_heat g_place g_target g_feedAsked g_sealed g_bad g_sold) := hD_eq (wA_p_warmth) hD2
      refine lv_aload_n hx hb dX4_setAir_17 rfl (lv_at hl 0 rfl) ?_
      refine va_get (D := (dC, dI)) (ci := 4) (v := .ref (ad 6)) (C := RX4) (T := TX4) (N := 3) hx hb hts hk_1 hown hK hP 4 wA_g4 rfl 1 (by decide) hk_2 (fun _ h9 => h9) rfl dX4_setAir_18 ?_
      refine lv_iload_n hx hb dX4_setAir_21 rfl (lv_at hl 1 rfl) ?_
      refine lv_iload_n hx hb dX4_setAir_22 rfl (lv_at hl 3 rfl) ?_
      have hi_4 := h.1
      have h := h.2
      refine va_iast hx hb hK hP hD hS 6 1 wA_g6 rfl hi_4 dX4_setAir_23 (fun H locs hP2 hD2 hS => ?_)
      have hP : va_P (dC, dI) vwCl (wA ad cB cI cZ cL LP today legCount legs hung (upd warmth p0.toNatClampNeg p1) (upd damp p0.toNatClampNeg p2) wopen tsize bytes rat rtold rwrong numbers asked ftold ffarm ffrom fwhat fon csize ctotal offered cws cwa g_number g_farm g_pig g_first g_begun g_weight g_salted g_heat g_place g_target g_feedAsked g_sealed g_bad g_sold) H := hP_eq (wA_p_damp) hP2
      have hD : va_D A (wA ad cB cI cZ cL LP today legCount legs hung (upd warmth p0.toNatClampNeg p1) (upd damp p0.toNatClampNeg p2) wopen tsize bytes rat rtold rwrong numbers asked ftold ffarm ffrom fwhat fon csize ctotal offered cws cwa g_number g_farm g_pig g_first g_begun g_weight g_salted g_heat g_place g_target g_feedAsked g_sealed g_bad g_sold) := hD_eq (wA_p_damp) hD2
      exact W.vret hx hb hr (fun t ht hW => ⟨⟨(upd warmth p0.toNatClampNeg p1, upd damp p0.toNatClampNeg p2), rfl, h, kB_mk hP hK hD ht hW.alike⟩, hS.F ht⟩) hS.2.2 dX4_setAir_24
def wp_C_X4_setWindows (Q : Int32 → (Nat → Int32) → Prop) (wopen : Nat → Int32) (p0 : Int32) (p1 : Int32) : Prop := ((p0 < 0 → (o01 0 ∧ Q 0 wopen)) ∧ (¬ (p0 < 0) → ((6 ≤ p0 → (o01 0 ∧ Q 0 wopen)) ∧ (¬ (6 ≤ p0) → (vp_in p0 6 ∧ ((¬ (wopen p0.toNatClampNeg) = p1 → (vp_in p0 6 ∧ (o01 1 ∧ Q 1 (upd wopen p0.toNatClampNeg (vp_nar .boolean p1))))) ∧ ((wopen p0.toNatClampNeg) = p1 → (o01 0 ∧ Q 0 wopen))))))))
def rm_C_X4_setWindows : Room := { frames := 0, cells := 0, slots := 0, locals := 0 }
abbrev pq_C_X4_setWindows (dC : Nat → ClassId) (dI : Nat → Nat → Nat) (ad : Nat → Nat) (cB cI cZ cL : ClassId) (A : Nat → Prop) (LP : List Nat) (today legCount : Int32) (legs hung : Nat → Option Nat) (warmth damp wopen : Nat → Int32) (tsize : Int32) (bytes : Nat → Int32) (rat rtold rwrong : Int32) (numbers asked : Nat → Int32) (ftold : Int32) (ffarm ffrom fwhat fon : Nat → Int32) (csize ctotal : Int32) (offered : Nat → Option Nat) (cws cwa g_number g_farm g_pig g_first g_begun g_weight g_salted g_heat g_place g_target g_feedAsked g_sealed g_bad g_sold : Nat → Int32) (Q : Int32 → (Nat → Int32) → Prop) : Array Value → State → Outcome → State → Prop := va_Qi (fun (r : Int32) (u : (Nat → Int32)) => Q r u) (fun u t => kB dC dI A (wA ad cB cI cZ cL LP today legCount legs hung warmth damp u tsize bytes rat rtold rwrong numbers asked ftold ffarm ffrom fwhat fon csize ctotal offered cws cwa g_number g_farm g_pig g_first g_begun g_weight g_salted g_heat g_place g_target g_feedAsked g_sealed g_bad g_sold) (kTy cB cI cZ cL) t) A
set_option maxHeartbeats 4000000 in
set_option maxRecDepth 100000 in
theorem c_C_X4_setWindows (l : Launch) (dC : Nat → ClassId) (dI : Nat → Nat → Nat) (ad : Nat → Nat) (cB cI cZ cL : ClassId) (A : Nat → Prop) (LP : List Nat) (today legCount : Int32) (legs hung : Nat → Option Nat) (warmth damp wopen : Nat → Int32) (tsize : Int32) (bytes : Nat → Int32) (rat rtold rwrong : Int32) (numbers asked : Nat → Int32) (ftold : Int32) (ffarm ffrom fwhat fon : Nat → Int32) (csize ctotal : Int32) (offered : Nat → Option Nat) (cws cwa g_number g_farm g_pig g_first g_begun g_weight g_salted g_heat g_place g_target g_feedAsked g_sealed g_bad g_sold : Nat → Int32) (p0 : Int32) (p1 : Int32)  (Q : Int32 → (Nat → Int32) → Prop) (h : wp_C_X4_setWindows Q wopen p0 p1) : Met l yX4_setWindows wsX4_setWindows rm_C_X4_setWindows (va_Pc [.ref (ad 4), .int p0, .int p1] (kC dC dI ad A (wA ad cB cI cZ cL LP today legCount legs hung warmth damp wopen tsize bytes rat rtold rwrong numbers asked ftold ffarm ffrom fwhat fon csize ctotal offered cws cwa g_number g_farm g_pig g_first g_begun g_weight g_salted g_heat g_place g_target g_feedAsked g_sealed g_bad g_sold) (kTy cB cI cZ cL))) (pq_C_X4_setWindows dC dI ad cB cI cZ cL A LP today legCount legs hung warmth damp wopen tsize bytes rat rtold rwrong numbers asked ftold ffarm ffrom fwhat fon csize ctotal offered cws cwa g_number g_farm g_pig g_first g_begun g_weight g_salted g_heat g_place g_target g_feedAsked g_sealed g_bad g_sold Q) 0 0 A := by
  refine Met.ofW (cc := cX4_setWindows) (maxL := 3) (ret := (some .boolean)) (by decide) rfl ?_
  intro p e s m args below meth c s₁ B hml hv
  obtain ⟨rfl, hA, hP, hK, hD, hE⟩ := hv
  have hx := B.exec
  have hb := B.bytes
  have hr := B.returns
  have hts := atoms_spec (ws := wsX4_setWindows) B.pre
  have hown : s.vm.findClass RX4 = some m.cls := findClass_of_methodNamed B.named
  have hlocks := B.notSynchronized
  have hS : va_S A s.heap s.heap [] := va_S.rf
  have hk_0 := hts (.fieldLink RX4 18 "HamCellar$Rooms" "windowsOpen" "[Z") (by decide +kernel)
  have hk_1 : ∀ w ∈ wsX40, w ∈ wsX4_setWindows := by decide +kernel
  have hl := lv_entry ([.ref (ad 4), .int p0, .int p1]) (n := 3) (Nat.le_of_ble_eq_true rfl)
  rw [lg_entry_eq]
  generalize (lg_sl ([.ref (ad 4), .int p0, .int p1]) ++ List.replicate (3 - (lg_sl ([.ref (ad 4), .int p0, .int p1])).length) Slot.unset).toArray = ls at hl ⊢
  have hl : lv_has ls 3 [(0, .ref (ad 4)), (1, .int p0), (2, .int p1)] := hl
  unfold wp_C_X4_setWindows at h
  refine lv_iload_n hx hb dX4_setWindows_0 rfl (lv_at hl 1 rfl) ?_
  refine lv_if_lt (tgt := 20) hx hb dX4_setWindows_1 (by decide) (fun c_1 => ?_) (fun c_1 => ?_)
  · have h := h.1 c_1
    refine lv_iconst (v := 0) hx hb dX4_setWindows_20 (by decide) ?_
    exact W.zret (v := 0) (ty := .boolean) hx hb hr (z01 h.1) (fun t ht hW => ⟨⟨0, (wopen), rfl, h.2, kB_mk hP hK hD ht hW.alike⟩, hS.F ht⟩) hS.2.2 dX4_setWindows_21
  · have h := h.2 c_1
    refine lv_iload_n hx hb dX4_setWindows_4 rfl (lv_at hl 1 rfl) ?_
    refine lv_bipush (v := 6) hx hb dX4_setWindows_5 (by decide) ?_
    refine lv_icmp_ge (tgt := 20) hx hb dX4_setWindows_7 (by decide) (fun c_2 => ?_) (fun c_2 => ?_)
    · have h := h.1 c_2
      refine lv_iconst (v := 0) hx hb dX4_setWindows_20 (by decide) ?_
      exact W.zret (v := 0) (ty := .boolean) hx hb hr (z01 h.1) (fun t ht hW => ⟨⟨0, (wopen), rfl, h.2, kB_mk hP hK hD ht hW.alike⟩, hS.F ht⟩) hS.2.2 dX4_setWindows_21
    · have h := h.2 c_2
      refine lv_aload_n hx hb dX4_setWindows_10 rfl (lv_at hl 0 rfl) ?_
      refine va_get (D := (dC, dI)) (ci := 4) (v := .ref (ad 7)) (C := RX4) (T := TX4) (N := 3) hx hb hts hk_1 hown hK hP 4 wA_g4 rfl 2 (by decide) hk_0 (fun _ h9 => h9) rfl dX4_setWindows_11 ?_
      refine lv_iload_n hx hb dX4_setWindows_14 rfl (lv_at hl 1 rfl) ?_
      have hi_3 := h.1
      have h := h.2
      refine va_zald hx hb hK hP 7 2 wA_g7 rfl hi_3 dX4_setWindows_15 ?_
      refine lv_iload_n hx hb dX4_setWindows_16 rfl (lv_at hl 2 rfl) ?_
      refine lv_icmp_ne (tgt := 22) hx hb dX4_setWindows_17 (by decide) (fun c_4 => ?_) (fun c_4 => ?_)
      · have h := h.1 c_4
        refine lv_aload_n hx hb dX4_setWindows_22 rfl (lv_at hl 0 rfl) ?_
        refine va_get (D := (dC, dI)) (ci := 4) (v := .ref (ad 7)) (C := RX4) (T := TX4) (N := 3) hx hb hts hk_1 hown hK hP 4 wA_g4 rfl 2 (by decide) hk_0 (fun _ h9 => h9) rfl dX4_setWindows_23 ?_
        refine lv_iload_n hx hb dX4_setWindows_26 rfl (lv_at hl 1 rfl) ?_
        refine lv_iload_n hx hb dX4_setWindows_27 rfl (lv_at hl 2 rfl) ?_
        have hi_5 := h.1
        have h := h.2
        refine va_zast hx hb hK hP hD hS 7 2 wA_g7 rfl hi_5 dX4_setWindows_28 (fun H locs hP2 hD2 hS => ?_)
        have hP : va_P (dC, dI) vwCl (wA ad cB cI cZ cL LP today legCount legs hung warmth damp (upd wopen p0.toNatClampNeg (vp_nar .boolean p1)) tsize bytes rat rtold rwrong numbers asked ftold ffarm ffrom fwhat fon csize ctotal offered cws cwa g_number g_farm g_pig g_first g_begun g_weight g_salted g_heat g_place g_target g_feedAsked g_sealed g_bad g_sold) H := hP_eq (wA_p_wopen) hP2
        have hD : va_D A (wA ad cB cI cZ cL LP today legCount legs hung warmth damp (upd wopen p0.toNatClampNeg (vp_nar .boolean p1)) tsize bytes rat rtold rwrong numbers asked ftold ffarm ffrom fwhat fon csize ctotal offered cws cwa g_number g_farm g_pig g_first g_begun g_weight g_salted g_heat g_place g_target g_feedAsked g_sealed g_bad g_sold) := hD_eq (wA_p_wopen) hD2
        refine lv_iconst (v := 1) hx hb dX4_setWindows_29 (by decide) ?_
        exact W.zret (v := 1) (ty := .boolean) hx hb hr (z01 h.1) (fun t ht hW => ⟨⟨1, (upd wopen p0.toNatClampNeg (vp_nar .boolean p1)), rfl, h.2, kB_mk hP hK hD ht hW.alike⟩, hS.F ht⟩) hS.2.2 dX4_setWindows_30
      · have h := h.2 c_4
        refine lv_iconst (v := 0) hx hb dX4_setWindows_20 (by decide) ?_
        exact W.zret (v := 0) (ty := .boolean) hx hb hr (z01 h.1) (fun t ht hW => ⟨⟨0, (wopen), rfl, h.2, kB_mk hP hK hD ht hW.alike⟩, hS.F ht⟩) hS.2.2 dX4_setWindows_21
def bk_C_X4_letOutsideIn_41 (wopen : Nat → Int32)  (Q : (Nat → Int32) → (Nat → Int32) → Prop) (K2 : (Nat → Int32) → (Nat → Int32) → Int32 → Prop) (warmth : Nat → Int32) (damp : Nat → Int32) (v1 : Int32) : Prop := K2 warmth damp (v1 + 1)
def lp_C_X4_letOutsideIn_2 (wopen : Nat → Int32)  (Q : (Nat → Int32) → (Nat → Int32) → Prop) : Nat → (Nat → Int32) → (Nat → Int32) → Int32 → Prop
  | 0 => fun _ _ _ => False
  | n + 1 => fun warmth damp v1 => ((6 ≤ v1 → Q warmth damp) ∧ (¬ (6 ≤ v1) → (vp_in v1 6 ∧ (((wopen v1.toNatClampNeg) = 0 → bk_C_X4_letOutsideIn_41 wopen Q (lp_C_X4_letOutsideIn_2 wopen Q n) warmth damp v1) ∧ (¬ ((wopen v1.toNatClampNeg) = 0) → (vp_in v1 6 ∧ (vp_in v1 6 ∧ bk_C_X4_letOutsideIn_41 wopen Q (lp_C_X4_letOutsideIn_2 wopen Q n) (upd warmth v1.toNatClampNeg (warmth (0 : Int32).toNatClampNeg)) (upd damp v1.toNatClampNeg (damp (0 : Int32).toNatClampNeg)) v1)))))))
def wp_C_X4_letOutsideIn (wopen : Nat → Int32) (Q : (Nat → Int32) → (Nat → Int32) → Prop) (warmth : Nat → Int32) (damp : Nat → Int32) : Prop := (∃ n_6, lp_C_X4_letOutsideIn_2 wopen Q n_6 warmth damp 1)
def rm_C_X4_letOutsideIn : Room := { frames := 0, cells := 0, slots := 0, locals := 0 }
abbrev pq_C_X4_letOutsideIn (dC : Nat → ClassId) (dI : Nat → Nat → Nat) (ad : Nat → Nat) (cB cI cZ cL : ClassId) (A : Nat → Prop) (LP : List Nat) (today legCount : Int32) (legs hung : Nat → Option Nat) (warmth damp wopen : Nat → Int32) (tsize : Int32) (bytes : Nat → Int32) (rat rtold rwrong : Int32) (numbers asked : Nat → Int32) (ftold : Int32) (ffarm ffrom fwhat fon : Nat → Int32) (csize ctotal : Int32) (offered : Nat → Option Nat) (cws cwa g_number g_farm g_pig g_first g_begun g_weight g_salted g_heat g_place g_target g_feedAsked g_sealed g_bad g_sold : Nat → Int32) (Q : (Nat → Int32) → (Nat → Int32) → Prop) : Array Value → State → Outcome → State → Prop := va_Qv (fun u : (Nat → Int32) × (Nat → Int32) => Q u.1 u.2) (fun u t => kB dC dI A (wA ad cB cI cZ cL LP today legCount legs hung u.1 u.2 wopen tsize bytes rat rtold rwrong numbers asked ftold ffarm ffrom fwhat fon csize ctotal offered cws cwa g_number g_farm g_pig g_first g_begun g_weight g_salted g_heat g_place g_target g_feedAsked g_sealed g_bad g_sold) (kTy cB cI cZ cL) t) A
set_option maxHeartbeats 4000000 in
set_option maxRecDepth 100000 in
theorem c_C_X4_letOutsideIn (l : Launch) (dC : Nat → ClassId) (dI : Nat → Nat → Nat) (ad : Nat → Nat) (cB cI cZ cL : ClassId) (A : Nat → Prop) (LP : List Nat) (today legCount : Int32) (legs hung : Nat → Option Nat) (warmth damp wopen : Nat → Int32) (tsize : Int32) (bytes : Nat → Int32) (rat rtold rwrong : Int32) (numbers asked : Nat → Int32) (ftold : Int32) (ffarm ffrom fwhat fon : Nat → Int32) (csize ctotal : Int32) (offered : Nat → Option Nat) (cws cwa g_number g_farm g_pig g_first g_begun g_weight g_salted g_heat g_place g_target g_feedAsked g_sealed g_bad g_sold : Nat → Int32)   (Q : (Nat → Int32) → (Nat → Int32) → Prop) (h : wp_C_X4_letOutsideIn wopen Q warmth damp) : Met l yX4_letOutsideIn wsX4_letOutsideIn rm_C_X4_letOutsideIn (va_Pc [.ref (ad 4)] (kC dC dI ad A (wA ad cB cI cZ cL LP today legCount legs hung warmth damp wopen tsize bytes rat rtold rwrong numbers asked ftold ffarm ffrom fwhat fon csize ctotal offered cws cwa g_number g_farm g_pig g_first g_begun g_weight g_salted g_heat g_place g_target g_feedAsked g_sealed g_bad g_sold) (kTy cB cI cZ cL))) (pq_C_X4_letOutsideIn dC dI ad cB cI cZ cL A LP today legCount legs hung warmth damp wopen tsize bytes rat rtold rwrong numbers asked ftold ffarm ffrom fwhat fon csize ctotal offered cws cwa g_number g_farm g_pig g_first g_begun g_weight g_salted g_heat g_place g_target g_feedAsked g_sealed g_bad g_sold Q) 0 0 A := by
  refine Met.ofW (cc := cX4_letOutsideIn) (maxL := 2) (ret := none) (by decide) rfl ?_
  intro p e s m args below meth c s₁ B hml hv
  obtain ⟨rfl, hA, hP, hK, hD, hE⟩ := hv
  have hx := B.exec
  have hb := B.bytes
  have hr := B.returns
  have hts := atoms_spec (ws := wsX4_letOutsideIn) B.pre
  have hown : s.vm.findClass RX4 = some m.cls := findClass_of_methodNamed B.named
  have hlocks := B.notSynchronized
  have hS : va_S A s.heap s.heap [] := va_S.rf
  have hk_0 := hts (.fieldLink RX4 18 "HamCellar$Rooms" "windowsOpen" "[Z") (by decide +kernel)
  have hk_1 : ∀ w ∈ wsX40, w ∈ wsX4_letOutsideIn := by decide +kernel
  have hk_2 := hts (.fieldLink RX4 9 "HamCellar$Rooms" "warmth" "[I") (by decide +kernel)
  have hk_3 := hts (.fieldLink RX4 15 "HamCellar$Rooms" "damp" "[I") (by decide +kernel)
  have hbk_C_X4_letOutsideIn_41 : ∀ (K2 : (Nat → Int32) → (Nat → Int32) → Int32 → Prop) (hK2 : ∀ (warmth : Nat → Int32) (damp : Nat → Int32) (v1 : Int32) (H : Heap) (locs : List Loc) (ls : Array Slot), va_P (dC, dI) vwCl (wA ad cB cI cZ cL LP today legCount legs hung warmth damp wopen tsize bytes rat rtold rwrong numbers asked ftold ffarm ffrom fwhat fon csize ctotal offered cws cwa g_number g_farm g_pig g_first g_begun g_weight g_salted g_heat g_place g_target g_feedAsked g_sealed g_bad g_sold) H → va_D A (wA ad cB cI cZ cL LP today legCount legs hung warmth damp wopen tsize bytes rat rtold rwrong numbers asked ftold ffarm ffrom fwhat fon csize ctotal offered cws cwa g_number g_farm g_pig g_first g_begun g_weight g_salted g_heat g_place g_target g_feedAsked g_sealed g_bad g_sold) → va_S A s.heap H locs → lv_has ls 2 [(0, .ref (ad 4)), (1, .int v1)] → K2 warmth damp v1 → W p l e (headSpec wsX4_letOutsideIn rm_C_X4_letOutsideIn).room s m ([.ref (ad 4)] : List Value).toArray below meth c H locs 0 0 (MQ below (pq_C_X4_letOutsideIn dC dI ad cB cI cZ cL A LP today legCount legs hung warmth damp wopen tsize bytes rat rtold rwrong numbers asked ftold ffarm ffrom fwhat fon csize ctotal offered cws cwa g_number g_farm g_pig g_first g_begun g_weight g_salted g_heat g_place g_target g_feedAsked g_sealed g_bad g_sold Q) ([.ref (ad 4)] : List Value).toArray s 0 0 A) (F0 m 2 ls [])) (warmth : Nat → Int32) (damp : Nat → Int32) (v1 : Int32) (H : Heap) (locs : List Loc) (ls : Array Slot), va_P (dC, dI) vwCl (wA ad cB cI cZ cL LP today legCount legs hung warmth damp wopen tsize bytes rat rtold rwrong numbers asked ftold ffarm ffrom fwhat fon csize ctotal offered cws cwa g_number g_farm g_pig g_first g_begun g_weight g_salted g_heat g_place g_target g_feedAsked g_sealed g_bad g_sold) H → va_D A (wA ad cB cI cZ cL LP today legCount legs hung warmth damp wopen tsize bytes rat rtold rwrong numbers asked ftold ffarm ffrom fwhat fon csize ctotal offered cws cwa g_number g_farm g_pig g_first g_begun g_weight g_salted g_heat g_place g_target g_feedAsked g_sealed g_bad g_sold) → va_S A s.heap H locs → lv_has ls 2 [(0, .ref (ad 4)), (1, .int v1)] → bk_C_X4_letOutsideIn_41 wopen Q K2 warmth damp v1 → W p l e (headSpec wsX4_letOutsideIn rm_C_X4_letOutsideIn).room s m ([.ref (ad 4)] : List Value).toArray below meth c H locs 0 0 (MQ below (pq_C_X4_letOutsideIn dC dI ad cB cI cZ cL A LP today legCount legs hung warmth damp wopen tsize bytes rat rtold rwrong numbers asked ftold ffarm ffrom fwhat fon csize ctotal offered cws cwa g_number g_farm g_pig g_first g_begun g_weight g_salted g_heat g_place g_target g_feedAsked g_sealed g_bad g_sold Q) ([.ref (ad 4)] : List Value).toArray s 0 0 A) (F0 m 41 ls []) := by
    intro K2 hK2 warmth damp v1 H locs ls hP hD hS hl h
    refine lv_iinc (v := v1 + 1) (lv' := [(1, .int (v1 + 1)), (0, .ref (ad 4))]) hx hb dX4_letOutsideIn_41 hl (k := 1) rfl rfl (by decide) rfl (fun ls hl => ?_)
    refine lv_goto (tgt := 2) hx hb dX4_letOutsideIn_44 (by decide) ?_
    exact hK2 warmth damp (v1 + 1) _ _ _ hP hD hS (lv_sub hl [1, 0] rfl) h
  have hlp_C_X4_letOutsideIn_2 : ∀ (n : Nat) (warmth : Nat → Int32) (damp : Nat → Int32) (v1 : Int32) (H : Heap) (locs : List Loc) (ls : Array Slot), va_P (dC, dI) vwCl (wA ad cB cI cZ cL LP today legCount legs hung warmth damp wopen tsize bytes rat rtold rwrong numbers asked ftold ffarm ffrom fwhat fon csize ctotal offered cws cwa g_number g_farm g_pig g_first g_begun g_weight g_salted g_heat g_place g_target g_feedAsked g_sealed g_bad g_sold) H → va_D A (wA ad cB cI cZ cL LP today legCount legs hung warmth damp wopen tsize bytes rat rtold rwrong numbers asked ftold ffarm ffrom fwhat fon csize ctotal offered cws cwa g_number g_farm g_pig g_first g_begun g_weight g_salted g_heat g_place g_target g_feedAsked g_sealed g_bad g_sold) → va_S A s.heap H locs → lv_has ls 2 [(0, .ref (ad 4)), (1, .int v1)] → lp_C_X4_letOutsideIn_2 wopen Q n warmth damp v1 → W p l e (headSpec wsX4_letOutsideIn rm_C_X4_letOutsideIn).room s m ([.ref (ad 4)] : List Value).toArray below meth c H locs 0 0 (MQ below (pq_C_X4_letOutsideIn dC dI ad cB cI cZ cL A LP today legCount legs hung warmth damp wopen tsize bytes rat rtold rwrong numbers asked ftold ffarm ffrom fwhat fon csize ctotal offered cws cwa g_number g_farm g_pig g_first g_begun g_weight g_salted g_heat g_place g_target g_feedAsked g_sealed g_bad g_sold Q) ([.ref (ad 4)] : List Value).toArray s 0 0 A) (F0 m 2 ls []) := by
    intro n
    induction n with
    | zero => intro warmth damp v1 H locs ls hP hD hS hl h; exact h.elim
    | succ n ih =>
      intro warmth damp v1 H locs ls hP hD hS hl h
      refine lv_iload_n hx hb dX4_letOutsideIn_2 rfl (lv_at hl 1 rfl) ?_
      refine lv_bipush (v := 6) hx hb dX4_letOutsideIn_3 (by decide) ?_
      refine lv_icmp_ge (tgt := 47) hx hb dX4_letOutsideIn_5 (by decide) (fun c_1 => ?_) (fun c_1 => ?_)
      · have h := h.1 c_1
        exact W.vret hx hb hr (fun t ht hW => ⟨⟨(warmth, damp), rfl, h, kB_mk hP hK hD ht hW.alike⟩, hS.F ht⟩) hS.2.2 dX4_letOutsideIn_47
      · have h := h.2 c_1
        refine lv_aload_n hx hb dX4_letOutsideIn_8 rfl (lv_at hl 0 rfl) ?_
        refine va_get (D := (dC, dI)) (ci := 4) (v := .ref (ad 7)) (C := RX4) (T := TX4) (N := 3) hx hb hts hk_1 hown hK hP 4 wA_g4 rfl 2 (by decide) hk_0 (fun _ h9 => h9) rfl dX4_letOutsideIn_9 ?_
        refine lv_iload_n hx hb dX4_letOutsideIn_12 rfl (lv_at hl 1 rfl) ?_
        have hi_2 := h.1
        have h := h.2
        refine va_zald hx hb hK hP 7 2 wA_g7 rfl hi_2 dX4_letOutsideIn_13 ?_
        refine lv_if_eq (tgt := 41) hx hb dX4_letOutsideIn_14 (by decide) (fun c_3 => ?_) (fun c_3 => ?_)
        · have h := h.1 c_3
          exact hbk_C_X4_letOutsideIn_41 (lp_C_X4_letOutsideIn_2 wopen Q n) ih warmth damp v1 _ _ _ hP hD hS (lv_sub hl [0, 1] rfl) h
        · have h := h.2 c_3
          refine lv_aload_n hx hb dX4_letOutsideIn_17 rfl (lv_at hl 0 rfl) ?_
          refine va_get (D := (dC, dI)) (ci := 4) (v := .ref (ad 5)) (C := RX4) (T := TX4) (N := 3) hx hb hts hk_1 hown hK hP 4 wA_g4 rfl 0 (by decide) hk_2 (fun _ h9 => h9) rfl dX4_letOutsideIn_18 ?_
          refine lv_iload_n hx hb dX4_letOutsideIn_21 rfl (lv_at hl 1 rfl) ?_
          refine lv_aload_n hx hb dX4_letOutsideIn_22 rfl (lv_at hl 0 rfl) ?_
          refine va_get (D := (dC, dI)) (ci := 4) (v := .ref (ad 5)) (C := RX4) (T := TX4) (N := 3) hx hb hts hk_1 hown hK hP 4 wA_g4 rfl 0 (by decide) hk_2 (fun _ h9 => h9) rfl dX4_letOutsideIn_23 ?_
          refine lv_iconst (v := 0) hx hb dX4_letOutsideIn_26 (by decide) ?_
          refine va_iald hx hb hK hP 5 1 wA_g5 rfl (by unfold vp_in; decide) dX4_letOutsideIn_27 ?_
          have hi_4 := h.1
          have h := h.2
          refine va_iast hx hb hK hP hD hS 5 1 wA_g5 rfl hi_4 dX4_letOutsideIn_28 (fun H locs hP2 hD2 hS => ?_)
          have hP : va_P (dC, dI) vwCl (wA ad cB cI cZ cL LP today legCount legs hung (upd warmth v1.toNatClampNeg (warmth (0 : Int32).toNatClampNeg)) damp wopen tsize bytes rat rtold rwrong numbers asked ftold ffarm ffrom fwhat fon csize ctotal offered cws cwa g_number g_farm g_pig g_first g_begun g_weight g_salted g_heat g_place g_target g_feedAsked g_sealed g_bad g_sold) H := hP_eq (wA_p_warmth) hP2
          have hD : va_D A (wA ad cB cI cZ cL LP today legCount legs hung (upd warmth v1.toNatClampNeg (warmth (0 : Int32).toNatClampNeg)) damp wopen tsize bytes rat rtold rwrong numbers asked ftold ffarm ffrom fwhat fon csize ctotal offered cws cwa g_number g_farm g_pig g_first g_begun g_weight g_salted g_heat g_place g_target g_feedAsked g_sealed g_bad g_sold) := hD_eq (wA_p_warmth) hD2
          refine lv_aload_n hx hb dX4_letOutsideIn_29 rfl (lv_at hl 0 rfl) ?_
          refine va_get (D := (dC, dI)) (ci := 4) (v := .ref (ad 6)) (C := RX4) (T := TX4) (N := 3) hx hb hts hk_1 hown hK hP 4 wA_g4 rfl 1 (by decide) hk_3 (fun _ h9 => h9) rfl dX4_letOutsideIn_30 ?_
          refine lv_iload_n hx hb dX4_letOutsideIn_33 rfl (lv_at hl 1 rfl) ?_
          refine lv_aload_n hx hb dX4_letOutsideIn_34 rfl (lv_at hl 0 rfl) ?_
          refine va_get (D := (dC, dI)) (ci := 4) (v := .ref (ad 6)) (C := RX4) (T := TX4) (N := 3) hx hb hts hk_1 hown hK hP 4 wA_g4 rfl 1 (by decide) hk_3 (fun _ h9 => h9) rfl dX4_letOutsideIn_35 ?_
          refine lv_iconst (v := 0) hx hb dX4_letOutsideIn_38 (by decide) ?_
          refine va_iald hx hb hK hP 6 1 wA_g6 rfl (by unfold vp_in; decide) dX4_letOutsideIn_39 ?_
          have hi_5 := h.1
          have h := h.2
          refine va_iast hx hb hK hP hD hS 6 1 wA_g6 rfl hi_5 dX4_letOutsideIn_40 (fun H locs hP2 hD2 hS => ?_)
          have hP : va_P (dC, dI) vwCl (wA ad cB cI cZ cL LP today legCount legs hung (upd warmth v1.toNatClampNeg (warmth (0 : Int32).toNatClampNeg)) (upd damp v1.toNatClampNeg (damp (0 : Int32).toNatClampNeg)) wopen tsize bytes rat rtold rwrong numbers asked ftold ffarm ffrom fwhat fon csize ctotal offered cws cwa g_number g_farm g_pig g_first g_begun g_weight g_salted g_heat g_place g_target g_feedAsked g_sealed g_bad g_sold) H := hP_eq (wA_p_damp) hP2
          have hD : va_D A (wA ad cB cI cZ cL LP today legCount legs hung (upd warmth v1.toNatClampNeg (warmth (0 : Int32).toNatClampNeg)) (upd damp v1.toNatClampNeg (damp (0 : Int32).toNatClampNeg)) wopen tsize bytes rat rtold rwrong numbers asked ftold ffarm ffrom fwhat fon csize ctotal offered cws cwa g_number g_farm g_pig g_first g_begun g_weight g_salted g_heat g_place g_target g_feedAsked g_sealed g_bad g_sold) := hD_eq (wA_p_damp) hD2
          exact hbk_C_X4_letOutsideIn_41 (lp_C_X4_letOutsideIn_2 wopen Q n) ih (upd warmth v1.toNatClampNeg (warmth (0 : Int32).toNatClampNeg)) (upd damp v1.toNatClampNeg (damp (0 : Int32).toNatClampNeg)) v1 _ _ _ hP hD hS (lv_sub hl [0, 1] rfl) h
  have hl := lv_entry ([.ref (ad 4)]) (n := 2) (Nat.le_of_ble_eq_true rfl)
  rw [lg_entry_eq]
  generalize (lg_sl ([.ref (ad 4)]) ++ List.replicate (2 - (lg_sl ([.ref (ad 4)])).length) Slot.unset).toArray = ls at hl ⊢
  have hl : lv_has ls 2 [(0, .ref (ad 4))] := hl
  unfold wp_C_X4_letOutsideIn at h
  refine lv_iconst (v := 1) hx hb dX4_letOutsideIn_0 (by decide) ?_
  refine lv_istore_n (lv' := [(1, .int 1), (0, .ref (ad 4))]) hx hb dX4_letOutsideIn_1 rfl hl (by decide) rfl (fun ls hl => ?_)
  obtain ⟨n_6, h⟩ := h
  exact hlp_C_X4_letOutsideIn_2 n_6 warmth damp 1 _ _ _ hP hD hS (lv_sub hl [1, 0] rfl) h
def wp_C_X4_warmthOf (warmth : Nat → Int32) (Q : Int32 → Prop) (p0 : Int32) : Prop := ((p0 < 0 → Q 0) ∧ (¬ (p0 < 0) → ((6 ≤ p0 → Q 0) ∧ (¬ (6 ≤ p0) → (vp_in p0 6 ∧ Q (warmth p0.toNatClampNeg))))))
def rm_C_X4_warmthOf : Room := { frames := 0, cells := 0, slots := 0, locals := 0 }
abbrev pq_C_X4_warmthOf (dC : Nat → ClassId) (dI : Nat → Nat → Nat) (ad : Nat → Nat) (cB cI cZ cL : ClassId) (A : Nat → Prop) (LP : List Nat) (today legCount : Int32) (legs hung : Nat → Option Nat) (warmth damp wopen : Nat → Int32) (tsize : Int32) (bytes : Nat → Int32) (rat rtold rwrong : Int32) (numbers asked : Nat → Int32) (ftold : Int32) (ffarm ffrom fwhat fon : Nat → Int32) (csize ctotal : Int32) (offered : Nat → Option Nat) (cws cwa g_number g_farm g_pig g_first g_begun g_weight g_salted g_heat g_place g_target g_feedAsked g_sealed g_bad g_sold : Nat → Int32) (Q : Int32 → Prop) : Array Value → State → Outcome → State → Prop := va_Qi (fun (r : Int32) (u : Unit) => Q r ) (fun u t => kB dC dI A (wA ad cB cI cZ cL LP today legCount legs hung warmth damp wopen tsize bytes rat rtold rwrong numbers asked ftold ffarm ffrom fwhat fon csize ctotal offered cws cwa g_number g_farm g_pig g_first g_begun g_weight g_salted g_heat g_place g_target g_feedAsked g_sealed g_bad g_sold) (kTy cB cI cZ cL) t) A
set_option maxHeartbeats 4000000 in
set_option maxRecDepth 100000 in
theorem c_C_X4_warmthOf (l : Launch) (dC : Nat → ClassId) (dI : Nat → Nat → Nat) (ad : Nat → Nat) (cB cI cZ cL : ClassId) (A : Nat → Prop) (LP : List Nat) (today legCount : Int32) (legs hung : Nat → Option Nat) (warmth damp wopen : Nat → Int32) (tsize : Int32) (bytes : Nat → Int32) (rat rtold rwrong : Int32) (numbers asked : Nat → Int32) (ftold : Int32) (ffarm ffrom fwhat fon : Nat → Int32) (csize ctotal : Int32) (offered : Nat → Option Nat) (cws cwa g_number g_farm g_pig g_first g_begun g_weight g_salted g_heat g_place g_target g_feedAsked g_sealed g_bad g_sold : Nat → Int32) (p0 : Int32)  (Q : Int32 → Prop) (h : wp_C_X4_warmthOf warmth Q p0) : Met l yX4_warmthOf wsX4_warmthOf rm_C_X4_warmthOf (va_Pc [.ref (ad 4), .int p0] (kC dC dI ad A (wA ad cB cI cZ cL LP today legCount legs hung warmth damp wopen tsize bytes rat rtold rwrong numbers asked ftold ffarm ffrom fwhat fon csize ctotal offered cws cwa g_number g_farm g_pig g_first g_begun g_weight g_salted g_heat g_place g_target g_feedAsked g_sealed g_bad g_sold) (kTy cB cI cZ cL))) (pq_C_X4_warmthOf dC dI ad cB cI cZ cL A LP today legCount legs hung warmth damp wopen tsize bytes rat rtold rwrong numbers asked ftold ffarm ffrom fwhat fon csize ctotal offered cws cwa g_number g_farm g_pig g_first g_begun g_weight g_salted g_heat g_place g_target g_feedAsked g_sealed g_bad g_sold Q) 0 0 A := by
  refine Met.ofW (cc := cX4_warmthOf) (maxL := 2) (ret := (some .int)) (by decide) rfl ?_
  intro p e s m args below meth c s₁ B hml hv
  obtain ⟨rfl, hA, hP, hK, hD, hE⟩ := hv
  have hx := B.exec
  have hb := B.bytes
  have hr := B.returns
  have hts := atoms_spec (ws := wsX4_warmthOf) B.pre
  have hown : s.vm.findClass RX4 = some m.cls := findClass_of_methodNamed B.named
  have hlocks := B.notSynchronized
  have hS : va_S A s.heap s.heap [] := va_S.rf
  have hk_0 := hts (.fieldLink RX4 9 "HamCellar$Rooms" "warmth" "[I") (by decide +kernel)
  have hk_1 : ∀ w ∈ wsX40, w ∈ wsX4_warmthOf := by decide +kernel
  have hl := lv_entry ([.ref (ad 4), .int p0]) (n := 2) (Nat.le_of_ble_eq_true rfl)
  rw [lg_entry_eq]
  generalize (lg_sl ([.ref (ad 4), .int p0]) ++ List.replicate (2 - (lg_sl ([.ref (ad 4), .int p0])).length) Slot.unset).toArray = ls at hl ⊢
  have hl : lv_has ls 2 [(0, .ref (ad 4)), (1, .int p0)] := hl
  unfold wp_C_X4_warmthOf at h
  refine lv_iload_n hx hb dX4_warmthOf_0 rfl (lv_at hl 1 rfl) ?_
  refine lv_if_lt (tgt := 19) hx hb dX4_warmthOf_1 (by decide) (fun c_1 => ?_) (fun c_1 => ?_)
  · have h := h.1 c_1
    refine lv_iconst (v := 0) hx hb dX4_warmthOf_19 (by decide) ?_
    exact W.iret (v := 0) hx hb hr (fun t ht hW => ⟨⟨0, (), rfl, h, kB_mk hP hK hD ht hW.alike⟩, hS.F ht⟩) hS.2.2 dX4_warmthOf_20
  · have h := h.2 c_1
    refine lv_iload_n hx hb dX4_warmthOf_4 rfl (lv_at hl 1 rfl) ?_
    refine lv_bipush (v := 6) hx hb dX4_warmthOf_5 (by decide) ?_
    refine lv_icmp_ge (tgt := 19) hx hb dX4_warmthOf_7 (by decide) (fun c_2 => ?_) (fun c_2 => ?_)
    · have h := h.1 c_2
      refine lv_iconst (v := 0) hx hb dX4_warmthOf_19 (by decide) ?_
      exact W.iret (v := 0) hx hb hr (fun t ht hW => ⟨⟨0, (), rfl, h, kB_mk hP hK hD ht hW.alike⟩, hS.F ht⟩) hS.2.2 dX4_warmthOf_20
    · have h := h.2 c_2
      refine lv_aload_n hx hb dX4_warmthOf_10 rfl (lv_at hl 0 rfl) ?_
      refine va_get (D := (dC, dI)) (ci := 4) (v := .ref (ad 5)) (C := RX4) (T := TX4) (N := 3) hx hb hts hk_1 hown hK hP 4 wA_g4 rfl 0 (by decide) hk_0 (fun _ h9 => h9) rfl dX4_warmthOf_11 ?_
      refine lv_iload_n hx hb dX4_warmthOf_14 rfl (lv_at hl 1 rfl) ?_
      have hi_3 := h.1
      have h := h.2
      refine va_iald hx hb hK hP 5 1 wA_g5 rfl hi_3 dX4_warmthOf_15 ?_
      refine lv_goto (tgt := 20) hx hb dX4_warmthOf_16 (by decide) ?_
      exact W.iret (v := warmth p0.toNatClampNeg) hx hb hr (fun t ht hW => ⟨⟨warmth p0.toNatClampNeg, (), rfl, h, kB_mk hP hK hD ht hW.alike⟩, hS.F ht⟩) hS.2.2 dX4_warmthOf_20
def wp_C_X4_dampOf (damp : Nat → Int32) (Q : Int32 → Prop) (p0 : Int32) : Prop := ((p0 < 0 → Q 0) ∧ (¬ (p0 < 0) → ((6 ≤ p0 → Q 0) ∧ (¬ (6 ≤ p0) → (vp_in p0 6 ∧ Q (damp p0.toNatClampNeg))))))
def rm_C_X4_dampOf : Room := { frames := 0, cells := 0, slots := 0, locals := 0 }
abbrev pq_C_X4_dampOf (dC : Nat → ClassId) (dI : Nat → Nat → Nat) (ad : Nat → Nat) (cB cI cZ cL : ClassId) (A : Nat → Prop) (LP : List Nat) (today legCount : Int32) (legs hung : Nat → Option Nat) (warmth damp wopen : Nat → Int32) (tsize : Int32) (bytes : Nat → Int32) (rat rtold rwrong : Int32) (numbers asked : Nat → Int32) (ftold : Int32) (ffarm ffrom fwhat fon : Nat → Int32) (csize ctotal : Int32) (offered : Nat → Option Nat) (cws cwa g_number g_farm g_pig g_first g_begun g_weight g_salted g_heat g_place g_target g_feedAsked g_sealed g_bad g_sold : Nat → Int32) (Q : Int32 → Prop) : Array Value → State → Outcome → State → Prop := va_Qi (fun (r : Int32) (u : Unit) => Q r ) (fun u t => kB dC dI A (wA ad cB cI cZ cL LP today legCount legs hung warmth damp wopen tsize bytes rat rtold rwrong numbers asked ftold ffarm ffrom fwhat fon csize ctotal offered cws cwa g_number g_farm g_pig g_first g_begun g_weight g_salted g_heat g_place g_target g_feedAsked g_sealed g_bad g_sold) (kTy cB cI cZ cL) t) A
set_option maxHeartbeats 4000000 in
set_option maxRecDepth 100000 in
theorem c_C_X4_dampOf (l : Launch) (dC : Nat → ClassId) (dI : Nat → Nat → Nat) (ad : Nat → Nat) (cB cI cZ cL : ClassId) (A : Nat → Prop) (LP : List Nat) (today legCount : Int32) (legs hung : Nat → Option Nat) (warmth damp wopen : Nat → Int32) (tsize : Int32) (bytes : Nat → Int32) (rat rtold rwrong : Int32) (numbers asked : Nat → Int32) (ftold : Int32) (ffarm ffrom fwhat fon : Nat → Int32) (csize ctotal : Int32) (offered : Nat → Option Nat) (cws cwa g_number g_farm g_pig g_first g_begun g_weight g_salted g_heat g_place g_target g_feedAsked g_sealed g_bad g_sold : Nat → Int32) (p0 : Int32)  (Q : Int32 → Prop) (h : wp_C_X4_dampOf damp Q p0) : Met l yX4_dampOf wsX4_dampOf rm_C_X4_dampOf (va_Pc [.ref (ad 4), .int p0] (kC dC dI ad A (wA ad cB cI cZ cL LP today legCount legs hung warmth damp wopen tsize bytes rat rtold rwrong numbers asked ftold ffarm ffrom fwhat fon csize ctotal offered cws cwa g_number g_farm g_pig g_first g_begun g_weight g_salted g_heat g_place g_target g_feedAsked g_sealed g_bad g_sold) (kTy cB cI cZ cL))) (pq_C_X4_dampOf dC dI ad cB cI cZ cL A LP today legCount legs hung warmth damp wopen tsize bytes rat rtold rwrong numbers asked ftold ffarm ffrom fwhat fon csize ctotal offered cws cwa g_number g_farm g_pig g_first g_begun g_weight g_salted g_heat g_place g_target g_feedAsked g_sealed g_bad g_sold Q) 0 0 A := by
  refine Met.ofW (cc := cX4_dampOf) (maxL := 2) (ret := (some .int)) (by decide) rfl ?_
  intro p e s m args below meth c s₁ B hml hv
  obtain ⟨rfl, hA, hP, hK, hD, hE⟩ := hv
  have hx := B.exec
  have hb := B.bytes
  have hr := B.returns
  have hts := atoms_spec (ws := wsX4_dampOf) B.pre
  have hown : s.vm.findClass RX4 = some m.cls := findClass_of_methodNamed B.named
  have hlocks := B.notSynchronized
  have hS : va_S A s.heap s.heap [] := va_S.rf
  have hk_0 := hts (.fieldLink RX4 15 "HamCellar$Rooms" "damp" "[I") (by decide +kernel)
  have hk_1 : ∀ w ∈ wsX40, w ∈ wsX4_dampOf := by decide +kernel
  have hl := lv_entry ([.ref (ad 4), .int p0]) (n := 2) (Nat.le_of_ble_eq_true rfl)
  rw [lg_entry_eq]
  generalize (lg_sl ([.ref (ad 4), .int p0]) ++ List.replicate (2 - (lg_sl ([.ref (ad 4), .int p0])).length) Slot.unset).toArray = ls at hl ⊢
  have hl : lv_has ls 2 [(0, .ref (ad 4)), (1, .int p0)] := hl
  unfold wp_C_X4_dampOf at h
  refine lv_iload_n hx hb dX4_dampOf_0 rfl (lv_at hl 1 rfl) ?_
  refine lv_if_lt (tgt := 19) hx hb dX4_dampOf_1 (by decide) (fun c_1 => ?_) (fun c_1 => ?_)
  · have h := h.1 c_1
    refine lv_iconst (v := 0) hx hb dX4_dampOf_19 (by decide) ?_
    exact W.iret (v := 0) hx hb hr (fun t ht hW => ⟨⟨0, (), rfl, h, kB_mk hP hK hD ht hW.alike⟩, hS.F ht⟩) hS.2.2 dX4_dampOf_20
  · have h := h.2 c_1
    refine lv_iload_n hx hb dX4_dampOf_4 rfl (lv_at hl 1 rfl) ?_
    refine lv_bipush (v := 6) hx hb dX4_dampOf_5 (by decide) ?_
    refine lv_icmp_ge (tgt := 19) hx hb dX4_dampOf_7 (by decide) (fun c_2 => ?_) (fun c_2 => ?_)
    · have h := h.1 c_2
      refine lv_iconst (v := 0) hx hb dX4_dampOf_19 (by decide) ?_
      exact W.iret (v := 0) hx hb hr (fun t ht hW => ⟨⟨0, (), rfl, h, kB_mk hP hK hD ht hW.alike⟩, hS.F ht⟩) hS.2.2 dX4_dampOf_20
    · have h := h.2 c_2
      refine lv_aload_n hx hb dX4_dampOf_10 rfl (lv_at hl 0 rfl) ?_
      refine va_get (D := (dC, dI)) (ci := 4) (v := .ref (ad 6)) (C := RX4) (T := TX4) (N := 3) hx hb hts hk_1 hown hK hP 4 wA_g4 rfl 1 (by decide) hk_0 (fun _ h9 => h9) rfl dX4_dampOf_11 ?_
      refine lv_iload_n hx hb dX4_dampOf_14 rfl (lv_at hl 1 rfl) ?_
      have hi_3 := h.1
      have h := h.2
      refine va_iald hx hb hK hP 6 1 wA_g6 rfl hi_3 dX4_dampOf_15 ?_
      refine lv_goto (tgt := 20) hx hb dX4_dampOf_16 (by decide) ?_
      exact W.iret (v := damp p0.toNatClampNeg) hx hb hr (fun t ht hW => ⟨⟨damp p0.toNatClampNeg, (), rfl, h, kB_mk hP hK hD ht hW.alike⟩, hS.F ht⟩) hS.2.2 dX4_dampOf_20
