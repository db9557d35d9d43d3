def wp_C_X5_numberOf (numbers : Nat → Int32) (Q : Int32 → Prop) (p0 : Int32) : Prop := ((p0 < 0 → Q 0) ∧ (¬ (p0 < 0) → ((5 ≤ p0 → Q 0) ∧ (¬ (5 ≤ p0) → (vp_in p0 5 ∧ Q (numbers p0.toNatClampNeg))))))
def rm_C_X5_numberOf : Room := { frames := 0, cells := 0, slots := 0, locals := 0 }
abbrev pq_C_X5_numberOf (dC : Nat → ClassId) (dI : Nat → Nat → Nat) (ad : Nat → Nat) (cB cI cZ cL : ClassId) (A : Nat → Prop) (LP : List Nat) (today legCount : Int32) (legs hung : Nat → Option Nat) (warmth damp wopen : Nat → Int32) (tsize : Int32) (bytes : Nat → Int32) (rat rtold rwrong : Int32) (numbers asked : Nat → Int32) (ftold : Int32) (ffarm ffrom fwhat fon : Nat → Int32) (csize ctotal : Int32) (offered : Nat → Option Nat) (cws cwa g_number g_farm g_pig g_first g_begun g_weight g_salted g_heat g_place g_target g_feedAsked g_sealed g_bad g_sold : Nat → Int32) (Q : Int32 → Prop) : Array Value → State → Outcome → State → Prop := va_Qi (fun (r : Int32) (u : Unit) => Q r ) (fun u t => kB dC dI A (wA ad cB cI cZ cL LP today legCount legs hung warmth damp wopen tsize bytes rat rtold rwrong numbers asked ftold ffarm ffrom fwhat fon csize ctotal offered cws cwa g_number g_farm g_pig g_first g_begun g_weight g_salted g_heat g_place g_target g_feedAsked g_sealed g_bad g_sold) (kTy cB cI cZ cL) t) A
set_option maxHeartbeats 4000000 in
set_option maxRecDepth 100000 in
theorem c_C_X5_numberOf (l : Launch) (dC : Nat → ClassId) (dI : Nat → Nat → Nat) (ad : Nat → Nat) (cB cI cZ cL : ClassId) (A : Nat → Prop) (LP : List Nat) (today legCount : Int32) (legs hung : Nat → Option Nat) (warmth damp wopen : Nat → Int32) (tsize : Int32) (bytes : Nat → Int32) (rat rtold rwrong : Int32) (numbers asked : Nat → Int32) (ftold : Int32) (ffarm ffrom fwhat fon : Nat → Int32) (csize ctotal : Int32) (offered : Nat → Option Nat) (cws cwa g_number g_farm g_pig g_first g_begun g_weight g_salted g_heat g_place g_target g_feedAsked g_sealed g_bad g_sold : Nat → Int32) (p0 : Int32)  (Q : Int32 → Prop) (h : wp_C_X5_numberOf numbers Q p0) : Met l yX5_numberOf wsX5_numberOf rm_C_X5_numberOf (va_Pc [.ref (ad 10), .int p0] (kC dC dI ad A (wA ad cB cI cZ cL LP today legCount legs hung warmth damp wopen tsize bytes rat rtold rwrong numbers asked ftold ffarm ffrom fwhat fon csize ctotal offered cws cwa g_number g_farm g_pig g_first g_begun g_weight g_salted g_heat g_place g_target g_feedAsked g_sealed g_bad g_sold) (kTy cB cI cZ cL))) (pq_C_X5_numberOf dC dI ad cB cI cZ cL A LP today legCount legs hung warmth damp wopen tsize bytes rat rtold rwrong numbers asked ftold ffarm ffrom fwhat fon csize ctotal offered cws cwa g_number g_farm g_pig g_first g_begun g_weight g_salted g_heat g_place g_target g_feedAsked g_sealed g_bad g_sold Q) 0 0 A := by
  refine Met.ofW (cc := cX5_numberOf) (maxL := 2) (ret := (some .int)) (by decide) rfl ?_
  intro p e s m args below meth c s₁ B hml hv
  obtain ⟨rfl, hA, hP, hK, hD, hE⟩ := hv
  have hx := B.exec
  have hb := B.bytes
  have hr := B.returns
  have hts := atoms_spec (ws := wsX5_numberOf) B.pre
  have hown : s.vm.findClass RX5 = some m.cls := findClass_of_methodNamed B.named
  have hlocks := B.notSynchronized
  have hS : va_S A s.heap s.heap [] := va_S.rf
  have hk_0 := hts (.fieldLink RX5 9 "HamCellar$RuleReader" "numbers" "[I") (by decide +kernel)
  have hk_1 : ∀ w ∈ wsX50, w ∈ wsX5_numberOf := by decide +kernel
  have hl := lv_entry ([.ref (ad 10), .int p0]) (n := 2) (Nat.le_of_ble_eq_true rfl)
  rw [lg_entry_eq]
  generalize (lg_sl ([.ref (ad 10), .int p0]) ++ List.replicate (2 - (lg_sl ([.ref (ad 10), .int p0])).length) Slot.unset).toArray = ls at hl ⊢
  have hl : lv_has ls 2 [(0, .ref (ad 10)), (1, .int p0)] := hl
  unfold wp_C_X5_numberOf at h
  refine lv_iload_n hx hb dX5_numberOf_0 rfl (lv_at hl 1 rfl) ?_
  refine lv_if_lt (tgt := 22) hx hb dX5_numberOf_1 (by decide) (fun c_1 => ?_) (fun c_1 => ?_)
  · have h := h.1 c_1
    refine lv_iconst (v := 0) hx hb dX5_numberOf_22 (by decide) ?_
    exact W.iret (v := 0) hx hb hr (fun t ht hW => ⟨⟨0, (), rfl, h, kB_mk hP hK hD ht hW.alike⟩, hS.F ht⟩) hS.2.2 dX5_numberOf_23
  · have h := h.2 c_1
    refine lv_iload_n hx hb dX5_numberOf_4 rfl (lv_at hl 1 rfl) ?_
    refine lv_aload_n hx hb dX5_numberOf_5 rfl (lv_at hl 0 rfl) ?_
    refine va_get (D := (dC, dI)) (ci := 5) (v := .ref (ad 11)) (C := RX5) (T := TX5) (N := 5) hx hb hts hk_1 hown hK hP 10 wA_g10 rfl 1 (by decide) hk_0 (fun _ h9 => h9) rfl dX5_numberOf_6 ?_
    refine va_alen hx hb hK hP 11 1 wA_g11 rfl (v := 5) rfl dX5_numberOf_9 ?_
    refine lv_icmp_ge (tgt := 22) hx hb dX5_numberOf_10 (by decide) (fun c_2 => ?_) (fun c_2 => ?_)
    · have h := h.1 c_2
      refine lv_iconst (v := 0) hx hb dX5_numberOf_22 (by decide) ?_
      exact W.iret (v := 0) hx hb hr (fun t ht hW => ⟨⟨0, (), rfl, h, kB_mk hP hK hD ht hW.alike⟩, hS.F ht⟩) hS.2.2 dX5_numberOf_23
    · have h := h.2 c_2
      refine lv_aload_n hx hb dX5_numberOf_13 rfl (lv_at hl 0 rfl) ?_
      refine va_get (D := (dC, dI)) (ci := 5) (v := .ref (ad 11)) (C := RX5) (T := TX5) (N := 5) hx hb hts hk_1 hown hK hP 10 wA_g10 rfl 1 (by decide) hk_0 (fun _ h9 => h9) rfl dX5_numberOf_14 ?_
      refine lv_iload_n hx hb dX5_numberOf_17 rfl (lv_at hl 1 rfl) ?_
      have hi_3 := h.1
      have h := h.2
      refine va_iald hx hb hK hP 11 1 wA_g11 rfl hi_3 dX5_numberOf_18 ?_
      refine lv_goto (tgt := 23) hx hb dX5_numberOf_19 (by decide) ?_
      exact W.iret (v := numbers p0.toNatClampNeg) hx hb hr (fun t ht hW => ⟨⟨numbers p0.toNatClampNeg, (), rfl, h, kB_mk hP hK hD ht hW.alike⟩, hS.F ht⟩) hS.2.2 dX5_numberOf_23
def lp_C_X5_skipBlanks_0 (tsize : Int32) (bytes : Nat → Int32)  (Q : Int32 → Prop) : Nat → Int32 → Prop
  | 0 => fun _ => False
  | n + 1 => fun rat => wp_C_X6_size tsize (fun r_1 => ((r_1 ≤ rat → Q rat) ∧ (¬ (r_1 ≤ rat) → wp_C_X6_byteAt tsize bytes (fun r_3 => ((¬ r_3 = 32 → Q rat) ∧ (r_3 = 32 → lp_C_X5_skipBlanks_0 tsize bytes Q n (rat + 1)))) rat)))
def wp_C_X5_skipBlanks (tsize : Int32) (bytes : Nat → Int32) (Q : Int32 → Prop) (rat : Int32) : Prop := (∃ n_5, lp_C_X5_skipBlanks_0 tsize bytes Q n_5 rat)
def rm_C_X5_skipBlanks : Room := { frames := 1, cells := 0, slots := 0, locals := 21 }
abbrev pq_C_X5_skipBlanks (dC : Nat → ClassId) (dI : Nat → Nat → Nat) (ad : Nat → Nat) (cB cI cZ cL : ClassId) (A : Nat → Prop) (LP : List Nat) (today legCount : Int32) (legs hung : Nat → Option Nat) (warmth damp wopen : Nat → Int32) (tsize : Int32) (bytes : Nat → Int32) (rat rtold rwrong : Int32) (numbers asked : Nat → Int32) (ftold : Int32) (ffarm ffrom fwhat fon : Nat → Int32) (csize ctotal : Int32) (offered : Nat → Option Nat) (cws cwa g_number g_farm g_pig g_first g_begun g_weight g_salted g_heat g_place g_target g_feedAsked g_sealed g_bad g_sold : Nat → Int32) (Q : Int32 → Prop) : Array Value → State → Outcome → State → Prop := va_Qv (fun u : Int32 => Q u) (fun u t => kB dC dI A (wA ad cB cI cZ cL LP today legCount legs hung warmth damp wopen tsize bytes u rtold rwrong numbers asked ftold ffarm ffrom fwhat fon csize ctotal offered cws cwa g_number g_farm g_pig g_first g_begun g_weight g_salted g_heat g_place g_target g_feedAsked g_sealed g_bad g_sold) (kTy cB cI cZ cL) t) A
set_option maxHeartbeats 4000000 in
set_option maxRecDepth 100000 in
theorem c_C_X5_skipBlanks (l : Launch) (dC : Nat → ClassId) (dI : Nat → Nat → Nat) (ad : Nat → Nat) (cB cI cZ cL : ClassId) (A : Nat → Prop) (LP : List Nat) (today legCount : Int32) (legs hung : Nat → Option Nat) (warmth damp wopen : Nat → Int32) (tsize : Int32) (bytes : Nat → Int32) (rat rtold rwrong : Int32) (numbers asked : Nat → Int32) (ftold : Int32) (ffarm ffrom fwhat fon : Nat → Int32) (csize ctotal : Int32) (offered : Nat → Option Nat) (cws cwa g_number g_farm g_pig g_first g_begun g_weight g_salted g_heat g_place g_target g_feedAsked g_sealed g_bad g_sold : Nat → Int32)   (Q : Int32 → Prop) (h : wp_C_X5_skipBlanks tsize bytes Q rat) : Met l yX5_skipBlanks wsX5_skipBlanks rm_C_X5_skipBlanks (va_Pc [.ref (ad 10)] (kC dC dI ad A (wA ad cB cI cZ cL LP today legCount legs hung warmth damp wopen tsize bytes rat rtold rwrong numbers asked ftold ffarm ffrom fwhat fon csize ctotal offered cws cwa g_number g_farm g_pig g_first g_begun g_weight g_salted g_heat g_place g_target g_feedAsked g_sealed g_bad g_sold) (kTy cB cI cZ cL))) (pq_C_X5_skipBlanks dC dI ad cB cI cZ cL A LP today legCount legs hung warmth damp wopen tsize bytes rat rtold rwrong numbers asked ftold ffarm ffrom fwhat fon csize ctotal offered cws cwa g_number g_farm g_pig g_first g_begun g_weight g_salted g_heat g_place g_target g_feedAsked g_sealed g_bad g_sold Q) 0 0 A := by
  refine Met.ofW (cc := cX5_skipBlanks) (maxL := 1) (ret := none) (by decide) rfl ?_
  intro p e s m args below meth c s₁ B hml hv
  obtain ⟨rfl, hA, hP, hK, hD, hE⟩ := hv
  have hx := B.exec
  have hb := B.bytes
  have hr := B.returns
  have hts := atoms_spec (ws := wsX5_skipBlanks) B.pre
  have hown : s.vm.findClass RX5 = some m.cls := findClass_of_methodNamed B.named
  have hlocks := B.notSynchronized
  have hS : va_S A s.heap s.heap [] := va_S.rf
  have hk_0 := hts (.fieldLink RX5 23 "HamCellar$RuleReader" "at" "I") (by decide +kernel)
  have hk_1 : ∀ w ∈ wsX50, w ∈ wsX5_skipBlanks := by decide +kernel
  have hk_2 := hts (.fieldLink RX5 19 "HamCellar$RuleReader" "tape" "LHamCellar$Tape;") (by decide +kernel)
  have hlp_C_X5_skipBlanks_0 : ∀ (n : Nat) (rat : Int32) (H : Heap) (locs : List Loc) (ls : Array Slot), va_P (dC, dI) vwCl (wA ad cB cI cZ cL LP today legCount legs hung warmth damp wopen tsize bytes rat rtold rwrong numbers asked ftold ffarm ffrom fwhat fon csize ctotal offered cws cwa g_number g_farm g_pig g_first g_begun g_weight g_salted g_heat g_place g_target g_feedAsked g_sealed g_bad g_sold) H → va_D A (wA ad cB cI cZ cL LP today legCount legs hung warmth damp wopen tsize bytes rat rtold rwrong numbers asked ftold ffarm ffrom fwhat fon csize ctotal offered cws cwa g_number g_farm g_pig g_first g_begun g_weight g_salted g_heat g_place g_target g_feedAsked g_sealed g_bad g_sold) → va_S A s.heap H locs → lv_has ls 1 [(0, .ref (ad 10))] → lp_C_X5_skipBlanks_0 tsize bytes Q n rat → W p l e (headSpec wsX5_skipBlanks rm_C_X5_skipBlanks).room s m ([.ref (ad 10)] : List Value).toArray below meth c H locs 0 0 (MQ below (pq_C_X5_skipBlanks dC dI ad cB cI cZ cL A LP today legCount legs hung warmth damp wopen tsize bytes rat rtold rwrong numbers asked ftold ffarm ffrom fwhat fon csize ctotal offered cws cwa g_number g_farm g_pig g_first g_begun g_weight g_salted g_heat g_place g_target g_feedAsked g_sealed g_bad g_sold Q) ([.ref (ad 10)] : List Value).toArray s 0 0 A) (F0 m 0 ls []) := by
    intro n
    induction n with
    | zero => intro rat H locs ls hP hD hS hl h; exact h.elim
    | succ n ih =>
      intro rat H locs ls hP hD hS hl h
      have h : wp_C_X6_size tsize (fun r_1 => ((r_1 ≤ rat → Q rat) ∧ (¬ (r_1 ≤ rat) → wp_C_X6_byteAt tsize bytes (fun r_3 => ((¬ r_3 = 32 → Q rat) ∧ (r_3 = 32 → lp_C_X5_skipBlanks_0 tsize bytes Q n (rat + 1)))) rat))) := h
      refine lv_aload_n hx hb dX5_skipBlanks_0 rfl (lv_at hl 0 rfl) ?_
      refine va_get (D := (dC, dI)) (ci := 5) (v := .int rat) (C := RX5) (T := TX5) (N := 5) hx hb hts hk_1 hown hK hP 10 wA_g10 rfl 2 (by decide) hk_0 (fun _ h9 => h9) rfl dX5_skipBlanks_1 ?_
      refine lv_aload_n hx hb dX5_skipBlanks_4 rfl (lv_at hl 0 rfl) ?_
      refine va_get (D := (dC, dI)) (ci := 5) (v := .ref (ad 8)) (C := RX5) (T := TX5) (N := 5) hx hb hts hk_1 hown hK hP 10 wA_g10 rfl 0 (by decide) hk_2 (fun _ h9 => h9) rfl dX5_skipBlanks_5 ?_
      refine va_calli (va_runV (As := []) (rest := [.int rat]) ⟨hx, hb, hml, hown, hts⟩ (c_C_X6_size l dC dI ad cB cI cZ cL A LP today legCount legs hung warmth damp wopen tsize bytes rat rtold rwrong numbers asked ftold ffarm ffrom fwhat fon csize ctotal offered cws cwa g_number g_farm g_pig g_first g_begun g_weight g_salted g_heat g_place g_target g_feedAsked g_sealed g_bad g_sold _ h) (cwV 0 hts gX5_skipBlanks_X6_size rfl rfl rfl (by decide +kernel) ⟨(Nat.le_of_ble_eq_true rfl), (Nat.le_of_ble_eq_true rfl)⟩) ⟨kC_blind, va_recv hK hP (ci := 6) (q0 := 8) rfl wA_g8, fun U hU hW => ⟨rfl, kC_go hA hS hP hK hD hE U hU hW⟩⟩ rfl rfl hl.1 rfl (lv_room (Nat.le_of_ble_eq_true rfl)) dX5_skipBlanks_8 ⟨(Nat.le_of_ble_eq_true rfl), (Nat.le_of_ble_eq_true rfl)⟩) hS (fun q _ h => h) (fun q h => h) (fun r_1 u t H locs ht hvm hw hB hz1 hk1 hS => ?_)
      have h := hw
      try dsimp only at h
      have hP : va_P (dC, dI) vwCl (wA ad cB cI cZ cL LP today legCount legs hung warmth damp wopen tsize bytes rat rtold rwrong numbers asked ftold ffarm ffrom fwhat fon csize ctotal offered cws cwa g_number g_farm g_pig g_first g_begun g_weight g_salted g_heat g_place g_target g_feedAsked g_sealed g_bad g_sold) H := by rw [← ht]; exact hB.1
      have hD : va_D A (wA ad cB cI cZ cL LP today legCount legs hung warmth damp wopen tsize bytes rat rtold rwrong numbers asked ftold ffarm ffrom fwhat fon csize ctotal offered cws cwa g_number g_farm g_pig g_first g_begun g_weight g_salted g_heat g_place g_target g_feedAsked g_sealed g_bad g_sold) := hB.2.2
      refine lv_icmp_ge (tgt := 43) hx hb dX5_skipBlanks_11 (by decide) (fun c_2 => ?_) (fun c_2 => ?_)
      · have h := h.1 c_2
        exact W.vret hx hb hr (fun t ht hW => ⟨⟨(rat), rfl, h, kB_mk hP hK hD ht hW.alike⟩, hS.F ht⟩) hS.2.2 dX5_skipBlanks_43
      · have h := h.2 c_2
        refine lv_aload_n hx hb dX5_skipBlanks_14 rfl (lv_at hl 0 rfl) ?_
        refine va_get (D := (dC, dI)) (ci := 5) (v := .ref (ad 8)) (C := RX5) (T := TX5) (N := 5) hx hb hts hk_1 hown hK hP 10 wA_g10 rfl 0 (by decide) hk_2 (fun _ h9 => h9) rfl dX5_skipBlanks_15 ?_
        refine lv_aload_n hx hb dX5_skipBlanks_18 rfl (lv_at hl 0 rfl) ?_
        refine va_get (D := (dC, dI)) (ci := 5) (v := .int rat) (C := RX5) (T := TX5) (N := 5) hx hb hts hk_1 hown hK hP 10 wA_g10 rfl 2 (by decide) hk_0 (fun _ h9 => h9) rfl dX5_skipBlanks_19 ?_
        refine va_calli (va_runV (As := [.int rat]) (rest := []) ⟨hx, hb, hml, hown, hts⟩ (c_C_X6_byteAt l dC dI ad cB cI cZ cL A LP today legCount legs hung warmth damp wopen tsize bytes rat rtold rwrong numbers asked ftold ffarm ffrom fwhat fon csize ctotal offered cws cwa g_number g_farm g_pig g_first g_begun g_weight g_salted g_heat g_place g_target g_feedAsked g_sealed g_bad g_sold rat _ h) (cwV 1 hts gX5_skipBlanks_X6_byteAt rfl rfl rfl (by decide +kernel) ⟨(Nat.le_of_ble_eq_true rfl), (Nat.le_of_ble_eq_true rfl)⟩) ⟨kC_blind, va_recv hK hP (ci := 6) (q0 := 8) rfl wA_g8, fun U hU hW => ⟨rfl, kC_go hA hS hP hK hD hE U hU hW⟩⟩ rfl rfl hl.1 rfl (lv_room (Nat.le_of_ble_eq_true rfl)) dX5_skipBlanks_22 ⟨(Nat.le_of_ble_eq_true rfl), (Nat.le_of_ble_eq_true rfl)⟩) hS (fun q _ h => h) (fun q h => h) (fun r_3 u t H locs ht hvm hw hB hz1 hk1 hS => ?_)
        have h := hw
        try dsimp only at h
        have hP : va_P (dC, dI) vwCl (wA ad cB cI cZ cL LP today legCount legs hung warmth damp wopen tsize bytes rat rtold rwrong numbers asked ftold ffarm ffrom fwhat fon csize ctotal offered cws cwa g_number g_farm g_pig g_first g_begun g_weight g_salted g_heat g_place g_target g_feedAsked g_sealed g_bad g_sold) H := by rw [← ht]; exact hB.1
        have hD : va_D A (wA ad cB cI cZ cL LP today legCount legs hung warmth damp wopen tsize bytes rat rtold rwrong numbers asked ftold ffarm ffrom fwhat fon csize ctotal offered cws cwa g_number g_farm g_pig g_first g_begun g_weight g_salted g_heat g_place g_target g_feedAsked g_sealed g_bad g_sold) := hB.2.2
        refine lv_bipush (v := 32) hx hb dX5_skipBlanks_25 (by decide) ?_
        refine lv_icmp_ne (tgt := 43) hx hb dX5_skipBlanks_27 (by decide) (fun c_4 => ?_) (fun c_4 => ?_)
        · have h := h.1 c_4
          exact W.vret hx hb hr (fun t ht hW => ⟨⟨(rat), rfl, h, kB_mk hP hK hD ht hW.alike⟩, hS.F ht⟩) hS.2.2 dX5_skipBlanks_43
        · have h := h.2 c_4
          refine lv_aload_n hx hb dX5_skipBlanks_30 rfl (lv_at hl 0 rfl) ?_
          refine lv_dup hx hb dX5_skipBlanks_31 rfl ?_
          refine va_get (D := (dC, dI)) (ci := 5) (v := .int rat) (C := RX5) (T := TX5) (N := 5) hx hb hts hk_1 hown hK hP 10 wA_g10 rfl 2 (by decide) hk_0 (fun _ h9 => h9) rfl dX5_skipBlanks_32 ?_
          refine lv_iconst (v := 1) hx hb dX5_skipBlanks_35 (by decide) ?_
          refine lv_iadd hx hb dX5_skipBlanks_36 ?_
          refine va_put (D := (dC, dI)) (ci := 5) (v := .int (rat + 1)) (ty := .int) (C := RX5) (T := TX5) (N := 5) hx hb hts hk_1 tyX5 tyX5_ok nmX5 hown hK hP hD hS 10 wA_g10 rfl 2 (by decide) hk_0 (fun _ h9 => h9) rfl (by decide +kernel) rfl rfl (Nat.le_of_ble_eq_true rfl) dX5_skipBlanks_37 (fun H locs hP2 hD2 hS => ?_)
          have hP : va_P (dC, dI) vwCl (wA ad cB cI cZ cL LP today legCount legs hung warmth damp wopen tsize bytes (rat + 1) rtold rwrong numbers asked ftold ffarm ffrom fwhat fon csize ctotal offered cws cwa g_number g_farm g_pig g_first g_begun g_weight g_salted g_heat g_place g_target g_feedAsked g_sealed g_bad g_sold) H := hP_eq (wA_p_rat) hP2
          have hD : va_D A (wA ad cB cI cZ cL LP today legCount legs hung warmth damp wopen tsize bytes (rat + 1) rtold rwrong numbers asked ftold ffarm ffrom fwhat fon csize ctotal offered cws cwa g_number g_farm g_pig g_first g_begun g_weight g_salted g_heat g_place g_target g_feedAsked g_sealed g_bad g_sold) := hD_eq (wA_p_rat) hD2
          refine lv_goto (tgt := 0) hx hb dX5_skipBlanks_40 (by decide) ?_
          exact ih (rat + 1) _ _ _ hP hD hS (lv_sub hl [0] rfl) h
  have hl := lv_entry ([.ref (ad 10)]) (n := 1) (Nat.le_of_ble_eq_true rfl)
  rw [lg_entry_eq]
  generalize (lg_sl ([.ref (ad 10)]) ++ List.replicate (1 - (lg_sl ([.ref (ad 10)])).length) Slot.unset).toArray = ls at hl ⊢
  have hl : lv_has ls 1 [(0, .ref (ad 10))] := hl
  unfold wp_C_X5_skipBlanks at h
  obtain ⟨n_5, h⟩ := h
  exact hlp_C_X5_skipBlanks_0 n_5 rat _ _ _ hP hD hS (lv_sub hl [0] rfl) h
def wp_C_X5_wordOf (Q : Nat → Prop) (p0 : Int32) : Prop := ((p0 = 0 → Q 0) ∧ (¬ p0 = 0 → ((p0 = 1 → Q 1) ∧ (¬ p0 = 1 → ((p0 = 2 → Q 2) ∧ (¬ p0 = 2 → ((p0 = 3 → Q 3) ∧ (¬ p0 = 3 → Q 4))))))))
def rm_C_X5_wordOf : Room := { frames := 0, cells := 0, slots := 0, locals := 0 }
abbrev pq_C_X5_wordOf (dC : Nat → ClassId) (dI : Nat → Nat → Nat) (ad : Nat → Nat) (cB cI cZ cL : ClassId) (A : Nat → Prop) (LP : List Nat) (today legCount : Int32) (legs hung : Nat → Option Nat) (warmth damp wopen : Nat → Int32) (tsize : Int32) (bytes : Nat → Int32) (rat rtold rwrong : Int32) (numbers asked : Nat → Int32) (ftold : Int32) (ffarm ffrom fwhat fon : Nat → Int32) (csize ctotal : Int32) (offered : Nat → Option Nat) (cws cwa g_number g_farm g_pig g_first g_begun g_weight g_salted g_heat g_place g_target g_feedAsked g_sealed g_bad g_sold : Nat → Int32) (Q : Nat → Prop) : Array Value → State → Outcome → State → Prop := va_Qr (fun u : Nat => Q u) (fun u ra t => ra = ad (40 + u) ∧ kB dC dI A (wA ad cB cI cZ cL LP today legCount legs hung warmth damp wopen tsize bytes rat rtold rwrong numbers asked ftold ffarm ffrom fwhat fon csize ctotal offered cws cwa g_number g_farm g_pig g_first g_begun g_weight g_salted g_heat g_place g_target g_feedAsked g_sealed g_bad g_sold) (kTy cB cI cZ cL) t) A
set_option maxHeartbeats 4000000 in
set_option maxRecDepth 100000 in
theorem c_C_X5_wordOf (l : Launch) (dC : Nat → ClassId) (dI : Nat → Nat → Nat) (ad : Nat → Nat) (cB cI cZ cL : ClassId) (A : Nat → Prop) (LP : List Nat) (today legCount : Int32) (legs hung : Nat → Option Nat) (warmth damp wopen : Nat → Int32) (tsize : Int32) (bytes : Nat → Int32) (rat rtold rwrong : Int32) (numbers asked : Nat → Int32) (ftold : Int32) (ffarm ffrom fwhat fon : Nat → Int32) (csize ctotal : Int32) (offered : Nat → Option Nat) (cws cwa g_number g_farm g_pig g_first g_begun g_weight g_salted g_heat g_place g_target g_feedAsked g_sealed g_bad g_sold : Nat → Int32) (p0 : Int32)  (Q : Nat → Prop) (h : wp_C_X5_wordOf Q p0) : Met l yX5_wordOf wsX5_wordOf rm_C_X5_wordOf (va_Pc [.int p0] (kC dC dI ad A (wA ad cB cI cZ cL LP today legCount legs hung warmth damp wopen tsize bytes rat rtold rwrong numbers asked ftold ffarm ffrom fwhat fon csize ctotal offered cws cwa g_number g_farm g_pig g_first g_begun g_weight g_salted g_heat g_place g_target g_feedAsked g_sealed g_bad g_sold) (kTy cB cI cZ cL))) (pq_C_X5_wordOf dC dI ad cB cI cZ cL A LP today legCount legs hung warmth damp wopen tsize bytes rat rtold rwrong numbers asked ftold ffarm ffrom fwhat fon csize ctotal offered cws cwa g_number g_farm g_pig g_first g_begun g_weight g_salted g_heat g_place g_target g_feedAsked g_sealed g_bad g_sold Q) 0 0 A := by
  refine Met.ofW (cc := cX5_wordOf) (maxL := 1) (ret := (some (.object "java/lang/String"))) (by decide) rfl ?_
  intro p e s m args below meth c s₁ B hml hv
  obtain ⟨rfl, hA, hP, hK, hD, hE⟩ := hv
  have hx := B.exec
  have hb := B.bytes
  have hr := B.returns
  have hts := atoms_spec (ws := wsX5_wordOf) B.pre
  have hown : s.vm.findClass RX5 = some m.cls := findClass_of_methodNamed B.named
  have hlocks := B.notSynchronized
  have hS : va_S A s.heap s.heap [] := va_S.rf
  have hl := lv_entry ([.int p0]) (n := 1) (Nat.le_of_ble_eq_true rfl)
  rw [lg_entry_eq]
  generalize (lg_sl ([.int p0]) ++ List.replicate (1 - (lg_sl ([.int p0])).length) Slot.unset).toArray = ls at hl ⊢
  have hl : lv_has ls 1 [(0, .int p0)] := hl
  unfold wp_C_X5_wordOf at h
  refine lv_iload_n hx hb dX5_wordOf_0 rfl (lv_at hl 0 rfl) ?_
  by_cases hc_1_0 : p0 = 0
  · have h := h.1 hc_1_0
    refine lv_tableIn (off := 31) (tgt := 32) hx hb dX5_wordOf_1 (by rw [hc_1_0]; decide) (by rw [hc_1_0]; decide) (by rw [hc_1_0]; rfl) (by decide) ?_
    refine va_ldcS hx hb hown (q := ad (40 + 0)) (hE.2.2.2.2.2 ("HamCellar$RuleReader", 86, "days", 0) (by decide +kernel)) dX5_wordOf_32 ?_
    exact W.aret (v := .ref (ad (40 + 0))) hx hb hr (Or.inl ⟨_, rfl⟩) (Or.inr ⟨_, rfl⟩) (fun t ht hW => ⟨⟨0, ad (40 + 0), rfl, h, rfl, kB_mk hP hK hD ht hW.alike⟩, hS.F ht⟩) hS.2.2 dX5_wordOf_34
  · have h := h.2 hc_1_0
    by_cases hc_1_1 : p0 = 1
    · have h := h.1 hc_1_1
      refine lv_tableIn (off := 34) (tgt := 35) hx hb dX5_wordOf_1 (by rw [hc_1_1]; decide) (by rw [hc_1_1]; decide) (by rw [hc_1_1]; rfl) (by decide) ?_
      refine va_ldcS hx hb hown (q := ad (40 + 1)) (hE.2.2.2.2.2 ("HamCellar$RuleReader", 88, "loss", 1) (by decide +kernel)) dX5_wordOf_35 ?_
      exact W.aret (v := .ref (ad (40 + 1))) hx hb hr (Or.inl ⟨_, rfl⟩) (Or.inr ⟨_, rfl⟩) (fun t ht hW => ⟨⟨1, ad (40 + 1), rfl, h, rfl, kB_mk hP hK hD ht hW.alike⟩, hS.F ht⟩) hS.2.2 dX5_wordOf_37
    · have h := h.2 hc_1_1
      by_cases hc_1_2 : p0 = 2
      · have h := h.1 hc_1_2
        refine lv_tableIn (off := 37) (tgt := 38) hx hb dX5_wordOf_1 (by rw [hc_1_2]; decide) (by rw [hc_1_2]; decide) (by rw [hc_1_2]; rfl) (by decide) ?_
        refine va_ldcS hx hb hown (q := ad (40 + 2)) (hE.2.2.2.2.2 ("HamCellar$RuleReader", 90, "salt", 2) (by decide +kernel)) dX5_wordOf_38 ?_
        exact W.aret (v := .ref (ad (40 + 2))) hx hb hr (Or.inl ⟨_, rfl⟩) (Or.inr ⟨_, rfl⟩) (fun t ht hW => ⟨⟨2, ad (40 + 2), rfl, h, rfl, kB_mk hP hK hD ht hW.alike⟩, hS.F ht⟩) hS.2.2 dX5_wordOf_40
      · have h := h.2 hc_1_2
        by_cases hc_1_3 : p0 = 3
        · have h := h.1 hc_1_3
          refine lv_tableIn (off := 40) (tgt := 41) hx hb dX5_wordOf_1 (by rw [hc_1_3]; decide) (by rw [hc_1_3]; decide) (by rw [hc_1_3]; rfl) (by decide) ?_
          refine va_ldcS hx hb hown (q := ad (40 + 3)) (hE.2.2.2.2.2 ("HamCellar$RuleReader", 92, "feed", 3) (by decide +kernel)) dX5_wordOf_41 ?_
          exact W.aret (v := .ref (ad (40 + 3))) hx hb hr (Or.inl ⟨_, rfl⟩) (Or.inr ⟨_, rfl⟩) (fun t ht hW => ⟨⟨3, ad (40 + 3), rfl, h, rfl, kB_mk hP hK hD ht hW.alike⟩, hS.F ht⟩) hS.2.2 dX5_wordOf_43
        · have h := h.2 hc_1_3
          have t_0 : ¬ p0.toInt = 0 := lv_neT hc_1_0 (by decide)
          have t_1 : ¬ p0.toInt = 1 := lv_neT hc_1_1 (by decide)
          have t_2 : ¬ p0.toInt = 2 := lv_neT hc_1_2 (by decide)
          have t_3 : ¬ p0.toInt = 3 := lv_neT hc_1_3 (by decide)
          refine lv_tableOut (tgt := 44) hx hb dX5_wordOf_1 (by omega) (by decide) ?_
          refine va_ldcS hx hb hown (q := ad (40 + 4)) (hE.2.2.2.2.2 ("HamCellar$RuleReader", 94, "weight", 4) (by decide +kernel)) dX5_wordOf_44 ?_
          exact W.aret (v := .ref (ad (40 + 4))) hx hb hr (Or.inl ⟨_, rfl⟩) (Or.inr ⟨_, rfl⟩) (fun t ht hW => ⟨⟨4, ad (40 + 4), rfl, h, rfl, kB_mk hP hK hD ht hW.alike⟩, hS.F ht⟩) hS.2.2 dX5_wordOf_46
def lp_C_X5_isWord_15 (tsize : Int32) (bytes : Nat → Int32)  (Q : Int32 → Prop) : Nat → Int32 → Nat → Int32 → Prop
  | 0 => fun _ _ _ => False
  | n + 1 => fun v1 v3 v4 => wp_C_J0_length_8abf5 (fun r_3 => ((r_3 ≤ v4 → (o01 1 ∧ Q 1 )) ∧ (¬ (r_3 ≤ v4) → wp_C_X6_byteAt tsize bytes (fun r_5 => wp_C_J0_charAt_5068e (fun r_6 => ((r_5 = r_6 → lp_C_X5_isWord_15 tsize bytes Q n v1 v3 (v4 + 1)) ∧ (¬ (r_5 = r_6) → (o01 0 ∧ Q 0 )))) v3 v4) (v1 + v4)))) v3
def wp_C_X5_isWord (tsize : Int32) (bytes : Nat → Int32) (Q : Int32 → Prop) (p0 : Int32) (p1 : Int32) (p2 : Nat) : Prop := wp_C_J0_length_8abf5 (fun r_1 => (((p1 - p0) = r_1 → (∃ n_8, lp_C_X5_isWord_15 tsize bytes Q n_8 p0 p2 0)) ∧ (¬ ((p1 - p0) = r_1) → (o01 0 ∧ Q 0 )))) p2
def rm_C_X5_isWord : Room := { frames := 4, cells := 0, slots := 0, locals := 85 }
abbrev pq_C_X5_isWord (dC : Nat → ClassId) (dI : Nat → Nat → Nat) (ad : Nat → Nat) (cB cI cZ cL : ClassId) (A : Nat → Prop) (LP : List Nat) (today legCount : Int32) (legs hung : Nat → Option Nat) (warmth damp wopen : Nat → Int32) (tsize : Int32) (bytes : Nat → Int32) (rat rtold rwrong : Int32) (numbers asked : Nat → Int32) (ftold : Int32) (ffarm ffrom fwhat fon : Nat → Int32) (csize ctotal : Int32) (offered : Nat → Option Nat) (cws cwa g_number g_farm g_pig g_first g_begun g_weight g_salted g_heat g_place g_target g_feedAsked g_sealed g_bad g_sold : Nat → Int32) (Q : Int32 → Prop) : Array Value → State → Outcome → State → Prop := va_Qi (fun (r : Int32) (u : Unit) => Q r ) (fun u t => kB dC dI A (wA ad cB cI cZ cL LP today legCount legs hung warmth damp wopen tsize bytes rat rtold rwrong numbers asked ftold ffarm ffrom fwhat fon csize ctotal offered cws cwa g_number g_farm g_pig g_first g_begun g_weight g_salted g_heat g_place g_target g_feedAsked g_sealed g_bad g_sold) (kTy cB cI cZ cL) t) A
set_option maxHeartbeats 4000000 in
set_option maxRecDepth 100000 in
theorem c_C_X5_isWord (l : Launch) (dC : Nat → ClassId) (dI : Nat → Nat → Nat) (ad : Nat → Nat) (cB cI cZ cL : ClassId) (A : Nat → Prop) (LP : List Nat) (today legCount : Int32) (legs hung : Nat → Option Nat) (warmth damp wopen : Nat → Int32) (tsize : Int32) (bytes : Nat → Int32) (rat rtold rwrong : Int32) (numbers asked : Nat → Int32) (ftold : Int32) (ffarm ffrom fwhat fon : Nat → Int32) (csize ctotal : Int32) (offered : Nat → Option Nat) (cws cwa g_number g_farm g_pig g_first g_begun g_weight g_salted g_heat g_place g_target g_feedAsked g_sealed g_bad g_sold : Nat → Int32) (p0 : Int32) (p1 : Int32) (p2 : Nat) (hy_p2 : p2 < 5) (Q : Int32 → Prop) (h : wp_C_X5_isWord tsize bytes Q p0 p1 p2) : Met l yX5_isWord wsX5_isWord rm_C_X5_isWord (va_Pc [.ref (ad 10), .int p0, .int p1, .ref (ad (40 + p2))] (kC dC dI ad A (wA ad cB cI cZ cL LP today legCount legs hung warmth damp wopen tsize bytes rat rtold rwrong numbers asked ftold ffarm ffrom fwhat fon csize ctotal offered cws cwa g_number g_farm g_pig g_first g_begun g_weight g_salted g_heat g_place g_target g_feedAsked g_sealed g_bad g_sold) (kTy cB cI cZ cL))) (pq_C_X5_isWord dC dI ad cB cI cZ cL A LP today legCount legs hung warmth damp wopen tsize bytes rat rtold rwrong numbers asked ftold ffarm ffrom fwhat fon csize ctotal offered cws cwa g_number g_farm g_pig g_first g_begun g_weight g_salted g_heat g_place g_target g_feedAsked g_sealed g_bad g_sold Q) 0 0 A := by
  refine Met.ofW (cc := cX5_isWord) (maxL := 5) (ret := (some .boolean)) (by decide) rfl ?_
  intro p e s m args below meth c s₁ B hml hv
  obtain ⟨rfl, hA, hP, hK, hD, hE⟩ := hv
  have hx := B.exec
  have hb := B.bytes
  have hr := B.returns
  have hts := atoms_spec (ws := wsX5_isWord) B.pre
  have hown : s.vm.findClass RX5 = some m.cls := findClass_of_methodNamed B.named
  have hlocks := B.notSynchronized
  have hS : va_S A s.heap s.heap [] := va_S.rf
  have hk_0 := hts (.fieldLink RX5 19 "HamCellar$RuleReader" "tape" "LHamCellar$Tape;") (by decide +kernel)
  have hk_1 : ∀ w ∈ wsX50, w ∈ wsX5_isWord := by decide +kernel
  have hlp_C_X5_isWord_15 : ∀ (n : Nat) (v1 : Int32) (v3 : Nat) (v4 : Int32) (hy_v3 : v3 < 5) (H : Heap) (locs : List Loc) (ls : Array Slot), va_P (dC, dI) vwCl (wA ad cB cI cZ cL LP today legCount legs hung warmth damp wopen tsize bytes rat rtold rwrong numbers asked ftold ffarm ffrom fwhat fon csize ctotal offered cws cwa g_number g_farm g_pig g_first g_begun g_weight g_salted g_heat g_place g_target g_feedAsked g_sealed g_bad g_sold) H → va_D A (wA ad cB cI cZ cL LP today legCount legs hung warmth damp wopen tsize bytes rat rtold rwrong numbers asked ftold ffarm ffrom fwhat fon csize ctotal offered cws cwa g_number g_farm g_pig g_first g_begun g_weight g_salted g_heat g_place g_target g_feedAsked g_sealed g_bad g_sold) → va_S A s.heap H locs → lv_has ls 5 [(0, .ref (ad 10)), (1, .int v1), (3, .ref (ad (40 + v3))), (4, .int v4)] → lp_C_X5_isWord_15 tsize bytes Q n v1 v3 v4 → W p l e (headSpec wsX5_isWord rm_C_X5_isWord).room s m ([.ref (ad 10), .int p0, .int p1, .ref (ad (40 + p2))] : List Value).toArray below meth c H locs 0 0 (MQ below (pq_C_X5_isWord dC dI ad cB cI cZ cL A LP today legCount legs hung warmth damp wopen tsize bytes rat rtold rwrong numbers asked ftold ffarm ffrom fwhat fon csize ctotal offered cws cwa g_number g_farm g_pig g_first g_begun g_weight g_salted g_heat g_place g_target g_feedAsked g_sealed g_bad g_sold Q) ([.ref (ad 10), .int p0, .int p1, .ref (ad (40 + p2))] : List Value).toArray s 0 0 A) (F0 m 15 ls []) := by
    intro n
    induction n with
    | zero => intro v1 v3 v4 hy_v3 H locs ls hP hD hS hl h; exact h.elim
    | succ n ih =>
      intro v1 v3 v4 hy_v3 H locs ls hP hD hS hl h
      have h : wp_C_J0_length_8abf5 (fun r_3 => ((r_3 ≤ v4 → (o01 1 ∧ Q 1 )) ∧ (¬ (r_3 ≤ v4) → wp_C_X6_byteAt tsize bytes (fun r_5 => wp_C_J0_charAt_5068e (fun r_6 => ((r_5 = r_6 → lp_C_X5_isWord_15 tsize bytes Q n v1 v3 (v4 + 1)) ∧ (¬ (r_5 = r_6) → (o01 0 ∧ Q 0 )))) v3 v4) (v1 + v4)))) v3 := h
      refine lv_iload hx hb dX5_isWord_15 (lv_at hl 3 rfl) ?_
      refine lv_aload_n hx hb dX5_isWord_17 rfl (lv_at hl 2 rfl) ?_
      refine va_calli (va_runV (As := []) (rest := [.int v4]) ⟨hx, hb, hml, hown, hts⟩ (c_C_J0_length_8abf5 l dC dI ad cB cI cZ cL A LP today legCount legs hung warmth damp wopen tsize bytes rat rtold rwrong numbers asked ftold ffarm ffrom fwhat fon csize ctotal offered cws cwa g_number g_farm g_pig g_first g_begun g_weight g_salted g_heat g_place g_target g_feedAsked g_sealed g_bad g_sold v3 hy_v3 _ h) (cwV 0 hts gX5_isWord_J0_length_8abf5 rfl rfl rfl (by decide +kernel) ⟨(Nat.le_of_ble_eq_true rfl), (Nat.le_of_ble_eq_true rfl)⟩) ⟨kC_blind, kS_recv hE hS hy_v3, fun U hU hW => ⟨rfl, kC_go hA hS hP hK hD hE U hU hW⟩⟩ rfl rfl hl.1 rfl (lv_room (Nat.le_of_ble_eq_true rfl)) dX5_isWord_18 ⟨(Nat.le_of_ble_eq_true rfl), (Nat.le_of_ble_eq_true rfl)⟩) hS (fun q _ h => h) (fun q h => h) (fun r_3 u t H locs ht hvm hw hB hz1 hk1 hS => ?_)
      have h := hw
      try dsimp only at h
      have hP : va_P (dC, dI) vwCl (wA ad cB cI cZ cL LP today legCount legs hung warmth damp wopen tsize bytes rat rtold rwrong numbers asked ftold ffarm ffrom fwhat fon csize ctotal offered cws cwa g_number g_farm g_pig g_first g_begun g_weight g_salted g_heat g_place g_target g_feedAsked g_sealed g_bad g_sold) H := by rw [← ht]; exact hB.1
      have hD : va_D A (wA ad cB cI cZ cL LP today legCount legs hung warmth damp wopen tsize bytes rat rtold rwrong numbers asked ftold ffarm ffrom fwhat fon csize ctotal offered cws cwa g_number g_farm g_pig g_first g_begun g_weight g_salted g_heat g_place g_target g_feedAsked g_sealed g_bad g_sold) := hB.2.2
      refine lv_icmp_ge (tgt := 52) hx hb dX5_isWord_21 (by decide) (fun c_4 => ?_) (fun c_4 => ?_)
      · have h := h.1 c_4
        refine lv_iconst (v := 1) hx hb dX5_isWord_52 (by decide) ?_
        exact W.zret (v := 1) (ty := .boolean) hx hb hr (z01 h.1) (fun t ht hW => ⟨⟨1, (), rfl, h.2, kB_mk hP hK hD ht hW.alike⟩, hS.F ht⟩) hS.2.2 dX5_isWord_53
      · have h := h.2 c_4
        refine lv_aload_n hx hb dX5_isWord_24 rfl (lv_at hl 0 rfl) ?_
        refine va_get (D := (dC, dI)) (ci := 5) (v := .ref (ad 8)) (C := RX5) (T := TX5) (N := 5) hx hb hts hk_1 hown hK hP 10 wA_g10 rfl 0 (by decide) hk_0 (fun _ h9 => h9) rfl dX5_isWord_25 ?_
        refine lv_iload_n hx hb dX5_isWord_28 rfl (lv_at hl 1 rfl) ?_
        refine lv_iload hx hb dX5_isWord_29 (lv_at hl 3 rfl) ?_
        refine lv_iadd hx hb dX5_isWord_31 ?_
        refine va_calli (va_runV (As := [.int (v1 + v4)]) (rest := []) ⟨hx, hb, hml, hown, hts⟩ (c_C_X6_byteAt l dC dI ad cB cI cZ cL A LP today legCount legs hung warmth damp wopen tsize bytes rat rtold rwrong numbers asked ftold ffarm ffrom fwhat fon csize ctotal offered cws cwa g_number g_farm g_pig g_first g_begun g_weight g_salted g_heat g_place g_target g_feedAsked g_sealed g_bad g_sold (v1 + v4) _ h) (cwV 1 hts gX5_isWord_X6_byteAt rfl rfl rfl (by decide +kernel) ⟨(Nat.le_of_ble_eq_true rfl), (Nat.le_of_ble_eq_true rfl)⟩) ⟨kC_blind, va_recv hK hP (ci := 6) (q0 := 8) rfl wA_g8, fun U hU hW => ⟨rfl, kC_go hA hS hP hK hD hE U hU hW⟩⟩ rfl rfl hl.1 rfl (lv_room (Nat.le_of_ble_eq_true rfl)) dX5_isWord_32 ⟨(Nat.le_of_ble_eq_true rfl), (Nat.le_of_ble_eq_true rfl)⟩) hS (fun q _ h => h) (fun q h => h) (fun r_5 u t H locs ht hvm hw hB hz1 hk1 hS => ?_)
        have h := hw
        try dsimp only at h
        have hP : va_P (dC, dI) vwCl (wA ad cB cI cZ cL LP today legCount legs hung warmth damp wopen tsize bytes rat rtold rwrong numbers asked ftold ffarm ffrom fwhat fon csize ctotal offered cws cwa g_number g_farm g_pig g_first g_begun g_weight g_salted g_heat g_place g_target g_feedAsked g_sealed g_bad g_sold) H := by rw [← ht]; exact hB.1
        have hD : va_D A (wA ad cB cI cZ cL LP today legCount legs hung warmth damp wopen tsize bytes rat rtold rwrong numbers asked ftold ffarm ffrom fwhat fon csize ctotal offered cws cwa g_number g_farm g_pig g_first g_begun g_weight g_salted g_heat g_place g_target g_feedAsked g_sealed g_bad g_sold) := hB.2.2
        refine lv_aload_n hx hb dX5_isWord_35 rfl (lv_at hl 2 rfl) ?_
        refine lv_iload hx hb dX5_isWord_36 (lv_at hl 3 rfl) ?_
        refine va_calli (va_runV (As := [.int v4]) (rest := [.int r_5]) ⟨hx, hb, hml, hown, hts⟩ (c_C_J0_charAt_5068e l dC dI ad cB cI cZ cL A LP today legCount legs hung warmth damp wopen tsize bytes rat rtold rwrong numbers asked ftold ffarm ffrom fwhat fon csize ctotal offered cws cwa g_number g_farm g_pig g_first g_begun g_weight g_salted g_heat g_place g_target g_feedAsked g_sealed g_bad g_sold v3 v4 hy_v3 _ h) (cwV 1 hts gX5_isWord_J0_charAt_5068e rfl rfl rfl (by decide +kernel) ⟨(Nat.le_of_ble_eq_true rfl), (Nat.le_of_ble_eq_true rfl)⟩) ⟨kC_blind, kS_recv hE hS hy_v3, fun U hU hW => ⟨rfl, kC_go hA hS hP hK hD hE U hU hW⟩⟩ rfl rfl hl.1 rfl (lv_room (Nat.le_of_ble_eq_true rfl)) dX5_isWord_38 ⟨(Nat.le_of_ble_eq_true rfl), (Nat.le_of_ble_eq_true rfl)⟩) hS (fun q _ h => h) (fun q h => h) (fun r_6 u t H locs ht hvm hw hB hz1 hk1 hS => ?_)
        have h := hw
        try dsimp only at h
        have hP : va_P (dC, dI) vwCl (wA ad cB cI cZ cL LP today legCount legs hung warmth damp wopen tsize bytes rat rtold rwrong numbers asked ftold ffarm ffrom fwhat fon csize ctotal offered cws cwa g_number g_farm g_pig g_first g_begun g_weight g_salted g_heat g_place g_target g_feedAsked g_sealed g_bad g_sold) H := by rw [← ht]; exact hB.1
        have hD : va_D A (wA ad cB cI cZ cL LP today legCount legs hung warmth damp wopen tsize bytes rat rtold rwrong numbers asked ftold ffarm ffrom fwhat fon csize ctotal offered cws cwa g_number g_farm g_pig g_first g_begun g_weight g_salted g_heat g_place g_target g_feedAsked g_sealed g_bad g_sold) := hB.2.2
        refine lv_icmp_eq (tgt := 46) hx hb dX5_isWord_41 (by decide) (fun c_7 => ?_) (fun c_7 => ?_)
        · have h := h.1 c_7
          refine lv_iinc (v := v4 + 1) (lv' := [(4, .int (v4 + 1)), (0, .ref (ad 10)), (1, .int v1), (3, .ref (ad (40 + v3)))]) hx hb dX5_isWord_46 hl (k := 3) rfl rfl (by decide) rfl (fun ls hl => ?_)
          refine lv_goto (tgt := 15) hx hb dX5_isWord_49 (by decide) ?_
          exact ih v1 v3 (v4 + 1) hy_v3 _ _ _ hP hD hS (lv_sub hl [1, 2, 3, 0] rfl) h
        · have h := h.2 c_7
          refine lv_iconst (v := 0) hx hb dX5_isWord_44 (by decide) ?_
          exact W.zret (v := 0) (ty := .boolean) hx hb hr (z01 h.1) (fun t ht hW => ⟨⟨0, (), rfl, h.2, kB_mk hP hK hD ht hW.alike⟩, hS.F ht⟩) hS.2.2 dX5_isWord_45
  have hl := lv_entry ([.ref (ad 10), .int p0, .int p1, .ref (ad (40 + p2))]) (n := 5) (Nat.le_of_ble_eq_true rfl)
  rw [lg_entry_eq]
  generalize (lg_sl ([.ref (ad 10), .int p0, .int p1, .ref (ad (40 + p2))]) ++ List.replicate (5 - (lg_sl ([.ref (ad 10), .int p0, .int p1, .ref (ad (40 + p2))])).length) Slot.unset).toArray = ls at hl ⊢
  have hl : lv_has ls 5 [(0, .ref (ad 10)), (1, .int p0), (2, .int p1), (3, .ref (ad (40 + p2)))] := hl
  unfold wp_C_X5_isWord at h
  refine lv_iload_n hx hb dX5_isWord_0 rfl (lv_at hl 2 rfl) ?_
  refine lv_iload_n hx hb dX5_isWord_1 rfl (lv_at hl 1 rfl) ?_
  refine lv_isub hx hb dX5_isWord_2 ?_
  refine lv_aload_n hx hb dX5_isWord_3 rfl (lv_at hl 3 rfl) ?_
  refine va_calli (va_runV (As := []) (rest := [.int (p1 - p0)]) ⟨hx, hb, hml, hown, hts⟩ (c_C_J0_length_8abf5 l dC dI ad cB cI cZ cL A LP today legCount legs hung warmth damp wopen tsize bytes rat rtold rwrong numbers asked ftold ffarm ffrom fwhat fon csize ctotal offered cws cwa g_number g_farm g_pig g_first g_begun g_weight g_salted g_heat g_place g_target g_feedAsked g_sealed g_bad g_sold p2 hy_p2 _ h) (cwV 0 hts gX5_isWord_J0_length_8abf5 rfl rfl rfl (by decide +kernel) ⟨(Nat.le_of_ble_eq_true rfl), (Nat.le_of_ble_eq_true rfl)⟩) ⟨kC_blind, kS_recv hE hS hy_p2, fun U hU hW => ⟨rfl, kC_go hA hS hP hK hD hE U hU hW⟩⟩ rfl rfl hl.1 rfl (lv_room (Nat.le_of_ble_eq_true rfl)) dX5_isWord_4 ⟨(Nat.le_of_ble_eq_true rfl), (Nat.le_of_ble_eq_true rfl)⟩) hS (fun q _ h => h) (fun q h => h) (fun r_1 u t H locs ht hvm hw hB hz1 hk1 hS => ?_)
  have h := hw
  try dsimp only at h
  have hP : va_P (dC, dI) vwCl (wA ad cB cI cZ cL LP today legCount legs hung warmth damp wopen tsize bytes rat rtold rwrong numbers asked ftold ffarm ffrom fwhat fon csize ctotal offered cws cwa g_number g_farm g_pig g_first g_begun g_weight g_salted g_heat g_place g_target g_feedAsked g_sealed g_bad g_sold) H := by rw [← ht]; exact hB.1
  have hD : va_D A (wA ad cB cI cZ cL LP today legCount legs hung warmth damp wopen tsize bytes rat rtold rwrong numbers asked ftold ffarm ffrom fwhat fon csize ctotal offered cws cwa g_number g_farm g_pig g_first g_begun g_weight g_salted g_heat g_place g_target g_feedAsked g_sealed g_bad g_sold) := hB.2.2
  refine lv_icmp_eq (tgt := 12) hx hb dX5_isWord_7 (by decide) (fun c_2 => ?_) (fun c_2 => ?_)
  · have h := h.1 c_2
    refine lv_iconst (v := 0) hx hb dX5_isWord_12 (by decide) ?_
    refine lv_istore (lv' := [(4, .int 0), (0, .ref (ad 10)), (1, .int p0), (2, .int p1), (3, .ref (ad (40 + p2)))]) hx hb dX5_isWord_13 hl (by decide) rfl (fun ls hl => ?_)
    obtain ⟨n_8, h⟩ := h
    exact hlp_C_X5_isWord_15 n_8 p0 p2 0 hy_p2 _ _ _ hP hD hS (lv_sub hl [1, 2, 4, 0] rfl) h
  · have h := h.2 c_2
    refine lv_iconst (v := 0) hx hb dX5_isWord_10 (by decide) ?_
    exact W.zret (v := 0) (ty := .boolean) hx hb hr (z01 h.1) (fun t ht hW => ⟨⟨0, (), rfl, h.2, kB_mk hP hK hD ht hW.alike⟩, hS.F ht⟩) hS.2.2 dX5_isWord_11
def lp_C_X5_readKind_55 (tsize : Int32) (bytes : Nat → Int32)  (Q : Int32 → Int32 → Prop) : Nat → Int32 → Int32 → Int32 → Prop
  | 0 => fun _ _ _ => False
  | n + 1 => fun rat v1 v2 => ((5 ≤ v2 → Q (-1) rat) ∧ (¬ (5 ≤ v2) → wp_C_X5_wordOf (fun r_4 => (r_4 < 5 ∧ wp_C_X5_isWord tsize bytes (fun r_5 => ((r_5 = 0 → lp_C_X5_readKind_55 tsize bytes Q n rat v1 (v2 + 1)) ∧ (¬ (r_5 = 0) → Q v2 rat))) v1 rat r_4)) v2))
def bk_C_X5_readKind_53 (tsize : Int32) (bytes : Nat → Int32)  (Q : Int32 → Int32 → Prop) (rat : Int32) (v1 : Int32) : Prop := (∃ n_7, lp_C_X5_readKind_55 tsize bytes Q n_7 rat v1 0)
def lp_C_X5_readKind_5 (tsize : Int32) (bytes : Nat → Int32)  (Q : Int32 → Int32 → Prop) : Nat → Int32 → Int32 → Prop
  | 0 => fun _ _ => False
  | n + 1 => fun rat v1 => wp_C_X6_size tsize (fun r_1 => ((r_1 ≤ rat → bk_C_X5_readKind_53 tsize bytes Q rat v1) ∧ (¬ (r_1 ≤ rat) → wp_C_X6_byteAt tsize bytes (fun r_8 => wp_C_X7_isWithin (fun r_9 => ((r_9 = 0 → bk_C_X5_readKind_53 tsize bytes Q rat v1) ∧ (¬ (r_9 = 0) → lp_C_X5_readKind_5 tsize bytes Q n (rat + 1) v1))) r_8 97 122) rat)))
def wp_C_X5_readKind (tsize : Int32) (bytes : Nat → Int32) (Q : Int32 → Int32 → Prop) (rat : Int32) : Prop := (∃ n_11, lp_C_X5_readKind_5 tsize bytes Q n_11 rat rat)
def rm_C_X5_readKind : Room := { frames := 5, cells := 0, slots := 0, locals := 109 }
abbrev pq_C_X5_readKind (dC : Nat → ClassId) (dI : Nat → Nat → Nat) (ad : Nat → Nat) (cB cI cZ cL : ClassId) (A : Nat → Prop) (LP : List Nat) (today legCount : Int32) (legs hung : Nat → Option Nat) (warmth damp wopen : Nat → Int32) (tsize : Int32) (bytes : Nat → Int32) (rat rtold rwrong : Int32) (numbers asked : Nat → Int32) (ftold : Int32) (ffarm ffrom fwhat fon : Nat → Int32) (csize ctotal : Int32) (offered : Nat → Option Nat) (cws cwa g_number g_farm g_pig g_first g_begun g_weight g_salted g_heat g_place g_target g_feedAsked g_sealed g_bad g_sold : Nat → Int32) (Q : Int32 → Int32 → Prop) : Array Value → State → Outcome → State → Prop := va_Qi (fun (r : Int32) (u : Int32) => Q r u) (fun u t => kB dC dI A (wA ad cB cI cZ cL LP today legCount legs hung warmth damp wopen tsize bytes u rtold rwrong numbers asked ftold ffarm ffrom fwhat fon csize ctotal offered cws cwa g_number g_farm g_pig g_first g_begun g_weight g_salted g_heat g_place g_target g_feedAsked g_sealed g_bad g_sold) (kTy cB cI cZ cL) t) A
set_option maxHeartbeats 4000000 in
set_option maxRecDepth 100000 in
theorem c_C_X5_readKind (l : Launch) (dC : Nat → ClassId) (dI : Nat → Nat → Nat) (ad : Nat → Nat) (cB cI cZ cL : ClassId) (A : Nat → Prop) (LP : List Nat) (today legCount : Int32) (legs hung : Nat → Option Nat) (warmth damp wopen : Nat → Int32) (tsize : Int32) (bytes : Nat → Int32) (rat rtold rwrong : Int32) (numbers asked : Nat → Int32) (ftold : Int32) (ffarm ffrom fwhat fon : Nat → Int32) (csize ctotal : Int32) (offered : Nat → Option Nat) (cws cwa g_number g_farm g_pig g_first g_begun g_weight g_salted g_heat g_place g_target g_feedAsked g_sealed g_bad g_sold : Nat → Int32)   (Q : Int32 → Int32 → Prop) (h : wp_C_X5_readKind tsize bytes Q rat) : Met l yX5_readKind wsX5_readKind rm_C_X5_readKind (va_Pc [.ref (ad 10)] (kC dC dI ad A (wA ad cB cI cZ cL LP today legCount legs hung warmth damp wopen tsize bytes rat rtold rwrong numbers asked ftold ffarm ffrom fwhat fon csize ctotal offered cws cwa g_number g_farm g_pig g_first g_begun g_weight g_salted g_heat g_place g_target g_feedAsked g_sealed g_bad g_sold) (kTy cB cI cZ cL))) (pq_C_X5_readKind dC dI ad cB cI cZ cL A LP today legCount legs hung warmth damp wopen tsize bytes rat rtold rwrong numbers asked ftold ffarm ffrom fwhat fon csize ctotal offered cws cwa g_number g_farm g_pig g_first g_begun g_weight g_salted g_heat g_place g_target g_feedAsked g_sealed g_bad g_sold Q) 0 0 A := by
  refine Met.ofW (cc := cX5_readKind) (maxL := 3) (ret := (some .int)) (by decide) rfl ?_
  intro p e s m args below meth c s₁ B hml hv
  obtain ⟨rfl, hA, hP, hK, hD, hE⟩ := hv
  have hx := B.exec
  have hb := B.bytes
  have hr := B.returns
  have hts := atoms_spec (ws := wsX5_readKind) B.pre
  have hown : s.vm.findClass RX5 = some m.cls := findClass_of_methodNamed B.named
  have hlocks := B.notSynchronized
  have hS : va_S A s.heap s.heap [] := va_S.rf
  have hk_0 := hts (.fieldLink RX5 23 "HamCellar$RuleReader" "at" "I") (by decide +kernel)
  have hk_1 : ∀ w ∈ wsX50, w ∈ wsX5_readKind := by decide +kernel
  have hk_2 := hts (.fieldLink RX5 19 "HamCellar$RuleReader" "tape" "LHamCellar$Tape;") (by decide +kernel)
  have hk_3 := hE.2.1.2.1 ("HamCellar$RuleReader", 65, ⟨"HamCellar", "isWithin", "(III)Z"⟩, "HamCellar") (by decide +kernel)
  have hk_4 := hts (.initialized RX7) (by decide +kernel)
  have hk_5 := hts (.static yX7_isWithin) (by decide +kernel)
  have hlp_C_X5_readKind_55 : ∀ (n : Nat) (rat : Int32) (v1 : Int32) (v2 : Int32) (H : Heap) (locs : List Loc) (ls : Array Slot), va_P (dC, dI) vwCl (wA ad cB cI cZ cL LP today legCount legs hung warmth damp wopen tsize bytes rat rtold rwrong numbers asked ftold ffarm ffrom fwhat fon csize ctotal offered cws cwa g_number g_farm g_pig g_first g_begun g_weight g_salted g_heat g_place g_target g_feedAsked g_sealed g_bad g_sold) H → va_D A (wA ad cB cI cZ cL LP today legCount legs hung warmth damp wopen tsize bytes rat rtold rwrong numbers asked ftold ffarm ffrom fwhat fon csize ctotal offered cws cwa g_number g_farm g_pig g_first g_begun g_weight g_salted g_heat g_place g_target g_feedAsked g_sealed g_bad g_sold) → va_S A s.heap H locs → lv_has ls 3 [(0, .ref (ad 10)), (1, .int v1), (2, .int v2)] → lp_C_X5_readKind_55 tsize bytes Q n rat v1 v2 → W p l e (headSpec wsX5_readKind rm_C_X5_readKind).room s m ([.ref (ad 10)] : List Value).toArray below meth c H locs 0 0 (MQ below (pq_C_X5_readKind dC dI ad cB cI cZ cL A LP today legCount legs hung warmth damp wopen tsize bytes rat rtold rwrong numbers asked ftold ffarm ffrom fwhat fon csize ctotal offered cws cwa g_number g_farm g_pig g_first g_begun g_weight g_salted g_heat g_place g_target g_feedAsked g_sealed g_bad g_sold Q) ([.ref (ad 10)] : List Value).toArray s 0 0 A) (F0 m 55 ls []) := by
    intro n
    induction n with
    | zero => intro rat v1 v2 H locs ls hP hD hS hl h; exact h.elim
    | succ n ih =>
      intro rat v1 v2 H locs ls hP hD hS hl h
      refine lv_iload_n hx hb dX5_readKind_55 rfl (lv_at hl 2 rfl) ?_
      refine lv_iconst (v := 5) hx hb dX5_readKind_56 (by decide) ?_
      refine lv_icmp_ge (tgt := 84) hx hb dX5_readKind_57 (by decide) (fun c_3 => ?_) (fun c_3 => ?_)
      · have h := h.1 c_3
        refine lv_iconst (v := (-1)) hx hb dX5_readKind_84 (by decide) ?_
        exact W.iret (v := (-1)) hx hb hr (fun t ht hW => ⟨⟨(-1), (rat), rfl, h, kB_mk hP hK hD ht hW.alike⟩, hS.F ht⟩) hS.2.2 dX5_readKind_85
      · have h := h.2 c_3
        refine lv_aload_n hx hb dX5_readKind_60 rfl (lv_at hl 0 rfl) ?_
        refine lv_iload_n hx hb dX5_readKind_61 rfl (lv_at hl 1 rfl) ?_
        refine lv_aload_n hx hb dX5_readKind_62 rfl (lv_at hl 0 rfl) ?_
        refine va_get (D := (dC, dI)) (ci := 5) (v := .int rat) (C := RX5) (T := TX5) (N := 5) hx hb hts hk_1 hown hK hP 10 wA_g10 rfl 2 (by decide) hk_0 (fun _ h9 => h9) rfl dX5_readKind_63 ?_
        refine lv_iload_n hx hb dX5_readKind_66 rfl (lv_at hl 2 rfl) ?_
        refine va_callr (va_runS (As := [.int v2]) (rest := [.int rat, .int v1, .ref (ad 10)]) ⟨hx, hb, hml, hown, hts⟩ (c_C_X5_wordOf l dC dI ad cB cI cZ cL A LP today legCount legs hung warmth damp wopen tsize bytes rat rtold rwrong numbers asked ftold ffarm ffrom fwhat fon csize ctotal offered cws cwa g_number g_farm g_pig g_first g_begun g_weight g_salted g_heat g_place g_target g_feedAsked g_sealed g_bad g_sold v2 _ h) (va_cwS 1 hts gX5_readKind_X5_wordOf rfl rfl rfl (by decide +kernel) ⟨(Nat.le_of_ble_eq_true rfl), (Nat.le_of_ble_eq_true rfl)⟩) ⟨kC_blind, fun U hU hW => ⟨rfl, kC_go hA hS hP hK hD hE U hU hW⟩⟩ rfl rfl hl.1 rfl (lv_room (Nat.le_of_ble_eq_true rfl)) dX5_readKind_67 ⟨(Nat.le_of_ble_eq_true rfl), (Nat.le_of_ble_eq_true rfl)⟩) hS (fun q _ h => h) (fun q h => h) (fun u ra t H locs ht hvm hw hB hz1 hk1 hS => ?_)
        obtain ⟨r_4, rfl⟩ : ∃ z, z = u := ⟨_, rfl⟩
        obtain ⟨rfl, hB⟩ := hB
        have h := hw
        try dsimp only at h
        have hP : va_P (dC, dI) vwCl (wA ad cB cI cZ cL LP today legCount legs hung warmth damp wopen tsize bytes rat rtold rwrong numbers asked ftold ffarm ffrom fwhat fon csize ctotal offered cws cwa g_number g_farm g_pig g_first g_begun g_weight g_salted g_heat g_place g_target g_feedAsked g_sealed g_bad g_sold) H := by rw [← ht]; exact hB.1
        have hD : va_D A (wA ad cB cI cZ cL LP today legCount legs hung warmth damp wopen tsize bytes rat rtold rwrong numbers asked ftold ffarm ffrom fwhat fon csize ctotal offered cws cwa g_number g_farm g_pig g_first g_begun g_weight g_salted g_heat g_place g_target g_feedAsked g_sealed g_bad g_sold) := hB.2.2
        have hy_r_4 := h.1
        have h := h.2
        refine va_calli (va_runV (As := [.int v1, .int rat, .ref (ad (40 + r_4))]) (rest := []) ⟨hx, hb, hml, hown, hts⟩ (c_C_X5_isWord l dC dI ad cB cI cZ cL A LP today legCount legs hung warmth damp wopen tsize bytes rat rtold rwrong numbers asked ftold ffarm ffrom fwhat fon csize ctotal offered cws cwa g_number g_farm g_pig g_first g_begun g_weight g_salted g_heat g_place g_target g_feedAsked g_sealed g_bad g_sold v1 rat r_4 hy_r_4 _ h) (cwV 3 hts gX5_readKind_X5_isWord rfl rfl rfl (by decide +kernel) ⟨(Nat.le_of_ble_eq_true rfl), (Nat.le_of_ble_eq_true rfl)⟩) ⟨kC_blind, va_recv hK hP (ci := 5) (q0 := 10) rfl wA_g10, fun U hU hW => ⟨rfl, kC_go hA hS hP hK hD hE U hU hW⟩⟩ rfl rfl hl.1 rfl (lv_room (Nat.le_of_ble_eq_true rfl)) dX5_readKind_70 ⟨(Nat.le_of_ble_eq_true rfl), (Nat.le_of_ble_eq_true rfl)⟩) hS (fun q _ h => h) (fun q h => h) (fun r_5 u t H locs ht hvm hw hB hz1 hk1 hS => ?_)
        have h := hw
        try dsimp only at h
        have hP : va_P (dC, dI) vwCl (wA ad cB cI cZ cL LP today legCount legs hung warmth damp wopen tsize bytes rat rtold rwrong numbers asked ftold ffarm ffrom fwhat fon csize ctotal offered cws cwa g_number g_farm g_pig g_first g_begun g_weight g_salted g_heat g_place g_target g_feedAsked g_sealed g_bad g_sold) H := by rw [← ht]; exact hB.1
        have hD : va_D A (wA ad cB cI cZ cL LP today legCount legs hung warmth damp wopen tsize bytes rat rtold rwrong numbers asked ftold ffarm ffrom fwhat fon csize ctotal offered cws cwa g_number g_farm g_pig g_first g_begun g_weight g_salted g_heat g_place g_target g_feedAsked g_sealed g_bad g_sold) := hB.2.2
        refine lv_if_eq (tgt := 78) hx hb dX5_readKind_73 (by decide) (fun c_6 => ?_) (fun c_6 => ?_)
        · have h := h.1 c_6
          refine lv_iinc (v := v2 + 1) (lv' := [(2, .int (v2 + 1)), (0, .ref (ad 10)), (1, .int v1)]) hx hb dX5_readKind_78 hl (k := 2) rfl rfl (by decide) rfl (fun ls hl => ?_)
          refine lv_goto (tgt := 55) hx hb dX5_readKind_81 (by decide) ?_
          exact ih rat v1 (v2 + 1) _ _ _ hP hD hS (lv_sub hl [1, 2, 0] rfl) h
        · have h := h.2 c_6
          refine lv_iload_n hx hb dX5_readKind_76 rfl (lv_at hl 2 rfl) ?_
          exact W.iret (v := v2) hx hb hr (fun t ht hW => ⟨⟨v2, (rat), rfl, h, kB_mk hP hK hD ht hW.alike⟩, hS.F ht⟩) hS.2.2 dX5_readKind_77
  have hbk_C_X5_readKind_53 : ∀ (rat : Int32) (v1 : Int32) (H : Heap) (locs : List Loc) (ls : Array Slot), va_P (dC, dI) vwCl (wA ad cB cI cZ cL LP today legCount legs hung warmth damp wopen tsize bytes rat rtold rwrong numbers asked ftold ffarm ffrom fwhat fon csize ctotal offered cws cwa g_number g_farm g_pig g_first g_begun g_weight g_salted g_heat g_place g_target g_feedAsked g_sealed g_bad g_sold) H → va_D A (wA ad cB cI cZ cL LP today legCount legs hung warmth damp wopen tsize bytes rat rtold rwrong numbers asked ftold ffarm ffrom fwhat fon csize ctotal offered cws cwa g_number g_farm g_pig g_first g_begun g_weight g_salted g_heat g_place g_target g_feedAsked g_sealed g_bad g_sold) → va_S A s.heap H locs → lv_has ls 3 [(0, .ref (ad 10)), (1, .int v1)] → bk_C_X5_readKind_53 tsize bytes Q rat v1 → W p l e (headSpec wsX5_readKind rm_C_X5_readKind).room s m ([.ref (ad 10)] : List Value).toArray below meth c H locs 0 0 (MQ below (pq_C_X5_readKind dC dI ad cB cI cZ cL A LP today legCount legs hung warmth damp wopen tsize bytes rat rtold rwrong numbers asked ftold ffarm ffrom fwhat fon csize ctotal offered cws cwa g_number g_farm g_pig g_first g_begun g_weight g_salted g_heat g_place g_target g_feedAsked g_sealed g_bad g_sold Q) ([.ref (ad 10)] : List Value).toArray s 0 0 A) (F0 m 53 ls []) := by
    intro rat v1 H locs ls hP hD hS hl h
    refine lv_iconst (v := 0) hx hb dX5_readKind_53 (by decide) ?_
    refine lv_istore_n (lv' := [(2, .int 0), (0, .ref (ad 10)), (1, .int v1)]) hx hb dX5_readKind_54 rfl hl (by decide) rfl (fun ls hl => ?_)
    obtain ⟨n_7, h⟩ := h
    exact hlp_C_X5_readKind_55 n_7 rat v1 0 _ _ _ hP hD hS (lv_sub hl [1, 2, 0] rfl) h
  have hlp_C_X5_readKind_5 : ∀ (n : Nat) (rat : Int32) (v1 : Int32) (H : Heap) (locs : List Loc) (ls : Array Slot), va_P (dC, dI) vwCl (wA ad cB cI cZ cL LP today legCount legs hung warmth damp wopen tsize bytes rat rtold rwrong numbers asked ftold ffarm ffrom fwhat fon csize ctotal offered cws cwa g_number g_farm g_pig g_first g_begun g_weight g_salted g_heat g_place g_target g_feedAsked g_sealed g_bad g_sold) H → va_D A (wA ad cB cI cZ cL LP today legCount legs hung warmth damp wopen tsize bytes rat rtold rwrong numbers asked ftold ffarm ffrom fwhat fon csize ctotal offered cws cwa g_number g_farm g_pig g_first g_begun g_weight g_salted g_heat g_place g_target g_feedAsked g_sealed g_bad g_sold) → va_S A s.heap H locs → lv_has ls 3 [(0, .ref (ad 10)), (1, .int v1)] → lp_C_X5_readKind_5 tsize bytes Q n rat v1 → W p l e (headSpec wsX5_readKind rm_C_X5_readKind).room s m ([.ref (ad 10)] : List Value).toArray below meth c H locs 0 0 (MQ below (pq_C_X5_readKind dC dI ad cB cI cZ cL A LP today legCount legs hung warmth damp wopen tsize bytes rat rtold rwrong numbers asked ftold ffarm ffrom fwhat fon csize ctotal offered cws cwa g_number g_farm g_pig g_first g_begun g_weight g_salted g_heat g_place g_target g_feedAsked g_sealed g_bad g_sold Q) ([.ref (ad 10)] : List Value).toArray s 0 0 A) (F0 m 5 ls []) := by
    intro n
    induction n with
    | zero => intro rat v1 H locs ls hP hD hS hl h; exact h.elim
    | succ n ih =>
      intro rat v1 H locs ls hP hD hS hl h
      have h : wp_C_X6_size tsize (fun r_1 => ((r_1 ≤ rat → bk_C_X5_readKind_53 tsize bytes Q rat v1) ∧ (¬ (r_1 ≤ rat) → wp_C_X6_byteAt tsize bytes (fun r_8 => wp_C_X7_isWithin (fun r_9 => ((r_9 = 0 → bk_C_X5_readKind_53 tsize bytes Q rat v1) ∧ (¬ (r_9 = 0) → lp_C_X5_readKind_5 tsize bytes Q n (rat + 1) v1))) r_8 97 122) rat))) := h
      refine lv_aload_n hx hb dX5_readKind_5 rfl (lv_at hl 0 rfl) ?_
      refine va_get (D := (dC, dI)) (ci := 5) (v := .int rat) (C := RX5) (T := TX5) (N := 5) hx hb hts hk_1 hown hK hP 10 wA_g10 rfl 2 (by decide) hk_0 (fun _ h9 => h9) rfl dX5_readKind_6 ?_
      refine lv_aload_n hx hb dX5_readKind_9 rfl (lv_at hl 0 rfl) ?_
      refine va_get (D := (dC, dI)) (ci := 5) (v := .ref (ad 8)) (C := RX5) (T := TX5) (N := 5) hx hb hts hk_1 hown hK hP 10 wA_g10 rfl 0 (by decide) hk_2 (fun _ h9 => h9) rfl dX5_readKind_10 ?_
      refine va_calli (va_runV (As := []) (rest := [.int rat]) ⟨hx, hb, hml, hown, hts⟩ (c_C_X6_size l dC dI ad cB cI cZ cL A LP today legCount legs hung warmth damp wopen tsize bytes rat rtold rwrong numbers asked ftold ffarm ffrom fwhat fon csize ctotal offered cws cwa g_number g_farm g_pig g_first g_begun g_weight g_salted g_heat g_place g_target g_feedAsked g_sealed g_bad g_sold _ h) (cwV 0 hts gX5_readKind_X6_size rfl rfl rfl (by decide +kernel) ⟨(Nat.le_of_ble_eq_true rfl), (Nat.le_of_ble_eq_true rfl)⟩) ⟨kC_blind, va_recv hK hP (ci := 6) (q0 := 8) rfl wA_g8, fun U hU hW => ⟨rfl, kC_go hA hS hP hK hD hE U hU hW⟩⟩ rfl rfl hl.1 rfl (lv_room (Nat.le_of_ble_eq_true rfl)) dX5_readKind_13 ⟨(Nat.le_of_ble_eq_true rfl), (Nat.le_of_ble_eq_true rfl)⟩) hS (fun q _ h => h) (fun q h => h) (fun r_1 u t H locs ht hvm hw hB hz1 hk1 hS => ?_)
      have h := hw
      try dsimp only at h
      have hP : va_P (dC, dI) vwCl (wA ad cB cI cZ cL LP today legCount legs hung warmth damp wopen tsize bytes rat rtold rwrong numbers asked ftold ffarm ffrom fwhat fon csize ctotal offered cws cwa g_number g_farm g_pig g_first g_begun g_weight g_salted g_heat g_place g_target g_feedAsked g_sealed g_bad g_sold) H := by rw [← ht]; exact hB.1
      have hD : va_D A (wA ad cB cI cZ cL LP today legCount legs hung warmth damp wopen tsize bytes rat rtold rwrong numbers asked ftold ffarm ffrom fwhat fon csize ctotal offered cws cwa g_number g_farm g_pig g_first g_begun g_weight g_salted g_heat g_place g_target g_feedAsked g_sealed g_bad g_sold) := hB.2.2
      refine lv_icmp_ge (tgt := 53) hx hb dX5_readKind_16 (by decide) (fun c_2 => ?_) (fun c_2 => ?_)
      · have h := h.1 c_2
        exact hbk_C_X5_readKind_53 rat v1 _ _ _ hP hD hS (lv_sub hl [0, 1] rfl) h
      · have h := h.2 c_2
        refine lv_aload_n hx hb dX5_readKind_19 rfl (lv_at hl 0 rfl) ?_
        refine va_get (D := (dC, dI)) (ci := 5) (v := .ref (ad 8)) (C := RX5) (T := TX5) (N := 5) hx hb hts hk_1 hown hK hP 10 wA_g10 rfl 0 (by decide) hk_2 (fun _ h9 => h9) rfl dX5_readKind_20 ?_
        refine lv_aload_n hx hb dX5_readKind_23 rfl (lv_at hl 0 rfl) ?_
        refine va_get (D := (dC, dI)) (ci := 5) (v := .int rat) (C := RX5) (T := TX5) (N := 5) hx hb hts hk_1 hown hK hP 10 wA_g10 rfl 2 (by decide) hk_0 (fun _ h9 => h9) rfl dX5_readKind_24 ?_
        refine va_calli (va_runV (As := [.int rat]) (rest := []) ⟨hx, hb, hml, hown, hts⟩ (c_C_X6_byteAt l dC dI ad cB cI cZ cL A LP today legCount legs hung warmth damp wopen tsize bytes rat rtold rwrong numbers asked ftold ffarm ffrom fwhat fon csize ctotal offered cws cwa g_number g_farm g_pig g_first g_begun g_weight g_salted g_heat g_place g_target g_feedAsked g_sealed g_bad g_sold rat _ h) (cwV 1 hts gX5_readKind_X6_byteAt rfl rfl rfl (by decide +kernel) ⟨(Nat.le_of_ble_eq_true rfl), (Nat.le_of_ble_eq_true rfl)⟩) ⟨kC_blind, va_recv hK hP (ci := 6) (q0 := 8) rfl wA_g8, fun U hU hW => ⟨rfl, kC_go hA hS hP hK hD hE U hU hW⟩⟩ rfl rfl hl.1 rfl (lv_room (Nat.le_of_ble_eq_true rfl)) dX5_readKind_27 ⟨(Nat.le_of_ble_eq_true rfl), (Nat.le_of_ble_eq_true rfl)⟩) hS (fun q _ h => h) (fun q h => h) (fun r_8 u t H locs ht hvm hw hB hz1 hk1 hS => ?_)
        have h := hw
        try dsimp only at h
        have hP : va_P (dC, dI) vwCl (wA ad cB cI cZ cL LP today legCount legs hung warmth damp wopen tsize bytes rat rtold rwrong numbers asked ftold ffarm ffrom fwhat fon csize ctotal offered cws cwa g_number g_farm g_pig g_first g_begun g_weight g_salted g_heat g_place g_target g_feedAsked g_sealed g_bad g_sold) H := by rw [← ht]; exact hB.1
        have hD : va_D A (wA ad cB cI cZ cL LP today legCount legs hung warmth damp wopen tsize bytes rat rtold rwrong numbers asked ftold ffarm ffrom fwhat fon csize ctotal offered cws cwa g_number g_farm g_pig g_first g_begun g_weight g_salted g_heat g_place g_target g_feedAsked g_sealed g_bad g_sold) := hB.2.2
        refine lv_bipush (v := 97) hx hb dX5_readKind_30 (by decide) ?_
        refine lv_bipush (v := 122) hx hb dX5_readKind_32 (by decide) ?_
        refine va_calli (va_runSN (As := [.int r_8, .int 97, .int 122]) (rest := []) ⟨hx, hb, hml, hown, hts⟩ (c_C_X7_isWithin l dC dI ad cB cI cZ cL A LP today legCount legs hung warmth damp wopen tsize bytes rat rtold rwrong numbers asked ftold ffarm ffrom fwhat fon csize ctotal offered cws cwa g_number g_farm g_pig g_first g_begun g_weight g_salted g_heat g_place g_target g_feedAsked g_sealed g_bad g_sold r_8 97 122 _ h) ⟨va_cnB 3 hts gX5_readKind_X7_isWithin_n65 rfl rfl rfl hk_3 hk_4 (by decide +kernel) ⟨(Nat.le_of_ble_eq_true rfl), (Nat.le_of_ble_eq_true rfl)⟩, hk_5, trivial⟩ ⟨kC_blind, fun U hU hW => ⟨rfl, kC_go hA hS hP hK hD hE U hU hW⟩⟩ rfl rfl hl.1 rfl (lv_room (Nat.le_of_ble_eq_true rfl)) dX5_readKind_34 ⟨(Nat.le_of_ble_eq_true rfl), (Nat.le_of_ble_eq_true rfl)⟩) hS (fun q _ h => h) (fun q h => h) (fun r_9 u t H locs ht hvm hw hB hz1 hk1 hS => ?_)
        have h := hw
        try dsimp only at h
        have hP : va_P (dC, dI) vwCl (wA ad cB cI cZ cL LP today legCount legs hung warmth damp wopen tsize bytes rat rtold rwrong numbers asked ftold ffarm ffrom fwhat fon csize ctotal offered cws cwa g_number g_farm g_pig g_first g_begun g_weight g_salted g_heat g_place g_target g_feedAsked g_sealed g_bad g_sold) H := by rw [← ht]; exact hB.1
        have hD : va_D A (wA ad cB cI cZ cL LP today legCount legs hung warmth damp wopen tsize bytes rat rtold rwrong numbers asked ftold ffarm ffrom fwhat fon csize ctotal offered cws cwa g_number g_farm g_pig g_first g_begun g_weight g_salted g_heat g_place g_target g_feedAsked g_sealed g_bad g_sold) := hB.2.2
        refine lv_if_eq (tgt := 53) hx hb dX5_readKind_37 (by decide) (fun c_10 => ?_) (fun c_10 => ?_)
        · have h := h.1 c_10
          exact hbk_C_X5_readKind_53 rat v1 _ _ _ hP hD hS (lv_sub hl [0, 1] rfl) h
        · have h := h.2 c_10
          refine lv_aload_n hx hb dX5_readKind_40 rfl (lv_at hl 0 rfl) ?_
          refine lv_dup hx hb dX5_readKind_41 rfl ?_
          refine va_get (D := (dC, dI)) (ci := 5) (v := .int rat) (C := RX5) (T := TX5) (N := 5) hx hb hts hk_1 hown hK hP 10 wA_g10 rfl 2 (by decide) hk_0 (fun _ h9 => h9) rfl dX5_readKind_42 ?_
          refine lv_iconst (v := 1) hx hb dX5_readKind_45 (by decide) ?_
          refine lv_iadd hx hb dX5_readKind_46 ?_
          refine va_put (D := (dC, dI)) (ci := 5) (v := .int (rat + 1)) (ty := .int) (C := RX5) (T := TX5) (N := 5) hx hb hts hk_1 tyX5 tyX5_ok nmX5 hown hK hP hD hS 10 wA_g10 rfl 2 (by decide) hk_0 (fun _ h9 => h9) rfl (by decide +kernel) rfl rfl (Nat.le_of_ble_eq_true rfl) dX5_readKind_47 (fun H locs hP2 hD2 hS => ?_)
          have hP : va_P (dC, dI) vwCl (wA ad cB cI cZ cL LP today legCount legs hung warmth damp wopen tsize bytes (rat + 1) rtold rwrong numbers asked ftold ffarm ffrom fwhat fon csize ctotal offered cws cwa g_number g_farm g_pig g_first g_begun g_weight g_salted g_heat g_place g_target g_feedAsked g_sealed g_bad g_sold) H := hP_eq (wA_p_rat) hP2
          have hD : va_D A (wA ad cB cI cZ cL LP today legCount legs hung warmth damp wopen tsize bytes (rat + 1) rtold rwrong numbers asked ftold ffarm ffrom fwhat fon csize ctotal offered cws cwa g_number g_farm g_pig g_first g_begun g_weight g_salted g_heat g_place g_target g_feedAsked g_sealed g_bad g_sold) := hD_eq (wA_p_rat) hD2
          refine lv_goto (tgt := 5) hx hb dX5_readKind_50 (by decide) ?_
          exact ih (rat + 1) v1 _ _ _ hP hD hS (lv_sub hl [0, 1] rfl) h
  have hl := lv_entry ([.ref (ad 10)]) (n := 3) (Nat.le_of_ble_eq_true rfl)
  rw [lg_entry_eq]
  generalize (lg_sl ([.ref (ad 10)]) ++ List.replicate (3 - (lg_sl ([.ref (ad 10)])).length) Slot.unset).toArray = ls at hl ⊢
  have hl : lv_has ls 3 [(0, .ref (ad 10))] := hl
  unfold wp_C_X5_readKind at h
  refine lv_aload_n hx hb dX5_readKind_0 rfl (lv_at hl 0 rfl) ?_
  refine va_get (D := (dC, dI)) (ci := 5) (v := .int rat) (C := RX5) (T := TX5) (N := 5) hx hb hts hk_1 hown hK hP 10 wA_g10 rfl 2 (by decide) hk_0 (fun _ h9 => h9) rfl dX5_readKind_1 ?_
  refine lv_istore_n (lv' := [(1, .int rat), (0, .ref (ad 10))]) hx hb dX5_readKind_4 rfl hl (by decide) rfl (fun ls hl => ?_)
  obtain ⟨n_11, h⟩ := h
  exact hlp_C_X5_readKind_5 n_11 rat rat _ _ _ hP hD hS (lv_sub hl [1, 0] rfl) h
def wp_C_X5_fail (Q : Int32 → Int32 → Prop) (rwrong : Int32) (p0 : Int32) : Prop := (o01 0 ∧ Q 0 p0)
def rm_C_X5_fail : Room := { frames := 0, cells := 0, slots := 0, locals := 0 }
abbrev pq_C_X5_fail (dC : Nat → ClassId) (dI : Nat → Nat → Nat) (ad : Nat → Nat) (cB cI cZ cL : ClassId) (A : Nat → Prop) (LP : List Nat) (today legCount : Int32) (legs hung : Nat → Option Nat) (warmth damp wopen : Nat → Int32) (tsize : Int32) (bytes : Nat → Int32) (rat rtold rwrong : Int32) (numbers asked : Nat → Int32) (ftold : Int32) (ffarm ffrom fwhat fon : Nat → Int32) (csize ctotal : Int32) (offered : Nat → Option Nat) (cws cwa g_number g_farm g_pig g_first g_begun g_weight g_salted g_heat g_place g_target g_feedAsked g_sealed g_bad g_sold : Nat → Int32) (Q : Int32 → Int32 → Prop) : Array Value → State → Outcome → State → Prop := va_Qi (fun (r : Int32) (u : Int32) => Q r u) (fun u t => kB dC dI A (wA ad cB cI cZ cL LP today legCount legs hung warmth damp wopen tsize bytes rat rtold u numbers asked ftold ffarm ffrom fwhat fon csize ctotal offered cws cwa g_number g_farm g_pig g_first g_begun g_weight g_salted g_heat g_place g_target g_feedAsked g_sealed g_bad g_sold) (kTy cB cI cZ cL) t) A
set_option maxHeartbeats 4000000 in
set_option maxRecDepth 100000 in
theorem c_C_X5_fail (l : Launch) (dC : Nat → ClassId) (dI : Nat → Nat → Nat) (ad : Nat → Nat) (cB cI cZ cL : ClassId) (A : Nat → Prop) (LP : List Nat) (today legCount : Int32) (legs hung : Nat → Option Nat) (warmth damp wopen : Nat → Int32) (tsize : Int32) (bytes : Nat → Int32) (rat rtold rwrong : Int32) (numbers asked : Nat → Int32) (ftold : Int32) (ffarm ffrom fwhat fon : Nat → Int32) (csize ctotal : Int32) (offered : Nat → Option Nat) (cws cwa g_number g_farm g_pig g_first g_begun g_weight g_salted g_heat g_place g_target g_feedAsked g_sealed g_bad g_sold : Nat → Int32) (p0 : Int32)  (Q : Int32 → Int32 → Prop) (h : wp_C_X5_fail Q rwrong p0) : Met l yX5_fail wsX5_fail rm_C_X5_fail (va_Pc [.ref (ad 10), .int p0] (kC dC dI ad A (wA ad cB cI cZ cL LP today legCount legs hung warmth damp wopen tsize bytes rat rtold rwrong numbers asked ftold ffarm ffrom fwhat fon csize ctotal offered cws cwa g_number g_farm g_pig g_first g_begun g_weight g_salted g_heat g_place g_target g_feedAsked g_sealed g_bad g_sold) (kTy cB cI cZ cL))) (pq_C_X5_fail dC dI ad cB cI cZ cL A LP today legCount legs hung warmth damp wopen tsize bytes rat rtold rwrong numbers asked ftold ffarm ffrom fwhat fon csize ctotal offered cws cwa g_number g_farm g_pig g_first g_begun g_weight g_salted g_heat g_place g_target g_feedAsked g_sealed g_bad g_sold Q) 0 0 A := by
  refine Met.ofW (cc := cX5_fail) (maxL := 2) (ret := (some .boolean)) (by decide) rfl ?_
  intro p e s m args below meth c s₁ B hml hv
  obtain ⟨rfl, hA, hP, hK, hD, hE⟩ := hv
  have hx := B.exec
  have hb := B.bytes
  have hr := B.returns
  have hts := atoms_spec (ws := wsX5_fail) B.pre
  have hown : s.vm.findClass RX5 = some m.cls := findClass_of_methodNamed B.named
  have hlocks := B.notSynchronized
  have hS : va_S A s.heap s.heap [] := va_S.rf
  have hk_0 := hts (.fieldLink RX5 15 "HamCellar$RuleReader" "wrong" "I") (by decide +kernel)
  have hk_1 : ∀ w ∈ wsX50, w ∈ wsX5_fail := by decide +kernel
  have hl := lv_entry ([.ref (ad 10), .int p0]) (n := 2) (Nat.le_of_ble_eq_true rfl)
  rw [lg_entry_eq]
  generalize (lg_sl ([.ref (ad 10), .int p0]) ++ List.replicate (2 - (lg_sl ([.ref (ad 10), .int p0])).length) Slot.unset).toArray = ls at hl ⊢
  have hl : lv_has ls 2 [(0, .ref (ad 10)), (1, .int p0)] := hl
  unfold wp_C_X5_fail at h
  refine lv_aload_n hx hb dX5_fail_0 rfl (lv_at hl 0 rfl) ?_
  refine lv_iload_n hx hb dX5_fail_1 rfl (lv_at hl 1 rfl) ?_
  refine va_put (D := (dC, dI)) (ci := 5) (v := .int p0) (ty := .int) (C := RX5) (T := TX5) (N := 5) hx hb hts hk_1 tyX5 tyX5_ok nmX5 hown hK hP hD hS 10 wA_g10 rfl 4 (by decide) hk_0 (fun _ h9 => h9) rfl (by decide +kernel) rfl rfl (Nat.le_of_ble_eq_true rfl) dX5_fail_2 (fun H locs hP2 hD2 hS => ?_)
  have hP : va_P (dC, dI) vwCl (wA ad cB cI cZ cL LP today legCount legs hung warmth damp wopen tsize bytes rat rtold p0 numbers asked ftold ffarm ffrom fwhat fon csize ctotal offered cws cwa g_number g_farm g_pig g_first g_begun g_weight g_salted g_heat g_place g_target g_feedAsked g_sealed g_bad g_sold) H := hP_eq (wA_p_rwrong) hP2
  have hD : va_D A (wA ad cB cI cZ cL LP today legCount legs hung warmth damp wopen tsize bytes rat rtold p0 numbers asked ftold ffarm ffrom fwhat fon csize ctotal offered cws cwa g_number g_farm g_pig g_first g_begun g_weight g_salted g_heat g_place g_target g_feedAsked g_sealed g_bad g_sold) := hD_eq (wA_p_rwrong) hD2
  refine lv_iconst (v := 0) hx hb dX5_fail_5 (by decide) ?_
  exact W.zret (v := 0) (ty := .boolean) hx hb hr (z01 h.1) (fun t ht hW => ⟨⟨0, (p0), rfl, h.2, kB_mk hP hK hD ht hW.alike⟩, hS.F ht⟩) hS.2.2 dX5_fail_6
def bk_C_X5_readNumber_85 (tsize : Int32) (bytes : Nat → Int32)  (Q : Int32 → Int32 → Prop) (rat : Int32) (v1 : Int32) (v2 : Int32) : Prop := wp_C_X7_isWithin (fun r_3 => ((r_3 = 0 → Q (-1) rat) ∧ (¬ (r_3 = 0) → Q v2 rat))) (rat - v1) 1 5
def bk_C_X5_readNumber_72 (tsize : Int32) (bytes : Nat → Int32)  (Q : Int32 → Int32 → Prop) (K7 : Int32 → Int32 → Int32 → Prop) (rat : Int32) (v1 : Int32) (v2 : Int32) : Prop := K7 (rat + 1) v1 v2
def lp_C_X5_readNumber_7 (tsize : Int32) (bytes : Nat → Int32)  (Q : Int32 → Int32 → Prop) : Nat → Int32 → Int32 → Int32 → Prop
  | 0 => fun _ _ _ => False
  | n + 1 => fun rat v1 v2 => wp_C_X6_size tsize (fun r_1 => ((r_1 ≤ rat → bk_C_X5_readNumber_85 tsize bytes Q rat v1 v2) ∧ (¬ (r_1 ≤ rat) → wp_C_X6_byteAt tsize bytes (fun r_5 => wp_C_X7_isWithin (fun r_6 => ((r_6 = 0 → bk_C_X5_readNumber_85 tsize bytes Q rat v1 v2) ∧ (¬ (r_6 = 0) → ((5 ≤ (rat - v1) → bk_C_X5_readNumber_72 tsize bytes Q (lp_C_X5_readNumber_7 tsize bytes Q n) rat v1 v2) ∧ (¬ (5 ≤ (rat - v1)) → wp_C_X6_byteAt tsize bytes (fun r_9 => bk_C_X5_readNumber_72 tsize bytes Q (lp_C_X5_readNumber_7 tsize bytes Q n) rat v1 (((v2 * 10) + r_9) - 48)) rat))))) r_5 48 57) rat)))
def wp_C_X5_readNumber (tsize : Int32) (bytes : Nat → Int32) (Q : Int32 → Int32 → Prop) (rat : Int32) : Prop := (∃ n_10, lp_C_X5_readNumber_7 tsize bytes Q n_10 rat rat 0)
def rm_C_X5_readNumber : Room := { frames := 1, cells := 0, slots := 0, locals := 22 }
abbrev pq_C_X5_readNumber (dC : Nat → ClassId) (dI : Nat → Nat → Nat) (ad : Nat → Nat) (cB cI cZ cL : ClassId) (A : Nat → Prop) (LP : List Nat) (today legCount : Int32) (legs hung : Nat → Option Nat) (warmth damp wopen : Nat → Int32) (tsize : Int32) (bytes : Nat → Int32) (rat rtold rwrong : Int32) (numbers asked : Nat → Int32) (ftold : Int32) (ffarm ffrom fwhat fon : Nat → Int32) (csize ctotal : Int32) (offered : Nat → Option Nat) (cws cwa g_number g_farm g_pig g_first g_begun g_weight g_salted g_heat g_place g_target g_feedAsked g_sealed g_bad g_sold : Nat → Int32) (Q : Int32 → Int32 → Prop) : Array Value → State → Outcome → State → Prop := va_Qi (fun (r : Int32) (u : Int32) => Q r u) (fun u t => kB dC dI A (wA ad cB cI cZ cL LP today legCount legs hung warmth damp wopen tsize bytes u rtold rwrong numbers asked ftold ffarm ffrom fwhat fon csize ctotal offered cws cwa g_number g_farm g_pig g_first g_begun g_weight g_salted g_heat g_place g_target g_feedAsked g_sealed g_bad g_sold) (kTy cB cI cZ cL) t) A
set_option maxHeartbeats 4000000 in
set_option maxRecDepth 100000 in
theorem c_C_X5_readNumber (l : Launch) (dC : Nat → ClassId) (dI : Nat → Nat → Nat) (ad : Nat → Nat) (cB cI cZ cL : ClassId) (A : Nat → Prop) (LP : List Nat) (today legCount : Int32) (legs hung : Nat → Option Nat) (warmth damp wopen : Nat → Int32) (tsize : Int32) (bytes : Nat → Int32) (rat rtold rwrong : Int32) (numbers asked : Nat → Int32) (ftold : Int32) (ffarm ffrom fwhat fon : Nat → Int32) (csize ctotal : Int32) (offered : Nat → Option Nat) (cws cwa g_number g_farm g_pig g_first g_begun g_weight g_salted g_heat g_place g_target g_feedAsked g_sealed g_bad g_sold : Nat → Int32)   (Q : Int32 → Int32 → Prop) (h : wp_C_X5_readNumber tsize bytes Q rat) : Met l yX5_readNumber wsX5_readNumber rm_C_X5_readNumber (va_Pc [.ref (ad 10)] (kC dC dI ad A (wA ad cB cI cZ cL LP today legCount legs hung warmth damp wopen tsize bytes rat rtold rwrong numbers asked ftold ffarm ffrom fwhat fon csize ctotal offered cws cwa g_number g_farm g_pig g_first g_begun g_weight g_salted g_heat g_place g_target g_feedAsked g_sealed g_bad g_sold) (kTy cB cI cZ cL))) (pq_C_X5_readNumber dC dI ad cB cI cZ cL A LP today legCount legs hung warmth damp wopen tsize bytes rat rtold rwrong numbers asked ftold ffarm ffrom fwhat fon csize ctotal offered cws cwa g_number g_farm g_pig g_first g_begun g_weight g_salted g_heat g_place g_target g_feedAsked g_sealed g_bad g_sold Q) 0 0 A := by
  refine Met.ofW (cc := cX5_readNumber) (maxL := 3) (ret := (some .int)) (by decide) rfl ?_
  intro p e s m args below meth c s₁ B hml hv
  obtain ⟨rfl, hA, hP, hK, hD, hE⟩ := hv
  have hx := B.exec
  have hb := B.bytes
  have hr := B.returns
  have hts := atoms_spec (ws := wsX5_readNumber) B.pre
  have hown : s.vm.findClass RX5 = some m.cls := findClass_of_methodNamed B.named
  have hlocks := B.notSynchronized
  have hS : va_S A s.heap s.heap [] := va_S.rf
  have hk_0 := hts (.fieldLink RX5 23 "HamCellar$RuleReader" "at" "I") (by decide +kernel)
  have hk_1 : ∀ w ∈ wsX50, w ∈ wsX5_readNumber := by decide +kernel
  have hk_2 := hts (.fieldLink RX5 19 "HamCellar$RuleReader" "tape" "LHamCellar$Tape;") (by decide +kernel)
  have hk_3 := hE.2.1.2.1 ("HamCellar$RuleReader", 65, ⟨"HamCellar", "isWithin", "(III)Z"⟩, "HamCellar") (by decide +kernel)
  have hk_4 := hts (.initialized RX7) (by decide +kernel)
  have hk_5 := hts (.static yX7_isWithin) (by decide +kernel)
  have hbk_C_X5_readNumber_85 : ∀ (rat : Int32) (v1 : Int32) (v2 : Int32) (H : Heap) (locs : List Loc) (ls : Array Slot), va_P (dC, dI) vwCl (wA ad cB cI cZ cL LP today legCount legs hung warmth damp wopen tsize bytes rat rtold rwrong numbers asked ftold ffarm ffrom fwhat fon csize ctotal offered cws cwa g_number g_farm g_pig g_first g_begun g_weight g_salted g_heat g_place g_target g_feedAsked g_sealed g_bad g_sold) H → va_D A (wA ad cB cI cZ cL LP today legCount legs hung warmth damp wopen tsize bytes rat rtold rwrong numbers asked ftold ffarm ffrom fwhat fon csize ctotal offered cws cwa g_number g_farm g_pig g_first g_begun g_weight g_salted g_heat g_place g_target g_feedAsked g_sealed g_bad g_sold) → va_S A s.heap H locs → lv_has ls 3 [(0, .ref (ad 10)), (1, .int v1), (2, .int v2)] → bk_C_X5_readNumber_85 tsize bytes Q rat v1 v2 → W p l e (headSpec wsX5_readNumber rm_C_X5_readNumber).room s m ([.ref (ad 10)] : List Value).toArray below meth c H locs 0 0 (MQ below (pq_C_X5_readNumber dC dI ad cB cI cZ cL A LP today legCount legs hung warmth damp wopen tsize bytes rat rtold rwrong numbers asked ftold ffarm ffrom fwhat fon csize ctotal offered cws cwa g_number g_farm g_pig g_first g_begun g_weight g_salted g_heat g_place g_target g_feedAsked g_sealed g_bad g_sold Q) ([.ref (ad 10)] : List Value).toArray s 0 0 A) (F0 m 85 ls []) := by
    intro rat v1 v2 H locs ls hP hD hS hl h
    have h : wp_C_X7_isWithin (fun r_3 => ((r_3 = 0 → Q (-1) rat) ∧ (¬ (r_3 = 0) → Q v2 rat))) (rat - v1) 1 5 := h
    refine lv_aload_n hx hb dX5_readNumber_85 rfl (lv_at hl 0 rfl) ?_
    refine va_get (D := (dC, dI)) (ci := 5) (v := .int rat) (C := RX5) (T := TX5) (N := 5) hx hb hts hk_1 hown hK hP 10 wA_g10 rfl 2 (by decide) hk_0 (fun _ h9 => h9) rfl dX5_readNumber_86 ?_
    refine lv_iload_n hx hb dX5_readNumber_89 rfl (lv_at hl 1 rfl) ?_
    refine lv_isub hx hb dX5_readNumber_90 ?_
    refine lv_iconst (v := 1) hx hb dX5_readNumber_91 (by decide) ?_
    refine lv_iconst (v := 5) hx hb dX5_readNumber_92 (by decide) ?_
    refine va_calli (va_runSN (As := [.int (rat - v1), .int 1, .int 5]) (rest := []) ⟨hx, hb, hml, hown, hts⟩ (c_C_X7_isWithin l dC dI ad cB cI cZ cL A LP today legCount legs hung warmth damp wopen tsize bytes rat rtold rwrong numbers asked ftold ffarm ffrom fwhat fon csize ctotal offered cws cwa g_number g_farm g_pig g_first g_begun g_weight g_salted g_heat g_place g_target g_feedAsked g_sealed g_bad g_sold (rat - v1) 1 5 _ h) ⟨va_cnB 3 hts gX5_readNumber_X7_isWithin_n65 rfl rfl rfl hk_3 hk_4 (by decide +kernel) ⟨(Nat.le_of_ble_eq_true rfl), (Nat.le_of_ble_eq_true rfl)⟩, hk_5, trivial⟩ ⟨kC_blind, fun U hU hW => ⟨rfl, kC_go hA hS hP hK hD hE U hU hW⟩⟩ rfl rfl hl.1 rfl (lv_room (Nat.le_of_ble_eq_true rfl)) dX5_readNumber_93 ⟨(Nat.le_of_ble_eq_true rfl), (Nat.le_of_ble_eq_true rfl)⟩) hS (fun q _ h => h) (fun q h => h) (fun r_3 u t H locs ht hvm hw hB hz1 hk1 hS => ?_)
    have h := hw
    try dsimp only at h
    have hP : va_P (dC, dI) vwCl (wA ad cB cI cZ cL LP today legCount legs hung warmth damp wopen tsize bytes rat rtold rwrong numbers asked ftold ffarm ffrom fwhat fon csize ctotal offered cws cwa g_number g_farm g_pig g_first g_begun g_weight g_salted g_heat g_place g_target g_feedAsked g_sealed g_bad g_sold) H := by rw [← ht]; exact hB.1
    have hD : va_D A (wA ad cB cI cZ cL LP today legCount legs hung warmth damp wopen tsize bytes rat rtold rwrong numbers asked ftold ffarm ffrom fwhat fon csize ctotal offered cws cwa g_number g_farm g_pig g_first g_begun g_weight g_salted g_heat g_place g_target g_feedAsked g_sealed g_bad g_sold) := hB.2.2
    refine lv_if_eq (tgt := 103) hx hb dX5_readNumber_96 (by decide) (fun c_4 => ?_) (fun c_4 => ?_)
    · have h := h.1 c_4
      refine lv_iconst (v := (-1)) hx hb dX5_readNumber_103 (by decide) ?_
      exact W.iret (v := (-1)) hx hb hr (fun t ht hW => ⟨⟨(-1), (rat), rfl, h, kB_mk hP hK hD ht hW.alike⟩, hS.F ht⟩) hS.2.2 dX5_readNumber_104
    · have h := h.2 c_4
      refine lv_iload_n hx hb dX5_readNumber_99 rfl (lv_at hl 2 rfl) ?_
      refine lv_goto (tgt := 104) hx hb dX5_readNumber_100 (by decide) ?_
      exact W.iret (v := v2) hx hb hr (fun t ht hW => ⟨⟨v2, (rat), rfl, h, kB_mk hP hK hD ht hW.alike⟩, hS.F ht⟩) hS.2.2 dX5_readNumber_104
  have hbk_C_X5_readNumber_72 : ∀ (K7 : Int32 → Int32 → Int32 → Prop) (hK7 : ∀ (rat : Int32) (v1 : Int32) (v2 : Int32) (H : Heap) (locs : List Loc) (ls : Array Slot), va_P (dC, dI) vwCl (wA ad cB cI cZ cL LP today legCount legs hung warmth damp wopen tsize bytes rat rtold rwrong numbers asked ftold ffarm ffrom fwhat fon csize ctotal offered cws cwa g_number g_farm g_pig g_first g_begun g_weight g_salted g_heat g_place g_target g_feedAsked g_sealed g_bad g_sold) H → va_D A (wA ad cB cI cZ cL LP today legCount legs hung warmth damp wopen tsize bytes rat rtold rwrong numbers asked ftold ffarm ffrom fwhat fon csize ctotal offered cws cwa g_number g_farm g_pig g_first g_begun g_weight g_salted g_heat g_place g_target g_feedAsked g_sealed g_bad g_sold) → va_S A s.heap H locs → lv_has ls 3 [(0, .ref (ad 10)), (1, .int v1), (2, .int v2)] → K7 rat v1 v2 → W p l e (headSpec wsX5_readNumber rm_C_X5_readNumber).room s m ([.ref (ad 10)] : List Value).toArray below meth c H locs 0 0 (MQ below (pq_C_X5_readNumber dC dI ad cB cI cZ cL A LP today legCount legs hung warmth damp wopen tsize bytes rat rtold rwrong numbers asked ftold ffarm ffrom fwhat fon csize ctotal offered cws cwa g_number g_farm g_pig g_first g_begun g_weight g_salted g_heat g_place g_target g_feedAsked g_sealed g_bad g_sold Q) ([.ref (ad 10)] : List Value).toArray s 0 0 A) (F0 m 7 ls [])) (rat : Int32) (v1 : Int32) (v2 : Int32) (H : Heap) (locs : List Loc) (ls : Array Slot), va_P (dC, dI) vwCl (wA ad cB cI cZ cL LP today legCount legs hung warmth damp wopen tsize bytes rat rtold rwrong numbers asked ftold ffarm ffrom fwhat fon csize ctotal offered cws cwa g_number g_farm g_pig g_first g_begun g_weight g_salted g_heat g_place g_target g_feedAsked g_sealed g_bad g_sold) H → va_D A (wA ad cB cI cZ cL LP today legCount legs hung warmth damp wopen tsize bytes rat rtold rwrong numbers asked ftold ffarm ffrom fwhat fon csize ctotal offered cws cwa g_number g_farm g_pig g_first g_begun g_weight g_salted g_heat g_place g_target g_feedAsked g_sealed g_bad g_sold) → va_S A s.heap H locs → lv_has ls 3 [(0, .ref (ad 10)), (1, .int v1), (2, .int v2)] → bk_C_X5_readNumber_72 tsize bytes Q K7 rat v1 v2 → W p l e (headSpec wsX5_readNumber rm_C_X5_readNumber).room s m ([.ref (ad 10)] : List Value).toArray below meth c H locs 0 0 (MQ below (pq_C_X5_readNumber dC dI ad cB cI cZ cL A LP today legCount legs hung warmth damp wopen tsize bytes rat rtold rwrong numbers asked ftold ffarm ffrom fwhat fon csize ctotal offered cws cwa g_number g_farm g_pig g_first g_begun g_weight g_salted g_heat g_place g_target g_feedAsked g_sealed g_bad g_sold Q) ([.ref (ad 10)] : List Value).toArray s 0 0 A) (F0 m 72 ls []) := by
    intro K7 hK7 rat v1 v2 H locs ls hP hD hS hl h
    refine lv_aload_n hx hb dX5_readNumber_72 rfl (lv_at hl 0 rfl) ?_
    refine lv_dup hx hb dX5_readNumber_73 rfl ?_
    refine va_get (D := (dC, dI)) (ci := 5) (v := .int rat) (C := RX5) (T := TX5) (N := 5) hx hb hts hk_1 hown hK hP 10 wA_g10 rfl 2 (by decide) hk_0 (fun _ h9 => h9) rfl dX5_readNumber_74 ?_
    refine lv_iconst (v := 1) hx hb dX5_readNumber_77 (by decide) ?_
    refine lv_iadd hx hb dX5_readNumber_78 ?_
    refine va_put (D := (dC, dI)) (ci := 5) (v := .int (rat + 1)) (ty := .int) (C := RX5) (T := TX5) (N := 5) hx hb hts hk_1 tyX5 tyX5_ok nmX5 hown hK hP hD hS 10 wA_g10 rfl 2 (by decide) hk_0 (fun _ h9 => h9) rfl (by decide +kernel) rfl rfl (Nat.le_of_ble_eq_true rfl) dX5_readNumber_79 (fun H locs hP2 hD2 hS => ?_)
    have hP : va_P (dC, dI) vwCl (wA ad cB cI cZ cL LP today legCount legs hung warmth damp wopen tsize bytes (rat + 1) rtold rwrong numbers asked ftold ffarm ffrom fwhat fon csize ctotal offered cws cwa g_number g_farm g_pig g_first g_begun g_weight g_salted g_heat g_place g_target g_feedAsked g_sealed g_bad g_sold) H := hP_eq (wA_p_rat) hP2
    have hD : va_D A (wA ad cB cI cZ cL LP today legCount legs hung warmth damp wopen tsize bytes (rat + 1) rtold rwrong numbers asked ftold ffarm ffrom fwhat fon csize ctotal offered cws cwa g_number g_farm g_pig g_first g_begun g_weight g_salted g_heat g_place g_target g_feedAsked g_sealed g_bad g_sold) := hD_eq (wA_p_rat) hD2
    refine lv_goto (tgt := 7) hx hb dX5_readNumber_82 (by decide) ?_
    exact hK7 (rat + 1) v1 v2 _ _ _ hP hD hS (lv_sub hl [0, 1, 2] rfl) h
  have hlp_C_X5_readNumber_7 : ∀ (n : Nat) (rat : Int32) (v1 : Int32) (v2 : Int32) (H : Heap) (locs : List Loc) (ls : Array Slot), va_P (dC, dI) vwCl (wA ad cB cI cZ cL LP today legCount legs hung warmth damp wopen tsize bytes rat rtold rwrong numbers asked ftold ffarm ffrom fwhat fon csize ctotal offered cws cwa g_number g_farm g_pig g_first g_begun g_weight g_salted g_heat g_place g_target g_feedAsked g_sealed g_bad g_sold) H → va_D A (wA ad cB cI cZ cL LP today legCount legs hung warmth damp wopen tsize bytes rat rtold rwrong numbers asked ftold ffarm ffrom fwhat fon csize ctotal offered cws cwa g_number g_farm g_pig g_first g_begun g_weight g_salted g_heat g_place g_target g_feedAsked g_sealed g_bad g_sold) → va_S A s.heap H locs → lv_has ls 3 [(0, .ref (ad 10)), (1, .int v1), (2, .int v2)] → lp_C_X5_readNumber_7 tsize bytes Q n rat v1 v2 → W p l e (headSpec wsX5_readNumber rm_C_X5_readNumber).room s m ([.ref (ad 10)] : List Value).toArray below meth c H locs 0 0 (MQ below (pq_C_X5_readNumber dC dI ad cB cI cZ cL A LP today legCount legs hung warmth damp wopen tsize bytes rat rtold rwrong numbers asked ftold ffarm ffrom fwhat fon csize ctotal offered cws cwa g_number g_farm g_pig g_first g_begun g_weight g_salted g_heat g_place g_target g_feedAsked g_sealed g_bad g_sold Q) ([.ref (ad 10)] : List Value).toArray s 0 0 A) (F0 m 7 ls []) := by
    intro n
    induction n with
    | zero => intro rat v1 v2 H locs ls hP hD hS hl h; exact h.elim
    | succ n ih =>
      intro rat v1 v2 H locs ls hP hD hS hl h
      have h : wp_C_X6_size tsize (fun r_1 => ((r_1 ≤ rat → bk_C_X5_readNumber_85 tsize bytes Q rat v1 v2) ∧ (¬ (r_1 ≤ rat) → wp_C_X6_byteAt tsize bytes (fun r_5 => wp_C_X7_isWithin (fun r_6 => ((r_6 = 0 → bk_C_X5_readNumber_85 tsize bytes Q rat v1 v2) ∧ (¬ (r_6 = 0) → ((5 ≤ (rat - v1) → bk_C_X5_readNumber_72 tsize bytes Q (lp_C_X5_readNumber_7 tsize bytes Q n) rat v1 v2) ∧ (¬ (5 ≤ (rat - v1)) → wp_C_X6_byteAt tsize bytes (fun r_9 => bk_C_X5_readNumber_72 tsize bytes Q (lp_C_X5_readNumber_7 tsize bytes Q n) rat v1 (((v2 * 10) + r_9) - 48)) rat))))) r_5 48 57) rat))) := h
      refine lv_aload_n hx hb dX5_readNumber_7 rfl (lv_at hl 0 rfl) ?_
      refine va_get (D := (dC, dI)) (ci := 5) (v := .int rat) (C := RX5) (T := TX5) (N := 5) hx hb hts hk_1 hown hK hP 10 wA_g10 rfl 2 (by decide) hk_0 (fun _ h9 => h9) rfl dX5_readNumber_8 ?_
      refine lv_aload_n hx hb dX5_readNumber_11 rfl (lv_at hl 0 rfl) ?_
      refine va_get (D := (dC, dI)) (ci := 5) (v := .ref (ad 8)) (C := RX5) (T := TX5) (N := 5) hx hb hts hk_1 hown hK hP 10 wA_g10 rfl 0 (by decide) hk_2 (fun _ h9 => h9) rfl dX5_readNumber_12 ?_
      refine va_calli (va_runV (As := []) (rest := [.int rat]) ⟨hx, hb, hml, hown, hts⟩ (c_C_X6_size l dC dI ad cB cI cZ cL A LP today legCount legs hung warmth damp wopen tsize bytes rat rtold rwrong numbers asked ftold ffarm ffrom fwhat fon csize ctotal offered cws cwa g_number g_farm g_pig g_first g_begun g_weight g_salted g_heat g_place g_target g_feedAsked g_sealed g_bad g_sold _ h) (cwV 0 hts gX5_readNumber_X6_size rfl rfl rfl (by decide +kernel) ⟨(Nat.le_of_ble_eq_true rfl), (Nat.le_of_ble_eq_true rfl)⟩) ⟨kC_blind, va_recv hK hP (ci := 6) (q0 := 8) rfl wA_g8, fun U hU hW => ⟨rfl, kC_go hA hS hP hK hD hE U hU hW⟩⟩ rfl rfl hl.1 rfl (lv_room (Nat.le_of_ble_eq_true rfl)) dX5_readNumber_15 ⟨(Nat.le_of_ble_eq_true rfl), (Nat.le_of_ble_eq_true rfl)⟩) hS (fun q _ h => h) (fun q h => h) (fun r_1 u t H locs ht hvm hw hB hz1 hk1 hS => ?_)
      have h := hw
      try dsimp only at h
      have hP : va_P (dC, dI) vwCl (wA ad cB cI cZ cL LP today legCount legs hung warmth damp wopen tsize bytes rat rtold rwrong numbers asked ftold ffarm ffrom fwhat fon csize ctotal offered cws cwa g_number g_farm g_pig g_first g_begun g_weight g_salted g_heat g_place g_target g_feedAsked g_sealed g_bad g_sold) H := by rw [← ht]; exact hB.1
      have hD : va_D A (wA ad cB cI cZ cL LP today legCount legs hung warmth damp wopen tsize bytes rat rtold rwrong numbers asked ftold ffarm ffrom fwhat fon csize ctotal offered cws cwa g_number g_farm g_pig g_first g_begun g_weight g_salted g_heat g_place g_target g_feedAsked g_sealed g_bad g_sold) := hB.2.2
      refine lv_icmp_ge (tgt := 85) hx hb dX5_readNumber_18 (by decide) (fun c_2 => ?_) (fun c_2 => ?_)
      · have h := h.1 c_2
        exact hbk_C_X5_readNumber_85 rat v1 v2 _ _ _ hP hD hS (lv_sub hl [0, 1, 2] rfl) h
      · have h := h.2 c_2
        refine lv_aload_n hx hb dX5_readNumber_21 rfl (lv_at hl 0 rfl) ?_
        refine va_get (D := (dC, dI)) (ci := 5) (v := .ref (ad 8)) (C := RX5) (T := TX5) (N := 5) hx hb hts hk_1 hown hK hP 10 wA_g10 rfl 0 (by decide) hk_2 (fun _ h9 => h9) rfl dX5_readNumber_22 ?_
        refine lv_aload_n hx hb dX5_readNumber_25 rfl (lv_at hl 0 rfl) ?_
        refine va_get (D := (dC, dI)) (ci := 5) (v := .int rat) (C := RX5) (T := TX5) (N := 5) hx hb hts hk_1 hown hK hP 10 wA_g10 rfl 2 (by decide) hk_0 (fun _ h9 => h9) rfl dX5_readNumber_26 ?_
        refine va_calli (va_runV (As := [.int rat]) (rest := []) ⟨hx, hb, hml, hown, hts⟩ (c_C_X6_byteAt l dC dI ad cB cI cZ cL A LP today legCount legs hung warmth damp wopen tsize bytes rat rtold rwrong numbers asked ftold ffarm ffrom fwhat fon csize ctotal offered cws cwa g_number g_farm g_pig g_first g_begun g_weight g_salted g_heat g_place g_target g_feedAsked g_sealed g_bad g_sold rat _ h) (cwV 1 hts gX5_readNumber_X6_byteAt rfl rfl rfl (by decide +kernel) ⟨(Nat.le_of_ble_eq_true rfl), (Nat.le_of_ble_eq_true rfl)⟩) ⟨kC_blind, va_recv hK hP (ci := 6) (q0 := 8) rfl wA_g8, fun U hU hW => ⟨rfl, kC_go hA hS hP hK hD hE U hU hW⟩⟩ rfl rfl hl.1 rfl (lv_room (Nat.le_of_ble_eq_true rfl)) dX5_readNumber_29 ⟨(Nat.le_of_ble_eq_true rfl), (Nat.le_of_ble_eq_true rfl)⟩) hS (fun q _ h => h) (fun q h => h) (fun r_5 u t H locs ht hvm hw hB hz1 hk1 hS => ?_)
        have h := hw
        try dsimp only at h
        have hP : va_P (dC, dI) vwCl (wA ad cB cI cZ cL LP today legCount legs hung warmth damp wopen tsize bytes rat rtold rwrong numbers asked ftold ffarm ffrom fwhat fon csize ctotal offered cws cwa g_number g_farm g_pig g_first g_begun g_weight g_salted g_heat g_place g_target g_feedAsked g_sealed g_bad g_sold) H := by rw [← ht]; exact hB.1
        have hD : va_D A (wA ad cB cI cZ cL LP today legCount legs hung warmth damp wopen tsize bytes rat rtold rwrong numbers asked ftold ffarm ffrom fwhat fon csize ctotal offered cws cwa g_number g_farm g_pig g_first g_begun g_weight g_salted g_heat g_place g_target g_feedAsked g_sealed g_bad g_sold) := hB.2.2
        refine lv_bipush (v := 48) hx hb dX5_readNumber_32 (by decide) ?_
        refine lv_bipush (v := 57) hx hb dX5_readNumber_34 (by decide) ?_
        refine va_calli (va_runSN (As := [.int r_5, .int 48, .int 57]) (rest := []) ⟨hx, hb, hml, hown, hts⟩ (c_C_X7_isWithin l dC dI ad cB cI cZ cL A LP today legCount legs hung warmth damp wopen tsize bytes rat rtold rwrong numbers asked ftold ffarm ffrom fwhat fon csize ctotal offered cws cwa g_number g_farm g_pig g_first g_begun g_weight g_salted g_heat g_place g_target g_feedAsked g_sealed g_bad g_sold r_5 48 57 _ h) ⟨va_cnB 3 hts gX5_readNumber_X7_isWithin_n65 rfl rfl rfl hk_3 hk_4 (by decide +kernel) ⟨(Nat.le_of_ble_eq_true rfl), (Nat.le_of_ble_eq_true rfl)⟩, hk_5, trivial⟩ ⟨kC_blind, fun U hU hW => ⟨rfl, kC_go hA hS hP hK hD hE U hU hW⟩⟩ rfl rfl hl.1 rfl (lv_room (Nat.le_of_ble_eq_true rfl)) dX5_readNumber_36 ⟨(Nat.le_of_ble_eq_true rfl), (Nat.le_of_ble_eq_true rfl)⟩) hS (fun q _ h => h) (fun q h => h) (fun r_6 u t H locs ht hvm hw hB hz1 hk1 hS => ?_)
        have h := hw
        try dsimp only at h
        have hP : va_P (dC, dI) vwCl (wA ad cB cI cZ cL LP today legCount legs hung warmth damp wopen tsize bytes rat rtold rwrong numbers asked ftold ffarm ffrom fwhat fon csize ctotal offered cws cwa g_number g_farm g_pig g_first g_begun g_weight g_salted g_heat g_place g_target g_feedAsked g_sealed g_bad g_sold) H := by rw [← ht]; exact hB.1
        have hD : va_D A (wA ad cB cI cZ cL LP today legCount legs hung warmth damp wopen tsize bytes rat rtold rwrong numbers asked ftold ffarm ffrom fwhat fon csize ctotal offered cws cwa g_number g_farm g_pig g_first g_begun g_weight g_salted g_heat g_place g_target g_feedAsked g_sealed g_bad g_sold) := hB.2.2
        refine lv_if_eq (tgt := 85) hx hb dX5_readNumber_39 (by decide) (fun c_7 => ?_) (fun c_7 => ?_)
        · have h := h.1 c_7
          exact hbk_C_X5_readNumber_85 rat v1 v2 _ _ _ hP hD hS (lv_sub hl [0, 1, 2] rfl) h
        · have h := h.2 c_7
          refine lv_aload_n hx hb dX5_readNumber_42 rfl (lv_at hl 0 rfl) ?_
          refine va_get (D := (dC, dI)) (ci := 5) (v := .int rat) (C := RX5) (T := TX5) (N := 5) hx hb hts hk_1 hown hK hP 10 wA_g10 rfl 2 (by decide) hk_0 (fun _ h9 => h9) rfl dX5_readNumber_43 ?_
          refine lv_iload_n hx hb dX5_readNumber_46 rfl (lv_at hl 1 rfl) ?_
          refine lv_isub hx hb dX5_readNumber_47 ?_
          refine lv_iconst (v := 5) hx hb dX5_readNumber_48 (by decide) ?_
          refine lv_icmp_ge (tgt := 72) hx hb dX5_readNumber_49 (by decide) (fun c_8 => ?_) (fun c_8 => ?_)
          · have h := h.1 c_8
            exact hbk_C_X5_readNumber_72 (lp_C_X5_readNumber_7 tsize bytes Q n) ih rat v1 v2 _ _ _ hP hD hS (lv_sub hl [0, 1, 2] rfl) h
          · have h := h.2 c_8
            refine lv_iload_n hx hb dX5_readNumber_52 rfl (lv_at hl 2 rfl) ?_
            refine lv_bipush (v := 10) hx hb dX5_readNumber_53 (by decide) ?_
            refine lv_imul hx hb dX5_readNumber_55 ?_
            refine lv_aload_n hx hb dX5_readNumber_56 rfl (lv_at hl 0 rfl) ?_
            refine va_get (D := (dC, dI)) (ci := 5) (v := .ref (ad 8)) (C := RX5) (T := TX5) (N := 5) hx hb hts hk_1 hown hK hP 10 wA_g10 rfl 0 (by decide) hk_2 (fun _ h9 => h9) rfl dX5_readNumber_57 ?_
            refine lv_aload_n hx hb dX5_readNumber_60 rfl (lv_at hl 0 rfl) ?_
            refine va_get (D := (dC, dI)) (ci := 5) (v := .int rat) (C := RX5) (T := TX5) (N := 5) hx hb hts hk_1 hown hK hP 10 wA_g10 rfl 2 (by decide) hk_0 (fun _ h9 => h9) rfl dX5_readNumber_61 ?_
            refine va_calli (va_runV (As := [.int rat]) (rest := [.int (v2 * 10)]) ⟨hx, hb, hml, hown, hts⟩ (c_C_X6_byteAt l dC dI ad cB cI cZ cL A LP today legCount legs hung warmth damp wopen tsize bytes rat rtold rwrong numbers asked ftold ffarm ffrom fwhat fon csize ctotal offered cws cwa g_number g_farm g_pig g_first g_begun g_weight g_salted g_heat g_place g_target g_feedAsked g_sealed g_bad g_sold rat _ h) (cwV 1 hts gX5_readNumber_X6_byteAt rfl rfl rfl (by decide +kernel) ⟨(Nat.le_of_ble_eq_true rfl), (Nat.le_of_ble_eq_true rfl)⟩) ⟨kC_blind, va_recv hK hP (ci := 6) (q0 := 8) rfl wA_g8, fun U hU hW => ⟨rfl, kC_go hA hS hP hK hD hE U hU hW⟩⟩ rfl rfl hl.1 rfl (lv_room (Nat.le_of_ble_eq_true rfl)) dX5_readNumber_64 ⟨(Nat.le_of_ble_eq_true rfl), (Nat.le_of_ble_eq_true rfl)⟩) hS (fun q _ h => h) (fun q h => h) (fun r_9 u t H locs ht hvm hw hB hz1 hk1 hS => ?_)
            have h := hw
            try dsimp only at h
            have hP : va_P (dC, dI) vwCl (wA ad cB cI cZ cL LP today legCount legs hung warmth damp wopen tsize bytes rat rtold rwrong numbers asked ftold ffarm ffrom fwhat fon csize ctotal offered cws cwa g_number g_farm g_pig g_first g_begun g_weight g_salted g_heat g_place g_target g_feedAsked g_sealed g_bad g_sold) H := by rw [← ht]; exact hB.1
            have hD : va_D A (wA ad cB cI cZ cL LP today legCount legs hung warmth damp wopen tsize bytes rat rtold rwrong numbers asked ftold ffarm ffrom fwhat fon csize ctotal offered cws cwa g_number g_farm g_pig g_first g_begun g_weight g_salted g_heat g_place g_target g_feedAsked g_sealed g_bad g_sold) := hB.2.2
            refine lv_iadd hx hb dX5_readNumber_67 ?_
            refine lv_bipush (v := 48) hx hb dX5_readNumber_68 (by decide) ?_
            refine lv_isub hx hb dX5_readNumber_70 ?_
            refine lv_istore_n (lv' := [(2, .int (((v2 * 10) + r_9) - 48)), (0, .ref (ad 10)), (1, .int v1)]) hx hb dX5_readNumber_71 rfl hl (by decide) rfl (fun ls hl => ?_)
            exact hbk_C_X5_readNumber_72 (lp_C_X5_readNumber_7 tsize bytes Q n) ih rat v1 (((v2 * 10) + r_9) - 48) _ _ _ hP hD hS (lv_sub hl [1, 2, 0] rfl) h
  have hl := lv_entry ([.ref (ad 10)]) (n := 3) (Nat.le_of_ble_eq_true rfl)
  rw [lg_entry_eq]
  generalize (lg_sl ([.ref (ad 10)]) ++ List.replicate (3 - (lg_sl ([.ref (ad 10)])).length) Slot.unset).toArray = ls at hl ⊢
  have hl : lv_has ls 3 [(0, .ref (ad 10))] := hl
  unfold wp_C_X5_readNumber at h
  refine lv_aload_n hx hb dX5_readNumber_0 rfl (lv_at hl 0 rfl) ?_
  refine va_get (D := (dC, dI)) (ci := 5) (v := .int rat) (C := RX5) (T := TX5) (N := 5) hx hb hts hk_1 hown hK hP 10 wA_g10 rfl 2 (by decide) hk_0 (fun _ h9 => h9) rfl dX5_readNumber_1 ?_
  refine lv_istore_n (lv' := [(1, .int rat), (0, .ref (ad 10))]) hx hb dX5_readNumber_4 rfl hl (by decide) rfl (fun ls hl => ?_)
  refine lv_iconst (v := 0) hx hb dX5_readNumber_5 (by decide) ?_
  refine lv_istore_n (lv' := [(2, .int 0), (1, .int rat), (0, .ref (ad 10))]) hx hb dX5_readNumber_6 rfl hl (by decide) rfl (fun ls hl => ?_)
  obtain ⟨n_10, h⟩ := h
  exact hlp_C_X5_readNumber_7 n_10 rat rat 0 _ _ _ hP hD hS (lv_sub hl [2, 1, 0] rfl) h
def bk_C_X5_readRule_23 (tsize : Int32) (bytes : Nat → Int32)  (Q : Int32 → Int32 → Int32 → Int32 → (Nat → Int32) → Prop) (rat : Int32) (rtold : Int32) (rwrong : Int32) (numbers : Nat → Int32) (v1 : Int32) : Prop := wp_C_X5_fail (fun r_4 rwrong_4 => (o01 r_4 ∧ Q r_4 rat rtold rwrong_4 numbers)) rwrong v1
def bk_C_X5_readRule_60 (tsize : Int32) (bytes : Nat → Int32)  (Q : Int32 → Int32 → Int32 → Int32 → (Nat → Int32) → Prop) (rat : Int32) (rtold : Int32) (rwrong : Int32) (numbers : Nat → Int32) (v3 : Int32) : Prop := wp_C_X5_fail (fun r_9 rwrong_9 => (o01 r_9 ∧ Q r_9 rat rtold rwrong_9 numbers)) rwrong v3
def wp_C_X5_readRule (tsize : Int32) (bytes : Nat → Int32) (Q : Int32 → Int32 → Int32 → Int32 → (Nat → Int32) → Prop) (rat : Int32) (rtold : Int32) (rwrong : Int32) (numbers : Nat → Int32) : Prop := wp_C_X5_skipBlanks tsize bytes (fun rat_1 => wp_C_X5_readKind tsize bytes (fun r_2 rat_2 => ((r_2 < 0 → bk_C_X5_readRule_23 tsize bytes Q rat_2 rtold rwrong numbers rat_1) ∧ (¬ (r_2 < 0) → ((r_2 < 5 → wp_C_X5_skipBlanks tsize bytes (fun rat_6 => wp_C_X5_readNumber tsize bytes (fun r_7 rat_7 => ((r_7 = (-1) → bk_C_X5_readRule_60 tsize bytes Q rat_7 rtold rwrong numbers rat_6) ∧ (¬ (r_7 = (-1)) → (vp_in r_2 5 ∧ ((r_7 ≤ (([2000, 100, 99, 3, 15000] : List Int32).getD r_2.toNatClampNeg 0) → (vp_in r_2 5 ∧ (o01 1 ∧ Q 1 rat_7 (rtold + 1) rwrong (upd numbers r_2.toNatClampNeg r_7)))) ∧ (¬ (r_7 ≤ (([2000, 100, 99, 3, 15000] : List Int32).getD r_2.toNatClampNeg 0)) → bk_C_X5_readRule_60 tsize bytes Q rat_7 rtold rwrong numbers rat_6)))))) rat_6) rat_2) ∧ (¬ (r_2 < 5) → bk_C_X5_readRule_23 tsize bytes Q rat_2 rtold rwrong numbers rat_1))))) rat_1) rat
def rm_C_X5_readRule : Room := { frames := 6, cells := 0, slots := 0, locals := 131 }
abbrev pq_C_X5_readRule (dC : Nat → ClassId) (dI : Nat → Nat → Nat) (ad : Nat → Nat) (cB cI cZ cL : ClassId) (A : Nat → Prop) (LP : List Nat) (today legCount : Int32) (legs hung : Nat → Option Nat) (warmth damp wopen : Nat → Int32) (tsize : Int32) (bytes : Nat → Int32) (rat rtold rwrong : Int32) (numbers asked : Nat → Int32) (ftold : Int32) (ffarm ffrom fwhat fon : Nat → Int32) (csize ctotal : Int32) (offered : Nat → Option Nat) (cws cwa g_number g_farm g_pig g_first g_begun g_weight g_salted g_heat g_place g_target g_feedAsked g_sealed g_bad g_sold : Nat → Int32) (Q : Int32 → Int32 → Int32 → Int32 → (Nat → Int32) → Prop) : Array Value → State → Outcome → State → Prop := va_Qi (fun (r : Int32) (u : Int32 × Int32 × Int32 × (Nat → Int32)) => Q r u.1 u.2.1 u.2.2.1 u.2.2.2) (fun u t => kB dC dI A (wA ad cB cI cZ cL LP today legCount legs hung warmth damp wopen tsize bytes u.1 u.2.1 u.2.2.1 u.2.2.2 asked ftold ffarm ffrom fwhat fon csize ctotal offered cws cwa g_number g_farm g_pig g_first g_begun g_weight g_salted g_heat g_place g_target g_feedAsked g_sealed g_bad g_sold) (kTy cB cI cZ cL) t) A
set_option maxHeartbeats 4000000 in
set_option maxRecDepth 100000 in
theorem c_C_X5_readRule (l : Launch) (dC : Nat → ClassId) (dI : Nat → Nat → Nat) (ad : Nat → Nat) (cB cI cZ cL : ClassId) (A : Nat → Prop) (LP : List Nat) (today legCount : Int32) (legs hung : Nat → Option Nat) (warmth damp wopen : Nat → Int32) (tsize : Int32) (bytes : Nat → Int32) (rat rtold rwrong : Int32) (numbers asked : Nat → Int32) (ftold : Int32) (ffarm ffrom fwhat fon : Nat → Int32) (csize ctotal : Int32) (offered : Nat → Option Nat) (cws cwa g_number g_farm g_pig g_first g_begun g_weight g_salted g_heat g_place g_target g_feedAsked g_sealed g_bad g_sold : Nat → Int32)   (Q : Int32 → Int32 → Int32 → Int32 → (Nat → Int32) → Prop) (h : wp_C_X5_readRule tsize bytes Q rat rtold rwrong numbers) : Met l yX5_readRule wsX5_readRule rm_C_X5_readRule (va_Pc [.ref (ad 10)] (kC dC dI ad A (wA ad cB cI cZ cL LP today legCount legs hung warmth damp wopen tsize bytes rat rtold rwrong numbers asked ftold ffarm ffrom fwhat fon csize ctotal offered cws cwa g_number g_farm g_pig g_first g_begun g_weight g_salted g_heat g_place g_target g_feedAsked g_sealed g_bad g_sold) (kTy cB cI cZ cL))) (pq_C_X5_readRule dC dI ad cB cI cZ cL A LP today legCount legs hung warmth damp wopen tsize bytes rat rtold rwrong numbers asked ftold ffarm ffrom fwhat fon csize ctotal offered cws cwa g_number g_farm g_pig g_first g_begun g_weight g_salted g_heat g_place g_target g_feedAsked g_sealed g_bad g_sold Q) 0 0 A := by
  refine Met.ofW (cc := cX5_readRule) (maxL := 5) (ret := (some .boolean)) (by decide) rfl ?_
  intro p e s m args below meth c s₁ B hml hv
  obtain ⟨rfl, hA, hP, hK, hD, hE⟩ := hv
  have hx := B.exec
  have hb := B.bytes
  have hr := B.returns
  have hts := atoms_spec (ws := wsX5_readRule) B.pre
  have hown : s.vm.findClass RX5 = some m.cls := findClass_of_methodNamed B.named
  have hlocks := B.notSynchronized
  have hS : va_S A s.heap s.heap [] := va_S.rf
  have hk_0 := hts (.fieldLink RX5 23 "HamCellar$RuleReader" "at" "I") (by decide +kernel)
  have hk_1 : ∀ w ∈ wsX50, w ∈ wsX5_readRule := by decide +kernel
  have hk_2n := hE.2.1.1 ("HamCellar$RuleReader", 62, "HamCellar", "MOST_OF_KIND", "[I", "HamCellar") (by decide +kernel)
  have hk_2 : (Cond.fieldLinkNest "HamCellar$RuleReader" 62 "HamCellar" "MOST_OF_KIND" "[I" "HamCellar").before ([.ref (ad 10)] : List Value).toArray s = true := va_Nw.use rfl hk_2n
  have hk_3 := hts (.fieldLink RX5 9 "HamCellar$RuleReader" "numbers" "[I") (by decide +kernel)
  have hk_4 := hts (.fieldLink RX5 26 "HamCellar$RuleReader" "told" "I") (by decide +kernel)
  have hbk_C_X5_readRule_23 : ∀ (rat : Int32) (rtold : Int32) (rwrong : Int32) (numbers : Nat → Int32) (v1 : Int32) (H : Heap) (locs : List Loc) (ls : Array Slot), va_P (dC, dI) vwCl (wA ad cB cI cZ cL LP today legCount legs hung warmth damp wopen tsize bytes rat rtold rwrong numbers asked ftold ffarm ffrom fwhat fon csize ctotal offered cws cwa g_number g_farm g_pig g_first g_begun g_weight g_salted g_heat g_place g_target g_feedAsked g_sealed g_bad g_sold) H → va_D A (wA ad cB cI cZ cL LP today legCount legs hung warmth damp wopen tsize bytes rat rtold rwrong numbers asked ftold ffarm ffrom fwhat fon csize ctotal offered cws cwa g_number g_farm g_pig g_first g_begun g_weight g_salted g_heat g_place g_target g_feedAsked g_sealed g_bad g_sold) → va_S A s.heap H locs → lv_has ls 5 [(0, .ref (ad 10)), (1, .int v1)] → bk_C_X5_readRule_23 tsize bytes Q rat rtold rwrong numbers v1 → W p l e (headSpec wsX5_readRule rm_C_X5_readRule).room s m ([.ref (ad 10)] : List Value).toArray below meth c H locs 0 0 (MQ below (pq_C_X5_readRule dC dI ad cB cI cZ cL A LP today legCount legs hung warmth damp wopen tsize bytes rat rtold rwrong numbers asked ftold ffarm ffrom fwhat fon csize ctotal offered cws cwa g_number g_farm g_pig g_first g_begun g_weight g_salted g_heat g_place g_target g_feedAsked g_sealed g_bad g_sold Q) ([.ref (ad 10)] : List Value).toArray s 0 0 A) (F0 m 23 ls []) := by
    intro rat rtold rwrong numbers v1 H locs ls hP hD hS hl h
    have h : wp_C_X5_fail (fun r_4 rwrong_4 => (o01 r_4 ∧ Q r_4 rat rtold rwrong_4 numbers)) rwrong v1 := h
    refine lv_aload_n hx hb dX5_readRule_23 rfl (lv_at hl 0 rfl) ?_
    refine lv_iload_n hx hb dX5_readRule_24 rfl (lv_at hl 1 rfl) ?_
    refine va_calli (va_runV (As := [.int v1]) (rest := []) ⟨hx, hb, hml, hown, hts⟩ (c_C_X5_fail l dC dI ad cB cI cZ cL A LP today legCount legs hung warmth damp wopen tsize bytes rat rtold rwrong numbers asked ftold ffarm ffrom fwhat fon csize ctotal offered cws cwa g_number g_farm g_pig g_first g_begun g_weight g_salted g_heat g_place g_target g_feedAsked g_sealed g_bad g_sold v1 _ h) (cwV 1 hts gX5_readRule_X5_fail rfl rfl rfl (by decide +kernel) ⟨(Nat.le_of_ble_eq_true rfl), (Nat.le_of_ble_eq_true rfl)⟩) ⟨kC_blind, va_recv hK hP (ci := 5) (q0 := 10) rfl wA_g10, fun U hU hW => ⟨rfl, kC_go hA hS hP hK hD hE U hU hW⟩⟩ rfl rfl hl.1 rfl (lv_room (Nat.le_of_ble_eq_true rfl)) dX5_readRule_25 ⟨(Nat.le_of_ble_eq_true rfl), (Nat.le_of_ble_eq_true rfl)⟩) hS (fun q _ h => h) (fun q h => h) (fun r_4 u t H locs ht hvm hw hB hz1 hk1 hS => ?_)
    obtain ⟨rwrong_4, rfl⟩ : ∃ z, z = u := ⟨_, rfl⟩
    have h := hw
    try dsimp only at h
    have hP : va_P (dC, dI) vwCl (wA ad cB cI cZ cL LP today legCount legs hung warmth damp wopen tsize bytes rat rtold rwrong_4 numbers asked ftold ffarm ffrom fwhat fon csize ctotal offered cws cwa g_number g_farm g_pig g_first g_begun g_weight g_salted g_heat g_place g_target g_feedAsked g_sealed g_bad g_sold) H := by rw [← ht]; exact hB.1
    have hD : va_D A (wA ad cB cI cZ cL LP today legCount legs hung warmth damp wopen tsize bytes rat rtold rwrong_4 numbers asked ftold ffarm ffrom fwhat fon csize ctotal offered cws cwa g_number g_farm g_pig g_first g_begun g_weight g_salted g_heat g_place g_target g_feedAsked g_sealed g_bad g_sold) := hB.2.2
    exact W.zret (v := r_4) (ty := .boolean) hx hb hr (z01 h.1) (fun t ht hW => ⟨⟨r_4, (rat, rtold, rwrong_4, numbers), rfl, h.2, kB_mk hP hK hD ht hW.alike⟩, hS.F ht⟩) hS.2.2 dX5_readRule_28
  have hbk_C_X5_readRule_60 : ∀ (rat : Int32) (rtold : Int32) (rwrong : Int32) (numbers : Nat → Int32) (v3 : Int32) (H : Heap) (locs : List Loc) (ls : Array Slot), va_P (dC, dI) vwCl (wA ad cB cI cZ cL LP today legCount legs hung warmth damp wopen tsize bytes rat rtold rwrong numbers asked ftold ffarm ffrom fwhat fon csize ctotal offered cws cwa g_number g_farm g_pig g_first g_begun g_weight g_salted g_heat g_place g_target g_feedAsked g_sealed g_bad g_sold) H → va_D A (wA ad cB cI cZ cL LP today legCount legs hung warmth damp wopen tsize bytes rat rtold rwrong numbers asked ftold ffarm ffrom fwhat fon csize ctotal offered cws cwa g_number g_farm g_pig g_first g_begun g_weight g_salted g_heat g_place g_target g_feedAsked g_sealed g_bad g_sold) → va_S A s.heap H locs → lv_has ls 5 [(0, .ref (ad 10)), (3, .int v3)] → bk_C_X5_readRule_60 tsize bytes Q rat rtold rwrong numbers v3 → W p l e (headSpec wsX5_readRule rm_C_X5_readRule).room s m ([.ref (ad 10)] : List Value).toArray below meth c H locs 0 0 (MQ below (pq_C_X5_readRule dC dI ad cB cI cZ cL A LP today legCount legs hung warmth damp wopen tsize bytes rat rtold rwrong numbers asked ftold ffarm ffrom fwhat fon csize ctotal offered cws cwa g_number g_farm g_pig g_first g_begun g_weight g_salted g_heat g_place g_target g_feedAsked g_sealed g_bad g_sold Q) ([.ref (ad 10)] : List Value).toArray s 0 0 A) (F0 m 60 ls []) := by
    intro rat rtold rwrong numbers v3 H locs ls hP hD hS hl h
    have h : wp_C_X5_fail (fun r_9 rwrong_9 => (o01 r_9 ∧ Q r_9 rat rtold rwrong_9 numbers)) rwrong v3 := h
    refine lv_aload_n hx hb dX5_readRule_60 rfl (lv_at hl 0 rfl) ?_
    refine lv_iload_n hx hb dX5_readRule_61 rfl (lv_at hl 1 rfl) ?_
    refine va_calli (va_runV (As := [.int v3]) (rest := []) ⟨hx, hb, hml, hown, hts⟩ (c_C_X5_fail l dC dI ad cB cI cZ cL A LP today legCount legs hung warmth damp wopen tsize bytes rat rtold rwrong numbers asked ftold ffarm ffrom fwhat fon csize ctotal offered cws cwa g_number g_farm g_pig g_first g_begun g_weight g_salted g_heat g_place g_target g_feedAsked g_sealed g_bad g_sold v3 _ h) (cwV 1 hts gX5_readRule_X5_fail rfl rfl rfl (by decide +kernel) ⟨(Nat.le_of_ble_eq_true rfl), (Nat.le_of_ble_eq_true rfl)⟩) ⟨kC_blind, va_recv hK hP (ci := 5) (q0 := 10) rfl wA_g10, fun U hU hW => ⟨rfl, kC_go hA hS hP hK hD hE U hU hW⟩⟩ rfl rfl hl.1 rfl (lv_room (Nat.le_of_ble_eq_true rfl)) dX5_readRule_62 ⟨(Nat.le_of_ble_eq_true rfl), (Nat.le_of_ble_eq_true rfl)⟩) hS (fun q _ h => h) (fun q h => h) (fun r_9 u t H locs ht hvm hw hB hz1 hk1 hS => ?_)
    obtain ⟨rwrong_9, rfl⟩ : ∃ z, z = u := ⟨_, rfl⟩
    have h := hw
    try dsimp only at h
    have hP : va_P (dC, dI) vwCl (wA ad cB cI cZ cL LP today legCount legs hung warmth damp wopen tsize bytes rat rtold rwrong_9 numbers asked ftold ffarm ffrom fwhat fon csize ctotal offered cws cwa g_number g_farm g_pig g_first g_begun g_weight g_salted g_heat g_place g_target g_feedAsked g_sealed g_bad g_sold) H := by rw [← ht]; exact hB.1
    have hD : va_D A (wA ad cB cI cZ cL LP today legCount legs hung warmth damp wopen tsize bytes rat rtold rwrong_9 numbers asked ftold ffarm ffrom fwhat fon csize ctotal offered cws cwa g_number g_farm g_pig g_first g_begun g_weight g_salted g_heat g_place g_target g_feedAsked g_sealed g_bad g_sold) := hB.2.2
    exact W.zret (v := r_9) (ty := .boolean) hx hb hr (z01 h.1) (fun t ht hW => ⟨⟨r_9, (rat, rtold, rwrong_9, numbers), rfl, h.2, kB_mk hP hK hD ht hW.alike⟩, hS.F ht⟩) hS.2.2 dX5_readRule_65
  have hl := lv_entry ([.ref (ad 10)]) (n := 5) (Nat.le_of_ble_eq_true rfl)
  rw [lg_entry_eq]
  generalize (lg_sl ([.ref (ad 10)]) ++ List.replicate (5 - (lg_sl ([.ref (ad 10)])).length) Slot.unset).toArray = ls at hl ⊢
  have hl : lv_has ls 5 [(0, .ref (ad 10))] := hl
  unfold wp_C_X5_readRule at h
  refine lv_aload_n hx hb dX5_readRule_0 rfl (lv_at hl 0 rfl) ?_
  refine va_callv (va_runV (As := []) (rest := []) ⟨hx, hb, hml, hown, hts⟩ (c_C_X5_skipBlanks l dC dI ad cB cI cZ cL A LP today legCount legs hung warmth damp wopen tsize bytes rat rtold rwrong numbers asked ftold ffarm ffrom fwhat fon csize ctotal offered cws cwa g_number g_farm g_pig g_first g_begun g_weight g_salted g_heat g_place g_target g_feedAsked g_sealed g_bad g_sold _ h) (cwV 0 hts gX5_readRule_X5_skipBlanks rfl rfl rfl (by decide +kernel) ⟨(Nat.le_of_ble_eq_true rfl), (Nat.le_of_ble_eq_true rfl)⟩) ⟨kC_blind, va_recv hK hP (ci := 5) (q0 := 10) rfl wA_g10, fun U hU hW => ⟨rfl, kC_go hA hS hP hK hD hE U hU hW⟩⟩ rfl rfl hl.1 rfl (lv_room (Nat.le_of_ble_eq_true rfl)) dX5_readRule_1 ⟨(Nat.le_of_ble_eq_true rfl), (Nat.le_of_ble_eq_true rfl)⟩) hS (fun q _ h => h) (fun q h => h) (fun u t H locs ht hvm hw hB hz1 hk1 hS => ?_)
  obtain ⟨rat_1, rfl⟩ : ∃ z, z = u := ⟨_, rfl⟩
  have h := hw
  try dsimp only at h
  have hP : va_P (dC, dI) vwCl (wA ad cB cI cZ cL LP today legCount legs hung warmth damp wopen tsize bytes rat_1 rtold rwrong numbers asked ftold ffarm ffrom fwhat fon csize ctotal offered cws cwa g_number g_farm g_pig g_first g_begun g_weight g_salted g_heat g_place g_target g_feedAsked g_sealed g_bad g_sold) H := by rw [← ht]; exact hB.1
  have hD : va_D A (wA ad cB cI cZ cL LP today legCount legs hung warmth damp wopen tsize bytes rat_1 rtold rwrong numbers asked ftold ffarm ffrom fwhat fon csize ctotal offered cws cwa g_number g_farm g_pig g_first g_begun g_weight g_salted g_heat g_place g_target g_feedAsked g_sealed g_bad g_sold) := hB.2.2
  refine lv_aload_n hx hb dX5_readRule_4 rfl (lv_at hl 0 rfl) ?_
  refine va_get (D := (dC, dI)) (ci := 5) (v := .int rat_1) (C := RX5) (T := TX5) (N := 5) hx hb hts hk_1 hown hK hP 10 wA_g10 rfl 2 (by decide) hk_0 (fun _ h9 => h9) rfl dX5_readRule_5 ?_
  refine lv_istore_n (lv' := [(1, .int rat_1), (0, .ref (ad 10))]) hx hb dX5_readRule_8 rfl hl (by decide) rfl (fun ls hl => ?_)
  refine lv_aload_n hx hb dX5_readRule_9 rfl (lv_at hl 1 rfl) ?_
  refine va_calli (va_runV (As := []) (rest := []) ⟨hx, hb, hml, hown, hts⟩ (c_C_X5_readKind l dC dI ad cB cI cZ cL A LP today legCount legs hung warmth damp wopen tsize bytes rat_1 rtold rwrong numbers asked ftold ffarm ffrom fwhat fon csize ctotal offered cws cwa g_number g_farm g_pig g_first g_begun g_weight g_salted g_heat g_place g_target g_feedAsked g_sealed g_bad g_sold _ h) (cwV 0 hts gX5_readRule_X5_readKind rfl rfl rfl (by decide +kernel) ⟨(Nat.le_of_ble_eq_true rfl), (Nat.le_of_ble_eq_true rfl)⟩) ⟨kC_blind, va_recv hK hP (ci := 5) (q0 := 10) rfl wA_g10, fun U hU hW => ⟨rfl, kC_go hA hS hP hK hD hE U hU hW⟩⟩ rfl rfl hl.1 rfl (lv_room (Nat.le_of_ble_eq_true rfl)) dX5_readRule_10 ⟨(Nat.le_of_ble_eq_true rfl), (Nat.le_of_ble_eq_true rfl)⟩) hS (fun q _ h => h) (fun q h => h) (fun r_2 u t H locs ht hvm hw hB hz1 hk1 hS => ?_)
  obtain ⟨rat_2, rfl⟩ : ∃ z, z = u := ⟨_, rfl⟩
  have h := hw
  try dsimp only at h
  have hP : va_P (dC, dI) vwCl (wA ad cB cI cZ cL LP today legCount legs hung warmth damp wopen tsize bytes rat_2 rtold rwrong numbers asked ftold ffarm ffrom fwhat fon csize ctotal offered cws cwa g_number g_farm g_pig g_first g_begun g_weight g_salted g_heat g_place g_target g_feedAsked g_sealed g_bad g_sold) H := by rw [← ht]; exact hB.1
  have hD : va_D A (wA ad cB cI cZ cL LP today legCount legs hung warmth damp wopen tsize bytes rat_2 rtold rwrong numbers asked ftold ffarm ffrom fwhat fon csize ctotal offered cws cwa g_number g_farm g_pig g_first g_begun g_weight g_salted g_heat g_place g_target g_feedAsked g_sealed g_bad g_sold) := hB.2.2
  refine lv_istore_n (lv' := [(2, .int r_2), (1, .int rat_1), (0, .ref (ad 10))]) hx hb dX5_readRule_13 rfl hl (by decide) rfl (fun ls hl => ?_)
  refine lv_iload_n hx hb dX5_readRule_14 rfl (lv_at hl 0 rfl) ?_
  refine lv_if_lt (tgt := 23) hx hb dX5_readRule_15 (by decide) (fun c_3 => ?_) (fun c_3 => ?_)
  · have h := h.1 c_3
    exact hbk_C_X5_readRule_23 rat_2 rtold rwrong numbers rat_1 _ _ _ hP hD hS (lv_sub hl [2, 1] rfl) h
  · have h := h.2 c_3
    refine lv_iload_n hx hb dX5_readRule_18 rfl (lv_at hl 0 rfl) ?_
    refine lv_iconst (v := 5) hx hb dX5_readRule_19 (by decide) ?_
    refine lv_icmp_lt (tgt := 29) hx hb dX5_readRule_20 (by decide) (fun c_5 => ?_) (fun c_5 => ?_)
    · have h := h.1 c_5
      refine lv_aload_n hx hb dX5_readRule_29 rfl (lv_at hl 2 rfl) ?_
      refine va_callv (va_runV (As := []) (rest := []) ⟨hx, hb, hml, hown, hts⟩ (c_C_X5_skipBlanks l dC dI ad cB cI cZ cL A LP today legCount legs hung warmth damp wopen tsize bytes rat_2 rtold rwrong numbers asked ftold ffarm ffrom fwhat fon csize ctotal offered cws cwa g_number g_farm g_pig g_first g_begun g_weight g_salted g_heat g_place g_target g_feedAsked g_sealed g_bad g_sold _ h) (cwV 0 hts gX5_readRule_X5_skipBlanks rfl rfl rfl (by decide +kernel) ⟨(Nat.le_of_ble_eq_true rfl), (Nat.le_of_ble_eq_true rfl)⟩) ⟨kC_blind, va_recv hK hP (ci := 5) (q0 := 10) rfl wA_g10, fun U hU hW => ⟨rfl, kC_go hA hS hP hK hD hE U hU hW⟩⟩ rfl rfl hl.1 rfl (lv_room (Nat.le_of_ble_eq_true rfl)) dX5_readRule_30 ⟨(Nat.le_of_ble_eq_true rfl), (Nat.le_of_ble_eq_true rfl)⟩) hS (fun q _ h => h) (fun q h => h) (fun u t H locs ht hvm hw hB hz1 hk1 hS => ?_)
      obtain ⟨rat_6, rfl⟩ : ∃ z, z = u := ⟨_, rfl⟩
      have h := hw
      try dsimp only at h
      have hP : va_P (dC, dI) vwCl (wA ad cB cI cZ cL LP today legCount legs hung warmth damp wopen tsize bytes rat_6 rtold rwrong numbers asked ftold ffarm ffrom fwhat fon csize ctotal offered cws cwa g_number g_farm g_pig g_first g_begun g_weight g_salted g_heat g_place g_target g_feedAsked g_sealed g_bad g_sold) H := by rw [← ht]; exact hB.1
      have hD : va_D A (wA ad cB cI cZ cL LP today legCount legs hung warmth damp wopen tsize bytes rat_6 rtold rwrong numbers asked ftold ffarm ffrom fwhat fon csize ctotal offered cws cwa g_number g_farm g_pig g_first g_begun g_weight g_salted g_heat g_place g_target g_feedAsked g_sealed g_bad g_sold) := hB.2.2
      refine lv_aload_n hx hb dX5_readRule_33 rfl (lv_at hl 2 rfl) ?_
      refine va_get (D := (dC, dI)) (ci := 5) (v := .int rat_6) (C := RX5) (T := TX5) (N := 5) hx hb hts hk_1 hown hK hP 10 wA_g10 rfl 2 (by decide) hk_0 (fun _ h9 => h9) rfl dX5_readRule_34 ?_
      refine lv_istore_n (lv' := [(3, .int rat_6), (2, .int r_2), (1, .int rat_1), (0, .ref (ad 10))]) hx hb dX5_readRule_37 rfl hl (by decide) rfl (fun ls hl => ?_)
      refine lv_aload_n hx hb dX5_readRule_38 rfl (lv_at hl 3 rfl) ?_
      refine va_calli (va_runV (As := []) (rest := []) ⟨hx, hb, hml, hown, hts⟩ (c_C_X5_readNumber l dC dI ad cB cI cZ cL A LP today legCount legs hung warmth damp wopen tsize bytes rat_6 rtold rwrong numbers asked ftold ffarm ffrom fwhat fon csize ctotal offered cws cwa g_number g_farm g_pig g_first g_begun g_weight g_salted g_heat g_place g_target g_feedAsked g_sealed g_bad g_sold _ h) (cwV 0 hts gX5_readRule_X5_readNumber rfl rfl rfl (by decide +kernel) ⟨(Nat.le_of_ble_eq_true rfl), (Nat.le_of_ble_eq_true rfl)⟩) ⟨kC_blind, va_recv hK hP (ci := 5) (q0 := 10) rfl wA_g10, fun U hU hW => ⟨rfl, kC_go hA hS hP hK hD hE U hU hW⟩⟩ rfl rfl hl.1 rfl (lv_room (Nat.le_of_ble_eq_true rfl)) dX5_readRule_39 ⟨(Nat.le_of_ble_eq_true rfl), (Nat.le_of_ble_eq_true rfl)⟩) hS (fun q _ h => h) (fun q h => h) (fun r_7 u t H locs ht hvm hw hB hz1 hk1 hS => ?_)
      obtain ⟨rat_7, rfl⟩ : ∃ z, z = u := ⟨_, rfl⟩
      have h := hw
      try dsimp only at h
      have hP : va_P (dC, dI) vwCl (wA ad cB cI cZ cL LP today legCount legs hung warmth damp wopen tsize bytes rat_7 rtold rwrong numbers asked ftold ffarm ffrom fwhat fon csize ctotal offered cws cwa g_number g_farm g_pig g_first g_begun g_weight g_salted g_heat g_place g_target g_feedAsked g_sealed g_bad g_sold) H := by rw [← ht]; exact hB.1
      have hD : va_D A (wA ad cB cI cZ cL LP today legCount legs hung warmth damp wopen tsize bytes rat_7 rtold rwrong numbers asked ftold ffarm ffrom fwhat fon csize ctotal offered cws cwa g_number g_farm g_pig g_first g_begun g_weight g_salted g_heat g_place g_target g_feedAsked g_sealed g_bad g_sold) := hB.2.2
      refine lv_istore (lv' := [(4, .int r_7), (3, .int rat_6), (2, .int r_2), (1, .int rat_1), (0, .ref (ad 10))]) hx hb dX5_readRule_42 hl (by decide) rfl (fun ls hl => ?_)
      refine lv_iload hx hb dX5_readRule_44 (lv_at hl 0 rfl) ?_
      refine lv_iconst (v := (-1)) hx hb dX5_readRule_46 (by decide) ?_
      refine lv_icmp_eq (tgt := 60) hx hb dX5_readRule_47 (by decide) (fun c_8 => ?_) (fun c_8 => ?_)
      · have h := h.1 c_8
        exact hbk_C_X5_readRule_60 rat_7 rtold rwrong numbers rat_6 _ _ _ hP hD hS (lv_sub hl [4, 1] rfl) h
      · have h := h.2 c_8
        refine lv_iload hx hb dX5_readRule_50 (lv_at hl 0 rfl) ?_
        refine va_getsN hx hb hE.2.2.1.1 hS hown (va_Nw.use rfl hk_2n) (fun _ h9 => h9) dX5_readRule_52 ?_
        refine lv_iload_n hx hb dX5_readRule_55 rfl (lv_at hl 2 rfl) ?_
        have hi_10 := h.1
        have h := h.2
        refine va_ti hx hb hE.2.2.1.2 hS hi_10 (v := .int (([2000, 100, 99, 3, 15000] : List Int32).getD r_2.toNatClampNeg 0)) rfl dX5_readRule_56 ?_
        refine lv_icmp_le (tgt := 66) hx hb dX5_readRule_57 (by decide) (fun c_11 => ?_) (fun c_11 => ?_)
        · have h := h.1 c_11
          refine lv_aload_n hx hb dX5_readRule_66 rfl (lv_at hl 4 rfl) ?_
          refine va_get (D := (dC, dI)) (ci := 5) (v := .ref (ad 11)) (C := RX5) (T := TX5) (N := 5) hx hb hts hk_1 hown hK hP 10 wA_g10 rfl 1 (by decide) hk_3 (fun _ h9 => h9) rfl dX5_readRule_67 ?_
          refine lv_iload_n hx hb dX5_readRule_70 rfl (lv_at hl 2 rfl) ?_
          refine lv_iload hx hb dX5_readRule_71 (lv_at hl 0 rfl) ?_
          have hi_12 := h.1
          have h := h.2
          refine va_iast hx hb hK hP hD hS 11 1 wA_g11 rfl hi_12 dX5_readRule_73 (fun H locs hP2 hD2 hS => ?_)
          have hP : va_P (dC, dI) vwCl (wA ad cB cI cZ cL LP today legCount legs hung warmth damp wopen tsize bytes rat_7 rtold rwrong (upd numbers r_2.toNatClampNeg r_7) asked ftold ffarm ffrom fwhat fon csize ctotal offered cws cwa g_number g_farm g_pig g_first g_begun g_weight g_salted g_heat g_place g_target g_feedAsked g_sealed g_bad g_sold) H := hP_eq (wA_p_numbers) hP2
          have hD : va_D A (wA ad cB cI cZ cL LP today legCount legs hung warmth damp wopen tsize bytes rat_7 rtold rwrong (upd numbers r_2.toNatClampNeg r_7) asked ftold ffarm ffrom fwhat fon csize ctotal offered cws cwa g_number g_farm g_pig g_first g_begun g_weight g_salted g_heat g_place g_target g_feedAsked g_sealed g_bad g_sold) := hD_eq (wA_p_numbers) hD2
          refine lv_aload_n hx hb dX5_readRule_74 rfl (lv_at hl 4 rfl) ?_
          refine lv_dup hx hb dX5_readRule_75 rfl ?_
          refine va_get (D := (dC, dI)) (ci := 5) (v := .int rtold) (C := RX5) (T := TX5) (N := 5) hx hb hts hk_1 hown hK hP 10 wA_g10 rfl 3 (by decide) hk_4 (fun _ h9 => h9) rfl dX5_readRule_76 ?_
          refine lv_iconst (v := 1) hx hb dX5_readRule_79 (by decide) ?_
          refine lv_iadd hx hb dX5_readRule_80 ?_
          refine va_put (D := (dC, dI)) (ci := 5) (v := .int (rtold + 1)) (ty := .int) (C := RX5) (T := TX5) (N := 5) hx hb hts hk_1 tyX5 tyX5_ok nmX5 hown hK hP hD hS 10 wA_g10 rfl 3 (by decide) hk_4 (fun _ h9 => h9) rfl (by decide +kernel) rfl rfl (Nat.le_of_ble_eq_true rfl) dX5_readRule_81 (fun H locs hP2 hD2 hS => ?_)
          have hP : va_P (dC, dI) vwCl (wA ad cB cI cZ cL LP today legCount legs hung warmth damp wopen tsize bytes rat_7 (rtold + 1) rwrong (upd numbers r_2.toNatClampNeg r_7) asked ftold ffarm ffrom fwhat fon csize ctotal offered cws cwa g_number g_farm g_pig g_first g_begun g_weight g_salted g_heat g_place g_target g_feedAsked g_sealed g_bad g_sold) H := hP_eq (wA_p_rtold) hP2
          have hD : va_D A (wA ad cB cI cZ cL LP today legCount legs hung warmth damp wopen tsize bytes rat_7 (rtold + 1) rwrong (upd numbers r_2.toNatClampNeg r_7) asked ftold ffarm ffrom fwhat fon csize ctotal offered cws cwa g_number g_farm g_pig g_first g_begun g_weight g_salted g_heat g_place g_target g_feedAsked g_sealed g_bad g_sold) := hD_eq (wA_p_rtold) hD2
          refine lv_iconst (v := 1) hx hb dX5_readRule_84 (by decide) ?_
          exact W.zret (v := 1) (ty := .boolean) hx hb hr (z01 h.1) (fun t ht hW => ⟨⟨1, (rat_7, rtold + 1, rwrong, upd numbers r_2.toNatClampNeg r_7), rfl, h.2, kB_mk hP hK hD ht hW.alike⟩, hS.F ht⟩) hS.2.2 dX5_readRule_85
        · have h := h.2 c_11
          exact hbk_C_X5_readRule_60 rat_7 rtold rwrong numbers rat_6 _ _ _ hP hD hS (lv_sub hl [4, 1] rfl) h
    · have h := h.2 c_5
      exact hbk_C_X5_readRule_23 rat_2 rtold rwrong numbers rat_1 _ _ _ hP hD hS (lv_sub hl [2, 1] rfl) h
def lp_C_X5_read_25 (tsize : Int32) (bytes : Nat → Int32)  (Q : Int32 → Int32 → Int32 → Int32 → (Nat → Int32) → Prop) : Nat → Int32 → Int32 → Int32 → (Nat → Int32) → Int32 → Prop
  | 0 => fun _ _ _ _ _ => False
  | n + 1 => fun rat rtold rwrong numbers v1 => ((400 < v1 → wp_C_X5_fail (fun r_3 rwrong_3 => (o01 r_3 ∧ Q r_3 rat rtold rwrong_3 numbers)) rwrong rat) ∧ (¬ (400 < v1) → wp_C_X5_readRule tsize bytes (fun r_4 rat_4 rtold_4 rwrong_4 numbers_4 => ((¬ r_4 = 0 → wp_C_X5_skipBlanks tsize bytes (fun rat_6 => wp_C_X6_size tsize (fun r_7 => ((rat_6 < r_7 → wp_C_X6_byteAt tsize bytes (fun r_9 => ((r_9 = 59 → lp_C_X5_read_25 tsize bytes Q n (rat_6 + 1) rtold_4 rwrong_4 numbers_4 (v1 + 1)) ∧ (¬ (r_9 = 59) → wp_C_X5_fail (fun r_11 rwrong_11 => (o01 r_11 ∧ Q r_11 rat_6 rtold_4 rwrong_11 numbers_4)) rwrong_4 rat_6))) rat_6) ∧ (¬ (rat_6 < r_7) → (o01 1 ∧ Q 1 rat_6 rtold_4 rwrong_4 numbers_4))))) rat_4) ∧ (r_4 = 0 → (o01 0 ∧ Q 0 rat_4 rtold_4 rwrong_4 numbers_4)))) rat rtold rwrong numbers))
def wp_C_X5_read (tsize : Int32) (bytes : Nat → Int32) (Q : Int32 → Int32 → Int32 → Int32 → (Nat → Int32) → Prop) (rat : Int32) (rtold : Int32) (rwrong : Int32) (numbers : Nat → Int32) : Prop := wp_C11_J7_fill_53178 (fun numbers_1 => (∃ n_12, lp_C_X5_read_25 tsize bytes Q n_12 0 0 (-1) numbers_1 0)) numbers 0
def rm_C_X5_read : Room := { frames := 7, cells := 0, slots := 0, locals := 155 }
abbrev pq_C_X5_read (dC : Nat → ClassId) (dI : Nat → Nat → Nat) (ad : Nat → Nat) (cB cI cZ cL : ClassId) (A : Nat → Prop) (LP : List Nat) (today legCount : Int32) (legs hung : Nat → Option Nat) (warmth damp wopen : Nat → Int32) (tsize : Int32) (bytes : Nat → Int32) (rat rtold rwrong : Int32) (numbers asked : Nat → Int32) (ftold : Int32) (ffarm ffrom fwhat fon : Nat → Int32) (csize ctotal : Int32) (offered : Nat → Option Nat) (cws cwa g_number g_farm g_pig g_first g_begun g_weight g_salted g_heat g_place g_target g_feedAsked g_sealed g_bad g_sold : Nat → Int32) (Q : Int32 → Int32 → Int32 → Int32 → (Nat → Int32) → Prop) : Array Value → State → Outcome → State → Prop := va_Qi (fun (r : Int32) (u : Int32 × Int32 × Int32 × (Nat → Int32)) => Q r u.1 u.2.1 u.2.2.1 u.2.2.2) (fun u t => kB dC dI A (wA ad cB cI cZ cL LP today legCount legs hung warmth damp wopen tsize bytes u.1 u.2.1 u.2.2.1 u.2.2.2 asked ftold ffarm ffrom fwhat fon csize ctotal offered cws cwa g_number g_farm g_pig g_first g_begun g_weight g_salted g_heat g_place g_target g_feedAsked g_sealed g_bad g_sold) (kTy cB cI cZ cL) t) A
set_option maxHeartbeats 4000000 in
set_option maxRecDepth 100000 in
theorem c_C_X5_read (l : Launch) (dC : Nat → ClassId) (dI : Nat → Nat → Nat) (ad : Nat → Nat) (cB cI cZ cL : ClassId) (A : Nat → Prop) (LP : List Nat) (today legCount : Int32) (legs hung : Nat → Option Nat) (warmth damp wopen : Nat → Int32) (tsize : Int32) (bytes : Nat → Int32) (rat rtold rwrong : Int32) (numbers asked : Nat → Int32) (ftold : Int32) (ffarm ffrom fwhat fon : Nat → Int32) (csize ctotal : Int32) (offered : Nat → Option Nat) (cws cwa g_number g_farm g_pig g_first g_begun g_weight g_salted g_heat g_place g_target g_feedAsked g_sealed g_bad g_sold : Nat → Int32)   (Q : Int32 → Int32 → Int32 → Int32 → (Nat → Int32) → Prop) (h : wp_C_X5_read tsize bytes Q rat rtold rwrong numbers) : Met l yX5_read wsX5_read rm_C_X5_read (va_Pc [.ref (ad 10)] (kC dC dI ad A (wA ad cB cI cZ cL LP today legCount legs hung warmth damp wopen tsize bytes rat rtold rwrong numbers asked ftold ffarm ffrom fwhat fon csize ctotal offered cws cwa g_number g_farm g_pig g_first g_begun g_weight g_salted g_heat g_place g_target g_feedAsked g_sealed g_bad g_sold) (kTy cB cI cZ cL))) (pq_C_X5_read dC dI ad cB cI cZ cL A LP today legCount legs hung warmth damp wopen tsize bytes rat rtold rwrong numbers asked ftold ffarm ffrom fwhat fon csize ctotal offered cws cwa g_number g_farm g_pig g_first g_begun g_weight g_salted g_heat g_place g_target g_feedAsked g_sealed g_bad g_sold Q) 0 0 A := by
  refine Met.ofW (cc := cX5_read) (maxL := 2) (ret := (some .boolean)) (by decide) rfl ?_
  intro p e s m args below meth c s₁ B hml hv
  obtain ⟨rfl, hA, hP, hK, hD, hE⟩ := hv
  have hx := B.exec
  have hb := B.bytes
  have hr := B.returns
  have hts := atoms_spec (ws := wsX5_read) B.pre
  have hown : s.vm.findClass RX5 = some m.cls := findClass_of_methodNamed B.named
  have hlocks := B.notSynchronized
  have hS : va_S A s.heap s.heap [] := va_S.rf
  have hk_0 := hts (.fieldLink RX5 23 "HamCellar$RuleReader" "at" "I") (by decide +kernel)
  have hk_1 : ∀ w ∈ wsX50, w ∈ wsX5_read := by decide +kernel
  have hk_2 := hts (.fieldLink RX5 26 "HamCellar$RuleReader" "told" "I") (by decide +kernel)
  have hk_3 := hts (.fieldLink RX5 15 "HamCellar$RuleReader" "wrong" "I") (by decide +kernel)
  have hk_4 := hts (.fieldLink RX5 9 "HamCellar$RuleReader" "numbers" "[I") (by decide +kernel)
  have hk_5 := hts (.fieldLink RX5 19 "HamCellar$RuleReader" "tape" "LHamCellar$Tape;") (by decide +kernel)
  have hlp_C_X5_read_25 : ∀ (n : Nat) (rat : Int32) (rtold : Int32) (rwrong : Int32) (numbers : Nat → Int32) (v1 : Int32) (H : Heap) (locs : List Loc) (ls : Array Slot), va_P (dC, dI) vwCl (wA ad cB cI cZ cL LP today legCount legs hung warmth damp wopen tsize bytes rat rtold rwrong numbers asked ftold ffarm ffrom fwhat fon csize ctotal offered cws cwa g_number g_farm g_pig g_first g_begun g_weight g_salted g_heat g_place g_target g_feedAsked g_sealed g_bad g_sold) H → va_D A (wA ad cB cI cZ cL LP today legCount legs hung warmth damp wopen tsize bytes rat rtold rwrong numbers asked ftold ffarm ffrom fwhat fon csize ctotal offered cws cwa g_number g_farm g_pig g_first g_begun g_weight g_salted g_heat g_place g_target g_feedAsked g_sealed g_bad g_sold) → va_S A s.heap H locs → lv_has ls 2 [(0, .ref (ad 10)), (1, .int v1)] → lp_C_X5_read_25 tsize bytes Q n rat rtold rwrong numbers v1 → W p l e (headSpec wsX5_read rm_C_X5_read).room s m ([.ref (ad 10)] : List Value).toArray below meth c H locs 0 0 (MQ below (pq_C_X5_read dC dI ad cB cI cZ cL A LP today legCount legs hung warmth damp wopen tsize bytes rat rtold rwrong numbers asked ftold ffarm ffrom fwhat fon csize ctotal offered cws cwa g_number g_farm g_pig g_first g_begun g_weight g_salted g_heat g_place g_target g_feedAsked g_sealed g_bad g_sold Q) ([.ref (ad 10)] : List Value).toArray s 0 0 A) (F0 m 25 ls []) := by
    intro n
    induction n with
    | zero => intro rat rtold rwrong numbers v1 H locs ls hP hD hS hl h; exact h.elim
    | succ n ih =>
      intro rat rtold rwrong numbers v1 H locs ls hP hD hS hl h
      refine lv_iload_n hx hb dX5_read_25 rfl (lv_at hl 1 rfl) ?_
      refine lv_sipush (v := 400) hx hb dX5_read_26 (by decide) ?_
      refine lv_icmp_gt (tgt := 102) hx hb dX5_read_29 (by decide) (fun c_2 => ?_) (fun c_2 => ?_)
      · have h := h.1 c_2
        refine lv_aload_n hx hb dX5_read_102 rfl (lv_at hl 0 rfl) ?_
        refine lv_aload_n hx hb dX5_read_103 rfl (lv_at hl 0 rfl) ?_
        refine va_get (D := (dC, dI)) (ci := 5) (v := .int rat) (C := RX5) (T := TX5) (N := 5) hx hb hts hk_1 hown hK hP 10 wA_g10 rfl 2 (by decide) hk_0 (fun _ h9 => h9) rfl dX5_read_104 ?_
        refine va_calli (va_runV (As := [.int rat]) (rest := []) ⟨hx, hb, hml, hown, hts⟩ (c_C_X5_fail l dC dI ad cB cI cZ cL A LP today legCount legs hung warmth damp wopen tsize bytes rat rtold rwrong numbers asked ftold ffarm ffrom fwhat fon csize ctotal offered cws cwa g_number g_farm g_pig g_first g_begun g_weight g_salted g_heat g_place g_target g_feedAsked g_sealed g_bad g_sold rat _ h) (cwV 1 hts gX5_read_X5_fail rfl rfl rfl (by decide +kernel) ⟨(Nat.le_of_ble_eq_true rfl), (Nat.le_of_ble_eq_true rfl)⟩) ⟨kC_blind, va_recv hK hP (ci := 5) (q0 := 10) rfl wA_g10, fun U hU hW => ⟨rfl, kC_go hA hS hP hK hD hE U hU hW⟩⟩ rfl rfl hl.1 rfl (lv_room (Nat.le_of_ble_eq_true rfl)) dX5_read_107 ⟨(Nat.le_of_ble_eq_true rfl), (Nat.le_of_ble_eq_true rfl)⟩) hS (fun q _ h => h) (fun q h => h) (fun r_3 u t H locs ht hvm hw hB hz1 hk1 hS => ?_)
        obtain ⟨rwrong_3, rfl⟩ : ∃ z, z = u := ⟨_, rfl⟩
        have h := hw
        try dsimp only at h
        have hP : va_P (dC, dI) vwCl (wA ad cB cI cZ cL LP today legCount legs hung warmth damp wopen tsize bytes rat rtold rwrong_3 numbers asked ftold ffarm ffrom fwhat fon csize ctotal offered cws cwa g_number g_farm g_pig g_first g_begun g_weight g_salted g_heat g_place g_target g_feedAsked g_sealed g_bad g_sold) H := by rw [← ht]; exact hB.1
        have hD : va_D A (wA ad cB cI cZ cL LP today legCount legs hung warmth damp wopen tsize bytes rat rtold rwrong_3 numbers asked ftold ffarm ffrom fwhat fon csize ctotal offered cws cwa g_number g_farm g_pig g_first g_begun g_weight g_salted g_heat g_place g_target g_feedAsked g_sealed g_bad g_sold) := hB.2.2
        exact W.zret (v := r_3) (ty := .boolean) hx hb hr (z01 h.1) (fun t ht hW => ⟨⟨r_3, (rat, rtold, rwrong_3, numbers), rfl, h.2, kB_mk hP hK hD ht hW.alike⟩, hS.F ht⟩) hS.2.2 dX5_read_110
      · have h := h.2 c_2
        refine lv_aload_n hx hb dX5_read_32 rfl (lv_at hl 0 rfl) ?_
        refine va_calli (va_runV (As := []) (rest := []) ⟨hx, hb, hml, hown, hts⟩ (c_C_X5_readRule l dC dI ad cB cI cZ cL A LP today legCount legs hung warmth damp wopen tsize bytes rat rtold rwrong numbers asked ftold ffarm ffrom fwhat fon csize ctotal offered cws cwa g_number g_farm g_pig g_first g_begun g_weight g_salted g_heat g_place g_target g_feedAsked g_sealed g_bad g_sold _ h) (cwV 0 hts gX5_read_X5_readRule rfl rfl rfl (by decide +kernel) ⟨(Nat.le_of_ble_eq_true rfl), (Nat.le_of_ble_eq_true rfl)⟩) ⟨kC_blind, va_recv hK hP (ci := 5) (q0 := 10) rfl wA_g10, fun U hU hW => ⟨rfl, kC_go hA hS hP hK hD hE U hU hW⟩⟩ rfl rfl hl.1 rfl (lv_room (Nat.le_of_ble_eq_true rfl)) dX5_read_33 ⟨(Nat.le_of_ble_eq_true rfl), (Nat.le_of_ble_eq_true rfl)⟩) hS (fun q _ h => h) (fun q h => h) (fun r_4 u t H locs ht hvm hw hB hz1 hk1 hS => ?_)
        obtain ⟨rat_4, rtold_4, rwrong_4, numbers_4⟩ := u
        have h := hw
        try dsimp only at h
        have hP : va_P (dC, dI) vwCl (wA ad cB cI cZ cL LP today legCount legs hung warmth damp wopen tsize bytes rat_4 rtold_4 rwrong_4 numbers_4 asked ftold ffarm ffrom fwhat fon csize ctotal offered cws cwa g_number g_farm g_pig g_first g_begun g_weight g_salted g_heat g_place g_target g_feedAsked g_sealed g_bad g_sold) H := by rw [← ht]; exact hB.1
        have hD : va_D A (wA ad cB cI cZ cL LP today legCount legs hung warmth damp wopen tsize bytes rat_4 rtold_4 rwrong_4 numbers_4 asked ftold ffarm ffrom fwhat fon csize ctotal offered cws cwa g_number g_farm g_pig g_first g_begun g_weight g_salted g_heat g_place g_target g_feedAsked g_sealed g_bad g_sold) := hB.2.2
        refine lv_if_ne (tgt := 41) hx hb dX5_read_36 (by decide) (fun c_5 => ?_) (fun c_5 => ?_)
        · have h := h.1 c_5
          refine lv_aload_n hx hb dX5_read_41 rfl (lv_at hl 0 rfl) ?_
          refine va_callv (va_runV (As := []) (rest := []) ⟨hx, hb, hml, hown, hts⟩ (c_C_X5_skipBlanks l dC dI ad cB cI cZ cL A LP today legCount legs hung warmth damp wopen tsize bytes rat_4 rtold_4 rwrong_4 numbers_4 asked ftold ffarm ffrom fwhat fon csize ctotal offered cws cwa g_number g_farm g_pig g_first g_begun g_weight g_salted g_heat g_place g_target g_feedAsked g_sealed g_bad g_sold _ h) (cwV 0 hts gX5_read_X5_skipBlanks rfl rfl rfl (by decide +kernel) ⟨(Nat.le_of_ble_eq_true rfl), (Nat.le_of_ble_eq_true rfl)⟩) ⟨kC_blind, va_recv hK hP (ci := 5) (q0 := 10) rfl wA_g10, fun U hU hW => ⟨rfl, kC_go hA hS hP hK hD hE U hU hW⟩⟩ rfl rfl hl.1 rfl (lv_room (Nat.le_of_ble_eq_true rfl)) dX5_read_42 ⟨(Nat.le_of_ble_eq_true rfl), (Nat.le_of_ble_eq_true rfl)⟩) hS (fun q _ h => h) (fun q h => h) (fun u t H locs ht hvm hw hB hz1 hk1 hS => ?_)
          obtain ⟨rat_6, rfl⟩ : ∃ z, z = u := ⟨_, rfl⟩
          have h := hw
          try dsimp only at h
          have hP : va_P (dC, dI) vwCl (wA ad cB cI cZ cL LP today legCount legs hung warmth damp wopen tsize bytes rat_6 rtold_4 rwrong_4 numbers_4 asked ftold ffarm ffrom fwhat fon csize ctotal offered cws cwa g_number g_farm g_pig g_first g_begun g_weight g_salted g_heat g_place g_target g_feedAsked g_sealed g_bad g_sold) H := by rw [← ht]; exact hB.1
          have hD : va_D A (wA ad cB cI cZ cL LP today legCount legs hung warmth damp wopen tsize bytes rat_6 rtold_4 rwrong_4 numbers_4 asked ftold ffarm ffrom fwhat fon csize ctotal offered cws cwa g_number g_farm g_pig g_first g_begun g_weight g_salted g_heat g_place g_target g_feedAsked g_sealed g_bad g_sold) := hB.2.2
          refine lv_aload_n hx hb dX5_read_45 rfl (lv_at hl 0 rfl) ?_
          refine va_get (D := (dC, dI)) (ci := 5) (v := .int rat_6) (C := RX5) (T := TX5) (N := 5) hx hb hts hk_1 hown hK hP 10 wA_g10 rfl 2 (by decide) hk_0 (fun _ h9 => h9) rfl dX5_read_46 ?_
          refine lv_aload_n hx hb dX5_read_49 rfl (lv_at hl 0 rfl) ?_
          refine va_get (D := (dC, dI)) (ci := 5) (v := .ref (ad 8)) (C := RX5) (T := TX5) (N := 5) hx hb hts hk_1 hown hK hP 10 wA_g10 rfl 0 (by decide) hk_5 (fun _ h9 => h9) rfl dX5_read_50 ?_
          refine va_calli (va_runV (As := []) (rest := [.int rat_6]) ⟨hx, hb, hml, hown, hts⟩ (c_C_X6_size l dC dI ad cB cI cZ cL A LP today legCount legs hung warmth damp wopen tsize bytes rat_6 rtold_4 rwrong_4 numbers_4 asked ftold ffarm ffrom fwhat fon csize ctotal offered cws cwa g_number g_farm g_pig g_first g_begun g_weight g_salted g_heat g_place g_target g_feedAsked g_sealed g_bad g_sold _ h) (cwV 0 hts gX5_read_X6_size rfl rfl rfl (by decide +kernel) ⟨(Nat.le_of_ble_eq_true rfl), (Nat.le_of_ble_eq_true rfl)⟩) ⟨kC_blind, va_recv hK hP (ci := 6) (q0 := 8) rfl wA_g8, fun U hU hW => ⟨rfl, kC_go hA hS hP hK hD hE U hU hW⟩⟩ rfl rfl hl.1 rfl (lv_room (Nat.le_of_ble_eq_true rfl)) dX5_read_53 ⟨(Nat.le_of_ble_eq_true rfl), (Nat.le_of_ble_eq_true rfl)⟩) hS (fun q _ h => h) (fun q h => h) (fun r_7 u t H locs ht hvm hw hB hz1 hk1 hS => ?_)
          have h := hw
          try dsimp only at h
          have hP : va_P (dC, dI) vwCl (wA ad cB cI cZ cL LP today legCount legs hung warmth damp wopen tsize bytes rat_6 rtold_4 rwrong_4 numbers_4 asked ftold ffarm ffrom fwhat fon csize ctotal offered cws cwa g_number g_farm g_pig g_first g_begun g_weight g_salted g_heat g_place g_target g_feedAsked g_sealed g_bad g_sold) H := by rw [← ht]; exact hB.1
          have hD : va_D A (wA ad cB cI cZ cL LP today legCount legs hung warmth damp wopen tsize bytes rat_6 rtold_4 rwrong_4 numbers_4 asked ftold ffarm ffrom fwhat fon csize ctotal offered cws cwa g_number g_farm g_pig g_first g_begun g_weight g_salted g_heat g_place g_target g_feedAsked g_sealed g_bad g_sold) := hB.2.2
          refine lv_icmp_lt (tgt := 61) hx hb dX5_read_56 (by decide) (fun c_8 => ?_) (fun c_8 => ?_)
          · have h := h.1 c_8
            refine lv_aload_n hx hb dX5_read_61 rfl (lv_at hl 0 rfl) ?_
            refine va_get (D := (dC, dI)) (ci := 5) (v := .ref (ad 8)) (C := RX5) (T := TX5) (N := 5) hx hb hts hk_1 hown hK hP 10 wA_g10 rfl 0 (by decide) hk_5 (fun _ h9 => h9) rfl dX5_read_62 ?_
            refine lv_aload_n hx hb dX5_read_65 rfl (lv_at hl 0 rfl) ?_
            refine va_get (D := (dC, dI)) (ci := 5) (v := .int rat_6) (C := RX5) (T := TX5) (N := 5) hx hb hts hk_1 hown hK hP 10 wA_g10 rfl 2 (by decide) hk_0 (fun _ h9 => h9) rfl dX5_read_66 ?_
            refine va_calli (va_runV (As := [.int rat_6]) (rest := []) ⟨hx, hb, hml, hown, hts⟩ (c_C_X6_byteAt l dC dI ad cB cI cZ cL A LP today legCount legs hung warmth damp wopen tsize bytes rat_6 rtold_4 rwrong_4 numbers_4 asked ftold ffarm ffrom fwhat fon csize ctotal offered cws cwa g_number g_farm g_pig g_first g_begun g_weight g_salted g_heat g_place g_target g_feedAsked g_sealed g_bad g_sold rat_6 _ h) (cwV 1 hts gX5_read_X6_byteAt rfl rfl rfl (by decide +kernel) ⟨(Nat.le_of_ble_eq_true rfl), (Nat.le_of_ble_eq_true rfl)⟩) ⟨kC_blind, va_recv hK hP (ci := 6) (q0 := 8) rfl wA_g8, fun U hU hW => ⟨rfl, kC_go hA hS hP hK hD hE U hU hW⟩⟩ rfl rfl hl.1 rfl (lv_room (Nat.le_of_ble_eq_true rfl)) dX5_read_69 ⟨(Nat.le_of_ble_eq_true rfl), (Nat.le_of_ble_eq_true rfl)⟩) hS (fun q _ h => h) (fun q h => h) (fun r_9 u t H locs ht hvm hw hB hz1 hk1 hS => ?_)
            have h := hw
            try dsimp only at h
            have hP : va_P (dC, dI) vwCl (wA ad cB cI cZ cL LP today legCount legs hung warmth damp wopen tsize bytes rat_6 rtold_4 rwrong_4 numbers_4 asked ftold ffarm ffrom fwhat fon csize ctotal offered cws cwa g_number g_farm g_pig g_first g_begun g_weight g_salted g_heat g_place g_target g_feedAsked g_sealed g_bad g_sold) H := by rw [← ht]; exact hB.1
            have hD : va_D A (wA ad cB cI cZ cL LP today legCount legs hung warmth damp wopen tsize bytes rat_6 rtold_4 rwrong_4 numbers_4 asked ftold ffarm ffrom fwhat fon csize ctotal offered cws cwa g_number g_farm g_pig g_first g_begun g_weight g_salted g_heat g_place g_target g_feedAsked g_sealed g_bad g_sold) := hB.2.2
            refine lv_bipush (v := 59) hx hb dX5_read_72 (by decide) ?_
            refine lv_icmp_eq (tgt := 86) hx hb dX5_read_74 (by decide) (fun c_10 => ?_) (fun c_10 => ?_)
            · have h := h.1 c_10
              refine lv_aload_n hx hb dX5_read_86 rfl (lv_at hl 0 rfl) ?_
              refine lv_dup hx hb dX5_read_87 rfl ?_
              refine va_get (D := (dC, dI)) (ci := 5) (v := .int rat_6) (C := RX5) (T := TX5) (N := 5) hx hb hts hk_1 hown hK hP 10 wA_g10 rfl 2 (by decide) hk_0 (fun _ h9 => h9) rfl dX5_read_88 ?_
              refine lv_iconst (v := 1) hx hb dX5_read_91 (by decide) ?_
              refine lv_iadd hx hb dX5_read_92 ?_
              refine va_put (D := (dC, dI)) (ci := 5) (v := .int (rat_6 + 1)) (ty := .int) (C := RX5) (T := TX5) (N := 5) hx hb hts hk_1 tyX5 tyX5_ok nmX5 hown hK hP hD hS 10 wA_g10 rfl 2 (by decide) hk_0 (fun _ h9 => h9) rfl (by decide +kernel) rfl rfl (Nat.le_of_ble_eq_true rfl) dX5_read_93 (fun H locs hP2 hD2 hS => ?_)
              have hP : va_P (dC, dI) vwCl (wA ad cB cI cZ cL LP today legCount legs hung warmth damp wopen tsize bytes (rat_6 + 1) rtold_4 rwrong_4 numbers_4 asked ftold ffarm ffrom fwhat fon csize ctotal offered cws cwa g_number g_farm g_pig g_first g_begun g_weight g_salted g_heat g_place g_target g_feedAsked g_sealed g_bad g_sold) H := hP_eq (wA_p_rat) hP2
              have hD : va_D A (wA ad cB cI cZ cL LP today legCount legs hung warmth damp wopen tsize bytes (rat_6 + 1) rtold_4 rwrong_4 numbers_4 asked ftold ffarm ffrom fwhat fon csize ctotal offered cws cwa g_number g_farm g_pig g_first g_begun g_weight g_salted g_heat g_place g_target g_feedAsked g_sealed g_bad g_sold) := hD_eq (wA_p_rat) hD2
              refine lv_iinc (v := v1 + 1) (lv' := [(1, .int (v1 + 1)), (0, .ref (ad 10))]) hx hb dX5_read_96 hl (k := 1) rfl rfl (by decide) rfl (fun ls hl => ?_)
              refine lv_goto (tgt := 25) hx hb dX5_read_99 (by decide) ?_
              exact ih (rat_6 + 1) rtold_4 rwrong_4 numbers_4 (v1 + 1) _ _ _ hP hD hS (lv_sub hl [1, 0] rfl) h
            · have h := h.2 c_10
              refine lv_aload_n hx hb dX5_read_77 rfl (lv_at hl 0 rfl) ?_
              refine lv_aload_n hx hb dX5_read_78 rfl (lv_at hl 0 rfl) ?_
              refine va_get (D := (dC, dI)) (ci := 5) (v := .int rat_6) (C := RX5) (T := TX5) (N := 5) hx hb hts hk_1 hown hK hP 10 wA_g10 rfl 2 (by decide) hk_0 (fun _ h9 => h9) rfl dX5_read_79 ?_
              refine va_calli (va_runV (As := [.int rat_6]) (rest := []) ⟨hx, hb, hml, hown, hts⟩ (c_C_X5_fail l dC dI ad cB cI cZ cL A LP today legCount legs hung warmth damp wopen tsize bytes rat_6 rtold_4 rwrong_4 numbers_4 asked ftold ffarm ffrom fwhat fon csize ctotal offered cws cwa g_number g_farm g_pig g_first g_begun g_weight g_salted g_heat g_place g_target g_feedAsked g_sealed g_bad g_sold rat_6 _ h) (cwV 1 hts gX5_read_X5_fail rfl rfl rfl (by decide +kernel) ⟨(Nat.le_of_ble_eq_true rfl), (Nat.le_of_ble_eq_true rfl)⟩) ⟨kC_blind, va_recv hK hP (ci := 5) (q0 := 10) rfl wA_g10, fun U hU hW => ⟨rfl, kC_go hA hS hP hK hD hE U hU hW⟩⟩ rfl rfl hl.1 rfl (lv_room (Nat.le_of_ble_eq_true rfl)) dX5_read_82 ⟨(Nat.le_of_ble_eq_true rfl), (Nat.le_of_ble_eq_true rfl)⟩) hS (fun q _ h => h) (fun q h => h) (fun r_11 u t H locs ht hvm hw hB hz1 hk1 hS => ?_)
              obtain ⟨rwrong_11, rfl⟩ : ∃ z, z = u := ⟨_, rfl⟩
              have h := hw
              try dsimp only at h
              have hP : va_P (dC, dI) vwCl (wA ad cB cI cZ cL LP today legCount legs hung warmth damp wopen tsize bytes rat_6 rtold_4 rwrong_11 numbers_4 asked ftold ffarm ffrom fwhat fon csize ctotal offered cws cwa g_number g_farm g_pig g_first g_begun g_weight g_salted g_heat g_place g_target g_feedAsked g_sealed g_bad g_sold) H := by rw [← ht]; exact hB.1
              have hD : va_D A (wA ad cB cI cZ cL LP today legCount legs hung warmth damp wopen tsize bytes rat_6 rtold_4 rwrong_11 numbers_4 asked ftold ffarm ffrom fwhat fon csize ctotal offered cws cwa g_number g_farm g_pig g_first g_begun g_weight g_salted g_heat g_place g_target g_feedAsked g_sealed g_bad g_sold) := hB.2.2
              exact W.zret (v := r_11) (ty := .boolean) hx hb hr (z01 h.1) (fun t ht hW => ⟨⟨r_11, (rat_6, rtold_4, rwrong_11, numbers_4), rfl, h.2, kB_mk hP hK hD ht hW.alike⟩, hS.F ht⟩) hS.2.2 dX5_read_85
          · have h := h.2 c_8
            refine lv_iconst (v := 1) hx hb dX5_read_59 (by decide) ?_
            exact W.zret (v := 1) (ty := .boolean) hx hb hr (z01 h.1) (fun t ht hW => ⟨⟨1, (rat_6, rtold_4, rwrong_4, numbers_4), rfl, h.2, kB_mk hP hK hD ht hW.alike⟩, hS.F ht⟩) hS.2.2 dX5_read_60
        · have h := h.2 c_5
          refine lv_iconst (v := 0) hx hb dX5_read_39 (by decide) ?_
          exact W.zret (v := 0) (ty := .boolean) hx hb hr (z01 h.1) (fun t ht hW => ⟨⟨0, (rat_4, rtold_4, rwrong_4, numbers_4), rfl, h.2, kB_mk hP hK hD ht hW.alike⟩, hS.F ht⟩) hS.2.2 dX5_read_40
  have hl := lv_entry ([.ref (ad 10)]) (n := 2) (Nat.le_of_ble_eq_true rfl)
  rw [lg_entry_eq]
  generalize (lg_sl ([.ref (ad 10)]) ++ List.replicate (2 - (lg_sl ([.ref (ad 10)])).length) Slot.unset).toArray = ls at hl ⊢
  have hl : lv_has ls 2 [(0, .ref (ad 10))] := hl
  unfold wp_C_X5_read at h
  refine lv_aload_n hx hb dX5_read_0 rfl (lv_at hl 0 rfl) ?_
  refine lv_iconst (v := 0) hx hb dX5_read_1 (by decide) ?_
  refine va_put (D := (dC, dI)) (ci := 5) (v := .int 0) (ty := .int) (C := RX5) (T := TX5) (N := 5) hx hb hts hk_1 tyX5 tyX5_ok nmX5 hown hK hP hD hS 10 wA_g10 rfl 2 (by decide) hk_0 (fun _ h9 => h9) rfl (by decide +kernel) rfl rfl (Nat.le_of_ble_eq_true rfl) dX5_read_2 (fun H locs hP2 hD2 hS => ?_)
  have hP : va_P (dC, dI) vwCl (wA ad cB cI cZ cL LP today legCount legs hung warmth damp wopen tsize bytes 0 rtold rwrong numbers asked ftold ffarm ffrom fwhat fon csize ctotal offered cws cwa g_number g_farm g_pig g_first g_begun g_weight g_salted g_heat g_place g_target g_feedAsked g_sealed g_bad g_sold) H := hP_eq (wA_p_rat) hP2
  have hD : va_D A (wA ad cB cI cZ cL LP today legCount legs hung warmth damp wopen tsize bytes 0 rtold rwrong numbers asked ftold ffarm ffrom fwhat fon csize ctotal offered cws cwa g_number g_farm g_pig g_first g_begun g_weight g_salted g_heat g_place g_target g_feedAsked g_sealed g_bad g_sold) := hD_eq (wA_p_rat) hD2
  refine lv_aload_n hx hb dX5_read_5 rfl (lv_at hl 0 rfl) ?_
  refine lv_iconst (v := 0) hx hb dX5_read_6 (by decide) ?_
  refine va_put (D := (dC, dI)) (ci := 5) (v := .int 0) (ty := .int) (C := RX5) (T := TX5) (N := 5) hx hb hts hk_1 tyX5 tyX5_ok nmX5 hown hK hP hD hS 10 wA_g10 rfl 3 (by decide) hk_2 (fun _ h9 => h9) rfl (by decide +kernel) rfl rfl (Nat.le_of_ble_eq_true rfl) dX5_read_7 (fun H locs hP2 hD2 hS => ?_)
  have hP : va_P (dC, dI) vwCl (wA ad cB cI cZ cL LP today legCount legs hung warmth damp wopen tsize bytes 0 0 rwrong numbers asked ftold ffarm ffrom fwhat fon csize ctotal offered cws cwa g_number g_farm g_pig g_first g_begun g_weight g_salted g_heat g_place g_target g_feedAsked g_sealed g_bad g_sold) H := hP_eq (wA_p_rtold) hP2
  have hD : va_D A (wA ad cB cI cZ cL LP today legCount legs hung warmth damp wopen tsize bytes 0 0 rwrong numbers asked ftold ffarm ffrom fwhat fon csize ctotal offered cws cwa g_number g_farm g_pig g_first g_begun g_weight g_salted g_heat g_place g_target g_feedAsked g_sealed g_bad g_sold) := hD_eq (wA_p_rtold) hD2
  refine lv_aload_n hx hb dX5_read_10 rfl (lv_at hl 0 rfl) ?_
  refine lv_iconst (v := (-1)) hx hb dX5_read_11 (by decide) ?_
  refine va_put (D := (dC, dI)) (ci := 5) (v := .int (-1)) (ty := .int) (C := RX5) (T := TX5) (N := 5) hx hb hts hk_1 tyX5 tyX5_ok nmX5 hown hK hP hD hS 10 wA_g10 rfl 4 (by decide) hk_3 (fun _ h9 => h9) rfl (by decide +kernel) rfl rfl (Nat.le_of_ble_eq_true rfl) dX5_read_12 (fun H locs hP2 hD2 hS => ?_)
  have hP : va_P (dC, dI) vwCl (wA ad cB cI cZ cL LP today legCount legs hung warmth damp wopen tsize bytes 0 0 (-1) numbers asked ftold ffarm ffrom fwhat fon csize ctotal offered cws cwa g_number g_farm g_pig g_first g_begun g_weight g_salted g_heat g_place g_target g_feedAsked g_sealed g_bad g_sold) H := hP_eq (wA_p_rwrong) hP2
  have hD : va_D A (wA ad cB cI cZ cL LP today legCount legs hung warmth damp wopen tsize bytes 0 0 (-1) numbers asked ftold ffarm ffrom fwhat fon csize ctotal offered cws cwa g_number g_farm g_pig g_first g_begun g_weight g_salted g_heat g_place g_target g_feedAsked g_sealed g_bad g_sold) := hD_eq (wA_p_rwrong) hD2
  refine lv_aload_n hx hb dX5_read_15 rfl (lv_at hl 0 rfl) ?_
  refine va_get (D := (dC, dI)) (ci := 5) (v := .ref (ad 11)) (C := RX5) (T := TX5) (N := 5) hx hb hts hk_1 hown hK hP 10 wA_g10 rfl 1 (by decide) hk_4 (fun _ h9 => h9) rfl dX5_read_16 ?_
  refine lv_iconst (v := 0) hx hb dX5_read_19 (by decide) ?_
  refine va_callv (va_runS (As := [.ref (ad 11), .int 0]) (rest := []) ⟨hx, hb, hml, hown, hts⟩ (c_C11_J7_fill_53178 l dC dI ad cB cI cZ cL A LP today legCount legs hung warmth damp wopen tsize bytes 0 0 (-1) numbers asked ftold ffarm ffrom fwhat fon csize ctotal offered cws cwa g_number g_farm g_pig g_first g_begun g_weight g_salted g_heat g_place g_target g_feedAsked g_sealed g_bad g_sold 0 _ h) (va_cwS 2 hts gX5_read_J7_fill_53178 rfl rfl rfl (by decide +kernel) ⟨(Nat.le_of_ble_eq_true rfl), (Nat.le_of_ble_eq_true rfl)⟩) ⟨kC_blind, fun U hU hW => ⟨rfl, kC_go hA hS hP hK hD hE U hU hW⟩⟩ rfl rfl hl.1 rfl (lv_room (Nat.le_of_ble_eq_true rfl)) dX5_read_20 ⟨(Nat.le_of_ble_eq_true rfl), (Nat.le_of_ble_eq_true rfl)⟩) hS (fun q _ h => h) (fun q h => h) (fun u t H locs ht hvm hw hB hz1 hk1 hS => ?_)
  obtain ⟨numbers_1, rfl⟩ : ∃ z, z = u := ⟨_, rfl⟩
  have h := hw
  try dsimp only at h
  have hP : va_P (dC, dI) vwCl (wA ad cB cI cZ cL LP today legCount legs hung warmth damp wopen tsize bytes 0 0 (-1) numbers_1 asked ftold ffarm ffrom fwhat fon csize ctotal offered cws cwa g_number g_farm g_pig g_first g_begun g_weight g_salted g_heat g_place g_target g_feedAsked g_sealed g_bad g_sold) H := by rw [← ht]; exact hB.1
  have hD : va_D A (wA ad cB cI cZ cL LP today legCount legs hung warmth damp wopen tsize bytes 0 0 (-1) numbers_1 asked ftold ffarm ffrom fwhat fon csize ctotal offered cws cwa g_number g_farm g_pig g_first g_begun g_weight g_salted g_heat g_place g_target g_feedAsked g_sealed g_bad g_sold) := hB.2.2
  refine lv_iconst (v := 0) hx hb dX5_read_23 (by decide) ?_
  refine lv_istore_n (lv' := [(1, .int 0), (0, .ref (ad 10))]) hx hb dX5_read_24 rfl hl (by decide) rfl (fun ls hl => ?_)
  obtain ⟨n_12, h⟩ := h
  exact hlp_C_X5_read_25 n_12 0 0 (-1) numbers_1 0 _ _ _ hP hD hS (lv_sub hl [1, 0] rfl) h
