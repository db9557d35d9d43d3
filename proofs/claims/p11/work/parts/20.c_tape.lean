def wp_C_X6_size (tsize : Int32) (Q : Int32 → Prop) : Prop := Q tsize
def rm_C_X6_size : Room := { frames := 0, cells := 0, slots := 0, locals := 0 }
abbrev pq_C_X6_size (dC : Nat → ClassId) (dI : Nat → Nat → Nat) (ad : Nat → Nat) (cB cI cZ cL : ClassId) (A : Nat → Prop) (LP : List Nat) (today legCount : Int32) (legs hung : Nat → Option Nat) (warmth damp wopen : Nat → Int32) (tsize : Int32) (bytes : Nat → Int32) (rat rtold rwrong : Int32) (numbers asked : Nat → Int32) (ftold : Int32) (ffarm ffrom fwhat fon : Nat → Int32) (csize ctotal : Int32) (offered : Nat → Option Nat) (cws cwa g_number g_farm g_pig g_first g_begun g_weight g_salted g_heat g_place g_target g_feedAsked g_sealed g_bad g_sold : Nat → Int32) (Q : Int32 → Prop) : Array Value → State → Outcome → State → Prop := va_Qi (fun (r : Int32) (u : Unit) => Q r ) (fun u t => kB dC dI A (wA ad cB cI cZ cL LP today legCount legs hung warmth damp wopen tsize bytes rat rtold rwrong numbers asked ftold ffarm ffrom fwhat fon csize ctotal offered cws cwa g_number g_farm g_pig g_first g_begun g_weight g_salted g_heat g_place g_target g_feedAsked g_sealed g_bad g_sold) (kTy cB cI cZ cL) t) A
set_option maxHeartbeats 4000000 in
set_option maxRecDepth 100000 in
theorem c_C_X6_size (l : Launch) (dC : Nat → ClassId) (dI : Nat → Nat → Nat) (ad : Nat → Nat) (cB cI cZ cL : ClassId) (A : Nat → Prop) (LP : List Nat) (today legCount : Int32) (legs hung : Nat → Option Nat) (warmth damp wopen : Nat → Int32) (tsize : Int32) (bytes : Nat → Int32) (rat rtold rwrong : Int32) (numbers asked : Nat → Int32) (ftold : Int32) (ffarm ffrom fwhat fon : Nat → Int32) (csize ctotal : Int32) (offered : Nat → Option Nat) (cws cwa g_number g_farm g_pig g_first g_begun g_weight g_salted g_heat g_place g_target g_feedAsked g_sealed g_bad g_sold : Nat → Int32)   (Q : Int32 → Prop) (h : wp_C_X6_size tsize Q) : Met l yX6_size wsX6_size rm_C_X6_size (va_Pc [.ref (ad 8)] (kC dC dI ad A (wA ad cB cI cZ cL LP today legCount legs hung warmth damp wopen tsize bytes rat rtold rwrong numbers asked ftold ffarm ffrom fwhat fon csize ctotal offered cws cwa g_number g_farm g_pig g_first g_begun g_weight g_salted g_heat g_place g_target g_feedAsked g_sealed g_bad g_sold) (kTy cB cI cZ cL))) (pq_C_X6_size dC dI ad cB cI cZ cL A LP today legCount legs hung warmth damp wopen tsize bytes rat rtold rwrong numbers asked ftold ffarm ffrom fwhat fon csize ctotal offered cws cwa g_number g_farm g_pig g_first g_begun g_weight g_salted g_heat g_place g_target g_feedAsked g_sealed g_bad g_sold Q) 0 0 A := by
  refine Met.ofW (cc := cX6_size) (maxL := 1) (ret := (some .int)) (by decide) rfl ?_
  intro p e s m args below meth c s₁ B hml hv
  obtain ⟨rfl, hA, hP, hK, hD, hE⟩ := hv
  have hx := B.exec
  have hb := B.bytes
  have hr := B.returns
  have hts := atoms_spec (ws := wsX6_size) B.pre
  have hown : s.vm.findClass RX6 = some m.cls := findClass_of_methodNamed B.named
  have hlocks := B.notSynchronized
  have hS : va_S A s.heap s.heap [] := va_S.rf
  have hk_0 := hts (.fieldLink RX6 15 "HamCellar$Tape" "size" "I") (by decide +kernel)
  have hk_1 : ∀ w ∈ wsX60, w ∈ wsX6_size := by decide +kernel
  have hl := lv_entry ([.ref (ad 8)]) (n := 1) (Nat.le_of_ble_eq_true rfl)
  rw [lg_entry_eq]
  generalize (lg_sl ([.ref (ad 8)]) ++ List.replicate (1 - (lg_sl ([.ref (ad 8)])).length) Slot.unset).toArray = ls at hl ⊢
  have hl : lv_has ls 1 [(0, .ref (ad 8))] := hl
  unfold wp_C_X6_size at h
  refine lv_aload_n hx hb dX6_size_0 rfl (lv_at hl 0 rfl) ?_
  refine va_get (D := (dC, dI)) (ci := 6) (v := .int tsize) (C := RX6) (T := TX6) (N := 2) hx hb hts hk_1 hown hK hP 8 wA_g8 rfl 1 (by decide) hk_0 (fun _ h9 => h9) rfl dX6_size_1 ?_
  exact W.iret (v := tsize) hx hb hr (fun t ht hW => ⟨⟨tsize, (), rfl, h, kB_mk hP hK hD ht hW.alike⟩, hS.F ht⟩) hS.2.2 dX6_size_4
def wp_C_X6_byteAt (tsize : Int32) (bytes : Nat → Int32) (Q : Int32 → Prop) (p0 : Int32) : Prop := ((p0 < 0 → Q (-1)) ∧ (¬ (p0 < 0) → ((tsize ≤ p0 → Q (-1)) ∧ (¬ (tsize ≤ p0) → ((400 ≤ p0 → Q (-1)) ∧ (¬ (400 ≤ p0) → (vp_in p0 400 ∧ Q ((bytes p0.toNatClampNeg) &&& 255))))))))
def rm_C_X6_byteAt : Room := { frames := 0, cells := 0, slots := 0, locals := 0 }
abbrev pq_C_X6_byteAt (dC : Nat → ClassId) (dI : Nat → Nat → Nat) (ad : Nat → Nat) (cB cI cZ cL : ClassId) (A : Nat → Prop) (LP : List Nat) (today legCount : Int32) (legs hung : Nat → Option Nat) (warmth damp wopen : Nat → Int32) (tsize : Int32) (bytes : Nat → Int32) (rat rtold rwrong : Int32) (numbers asked : Nat → Int32) (ftold : Int32) (ffarm ffrom fwhat fon : Nat → Int32) (csize ctotal : Int32) (offered : Nat → Option Nat) (cws cwa g_number g_farm g_pig g_first g_begun g_weight g_salted g_heat g_place g_target g_feedAsked g_sealed g_bad g_sold : Nat → Int32) (Q : Int32 → Prop) : Array Value → State → Outcome → State → Prop := va_Qi (fun (r : Int32) (u : Unit) => Q r ) (fun u t => kB dC dI A (wA ad cB cI cZ cL LP today legCount legs hung warmth damp wopen tsize bytes rat rtold rwrong numbers asked ftold ffarm ffrom fwhat fon csize ctotal offered cws cwa g_number g_farm g_pig g_first g_begun g_weight g_salted g_heat g_place g_target g_feedAsked g_sealed g_bad g_sold) (kTy cB cI cZ cL) t) A
set_option maxHeartbeats 4000000 in
set_option maxRecDepth 100000 in
theorem c_C_X6_byteAt (l : Launch) (dC : Nat → ClassId) (dI : Nat → Nat → Nat) (ad : Nat → Nat) (cB cI cZ cL : ClassId) (A : Nat → Prop) (LP : List Nat) (today legCount : Int32) (legs hung : Nat → Option Nat) (warmth damp wopen : Nat → Int32) (tsize : Int32) (bytes : Nat → Int32) (rat rtold rwrong : Int32) (numbers asked : Nat → Int32) (ftold : Int32) (ffarm ffrom fwhat fon : Nat → Int32) (csize ctotal : Int32) (offered : Nat → Option Nat) (cws cwa g_number g_farm g_pig g_first g_begun g_weight g_salted g_heat g_place g_target g_feedAsked g_sealed g_bad g_sold : Nat → Int32) (p0 : Int32)  (Q : Int32 → Prop) (h : wp_C_X6_byteAt tsize bytes Q p0) : Met l yX6_byteAt wsX6_byteAt rm_C_X6_byteAt (va_Pc [.ref (ad 8), .int p0] (kC dC dI ad A (wA ad cB cI cZ cL LP today legCount legs hung warmth damp wopen tsize bytes rat rtold rwrong numbers asked ftold ffarm ffrom fwhat fon csize ctotal offered cws cwa g_number g_farm g_pig g_first g_begun g_weight g_salted g_heat g_place g_target g_feedAsked g_sealed g_bad g_sold) (kTy cB cI cZ cL))) (pq_C_X6_byteAt dC dI ad cB cI cZ cL A LP today legCount legs hung warmth damp wopen tsize bytes rat rtold rwrong numbers asked ftold ffarm ffrom fwhat fon csize ctotal offered cws cwa g_number g_farm g_pig g_first g_begun g_weight g_salted g_heat g_place g_target g_feedAsked g_sealed g_bad g_sold Q) 0 0 A := by
  refine Met.ofW (cc := cX6_byteAt) (maxL := 2) (ret := (some .int)) (by decide) rfl ?_
  intro p e s m args below meth c s₁ B hml hv
  obtain ⟨rfl, hA, hP, hK, hD, hE⟩ := hv
  have hx := B.exec
  have hb := B.bytes
  have hr := B.returns
  have hts := atoms_spec (ws := wsX6_byteAt) B.pre
  have hown : s.vm.findClass RX6 = some m.cls := findClass_of_methodNamed B.named
  have hlocks := B.notSynchronized
  have hS : va_S A s.heap s.heap [] := va_S.rf
  have hk_0 := hts (.fieldLink RX6 15 "HamCellar$Tape" "size" "I") (by decide +kernel)
  have hk_1 : ∀ w ∈ wsX60, w ∈ wsX6_byteAt := by decide +kernel
  have hk_2 := hts (.fieldLink RX6 9 "HamCellar$Tape" "bytes" "[B") (by decide +kernel)
  have hl := lv_entry ([.ref (ad 8), .int p0]) (n := 2) (Nat.le_of_ble_eq_true rfl)
  rw [lg_entry_eq]
  generalize (lg_sl ([.ref (ad 8), .int p0]) ++ List.replicate (2 - (lg_sl ([.ref (ad 8), .int p0])).length) Slot.unset).toArray = ls at hl ⊢
  have hl : lv_has ls 2 [(0, .ref (ad 8)), (1, .int p0)] := hl
  unfold wp_C_X6_byteAt at h
  refine lv_iload_n hx hb dX6_byteAt_0 rfl (lv_at hl 1 rfl) ?_
  refine lv_if_lt (tgt := 34) hx hb dX6_byteAt_1 (by decide) (fun c_1 => ?_) (fun c_1 => ?_)
  · have h := h.1 c_1
    refine lv_iconst (v := (-1)) hx hb dX6_byteAt_34 (by decide) ?_
    exact W.iret (v := (-1)) hx hb hr (fun t ht hW => ⟨⟨(-1), (), rfl, h, kB_mk hP hK hD ht hW.alike⟩, hS.F ht⟩) hS.2.2 dX6_byteAt_35
  · have h := h.2 c_1
    refine lv_iload_n hx hb dX6_byteAt_4 rfl (lv_at hl 1 rfl) ?_
    refine lv_aload_n hx hb dX6_byteAt_5 rfl (lv_at hl 0 rfl) ?_
    refine va_get (D := (dC, dI)) (ci := 6) (v := .int tsize) (C := RX6) (T := TX6) (N := 2) hx hb hts hk_1 hown hK hP 8 wA_g8 rfl 1 (by decide) hk_0 (fun _ h9 => h9) rfl dX6_byteAt_6 ?_
    refine lv_icmp_ge (tgt := 34) hx hb dX6_byteAt_9 (by decide) (fun c_2 => ?_) (fun c_2 => ?_)
    · have h := h.1 c_2
      refine lv_iconst (v := (-1)) hx hb dX6_byteAt_34 (by decide) ?_
      exact W.iret (v := (-1)) hx hb hr (fun t ht hW => ⟨⟨(-1), (), rfl, h, kB_mk hP hK hD ht hW.alike⟩, hS.F ht⟩) hS.2.2 dX6_byteAt_35
    · have h := h.2 c_2
      refine lv_iload_n hx hb dX6_byteAt_12 rfl (lv_at hl 1 rfl) ?_
      refine lv_aload_n hx hb dX6_byteAt_13 rfl (lv_at hl 0 rfl) ?_
      refine va_get (D := (dC, dI)) (ci := 6) (v := .ref (ad 9)) (C := RX6) (T := TX6) (N := 2) hx hb hts hk_1 hown hK hP 8 wA_g8 rfl 0 (by decide) hk_2 (fun _ h9 => h9) rfl dX6_byteAt_14 ?_
      refine va_alen hx hb hK hP 9 0 wA_g9 rfl (v := 400) rfl dX6_byteAt_17 ?_
      refine lv_icmp_ge (tgt := 34) hx hb dX6_byteAt_18 (by decide) (fun c_3 => ?_) (fun c_3 => ?_)
      · have h := h.1 c_3
        refine lv_iconst (v := (-1)) hx hb dX6_byteAt_34 (by decide) ?_
        exact W.iret (v := (-1)) hx hb hr (fun t ht hW => ⟨⟨(-1), (), rfl, h, kB_mk hP hK hD ht hW.alike⟩, hS.F ht⟩) hS.2.2 dX6_byteAt_35
      · have h := h.2 c_3
        refine lv_aload_n hx hb dX6_byteAt_21 rfl (lv_at hl 0 rfl) ?_
        refine va_get (D := (dC, dI)) (ci := 6) (v := .ref (ad 9)) (C := RX6) (T := TX6) (N := 2) hx hb hts hk_1 hown hK hP 8 wA_g8 rfl 0 (by decide) hk_2 (fun _ h9 => h9) rfl dX6_byteAt_22 ?_
        refine lv_iload_n hx hb dX6_byteAt_25 rfl (lv_at hl 1 rfl) ?_
        have hi_4 := h.1
        have h := h.2
        refine va_bald hx hb hK hP 9 0 wA_g9 rfl hi_4 dX6_byteAt_26 ?_
        refine lv_sipush (v := 255) hx hb dX6_byteAt_27 (by decide) ?_
        refine lv_iand hx hb dX6_byteAt_30 ?_
        refine lv_goto (tgt := 35) hx hb dX6_byteAt_31 (by decide) ?_
        exact W.iret (v := (bytes p0.toNatClampNeg) &&& 255) hx hb hr (fun t ht hW => ⟨⟨(bytes p0.toNatClampNeg) &&& 255, (), rfl, h, kB_mk hP hK hD ht hW.alike⟩, hS.F ht⟩) hS.2.2 dX6_byteAt_35
def wp_C_X7_isWithin (Q : Int32 → Prop) (p0 : Int32) (p1 : Int32) (p2 : Int32) : Prop := ((p0 < p1 → (o01 0 ∧ Q 0 )) ∧ (¬ (p0 < p1) → ((p2 < p0 → (o01 0 ∧ Q 0 )) ∧ (¬ (p2 < p0) → (o01 1 ∧ Q 1 )))))
def rm_C_X7_isWithin : Room := { frames := 0, cells := 0, slots := 0, locals := 0 }
abbrev pq_C_X7_isWithin (dC : Nat → ClassId) (dI : Nat → Nat → Nat) (ad : Nat → Nat) (cB cI cZ cL : ClassId) (A : Nat → Prop) (LP : List Nat) (today legCount : Int32) (legs hung : Nat → Option Nat) (warmth damp wopen : Nat → Int32) (tsize : Int32) (bytes : Nat → Int32) (rat rtold rwrong : Int32) (numbers asked : Nat → Int32) (ftold : Int32) (ffarm ffrom fwhat fon : Nat → Int32) (csize ctotal : Int32) (offered : Nat → Option Nat) (cws cwa g_number g_farm g_pig g_first g_begun g_weight g_salted g_heat g_place g_target g_feedAsked g_sealed g_bad g_sold : Nat → Int32) (Q : Int32 → Prop) : Array Value → State → Outcome → State → Prop := va_Qi (fun (r : Int32) (u : Unit) => Q r ) (fun u t => kB dC dI A (wA ad cB cI cZ cL LP today legCount legs hung warmth damp wopen tsize bytes rat rtold rwrong numbers asked ftold ffarm ffrom fwhat fon csize ctotal offered cws cwa g_number g_farm g_pig g_first g_begun g_weight g_salted g_heat g_place g_target g_feedAsked g_sealed g_bad g_sold) (kTy cB cI cZ cL) t) A
set_option maxHeartbeats 4000000 in
set_option maxRecDepth 100000 in
theorem c_C_X7_isWithin (l : Launch) (dC : Nat → ClassId) (dI : Nat → Nat → Nat) (ad : Nat → Nat) (cB cI cZ cL : ClassId) (A : Nat → Prop) (LP : List Nat) (today legCount : Int32) (legs hung : Nat → Option Nat) (warmth damp wopen : Nat → Int32) (tsize : Int32) (bytes : Nat → Int32) (rat rtold rwrong : Int32) (numbers asked : Nat → Int32) (ftold : Int32) (ffarm ffrom fwhat fon : Nat → Int32) (csize ctotal : Int32) (offered : Nat → Option Nat) (cws cwa g_number g_farm g_pig g_first g_begun g_weight g_salted g_heat g_place g_target g_feedAsked g_sealed g_bad g_sold : Nat → Int32) (p0 : Int32) (p1 : Int32) (p2 : Int32)  (Q : Int32 → Prop) (h : wp_C_X7_isWithin Q p0 p1 p2) : Met l yX7_isWithin wsX7_isWithin rm_C_X7_isWithin (va_Pc [.int p0, .int p1, .int p2] (kC dC dI ad A (wA ad cB cI cZ cL LP today legCount legs hung warmth damp wopen tsize bytes rat rtold rwrong numbers asked ftold ffarm ffrom fwhat fon csize ctotal offered cws cwa g_number g_farm g_pig g_first g_begun g_weight g_salted g_heat g_place g_target g_feedAsked g_sealed g_bad g_sold) (kTy cB cI cZ cL))) (pq_C_X7_isWithin dC dI ad cB cI cZ cL A LP today legCount legs hung warmth damp wopen tsize bytes rat rtold rwrong numbers asked ftold ffarm ffrom fwhat fon csize ctotal offered cws cwa g_number g_farm g_pig g_first g_begun g_weight g_salted g_heat g_place g_target g_feedAsked g_sealed g_bad g_sold Q) 0 0 A := by
  refine Met.ofW (cc := cX7_isWithin) (maxL := 3) (ret := (some .boolean)) (by decide) rfl ?_
  intro p e s m args below meth c s₁ B hml hv
  obtain ⟨rfl, hA, hP, hK, hD, hE⟩ := hv
  have hx := B.exec
  have hb := B.bytes
  have hr := B.returns
  have hts := atoms_spec (ws := wsX7_isWithin) B.pre
  have hown : s.vm.findClass RX7 = some m.cls := findClass_of_methodNamed B.named
  have hlocks := B.notSynchronized
  have hS : va_S A s.heap s.heap [] := va_S.rf
  have hl := lv_entry ([.int p0, .int p1, .int p2]) (n := 3) (Nat.le_of_ble_eq_true rfl)
  rw [lg_entry_eq]
  generalize (lg_sl ([.int p0, .int p1, .int p2]) ++ List.replicate (3 - (lg_sl ([.int p0, .int p1, .int p2])).length) Slot.unset).toArray = ls at hl ⊢
  have hl : lv_has ls 3 [(0, .int p0), (1, .int p1), (2, .int p2)] := hl
  unfold wp_C_X7_isWithin at h
  refine lv_iload_n hx hb dX7_isWithin_0 rfl (lv_at hl 0 rfl) ?_
  refine lv_iload_n hx hb dX7_isWithin_1 rfl (lv_at hl 1 rfl) ?_
  refine lv_icmp_lt (tgt := 14) hx hb dX7_isWithin_2 (by decide) (fun c_1 => ?_) (fun c_1 => ?_)
  · have h := h.1 c_1
    refine lv_iconst (v := 0) hx hb dX7_isWithin_14 (by decide) ?_
    exact W.zret (v := 0) (ty := .boolean) hx hb hr (z01 h.1) (fun t ht hW => ⟨⟨0, (), rfl, h.2, kB_mk hP hK hD ht hW.alike⟩, hS.F ht⟩) hS.2.2 dX7_isWithin_15
  · have h := h.2 c_1
    refine lv_iload_n hx hb dX7_isWithin_5 rfl (lv_at hl 0 rfl) ?_
    refine lv_iload_n hx hb dX7_isWithin_6 rfl (lv_at hl 2 rfl) ?_
    refine lv_icmp_gt (tgt := 14) hx hb dX7_isWithin_7 (by decide) (fun c_2 => ?_) (fun c_2 => ?_)
    · have h := h.1 c_2
      refine lv_iconst (v := 0) hx hb dX7_isWithin_14 (by decide) ?_
      exact W.zret (v := 0) (ty := .boolean) hx hb hr (z01 h.1) (fun t ht hW => ⟨⟨0, (), rfl, h.2, kB_mk hP hK hD ht hW.alike⟩, hS.F ht⟩) hS.2.2 dX7_isWithin_15
    · have h := h.2 c_2
      refine lv_iconst (v := 1) hx hb dX7_isWithin_10 (by decide) ?_
      refine lv_goto (tgt := 15) hx hb dX7_isWithin_11 (by decide) ?_
      exact W.zret (v := 1) (ty := .boolean) hx hb hr (z01 h.1) (fun t ht hW => ⟨⟨1, (), rfl, h.2, kB_mk hP hK hD ht hW.alike⟩, hS.F ht⟩) hS.2.2 dX7_isWithin_15
def wp_C_X6_hasSpaceFor (tsize : Int32) (Q : Int32 → Prop) (p0 : Int32) : Prop := ((400 < (tsize + p0) → (o01 0 ∧ Q 0 )) ∧ (¬ (400 < (tsize + p0)) → (o01 1 ∧ Q 1 )))
def rm_C_X6_hasSpaceFor : Room := { frames := 0, cells := 0, slots := 0, locals := 0 }
abbrev pq_C_X6_hasSpaceFor (dC : Nat → ClassId) (dI : Nat → Nat → Nat) (ad : Nat → Nat) (cB cI cZ cL : ClassId) (A : Nat → Prop) (LP : List Nat) (today legCount : Int32) (legs hung : Nat → Option Nat) (warmth damp wopen : Nat → Int32) (tsize : Int32) (bytes : Nat → Int32) (rat rtold rwrong : Int32) (numbers asked : Nat → Int32) (ftold : Int32) (ffarm ffrom fwhat fon : Nat → Int32) (csize ctotal : Int32) (offered : Nat → Option Nat) (cws cwa g_number g_farm g_pig g_first g_begun g_weight g_salted g_heat g_place g_target g_feedAsked g_sealed g_bad g_sold : Nat → Int32) (Q : Int32 → Prop) : Array Value → State → Outcome → State → Prop := va_Qi (fun (r : Int32) (u : Unit) => Q r ) (fun u t => kB dC dI A (wA ad cB cI cZ cL LP today legCount legs hung warmth damp wopen tsize bytes rat rtold rwrong numbers asked ftold ffarm ffrom fwhat fon csize ctotal offered cws cwa g_number g_farm g_pig g_first g_begun g_weight g_salted g_heat g_place g_target g_feedAsked g_sealed g_bad g_sold) (kTy cB cI cZ cL) t) A
set_option maxHeartbeats 4000000 in
set_option maxRecDepth 100000 in
theorem c_C_X6_hasSpaceFor (l : Launch) (dC : Nat → ClassId) (dI : Nat → Nat → Nat) (ad : Nat → Nat) (cB cI cZ cL : ClassId) (A : Nat → Prop) (LP : List Nat) (today legCount : Int32) (legs hung : Nat → Option Nat) (warmth damp wopen : Nat → Int32) (tsize : Int32) (bytes : Nat → Int32) (rat rtold rwrong : Int32) (numbers asked : Nat → Int32) (ftold : Int32) (ffarm ffrom fwhat fon : Nat → Int32) (csize ctotal : Int32) (offered : Nat → Option Nat) (cws cwa g_number g_farm g_pig g_first g_begun g_weight g_salted g_heat g_place g_target g_feedAsked g_sealed g_bad g_sold : Nat → Int32) (p0 : Int32)  (Q : Int32 → Prop) (h : wp_C_X6_hasSpaceFor tsize Q p0) : Met l yX6_hasSpaceFor wsX6_hasSpaceFor rm_C_X6_hasSpaceFor (va_Pc [.ref (ad 8), .int p0] (kC dC dI ad A (wA ad cB cI cZ cL LP today legCount legs hung warmth damp wopen tsize bytes rat rtold rwrong numbers asked ftold ffarm ffrom fwhat fon csize ctotal offered cws cwa g_number g_farm g_pig g_first g_begun g_weight g_salted g_heat g_place g_target g_feedAsked g_sealed g_bad g_sold) (kTy cB cI cZ cL))) (pq_C_X6_hasSpaceFor dC dI ad cB cI cZ cL A LP today legCount legs hung warmth damp wopen tsize bytes rat rtold rwrong numbers asked ftold ffarm ffrom fwhat fon csize ctotal offered cws cwa g_number g_farm g_pig g_first g_begun g_weight g_salted g_heat g_place g_target g_feedAsked g_sealed g_bad g_sold Q) 0 0 A := by
  refine Met.ofW (cc := cX6_hasSpaceFor) (maxL := 2) (ret := (some .boolean)) (by decide) rfl ?_
  intro p e s m args below meth c s₁ B hml hv
  obtain ⟨rfl, hA, hP, hK, hD, hE⟩ := hv
  have hx := B.exec
  have hb := B.bytes
  have hr := B.returns
  have hts := atoms_spec (ws := wsX6_hasSpaceFor) B.pre
  have hown : s.vm.findClass RX6 = some m.cls := findClass_of_methodNamed B.named
  have hlocks := B.notSynchronized
  have hS : va_S A s.heap s.heap [] := va_S.rf
  have hk_0 := hts (.fieldLink RX6 15 "HamCellar$Tape" "size" "I") (by decide +kernel)
  have hk_1 : ∀ w ∈ wsX60, w ∈ wsX6_hasSpaceFor := by decide +kernel
  have hk_2 := hts (.fieldLink RX6 9 "HamCellar$Tape" "bytes" "[B") (by decide +kernel)
  have hl := lv_entry ([.ref (ad 8), .int p0]) (n := 2) (Nat.le_of_ble_eq_true rfl)
  rw [lg_entry_eq]
  generalize (lg_sl ([.ref (ad 8), .int p0]) ++ List.replicate (2 - (lg_sl ([.ref (ad 8), .int p0])).length) Slot.unset).toArray = ls at hl ⊢
  have hl : lv_has ls 2 [(0, .ref (ad 8)), (1, .int p0)] := hl
  unfold wp_C_X6_hasSpaceFor at h
  refine lv_aload_n hx hb dX6_hasSpaceFor_0 rfl (lv_at hl 0 rfl) ?_
  refine va_get (D := (dC, dI)) (ci := 6) (v := .int tsize) (C := RX6) (T := TX6) (N := 2) hx hb hts hk_1 hown hK hP 8 wA_g8 rfl 1 (by decide) hk_0 (fun _ h9 => h9) rfl dX6_hasSpaceFor_1 ?_
  refine lv_iload_n hx hb dX6_hasSpaceFor_4 rfl (lv_at hl 1 rfl) ?_
  refine lv_iadd hx hb dX6_hasSpaceFor_5 ?_
  refine lv_aload_n hx hb dX6_hasSpaceFor_6 rfl (lv_at hl 0 rfl) ?_
  refine va_get (D := (dC, dI)) (ci := 6) (v := .ref (ad 9)) (C := RX6) (T := TX6) (N := 2) hx hb hts hk_1 hown hK hP 8 wA_g8 rfl 0 (by decide) hk_2 (fun _ h9 => h9) rfl dX6_hasSpaceFor_7 ?_
  refine va_alen hx hb hK hP 9 0 wA_g9 rfl (v := 400) rfl dX6_hasSpaceFor_10 ?_
  refine lv_icmp_gt (tgt := 18) hx hb dX6_hasSpaceFor_11 (by decide) (fun c_1 => ?_) (fun c_1 => ?_)
  · have h := h.1 c_1
    refine lv_iconst (v := 0) hx hb dX6_hasSpaceFor_18 (by decide) ?_
    exact W.zret (v := 0) (ty := .boolean) hx hb hr (z01 h.1) (fun t ht hW => ⟨⟨0, (), rfl, h.2, kB_mk hP hK hD ht hW.alike⟩, hS.F ht⟩) hS.2.2 dX6_hasSpaceFor_19
  · have h := h.2 c_1
    refine lv_iconst (v := 1) hx hb dX6_hasSpaceFor_14 (by decide) ?_
    refine lv_goto (tgt := 19) hx hb dX6_hasSpaceFor_15 (by decide) ?_
    exact W.zret (v := 1) (ty := .boolean) hx hb hr (z01 h.1) (fun t ht hW => ⟨⟨1, (), rfl, h.2, kB_mk hP hK hD ht hW.alike⟩, hS.F ht⟩) hS.2.2 dX6_hasSpaceFor_19
def bk_C_X6_append_49   (Q : Int32 → (Nat → Int32) → Prop) (K3 : Int32 → (Nat → Int32) → Int32 → Int32 → Prop) (tsize : Int32) (bytes : Nat → Int32) (v1 : Int32) (v2 : Int32) : Prop := K3 tsize bytes v1 (v2 + (-8))
def lp_C_X6_append_3   (Q : Int32 → (Nat → Int32) → Prop) : Nat → Int32 → (Nat → Int32) → Int32 → Int32 → Prop
  | 0 => fun _ _ _ _ => False
  | n + 1 => fun tsize bytes v1 v2 => ((v2 < 0 → Q tsize bytes) ∧ (¬ (v2 < 0) → ((tsize < 0 → bk_C_X6_append_49 Q (lp_C_X6_append_3 Q n) tsize bytes v1 v2) ∧ (¬ (tsize < 0) → ((400 ≤ tsize → bk_C_X6_append_49 Q (lp_C_X6_append_3 Q n) tsize bytes v1 v2) ∧ (¬ (400 ≤ tsize) → (vp_in tsize 400 ∧ bk_C_X6_append_49 Q (lp_C_X6_append_3 Q n) (tsize + 1) (upd bytes tsize.toNatClampNeg (vp_nar .byte ((v1 >>> (v2 &&& 31)).toInt8.toInt32))) v1 v2)))))))
def wp_C_X6_append (Q : Int32 → (Nat → Int32) → Prop) (tsize : Int32) (bytes : Nat → Int32) (p0 : Int32) : Prop := (∃ n_5, lp_C_X6_append_3 Q n_5 tsize bytes p0 24)
def rm_C_X6_append : Room := { frames := 0, cells := 0, slots := 0, locals := 0 }
abbrev pq_C_X6_append (dC : Nat → ClassId) (dI : Nat → Nat → Nat) (ad : Nat → Nat) (cB cI cZ cL : ClassId) (A : Nat → Prop) (LP : List Nat) (today legCount : Int32) (legs hung : Nat → Option Nat) (warmth damp wopen : Nat → Int32) (tsize : Int32) (bytes : Nat → Int32) (rat rtold rwrong : Int32) (numbers asked : Nat → Int32) (ftold : Int32) (ffarm ffrom fwhat fon : Nat → Int32) (csize ctotal : Int32) (offered : Nat → Option Nat) (cws cwa g_number g_farm g_pig g_first g_begun g_weight g_salted g_heat g_place g_target g_feedAsked g_sealed g_bad g_sold : Nat → Int32) (Q : Int32 → (Nat → Int32) → Prop) : Array Value → State → Outcome → State → Prop := va_Qv (fun u : Int32 × (Nat → Int32) => Q u.1 u.2) (fun u t => kB dC dI A (wA ad cB cI cZ cL LP today legCount legs hung warmth damp wopen u.1 u.2 rat rtold rwrong numbers asked ftold ffarm ffrom fwhat fon csize ctotal offered cws cwa g_number g_farm g_pig g_first g_begun g_weight g_salted g_heat g_place g_target g_feedAsked g_sealed g_bad g_sold) (kTy cB cI cZ cL) t) A
set_option maxHeartbeats 4000000 in
set_option maxRecDepth 100000 in
theorem c_C_X6_append (l : Launch) (dC : Nat → ClassId) (dI : Nat → Nat → Nat) (ad : Nat → Nat) (cB cI cZ cL : ClassId) (A : Nat → Prop) (LP : List Nat) (today legCount : Int32) (legs hung : Nat → Option Nat) (warmth damp wopen : Nat → Int32) (tsize : Int32) (bytes : Nat → Int32) (rat rtold rwrong : Int32) (numbers asked : Nat → Int32) (ftold : Int32) (ffarm ffrom fwhat fon : Nat → Int32) (csize ctotal : Int32) (offered : Nat → Option Nat) (cws cwa g_number g_farm g_pig g_first g_begun g_weight g_salted g_heat g_place g_target g_feedAsked g_sealed g_bad g_sold : Nat → Int32) (p0 : Int32)  (Q : Int32 → (Nat → Int32) → Prop) (h : wp_C_X6_append Q tsize bytes p0) : Met l yX6_append wsX6_append rm_C_X6_append (va_Pc [.ref (ad 8), .int p0] (kC dC dI ad A (wA ad cB cI cZ cL LP today legCount legs hung warmth damp wopen tsize bytes rat rtold rwrong numbers asked ftold ffarm ffrom fwhat fon csize ctotal offered cws cwa g_number g_farm g_pig g_first g_begun g_weight g_salted g_heat g_place g_target g_feedAsked g_sealed g_bad g_sold) (kTy cB cI cZ cL))) (pq_C_X6_append dC dI ad cB cI cZ cL A LP today legCount legs hung warmth damp wopen tsize bytes rat rtold rwrong numbers asked ftold ffarm ffrom fwhat fon csize ctotal offered cws cwa g_number g_farm g_pig g_first g_begun g_weight g_salted g_heat g_place g_target g_feedAsked g_sealed g_bad g_sold Q) 0 0 A := by
  refine Met.ofW (cc := cX6_append) (maxL := 3) (ret := none) (by decide) rfl ?_
  intro p e s m args below meth c s₁ B hml hv
  obtain ⟨rfl, hA, hP, hK, hD, hE⟩ := hv
  have hx := B.exec
  have hb := B.bytes
  have hr := B.returns
  have hts := atoms_spec (ws := wsX6_append) B.pre
  have hown : s.vm.findClass RX6 = some m.cls := findClass_of_methodNamed B.named
  have hlocks := B.notSynchronized
  have hS : va_S A s.heap s.heap [] := va_S.rf
  have hk_0 := hts (.fieldLink RX6 15 "HamCellar$Tape" "size" "I") (by decide +kernel)
  have hk_1 : ∀ w ∈ wsX60, w ∈ wsX6_append := by decide +kernel
  have hk_2 := hts (.fieldLink RX6 9 "HamCellar$Tape" "bytes" "[B") (by decide +kernel)
  have hbk_C_X6_append_49 : ∀ (K3 : Int32 → (Nat → Int32) → Int32 → Int32 → Prop) (hK3 : ∀ (tsize : Int32) (bytes : Nat → Int32) (v1 : Int32) (v2 : Int32) (H : Heap) (locs : List Loc) (ls : Array Slot), va_P (dC, dI) vwCl (wA ad cB cI cZ cL LP today legCount legs hung warmth damp wopen tsize bytes rat rtold rwrong numbers asked ftold ffarm ffrom fwhat fon csize ctotal offered cws cwa g_number g_farm g_pig g_first g_begun g_weight g_salted g_heat g_place g_target g_feedAsked g_sealed g_bad g_sold) H → va_D A (wA ad cB cI cZ cL LP today legCount legs hung warmth damp wopen tsize bytes rat rtold rwrong numbers asked ftold ffarm ffrom fwhat fon csize ctotal offered cws cwa g_number g_farm g_pig g_first g_begun g_weight g_salted g_heat g_place g_target g_feedAsked g_sealed g_bad g_sold) → va_S A s.heap H locs → lv_has ls 3 [(0, .ref (ad 8)), (1, .int v1), (2, .int v2)] → K3 tsize bytes v1 v2 → W p l e (headSpec wsX6_append rm_C_X6_append).room s m ([.ref (ad 8), .int p0] : List Value).toArray below meth c H locs 0 0 (MQ below (pq_C_X6_append dC dI ad cB cI cZ cL A LP today legCount legs hung warmth damp wopen tsize bytes rat rtold rwrong numbers asked ftold ffarm ffrom fwhat fon csize ctotal offered cws cwa g_number g_farm g_pig g_first g_begun g_weight g_salted g_heat g_place g_target g_feedAsked g_sealed g_bad g_sold Q) ([.ref (ad 8), .int p0] : List Value).toArray s 0 0 A) (F0 m 3 ls [])) (tsize : Int32) (bytes : Nat → Int32) (v1 : Int32) (v2 : Int32) (H : Heap) (locs : List Loc) (ls : Array Slot), va_P (dC, dI) vwCl (wA ad cB cI cZ cL LP today legCount legs hung warmth damp wopen tsize bytes rat rtold rwrong numbers asked ftold ffarm ffrom fwhat fon csize ctotal offered cws cwa g_number g_farm g_pig g_first g_begun g_weight g_salted g_heat g_place g_target g_feedAsked g_sealed g_bad g_sold) H → va_D A (wA ad cB cI cZ cL LP today legCount legs hung warmth damp wopen tsize bytes rat rtold rwrong numbers asked ftold ffarm ffrom fwhat fon csize ctotal offered cws cwa g_number g_farm g_pig g_first g_begun g_weight g_salted g_heat g_place g_target g_feedAsked g_sealed g_bad g_sold) → va_S A s.heap H locs → lv_has ls 3 [(0, .ref (ad 8)), (1, .int v1), (2, .int v2)] → bk_C_X6_append_49 Q K3 tsize bytes v1 v2 → W p l e (headSpec wsX6_append rm_C_X6_append).room s m ([.ref (ad 8), .int p0] : List Value).toArray below meth c H locs 0 0 (MQ below (pq_C_X6_append dC dI ad cB cI cZ cL A LP today legCount legs hung warmth damp wopen tsize bytes rat rtold rwrong numbers asked ftold ffarm ffrom fwhat fon csize ctotal offered cws cwa g_number g_farm g_pig g_first g_begun g_weight g_salted g_heat g_place g_target g_feedAsked g_sealed g_bad g_sold Q) ([.ref (ad 8), .int p0] : List Value).toArray s 0 0 A) (F0 m 49 ls []) := by
    intro K3 hK3 tsize bytes v1 v2 H locs ls hP hD hS hl h
    refine lv_iinc (v := v2 + (-8)) (lv' := [(2, .int (v2 + (-8))), (0, .ref (ad 8)), (1, .int v1)]) hx hb dX6_append_49 hl (k := 2) rfl rfl (by decide) rfl (fun ls hl => ?_)
    refine lv_goto (tgt := 3) hx hb dX6_append_52 (by decide) ?_
    exact hK3 tsize bytes v1 (v2 + (-8)) _ _ _ hP hD hS (lv_sub hl [1, 2, 0] rfl) h
  have hlp_C_X6_append_3 : ∀ (n : Nat) (tsize : Int32) (bytes : Nat → Int32) (v1 : Int32) (v2 : Int32) (H : Heap) (locs : List Loc) (ls : Array Slot), va_P (dC, dI) vwCl (wA ad cB cI cZ cL LP today legCount legs hung warmth damp wopen tsize bytes rat rtold rwrong numbers asked ftold ffarm ffrom fwhat fon csize ctotal offered cws cwa g_number g_farm g_pig g_first g_begun g_weight g_salted g_heat g_place g_target g_feedAsked g_sealed g_bad g_sold) H → va_D A (wA ad cB cI cZ cL LP today legCount legs hung warmth damp wopen tsize bytes rat rtold rwrong numbers asked ftold ffarm ffrom fwhat fon csize ctotal offered cws cwa g_number g_farm g_pig g_first g_begun g_weight g_salted g_heat g_place g_target g_feedAsked g_sealed g_bad g_sold) → va_S A s.heap H locs → lv_has ls 3 [(0, .ref (ad 8)), (1, .int v1), (2, .int v2)] → lp_C_X6_append_3 Q n tsize bytes v1 v2 → W p l e (headSpec wsX6_append rm_C_X6_append).room s m ([.ref (ad 8), .int p0] : List Value).toArray below meth c H locs 0 0 (MQ below (pq_C_X6_append dC dI ad cB cI cZ cL A LP today legCount legs hung warmth damp wopen tsize bytes rat rtold rwrong numbers asked ftold ffarm ffrom fwhat fon csize ctotal offered cws cwa g_number g_farm g_pig g_first g_begun g_weight g_salted g_heat g_place g_target g_feedAsked g_sealed g_bad g_sold Q) ([.ref (ad 8), .int p0] : List Value).toArray s 0 0 A) (F0 m 3 ls []) := by
    intro n
    induction n with
    | zero => intro tsize bytes v1 v2 H locs ls hP hD hS hl h; exact h.elim
    | succ n ih =>
      intro tsize bytes v1 v2 H locs ls hP hD hS hl h
      refine lv_iload_n hx hb dX6_append_3 rfl (lv_at hl 2 rfl) ?_
      refine lv_if_lt (tgt := 55) hx hb dX6_append_4 (by decide) (fun c_1 => ?_) (fun c_1 => ?_)
      · have h := h.1 c_1
        exact W.vret hx hb hr (fun t ht hW => ⟨⟨(tsize, bytes), rfl, h, kB_mk hP hK hD ht hW.alike⟩, hS.F ht⟩) hS.2.2 dX6_append_55
      · have h := h.2 c_1
        refine lv_aload_n hx hb dX6_append_7 rfl (lv_at hl 0 rfl) ?_
        refine va_get (D := (dC, dI)) (ci := 6) (v := .int tsize) (C := RX6) (T := TX6) (N := 2) hx hb hts hk_1 hown hK hP 8 wA_g8 rfl 1 (by decide) hk_0 (fun _ h9 => h9) rfl dX6_append_8 ?_
        refine lv_if_lt (tgt := 49) hx hb dX6_append_11 (by decide) (fun c_2 => ?_) (fun c_2 => ?_)
        · have h := h.1 c_2
          exact hbk_C_X6_append_49 (lp_C_X6_append_3 Q n) ih tsize bytes v1 v2 _ _ _ hP hD hS (lv_sub hl [0, 1, 2] rfl) h
        · have h := h.2 c_2
          refine lv_aload_n hx hb dX6_append_14 rfl (lv_at hl 0 rfl) ?_
          refine va_get (D := (dC, dI)) (ci := 6) (v := .int tsize) (C := RX6) (T := TX6) (N := 2) hx hb hts hk_1 hown hK hP 8 wA_g8 rfl 1 (by decide) hk_0 (fun _ h9 => h9) rfl dX6_append_15 ?_
          refine lv_aload_n hx hb dX6_append_18 rfl (lv_at hl 0 rfl) ?_
          refine va_get (D := (dC, dI)) (ci := 6) (v := .ref (ad 9)) (C := RX6) (T := TX6) (N := 2) hx hb hts hk_1 hown hK hP 8 wA_g8 rfl 0 (by decide) hk_2 (fun _ h9 => h9) rfl dX6_append_19 ?_
          refine va_alen hx hb hK hP 9 0 wA_g9 rfl (v := 400) rfl dX6_append_22 ?_
          refine lv_icmp_ge (tgt := 49) hx hb dX6_append_23 (by decide) (fun c_3 => ?_) (fun c_3 => ?_)
          · have h := h.1 c_3
            exact hbk_C_X6_append_49 (lp_C_X6_append_3 Q n) ih tsize bytes v1 v2 _ _ _ hP hD hS (lv_sub hl [0, 1, 2] rfl) h
          · have h := h.2 c_3
            refine lv_aload_n hx hb dX6_append_26 rfl (lv_at hl 0 rfl) ?_
            refine va_get (D := (dC, dI)) (ci := 6) (v := .ref (ad 9)) (C := RX6) (T := TX6) (N := 2) hx hb hts hk_1 hown hK hP 8 wA_g8 rfl 0 (by decide) hk_2 (fun _ h9 => h9) rfl dX6_append_27 ?_
            refine lv_aload_n hx hb dX6_append_30 rfl (lv_at hl 0 rfl) ?_
            refine va_get (D := (dC, dI)) (ci := 6) (v := .int tsize) (C := RX6) (T := TX6) (N := 2) hx hb hts hk_1 hown hK hP 8 wA_g8 rfl 1 (by decide) hk_0 (fun _ h9 => h9) rfl dX6_append_31 ?_
            refine lv_iload_n hx hb dX6_append_34 rfl (lv_at hl 1 rfl) ?_
            refine lv_iload_n hx hb dX6_append_35 rfl (lv_at hl 2 rfl) ?_
            refine lv_ishr hx hb dX6_append_36 ?_
            refine lv_i2b (v := (v1 >>> (v2 &&& 31)).toInt8.toInt32) hx hb dX6_append_37 rfl ?_
            have hi_4 := h.1
            have h := h.2
            refine va_bast hx hb hK hP hD hS 9 0 wA_g9 rfl hi_4 dX6_append_38 (fun H locs hP2 hD2 hS => ?_)
            have hP : va_P (dC, dI) vwCl (wA ad cB cI cZ cL LP today legCount legs hung warmth damp wopen tsize (upd bytes tsize.toNatClampNeg (vp_nar .byte ((v1 >>> (v2 &&& 31)).toInt8.toInt32))) rat rtold rwrong numbers asked ftold ffarm ffrom fwhat fon csize ctotal offered cws cwa g_number g_farm g_pig g_first g_begun g_weight g_salted g_heat g_place g_target g_feedAsked g_sealed g_bad g_sold) H := hP_eq (wA_p_bytes) hP2
            have hD : va_D A (wA ad cB cI cZ cL LP today legCount legs hung warmth damp wopen tsize (upd bytes tsize.toNatClampNeg (vp_nar .byte ((v1 >>> (v2 &&& 31)).toInt8.toInt32))) rat rtold rwrong numbers asked ftold ffarm ffrom fwhat fon csize ctotal offered cws cwa g_number g_farm g_pig g_first g_begun g_weight g_salted g_heat g_place g_target g_feedAsked g_sealed g_bad g_sold) := hD_eq (wA_p_bytes) hD2
            refine lv_aload_n hx hb dX6_append_39 rfl (lv_at hl 0 rfl) ?_
            refine lv_dup hx hb dX6_append_40 rfl ?_
            refine va_get (D := (dC, dI)) (ci := 6) (v := .int tsize) (C := RX6) (T := TX6) (N := 2) hx hb hts hk_1 hown hK hP 8 wA_g8 rfl 1 (by decide) hk_0 (fun _ h9 => h9) rfl dX6_append_41 ?_
            refine lv_iconst (v := 1) hx hb dX6_append_44 (by decide) ?_
            refine lv_iadd hx hb dX6_append_45 ?_
            refine va_put (D := (dC, dI)) (ci := 6) (v := .int (tsize + 1)) (ty := .int) (C := RX6) (T := TX6) (N := 2) hx hb hts hk_1 tyX6 tyX6_ok nmX6 hown hK hP hD hS 8 wA_g8 rfl 1 (by decide) hk_0 (fun _ h9 => h9) rfl (by decide +kernel) rfl rfl (Nat.le_of_ble_eq_true rfl) dX6_append_46 (fun H locs hP2 hD2 hS => ?_)
            have hP : va_P (dC, dI) vwCl (wA ad cB cI cZ cL LP today legCount legs hung warmth damp wopen (tsize + 1) (upd bytes tsize.toNatClampNeg (vp_nar .byte ((v1 >>> (v2 &&& 31)).toInt8.toInt32))) rat rtold rwrong numbers asked ftold ffarm ffrom fwhat fon csize ctotal offered cws cwa g_number g_farm g_pig g_first g_begun g_weight g_salted g_heat g_place g_target g_feedAsked g_sealed g_bad g_sold) H := hP_eq (wA_p_tsize) hP2
            have hD : va_D A (wA ad cB cI cZ cL LP today legCount legs hung warmth damp wopen (tsize + 1) (upd bytes tsize.toNatClampNeg (vp_nar .byte ((v1 >>> (v2 &&& 31)).toInt8.toInt32))) rat rtold rwrong numbers asked ftold ffarm ffrom fwhat fon csize ctotal offered cws cwa g_number g_farm g_pig g_first g_begun g_weight g_salted g_heat g_place g_target g_feedAsked g_sealed g_bad g_sold) := hD_eq (wA_p_tsize) hD2
            exact hbk_C_X6_append_49 (lp_C_X6_append_3 Q n) ih (tsize + 1) (upd bytes tsize.toNatClampNeg (vp_nar .byte ((v1 >>> (v2 &&& 31)).toInt8.toInt32))) v1 v2 _ _ _ hP hD hS (lv_sub hl [0, 1, 2] rfl) h
  have hl := lv_entry ([.ref (ad 8), .int p0]) (n := 3) (Nat.le_of_ble_eq_true rfl)
  rw [lg_entry_eq]
  generalize (lg_sl ([.ref (ad 8), .int p0]) ++ List.replicate (3 - (lg_sl ([.ref (ad 8), .int p0])).length) Slot.unset).toArray = ls at hl ⊢
  have hl : lv_has ls 3 [(0, .ref (ad 8)), (1, .int p0)] := hl
  unfold wp_C_X6_append at h
  refine lv_bipush (v := 24) hx hb dX6_append_0 (by decide) ?_
  refine lv_istore_n (lv' := [(2, .int 24), (0, .ref (ad 8)), (1, .int p0)]) hx hb dX6_append_2 rfl hl (by decide) rfl (fun ls hl => ?_)
  obtain ⟨n_5, h⟩ := h
  exact hlp_C_X6_append_3 n_5 tsize bytes p0 24 _ _ _ hP hD hS (lv_sub hl [1, 2, 0] rfl) h
def wp_C_X6_cutTo (Q : Int32 → Int32 → Prop) (tsize : Int32) (p0 : Int32) : Prop := ((p0 < 0 → (o01 0 ∧ Q 0 tsize)) ∧ (¬ (p0 < 0) → ((p0 ≤ tsize → (o01 1 ∧ Q 1 p0)) ∧ (¬ (p0 ≤ tsize) → (o01 0 ∧ Q 0 tsize)))))
def rm_C_X6_cutTo : Room := { frames := 0, cells := 0, slots := 0, locals := 0 }
abbrev pq_C_X6_cutTo (dC : Nat → ClassId) (dI : Nat → Nat → Nat) (ad : Nat → Nat) (cB cI cZ cL : ClassId) (A : Nat → Prop) (LP : List Nat) (today legCount : Int32) (legs hung : Nat → Option Nat) (warmth damp wopen : Nat → Int32) (tsize : Int32) (bytes : Nat → Int32) (rat rtold rwrong : Int32) (numbers asked : Nat → Int32) (ftold : Int32) (ffarm ffrom fwhat fon : Nat → Int32) (csize ctotal : Int32) (offered : Nat → Option Nat) (cws cwa g_number g_farm g_pig g_first g_begun g_weight g_salted g_heat g_place g_target g_feedAsked g_sealed g_bad g_sold : Nat → Int32) (Q : Int32 → Int32 → Prop) : Array Value → State → Outcome → State → Prop := va_Qi (fun (r : Int32) (u : Int32) => Q r u) (fun u t => kB dC dI A (wA ad cB cI cZ cL LP today legCount legs hung warmth damp wopen u bytes rat rtold rwrong numbers asked ftold ffarm ffrom fwhat fon csize ctotal offered cws cwa g_number g_farm g_pig g_first g_begun g_weight g_salted g_heat g_place g_target g_feedAsked g_sealed g_bad g_sold) (kTy cB cI cZ cL) t) A
set_option maxHeartbeats 4000000 in
set_option maxRecDepth 100000 in
theorem c_C_X6_cutTo (l : Launch) (dC : Nat → ClassId) (dI : Nat → Nat → Nat) (ad : Nat → Nat) (cB cI cZ cL : ClassId) (A : Nat → Prop) (LP : List Nat) (today legCount : Int32) (legs hung : Nat → Option Nat) (warmth damp wopen : Nat → Int32) (tsize : Int32) (bytes : Nat → Int32) (rat rtold rwrong : Int32) (numbers asked : Nat → Int32) (ftold : Int32) (ffarm ffrom fwhat fon : Nat → Int32) (csize ctotal : Int32) (offered : Nat → Option Nat) (cws cwa g_number g_farm g_pig g_first g_begun g_weight g_salted g_heat g_place g_target g_feedAsked g_sealed g_bad g_sold : Nat → Int32) (p0 : Int32)  (Q : Int32 → Int32 → Prop) (h : wp_C_X6_cutTo Q tsize p0) : Met l yX6_cutTo wsX6_cutTo rm_C_X6_cutTo (va_Pc [.ref (ad 8), .int p0] (kC dC dI ad A (wA ad cB cI cZ cL LP today legCount legs hung warmth damp wopen tsize bytes rat rtold rwrong numbers asked ftold ffarm ffrom fwhat fon csize ctotal offered cws cwa g_number g_farm g_pig g_first g_begun g_weight g_salted g_heat g_place g_target g_feedAsked g_sealed g_bad g_sold) (kTy cB cI cZ cL))) (pq_C_X6_cutTo dC dI ad cB cI cZ cL A LP today legCount legs hung warmth damp wopen tsize bytes rat rtold rwrong numbers asked ftold ffarm ffrom fwhat fon csize ctotal offered cws cwa g_number g_farm g_pig g_first g_begun g_weight g_salted g_heat g_place g_target g_feedAsked g_sealed g_bad g_sold Q) 0 0 A := by
  refine Met.ofW (cc := cX6_cutTo) (maxL := 2) (ret := (some .boolean)) (by decide) rfl ?_
  intro p e s m args below meth c s₁ B hml hv
  obtain ⟨rfl, hA, hP, hK, hD, hE⟩ := hv
  have hx := B.exec
  have hb := B.bytes
  have hr := B.returns
  have hts := atoms_spec (ws := wsX6_cutTo) B.pre
  have hown : s.vm.findClass RX6 = some m.cls := findClass_of_methodNamed B.named
  have hlocks := B.notSynchronized
  have hS : va_S A s.heap s.heap [] := va_S.rf
  have hk_0 := hts (.fieldLink RX6 15 "HamCellar$Tape" "size" "I") (by decide +kernel)
  have hk_1 : ∀ w ∈ wsX60, w ∈ wsX6_cutTo := by decide +kernel
  have hl := lv_entry ([.ref (ad 8), .int p0]) (n := 2) (Nat.le_of_ble_eq_true rfl)
  rw [lg_entry_eq]
  generalize (lg_sl ([.ref (ad 8), .int p0]) ++ List.replicate (2 - (lg_sl ([.ref (ad 8), .int p0])).length) Slot.unset).toArray = ls at hl ⊢
  have hl : lv_has ls 2 [(0, .ref (ad 8)), (1, .int p0)] := hl
  unfold wp_C_X6_cutTo at h
  refine lv_iload_n hx hb dX6_cutTo_0 rfl (lv_at hl 1 rfl) ?_
  refine lv_if_lt (tgt := 12) hx hb dX6_cutTo_1 (by decide) (fun c_1 => ?_) (fun c_1 => ?_)
  · have h := h.1 c_1
    refine lv_iconst (v := 0) hx hb dX6_cutTo_12 (by decide) ?_
    exact W.zret (v := 0) (ty := .boolean) hx hb hr (z01 h.1) (fun t ht hW => ⟨⟨0, (tsize), rfl, h.2, kB_mk hP hK hD ht hW.alike⟩, hS.F ht⟩) hS.2.2 dX6_cutTo_13
  · have h := h.2 c_1
    refine lv_iload_n hx hb dX6_cutTo_4 rfl (lv_at hl 1 rfl) ?_
    refine lv_aload_n hx hb dX6_cutTo_5 rfl (lv_at hl 0 rfl) ?_
    refine va_get (D := (dC, dI)) (ci := 6) (v := .int tsize) (C := RX6) (T := TX6) (N := 2) hx hb hts hk_1 hown hK hP 8 wA_g8 rfl 1 (by decide) hk_0 (fun _ h9 => h9) rfl dX6_cutTo_6 ?_
    refine lv_icmp_le (tgt := 14) hx hb dX6_cutTo_9 (by decide) (fun c_2 => ?_) (fun c_2 => ?_)
    · have h := h.1 c_2
      refine lv_aload_n hx hb dX6_cutTo_14 rfl (lv_at hl 0 rfl) ?_
      refine lv_iload_n hx hb dX6_cutTo_15 rfl (lv_at hl 1 rfl) ?_
      refine va_put (D := (dC, dI)) (ci := 6) (v := .int p0) (ty := .int) (C := RX6) (T := TX6) (N := 2) hx hb hts hk_1 tyX6 tyX6_ok nmX6 hown hK hP hD hS 8 wA_g8 rfl 1 (by decide) hk_0 (fun _ h9 => h9) rfl (by decide +kernel) rfl rfl (Nat.le_of_ble_eq_true rfl) dX6_cutTo_16 (fun H locs hP2 hD2 hS => ?_)
      have hP : va_P (dC, dI) vwCl (wA ad cB cI cZ cL LP today legCount legs hung warmth damp wopen p0 bytes rat rtold rwrong numbers asked ftold ffarm ffrom fwhat fon csize ctotal offered cws cwa g_number g_farm g_pig g_first g_begun g_weight g_salted g_heat g_place g_target g_feedAsked g_sealed g_bad g_sold) H := hP_eq (wA_p_tsize) hP2
      have hD : va_D A (wA ad cB cI cZ cL LP today legCount legs hung warmth damp wopen p0 bytes rat rtold rwrong numbers asked ftold ffarm ffrom fwhat fon csize ctotal offered cws cwa g_number g_farm g_pig g_first g_begun g_weight g_salted g_heat g_place g_target g_feedAsked g_sealed g_bad g_sold) := hD_eq (wA_p_tsize) hD2
      refine lv_iconst (v := 1) hx hb dX6_cutTo_19 (by decide) ?_
      exact W.zret (v := 1) (ty := .boolean) hx hb hr (z01 h.1) (fun t ht hW => ⟨⟨1, (p0), rfl, h.2, kB_mk hP hK hD ht hW.alike⟩, hS.F ht⟩) hS.2.2 dX6_cutTo_20
    · have h := h.2 c_2
      refine lv_iconst (v := 0) hx hb dX6_cutTo_12 (by decide) ?_
      exact W.zret (v := 0) (ty := .boolean) hx hb hr (z01 h.1) (fun t ht hW => ⟨⟨0, (tsize), rfl, h.2, kB_mk hP hK hD ht hW.alike⟩, hS.F ht⟩) hS.2.2 dX6_cutTo_13
def wp_C_X6_clear (Q : Int32 → Prop) (tsize : Int32) : Prop := Q 0
def rm_C_X6_clear : Room := { frames := 0, cells := 0, slots := 0, locals := 0 }
abbrev pq_C_X6_clear (dC : Nat → ClassId) (dI : Nat → Nat → Nat) (ad : Nat → Nat) (cB cI cZ cL : ClassId) (A : Nat → Prop) (LP : List Nat) (today legCount : Int32) (legs hung : Nat → Option Nat) (warmth damp wopen : Nat → Int32) (tsize : Int32) (bytes : Nat → Int32) (rat rtold rwrong : Int32) (numbers asked : Nat → Int32) (ftold : Int32) (ffarm ffrom fwhat fon : Nat → Int32) (csize ctotal : Int32) (offered : Nat → Option Nat) (cws cwa g_number g_farm g_pig g_first g_begun g_weight g_salted g_heat g_place g_target g_feedAsked g_sealed g_bad g_sold : Nat → Int32) (Q : Int32 → Prop) : Array Value → State → Outcome → State → Prop := va_Qv (fun u : Int32 => Q u) (fun u t => kB dC dI A (wA ad cB cI cZ cL LP today legCount legs hung warmth damp wopen u bytes rat rtold rwrong numbers asked ftold ffarm ffrom fwhat fon csize ctotal offered cws cwa g_number g_farm g_pig g_first g_begun g_weight g_salted g_heat g_place g_target g_feedAsked g_sealed g_bad g_sold) (kTy cB cI cZ cL) t) A
set_option maxHeartbeats 4000000 in
set_option maxRecDepth 100000 in
theorem c_C_X6_clear (l : Launch) (dC : Nat → ClassId) (dI : Nat → Nat → Nat) (ad : Nat → Nat) (cB cI cZ cL : ClassId) (A : Nat → Prop) (LP : List Nat) (today legCount : Int32) (legs hung : Nat → Option Nat) (warmth damp wopen : Nat → Int32) (tsize : Int32) (bytes : Nat → Int32) (rat rtold rwrong : Int32) (numbers asked : Nat → Int32) (ftold : Int32) (ffarm ffrom fwhat fon : Nat → Int32) (csize ctotal : Int32) (offered : Nat → Option Nat) (cws cwa g_number g_farm g_pig g_first g_begun g_weight g_salted g_heat g_place g_target g_feedAsked g_sealed g_bad g_sold : Nat → Int32)   (Q : Int32 → Prop) (h : wp_C_X6_clear Q tsize) : Met l yX6_clear wsX6_clear rm_C_X6_clear (va_Pc [.ref (ad 8)] (kC dC dI ad A (wA ad cB cI cZ cL LP today legCount legs hung warmth damp wopen tsize bytes rat rtold rwrong numbers asked ftold ffarm ffrom fwhat fon csize ctotal offered cws cwa g_number g_farm g_pig g_first g_begun g_weight g_salted g_heat g_place g_target g_feedAsked g_sealed g_bad g_sold) (kTy cB cI cZ cL))) (pq_C_X6_clear dC dI ad cB cI cZ cL A LP today legCount legs hung warmth damp wopen tsize bytes rat rtold rwrong numbers asked ftold ffarm ffrom fwhat fon csize ctotal offered cws cwa g_number g_farm g_pig g_first g_begun g_weight g_salted g_heat g_place g_target g_feedAsked g_sealed g_bad g_sold Q) 0 0 A := by
  refine Met.ofW (cc := cX6_clear) (maxL := 1) (ret := none) (by decide) rfl ?_
  intro p e s m args below meth c s₁ B hml hv
  obtain ⟨rfl, hA, hP, hK, hD, hE⟩ := hv
  have hx := B.exec
  have hb := B.bytes
  have hr := B.returns
  have hts := atoms_spec (ws := wsX6_clear) B.pre
  have hown : s.vm.findClass RX6 = some m.cls := findClass_of_methodNamed B.named
  have hlocks := B.notSynchronized
  have hS : va_S A s.heap s.heap [] := va_S.rf
  have hk_0 := hts (.fieldLink RX6 15 "HamCellar$Tape" "size" "I") (by decide +kernel)
  have hk_1 : ∀ w ∈ wsX60, w ∈ wsX6_clear := by decide +kernel
  have hl := lv_entry ([.ref (ad 8)]) (n := 1) (Nat.le_of_ble_eq_true rfl)
  rw [lg_entry_eq]
  generalize (lg_sl ([.ref (ad 8)]) ++ List.replicate (1 - (lg_sl ([.ref (ad 8)])).length) Slot.unset).toArray = ls at hl ⊢
  have hl : lv_has ls 1 [(0, .ref (ad 8))] := hl
  unfold wp_C_X6_clear at h
  refine lv_aload_n hx hb dX6_clear_0 rfl (lv_at hl 0 rfl) ?_
  refine lv_iconst (v := 0) hx hb dX6_clear_1 (by decide) ?_
  refine va_put (D := (dC, dI)) (ci := 6) (v := .int 0) (ty := .int) (C := RX6) (T := TX6) (N := 2) hx hb hts hk_1 tyX6 tyX6_ok nmX6 hown hK hP hD hS 8 wA_g8 rfl 1 (by decide) hk_0 (fun _ h9 => h9) rfl (by decide +kernel) rfl rfl (Nat.le_of_ble_eq_true rfl) dX6_clear_2 (fun H locs hP2 hD2 hS => ?_)
  have hP : va_P (dC, dI) vwCl (wA ad cB cI cZ cL LP today legCount legs hung warmth damp wopen 0 bytes rat rtold rwrong numbers asked ftold ffarm ffrom fwhat fon csize ctotal offered cws cwa g_number g_farm g_pig g_first g_begun g_weight g_salted g_heat g_place g_target g_feedAsked g_sealed g_bad g_sold) H := hP_eq (wA_p_tsize) hP2
  have hD : va_D A (wA ad cB cI cZ cL LP today legCount legs hung warmth damp wopen 0 bytes rat rtold rwrong numbers asked ftold ffarm ffrom fwhat fon csize ctotal offered cws cwa g_number g_farm g_pig g_first g_begun g_weight g_salted g_heat g_place g_target g_feedAsked g_sealed g_bad g_sold) := hD_eq (wA_p_tsize) hD2
  exact W.vret hx hb hr (fun t ht hW => ⟨⟨(0), rfl, h, kB_mk hP hK hD ht hW.alike⟩, hS.F ht⟩) hS.2.2 dX6_clear_5
def wp_C_X7_oneIf (Q : Int32 → Prop) (p0 : Int32) : Prop := ((p0 = 0 → Q 0) ∧ (¬ (p0 = 0) → Q 1))
def rm_C_X7_oneIf : Room := { frames := 0, cells := 0, slots := 0, locals := 0 }
abbrev pq_C_X7_oneIf (dC : Nat → ClassId) (dI : Nat → Nat → Nat) (ad : Nat → Nat) (cB cI cZ cL : ClassId) (A : Nat → Prop) (LP : List Nat) (today legCount : Int32) (legs hung : Nat → Option Nat) (warmth damp wopen : Nat → Int32) (tsize : Int32) (bytes : Nat → Int32) (rat rtold rwrong : Int32) (numbers asked : Nat → Int32) (ftold : Int32) (ffarm ffrom fwhat fon : Nat → Int32) (csize ctotal : Int32) (offered : Nat → Option Nat) (cws cwa g_number g_farm g_pig g_first g_begun g_weight g_salted g_heat g_place g_target g_feedAsked g_sealed g_bad g_sold : Nat → Int32) (Q : Int32 → Prop) : Array Value → State → Outcome → State → Prop := va_Qi (fun (r : Int32) (u : Unit) => Q r ) (fun u t => kB dC dI A (wA ad cB cI cZ cL LP today legCount legs hung warmth damp wopen tsize bytes rat rtold rwrong numbers asked ftold ffarm ffrom fwhat fon csize ctotal offered cws cwa g_number g_farm g_pig g_first g_begun g_weight g_salted g_heat g_place g_target g_feedAsked g_sealed g_bad g_sold) (kTy cB cI cZ cL) t) A
set_option maxHeartbeats 4000000 in
set_option maxRecDepth 100000 in
theorem c_C_X7_oneIf (l : Launch) (dC : Nat → ClassId) (dI : Nat → Nat → Nat) (ad : Nat → Nat) (cB cI cZ cL : ClassId) (A : Nat → Prop) (LP : List Nat) (today legCount : Int32) (legs hung : Nat → Option Nat) (warmth damp wopen : Nat → Int32) (tsize : Int32) (bytes : Nat → Int32) (rat rtold rwrong : Int32) (numbers asked : Nat → Int32) (ftold : Int32) (ffarm ffrom fwhat fon : Nat → Int32) (csize ctotal : Int32) (offered : Nat → Option Nat) (cws cwa g_number g_farm g_pig g_first g_begun g_weight g_salted g_heat g_place g_target g_feedAsked g_sealed g_bad g_sold : Nat → Int32) (p0 : Int32)  (Q : Int32 → Prop) (h : wp_C_X7_oneIf Q p0) : Met l yX7_oneIf wsX7_oneIf rm_C_X7_oneIf (va_Pc [.int p0] (kC dC dI ad A (wA ad cB cI cZ cL LP today legCount legs hung warmth damp wopen tsize bytes rat rtold rwrong numbers asked ftold ffarm ffrom fwhat fon csize ctotal offered cws cwa g_number g_farm g_pig g_first g_begun g_weight g_salted g_heat g_place g_target g_feedAsked g_sealed g_bad g_sold) (kTy cB cI cZ cL))) (pq_C_X7_oneIf dC dI ad cB cI cZ cL A LP today legCount legs hung warmth damp wopen tsize bytes rat rtold rwrong numbers asked ftold ffarm ffrom fwhat fon csize ctotal offered cws cwa g_number g_farm g_pig g_first g_begun g_weight g_salted g_heat g_place g_target g_feedAsked g_sealed g_bad g_sold Q) 0 0 A := by
  refine Met.ofW (cc := cX7_oneIf) (maxL := 1) (ret := (some .int)) (by decide) rfl ?_
  intro p e s m args below meth c s₁ B hml hv
  obtain ⟨rfl, hA, hP, hK, hD, hE⟩ := hv
  have hx := B.exec
  have hb := B.bytes
  have hr := B.returns
  have hts := atoms_spec (ws := wsX7_oneIf) B.pre
  have hown : s.vm.findClass RX7 = some m.cls := findClass_of_methodNamed B.named
  have hlocks := B.notSynchronized
  have hS : va_S A s.heap s.heap [] := va_S.rf
  have hl := lv_entry ([.int p0]) (n := 1) (Nat.le_of_ble_eq_true rfl)
  rw [lg_entry_eq]
  generalize (lg_sl ([.int p0]) ++ List.replicate (1 - (lg_sl ([.int p0])).length) Slot.unset).toArray = ls at hl ⊢
  have hl : lv_has ls 1 [(0, .int p0)] := hl
  unfold wp_C_X7_oneIf at h
  refine lv_iload_n hx hb dX7_oneIf_0 rfl (lv_at hl 0 rfl) ?_
  refine lv_if_eq (tgt := 8) hx hb dX7_oneIf_1 (by decide) (fun c_1 => ?_) (fun c_1 => ?_)
  · have h := h.1 c_1
    refine lv_iconst (v := 0) hx hb dX7_oneIf_8 (by decide) ?_
    exact W.iret (v := 0) hx hb hr (fun t ht hW => ⟨⟨0, (), rfl, h, kB_mk hP hK hD ht hW.alike⟩, hS.F ht⟩) hS.2.2 dX7_oneIf_9
  · have h := h.2 c_1
    refine lv_iconst (v := 1) hx hb dX7_oneIf_4 (by decide) ?_
    refine lv_goto (tgt := 9) hx hb dX7_oneIf_5 (by decide) ?_
    exact W.iret (v := 1) hx hb hr (fun t ht hW => ⟨⟨1, (), rfl, h, kB_mk hP hK hD ht hW.alike⟩, hS.F ht⟩) hS.2.2 dX7_oneIf_9
