def wp_C_X7_feed (Q : Int32 → Int32 → (Nat → Int32) → Prop) (tsize : Int32) (bytes : Nat → Int32) (p0 : Int32) (p1 : Int32) (p2 : Int32) (p3 : Int32) (p4 : Int32) : Prop := wp_C_X6_hasSpaceFor tsize (fun r_1 => ((¬ r_1 = 0 → wp_C_X6_append (fun tsize_3 bytes_3 => wp_C_X6_append (fun tsize_4 bytes_4 => wp_C_X6_append (fun tsize_5 bytes_5 => wp_C_X6_append (fun tsize_6 bytes_6 => wp_C_X6_append (fun tsize_7 bytes_7 => wp_C_X6_size tsize_7 (fun r_8 => Q r_8 tsize_7 bytes_7)) tsize_6 bytes_6 p4) tsize_5 bytes_5 p3) tsize_4 bytes_4 p2) tsize_3 bytes_3 p1) tsize bytes p0) ∧ (r_1 = 0 → Q (-1) tsize bytes))) 20
def rm_C_X7_feed : Room := { frames := 1, cells := 0, slots := 0, locals := 22 }
abbrev pq_C_X7_feed (dC : Nat → ClassId) (dI : Nat → Nat → Nat) (ad : Nat → Nat) (cB cI cZ cL : ClassId) (A : Nat → Prop) (LP : List Nat) (today legCount : Int32) (legs hung : Nat → Option Nat) (warmth damp wopen : Nat → Int32) (tsize : Int32) (bytes : Nat → Int32) (rat rtold rwrong : Int32) (numbers asked : Nat → Int32) (ftold : Int32) (ffarm ffrom fwhat fon : Nat → Int32) (csize ctotal : Int32) (offered : Nat → Option Nat) (cws cwa g_number g_farm g_pig g_first g_begun g_weight g_salted g_heat g_place g_target g_feedAsked g_sealed g_bad g_sold : Nat → Int32) (Q : Int32 → Int32 → (Nat → Int32) → Prop) : Array Value → State → Outcome → State → Prop := va_Qi (fun (r : Int32) (u : Int32 × (Nat → Int32)) => Q r u.1 u.2) (fun u t => kB dC dI A (wA ad cB cI cZ cL LP today legCount legs hung warmth damp wopen u.1 u.2 rat rtold rwrong numbers asked ftold ffarm ffrom fwhat fon csize ctotal offered cws cwa g_number g_farm g_pig g_first g_begun g_weight g_salted g_heat g_place g_target g_feedAsked g_sealed g_bad g_sold) (kTy cB cI cZ cL) t) A
set_option maxHeartbeats 4000000 in
set_option maxRecDepth 100000 in
theorem c_C_X7_feed (l : Launch) (dC : Nat → ClassId) (dI : Nat → Nat → Nat) (ad : Nat → Nat) (cB cI cZ cL : ClassId) (A : Nat → Prop) (LP : List Nat) (today legCount : Int32) (legs hung : Nat → Option Nat) (warmth damp wopen : Nat → Int32) (tsize : Int32) (bytes : Nat → Int32) (rat rtold rwrong : Int32) (numbers asked : Nat → Int32) (ftold : Int32) (ffarm ffrom fwhat fon : Nat → Int32) (csize ctotal : Int32) (offered : Nat → Option Nat) (cws cwa g_number g_farm g_pig g_first g_begun g_weight g_salted g_heat g_place g_target g_feedAsked g_sealed g_bad g_sold : Nat → Int32) (p0 : Int32) (p1 : Int32) (p2 : Int32) (p3 : Int32) (p4 : Int32)  (Q : Int32 → Int32 → (Nat → Int32) → Prop) (h : wp_C_X7_feed Q tsize bytes p0 p1 p2 p3 p4) : Met l yX7_feed wsX7_feed rm_C_X7_feed (va_Pc [.ref (ad 0), .int p0, .int p1, .int p2, .int p3, .int p4] (kC dC dI ad A (wA ad cB cI cZ cL LP today legCount legs hung warmth damp wopen tsize bytes rat rtold rwrong numbers asked ftold ffarm ffrom fwhat fon csize ctotal offered cws cwa g_number g_farm g_pig g_first g_begun g_weight g_salted g_heat g_place g_target g_feedAsked g_sealed g_bad g_sold) (kTy cB cI cZ cL))) (pq_C_X7_feed dC dI ad cB cI cZ cL A LP today legCount legs hung warmth damp wopen tsize bytes rat rtold rwrong numbers asked ftold ffarm ffrom fwhat fon csize ctotal offered cws cwa g_number g_farm g_pig g_first g_begun g_weight g_salted g_heat g_place g_target g_feedAsked g_sealed g_bad g_sold Q) 0 0 A := by
  refine Met.ofW (cc := cX7_feed) (maxL := 6) (ret := (some .int)) (by decide) rfl ?_
  intro p e s m args below meth c s₁ B hml hv
  obtain ⟨rfl, hA, hP, hK, hD, hE⟩ := hv
  have hx := B.exec
  have hb := B.bytes
  have hr := B.returns
  have hts := atoms_spec (ws := wsX7_feed) B.pre
  have hown : s.vm.findClass RX7 = some m.cls := findClass_of_methodNamed B.named
  have hlocks := B.notSynchronized
  have hS : va_S A s.heap s.heap [] := va_S.rf
  have hk_0 := hts (.fieldLink RX7 32 "HamCellar" "tape" "LHamCellar$Tape;") (by decide +kernel)
  have hk_1 : ∀ w ∈ wsX70, w ∈ wsX7_feed := by decide +kernel
  have hl := lv_entry ([.ref (ad 0), .int p0, .int p1, .int p2, .int p3, .int p4]) (n := 6) (Nat.le_of_ble_eq_true rfl)
  rw [lg_entry_eq]
  generalize (lg_sl ([.ref (ad 0), .int p0, .int p1, .int p2, .int p3, .int p4]) ++ List.replicate (6 - (lg_sl ([.ref (ad 0), .int p0, .int p1, .int p2, .int p3, .int p4])).length) Slot.unset).toArray = ls at hl ⊢
  have hl : lv_has ls 6 [(0, .ref (ad 0)), (1, .int p0), (2, .int p1), (3, .int p2), (4, .int p3), (5, .int p4)] := hl
  unfold wp_C_X7_feed at h
  refine lv_aload_n hx hb dX7_feed_0 rfl (lv_at hl 0 rfl) ?_
  refine va_get (D := (dC, dI)) (ci := 7) (v := .ref (ad 8)) (C := RX7) (T := TX7) (N := 10) hx hb hts hk_1 hown hK hP 0 wA_g0 rfl 5 (by decide) hk_0 (fun _ h9 => h9) rfl dX7_feed_1 ?_
  refine lv_bipush (v := 20) hx hb dX7_feed_4 (by decide) ?_
  refine va_calli (va_runV (As := [.int 20]) (rest := []) ⟨hx, hb, hml, hown, hts⟩ (c_C_X6_hasSpaceFor l dC dI ad cB cI cZ cL A LP today legCount legs hung warmth damp wopen tsize bytes rat rtold rwrong numbers asked ftold ffarm ffrom fwhat fon csize ctotal offered cws cwa g_number g_farm g_pig g_first g_begun g_weight g_salted g_heat g_place g_target g_feedAsked g_sealed g_bad g_sold 20 _ h) (cwV 1 hts gX7_feed_X6_hasSpaceFor rfl rfl rfl (by decide +kernel) ⟨(Nat.le_of_ble_eq_true rfl), (Nat.le_of_ble_eq_true rfl)⟩) ⟨kC_blind, va_recv hK hP (ci := 6) (q0 := 8) rfl wA_g8, fun U hU hW => ⟨rfl, kC_go hA hS hP hK hD hE U hU hW⟩⟩ rfl rfl hl.1 rfl (lv_room (Nat.le_of_ble_eq_true rfl)) dX7_feed_6 ⟨(Nat.le_of_ble_eq_true rfl), (Nat.le_of_ble_eq_true rfl)⟩) hS (fun q _ h => h) (fun q h => h) (fun r_1 u t H locs ht hvm hw hB hz1 hk1 hS => ?_)
  have h := hw
  try dsimp only at h
  have hP : va_P (dC, dI) vwCl (wA ad cB cI cZ cL LP today legCount legs hung warmth damp wopen tsize bytes rat rtold rwrong numbers asked ftold ffarm ffrom fwhat fon csize ctotal offered cws cwa g_number g_farm g_pig g_first g_begun g_weight g_salted g_heat g_place g_target g_feedAsked g_sealed g_bad g_sold) H := by rw [← ht]; exact hB.1
  have hD : va_D A (wA ad cB cI cZ cL LP today legCount legs hung warmth damp wopen tsize bytes rat rtold rwrong numbers asked ftold ffarm ffrom fwhat fon csize ctotal offered cws cwa g_number g_farm g_pig g_first g_begun g_weight g_salted g_heat g_place g_target g_feedAsked g_sealed g_bad g_sold) := hB.2.2
  refine lv_if_ne (tgt := 14) hx hb dX7_feed_9 (by decide) (fun c_2 => ?_) (fun c_2 => ?_)
  · have h := h.1 c_2
    refine lv_aload_n hx hb dX7_feed_14 rfl (lv_at hl 0 rfl) ?_
    refine va_get (D := (dC, dI)) (ci := 7) (v := .ref (ad 8)) (C := RX7) (T := TX7) (N := 10) hx hb hts hk_1 hown hK hP 0 wA_g0 rfl 5 (by decide) hk_0 (fun _ h9 => h9) rfl dX7_feed_15 ?_
    refine lv_iload_n hx hb dX7_feed_18 rfl (lv_at hl 1 rfl) ?_
    refine va_callv (va_runV (As := [.int p0]) (rest := []) ⟨hx, hb, hml, hown, hts⟩ (c_C_X6_append l dC dI ad cB cI cZ cL A LP today legCount legs hung warmth damp wopen tsize bytes rat rtold rwrong numbers asked ftold ffarm ffrom fwhat fon csize ctotal offered cws cwa g_number g_farm g_pig g_first g_begun g_weight g_salted g_heat g_place g_target g_feedAsked g_sealed g_bad g_sold p0 _ h) (cwV 1 hts gX7_feed_X6_append rfl rfl rfl (by decide +kernel) ⟨(Nat.le_of_ble_eq_true rfl), (Nat.le_of_ble_eq_true rfl)⟩) ⟨kC_blind, va_recv hK hP (ci := 6) (q0 := 8) rfl wA_g8, fun U hU hW => ⟨rfl, kC_go hA hS hP hK hD hE U hU hW⟩⟩ rfl rfl hl.1 rfl (lv_room (Nat.le_of_ble_eq_true rfl)) dX7_feed_19 ⟨(Nat.le_of_ble_eq_true rfl), (Nat.le_of_ble_eq_true rfl)⟩) hS (fun q _ h => h) (fun q h => h) (fun u t H locs ht hvm hw hB hz1 hk1 hS => ?_)
    obtain ⟨tsize_3, bytes_3⟩ := u
    have h := hw
    try dsimp only at h
    have hP : va_P (dC, dI) vwCl (wA ad cB cI cZ cL LP today legCount legs hung warmth damp wopen tsize_3 bytes_3 rat rtold rwrong numbers asked ftold ffarm ffrom fwhat fon csize ctotal offered cws cwa g_number g_farm g_pig g_first g_begun g_weight g_salted g_heat g_place g_target g_feedAsked g_sealed g_bad g_sold) H := by rw [← ht]; exact hB.1
    have hD : va_D A (wA ad cB cI cZ cL LP today legCount legs hung warmth damp wopen tsize_3 bytes_3 rat rtold rwrong numbers asked ftold ffarm ffrom fwhat fon csize ctotal offered cws cwa g_number g_farm g_pig g_first g_begun g_weight g_salted g_heat g_place g_target g_feedAsked g_sealed g_bad g_sold) := hB.2.2
    refine lv_aload_n hx hb dX7_feed_22 rfl (lv_at hl 0 rfl) ?_
    refine va_get (D := (dC, dI)) (ci := 7) (v := .ref (ad 8)) (C := RX7) (T := TX7) (N := 10) hx hb hts hk_1 hown hK hP 0 wA_g0 rfl 5 (by decide) hk_0 (fun _ h9 => h9) rfl dX7_feed_23 ?_
    refine lv_iload_n hx hb dX7_feed_26 rfl (lv_at hl 2 rfl) ?_
    refine va_callv (va_runV (As := [.int p1]) (rest := []) ⟨hx, hb, hml, hown, hts⟩ (c_C_X6_append l dC dI ad cB cI cZ cL A LP today legCount legs hung warmth damp wopen tsize_3 bytes_3 rat rtold rwrong numbers asked ftold ffarm ffrom fwhat fon csize ctotal offered cws cwa g_number g_farm g_pig g_first g_begun g_weight g_salted g_heat g_place g_target g_feedAsked g_sealed g_bad g_sold p1 _ h) (cwV 1 hts gX7_feed_X6_append rfl rfl rfl (by decide +kernel) ⟨(Nat.le_of_ble_eq_true rfl), (Nat.le_of_ble_eq_true rfl)⟩) ⟨kC_blind, va_recv hK hP (ci := 6) (q0 := 8) rfl wA_g8, fun U hU hW => ⟨rfl, kC_go hA hS hP hK hD hE U hU hW⟩⟩ rfl rfl hl.1 rfl (lv_room (Nat.le_of_ble_eq_true rfl)) dX7_feed_27 ⟨(Nat.le_of_ble_eq_true rfl), (Nat.le_of_ble_eq_true rfl)⟩) hS (fun q _ h => h) (fun q h => h) (fun u t H locs ht hvm hw hB hz1 hk1 hS => ?_)
    obtain ⟨tsize_4, bytes_4⟩ := u
    have h := hw
    try dsimp only at h
    have hP : va_P (dC, dI) vwCl (wA ad cB cI cZ cL LP today legCount legs hung warmth damp wopen tsize_4 bytes_4 rat rtold rwrong numbers asked ftold ffarm ffrom fwhat fon csize ctotal offered cws cwa g_number g_farm g_pig g_first g_begun g_weight g_salted g_heat g_place g_target g_feedAsked g_sealed g_bad g_sold) H := by rw [← ht]; exact hB.1
    have hD : va_D A (wA ad cB cI cZ cL LP today legCount legs hung warmth damp wopen tsize_4 bytes_4 rat rtold rwrong numbers asked ftold ffarm ffrom fwhat fon csize ctotal offered cws cwa g_number g_farm g_pig g_first g_begun g_weight g_salted g_heat g_place g_target g_feedAsked g_sealed g_bad g_sold) := hB.2.2
    refine lv_aload_n hx hb dX7_feed_30 rfl (lv_at hl 0 rfl) ?_
    refine va_get (D := (dC, dI)) (ci := 7) (v := .ref (ad 8)) (C := RX7) (T := TX7) (N := 10) hx hb hts hk_1 hown hK hP 0 wA_g0 rfl 5 (by decide) hk_0 (fun _ h9 => h9) rfl dX7_feed_31 ?_
    refine lv_iload_n hx hb dX7_feed_34 rfl (lv_at hl 3 rfl) ?_
    refine va_callv (va_runV (As := [.int p2]) (rest := []) ⟨hx, hb, hml, hown, hts⟩ (c_C_X6_append l dC dI ad cB cI cZ cL A LP today legCount legs hung warmth damp wopen tsize_4 bytes_4 rat rtold rwrong numbers asked ftold ffarm ffrom fwhat fon csize ctotal offered cws cwa g_number g_farm g_pig g_first g_begun g_weight g_salted g_heat g_place g_target g_feedAsked g_sealed g_bad g_sold p2 _ h) (cwV 1 hts gX7_feed_X6_append rfl rfl rfl (by decide +kernel) ⟨(Nat.le_of_ble_eq_true rfl), (Nat.le_of_ble_eq_true rfl)⟩) ⟨kC_blind, va_recv hK hP (ci := 6) (q0 := 8) rfl wA_g8, fun U hU hW => ⟨rfl, kC_go hA hS hP hK hD hE U hU hW⟩⟩ rfl rfl hl.1 rfl (lv_room (Nat.le_of_ble_eq_true rfl)) dX7_feed_35 ⟨(Nat.le_of_ble_eq_true rfl), (Nat.le_of_ble_eq_true rfl)⟩) hS (fun q _ h => h) (fun q h => h) (fun u t H locs ht hvm hw hB hz1 hk1 hS => ?_)
    obtain ⟨tsize_5, bytes_5⟩ := u
    have h := hw
    try dsimp only at h
    have hP : va_P (dC, dI) vwCl (wA ad cB cI cZ cL LP today legCount legs hung warmth damp wopen tsize_5 bytes_5 rat rtold rwrong numbers asked ftold ffarm ffrom fwhat fon csize ctotal offered cws cwa g_number g_farm g_pig g_first g_begun g_weight g_salted g_heat g_place g_target g_feedAsked g_sealed g_bad g_sold) H := by rw [← ht]; exact hB.1
    have hD : va_D A (wA ad cB cI cZ cL LP today legCount legs hung warmth damp wopen tsize_5 bytes_5 rat rtold rwrong numbers asked ftold ffarm ffrom fwhat fon csize ctotal offered cws cwa g_number g_farm g_pig g_first g_begun g_weight g_salted g_heat g_place g_target g_feedAsked g_sealed g_bad g_sold) := hB.2.2
    refine lv_aload_n hx hb dX7_feed_38 rfl (lv_at hl 0 rfl) ?_
    refine va_get (D := (dC, dI)) (ci := 7) (v := .ref (ad 8)) (C := RX7) (T := TX7) (N := 10) hx hb hts hk_1 hown hK hP 0 wA_g0 rfl 5 (by decide) hk_0 (fun _ h9 => h9) rfl dX7_feed_39 ?_
    refine lv_iload hx hb dX7_feed_42 (lv_at hl 4 rfl) ?_
    refine va_callv (va_runV (As := [.int p3]) (rest := []) ⟨hx, hb, hml, hown, hts⟩ (c_C_X6_append l dC dI ad cB cI cZ cL A LP today legCount legs hung warmth damp wopen tsize_5 bytes_5 rat rtold rwrong numbers asked ftold ffarm ffrom fwhat fon csize ctotal offered cws cwa g_number g_farm g_pig g_first g_begun g_weight g_salted g_heat g_place g_target g_feedAsked g_sealed g_bad g_sold p3 _ h) (cwV 1 hts gX7_feed_X6_append rfl rfl rfl (by decide +kernel) ⟨(Nat.le_of_ble_eq_true rfl), (Nat.le_of_ble_eq_true rfl)⟩) ⟨kC_blind, va_recv hK hP (ci := 6) (q0 := 8) rfl wA_g8, fun U hU hW => ⟨rfl, kC_go hA hS hP hK hD hE U hU hW⟩⟩ rfl rfl hl.1 rfl (lv_room (Nat.le_of_ble_eq_true rfl)) dX7_feed_44 ⟨(Nat.le_of_ble_eq_true rfl), (Nat.le_of_ble_eq_true rfl)⟩) hS (fun q _ h => h) (fun q h => h) (fun u t H locs ht hvm hw hB hz1 hk1 hS => ?_)
    obtain ⟨tsize_6, bytes_6⟩ := u
    have h := hw
    try dsimp only at h
    have hP : va_P (dC, dI) vwCl (wA ad cB cI cZ cL LP today legCount legs hung warmth damp wopen tsize_6 bytes_6 rat rtold rwrong numbers asked ftold ffarm ffrom fwhat fon csize ctotal offered cws cwa g_number g_farm g_pig g_first g_begun g_weight g_salted g_heat g_place g_target g_feedAsked g_sealed g_bad g_sold) H := by rw [← ht]; exact hB.1
    have hD : va_D A (wA ad cB cI cZ cL LP today legCount legs hung warmth damp wopen tsize_6 bytes_6 rat rtold rwrong numbers asked ftold ffarm ffrom fwhat fon csize ctotal offered cws cwa g_number g_farm g_pig g_first g_begun g_weight g_salted g_heat g_place g_target g_feedAsked g_sealed g_bad g_sold) := hB.2.2
    refine lv_aload_n hx hb dX7_feed_47 rfl (lv_at hl 0 rfl) ?_
    refine va_get (D := (dC, dI)) (ci := 7) (v := .ref (ad 8)) (C := RX7) (T := TX7) (N := 10) hx hb hts hk_1 hown hK hP 0 wA_g0 rfl 5 (by decide) hk_0 (fun _ h9 => h9) rfl dX7_feed_48 ?_
    refine lv_iload hx hb dX7_feed_51 (lv_at hl 5 rfl) ?_
    refine va_callv (va_runV (As := [.int p4]) (rest := []) ⟨hx, hb, hml, hown, hts⟩ (c_C_X6_append l dC dI ad cB cI cZ cL A LP today legCount legs hung warmth damp wopen tsize_6 bytes_6 rat rtold rwrong numbers asked ftold ffarm ffrom fwhat fon csize ctotal offered cws cwa g_number g_farm g_pig g_first g_begun g_weight g_salted g_heat g_place g_target g_feedAsked g_sealed g_bad g_sold p4 _ h) (cwV 1 hts gX7_feed_X6_append rfl rfl rfl (by decide +kernel) ⟨(Nat.le_of_ble_eq_true rfl), (Nat.le_of_ble_eq_true rfl)⟩) ⟨kC_blind, va_recv hK hP (ci := 6) (q0 := 8) rfl wA_g8, fun U hU hW => ⟨rfl, kC_go hA hS hP hK hD hE U hU hW⟩⟩ rfl rfl hl.1 rfl (lv_room (Nat.le_of_ble_eq_true rfl)) dX7_feed_53 ⟨(Nat.le_of_ble_eq_true rfl), (Nat.le_of_ble_eq_true rfl)⟩) hS (fun q _ h => h) (fun q h => h) (fun u t H locs ht hvm hw hB hz1 hk1 hS => ?_)
    obtain ⟨tsize_7, bytes_7⟩ := u
    have h := hw
    try dsimp only at h
    have hP : va_P (dC, dI) vwCl (wA ad cB cI cZ cL LP today legCount legs hung warmth damp wopen tsize_7 bytes_7 rat rtold rwrong numbers asked ftold ffarm ffrom fwhat fon csize ctotal offered cws cwa g_number g_farm g_pig g_first g_begun g_weight g_salted g_heat g_place g_target g_feedAsked g_sealed g_bad g_sold) H := by rw [← ht]; exact hB.1
    have hD : va_D A (wA ad cB cI cZ cL LP today legCount legs hung warmth damp wopen tsize_7 bytes_7 rat rtold rwrong numbers asked ftold ffarm ffrom fwhat fon csize ctotal offered cws cwa g_number g_farm g_pig g_first g_begun g_weight g_salted g_heat g_place g_target g_feedAsked g_sealed g_bad g_sold) := hB.2.2
    refine lv_aload_n hx hb dX7_feed_56 rfl (lv_at hl 0 rfl) ?_
    refine va_get (D := (dC, dI)) (ci := 7) (v := .ref (ad 8)) (C := RX7) (T := TX7) (N := 10) hx hb hts hk_1 hown hK hP 0 wA_g0 rfl 5 (by decide) hk_0 (fun _ h9 => h9) rfl dX7_feed_57 ?_
    refine va_calli (va_runV (As := []) (rest := []) ⟨hx, hb, hml, hown, hts⟩ (c_C_X6_size l dC dI ad cB cI cZ cL A LP today legCount legs hung warmth damp wopen tsize_7 bytes_7 rat rtold rwrong numbers asked ftold ffarm ffrom fwhat fon csize ctotal offered cws cwa g_number g_farm g_pig g_first g_begun g_weight g_salted g_heat g_place g_target g_feedAsked g_sealed g_bad g_sold _ h) (cwV 0 hts gX7_feed_X6_size rfl rfl rfl (by decide +kernel) ⟨(Nat.le_of_ble_eq_true rfl), (Nat.le_of_ble_eq_true rfl)⟩) ⟨kC_blind, va_recv hK hP (ci := 6) (q0 := 8) rfl wA_g8, fun U hU hW => ⟨rfl, kC_go hA hS hP hK hD hE U hU hW⟩⟩ rfl rfl hl.1 rfl (lv_room (Nat.le_of_ble_eq_true rfl)) dX7_feed_60 ⟨(Nat.le_of_ble_eq_true rfl), (Nat.le_of_ble_eq_true rfl)⟩) hS (fun q _ h => h) (fun q h => h) (fun r_8 u t H locs ht hvm hw hB hz1 hk1 hS => ?_)
    have h := hw
    try dsimp only at h
    have hP : va_P (dC, dI) vwCl (wA ad cB cI cZ cL LP today legCount legs hung warmth damp wopen tsize_7 bytes_7 rat rtold rwrong numbers asked ftold ffarm ffrom fwhat fon csize ctotal offered cws cwa g_number g_farm g_pig g_first g_begun g_weight g_salted g_heat g_place g_target g_feedAsked g_sealed g_bad g_sold) H := by rw [← ht]; exact hB.1
    have hD : va_D A (wA ad cB cI cZ cL LP today legCount legs hung warmth damp wopen tsize_7 bytes_7 rat rtold rwrong numbers asked ftold ffarm ffrom fwhat fon csize ctotal offered cws cwa g_number g_farm g_pig g_first g_begun g_weight g_salted g_heat g_place g_target g_feedAsked g_sealed g_bad g_sold) := hB.2.2
    exact W.iret (v := r_8) hx hb hr (fun t ht hW => ⟨⟨r_8, (tsize_7, bytes_7), rfl, h, kB_mk hP hK hD ht hW.alike⟩, hS.F ht⟩) hS.2.2 dX7_feed_63
  · have h := h.2 c_2
    refine lv_iconst (v := (-1)) hx hb dX7_feed_12 (by decide) ?_
    exact W.iret (v := (-1)) hx hb hr (fun t ht hW => ⟨⟨(-1), (tsize, bytes), rfl, h, kB_mk hP hK hD ht hW.alike⟩, hS.F ht⟩) hS.2.2 dX7_feed_13
def wp_C_X7_end (Q : Int32 → Int32 → Prop) (tsize : Int32) (p0 : Int32) : Prop := wp_C_X6_cutTo (fun r_1 tsize_1 => (o01 r_1 ∧ Q r_1 tsize_1)) tsize p0
def rm_C_X7_end : Room := { frames := 1, cells := 0, slots := 0, locals := 21 }
abbrev pq_C_X7_end (dC : Nat → ClassId) (dI : Nat → Nat → Nat) (ad : Nat → Nat) (cB cI cZ cL : ClassId) (A : Nat → Prop) (LP : List Nat) (today legCount : Int32) (legs hung : Nat → Option Nat) (warmth damp wopen : Nat → Int32) (tsize : Int32) (bytes : Nat → Int32) (rat rtold rwrong : Int32) (numbers asked : Nat → Int32) (ftold : Int32) (ffarm ffrom fwhat fon : Nat → Int32) (csize ctotal : Int32) (offered : Nat → Option Nat) (cws cwa g_number g_farm g_pig g_first g_begun g_weight g_salted g_heat g_place g_target g_feedAsked g_sealed g_bad g_sold : Nat → Int32) (Q : Int32 → Int32 → Prop) : Array Value → State → Outcome → State → Prop := va_Qi (fun (r : Int32) (u : Int32) => Q r u) (fun u t => kB dC dI A (wA ad cB cI cZ cL LP today legCount legs hung warmth damp wopen u bytes rat rtold rwrong numbers asked ftold ffarm ffrom fwhat fon csize ctotal offered cws cwa g_number g_farm g_pig g_first g_begun g_weight g_salted g_heat g_place g_target g_feedAsked g_sealed g_bad g_sold) (kTy cB cI cZ cL) t) A
set_option maxHeartbeats 4000000 in
set_option maxRecDepth 100000 in
theorem c_C_X7_end (l : Launch) (dC : Nat → ClassId) (dI : Nat → Nat → Nat) (ad : Nat → Nat) (cB cI cZ cL : ClassId) (A : Nat → Prop) (LP : List Nat) (today legCount : Int32) (legs hung : Nat → Option Nat) (warmth damp wopen : Nat → Int32) (tsize : Int32) (bytes : Nat → Int32) (rat rtold rwrong : Int32) (numbers asked : Nat → Int32) (ftold : Int32) (ffarm ffrom fwhat fon : Nat → Int32) (csize ctotal : Int32) (offered : Nat → Option Nat) (cws cwa g_number g_farm g_pig g_first g_begun g_weight g_salted g_heat g_place g_target g_feedAsked g_sealed g_bad g_sold : Nat → Int32) (p0 : Int32)  (Q : Int32 → Int32 → Prop) (h : wp_C_X7_end Q tsize p0) : Met l yX7_end wsX7_end rm_C_X7_end (va_Pc [.ref (ad 0), .int p0] (kC dC dI ad A (wA ad cB cI cZ cL LP today legCount legs hung warmth damp wopen tsize bytes rat rtold rwrong numbers asked ftold ffarm ffrom fwhat fon csize ctotal offered cws cwa g_number g_farm g_pig g_first g_begun g_weight g_salted g_heat g_place g_target g_feedAsked g_sealed g_bad g_sold) (kTy cB cI cZ cL))) (pq_C_X7_end dC dI ad cB cI cZ cL A LP today legCount legs hung warmth damp wopen tsize bytes rat rtold rwrong numbers asked ftold ffarm ffrom fwhat fon csize ctotal offered cws cwa g_number g_farm g_pig g_first g_begun g_weight g_salted g_heat g_place g_target g_feedAsked g_sealed g_bad g_sold Q) 0 0 A := by
  refine Met.ofW (cc := cX7_end) (maxL := 2) (ret := (some .boolean)) (by decide) rfl ?_
  intro p e s m args below meth c s₁ B hml hv
  obtain ⟨rfl, hA, hP, hK, hD, hE⟩ := hv
  have hx := B.exec
  have hb := B.bytes
  have hr := B.returns
  have hts := atoms_spec (ws := wsX7_end) B.pre
  have hown : s.vm.findClass RX7 = some m.cls := findClass_of_methodNamed B.named
  have hlocks := B.notSynchronized
  have hS : va_S A s.heap s.heap [] := va_S.rf
  have hk_0 := hts (.fieldLink RX7 32 "HamCellar" "tape" "LHamCellar$Tape;") (by decide +kernel)
  have hk_1 : ∀ w ∈ wsX70, w ∈ wsX7_end := by decide +kernel
  have hl := lv_entry ([.ref (ad 0), .int p0]) (n := 2) (Nat.le_of_ble_eq_true rfl)
  rw [lg_entry_eq]
  generalize (lg_sl ([.ref (ad 0), .int p0]) ++ List.replicate (2 - (lg_sl ([.ref (ad 0), .int p0])).length) Slot.unset).toArray = ls at hl ⊢
  have hl : lv_has ls 2 [(0, .ref (ad 0)), (1, .int p0)] := hl
  unfold wp_C_X7_end at h
  refine lv_aload_n hx hb dX7_end_0 rfl (lv_at hl 0 rfl) ?_
  refine va_get (D := (dC, dI)) (ci := 7) (v := .ref (ad 8)) (C := RX7) (T := TX7) (N := 10) hx hb hts hk_1 hown hK hP 0 wA_g0 rfl 5 (by decide) hk_0 (fun _ h9 => h9) rfl dX7_end_1 ?_
  refine lv_iload_n hx hb dX7_end_4 rfl (lv_at hl 1 rfl) ?_
  refine va_calli (va_runV (As := [.int p0]) (rest := []) ⟨hx, hb, hml, hown, hts⟩ (c_C_X6_cutTo l dC dI ad cB cI cZ cL A LP today legCount legs hung warmth damp wopen tsize bytes rat rtold rwrong numbers asked ftold ffarm ffrom fwhat fon csize ctotal offered cws cwa g_number g_farm g_pig g_first g_begun g_weight g_salted g_heat g_place g_target g_feedAsked g_sealed g_bad g_sold p0 _ h) (cwV 1 hts gX7_end_X6_cutTo rfl rfl rfl (by decide +kernel) ⟨(Nat.le_of_ble_eq_true rfl), (Nat.le_of_ble_eq_true rfl)⟩) ⟨kC_blind, va_recv hK hP (ci := 6) (q0 := 8) rfl wA_g8, fun U hU hW => ⟨rfl, kC_go hA hS hP hK hD hE U hU hW⟩⟩ rfl rfl hl.1 rfl (lv_room (Nat.le_of_ble_eq_true rfl)) dX7_end_5 ⟨(Nat.le_of_ble_eq_true rfl), (Nat.le_of_ble_eq_true rfl)⟩) hS (fun q _ h => h) (fun q h => h) (fun r_1 u t H locs ht hvm hw hB hz1 hk1 hS => ?_)
  obtain ⟨tsize_1, rfl⟩ : ∃ z, z = u := ⟨_, rfl⟩
  have h := hw
  try dsimp only at h
  have hP : va_P (dC, dI) vwCl (wA ad cB cI cZ cL LP today legCount legs hung warmth damp wopen tsize_1 bytes rat rtold rwrong numbers asked ftold ffarm ffrom fwhat fon csize ctotal offered cws cwa g_number g_farm g_pig g_first g_begun g_weight g_salted g_heat g_place g_target g_feedAsked g_sealed g_bad g_sold) H := by rw [← ht]; exact hB.1
  have hD : va_D A (wA ad cB cI cZ cL LP today legCount legs hung warmth damp wopen tsize_1 bytes rat rtold rwrong numbers asked ftold ffarm ffrom fwhat fon csize ctotal offered cws cwa g_number g_farm g_pig g_first g_begun g_weight g_salted g_heat g_place g_target g_feedAsked g_sealed g_bad g_sold) := hB.2.2
  exact W.zret (v := r_1) (ty := .boolean) hx hb hr (z01 h.1) (fun t ht hW => ⟨⟨r_1, (tsize_1), rfl, h.2, kB_mk hP hK hD ht hW.alike⟩, hS.F ht⟩) hS.2.2 dX7_end_8
def wp_C_X7_needFarm (Q : Prop) (X : Nat → Prop) (p0 : Int32) : Prop := wp_C_X7_isWithin (fun r_1 => ((¬ r_1 = 0 → Q) ∧ (r_1 = 0 → X 1))) p0 0 9
def rm_C_X7_needFarm : Room := { frames := 6, cells := 1, slots := 6, locals := 81 }
abbrev pq_C_X7_needFarm (dC : Nat → ClassId) (dI : Nat → Nat → Nat) (ad : Nat → Nat) (cB cI cZ cL : ClassId) (A : Nat → Prop) (LP : List Nat) (today legCount : Int32) (legs hung : Nat → Option Nat) (warmth damp wopen : Nat → Int32) (tsize : Int32) (bytes : Nat → Int32) (rat rtold rwrong : Int32) (numbers asked : Nat → Int32) (ftold : Int32) (ffarm ffrom fwhat fon : Nat → Int32) (csize ctotal : Int32) (offered : Nat → Option Nat) (cws cwa g_number g_farm g_pig g_first g_begun g_weight g_salted g_heat g_place g_target g_feedAsked g_sealed g_bad g_sold : Nat → Int32) (Q : Prop) : Array Value → State → Outcome → State → Prop := va_Qv (fun u : Unit => Q ) (fun u t => kB dC dI A (wA ad cB cI cZ cL LP today legCount legs hung warmth damp wopen tsize bytes rat rtold rwrong numbers asked ftold ffarm ffrom fwhat fon csize ctotal offered cws cwa g_number g_farm g_pig g_first g_begun g_weight g_salted g_heat g_place g_target g_feedAsked g_sealed g_bad g_sold) (kTy cB cI cZ cL) t) A
abbrev px_C_X7_needFarm (dC : Nat → ClassId) (dI : Nat → Nat → Nat) (ad : Nat → Nat) (cB cI cZ cL : ClassId) (A : Nat → Prop) (LP : List Nat) (today legCount : Int32) (legs hung : Nat → Option Nat) (warmth damp wopen : Nat → Int32) (tsize : Int32) (bytes : Nat → Int32) (rat rtold rwrong : Int32) (numbers asked : Nat → Int32) (ftold : Int32) (ffarm ffrom fwhat fon : Nat → Int32) (csize ctotal : Int32) (offered : Nat → Option Nat) (cws cwa g_number g_farm g_pig g_first g_begun g_weight g_salted g_heat g_place g_target g_feedAsked g_sealed g_bad g_sold : Nat → Int32) (X : Nat → Prop) : String → State → State → Prop := vx_X (fun u : Nat => X u) (fun E u t => E = kEx u ∧ kB dC dI A (wA ad cB cI cZ cL LP today legCount legs hung warmth damp wopen tsize bytes rat rtold rwrong numbers asked ftold ffarm ffrom fwhat fon csize ctotal offered cws cwa g_number g_farm g_pig g_first g_begun g_weight g_salted g_heat g_place g_target g_feedAsked g_sealed g_bad g_sold) (kTy cB cI cZ cL) t) A
set_option maxHeartbeats 4000000 in
set_option maxRecDepth 100000 in
theorem c_C_X7_needFarm (l : Launch) (hl0 : l.stackTraces = false) (dC : Nat → ClassId) (dI : Nat → Nat → Nat) (ad : Nat → Nat) (cB cI cZ cL : ClassId) (A : Nat → Prop) (LP : List Nat) (today legCount : Int32) (legs hung : Nat → Option Nat) (warmth damp wopen : Nat → Int32) (tsize : Int32) (bytes : Nat → Int32) (rat rtold rwrong : Int32) (numbers asked : Nat → Int32) (ftold : Int32) (ffarm ffrom fwhat fon : Nat → Int32) (csize ctotal : Int32) (offered : Nat → Option Nat) (cws cwa g_number g_farm g_pig g_first g_begun g_weight g_salted g_heat g_place g_target g_feedAsked g_sealed g_bad g_sold : Nat → Int32) (p0 : Int32)  (Q : Prop) (X : Nat → Prop) (h : wp_C_X7_needFarm Q X p0) : vx_Met l yX7_needFarm wsX7_needFarm rm_C_X7_needFarm (va_Pc [.int p0] (kC dC dI ad A (wA ad cB cI cZ cL LP today legCount legs hung warmth damp wopen tsize bytes rat rtold rwrong numbers asked ftold ffarm ffrom fwhat fon csize ctotal offered cws cwa g_number g_farm g_pig g_first g_begun g_weight g_salted g_heat g_place g_target g_feedAsked g_sealed g_bad g_sold) (kTy cB cI cZ cL))) (pq_C_X7_needFarm dC dI ad cB cI cZ cL A LP today legCount legs hung warmth damp wopen tsize bytes rat rtold rwrong numbers asked ftold ffarm ffrom fwhat fon csize ctotal offered cws cwa g_number g_farm g_pig g_first g_begun g_weight g_salted g_heat g_place g_target g_feedAsked g_sealed g_bad g_sold Q) (px_C_X7_needFarm dC dI ad cB cI cZ cL A LP today legCount legs hung warmth damp wopen tsize bytes rat rtold rwrong numbers asked ftold ffarm ffrom fwhat fon csize ctotal offered cws cwa g_number g_farm g_pig g_first g_begun g_weight g_salted g_heat g_place g_target g_feedAsked g_sealed g_bad g_sold X) 1 6 A := by
  refine vx_ofW (cc := cX7_needFarm) (maxL := 1) (ret := none) (by decide) rfl ?_
  intro p e s m args below meth c s₁ B hml htb hv
  obtain ⟨rfl, hA, hP, hK, hD, hE⟩ := hv
  have hx := B.exec
  have hb := B.bytes
  have hr := B.returns
  have hts := atoms_spec (ws := wsX7_needFarm) B.pre
  have hown : s.vm.findClass RX7 = some m.cls := findClass_of_methodNamed B.named
  have hlocks := B.notSynchronized
  have hS : va_S A s.heap s.heap [] := va_S.rf
  have hk_0 := hts (.classLink RX7 132 "java/lang/IndexOutOfBoundsException") (by decide +kernel)
  have hk_1 := hts (.initialized "java/lang/IndexOutOfBoundsException") (by decide +kernel)
  have hk_2 : (∀ w ∈ vx_at0 RX7 134 "java/lang/IndexOutOfBoundsException" ["java/lang/RuntimeException", "java/lang/Exception"], w.before ([.int p0] : List Value).toArray s = true) ∧ (∀ w ∈ Cond.classLink RX7 132 "java/lang/IndexOutOfBoundsException" :: Cond.initialized "java/lang/IndexOutOfBoundsException" :: vx_at0 RX7 134 "java/lang/IndexOutOfBoundsException" ["java/lang/RuntimeException", "java/lang/Exception"], vx_ot w = true) := ⟨vx_hat (B := [.castable "java/lang/IndexOutOfBoundsException" "java/lang/IndexOutOfBoundsException", .declares ⟨"java/lang/RuntimeException", "<init>", "()V"⟩, .declares ⟨"java/lang/Exception", "<init>", "()V"⟩, .declares ⟨"java/lang/Throwable", "<init>", "()V"⟩]) (fun w hw => hts w ((by decide +kernel : ∀ w ∈ (vx_at0 RX7 134 "java/lang/IndexOutOfBoundsException" ["java/lang/RuntimeException", "java/lang/Exception"]).filter goodWord, w ∈ wsX7_needFarm) w hw)) (by decide +kernel) (vx_c (va_Nw.use rfl (hE.2.1.2.2.1 "java/lang/IndexOutOfBoundsException" (by decide))) (vx_c (va_Nw.use rfl (hE.2.1.2.2.2 _ (List.mem_of_getElem? (i := 0) rfl))) (vx_c (va_Nw.use rfl (hE.2.1.2.2.2 _ (List.mem_of_getElem? (i := 1) rfl))) (vx_c (va_Nw.use rfl (hE.2.1.2.2.2 _ (List.mem_of_getElem? (i := 2) rfl))) vx_n)))), by decide +kernel⟩
  have hl := lv_entry ([.int p0]) (n := 1) (Nat.le_of_ble_eq_true rfl)
  rw [lg_entry_eq]
  generalize (lg_sl ([.int p0]) ++ List.replicate (1 - (lg_sl ([.int p0])).length) Slot.unset).toArray = ls at hl ⊢
  have hl : lv_has ls 1 [(0, .int p0)] := hl
  unfold wp_C_X7_needFarm at h
  refine lv_iload_n hx hb dX7_needFarm_0 rfl (lv_at hl 0 rfl) ?_
  refine lv_iconst (v := 0) hx hb dX7_needFarm_1 (by decide) ?_
  refine lv_bipush (v := 9) hx hb dX7_needFarm_2 (by decide) ?_
  refine va_calli (va_runS (As := [.int p0, .int 0, .int 9]) (rest := []) ⟨hx, hb, hml, hown, hts⟩ (c_C_X7_isWithin l dC dI ad cB cI cZ cL A LP today legCount legs hung warmth damp wopen tsize bytes rat rtold rwrong numbers asked ftold ffarm ffrom fwhat fon csize ctotal offered cws cwa g_number g_farm g_pig g_first g_begun g_weight g_salted g_heat g_place g_target g_feedAsked g_sealed g_bad g_sold p0 0 9 _ h) (va_cwS 3 hts gX7_needFarm_X7_isWithin rfl rfl rfl (by decide +kernel) ⟨(Nat.le_of_ble_eq_true rfl), (Nat.le_of_ble_eq_true rfl)⟩) ⟨kC_blind, fun U hU hW => ⟨rfl, kC_go hA hS hP hK hD hE U hU hW⟩⟩ rfl rfl hl.1 rfl (lv_room (Nat.le_of_ble_eq_true rfl)) dX7_needFarm_4 ⟨(Nat.le_of_ble_eq_true rfl), (Nat.le_of_ble_eq_true rfl)⟩) hS (fun q _ h => h) (fun q h => h) (fun r_1 u t H locs ht hvm hw hB hz1 hk1 hS => ?_)
  have h := hw
  try dsimp only at h
  have hP : va_P (dC, dI) vwCl (wA ad cB cI cZ cL LP today legCount legs hung warmth damp wopen tsize bytes rat rtold rwrong numbers asked ftold ffarm ffrom fwhat fon csize ctotal offered cws cwa g_number g_farm g_pig g_first g_begun g_weight g_salted g_heat g_place g_target g_feedAsked g_sealed g_bad g_sold) H := by rw [← ht]; exact hB.1
  have hD : va_D A (wA ad cB cI cZ cL LP today legCount legs hung warmth damp wopen tsize bytes rat rtold rwrong numbers asked ftold ffarm ffrom fwhat fon csize ctotal offered cws cwa g_number g_farm g_pig g_first g_begun g_weight g_salted g_heat g_place g_target g_feedAsked g_sealed g_bad g_sold) := hB.2.2
  refine lv_if_ne (tgt := 18) hx hb dX7_needFarm_7 (by decide) (fun c_2 => ?_) (fun c_2 => ?_)
  · have h := h.1 c_2
    refine W.widen (k := 1) (n := 6) (Nat.le_of_ble_eq_true rfl) (Nat.le_of_ble_eq_true rfl) ?_
    refine vx_ret ?_
    exact W.vret hx hb hr (fun t ht hW => ⟨⟨(), rfl, h, kB_mk hP hK hD ht hW.alike⟩, hS.F ht⟩) hS.2.2 dX7_needFarm_18
  · have h := h.2 c_2
    exact vx_throw0 (own := RX7) (cls := "java/lang/IndexOutOfBoundsException") (names := ["java/lang/RuntimeException", "java/lang/Exception"]) hx hb hl0 hown (by decide +kernel) (by decide +kernel) hk_0 hk_1 hk_2.1 hk_2.2 hE.1.1 hE.1.2 hS (hl.1.trans hml.symm) dX7_needFarm_10 dX7_needFarm_13 dX7_needFarm_14 dX7_needFarm_17 (fun x9 hx9 => (htb x9 hx9).elim) (Nat.le_of_ble_eq_true rfl) (Nat.le_of_ble_eq_true rfl) (Nat.le_of_ble_eq_true rfl) (Nat.le_of_ble_eq_true rfl) hlocks (fun t hv9 hz9 hk9 => by obtain ⟨b9, f9⟩ := kX_mk hS hP hK hD hv9 hz9 hk9; exact ⟨(1), h, ⟨rfl, b9⟩, f9⟩) hS.2.2 (Nat.le_of_ble_eq_true rfl) (Nat.le_of_ble_eq_true rfl)
def bk_C_X7_legsOfPig_44 (LP : List Nat) (legs : Nat → Option Nat) (g_pig : Nat → Int32)  (Q : Int32 → Prop) (K14 : Int32 → Int32 → Int32 → Int32 → Prop) (v1 : Int32) (v2 : Int32) (v4 : Int32) (v5 : Int32) : Prop := K14 v1 v2 v4 (v5 + 1)
def lp_C_X7_legsOfPig_14 (LP : List Nat) (legs : Nat → Option Nat) (g_pig : Nat → Int32)  (Q : Int32 → Prop) : Nat → Int32 → Int32 → Int32 → Int32 → Prop
  | 0 => fun _ _ _ _ => False
  | n + 1 => fun v1 v2 v4 v5 => ((v4 ≤ v5 → Q v2) ∧ (¬ (v4 ≤ v5) → (vp_in v5 60 ∧ ((legs v5.toNatClampNeg = none → bk_C_X7_legsOfPig_44 LP legs g_pig Q (lp_C_X7_legsOfPig_14 LP legs g_pig Q n) v1 v2 v4 v5) ∧ (∀ y_3 : Nat, legs v5.toNatClampNeg = some y_3 → y_3 ∈ LP ∧ ((¬ (g_pig y_3) = v1 → bk_C_X7_legsOfPig_44 LP legs g_pig Q (lp_C_X7_legsOfPig_14 LP legs g_pig Q n) v1 v2 v4 v5) ∧ ((g_pig y_3) = v1 → bk_C_X7_legsOfPig_44 LP legs g_pig Q (lp_C_X7_legsOfPig_14 LP legs g_pig Q n) v1 (v2 + 1) v4 v5)))))))
def wp_C_X7_legsOfPig (LP : List Nat) (legs : Nat → Option Nat) (g_pig : Nat → Int32) (Q : Int32 → Prop) (p0 : Int32) : Prop := (∃ n_8, lp_C_X7_legsOfPig_14 LP legs g_pig Q n_8 p0 0 60 0)
def rm_C_X7_legsOfPig : Room := { frames := 0, cells := 0, slots := 0, locals := 0 }
abbrev pq_C_X7_legsOfPig (dC : Nat → ClassId) (dI : Nat → Nat → Nat) (ad : Nat → Nat) (cB cI cZ cL : ClassId) (A : Nat → Prop) (LP : List Nat) (today legCount : Int32) (legs hung : Nat → Option Nat) (warmth damp wopen : Nat → Int32) (tsize : Int32) (bytes : Nat → Int32) (rat rtold rwrong : Int32) (numbers asked : Nat → Int32) (ftold : Int32) (ffarm ffrom fwhat fon : Nat → Int32) (csize ctotal : Int32) (offered : Nat → Option Nat) (cws cwa g_number g_farm g_pig g_first g_begun g_weight g_salted g_heat g_place g_target g_feedAsked g_sealed g_bad g_sold : Nat → Int32) (Q : Int32 → Prop) : Array Value → State → Outcome → State → Prop := va_Qi (fun (r : Int32) (u : Unit) => Q r ) (fun u t => kB dC dI A (wA ad cB cI cZ cL LP today legCount legs hung warmth damp wopen tsize bytes rat rtold rwrong numbers asked ftold ffarm ffrom fwhat fon csize ctotal offered cws cwa g_number g_farm g_pig g_first g_begun g_weight g_salted g_heat g_place g_target g_feedAsked g_sealed g_bad g_sold) (kTy cB cI cZ cL) t) A
set_option maxHeartbeats 4000000 in
set_option maxRecDepth 100000 in
theorem c_C_X7_legsOfPig (l : Launch) (dC : Nat → ClassId) (dI : Nat → Nat → Nat) (ad : Nat → Nat) (cB cI cZ cL : ClassId) (A : Nat → Prop) (LP : List Nat) (today legCount : Int32) (legs hung : Nat → Option Nat) (warmth damp wopen : Nat → Int32) (tsize : Int32) (bytes : Nat → Int32) (rat rtold rwrong : Int32) (numbers asked : Nat → Int32) (ftold : Int32) (ffarm ffrom fwhat fon : Nat → Int32) (csize ctotal : Int32) (offered : Nat → Option Nat) (cws cwa g_number g_farm g_pig g_first g_begun g_weight g_salted g_heat g_place g_target g_feedAsked g_sealed g_bad g_sold : Nat → Int32) (p0 : Int32)  (Q : Int32 → Prop) (h : wp_C_X7_legsOfPig LP legs g_pig Q p0) : Met l yX7_legsOfPig wsX7_legsOfPig rm_C_X7_legsOfPig (va_Pc [.ref (ad 0), .int p0] (kC dC dI ad A (wA ad cB cI cZ cL LP today legCount legs hung warmth damp wopen tsize bytes rat rtold rwrong numbers asked ftold ffarm ffrom fwhat fon csize ctotal offered cws cwa g_number g_farm g_pig g_first g_begun g_weight g_salted g_heat g_place g_target g_feedAsked g_sealed g_bad g_sold) (kTy cB cI cZ cL))) (pq_C_X7_legsOfPig dC dI ad cB cI cZ cL A LP today legCount legs hung warmth damp wopen tsize bytes rat rtold rwrong numbers asked ftold ffarm ffrom fwhat fon csize ctotal offered cws cwa g_number g_farm g_pig g_first g_begun g_weight g_salted g_heat g_place g_target g_feedAsked g_sealed g_bad g_sold Q) 0 0 A := by
  refine Met.ofW (cc := cX7_legsOfPig) (maxL := 7) (ret := (some .int)) (by decide) rfl ?_
  intro p e s m args below meth c s₁ B hml hv
  obtain ⟨rfl, hA, hP, hK, hD, hE⟩ := hv
  have hx := B.exec
  have hb := B.bytes
  have hr := B.returns
  have hts := atoms_spec (ws := wsX7_legsOfPig) B.pre
  have hown : s.vm.findClass RX7 = some m.cls := findClass_of_methodNamed B.named
  have hlocks := B.notSynchronized
  have hS : va_S A s.heap s.heap [] := va_S.rf
  have hk_0 := hts (.fieldLink RX7 11 "HamCellar" "legs" "[LHamCellar$Leg;") (by decide +kernel)
  have hk_1 : ∀ w ∈ wsX70, w ∈ wsX7_legsOfPig := by decide +kernel
  have hk_2n := hE.2.1.1 ("HamCellar", 212, "HamCellar$Leg", "pig", "I", "HamCellar") (by decide +kernel)
  have hk_2 : (Cond.fieldLinkNest "HamCellar" 212 "HamCellar$Leg" "pig" "I" "HamCellar").before ([.ref (ad 0), .int p0] : List Value).toArray s = true := va_Nw.use rfl hk_2n
  have hk_3 : ∀ w ∈ wsX30, w ∈ wsX7_legsOfPig := by decide +kernel
  have hbk_C_X7_legsOfPig_44 : ∀ (K14 : Int32 → Int32 → Int32 → Int32 → Prop) (hK14 : ∀ (v1 : Int32) (v2 : Int32) (v4 : Int32) (v5 : Int32) (H : Heap) (locs : List Loc) (ls : Array Slot), va_P (dC, dI) vwCl (wA ad cB cI cZ cL LP today legCount legs hung warmth damp wopen tsize bytes rat rtold rwrong numbers asked ftold ffarm ffrom fwhat fon csize ctotal offered cws cwa g_number g_farm g_pig g_first g_begun g_weight g_salted g_heat g_place g_target g_feedAsked g_sealed g_bad g_sold) H → va_D A (wA ad cB cI cZ cL LP today legCount legs hung warmth damp wopen tsize bytes rat rtold rwrong numbers asked ftold ffarm ffrom fwhat fon csize ctotal offered cws cwa g_number g_farm g_pig g_first g_begun g_weight g_salted g_heat g_place g_target g_feedAsked g_sealed g_bad g_sold) → va_S A s.heap H locs → lv_has ls 7 [(1, .int v1), (2, .int v2), (3, .ref (ad 1)), (4, .int v4), (5, .int v5)] → K14 v1 v2 v4 v5 → W p l e (headSpec wsX7_legsOfPig rm_C_X7_legsOfPig).room s m ([.ref (ad 0), .int p0] : List Value).toArray below meth c H locs 0 0 (MQ below (pq_C_X7_legsOfPig dC dI ad cB cI cZ cL A LP today legCount legs hung warmth damp wopen tsize bytes rat rtold rwrong numbers asked ftold ffarm ffrom fwhat fon csize ctotal offered cws cwa g_number g_farm g_pig g_first g_begun g_weight g_salted g_heat g_place g_target g_feedAsked g_sealed g_bad g_sold Q) ([.ref (ad 0), .int p0] : List Value).toArray s 0 0 A) (F0 m 14 ls [])) (v1 : Int32) (v2 : Int32) (v4 : Int32) (v5 : Int32) (H : Heap) (locs : List Loc) (ls : Array Slot), va_P (dC, dI) vwCl (wA ad cB cI cZ cL LP today legCount legs hung warmth damp wopen tsize bytes rat rtold rwrong numbers asked ftold ffarm ffrom fwhat fon csize ctotal offered cws cwa g_number g_farm g_pig g_first g_begun g_weight g_salted g_heat g_place g_target g_feedAsked g_sealed g_bad g_sold) H → va_D A (wA ad cB cI cZ cL LP today legCount legs hung warmth damp wopen tsize bytes rat rtold rwrong numbers asked ftold ffarm ffrom fwhat fon csize ctotal offered cws cwa g_number g_farm g_pig g_first g_begun g_weight g_salted g_heat g_place g_target g_feedAsked g_sealed g_bad g_sold) → va_S A s.heap H locs → lv_has ls 7 [(1, .int v1), (2, .int v2), (3, .ref (ad 1)), (4, .int v4), (5, .int v5)] → bk_C_X7_legsOfPig_44 LP legs g_pig Q K14 v1 v2 v4 v5 → W p l e (headSpec wsX7_legsOfPig rm_C_X7_legsOfPig).room s m ([.ref (ad 0), .int p0] : List Value).toArray below meth c H locs 0 0 (MQ below (pq_C_X7_legsOfPig dC dI ad cB cI cZ cL A LP today legCount legs hung warmth damp wopen tsize bytes rat rtold rwrong numbers asked ftold ffarm ffrom fwhat fon csize ctotal offered cws cwa g_number g_farm g_pig g_first g_begun g_weight g_salted g_heat g_place g_target g_feedAsked g_sealed g_bad g_sold Q) ([.ref (ad 0), .int p0] : List Value).toArray s 0 0 A) (F0 m 44 ls []) := by
    intro K14 hK14 v1 v2 v4 v5 H locs ls hP hD hS hl h
    refine lv_iinc (v := v5 + 1) (lv' := [(5, .int (v5 + 1)), (1, .int v1), (2, .int v2), (3, .ref (ad 1)), (4, .int v4)]) hx hb dX7_legsOfPig_44 hl (k := 4) rfl rfl (by decide) rfl (fun ls hl => ?_)
    refine lv_goto (tgt := 14) hx hb dX7_legsOfPig_47 (by decide) ?_
    exact hK14 v1 v2 v4 (v5 + 1) _ _ _ hP hD hS (lv_sub hl [1, 2, 3, 4, 0] rfl) h
  have hlp_C_X7_legsOfPig_14 : ∀ (n : Nat) (v1 : Int32) (v2 : Int32) (v4 : Int32) (v5 : Int32) (H : Heap) (locs : List Loc) (ls : Array Slot), va_P (dC, dI) vwCl (wA ad cB cI cZ cL LP today legCount legs hung warmth damp wopen tsize bytes rat rtold rwrong numbers asked ftold ffarm ffrom fwhat fon csize ctotal offered cws cwa g_number g_farm g_pig g_first g_begun g_weight g_salted g_heat g_place g_target g_feedAsked g_sealed g_bad g_sold) H → va_D A (wA ad cB cI cZ cL LP today legCount legs hung warmth damp wopen tsize bytes rat rtold rwrong numbers asked ftold ffarm ffrom fwhat fon csize ctotal offered cws cwa g_number g_farm g_pig g_first g_begun g_weight g_salted g_heat g_place g_target g_feedAsked g_sealed g_bad g_sold) → va_S A s.heap H locs → lv_has ls 7 [(1, .int v1), (2, .int v2), (3, .ref (ad 1)), (4, .int v4), (5, .int v5)] → lp_C_X7_legsOfPig_14 LP legs g_pig Q n v1 v2 v4 v5 → W p l e (headSpec wsX7_legsOfPig rm_C_X7_legsOfPig).room s m ([.ref (ad 0), .int p0] : List Value).toArray below meth c H locs 0 0 (MQ below (pq_C_X7_legsOfPig dC dI ad cB cI cZ cL A LP today legCount legs hung warmth damp wopen tsize bytes rat rtold rwrong numbers asked ftold ffarm ffrom fwhat fon csize ctotal offered cws cwa g_number g_farm g_pig g_first g_begun g_weight g_salted g_heat g_place g_target g_feedAsked g_sealed g_bad g_sold Q) ([.ref (ad 0), .int p0] : List Value).toArray s 0 0 A) (F0 m 14 ls []) := by
    intro n
    induction n with
    | zero => intro v1 v2 v4 v5 H locs ls hP hD hS hl h; exact h.elim
    | succ n ih =>
      intro v1 v2 v4 v5 H locs ls hP hD hS hl h
      refine lv_iload hx hb dX7_legsOfPig_14 (lv_at hl 4 rfl) ?_
      refine lv_iload hx hb dX7_legsOfPig_16 (lv_at hl 3 rfl) ?_
      refine lv_icmp_ge (tgt := 50) hx hb dX7_legsOfPig_18 (by decide) (fun c_1 => ?_) (fun c_1 => ?_)
      · have h := h.1 c_1
        refine lv_iload_n hx hb dX7_legsOfPig_50 rfl (lv_at hl 1 rfl) ?_
        exact W.iret (v := v2) hx hb hr (fun t ht hW => ⟨⟨v2, (), rfl, h, kB_mk hP hK hD ht hW.alike⟩, hS.F ht⟩) hS.2.2 dX7_legsOfPig_51
      · have h := h.2 c_1
        refine lv_aload_n hx hb dX7_legsOfPig_21 rfl (lv_at hl 2 rfl) ?_
        refine lv_iload hx hb dX7_legsOfPig_22 (lv_at hl 4 rfl) ?_
        have hi_2 := h.1
        have h := h.2
        refine va_aldq hx hb hK hP 1 3 wA_g1 rfl hi_2 dX7_legsOfPig_24 ?_
        cases hr_4 : legs v5.toNatClampNeg with
        | none =>
          have h := h.1 hr_4
          refine lv_astoreN (lv' := [(6, .null), (1, .int v1), (2, .int v2), (3, .ref (ad 1)), (4, .int v4), (5, .int v5)]) hx hb dX7_legsOfPig_25 hl (by decide) rfl (fun ls hl => ?_)
          refine lv_aloadN hx hb dX7_legsOfPig_27 (lv_at hl 0 rfl) ?_
          refine lv_ifnullN (tgt := 44) hx hb dX7_legsOfPig_29 (by decide) ?_
          exact hbk_C_X7_legsOfPig_44 (lp_C_X7_legsOfPig_14 LP legs g_pig Q n) ih v1 v2 v4 v5 _ _ _ hP hD hS (lv_sub hl [1, 2, 3, 4, 5] rfl) h
        | some y_3 =>
          have hy_y_3 := (h.2 y_3 hr_4).1
          have h := (h.2 y_3 hr_4).2
          refine lv_astore (lv' := [(6, .ref y_3), (1, .int v1), (2, .int v2), (3, .ref (ad 1)), (4, .int v4), (5, .int v5)]) hx hb dX7_legsOfPig_25 hl (by decide) rfl (fun ls hl => ?_)
          refine lv_aload hx hb dX7_legsOfPig_27 (lv_at hl 0 rfl) ?_
          refine lv_ifnull hx hb dX7_legsOfPig_29 ?_
          refine lv_aload hx hb dX7_legsOfPig_32 (lv_at hl 0 rfl) ?_
          obtain ⟨k_6, hg_k_6⟩ := wA_leg hy_y_3
          refine va_getN (D := (dC, dI)) (ci := 3) (v := .int (g_pig y_3)) (C := RX3) (T := TX3) (N := 14) hx hb hts hk_3 hown hK hP k_6 hg_k_6 rfl 2 (by decide) hk_2 (fun _ h9 => h9) rfl dX7_legsOfPig_34 ?_
          refine lv_iload_n hx hb dX7_legsOfPig_37 rfl (lv_at hl 1 rfl) ?_
          refine lv_icmp_ne (tgt := 44) hx hb dX7_legsOfPig_38 (by decide) (fun c_7 => ?_) (fun c_7 => ?_)
          · have h := h.1 c_7
            exact hbk_C_X7_legsOfPig_44 (lp_C_X7_legsOfPig_14 LP legs g_pig Q n) ih v1 v2 v4 v5 _ _ _ hP hD hS (lv_sub hl [1, 2, 3, 4, 5] rfl) h
          · have h := h.2 c_7
            refine lv_iinc (v := v2 + 1) (lv' := [(2, .int (v2 + 1)), (6, .ref y_3), (1, .int v1), (3, .ref (ad 1)), (4, .int v4), (5, .int v5)]) hx hb dX7_legsOfPig_41 hl (k := 2) rfl rfl (by decide) rfl (fun ls hl => ?_)
            exact hbk_C_X7_legsOfPig_44 (lp_C_X7_legsOfPig_14 LP legs g_pig Q n) ih v1 (v2 + 1) v4 v5 _ _ _ hP hD hS (lv_sub hl [2, 0, 3, 4, 5] rfl) h
  have hl := lv_entry ([.ref (ad 0), .int p0]) (n := 7) (Nat.le_of_ble_eq_true rfl)
  rw [lg_entry_eq]
  generalize (lg_sl ([.ref (ad 0), .int p0]) ++ List.replicate (7 - (lg_sl ([.ref (ad 0), .int p0])).length) Slot.unset).toArray = ls at hl ⊢
  have hl : lv_has ls 7 [(0, .ref (ad 0)), (1, .int p0)] := hl
  unfold wp_C_X7_legsOfPig at h
  refine lv_iconst (v := 0) hx hb dX7_legsOfPig_0 (by decide) ?_
  refine lv_istore_n (lv' := [(2, .int 0), (0, .ref (ad 0)), (1, .int p0)]) hx hb dX7_legsOfPig_1 rfl hl (by decide) rfl (fun ls hl => ?_)
  refine lv_aload_n hx hb dX7_legsOfPig_2 rfl (lv_at hl 1 rfl) ?_
  refine va_get (D := (dC, dI)) (ci := 7) (v := .ref (ad 1)) (C := RX7) (T := TX7) (N := 10) hx hb hts hk_1 hown hK hP 0 wA_g0 rfl 2 (by decide) hk_0 (fun _ h9 => h9) rfl dX7_legsOfPig_3 ?_
  refine lv_astore_n (lv' := [(3, .ref (ad 1)), (2, .int 0), (0, .ref (ad 0)), (1, .int p0)]) hx hb dX7_legsOfPig_6 rfl hl (by decide) rfl (fun ls hl => ?_)
  refine lv_aload_n hx hb dX7_legsOfPig_7 rfl (lv_at hl 0 rfl) ?_
  refine va_alen hx hb hK hP 1 3 wA_g1 rfl (v := 60) rfl dX7_legsOfPig_8 ?_
  refine lv_istore (lv' := [(4, .int 60), (3, .ref (ad 1)), (2, .int 0), (0, .ref (ad 0)), (1, .int p0)]) hx hb dX7_legsOfPig_9 hl (by decide) rfl (fun ls hl => ?_)
  refine lv_iconst (v := 0) hx hb dX7_legsOfPig_11 (by decide) ?_
  refine lv_istore (lv' := [(5, .int 0), (4, .int 60), (3, .ref (ad 1)), (2, .int 0), (0, .ref (ad 0)), (1, .int p0)]) hx hb dX7_legsOfPig_12 hl (by decide) rfl (fun ls hl => ?_)
  obtain ⟨n_8, h⟩ := h
  exact hlp_C_X7_legsOfPig_14 n_8 p0 0 60 0 _ _ _ hP hD hS (lv_sub hl [5, 3, 2, 1, 0] rfl) h
def bk_C_X7_leg_28 (today : Int32)  (Q : Int32 → List Nat → Int32 → (Nat → Option Nat) → (Nat → Int32) → (Nat → Int32) → (Nat → Int32) → (Nat → Int32) → (Nat → Int32) → (Nat → Int32) → (Nat → Int32) → (Nat → Int32) → (Nat → Int32) → (Nat → Int32) → (Nat → Int32) → (Nat → Int32) → (Nat → Int32) → (Nat → Int32) → Prop) (X : Nat → List Nat → Int32 → (Nat → Option Nat) → (Nat → Int32) → (Nat → Int32) → (Nat → Int32) → (Nat → Int32) → (Nat → Int32) → (Nat → Int32) → (Nat → Int32) → (Nat → Int32) → (Nat → Int32) → (Nat → Int32) → (Nat → Int32) → (Nat → Int32) → (Nat → Int32) → (Nat → Int32) → Prop) (LP : List Nat) (legCount : Int32) (legs : Nat → Option Nat) (g_number : Nat → Int32) (g_farm : Nat → Int32) (g_pig : Nat → Int32) (g_first : Nat → Int32) (g_begun : Nat → Int32) (g_weight : Nat → Int32) (g_salted : Nat → Int32) (g_heat : Nat → Int32) (g_place : Nat → Int32) (g_target : Nat → Int32) (g_feedAsked : Nat → Int32) (g_sealed : Nat → Int32) (g_bad : Nat → Int32) (g_sold : Nat → Int32) : Prop := X 2 LP legCount legs g_number g_farm g_pig g_first g_begun g_weight g_salted g_heat g_place g_target g_feedAsked g_sealed g_bad g_sold
def bk_C_X7_leg_57 (today : Int32)  (Q : Int32 → List Nat → Int32 → (Nat → Option Nat) → (Nat → Int32) → (Nat → Int32) → (Nat → Int32) → (Nat → Int32) → (Nat → Int32) → (Nat → Int32) → (Nat → Int32) → (Nat → Int32) → (Nat → Int32) → (Nat → Int32) → (Nat → Int32) → (Nat → Int32) → (Nat → Int32) → (Nat → Int32) → Prop) (X : Nat → List Nat → Int32 → (Nat → Option Nat) → (Nat → Int32) → (Nat → Int32) → (Nat → Int32) → (Nat → Int32) → (Nat → Int32) → (Nat → Int32) → (Nat → Int32) → (Nat → Int32) → (Nat → Int32) → (Nat → Int32) → (Nat → Int32) → (Nat → Int32) → (Nat → Int32) → (Nat → Int32) → Prop) (LP : List Nat) (legCount : Int32) (legs : Nat → Option Nat) (g_number : Nat → Int32) (g_farm : Nat → Int32) (g_pig : Nat → Int32) (g_first : Nat → Int32) (g_begun : Nat → Int32) (g_weight : Nat → Int32) (g_salted : Nat → Int32) (g_heat : Nat → Int32) (g_place : Nat → Int32) (g_target : Nat → Int32) (g_feedAsked : Nat → Int32) (g_sealed : Nat → Int32) (g_bad : Nat → Int32) (g_sold : Nat → Int32) : Prop := X 3 LP legCount legs g_number g_farm g_pig g_first g_begun g_weight g_salted g_heat g_place g_target g_feedAsked g_sealed g_bad g_sold
def wp_C_X7_leg (today : Int32) (Q : Int32 → List Nat → Int32 → (Nat → Option Nat) → (Nat → Int32) → (Nat → Int32) → (Nat → Int32) → (Nat → Int32) → (Nat → Int32) → (Nat → Int32) → (Nat → Int32) → (Nat → Int32) → (Nat → Int32) → (Nat → Int32) → (Nat → Int32) → (Nat → Int32) → (Nat → Int32) → (Nat → Int32) → Prop) (X : Nat → List Nat → Int32 → (Nat → Option Nat) → (Nat → Int32) → (Nat → Int32) → (Nat → Int32) → (Nat → Int32) → (Nat → Int32) → (Nat → Int32) → (Nat → Int32) → (Nat → Int32) → (Nat → Int32) → (Nat → Int32) → (Nat → Int32) → (Nat → Int32) → (Nat → Int32) → (Nat → Int32) → Prop) (LP : List Nat) (legCount : Int32) (legs : Nat → Option Nat) (g_number : Nat → Int32) (g_farm : Nat → Int32) (g_pig : Nat → Int32) (g_first : Nat → Int32) (g_begun : Nat → Int32) (g_weight : Nat → Int32) (g_salted : Nat → Int32) (g_heat : Nat → Int32) (g_place : Nat → Int32) (g_target : Nat → Int32) (g_feedAsked : Nat → Int32) (g_sealed : Nat → Int32) (g_bad : Nat → Int32) (g_sold : Nat → Int32) (p0 : Int32) (p1 : Int32) (p2 : Int32) : Prop := wp_C_X7_needFarm (wp_C_X7_isWithin (fun r_2 => ((r_2 = 0 → bk_C_X7_leg_28 today Q X LP legCount legs g_number g_farm g_pig g_first g_begun g_weight g_salted g_heat g_place g_target g_feedAsked g_sealed g_bad g_sold) ∧ (¬ (r_2 = 0) → wp_C_X7_isWithin (fun r_4 => ((¬ r_4 = 0 → ((legCount < 0 → bk_C_X7_leg_57 today Q X LP legCount legs g_number g_farm g_pig g_first g_begun g_weight g_salted g_heat g_place g_target g_feedAsked g_sealed g_bad g_sold) ∧ (¬ (legCount < 0) → ((legCount < 60 → wp_C_X7_legsOfPig LP legs g_pig (fun r_8 => ((r_8 < 2 → (∀ q_10 : Nat, ¬ q_10 ∈ LP → wp_C_X3_init (LP ++ [q_10]) (fun g_number_11 g_farm_11 g_pig_11 g_first_11 g_begun_11 g_weight_11 g_place_11 g_target_11 => (vp_in legCount 60 ∧ Q legCount (LP ++ [q_10]) (legCount + 1) (va_up legs legCount.toNatClampNeg (some q_10)) g_number_11 g_farm_11 g_pig_11 g_first_11 g_begun_11 g_weight_11 (va_up g_salted q_10 0) (va_up g_heat q_10 0) g_place_11 g_target_11 (va_up g_feedAsked q_10 0) (va_up g_sealed q_10 0) (va_up g_bad q_10 0) (va_up g_sold q_10 0))) (va_up g_number q_10 0) (va_up g_farm q_10 0) (va_up g_pig q_10 0) (va_up g_first q_10 0) (va_up g_begun q_10 0) (va_up g_weight q_10 0) (va_up g_place q_10 0) (va_up g_target q_10 0) q_10 legCount p0 p1 p2 today)) ∧ (¬ (r_8 < 2) → Q (-1) LP legCount legs g_number g_farm g_pig g_first g_begun g_weight g_salted g_heat g_place g_target g_feedAsked g_sealed g_bad g_sold))) p1) ∧ (¬ (legCount < 60) → bk_C_X7_leg_57 today Q X LP legCount legs g_number g_farm g_pig g_first g_begun g_weight g_salted g_heat g_place g_target g_feedAsked g_sealed g_bad g_sold))))) ∧ (r_4 = 0 → bk_C_X7_leg_28 today Q X LP legCount legs g_number g_farm g_pig g_first g_begun g_weight g_salted g_heat g_place g_target g_feedAsked g_sealed g_bad g_sold))) p2 5000 15000))) p1 0 9999) (fun x_1 => X x_1 LP legCount legs g_number g_farm g_pig g_first g_begun g_weight g_salted g_heat g_place g_target g_feedAsked g_sealed g_bad g_sold) p0
def rm_C_X7_leg : Room := { frames := 7, cells := 2, slots := 20, locals := 101 }
abbrev pq_C_X7_leg (dC : Nat → ClassId) (dI : Nat → Nat → Nat) (ad : Nat → Nat) (cB cI cZ cL : ClassId) (A : Nat → Prop) (LP : List Nat) (today legCount : Int32) (legs hung : Nat → Option Nat) (warmth damp wopen : Nat → Int32) (tsize : Int32) (bytes : Nat → Int32) (rat rtold rwrong : Int32) (numbers asked : Nat → Int32) (ftold : Int32) (ffarm ffrom fwhat fon : Nat → Int32) (csize ctotal : Int32) (offered : Nat → Option Nat) (cws cwa g_number g_farm g_pig g_first g_begun g_weight g_salted g_heat g_place g_target g_feedAsked g_sealed g_bad g_sold : Nat → Int32) (Q : Int32 → List Nat → Int32 → (Nat → Option Nat) → (Nat → Int32) → (Nat → Int32) → (Nat → Int32) → (Nat → Int32) → (Nat → Int32) → (Nat → Int32) → (Nat → Int32) → (Nat → Int32) → (Nat → Int32) → (Nat → Int32) → (Nat → Int32) → (Nat → Int32) → (Nat → Int32) → (Nat → Int32) → Prop) : Array Value → State → Outcome → State → Prop := va_Qi (fun (r : Int32) (u : List Nat × Int32 × (Nat → Option Nat) × (Nat → Int32) × (Nat → Int32) × (Nat → Int32) × (Nat → Int32) × (Nat → Int32) × (Nat → Int32) × (Nat → Int32) × (Nat → Int32) × (Nat → Int32) × (Nat → Int32) × (Nat → Int32) × (Nat → Int32) × (Nat → Int32) × (Nat → Int32)) => Q r u.1 u.2.1 u.2.2.1 u.2.2.2.1 u.2.2.2.2.1 u.2.2.2.2.2.1 u.2.2.2.2.2.2.1 u.2.2.2.2.2.2.2.1 u.2.2.2.2.2.2.2.2.1 u.2.2.2.2.2.2.2.2.2.1 u.2.2.2.2.2.2.2.2.2.2.1 u.2.2.2.2.2.2.2.2.2.2.2.1 u.2.2.2.2.2.2.2.2.2.2.2.2.1 u.2.2.2.2.2.2.2.2.2.2.2.2.2.1 u.2.2.2.2.2.2.2.2.2.2.2.2.2.2.1 u.2.2.2.2.2.2.2.2.2.2.2.2.2.2.2.1 u.2.2.2.2.2.2.2.2.2.2.2.2.2.2.2.2) (fun u t => kB dC dI A (wA ad cB cI cZ cL u.1 today u.2.1 u.2.2.1 hung warmth damp wopen tsize bytes rat rtold rwrong numbers asked ftold ffarm ffrom fwhat fon csize ctotal offered cws cwa u.2.2.2.1 u.2.2.2.2.1 u.2.2.2.2.2.1 u.2.2.2.2.2.2.1 u.2.2.2.2.2.2.2.1 u.2.2.2.2.2.2.2.2.1 u.2.2.2.2.2.2.2.2.2.1 u.2.2.2.2.2.2.2.2.2.2.1 u.2.2.2.2.2.2.2.2.2.2.2.1 u.2.2.2.2.2.2.2.2.2.2.2.2.1 u.2.2.2.2.2.2.2.2.2.2.2.2.2.1 u.2.2.2.2.2.2.2.2.2.2.2.2.2.2.1 u.2.2.2.2.2.2.2.2.2.2.2.2.2.2.2.1 u.2.2.2.2.2.2.2.2.2.2.2.2.2.2.2.2) (kTy cB cI cZ cL) t) A
abbrev px_C_X7_leg (dC : Nat → ClassId) (dI : Nat → Nat → Nat) (ad : Nat → Nat) (cB cI cZ cL : ClassId) (A : Nat → Prop) (LP : List Nat) (today legCount : Int32) (legs hung : Nat → Option Nat) (warmth damp wopen : Nat → Int32) (tsize : Int32) (bytes : Nat → Int32) (rat rtold rwrong : Int32) (numbers asked : Nat → Int32) (ftold : Int32) (ffarm ffrom fwhat fon : Nat → Int32) (csize ctotal : Int32) (offered : Nat → Option Nat) (cws cwa g_number g_farm g_pig g_first g_begun g_weight g_salted g_heat g_place g_target g_feedAsked g_sealed g_bad g_sold : Nat → Int32) (X : Nat → List Nat → Int32 → (Nat → Option Nat) → (Nat → Int32) → (Nat → Int32) → (Nat → Int32) → (Nat → Int32) → (Nat → Int32) → (Nat → Int32) → (Nat → Int32) → (Nat → Int32) → (Nat → Int32) → (Nat → Int32) → (Nat → Int32) → (Nat → Int32) → (Nat → Int32) → (Nat → Int32) → Prop) : String → State → State → Prop := vx_X (fun u : Nat × List Nat × Int32 × (Nat → Option Nat) × (Nat → Int32) × (Nat → Int32) × (Nat → Int32) × (Nat → Int32) × (Nat → Int32) × (Nat → Int32) × (Nat → Int32) × (Nat → Int32) × (Nat → Int32) × (Nat → Int32) × (Nat → Int32) × (Nat → Int32) × (Nat → Int32) × (Nat → Int32) => X u.1 u.2.1 u.2.2.1 u.2.2.2.1 u.2.2.2.2.1 u.2.2.2.2.2.1 u.2.2.2.2.2.2.1 u.2.2.2.2.2.2.2.1 u.2.2.2.2.2.2.2.2.1 u.2.2.2.2.2.2.2.2.2.1 u.2.2.2.2.2.2.2.2.2.2.1 u.2.2.2.2.2.2.2.2.2.2.2.1 u.2.2.2.2.2.2.2.2.2.2.2.2.1 u.2.2.2.2.2.2.2.2.2.2.2.2.2.1 u.2.2.2.2.2.2.2.2.2.2.2.2.2.2.1 u.2.2.2.2.2.2.2.2.2.2.2.2.2.2.2.1 u.2.2.2.2.2.2.2.2.2.2.2.2.2.2.2.2.1 u.2.2.2.2.2.2.2.2.2.2.2.2.2.2.2.2.2) (fun E u t => E = kEx u.1 ∧ kB dC dI A (wA ad cB cI cZ cL u.2.1 today u.2.2.1 u.2.2.2.1 hung warmth damp wopen tsize bytes rat rtold rwrong numbers asked ftold ffarm ffrom fwhat fon csize ctotal offered cws cwa u.2.2.2.2.1 u.2.2.2.2.2.1 u.2.2.2.2.2.2.1 u.2.2.2.2.2.2.2.1 u.2.2.2.2.2.2.2.2.1 u.2.2.2.2.2.2.2.2.2.1 u.2.2.2.2.2.2.2.2.2.2.1 u.2.2.2.2.2.2.2.2.2.2.2.1 u.2.2.2.2.2.2.2.2.2.2.2.2.1 u.2.2.2.2.2.2.2.2.2.2.2.2.2.1 u.2.2.2.2.2.2.2.2.2.2.2.2.2.2.1 u.2.2.2.2.2.2.2.2.2.2.2.2.2.2.2.1 u.2.2.2.2.2.2.2.2.2.2.2.2.2.2.2.2.1 u.2.2.2.2.2.2.2.2.2.2.2.2.2.2.2.2.2) (kTy cB cI cZ cL) t) A
set_option maxHeartbeats 4000000 in
set_option maxRecDepth 100000 in
theorem c_C_X7_leg (l : Launch) (hl0 : l.stackTraces = false) (dC : Nat → ClassId) (dI : Nat → Nat → Nat) (ad : Nat → Nat) (cB cI cZ cL : ClassId) (A : Nat → Prop) (LP : List Nat) (today legCount : Int32) (legs hung : Nat → Option Nat) (warmth damp wopen : Nat → Int32) (tsize : Int32) (bytes : Nat → Int32) (rat rtold rwrong : Int32) (numbers asked : Nat → Int32) (ftold : Int32) (ffarm ffrom fwhat fon : Nat → Int32) (csize ctotal : Int32) (offered : Nat → Option Nat) (cws cwa g_number g_farm g_pig g_first g_begun g_weight g_salted g_heat g_place g_target g_feedAsked g_sealed g_bad g_sold : Nat → Int32) (p0 : Int32) (p1 : Int32) (p2 : Int32)  (Q : Int32 → List Nat → Int32 → (Nat → Option Nat) → (Nat → Int32) → (Nat → Int32) → (Nat → Int32) → (Nat → Int32) → (Nat → Int32) → (Nat → Int32) → (Nat → Int32) → (Nat → Int32) → (Nat → Int32) → (Nat → Int32) → (Nat → Int32) → (Nat → Int32) → (Nat → Int32) → (Nat → Int32) → Prop) (X : Nat → List Nat → Int32 → (Nat → Option Nat) → (Nat → Int32) → (Nat → Int32) → (Nat → Int32) → (Nat → Int32) → (Nat → Int32) → (Nat → Int32) → (Nat → Int32) → (Nat → Int32) → (Nat → Int32) → (Nat → Int32) → (Nat → Int32) → (Nat → Int32) → (Nat → Int32) → (Nat → Int32) → Prop) (h : wp_C_X7_leg today Q X LP legCount legs g_number g_farm g_pig g_first g_begun g_weight g_salted g_heat g_place g_target g_feedAsked g_sealed g_bad g_sold p0 p1 p2) : vx_Met l yX7_leg wsX7_leg rm_C_X7_leg (va_Pc [.ref (ad 0), .int p0, .int p1, .int p2] (kC dC dI ad A (wA ad cB cI cZ cL LP today legCount legs hung warmth damp wopen tsize bytes rat rtold rwrong numbers asked ftold ffarm ffrom fwhat fon csize ctotal offered cws cwa g_number g_farm g_pig g_first g_begun g_weight g_salted g_heat g_place g_target g_feedAsked g_sealed g_bad g_sold) (kTy cB cI cZ cL))) (pq_C_X7_leg dC dI ad cB cI cZ cL A LP today legCount legs hung warmth damp wopen tsize bytes rat rtold rwrong numbers asked ftold ffarm ffrom fwhat fon csize ctotal offered cws cwa g_number g_farm g_pig g_first g_begun g_weight g_salted g_heat g_place g_target g_feedAsked g_sealed g_bad g_sold Q) (px_C_X7_leg dC dI ad cB cI cZ cL A LP today legCount legs hung warmth damp wopen tsize bytes rat rtold rwrong numbers asked ftold ffarm ffrom fwhat fon csize ctotal offered cws cwa g_number g_farm g_pig g_first g_begun g_weight g_salted g_heat g_place g_target g_feedAsked g_sealed g_bad g_sold X) 2 20 A := by
  refine vx_ofW (cc := cX7_leg) (maxL := 5) (ret := (some .int)) (by decide) rfl ?_
  intro p e s m args below meth c s₁ B hml htb hv
  obtain ⟨rfl, hA, hP, hK, hD, hE⟩ := hv
  have hx := B.exec
  have hb := B.bytes
  have hr := B.returns
  have hts := atoms_spec (ws := wsX7_leg) B.pre
  have hown : s.vm.findClass RX7 = some m.cls := findClass_of_methodNamed B.named
  have hlocks := B.notSynchronized
  have hS : va_S A s.heap s.heap [] := va_S.rf
  have hk_0 := hts (.classLink RX7 85 "java/lang/IllegalArgumentException") (by decide +kernel)
  have hk_1 := hts (.initialized "java/lang/IllegalArgumentException") (by decide +kernel)
  have hk_2 : (∀ w ∈ vx_at0 RX7 87 "java/lang/IllegalArgumentException" ["java/lang/RuntimeException", "java/lang/Exception"], w.before ([.ref (ad 0), .int p0, .int p1, .int p2] : List Value).toArray s = true) ∧ (∀ w ∈ Cond.classLink RX7 85 "java/lang/IllegalArgumentException" :: Cond.initialized "java/lang/IllegalArgumentException" :: vx_at0 RX7 87 "java/lang/IllegalArgumentException" ["java/lang/RuntimeException", "java/lang/Exception"], vx_ot w = true) := ⟨vx_hat (B := [.castable "java/lang/IllegalArgumentException" "java/lang/IllegalArgumentException", .declares ⟨"java/lang/RuntimeException", "<init>", "()V"⟩, .declares ⟨"java/lang/Exception", "<init>", "()V"⟩, .declares ⟨"java/lang/Throwable", "<init>", "()V"⟩]) (fun w hw => hts w ((by decide +kernel : ∀ w ∈ (vx_at0 RX7 87 "java/lang/IllegalArgumentException" ["java/lang/RuntimeException", "java/lang/Exception"]).filter goodWord, w ∈ wsX7_leg) w hw)) (by decide +kernel) (vx_c (va_Nw.use rfl (hE.2.1.2.2.1 "java/lang/IllegalArgumentException" (by decide))) (vx_c (va_Nw.use rfl (hE.2.1.2.2.2 _ (List.mem_of_getElem? (i := 0) rfl))) (vx_c (va_Nw.use rfl (hE.2.1.2.2.2 _ (List.mem_of_getElem? (i := 1) rfl))) (vx_c (va_Nw.use rfl (hE.2.1.2.2.2 _ (List.mem_of_getElem? (i := 2) rfl))) vx_n)))), by decide +kernel⟩
  have hk_3 := hts (.fieldLink RX7 88 "HamCellar" "legCount" "I") (by decide +kernel)
  have hk_4 : ∀ w ∈ wsX70, w ∈ wsX7_leg := by decide +kernel
  have hk_5 := hts (.classLink RX7 92 "java/lang/UnsupportedOperationException") (by decide +kernel)
  have hk_6 := hts (.initialized "java/lang/UnsupportedOperationException") (by decide +kernel)
  have hk_7 : (∀ w ∈ vx_at0 RX7 94 "java/lang/UnsupportedOperationException" ["java/lang/RuntimeException", "java/lang/Exception"], w.before ([.ref (ad 0), .int p0, .int p1, .int p2] : List Value).toArray s = true) ∧ (∀ w ∈ Cond.classLink RX7 92 "java/lang/UnsupportedOperationException" :: Cond.initialized "java/lang/UnsupportedOperationException" :: vx_at0 RX7 94 "java/lang/UnsupportedOperationException" ["java/lang/RuntimeException", "java/lang/Exception"], vx_ot w = true) := ⟨vx_hat (B := [.castable "java/lang/UnsupportedOperationException" "java/lang/UnsupportedOperationException", .declares ⟨"java/lang/RuntimeException", "<init>", "()V"⟩, .declares ⟨"java/lang/Exception", "<init>", "()V"⟩, .declares ⟨"java/lang/Throwable", "<init>", "()V"⟩]) (fun w hw => hts w ((by decide +kernel : ∀ w ∈ (vx_at0 RX7 94 "java/lang/UnsupportedOperationException" ["java/lang/RuntimeException", "java/lang/Exception"]).filter goodWord, w ∈ wsX7_leg) w hw)) (by decide +kernel) (vx_c (va_Nw.use rfl (hE.2.1.2.2.1 "java/lang/UnsupportedOperationException" (by decide))) (vx_c (va_Nw.use rfl (hE.2.1.2.2.2 _ (List.mem_of_getElem? (i := 0) rfl))) (vx_c (va_Nw.use rfl (hE.2.1.2.2.2 _ (List.mem_of_getElem? (i := 1) rfl))) (vx_c (va_Nw.use rfl (hE.2.1.2.2.2 _ (List.mem_of_getElem? (i := 2) rfl))) vx_n)))), by decide +kernel⟩
  have hk_8 := hts (.fieldLink RX7 11 "HamCellar" "legs" "[LHamCellar$Leg;") (by decide +kernel)
  have hk_9 := hts (.classLink RX7 9 RX3) (by decide +kernel)
  have hk_10 := hts (.instantiable RX3 14) (by decide +kernel)
  have hk_11 := hts (.initialized RX3) (by decide +kernel)
  have hk_12 : ∀ w ∈ wsX30, w ∈ wsX7_leg := by decide +kernel
  have hk_13 := hts (.fieldLink RX7 99 "HamCellar" "today" "I") (by decide +kernel)
  have hk_14 := hts (.methodLink RX7 102 yX3_init) (by decide +kernel)
  have hk_15 := hts (.instanceMethod yX3_init) (by decide +kernel)
  have hbk_C_X7_leg_28 : ∀ (LP : List Nat) (legCount : Int32) (legs : Nat → Option Nat) (g_number : Nat → Int32) (g_farm : Nat → Int32) (g_pig : Nat → Int32) (g_first : Nat → Int32) (g_begun : Nat → Int32) (g_weight : Nat → Int32) (g_salted : Nat → Int32) (g_heat : Nat → Int32) (g_place : Nat → Int32) (g_target : Nat → Int32) (g_feedAsked : Nat → Int32) (g_sealed : Nat → Int32) (g_bad : Nat → Int32) (g_sold : Nat → Int32) (H : Heap) (locs : List Loc) (ls : Array Slot), va_P (dC, dI) vwCl (wA ad cB cI cZ cL LP today legCount legs hung warmth damp wopen tsize bytes rat rtold rwrong numbers asked ftold ffarm ffrom fwhat fon csize ctotal offered cws cwa g_number g_farm g_pig g_first g_begun g_weight g_salted g_heat g_place g_target g_feedAsked g_sealed g_bad g_sold) H → va_D A (wA ad cB cI cZ cL LP today legCount legs hung warmth damp wopen tsize bytes rat rtold rwrong numbers asked ftold ffarm ffrom fwhat fon csize ctotal offered cws cwa g_number g_farm g_pig g_first g_begun g_weight g_salted g_heat g_place g_target g_feedAsked g_sealed g_bad g_sold) → va_S A s.heap H locs → lv_has ls 5 [] → bk_C_X7_leg_28 today Q X LP legCount legs g_number g_farm g_pig g_first g_begun g_weight g_salted g_heat g_place g_target g_feedAsked g_sealed g_bad g_sold → W p l e (headSpec wsX7_leg rm_C_X7_leg).room s m ([.ref (ad 0), .int p0, .int p1, .int p2] : List Value).toArray below meth c H locs 1 6 (vx_MQ below (pq_C_X7_leg dC dI ad cB cI cZ cL A LP today legCount legs hung warmth damp wopen tsize bytes rat rtold rwrong numbers asked ftold ffarm ffrom fwhat fon csize ctotal offered cws cwa g_number g_farm g_pig g_first g_begun g_weight g_salted g_heat g_place g_target g_feedAsked g_sealed g_bad g_sold Q) (px_C_X7_leg dC dI ad cB cI cZ cL A LP today legCount legs hung warmth damp wopen tsize bytes rat rtold rwrong numbers asked ftold ffarm ffrom fwhat fon csize ctotal offered cws cwa g_number g_farm g_pig g_first g_begun g_weight g_salted g_heat g_place g_target g_feedAsked g_sealed g_bad g_sold X) ([.ref (ad 0), .int p0, .int p1, .int p2] : List Value).toArray s 2 20 A) (F0 m 28 ls []) := by
    intro LP legCount legs g_number g_farm g_pig g_first g_begun g_weight g_salted g_heat g_place g_target g_feedAsked g_sealed g_bad g_sold H locs ls hP hD hS hl h
    exact vx_throw0 (own := RX7) (cls := "java/lang/IllegalArgumentException") (names := ["java/lang/RuntimeException", "java/lang/Exception"]) hx hb hl0 hown (by decide +kernel) (by decide +kernel) hk_0 hk_1 hk_2.1 hk_2.2 hE.1.1 hE.1.2 hS (hl.1.trans hml.symm) dX7_leg_28 dX7_leg_31 dX7_leg_32 dX7_leg_35 (fun x9 hx9 => (htb x9 hx9).elim) (Nat.le_of_ble_eq_true rfl) (Nat.le_of_ble_eq_true rfl) (Nat.le_of_ble_eq_true rfl) (Nat.le_of_ble_eq_true rfl) hlocks (fun t hv9 hz9 hk9 => by obtain ⟨b9, f9⟩ := kX_mk hS hP hK hD hv9 hz9 hk9; exact ⟨(2, LP, legCount, legs, g_number, g_farm, g_pig, g_first, g_begun, g_weight, g_salted, g_heat, g_place, g_target, g_feedAsked, g_sealed, g_bad, g_sold), h, ⟨rfl, b9⟩, f9⟩) hS.2.2 (Nat.le_of_ble_eq_true rfl) (Nat.le_of_ble_eq_true rfl)
  have hbk_C_X7_leg_57 : ∀ (LP : List Nat) (legCount : Int32) (legs : Nat → Option Nat) (g_number : Nat → Int32) (g_farm : Nat → Int32) (g_pig : Nat → Int32) (g_first : Nat → Int32) (g_begun : Nat → Int32) (g_weight : Nat → Int32) (g_salted : Nat → Int32) (g_heat : Nat → Int32) (g_place : Nat → Int32) (g_target : Nat → Int32) (g_feedAsked : Nat → Int32) (g_sealed : Nat → Int32) (g_bad : Nat → Int32) (g_sold : Nat → Int32) (H : Heap) (locs : List Loc) (ls : Array Slot), va_P (dC, dI) vwCl (wA ad cB cI cZ cL LP today legCount legs hung warmth damp wopen tsize bytes rat rtold rwrong numbers asked ftold ffarm ffrom fwhat fon csize ctotal offered cws cwa g_number g_farm g_pig g_first g_begun g_weight g_salted g_heat g_place g_target g_feedAsked g_sealed g_bad g_sold) H → va_D A (wA ad cB cI cZ cL LP today legCount legs hung warmth damp wopen tsize bytes rat rtold rwrong numbers asked ftold ffarm ffrom fwhat fon csize ctotal offered cws cwa g_number g_farm g_pig g_first g_begun g_weight g_salted g_heat g_place g_target g_feedAsked g_sealed g_bad g_sold) → va_S A s.heap H locs → lv_has ls 5 [] → bk_C_X7_leg_57 today Q X LP legCount legs g_number g_farm g_pig g_first g_begun g_weight g_salted g_heat g_place g_target g_feedAsked g_sealed g_bad g_sold → W p l e (headSpec wsX7_leg rm_C_X7_leg).room s m ([.ref (ad 0), .int p0, .int p1, .int p2] : List Value).toArray below meth c H locs 1 6 (vx_MQ below (pq_C_X7_leg dC dI ad cB cI cZ cL A LP today legCount legs hung warmth damp wopen tsize bytes rat rtold rwrong numbers asked ftold ffarm ffrom fwhat fon csize ctotal offered cws cwa g_number g_farm g_pig g_first g_begun g_weight g_salted g_heat g_place g_target g_feedAsked g_sealed g_bad g_sold Q) (px_C_X7_leg dC dI ad cB cI cZ cL A LP today legCount legs hung warmth damp wopen tsize bytes rat rtold rwrong numbers asked ftold ffarm ffrom fwhat fon csize ctotal offered cws cwa g_number g_farm g_pig g_first g_begun g_weight g_salted g_heat g_place g_target g_feedAsked g_sealed g_bad g_sold X) ([.ref (ad 0), .int p0, .int p1, .int p2] : List Value).toArray s 2 20 A) (F0 m 57 ls []) := by
    intro LP legCount legs g_number g_farm g_pig g_first g_begun g_weight g_salted g_heat g_place g_target g_feedAsked g_sealed g_bad g_sold H locs ls hP hD hS hl h
    exact vx_throw0 (own := RX7) (cls := "java/lang/UnsupportedOperationException") (names := ["java/lang/RuntimeException", "java/lang/Exception"]) hx hb hl0 hown (by decide +kernel) (by decide +kernel) hk_5 hk_6 hk_7.1 hk_7.2 hE.1.1 hE.1.2 hS (hl.1.trans hml.symm) dX7_leg_57 dX7_leg_60 dX7_leg_61 dX7_leg_64 (fun x9 hx9 => (htb x9 hx9).elim) (Nat.le_of_ble_eq_true rfl) (Nat.le_of_ble_eq_true rfl) (Nat.le_of_ble_eq_true rfl) (Nat.le_of_ble_eq_true rfl) hlocks (fun t hv9 hz9 hk9 => by obtain ⟨b9, f9⟩ := kX_mk hS hP hK hD hv9 hz9 hk9; exact ⟨(3, LP, legCount, legs, g_number, g_farm, g_pig, g_first, g_begun, g_weight, g_salted, g_heat, g_place, g_target, g_feedAsked, g_sealed, g_bad, g_sold), h, ⟨rfl, b9⟩, f9⟩) hS.2.2 (Nat.le_of_ble_eq_true rfl) (Nat.le_of_ble_eq_true rfl)
  have hl := lv_entry ([.ref (ad 0), .int p0, .int p1, .int p2]) (n := 5) (Nat.le_of_ble_eq_true rfl)
  rw [lg_entry_eq]
  generalize (lg_sl ([.ref (ad 0), .int p0, .int p1, .int p2]) ++ List.replicate (5 - (lg_sl ([.ref (ad 0), .int p0, .int p1, .int p2])).length) Slot.unset).toArray = ls at hl ⊢
  have hl : lv_has ls 5 [(0, .ref (ad 0)), (1, .int p0), (2, .int p1), (3, .int p2)] := hl
  unfold wp_C_X7_leg at h
  refine lv_iload_n hx hb dX7_leg_0 rfl (lv_at hl 1 rfl) ?_
  refine vx_callv (vx_runS (As := [.int p0]) (rest := []) ⟨hx, hb, hml, hown, hts⟩ (c_C_X7_needFarm l hl0 dC dI ad cB cI cZ cL A LP today legCount legs hung warmth damp wopen tsize bytes rat rtold rwrong numbers asked ftold ffarm ffrom fwhat fon csize ctotal offered cws cwa g_number g_farm g_pig g_first g_begun g_weight g_salted g_heat g_place g_target g_feedAsked g_sealed g_bad g_sold p0 _ _ h) (va_cwS 1 hts gX7_leg_X7_needFarm rfl rfl rfl (by decide +kernel) ⟨(Nat.le_of_ble_eq_true rfl), (Nat.le_of_ble_eq_true rfl)⟩) ⟨kC_blind, fun U hU hW => ⟨rfl, kC_go hA hS hP hK hD hE U hU hW⟩⟩ rfl rfl hl.1 rfl (lv_room (Nat.le_of_ble_eq_true rfl)) dX7_leg_1 ⟨(Nat.le_of_ble_eq_true rfl), (Nat.le_of_ble_eq_true rfl)⟩) hS (fun q _ h => h) (fun q h => h) (fun q _ h => h) (fun E9 ce9 q9 u t H locs ht hvm hw hB hz1 hk1 hS hce hcv hcl => ?_) (fun u t H locs ht hvm hw hB hz1 hk1 hS => ?_)
  · obtain ⟨x_1, rfl⟩ : ∃ z, z = u := ⟨_, rfl⟩
    obtain ⟨rfl, hB⟩ := hB
    have h := hw
    try dsimp only at h
    have hP : va_P (dC, dI) vwCl (wA ad cB cI cZ cL LP today legCount legs hung warmth damp wopen tsize bytes rat rtold rwrong numbers asked ftold ffarm ffrom fwhat fon csize ctotal offered cws cwa g_number g_farm g_pig g_first g_begun g_weight g_salted g_heat g_place g_target g_feedAsked g_sealed g_bad g_sold) H := by rw [← ht]; exact hB.1
    have hD : va_D A (wA ad cB cI cZ cL LP today legCount legs hung warmth damp wopen tsize bytes rat rtold rwrong numbers asked ftold ffarm ffrom fwhat fon csize ctotal offered cws cwa g_number g_farm g_pig g_first g_begun g_weight g_salted g_heat g_place g_target g_feedAsked g_sealed g_bad g_sold) := hB.2.2
    exact vx_out (fun x9 hx9 => (htb x9 hx9).elim) hlocks hce hcv hcl (fun t ht hv9 => ⟨(x_1, LP, legCount, legs, g_number, g_farm, g_pig, g_first, g_begun, g_weight, g_salted, g_heat, g_place, g_target, g_feedAsked, g_sealed, g_bad, g_sold), h, ⟨rfl, kB_mk hP hK hD ht hv9⟩, hS.F ht⟩) hS.2.2 (Nat.le_of_ble_eq_true rfl) (Nat.le_of_ble_eq_true rfl)
  · have h := hw
    try dsimp only at h
    have hP : va_P (dC, dI) vwCl (wA ad cB cI cZ cL LP today legCount legs hung warmth damp wopen tsize bytes rat rtold rwrong numbers asked ftold ffarm ffrom fwhat fon csize ctotal offered cws cwa g_number g_farm g_pig g_first g_begun g_weight g_salted g_heat g_place g_target g_feedAsked g_sealed g_bad g_sold) H := by rw [← ht]; exact hB.1
    have hD : va_D A (wA ad cB cI cZ cL LP today legCount legs hung warmth damp wopen tsize bytes rat rtold rwrong numbers asked ftold ffarm ffrom fwhat fon csize ctotal offered cws cwa g_number g_farm g_pig g_first g_begun g_weight g_salted g_heat g_place g_target g_feedAsked g_sealed g_bad g_sold) := hB.2.2
    refine lv_iload_n hx hb dX7_leg_4 rfl (lv_at hl 2 rfl) ?_
    refine lv_iconst (v := 0) hx hb dX7_leg_5 (by decide) ?_
    refine lv_sipush (v := 9999) hx hb dX7_leg_6 (by decide) ?_
    refine va_calli (va_runS (As := [.int p1, .int 0, .int 9999]) (rest := []) ⟨hx, hb, hml, hown, hts⟩ (c_C_X7_isWithin l dC dI ad cB cI cZ cL A LP today legCount legs hung warmth damp wopen tsize bytes rat rtold rwrong numbers asked ftold ffarm ffrom fwhat fon csize ctotal offered cws cwa g_number g_farm g_pig g_first g_begun g_weight g_salted g_heat g_place g_target g_feedAsked g_sealed g_bad g_sold p1 0 9999 _ h) (va_cwS 3 hts gX7_leg_X7_isWithin rfl rfl rfl (by decide +kernel) ⟨(Nat.le_of_ble_eq_true rfl), (Nat.le_of_ble_eq_true rfl)⟩) ⟨kC_blind, fun U hU hW => ⟨rfl, kC_go hA hS hP hK hD hE U hU hW⟩⟩ rfl rfl hl.1 rfl (lv_room (Nat.le_of_ble_eq_true rfl)) dX7_leg_9 ⟨(Nat.le_of_ble_eq_true rfl), (Nat.le_of_ble_eq_true rfl)⟩) hS (fun q _ h => h) (fun q h => h) (fun r_2 u t H locs ht hvm hw hB hz1 hk1 hS => ?_)
    have h := hw
    try dsimp only at h
    have hP : va_P (dC, dI) vwCl (wA ad cB cI cZ cL LP today legCount legs hung warmth damp wopen tsize bytes rat rtold rwrong numbers asked ftold ffarm ffrom fwhat fon csize ctotal offered cws cwa g_number g_farm g_pig g_first g_begun g_weight g_salted g_heat g_place g_target g_feedAsked g_sealed g_bad g_sold) H := by rw [← ht]; exact hB.1
    have hD : va_D A (wA ad cB cI cZ cL LP today legCount legs hung warmth damp wopen tsize bytes rat rtold rwrong numbers asked ftold ffarm ffrom fwhat fon csize ctotal offered cws cwa g_number g_farm g_pig g_first g_begun g_weight g_salted g_heat g_place g_target g_feedAsked g_sealed g_bad g_sold) := hB.2.2
    refine lv_if_eq (tgt := 28) hx hb dX7_leg_12 (by decide) (fun c_3 => ?_) (fun c_3 => ?_)
    · have h := h.1 c_3
      exact hbk_C_X7_leg_28 LP legCount legs g_number g_farm g_pig g_first g_begun g_weight g_salted g_heat g_place g_target g_feedAsked g_sealed g_bad g_sold _ _ _ hP hD hS (lv_sub hl [] rfl) h
    · have h := h.2 c_3
      refine lv_iload_n hx hb dX7_leg_15 rfl (lv_at hl 3 rfl) ?_
      refine lv_sipush (v := 5000) hx hb dX7_leg_16 (by decide) ?_
      refine lv_sipush (v := 15000) hx hb dX7_leg_19 (by decide) ?_
      refine va_calli (va_runS (As := [.int p2, .int 5000, .int 15000]) (rest := []) ⟨hx, hb, hml, hown, hts⟩ (c_C_X7_isWithin l dC dI ad cB cI cZ cL A LP today legCount legs hung warmth damp wopen tsize bytes rat rtold rwrong numbers asked ftold ffarm ffrom fwhat fon csize ctotal offered cws cwa g_number g_farm g_pig g_first g_begun g_weight g_salted g_heat g_place g_target g_feedAsked g_sealed g_bad g_sold p2 5000 15000 _ h) (va_cwS 3 hts gX7_leg_X7_isWithin rfl rfl rfl (by decide +kernel) ⟨(Nat.le_of_ble_eq_true rfl), (Nat.le_of_ble_eq_true rfl)⟩) ⟨kC_blind, fun U hU hW => ⟨rfl, kC_go hA hS hP hK hD hE U hU hW⟩⟩ rfl rfl hl.1 rfl (lv_room (Nat.le_of_ble_eq_true rfl)) dX7_leg_22 ⟨(Nat.le_of_ble_eq_true rfl), (Nat.le_of_ble_eq_true rfl)⟩) hS (fun q _ h => h) (fun q h => h) (fun r_4 u t H locs ht hvm hw hB hz1 hk1 hS => ?_)
      have h := hw
      try dsimp only at h
      have hP : va_P (dC, dI) vwCl (wA ad cB cI cZ cL LP today legCount legs hung warmth damp wopen tsize bytes rat rtold rwrong numbers asked ftold ffarm ffrom fwhat fon csize ctotal offered cws cwa g_number g_farm g_pig g_first g_begun g_weight g_salted g_heat g_place g_target g_feedAsked g_sealed g_bad g_sold) H := by rw [← ht]; exact hB.1
      have hD : va_D A (wA ad cB cI cZ cL LP today legCount legs hung warmth damp wopen tsize bytes rat rtold rwrong numbers asked ftold ffarm ffrom fwhat fon csize ctotal offered cws cwa g_number g_farm g_pig g_first g_begun g_weight g_salted g_heat g_place g_target g_feedAsked g_sealed g_bad g_sold) := hB.2.2
      refine lv_if_ne (tgt := 36) hx hb dX7_leg_25 (by decide) (fun c_5 => ?_) (fun c_5 => ?_)
      · have h := h.1 c_5
        refine lv_aload_n hx hb dX7_leg_36 rfl (lv_at hl 0 rfl) ?_
        refine va_get (D := (dC, dI)) (ci := 7) (v := .int legCount) (C := RX7) (T := TX7) (N := 10) hx hb hts hk_4 hown hK hP 0 wA_g0 rfl 1 (by decide) hk_3 (fun _ h9 => h9) rfl dX7_leg_37 ?_
        refine lv_istore (lv' := [(4, .int legCount), (0, .ref (ad 0)), (1, .int p0), (2, .int p1), (3, .int p2)]) hx hb dX7_leg_40 hl (by decide) rfl (fun ls hl => ?_)
        refine lv_iload hx hb dX7_leg_42 (lv_at hl 0 rfl) ?_
        refine lv_if_lt (tgt := 57) hx hb dX7_leg_44 (by decide) (fun c_6 => ?_) (fun c_6 => ?_)
        · have h := h.1 c_6
          exact hbk_C_X7_leg_57 LP legCount legs g_number g_farm g_pig g_first g_begun g_weight g_salted g_heat g_place g_target g_feedAsked g_sealed g_bad g_sold _ _ _ hP hD hS (lv_sub hl [] rfl) h
        · have h := h.2 c_6
          refine lv_iload hx hb dX7_leg_47 (lv_at hl 0 rfl) ?_
          refine lv_aload_n hx hb dX7_leg_49 rfl (lv_at hl 1 rfl) ?_
          refine va_get (D := (dC, dI)) (ci := 7) (v := .ref (ad 1)) (C := RX7) (T := TX7) (N := 10) hx hb hts hk_4 hown hK hP 0 wA_g0 rfl 2 (by decide) hk_8 (fun _ h9 => h9) rfl dX7_leg_50 ?_
          refine va_alen hx hb hK hP 1 3 wA_g1 rfl (v := 60) rfl dX7_leg_53 ?_
          refine lv_icmp_lt (tgt := 65) hx hb dX7_leg_54 (by decide) (fun c_7 => ?_) (fun c_7 => ?_)
          · have h := h.1 c_7
            refine lv_aload_n hx hb dX7_leg_65 rfl (lv_at hl 1 rfl) ?_
            refine lv_iload_n hx hb dX7_leg_66 rfl (lv_at hl 3 rfl) ?_
            refine va_calli (va_runV (As := [.int p1]) (rest := []) ⟨hx, hb, hml, hown, hts⟩ (c_C_X7_legsOfPig l dC dI ad cB cI cZ cL A LP today legCount legs hung warmth damp wopen tsize bytes rat rtold rwrong numbers asked ftold ffarm ffrom fwhat fon csize ctotal offered cws cwa g_number g_farm g_pig g_first g_begun g_weight g_salted g_heat g_place g_target g_feedAsked g_sealed g_bad g_sold p1 _ h) (cwV 1 hts gX7_leg_X7_legsOfPig rfl rfl rfl (by decide +kernel) ⟨(Nat.le_of_ble_eq_true rfl), (Nat.le_of_ble_eq_true rfl)⟩) ⟨kC_blind, va_recv hK hP (ci := 7) (q0 := 0) rfl wA_g0, fun U hU hW => ⟨rfl, kC_go hA hS hP hK hD hE U hU hW⟩⟩ rfl rfl hl.1 rfl (lv_room (Nat.le_of_ble_eq_true rfl)) dX7_leg_67 ⟨(Nat.le_of_ble_eq_true rfl), (Nat.le_of_ble_eq_true rfl)⟩) hS (fun q _ h => h) (fun q h => h) (fun r_8 u t H locs ht hvm hw hB hz1 hk1 hS => ?_)
            have h := hw
            try dsimp only at h
            have hP : va_P (dC, dI) vwCl (wA ad cB cI cZ cL LP today legCount legs hung warmth damp wopen tsize bytes rat rtold rwrong numbers asked ftold ffarm ffrom fwhat fon csize ctotal offered cws cwa g_number g_farm g_pig g_first g_begun g_weight g_salted g_heat g_place g_target g_feedAsked g_sealed g_bad g_sold) H := by rw [← ht]; exact hB.1
            have hD : va_D A (wA ad cB cI cZ cL LP today legCount legs hung warmth damp wopen tsize bytes rat rtold rwrong numbers asked ftold ffarm ffrom fwhat fon csize ctotal offered cws cwa g_number g_farm g_pig g_first g_begun g_weight g_salted g_heat g_place g_target g_feedAsked g_sealed g_bad g_sold) := hB.2.2
            refine lv_iconst (v := 2) hx hb dX7_leg_70 (by decide) ?_
            refine lv_icmp_lt (tgt := 76) hx hb dX7_leg_71 (by decide) (fun c_9 => ?_) (fun c_9 => ?_)
            · have h := h.1 c_9
              refine lv_aload_n hx hb dX7_leg_76 rfl (lv_at hl 1 rfl) ?_
              refine va_get (D := (dC, dI)) (ci := 7) (v := .ref (ad 1)) (C := RX7) (T := TX7) (N := 10) hx hb hts hk_4 hown hK hP 0 wA_g0 rfl 2 (by decide) hk_8 (fun _ h9 => h9) rfl dX7_leg_77 ?_
              refine lv_iload hx hb dX7_leg_80 (lv_at hl 0 rfl) ?_
              refine va_new (ci := 3) (fs := [.int 0, .int 0, .int 0, .int 0, .int 0, .int 0, .int 0, .int 0, .int 0, .int 0, .int 0, .int 0, .int 0, .int 0]) (C := RX3) (T := TX3) (N := 14) hx hb hts hk_12 tyX3 tyX3_ok hown hk_9 hk_10 hk_11 hK hP hD hS hA rfl fs14 (Nat.le_of_ble_eq_true rfl) (Nat.le_of_ble_eq_true rfl) dX7_leg_82 (fun q_10 H hP2 hD2 hS => ?_)
              have hq_q_10 : ¬ q_10 ∈ LP := va_pl_fresh2 hD2
              have h := h q_10 hq_q_10
              have hP : va_P (dC, dI) vwCl (wA ad cB cI cZ cL (LP ++ [q_10]) today legCount legs hung warmth damp wopen tsize bytes rat rtold rwrong numbers asked ftold ffarm ffrom fwhat fon csize ctotal offered cws cwa (va_up g_number q_10 0) (va_up g_farm q_10 0) (va_up g_pig q_10 0) (va_up g_first q_10 0) (va_up g_begun q_10 0) (va_up g_weight q_10 0) (va_up g_salted q_10 0) (va_up g_heat q_10 0) (va_up g_place q_10 0) (va_up g_target q_10 0) (va_up g_feedAsked q_10 0) (va_up g_sealed q_10 0) (va_up g_bad q_10 0) (va_up g_sold q_10 0)) H := hP_eq (wA_new hq_q_10) hP2
              have hD : va_D A (wA ad cB cI cZ cL (LP ++ [q_10]) today legCount legs hung warmth damp wopen tsize bytes rat rtold rwrong numbers asked ftold ffarm ffrom fwhat fon csize ctotal offered cws cwa (va_up g_number q_10 0) (va_up g_farm q_10 0) (va_up g_pig q_10 0) (va_up g_first q_10 0) (va_up g_begun q_10 0) (va_up g_weight q_10 0) (va_up g_salted q_10 0) (va_up g_heat q_10 0) (va_up g_place q_10 0) (va_up g_target q_10 0) (va_up g_feedAsked q_10 0) (va_up g_sealed q_10 0) (va_up g_bad q_10 0) (va_up g_sold q_10 0)) := hD_eq (wA_new hq_q_10) hD2
              refine lv_dup hx hb dX7_leg_85 rfl ?_
              refine lv_iload hx hb dX7_leg_86 (lv_at hl 0 rfl) ?_
              refine lv_iload_n hx hb dX7_leg_88 rfl (lv_at hl 2 rfl) ?_
              refine lv_iload_n hx hb dX7_leg_89 rfl (lv_at hl 3 rfl) ?_
              refine lv_iload_n hx hb dX7_leg_90 rfl (lv_at hl 4 rfl) ?_
              refine lv_aload_n hx hb dX7_leg_91 rfl (lv_at hl 1 rfl) ?_
              refine va_get (D := (dC, dI)) (ci := 7) (v := .int today) (C := RX7) (T := TX7) (N := 10) hx hb hts hk_4 hown hK hP 0 wA_g0 rfl 0 (by decide) hk_13 (fun _ h9 => h9) rfl dX7_leg_92 ?_
              refine va_callv (va_runI (As := [.int legCount, .int p0, .int p1, .int p2, .int today]) (rest := [.ref q_10, .int legCount, .ref (ad 1)]) ⟨hx, hb, hml, hown, hts⟩ (c_C_X3_init l dC dI ad cB cI cZ cL A (LP ++ [q_10]) today legCount legs hung warmth damp wopen tsize bytes rat rtold rwrong numbers asked ftold ffarm ffrom fwhat fon csize ctotal offered cws cwa (va_up g_number q_10 0) (va_up g_farm q_10 0) (va_up g_pig q_10 0) (va_up g_first q_10 0) (va_up g_begun q_10 0) (va_up g_weight q_10 0) (va_up g_salted q_10 0) (va_up g_heat q_10 0) (va_up g_place q_10 0) (va_up g_target q_10 0) (va_up g_feedAsked q_10 0) (va_up g_sealed q_10 0) (va_up g_bad q_10 0) (va_up g_sold q_10 0) q_10 legCount p0 p1 p2 today (List.mem_append_right _ List.mem_cons_self) _ h) (cwI 5 hts gX7_leg_X3_init rfl rfl rfl hk_11 hk_14 hk_15 rfl (by decide +kernel) ⟨(Nat.le_of_ble_eq_true rfl), (Nat.le_of_ble_eq_true rfl)⟩) ⟨kC_blind, fun U hU hW => ⟨rfl, kC_go hA hS hP hK hD hE U hU hW⟩⟩ rfl rfl hl.1 rfl (lv_room (Nat.le_of_ble_eq_true rfl)) dX7_leg_95 ⟨(Nat.le_of_ble_eq_true rfl), (Nat.le_of_ble_eq_true rfl)⟩) hS (fun q _ h => h) (fun q h => h) (fun u t H locs ht hvm hw hB hz1 hk1 hS => ?_)
              obtain ⟨g_number_11, g_farm_11, g_pig_11, g_first_11, g_begun_11, g_weight_11, g_place_11, g_target_11⟩ := u
              have h := hw
              try dsimp only at h
              have hP : va_P (dC, dI) vwCl (wA ad cB cI cZ cL (LP ++ [q_10]) today legCount legs hung warmth damp wopen tsize bytes rat rtold rwrong numbers asked ftold ffarm ffrom fwhat fon csize ctotal offered cws cwa g_number_11 g_farm_11 g_pig_11 g_first_11 g_begun_11 g_weight_11 (va_up g_salted q_10 0) (va_up g_heat q_10 0) g_place_11 g_target_11 (va_up g_feedAsked q_10 0) (va_up g_sealed q_10 0) (va_up g_bad q_10 0) (va_up g_sold q_10 0)) H := by rw [← ht]; exact hB.1
              have hD : va_D A (wA ad cB cI cZ cL (LP ++ [q_10]) today legCount legs hung warmth damp wopen tsize bytes rat rtold rwrong numbers asked ftold ffarm ffrom fwhat fon csize ctotal offered cws cwa g_number_11 g_farm_11 g_pig_11 g_first_11 g_begun_11 g_weight_11 (va_up g_salted q_10 0) (va_up g_heat q_10 0) g_place_11 g_target_11 (va_up g_feedAsked q_10 0) (va_up g_sealed q_10 0) (va_up g_bad q_10 0) (va_up g_sold q_10 0)) := hB.2.2
              have hi_12 := h.1
              have h := h.2
              obtain ⟨k_13, hg_k_13⟩ := wA_leg (List.mem_append_right _ List.mem_cons_self)
              refine va_astq (r := (RX3, TX3, 14)) hx hb hK hP hD hS 1 3 k_13 3 wA_g1 rfl hg_k_13 rfl hi_12 dX7_leg_98 (fun H locs hP2 hD2 hS => ?_)
              have hP : va_P (dC, dI) vwCl (wA ad cB cI cZ cL (LP ++ [q_10]) today legCount (va_up legs legCount.toNatClampNeg (some q_10)) hung warmth damp wopen tsize bytes rat rtold rwrong numbers asked ftold ffarm ffrom fwhat fon csize ctotal offered cws cwa g_number_11 g_farm_11 g_pig_11 g_first_11 g_begun_11 g_weight_11 (va_up g_salted q_10 0) (va_up g_heat q_10 0) g_place_11 g_target_11 (va_up g_feedAsked q_10 0) (va_up g_sealed q_10 0) (va_up g_bad q_10 0) (va_up g_sold q_10 0)) H := hP_eq (wA_p_legs) hP2
              have hD : va_D A (wA ad cB cI cZ cL (LP ++ [q_10]) today legCount (va_up legs legCount.toNatClampNeg (some q_10)) hung warmth damp wopen tsize bytes rat rtold rwrong numbers asked ftold ffarm ffrom fwhat fon csize ctotal offered cws cwa g_number_11 g_farm_11 g_pig_11 g_first_11 g_begun_11 g_weight_11 (va_up g_salted q_10 0) (va_up g_heat q_10 0) g_place_11 g_target_11 (va_up g_feedAsked q_10 0) (va_up g_sealed q_10 0) (va_up g_bad q_10 0) (va_up g_sold q_10 0)) := hD_eq (wA_p_legs) hD2
              refine lv_aload_n hx hb dX7_leg_99 rfl (lv_at hl 1 rfl) ?_
              refine lv_dup hx hb dX7_leg_100 rfl ?_
              refine va_get (D := (dC, dI)) (ci := 7) (v := .int legCount) (C := RX7) (T := TX7) (N := 10) hx hb hts hk_4 hown hK hP 0 wA_g0 rfl 1 (by decide) hk_3 (fun _ h9 => h9) rfl dX7_leg_101 ?_
              refine lv_iconst (v := 1) hx hb dX7_leg_104 (by decide) ?_
              refine lv_iadd hx hb dX7_leg_105 ?_
              refine va_put (D := (dC, dI)) (ci := 7) (v := .int (legCount + 1)) (ty := .int) (C := RX7) (T := TX7) (N := 10) hx hb hts hk_4 tyX7 tyX7_ok nmX7 hown hK hP hD hS 0 wA_g0 rfl 1 (by decide) hk_3 (fun _ h9 => h9) rfl (by decide +kernel) rfl rfl (Nat.le_of_ble_eq_true rfl) dX7_leg_106 (fun H locs hP2 hD2 hS => ?_)
              have hP : va_P (dC, dI) vwCl (wA ad cB cI cZ cL (LP ++ [q_10]) today (legCount + 1) (va_up legs legCount.toNatClampNeg (some q_10)) hung warmth damp wopen tsize bytes rat rtold rwrong numbers asked ftold ffarm ffrom fwhat fon csize ctotal offered cws cwa g_number_11 g_farm_11 g_pig_11 g_first_11 g_begun_11 g_weight_11 (va_up g_salted q_10 0) (va_up g_heat q_10 0) g_place_11 g_target_11 (va_up g_feedAsked q_10 0) (va_up g_sealed q_10 0) (va_up g_bad q_10 0) (va_up g_sold q_10 0)) H := hP_eq (wA_p_legCount) hP2
              have hD : va_D A (wA ad cB cI cZ cL (LP ++ [q_10]) today (legCount + 1) (va_up legs legCount.toNatClampNeg (some q_10)) hung warmth damp wopen tsize bytes rat rtold rwrong numbers asked ftold ffarm ffrom fwhat fon csize ctotal offered cws cwa g_number_11 g_farm_11 g_pig_11 g_first_11 g_begun_11 g_weight_11 (va_up g_salted q_10 0) (va_up g_heat q_10 0) g_place_11 g_target_11 (va_up g_feedAsked q_10 0) (va_up g_sealed q_10 0) (va_up g_bad q_10 0) (va_up g_sold q_10 0)) := hD_eq (wA_p_legCount) hD2
              refine lv_iload hx hb dX7_leg_109 (lv_at hl 0 rfl) ?_
              refine vx_ret ?_
              exact W.iret (v := legCount) hx hb hr (fun t ht hW => ⟨⟨legCount, ((LP ++ [q_10]), legCount + 1, va_up legs legCount.toNatClampNeg (some q_10), g_number_11, g_farm_11, g_pig_11, g_first_11, g_begun_11, g_weight_11, va_up g_salted q_10 0, va_up g_heat q_10 0, g_place_11, g_target_11, va_up g_feedAsked q_10 0, va_up g_sealed q_10 0, va_up g_bad q_10 0, va_up g_sold q_10 0), rfl, h, kB_mk hP hK hD ht hW.alike⟩, hS.F ht⟩) hS.2.2 dX7_leg_111
            · have h := h.2 c_9
              refine lv_iconst (v := (-1)) hx hb dX7_leg_74 (by decide) ?_
              refine W.widen (k := 2) (n := 20) (Nat.le_of_ble_eq_true rfl) (Nat.le_of_ble_eq_true rfl) ?_
              refine vx_ret ?_
              exact W.iret (v := (-1)) hx hb hr (fun t ht hW => ⟨⟨(-1), (LP, legCount, legs, g_number, g_farm, g_pig, g_first, g_begun, g_weight, g_salted, g_heat, g_place, g_target, g_feedAsked, g_sealed, g_bad, g_sold), rfl, h, kB_mk hP hK hD ht hW.alike⟩, hS.F ht⟩) hS.2.2 dX7_leg_75
          · have h := h.2 c_7
            exact hbk_C_X7_leg_57 LP legCount legs g_number g_farm g_pig g_first g_begun g_weight g_salted g_heat g_place g_target g_feedAsked g_sealed g_bad g_sold _ _ _ hP hD hS (lv_sub hl [] rfl) h
      · have h := h.2 c_5
        exact hbk_C_X7_leg_28 LP legCount legs g_number g_farm g_pig g_first g_begun g_weight g_salted g_heat g_place g_target g_feedAsked g_sealed g_bad g_sold _ _ _ hP hD hS (lv_sub hl [] rfl) h
def bk_C_X7_needLeg_23 (LP : List Nat) (legs : Nat → Option Nat)  (Q : Option Nat → Prop) (X : Nat → Prop)  : Prop := X 1
def bk_C_X7_needLeg_22 (LP : List Nat) (legs : Nat → Option Nat)  (Q : Option Nat → Prop) (X : Nat → Prop)  : Prop := bk_C_X7_needLeg_23 LP legs Q X
def bk_C_X7_needLeg_23_1 (LP : List Nat) (legs : Nat → Option Nat)  (Q : Option Nat → Prop) (X : Nat → Prop) (k0 : Nat) : Prop := Q (some k0)
def wp_C_X7_needLeg (LP : List Nat) (legs : Nat → Option Nat) (Q : Option Nat → Prop) (X : Nat → Prop) (p0 : Int32) : Prop := ((p0 < 0 → bk_C_X7_needLeg_22 LP legs Q X) ∧ (¬ (p0 < 0) → ((60 ≤ p0 → bk_C_X7_needLeg_22 LP legs Q X) ∧ (¬ (60 ≤ p0) → (vp_in p0 60 ∧ ((legs p0.toNatClampNeg = none → bk_C_X7_needLeg_23 LP legs Q X) ∧ (∀ y_4 : Nat, legs p0.toNatClampNeg = some y_4 → y_4 ∈ LP ∧ bk_C_X7_needLeg_23_1 LP legs Q X y_4)))))))
def rm_C_X7_needLeg : Room := { frames := 6, cells := 1, slots := 6, locals := 81 }
abbrev pq_C_X7_needLeg (dC : Nat → ClassId) (dI : Nat → Nat → Nat) (ad : Nat → Nat) (cB cI cZ cL : ClassId) (A : Nat → Prop) (LP : List Nat) (today legCount : Int32) (legs hung : Nat → Option Nat) (warmth damp wopen : Nat → Int32) (tsize : Int32) (bytes : Nat → Int32) (rat rtold rwrong : Int32) (numbers asked : Nat → Int32) (ftold : Int32) (ffarm ffrom fwhat fon : Nat → Int32) (csize ctotal : Int32) (offered : Nat → Option Nat) (cws cwa g_number g_farm g_pig g_first g_begun g_weight g_salted g_heat g_place g_target g_feedAsked g_sealed g_bad g_sold : Nat → Int32) (Q : Option Nat → Prop) : Array Value → State → Outcome → State → Prop := va_Qq (fun (r : Option Nat) (u : Unit) => Q r ) (fun u t => kB dC dI A (wA ad cB cI cZ cL LP today legCount legs hung warmth damp wopen tsize bytes rat rtold rwrong numbers asked ftold ffarm ffrom fwhat fon csize ctotal offered cws cwa g_number g_farm g_pig g_first g_begun g_weight g_salted g_heat g_place g_target g_feedAsked g_sealed g_bad g_sold) (kTy cB cI cZ cL) t) A
abbrev px_C_X7_needLeg (dC : Nat → ClassId) (dI : Nat → Nat → Nat) (ad : Nat → Nat) (cB cI cZ cL : ClassId) (A : Nat → Prop) (LP : List Nat) (today legCount : Int32) (legs hung : Nat → Option Nat) (warmth damp wopen : Nat → Int32) (tsize : Int32) (bytes : Nat → Int32) (rat rtold rwrong : Int32) (numbers asked : Nat → Int32) (ftold : Int32) (ffarm ffrom fwhat fon : Nat → Int32) (csize ctotal : Int32) (offered : Nat → Option Nat) (cws cwa g_number g_farm g_pig g_first g_begun g_weight g_salted g_heat g_place g_target g_feedAsked g_sealed g_bad g_sold : Nat → Int32) (X : Nat → Prop) : String → State → State → Prop := vx_X (fun u : Nat => X u) (fun E u t => E = kEx u ∧ kB dC dI A (wA ad cB cI cZ cL LP today legCount legs hung warmth damp wopen tsize bytes rat rtold rwrong numbers asked ftold ffarm ffrom fwhat fon csize ctotal offered cws cwa g_number g_farm g_pig g_first g_begun g_weight g_salted g_heat g_place g_target g_feedAsked g_sealed g_bad g_sold) (kTy cB cI cZ cL) t) A
set_option maxHeartbeats 4000000 in
set_option maxRecDepth 100000 in
theorem c_C_X7_needLeg (l : Launch) (hl0 : l.stackTraces = false) (dC : Nat → ClassId) (dI : Nat → Nat → Nat) (ad : Nat → Nat) (cB cI cZ cL : ClassId) (A : Nat → Prop) (LP : List Nat) (today legCount : Int32) (legs hung : Nat → Option Nat) (warmth damp wopen : Nat → Int32) (tsize : Int32) (bytes : Nat → Int32) (rat rtold rwrong : Int32) (numbers asked : Nat → Int32) (ftold : Int32) (ffarm ffrom fwhat fon : Nat → Int32) (csize ctotal : Int32) (offered : Nat → Option Nat) (cws cwa g_number g_farm g_pig g_first g_begun g_weight g_salted g_heat g_place g_target g_feedAsked g_sealed g_bad g_sold : Nat → Int32) (p0 : Int32)  (Q : Option Nat → Prop) (X : Nat → Prop) (h : wp_C_X7_needLeg LP legs Q X p0) : vx_Met l yX7_needLeg wsX7_needLeg rm_C_X7_needLeg (va_Pc [.ref (ad 0), .int p0] (kC dC dI ad A (wA ad cB cI cZ cL LP today legCount legs hung warmth damp wopen tsize bytes rat rtold rwrong numbers asked ftold ffarm ffrom fwhat fon csize ctotal offered cws cwa g_number g_farm g_pig g_first g_begun g_weight g_salted g_heat g_place g_target g_feedAsked g_sealed g_bad g_sold) (kTy cB cI cZ cL))) (pq_C_X7_needLeg dC dI ad cB cI cZ cL A LP today legCount legs hung warmth damp wopen tsize bytes rat rtold rwrong numbers asked ftold ffarm ffrom fwhat fon csize ctotal offered cws cwa g_number g_farm g_pig g_first g_begun g_weight g_salted g_heat g_place g_target g_feedAsked g_sealed g_bad g_sold Q) (px_C_X7_needLeg dC dI ad cB cI cZ cL A LP today legCount legs hung warmth damp wopen tsize bytes rat rtold rwrong numbers asked ftold ffarm ffrom fwhat fon csize ctotal offered cws cwa g_number g_farm g_pig g_first g_begun g_weight g_salted g_heat g_place g_target g_feedAsked g_sealed g_bad g_sold X) 1 6 A := by
  refine vx_ofW (cc := cX7_needLeg) (maxL := 3) (ret := (some (.object "HamCellar$Leg"))) (by decide) rfl ?_
  intro p e s m args below meth c s₁ B hml htb hv
  obtain ⟨rfl, hA, hP, hK, hD, hE⟩ := hv
  have hx := B.exec
  have hb := B.bytes
  have hr := B.returns
  have hts := atoms_spec (ws := wsX7_needLeg) B.pre
  have hown : s.vm.findClass RX7 = some m.cls := findClass_of_methodNamed B.named
  have hlocks := B.notSynchronized
  have hS : va_S A s.heap s.heap [] := va_S.rf
  have hk_0 := hts (.classLink RX7 132 "java/lang/IndexOutOfBoundsException") (by decide +kernel)
  have hk_1 := hts (.initialized "java/lang/IndexOutOfBoundsException") (by decide +kernel)
  have hk_2 : (∀ w ∈ vx_at0 RX7 134 "java/lang/IndexOutOfBoundsException" ["java/lang/RuntimeException", "java/lang/Exception"], w.before ([.ref (ad 0), .int p0] : List Value).toArray s = true) ∧ (∀ w ∈ Cond.classLink RX7 132 "java/lang/IndexOutOfBoundsException" :: Cond.initialized "java/lang/IndexOutOfBoundsException" :: vx_at0 RX7 134 "java/lang/IndexOutOfBoundsException" ["java/lang/RuntimeException", "java/lang/Exception"], vx_ot w = true) := ⟨vx_hat (B := [.castable "java/lang/IndexOutOfBoundsException" "java/lang/IndexOutOfBoundsException", .declares ⟨"java/lang/RuntimeException", "<init>", "()V"⟩, .declares ⟨"java/lang/Exception", "<init>", "()V"⟩, .declares ⟨"java/lang/Throwable", "<init>", "()V"⟩]) (fun w hw => hts w ((by decide +kernel : ∀ w ∈ (vx_at0 RX7 134 "java/lang/IndexOutOfBoundsException" ["java/lang/RuntimeException", "java/lang/Exception"]).filter goodWord, w ∈ wsX7_needLeg) w hw)) (by decide +kernel) (vx_c (va_Nw.use rfl (hE.2.1.2.2.1 "java/lang/IndexOutOfBoundsException" (by decide))) (vx_c (va_Nw.use rfl (hE.2.1.2.2.2 _ (List.mem_of_getElem? (i := 0) rfl))) (vx_c (va_Nw.use rfl (hE.2.1.2.2.2 _ (List.mem_of_getElem? (i := 1) rfl))) (vx_c (va_Nw.use rfl (hE.2.1.2.2.2 _ (List.mem_of_getElem? (i := 2) rfl))) vx_n)))), by decide +kernel⟩
  have hk_3 := hts (.fieldLink RX7 11 "HamCellar" "legs" "[LHamCellar$Leg;") (by decide +kernel)
  have hk_4 : ∀ w ∈ wsX70, w ∈ wsX7_needLeg := by decide +kernel
  have hbk_C_X7_needLeg_23 : ∀ (H : Heap) (locs : List Loc) (ls : Array Slot), va_P (dC, dI) vwCl (wA ad cB cI cZ cL LP today legCount legs hung warmth damp wopen tsize bytes rat rtold rwrong numbers asked ftold ffarm ffrom fwhat fon csize ctotal offered cws cwa g_number g_farm g_pig g_first g_begun g_weight g_salted g_heat g_place g_target g_feedAsked g_sealed g_bad g_sold) H → va_D A (wA ad cB cI cZ cL LP today legCount legs hung warmth damp wopen tsize bytes rat rtold rwrong numbers asked ftold ffarm ffrom fwhat fon csize ctotal offered cws cwa g_number g_farm g_pig g_first g_begun g_weight g_salted g_heat g_place g_target g_feedAsked g_sealed g_bad g_sold) → va_S A s.heap H locs → lv_has ls 3 [] → bk_C_X7_needLeg_23 LP legs Q X → W p l e (headSpec wsX7_needLeg rm_C_X7_needLeg).room s m ([.ref (ad 0), .int p0] : List Value).toArray below meth c H locs 0 0 (vx_MQ below (pq_C_X7_needLeg dC dI ad cB cI cZ cL A LP today legCount legs hung warmth damp wopen tsize bytes rat rtold rwrong numbers asked ftold ffarm ffrom fwhat fon csize ctotal offered cws cwa g_number g_farm g_pig g_first g_begun g_weight g_salted g_heat g_place g_target g_feedAsked g_sealed g_bad g_sold Q) (px_C_X7_needLeg dC dI ad cB cI cZ cL A LP today legCount legs hung warmth damp wopen tsize bytes rat rtold rwrong numbers asked ftold ffarm ffrom fwhat fon csize ctotal offered cws cwa g_number g_farm g_pig g_first g_begun g_weight g_salted g_heat g_place g_target g_feedAsked g_sealed g_bad g_sold X) ([.ref (ad 0), .int p0] : List Value).toArray s 1 6 A) (F0 m 23 ls [.null]) := by
    intro H locs ls hP hD hS hl h
    refine lv_astore_nN (lv' := [(2, .null)]) hx hb dX7_needLeg_23 rfl hl (by decide) rfl (fun ls hl => ?_)
    refine lv_aload_nN hx hb dX7_needLeg_24 rfl (lv_at hl 0 rfl) ?_
    refine lv_ifnonnullN hx hb dX7_needLeg_25 ?_
    exact vx_throw0 (own := RX7) (cls := "java/lang/IndexOutOfBoundsException") (names := ["java/lang/RuntimeException", "java/lang/Exception"]) hx hb hl0 hown (by decide +kernel) (by decide +kernel) hk_0 hk_1 hk_2.1 hk_2.2 hE.1.1 hE.1.2 hS (hl.1.trans hml.symm) dX7_needLeg_28 dX7_needLeg_31 dX7_needLeg_32 dX7_needLeg_35 (fun x9 hx9 => (htb x9 hx9).elim) (Nat.le_of_ble_eq_true rfl) (Nat.le_of_ble_eq_true rfl) (Nat.le_of_ble_eq_true rfl) (Nat.le_of_ble_eq_true rfl) hlocks (fun t hv9 hz9 hk9 => by obtain ⟨b9, f9⟩ := kX_mk hS hP hK hD hv9 hz9 hk9; exact ⟨(1), h, ⟨rfl, b9⟩, f9⟩) hS.2.2 (Nat.le_of_ble_eq_true rfl) (Nat.le_of_ble_eq_true rfl)
  have hbk_C_X7_needLeg_22 : ∀ (H : Heap) (locs : List Loc) (ls : Array Slot), va_P (dC, dI) vwCl (wA ad cB cI cZ cL LP today legCount legs hung warmth damp wopen tsize bytes rat rtold rwrong numbers asked ftold ffarm ffrom fwhat fon csize ctotal offered cws cwa g_number g_farm g_pig g_first g_begun g_weight g_salted g_heat g_place g_target g_feedAsked g_sealed g_bad g_sold) H → va_D A (wA ad cB cI cZ cL LP today legCount legs hung warmth damp wopen tsize bytes rat rtold rwrong numbers asked ftold ffarm ffrom fwhat fon csize ctotal offered cws cwa g_number g_farm g_pig g_first g_begun g_weight g_salted g_heat g_place g_target g_feedAsked g_sealed g_bad g_sold) → va_S A s.heap H locs → lv_has ls 3 [] → bk_C_X7_needLeg_22 LP legs Q X → W p l e (headSpec wsX7_needLeg rm_C_X7_needLeg).room s m ([.ref (ad 0), .int p0] : List Value).toArray below meth c H locs 0 0 (vx_MQ below (pq_C_X7_needLeg dC dI ad cB cI cZ cL A LP today legCount legs hung warmth damp wopen tsize bytes rat rtold rwrong numbers asked ftold ffarm ffrom fwhat fon csize ctotal offered cws cwa g_number g_farm g_pig g_first g_begun g_weight g_salted g_heat g_place g_target g_feedAsked g_sealed g_bad g_sold Q) (px_C_X7_needLeg dC dI ad cB cI cZ cL A LP today legCount legs hung warmth damp wopen tsize bytes rat rtold rwrong numbers asked ftold ffarm ffrom fwhat fon csize ctotal offered cws cwa g_number g_farm g_pig g_first g_begun g_weight g_salted g_heat g_place g_target g_feedAsked g_sealed g_bad g_sold X) ([.ref (ad 0), .int p0] : List Value).toArray s 1 6 A) (F0 m 22 ls []) := by
    intro H locs ls hP hD hS hl h
    refine lv_null hx hb dX7_needLeg_22 ?_
    exact hbk_C_X7_needLeg_23 _ _ _ hP hD hS (lv_sub hl [] rfl) h
  have hbk_C_X7_needLeg_23_1 : ∀ (k0 : Nat) (hy_k0 : k0 ∈ LP) (H : Heap) (locs : List Loc) (ls : Array Slot), va_P (dC, dI) vwCl (wA ad cB cI cZ cL LP today legCount legs hung warmth damp wopen tsize bytes rat rtold rwrong numbers asked ftold ffarm ffrom fwhat fon csize ctotal offered cws cwa g_number g_farm g_pig g_first g_begun g_weight g_salted g_heat g_place g_target g_feedAsked g_sealed g_bad g_sold) H → va_D A (wA ad cB cI cZ cL LP today legCount legs hung warmth damp wopen tsize bytes rat rtold rwrong numbers asked ftold ffarm ffrom fwhat fon csize ctotal offered cws cwa g_number g_farm g_pig g_first g_begun g_weight g_salted g_heat g_place g_target g_feedAsked g_sealed g_bad g_sold) → va_S A s.heap H locs → lv_has ls 3 [] → bk_C_X7_needLeg_23_1 LP legs Q X k0 → W p l e (headSpec wsX7_needLeg rm_C_X7_needLeg).room s m ([.ref (ad 0), .int p0] : List Value).toArray below meth c H locs 0 0 (vx_MQ below (pq_C_X7_needLeg dC dI ad cB cI cZ cL A LP today legCount legs hung warmth damp wopen tsize bytes rat rtold rwrong numbers asked ftold ffarm ffrom fwhat fon csize ctotal offered cws cwa g_number g_farm g_pig g_first g_begun g_weight g_salted g_heat g_place g_target g_feedAsked g_sealed g_bad g_sold Q) (px_C_X7_needLeg dC dI ad cB cI cZ cL A LP today legCount legs hung warmth damp wopen tsize bytes rat rtold rwrong numbers asked ftold ffarm ffrom fwhat fon csize ctotal offered cws cwa g_number g_farm g_pig g_first g_begun g_weight g_salted g_heat g_place g_target g_feedAsked g_sealed g_bad g_sold X) ([.ref (ad 0), .int p0] : List Value).toArray s 1 6 A) (F0 m 23 ls [.ref k0]) := by
    intro k0 hy_k0 H locs ls hP hD hS hl h
    refine lv_astore_n (lv' := [(2, .ref k0)]) hx hb dX7_needLeg_23 rfl hl (by decide) rfl (fun ls hl => ?_)
    refine lv_aload_n hx hb dX7_needLeg_24 rfl (lv_at hl 0 rfl) ?_
    refine lv_ifnonnull (tgt := 36) hx hb dX7_needLeg_25 (by decide) ?_
    refine lv_aload_n hx hb dX7_needLeg_36 rfl (lv_at hl 0 rfl) ?_
    refine W.widen (k := 1) (n := 6) (Nat.le_of_ble_eq_true rfl) (Nat.le_of_ble_eq_true rfl) ?_
    refine vx_ret ?_
    exact W.aret (v := va_rf (some k0)) hx hb hr (Or.inl ⟨_, rfl⟩) (va_rf_or _) (fun t ht hW => ⟨⟨(some k0), (), rfl, h, kB_mk hP hK hD ht hW.alike⟩, hS.F ht⟩) hS.2.2 dX7_needLeg_37
  have hl := lv_entry ([.ref (ad 0), .int p0]) (n := 3) (Nat.le_of_ble_eq_true rfl)
  rw [lg_entry_eq]
  generalize (lg_sl ([.ref (ad 0), .int p0]) ++ List.replicate (3 - (lg_sl ([.ref (ad 0), .int p0])).length) Slot.unset).toArray = ls at hl ⊢
  have hl : lv_has ls 3 [(0, .ref (ad 0)), (1, .int p0)] := hl
  unfold wp_C_X7_needLeg at h
  refine lv_iload_n hx hb dX7_needLeg_0 rfl (lv_at hl 1 rfl) ?_
  refine lv_if_lt (tgt := 22) hx hb dX7_needLeg_1 (by decide) (fun c_1 => ?_) (fun c_1 => ?_)
  · have h := h.1 c_1
    exact hbk_C_X7_needLeg_22 _ _ _ hP hD hS (lv_sub hl [] rfl) h
  · have h := h.2 c_1
    refine lv_iload_n hx hb dX7_needLeg_4 rfl (lv_at hl 1 rfl) ?_
    refine lv_aload_n hx hb dX7_needLeg_5 rfl (lv_at hl 0 rfl) ?_
    refine va_get (D := (dC, dI)) (ci := 7) (v := .ref (ad 1)) (C := RX7) (T := TX7) (N := 10) hx hb hts hk_4 hown hK hP 0 wA_g0 rfl 2 (by decide) hk_3 (fun _ h9 => h9) rfl dX7_needLeg_6 ?_
    refine va_alen hx hb hK hP 1 3 wA_g1 rfl (v := 60) rfl dX7_needLeg_9 ?_
    refine lv_icmp_ge (tgt := 22) hx hb dX7_needLeg_10 (by decide) (fun c_2 => ?_) (fun c_2 => ?_)
    · have h := h.1 c_2
      exact hbk_C_X7_needLeg_22 _ _ _ hP hD hS (lv_sub hl [] rfl) h
    · have h := h.2 c_2
      refine lv_aload_n hx hb dX7_needLeg_13 rfl (lv_at hl 0 rfl) ?_
      refine va_get (D := (dC, dI)) (ci := 7) (v := .ref (ad 1)) (C := RX7) (T := TX7) (N := 10) hx hb hts hk_4 hown hK hP 0 wA_g0 rfl 2 (by decide) hk_3 (fun _ h9 => h9) rfl dX7_needLeg_14 ?_
      refine lv_iload_n hx hb dX7_needLeg_17 rfl (lv_at hl 1 rfl) ?_
      have hi_3 := h.1
      have h := h.2
      refine va_aldq hx hb hK hP 1 3 wA_g1 rfl hi_3 dX7_needLeg_18 ?_
      cases hr_5 : legs p0.toNatClampNeg with
      | none =>
        have h := h.1 hr_5
        refine lv_goto (tgt := 23) hx hb dX7_needLeg_19 (by decide) ?_
        exact hbk_C_X7_needLeg_23 _ _ _ hP hD hS (lv_sub hl [] rfl) h
      | some y_4 =>
        have hy_y_4 := (h.2 y_4 hr_5).1
        have h := (h.2 y_4 hr_5).2
        refine lv_goto (tgt := 23) hx hb dX7_needLeg_19 (by decide) ?_
        exact hbk_C_X7_needLeg_23_1 y_4 hy_y_4 _ _ _ hP hD hS (lv_sub hl [] rfl) h
def bk_C_X7_needPlace_19   (Q : Int32 → Prop) (X : Nat → Prop)  : Prop := X 1
def wp_C_X7_needPlace (Q : Int32 → Prop) (X : Nat → Prop) (p0 : Int32) (p1 : Int32) (p2 : Int32) : Prop := wp_C_X7_isWithin (fun r_1 => ((r_1 = 0 → bk_C_X7_needPlace_19 Q X) ∧ (¬ (r_1 = 0) → wp_C_X7_isWithin (fun r_3 => ((¬ r_3 = 0 → Q ((p1 * 10) + p2)) ∧ (r_3 = 0 → bk_C_X7_needPlace_19 Q X))) p2 0 9))) p1 p0 5
def rm_C_X7_needPlace : Room := { frames := 6, cells := 1, slots := 6, locals := 81 }
abbrev pq_C_X7_needPlace (dC : Nat → ClassId) (dI : Nat → Nat → Nat) (ad : Nat → Nat) (cB cI cZ cL : ClassId) (A : Nat → Prop) (LP : List Nat) (today legCount : Int32) (legs hung : Nat → Option Nat) (warmth damp wopen : Nat → Int32) (tsize : Int32) (bytes : Nat → Int32) (rat rtold rwrong : Int32) (numbers asked : Nat → Int32) (ftold : Int32) (ffarm ffrom fwhat fon : Nat → Int32) (csize ctotal : Int32) (offered : Nat → Option Nat) (cws cwa g_number g_farm g_pig g_first g_begun g_weight g_salted g_heat g_place g_target g_feedAsked g_sealed g_bad g_sold : Nat → Int32) (Q : Int32 → Prop) : Array Value → State → Outcome → State → Prop := va_Qi (fun (r : Int32) (u : Unit) => Q r ) (fun u t => kB dC dI A (wA ad cB cI cZ cL LP today legCount legs hung warmth damp wopen tsize bytes rat rtold rwrong numbers asked ftold ffarm ffrom fwhat fon csize ctotal offered cws cwa g_number g_farm g_pig g_first g_begun g_weight g_salted g_heat g_place g_target g_feedAsked g_sealed g_bad g_sold) (kTy cB cI cZ cL) t) A
abbrev px_C_X7_needPlace (dC : Nat → ClassId) (dI : Nat → Nat → Nat) (ad : Nat → Nat) (cB cI cZ cL : ClassId) (A : Nat → Prop) (LP : List Nat) (today legCount : Int32) (legs hung : Nat → Option Nat) (warmth damp wopen : Nat → Int32) (tsize : Int32) (bytes : Nat → Int32) (rat rtold rwrong : Int32) (numbers asked : Nat → Int32) (ftold : Int32) (ffarm ffrom fwhat fon : Nat → Int32) (csize ctotal : Int32) (offered : Nat → Option Nat) (cws cwa g_number g_farm g_pig g_first g_begun g_weight g_salted g_heat g_place g_target g_feedAsked g_sealed g_bad g_sold : Nat → Int32) (X : Nat → Prop) : String → State → State → Prop := vx_X (fun u : Nat => X u) (fun E u t => E = kEx u ∧ kB dC dI A (wA ad cB cI cZ cL LP today legCount legs hung warmth damp wopen tsize bytes rat rtold rwrong numbers asked ftold ffarm ffrom fwhat fon csize ctotal offered cws cwa g_number g_farm g_pig g_first g_begun g_weight g_salted g_heat g_place g_target g_feedAsked g_sealed g_bad g_sold) (kTy cB cI cZ cL) t) A
set_option maxHeartbeats 4000000 in
set_option maxRecDepth 100000 in
theorem c_C_X7_needPlace (l : Launch) (hl0 : l.stackTraces = false) (dC : Nat → ClassId) (dI : Nat → Nat → Nat) (ad : Nat → Nat) (cB cI cZ cL : ClassId) (A : Nat → Prop) (LP : List Nat) (today legCount : Int32) (legs hung : Nat → Option Nat) (warmth damp wopen : Nat → Int32) (tsize : Int32) (bytes : Nat → Int32) (rat rtold rwrong : Int32) (numbers asked : Nat → Int32) (ftold : Int32) (ffarm ffrom fwhat fon : Nat → Int32) (csize ctotal : Int32) (offered : Nat → Option Nat) (cws cwa g_number g_farm g_pig g_first g_begun g_weight g_salted g_heat g_place g_target g_feedAsked g_sealed g_bad g_sold : Nat → Int32) (p0 : Int32) (p1 : Int32) (p2 : Int32)  (Q : Int32 → Prop) (X : Nat → Prop) (h : wp_C_X7_needPlace Q X p0 p1 p2) : vx_Met l yX7_needPlace wsX7_needPlace rm_C_X7_needPlace (va_Pc [.int p0, .int p1, .int p2] (kC dC dI ad A (wA ad cB cI cZ cL LP today legCount legs hung warmth damp wopen tsize bytes rat rtold rwrong numbers asked ftold ffarm ffrom fwhat fon csize ctotal offered cws cwa g_number g_farm g_pig g_first g_begun g_weight g_salted g_heat g_place g_target g_feedAsked g_sealed g_bad g_sold) (kTy cB cI cZ cL))) (pq_C_X7_needPlace dC dI ad cB cI cZ cL A LP today legCount legs hung warmth damp wopen tsize bytes rat rtold rwrong numbers asked ftold ffarm ffrom fwhat fon csize ctotal offered cws cwa g_number g_farm g_pig g_first g_begun g_weight g_salted g_heat g_place g_target g_feedAsked g_sealed g_bad g_sold Q) (px_C_X7_needPlace dC dI ad cB cI cZ cL A LP today legCount legs hung warmth damp wopen tsize bytes rat rtold rwrong numbers asked ftold ffarm ffrom fwhat fon csize ctotal offered cws cwa g_number g_farm g_pig g_first g_begun g_weight g_salted g_heat g_place g_target g_feedAsked g_sealed g_bad g_sold X) 1 6 A := by
  refine vx_ofW (cc := cX7_needPlace) (maxL := 3) (ret := (some .int)) (by decide) rfl ?_
  intro p e s m args below meth c s₁ B hml htb hv
  obtain ⟨rfl, hA, hP, hK, hD, hE⟩ := hv
  have hx := B.exec
  have hb := B.bytes
  have hr := B.returns
  have hts := atoms_spec (ws := wsX7_needPlace) B.pre
  have hown : s.vm.findClass RX7 = some m.cls := findClass_of_methodNamed B.named
  have hlocks := B.notSynchronized
  have hS : va_S A s.heap s.heap [] := va_S.rf
  have hk_0 := hts (.classLink RX7 132 "java/lang/IndexOutOfBoundsException") (by decide +kernel)
  have hk_1 := hts (.initialized "java/lang/IndexOutOfBoundsException") (by decide +kernel)
  have hk_2 : (∀ w ∈ vx_at0 RX7 134 "java/lang/IndexOutOfBoundsException" ["java/lang/RuntimeException", "java/lang/Exception"], w.before ([.int p0, .int p1, .int p2] : List Value).toArray s = true) ∧ (∀ w ∈ Cond.classLink RX7 132 "java/lang/IndexOutOfBoundsException" :: Cond.initialized "java/lang/IndexOutOfBoundsException" :: vx_at0 RX7 134 "java/lang/IndexOutOfBoundsException" ["java/lang/RuntimeException", "java/lang/Exception"], vx_ot w = true) := ⟨vx_hat (B := [.castable "java/lang/IndexOutOfBoundsException" "java/lang/IndexOutOfBoundsException", .declares ⟨"java/lang/RuntimeException", "<init>", "()V"⟩, .declares ⟨"java/lang/Exception", "<init>", "()V"⟩, .declares ⟨"java/lang/Throwable", "<init>", "()V"⟩]) (fun w hw => hts w ((by decide +kernel : ∀ w ∈ (vx_at0 RX7 134 "java/lang/IndexOutOfBoundsException" ["java/lang/RuntimeException", "java/lang/Exception"]).filter goodWord, w ∈ wsX7_needPlace) w hw)) (by decide +kernel) (vx_c (va_Nw.use rfl (hE.2.1.2.2.1 "java/lang/IndexOutOfBoundsException" (by decide))) (vx_c (va_Nw.use rfl (hE.2.1.2.2.2 _ (List.mem_of_getElem? (i := 0) rfl))) (vx_c (va_Nw.use rfl (hE.2.1.2.2.2 _ (List.mem_of_getElem? (i := 1) rfl))) (vx_c (va_Nw.use rfl (hE.2.1.2.2.2 _ (List.mem_of_getElem? (i := 2) rfl))) vx_n)))), by decide +kernel⟩
  have hbk_C_X7_needPlace_19 : ∀ (H : Heap) (locs : List Loc) (ls : Array Slot), va_P (dC, dI) vwCl (wA ad cB cI cZ cL LP today legCount legs hung warmth damp wopen tsize bytes rat rtold rwrong numbers asked ftold ffarm ffrom fwhat fon csize ctotal offered cws cwa g_number g_farm g_pig g_first g_begun g_weight g_salted g_heat g_place g_target g_feedAsked g_sealed g_bad g_sold) H → va_D A (wA ad cB cI cZ cL LP today legCount legs hung warmth damp wopen tsize bytes rat rtold rwrong numbers asked ftold ffarm ffrom fwhat fon csize ctotal offered cws cwa g_number g_farm g_pig g_first g_begun g_weight g_salted g_heat g_place g_target g_feedAsked g_sealed g_bad g_sold) → va_S A s.heap H locs → lv_has ls 3 [] → bk_C_X7_needPlace_19 Q X → W p l e (headSpec wsX7_needPlace rm_C_X7_needPlace).room s m ([.int p0, .int p1, .int p2] : List Value).toArray below meth c H locs 0 0 (vx_MQ below (pq_C_X7_needPlace dC dI ad cB cI cZ cL A LP today legCount legs hung warmth damp wopen tsize bytes rat rtold rwrong numbers asked ftold ffarm ffrom fwhat fon csize ctotal offered cws cwa g_number g_farm g_pig g_first g_begun g_weight g_salted g_heat g_place g_target g_feedAsked g_sealed g_bad g_sold Q) (px_C_X7_needPlace dC dI ad cB cI cZ cL A LP today legCount legs hung warmth damp wopen tsize bytes rat rtold rwrong numbers asked ftold ffarm ffrom fwhat fon csize ctotal offered cws cwa g_number g_farm g_pig g_first g_begun g_weight g_salted g_heat g_place g_target g_feedAsked g_sealed g_bad g_sold X) ([.int p0, .int p1, .int p2] : List Value).toArray s 1 6 A) (F0 m 19 ls []) := by
    intro H locs ls hP hD hS hl h
    exact vx_throw0 (own := RX7) (cls := "java/lang/IndexOutOfBoundsException") (names := ["java/lang/RuntimeException", "java/lang/Exception"]) hx hb hl0 hown (by decide +kernel) (by decide +kernel) hk_0 hk_1 hk_2.1 hk_2.2 hE.1.1 hE.1.2 hS (hl.1.trans hml.symm) dX7_needPlace_19 dX7_needPlace_22 dX7_needPlace_23 dX7_needPlace_26 (fun x9 hx9 => (htb x9 hx9).elim) (Nat.le_of_ble_eq_true rfl) (Nat.le_of_ble_eq_true rfl) (Nat.le_of_ble_eq_true rfl) (Nat.le_of_ble_eq_true rfl) hlocks (fun t hv9 hz9 hk9 => by obtain ⟨b9, f9⟩ := kX_mk hS hP hK hD hv9 hz9 hk9; exact ⟨(1), h, ⟨rfl, b9⟩, f9⟩) hS.2.2 (Nat.le_of_ble_eq_true rfl) (Nat.le_of_ble_eq_true rfl)
  have hl := lv_entry ([.int p0, .int p1, .int p2]) (n := 3) (Nat.le_of_ble_eq_true rfl)
  rw [lg_entry_eq]
  generalize (lg_sl ([.int p0, .int p1, .int p2]) ++ List.replicate (3 - (lg_sl ([.int p0, .int p1, .int p2])).length) Slot.unset).toArray = ls at hl ⊢
  have hl : lv_has ls 3 [(0, .int p0), (1, .int p1), (2, .int p2)] := hl
  unfold wp_C_X7_needPlace at h
  refine lv_iload_n hx hb dX7_needPlace_0 rfl (lv_at hl 1 rfl) ?_
  refine lv_iload_n hx hb dX7_needPlace_1 rfl (lv_at hl 0 rfl) ?_
  refine lv_iconst (v := 5) hx hb dX7_needPlace_2 (by decide) ?_
  refine va_calli (va_runS (As := [.int p1, .int p0, .int 5]) (rest := []) ⟨hx, hb, hml, hown, hts⟩ (c_C_X7_isWithin l dC dI ad cB cI cZ cL A LP today legCount legs hung warmth damp wopen tsize bytes rat rtold rwrong numbers asked ftold ffarm ffrom fwhat fon csize ctotal offered cws cwa g_number g_farm g_pig g_first g_begun g_weight g_salted g_heat g_place g_target g_feedAsked g_sealed g_bad g_sold p1 p0 5 _ h) (va_cwS 3 hts gX7_needPlace_X7_isWithin rfl rfl rfl (by decide +kernel) ⟨(Nat.le_of_ble_eq_true rfl), (Nat.le_of_ble_eq_true rfl)⟩) ⟨kC_blind, fun U hU hW => ⟨rfl, kC_go hA hS hP hK hD hE U hU hW⟩⟩ rfl rfl hl.1 rfl (lv_room (Nat.le_of_ble_eq_true rfl)) dX7_needPlace_3 ⟨(Nat.le_of_ble_eq_true rfl), (Nat.le_of_ble_eq_true rfl)⟩) hS (fun q _ h => h) (fun q h => h) (fun r_1 u t H locs ht hvm hw hB hz1 hk1 hS => ?_)
  have h := hw
  try dsimp only at h
  have hP : va_P (dC, dI) vwCl (wA ad cB cI cZ cL LP today legCount legs hung warmth damp wopen tsize bytes rat rtold rwrong numbers asked ftold ffarm ffrom fwhat fon csize ctotal offered cws cwa g_number g_farm g_pig g_first g_begun g_weight g_salted g_heat g_place g_target g_feedAsked g_sealed g_bad g_sold) H := by rw [← ht]; exact hB.1
  have hD : va_D A (wA ad cB cI cZ cL LP today legCount legs hung warmth damp wopen tsize bytes rat rtold rwrong numbers asked ftold ffarm ffrom fwhat fon csize ctotal offered cws cwa g_number g_farm g_pig g_first g_begun g_weight g_salted g_heat g_place g_target g_feedAsked g_sealed g_bad g_sold) := hB.2.2
  refine lv_if_eq (tgt := 19) hx hb dX7_needPlace_6 (by decide) (fun c_2 => ?_) (fun c_2 => ?_)
  · have h := h.1 c_2
    exact hbk_C_X7_needPlace_19 _ _ _ hP hD hS (lv_sub hl [] rfl) h
  · have h := h.2 c_2
    refine lv_iload_n hx hb dX7_needPlace_9 rfl (lv_at hl 2 rfl) ?_
    refine lv_iconst (v := 0) hx hb dX7_needPlace_10 (by decide) ?_
    refine lv_bipush (v := 9) hx hb dX7_needPlace_11 (by decide) ?_
    refine va_calli (va_runS (As := [.int p2, .int 0, .int 9]) (rest := []) ⟨hx, hb, hml, hown, hts⟩ (c_C_X7_isWithin l dC dI ad cB cI cZ cL A LP today legCount legs hung warmth damp wopen tsize bytes rat rtold rwrong numbers asked ftold ffarm ffrom fwhat fon csize ctotal offered cws cwa g_number g_farm g_pig g_first g_begun g_weight g_salted g_heat g_place g_target g_feedAsked g_sealed g_bad g_sold p2 0 9 _ h) (va_cwS 3 hts gX7_needPlace_X7_isWithin rfl rfl rfl (by decide +kernel) ⟨(Nat.le_of_ble_eq_true rfl), (Nat.le_of_ble_eq_true rfl)⟩) ⟨kC_blind, fun U hU hW => ⟨rfl, kC_go hA hS hP hK hD hE U hU hW⟩⟩ rfl rfl hl.1 rfl (lv_room (Nat.le_of_ble_eq_true rfl)) dX7_needPlace_13 ⟨(Nat.le_of_ble_eq_true rfl), (Nat.le_of_ble_eq_true rfl)⟩) hS (fun q _ h => h) (fun q h => h) (fun r_3 u t H locs ht hvm hw hB hz1 hk1 hS => ?_)
    have h := hw
    try dsimp only at h
    have hP : va_P (dC, dI) vwCl (wA ad cB cI cZ cL LP today legCount legs hung warmth damp wopen tsize bytes rat rtold rwrong numbers asked ftold ffarm ffrom fwhat fon csize ctotal offered cws cwa g_number g_farm g_pig g_first g_begun g_weight g_salted g_heat g_place g_target g_feedAsked g_sealed g_bad g_sold) H := by rw [← ht]; exact hB.1
    have hD : va_D A (wA ad cB cI cZ cL LP today legCount legs hung warmth damp wopen tsize bytes rat rtold rwrong numbers asked ftold ffarm ffrom fwhat fon csize ctotal offered cws cwa g_number g_farm g_pig g_first g_begun g_weight g_salted g_heat g_place g_target g_feedAsked g_sealed g_bad g_sold) := hB.2.2
    refine lv_if_ne (tgt := 27) hx hb dX7_needPlace_16 (by decide) (fun c_4 => ?_) (fun c_4 => ?_)
    · have h := h.1 c_4
      refine lv_iload_n hx hb dX7_needPlace_27 rfl (lv_at hl 1 rfl) ?_
      refine lv_bipush (v := 10) hx hb dX7_needPlace_28 (by decide) ?_
      refine lv_imul hx hb dX7_needPlace_30 ?_
      refine lv_iload_n hx hb dX7_needPlace_31 rfl (lv_at hl 2 rfl) ?_
      refine lv_iadd hx hb dX7_needPlace_32 ?_
      refine W.widen (k := 1) (n := 6) (Nat.le_of_ble_eq_true rfl) (Nat.le_of_ble_eq_true rfl) ?_
      refine vx_ret ?_
      exact W.iret (v := (p1 * 10) + p2) hx hb hr (fun t ht hW => ⟨⟨(p1 * 10) + p2, (), rfl, h, kB_mk hP hK hD ht hW.alike⟩, hS.F ht⟩) hS.2.2 dX7_needPlace_33
    · have h := h.2 c_4
      exact hbk_C_X7_needPlace_19 _ _ _ hP hD hS (lv_sub hl [] rfl) h
def wp_C_X7_hang (LP : List Nat) (legs : Nat → Option Nat) (g_sold : Nat → Int32) (Q : Int32 → (Nat → Option Nat) → (Nat → Int32) → Prop) (X : Nat → (Nat → Option Nat) → (Nat → Int32) → Prop) (hung : Nat → Option Nat) (g_place : Nat → Int32) (p0 : Int32) (p1 : Int32) (p2 : Int32) : Prop := wp_C_X7_needLeg LP legs (fun r_1 => ((r_1 = none → wp_C_X7_needPlace (fun r_5 => False) (fun x_5 => X x_5 hung g_place) 0 p1 p2) ∧ (∀ y_2 : Nat, r_1 = some y_2 → y_2 ∈ LP ∧ wp_C_X7_needPlace (fun r_6 => ((¬ (g_sold y_2) = 0 → (o01 0 ∧ Q 0 hung g_place)) ∧ ((g_sold y_2) = 0 → wp_C_X2_legAt LP hung (fun r_9 => ((r_9 = none → wp_C_X2_takeOff LP (fun hung_13 g_place_13 => wp_C_X2_put LP (fun hung_14 g_place_14 => (o01 1 ∧ Q 1 hung_14 g_place_14)) hung_13 g_place_13 y_2 r_6) hung g_place y_2) ∧ (∀ y_10 : Nat, r_9 = some y_10 → y_10 ∈ LP ∧ (o01 0 ∧ Q 0 hung g_place)))) r_6))) (fun x_6 => X x_6 hung g_place) 0 p1 p2))) (fun x_1 => X x_1 hung g_place) p0
def rm_C_X7_hang : Room := { frames := 7, cells := 2, slots := 12, locals := 103 }
abbrev pq_C_X7_hang (dC : Nat → ClassId) (dI : Nat → Nat → Nat) (ad : Nat → Nat) (cB cI cZ cL : ClassId) (A : Nat → Prop) (LP : List Nat) (today legCount : Int32) (legs hung : Nat → Option Nat) (warmth damp wopen : Nat → Int32) (tsize : Int32) (bytes : Nat → Int32) (rat rtold rwrong : Int32) (numbers asked : Nat → Int32) (ftold : Int32) (ffarm ffrom fwhat fon : Nat → Int32) (csize ctotal : Int32) (offered : Nat → Option Nat) (cws cwa g_number g_farm g_pig g_first g_begun g_weight g_salted g_heat g_place g_target g_feedAsked g_sealed g_bad g_sold : Nat → Int32) (Q : Int32 → (Nat → Option Nat) → (Nat → Int32) → Prop) : Array Value → State → Outcome → State → Prop := va_Qi (fun (r : Int32) (u : (Nat → Option Nat) × (Nat → Int32)) => Q r u.1 u.2) (fun u t => kB dC dI A (wA ad cB cI cZ cL LP today legCount legs u.1 warmth damp wopen tsize bytes rat rtold rwrong numbers asked ftold ffarm ffrom fwhat fon csize ctotal offered cws cwa g_number g_farm g_pig g_first g_begun g_weight g_salted g_heat u.2 g_target g_feedAsked g_sealed g_bad g_sold) (kTy cB cI cZ cL) t) A
abbrev px_C_X7_hang (dC : Nat → ClassId) (dI : Nat → Nat → Nat) (ad : Nat → Nat) (cB cI cZ cL : ClassId) (A : Nat → Prop) (LP : List Nat) (today legCount : Int32) (legs hung : Nat → Option Nat) (warmth damp wopen : Nat → Int32) (tsize : Int32) (bytes : Nat → Int32) (rat rtold rwrong : Int32) (numbers asked : Nat → Int32) (ftold : Int32) (ffarm ffrom fwhat fon : Nat → Int32) (csize ctotal : Int32) (offered : Nat → Option Nat) (cws cwa g_number g_farm g_pig g_first g_begun g_weight g_salted g_heat g_place g_target g_feedAsked g_sealed g_bad g_sold : Nat → Int32) (X : Nat → (Nat → Option Nat) → (Nat → Int32) → Prop) : String → State → State → Prop := vx_X (fun u : Nat × (Nat → Option Nat) × (Nat → Int32) => X u.1 u.2.1 u.2.2) (fun E u t => E = kEx u.1 ∧ kB dC dI A (wA ad cB cI cZ cL LP today legCount legs u.2.1 warmth damp wopen tsize bytes rat rtold rwrong numbers asked ftold ffarm ffrom fwhat fon csize ctotal offered cws cwa g_number g_farm g_pig g_first g_begun g_weight g_salted g_heat u.2.2 g_target g_feedAsked g_sealed g_bad g_sold) (kTy cB cI cZ cL) t) A
set_option maxHeartbeats 4000000 in
set_option maxRecDepth 100000 in
theorem c_C_X7_hang (l : Launch) (hl0 : l.stackTraces = false) (dC : Nat → ClassId) (dI : Nat → Nat → Nat) (ad : Nat → Nat) (cB cI cZ cL : ClassId) (A : Nat → Prop) (LP : List Nat) (today legCount : Int32) (legs hung : Nat → Option Nat) (warmth damp wopen : Nat → Int32) (tsize : Int32) (bytes : Nat → Int32) (rat rtold rwrong : Int32) (numbers asked : Nat → Int32) (ftold : Int32) (ffarm ffrom fwhat fon : Nat → Int32) (csize ctotal : Int32) (offered : Nat → Option Nat) (cws cwa g_number g_farm g_pig g_first g_begun g_weight g_salted g_heat g_place g_target g_feedAsked g_sealed g_bad g_sold : Nat → Int32) (p0 : Int32) (p1 : Int32) (p2 : Int32)  (Q : Int32 → (Nat → Option Nat) → (Nat → Int32) → Prop) (X : Nat → (Nat → Option Nat) → (Nat → Int32) → Prop) (h : wp_C_X7_hang LP legs g_sold Q X hung g_place p0 p1 p2) : vx_Met l yX7_hang wsX7_hang rm_C_X7_hang (va_Pc [.ref (ad 0), .int p0, .int p1, .int p2] (kC dC dI ad A (wA ad cB cI cZ cL LP today legCount legs hung warmth damp wopen tsize bytes rat rtold rwrong numbers asked ftold ffarm ffrom fwhat fon csize ctotal offered cws cwa g_number g_farm g_pig g_first g_begun g_weight g_salted g_heat g_place g_target g_feedAsked g_sealed g_bad g_sold) (kTy cB cI cZ cL))) (pq_C_X7_hang dC dI ad cB cI cZ cL A LP today legCount legs hung warmth damp wopen tsize bytes rat rtold rwrong numbers asked ftold ffarm ffrom fwhat fon csize ctotal offered cws cwa g_number g_farm g_pig g_first g_begun g_weight g_salted g_heat g_place g_target g_feedAsked g_sealed g_bad g_sold Q) (px_C_X7_hang dC dI ad cB cI cZ cL A LP today legCount legs hung warmth damp wopen tsize bytes rat rtold rwrong numbers asked ftold ffarm ffrom fwhat fon csize ctotal offered cws cwa g_number g_farm g_pig g_first g_begun g_weight g_salted g_heat g_place g_target g_feedAsked g_sealed g_bad g_sold X) 2 12 A := by
  refine vx_ofW (cc := cX7_hang) (maxL := 6) (ret := (some .boolean)) (by decide) rfl ?_
  intro p e s m args below meth c s₁ B hml htb hv
  obtain ⟨rfl, hA, hP, hK, hD, hE⟩ := hv
  have hx := B.exec
  have hb := B.bytes
  have hr := B.returns
  have hts := atoms_spec (ws := wsX7_hang) B.pre
  have hown : s.vm.findClass RX7 = some m.cls := findClass_of_methodNamed B.named
  have hlocks := B.notSynchronized
  have hS : va_S A s.heap s.heap [] := va_S.rf
  have hk_0n := hE.2.1.1 ("HamCellar", 113, "HamCellar$Leg", "sold", "Z", "HamCellar") (by decide +kernel)
  have hk_0 : (Cond.fieldLinkNest "HamCellar" 113 "HamCellar$Leg" "sold" "Z" "HamCellar").before ([.ref (ad 0), .int p0, .int p1, .int p2] : List Value).toArray s = true := va_Nw.use rfl hk_0n
  have hk_1 : ∀ w ∈ wsX30, w ∈ wsX7_hang := by decide +kernel
  have hk_2 := hts (.fieldLink RX7 18 "HamCellar" "hooks" "LHamCellar$Hooks;") (by decide +kernel)
  have hk_3 : ∀ w ∈ wsX70, w ∈ wsX7_hang := by decide +kernel
  have hl := lv_entry ([.ref (ad 0), .int p0, .int p1, .int p2]) (n := 6) (Nat.le_of_ble_eq_true rfl)
  rw [lg_entry_eq]
  generalize (lg_sl ([.ref (ad 0), .int p0, .int p1, .int p2]) ++ List.replicate (6 - (lg_sl ([.ref (ad 0), .int p0, .int p1, .int p2])).length) Slot.unset).toArray = ls at hl ⊢
  have hl : lv_has ls 6 [(0, .ref (ad 0)), (1, .int p0), (2, .int p1), (3, .int p2)] := hl
  unfold wp_C_X7_hang at h
  refine lv_aload_n hx hb dX7_hang_0 rfl (lv_at hl 0 rfl) ?_
  refine lv_iload_n hx hb dX7_hang_1 rfl (lv_at hl 1 rfl) ?_
  refine vx_callq (vx_runV (As := [.int p0]) (rest := []) ⟨hx, hb, hml, hown, hts⟩ (c_C_X7_needLeg l hl0 dC dI ad cB cI cZ cL A LP today legCount legs hung warmth damp wopen tsize bytes rat rtold rwrong numbers asked ftold ffarm ffrom fwhat fon csize ctotal offered cws cwa g_number g_farm g_pig g_first g_begun g_weight g_salted g_heat g_place g_target g_feedAsked g_sealed g_bad g_sold p0 _ _ h) (cwV 1 hts gX7_hang_X7_needLeg rfl rfl rfl (by decide +kernel) ⟨(Nat.le_of_ble_eq_true rfl), (Nat.le_of_ble_eq_true rfl)⟩) ⟨kC_blind, va_recv hK hP (ci := 7) (q0 := 0) rfl wA_g0, fun U hU hW => ⟨rfl, kC_go hA hS hP hK hD hE U hU hW⟩⟩ rfl rfl hl.1 rfl (lv_room (Nat.le_of_ble_eq_true rfl)) dX7_hang_2 ⟨(Nat.le_of_ble_eq_true rfl), (Nat.le_of_ble_eq_true rfl)⟩) hS (fun q _ h => h) (fun q h => h) (fun q _ h => h) (fun E9 ce9 q9 u t H locs ht hvm hw hB hz1 hk1 hS hce hcv hcl => ?_) (fun r_1 u t H locs ht hvm hw hB hz1 hk1 hS => ?_)
  · obtain ⟨x_1, rfl⟩ : ∃ z, z = u := ⟨_, rfl⟩
    obtain ⟨rfl, hB⟩ := hB
    have h := hw
    try dsimp only at h
    have hP : va_P (dC, dI) vwCl (wA ad cB cI cZ cL LP today legCount legs hung warmth damp wopen tsize bytes rat rtold rwrong numbers asked ftold ffarm ffrom fwhat fon csize ctotal offered cws cwa g_number g_farm g_pig g_first g_begun g_weight g_salted g_heat g_place g_target g_feedAsked g_sealed g_bad g_sold) H := by rw [← ht]; exact hB.1
    have hD : va_D A (wA ad cB cI cZ cL LP today legCount legs hung warmth damp wopen tsize bytes rat rtold rwrong numbers asked ftold ffarm ffrom fwhat fon csize ctotal offered cws cwa g_number g_farm g_pig g_first g_begun g_weight g_salted g_heat g_place g_target g_feedAsked g_sealed g_bad g_sold) := hB.2.2
    exact vx_out (fun x9 hx9 => (htb x9 hx9).elim) hlocks hce hcv hcl (fun t ht hv9 => ⟨(x_1, hung, g_place), h, ⟨rfl, kB_mk hP hK hD ht hv9⟩, hS.F ht⟩) hS.2.2 (Nat.le_of_ble_eq_true rfl) (Nat.le_of_ble_eq_true rfl)
  · have h := hw
    try dsimp only at h
    have hP : va_P (dC, dI) vwCl (wA ad cB cI cZ cL LP today legCount legs hung warmth damp wopen tsize bytes rat rtold rwrong numbers asked ftold ffarm ffrom fwhat fon csize ctotal offered cws cwa g_number g_farm g_pig g_first g_begun g_weight g_salted g_heat g_place g_target g_feedAsked g_sealed g_bad g_sold) H := by rw [← ht]; exact hB.1
    have hD : va_D A (wA ad cB cI cZ cL LP today legCount legs hung warmth damp wopen tsize bytes rat rtold rwrong numbers asked ftold ffarm ffrom fwhat fon csize ctotal offered cws cwa g_number g_farm g_pig g_first g_begun g_weight g_salted g_heat g_place g_target g_feedAsked g_sealed g_bad g_sold) := hB.2.2
    cases hr_3 : r_1 with
    | none =>
      have h := h.1 hr_3
      refine lv_astoreN (lv' := [(4, .null), (0, .ref (ad 0)), (1, .int p0), (2, .int p1), (3, .int p2)]) hx hb dX7_hang_5 hl (by decide) rfl (fun ls hl => ?_)
      refine lv_iconst (v := 0) hx hb dX7_hang_7 (by decide) ?_
      refine lv_iload_n hx hb dX7_hang_8 rfl (lv_at hl 3 rfl) ?_
      refine lv_iload_n hx hb dX7_hang_9 rfl (lv_at hl 4 rfl) ?_
      refine vx_calli (vx_runS (As := [.int 0, .int p1, .int p2]) (rest := []) ⟨hx, hb, hml, hown, hts⟩ (c_C_X7_needPlace l hl0 dC dI ad cB cI cZ cL A LP today legCount legs hung warmth damp wopen tsize bytes rat rtold rwrong numbers asked ftold ffarm ffrom fwhat fon csize ctotal offered cws cwa g_number g_farm g_pig g_first g_begun g_weight g_salted g_heat g_place g_target g_feedAsked g_sealed g_bad g_sold 0 p1 p2 _ _ h) (va_cwS 3 hts gX7_hang_X7_needPlace rfl rfl rfl (by decide +kernel) ⟨(Nat.le_of_ble_eq_true rfl), (Nat.le_of_ble_eq_true rfl)⟩) ⟨kC_blind, fun U hU hW => ⟨rfl, kC_go hA hS hP hK hD hE U hU hW⟩⟩ rfl rfl hl.1 rfl (lv_room (Nat.le_of_ble_eq_true rfl)) dX7_hang_10 ⟨(Nat.le_of_ble_eq_true rfl), (Nat.le_of_ble_eq_true rfl)⟩) hS (fun q _ h => h) (fun q h => h) (fun q _ h => h) (fun E9 ce9 q9 u t H locs ht hvm hw hB hz1 hk1 hS hce hcv hcl => ?_) (fun r_5 u t H locs ht hvm hw hB hz1 hk1 hS => ?_)
      · obtain ⟨x_5, rfl⟩ : ∃ z, z = u := ⟨_, rfl⟩
        obtain ⟨rfl, hB⟩ := hB
        have h := hw
        try dsimp only at h
        have hP : va_P (dC, dI) vwCl (wA ad cB cI cZ cL LP today legCount legs hung warmth damp wopen tsize bytes rat rtold rwrong numbers asked ftold ffarm ffrom fwhat fon csize ctotal offered cws cwa g_number g_farm g_pig g_first g_begun g_weight g_salted g_heat g_place g_target g_feedAsked g_sealed g_bad g_sold) H := by rw [← ht]; exact hB.1
        have hD : va_D A (wA ad cB cI cZ cL LP today legCount legs hung warmth damp wopen tsize bytes rat rtold rwrong numbers asked ftold ffarm ffrom fwhat fon csize ctotal offered cws cwa g_number g_farm g_pig g_first g_begun g_weight g_salted g_heat g_place g_target g_feedAsked g_sealed g_bad g_sold) := hB.2.2
        exact vx_out (fun x9 hx9 => (htb x9 hx9).elim) hlocks hce hcv hcl (fun t ht hv9 => ⟨(x_5, hung, g_place), h, ⟨rfl, kB_mk hP hK hD ht hv9⟩, hS.F ht⟩) hS.2.2 (Nat.le_of_ble_eq_true rfl) (Nat.le_of_ble_eq_true rfl)
      · exact False.elim hw
    | some y_2 =>
      have hy_y_2 := (h.2 y_2 hr_3).1
      have h := (h.2 y_2 hr_3).2
      refine lv_astore (lv' := [(4, .ref y_2), (0, .ref (ad 0)), (1, .int p0), (2, .int p1), (3, .int p2)]) hx hb dX7_hang_5 hl (by decide) rfl (fun ls hl => ?_)
      refine lv_iconst (v := 0) hx hb dX7_hang_7 (by decide) ?_
      refine lv_iload_n hx hb dX7_hang_8 rfl (lv_at hl 3 rfl) ?_
      refine lv_iload_n hx hb dX7_hang_9 rfl (lv_at hl 4 rfl) ?_
      refine vx_calli (vx_runS (As := [.int 0, .int p1, .int p2]) (rest := []) ⟨hx, hb, hml, hown, hts⟩ (c_C_X7_needPlace l hl0 dC dI ad cB cI cZ cL A LP today legCount legs hung warmth damp wopen tsize bytes rat rtold rwrong numbers asked ftold ffarm ffrom fwhat fon csize ctotal offered cws cwa g_number g_farm g_pig g_first g_begun g_weight g_salted g_heat g_place g_target g_feedAsked g_sealed g_bad g_sold 0 p1 p2 _ _ h) (va_cwS 3 hts gX7_hang_X7_needPlace rfl rfl rfl (by decide +kernel) ⟨(Nat.le_of_ble_eq_true rfl), (Nat.le_of_ble_eq_true rfl)⟩) ⟨kC_blind, fun U hU hW => ⟨rfl, kC_go hA hS hP hK hD hE U hU hW⟩⟩ rfl rfl hl.1 rfl (lv_room (Nat.le_of_ble_eq_true rfl)) dX7_hang_10 ⟨(Nat.le_of_ble_eq_true rfl), (Nat.le_of_ble_eq_true rfl)⟩) hS (fun q _ h => h) (fun q h => h) (fun q _ h => h) (fun E9 ce9 q9 u t H locs ht hvm hw hB hz1 hk1 hS hce hcv hcl => ?_) (fun r_6 u t H locs ht hvm hw hB hz1 hk1 hS => ?_)
      · obtain ⟨x_6, rfl⟩ : ∃ z, z = u := ⟨_, rfl⟩
        obtain ⟨rfl, hB⟩ := hB
        have h := hw
        try dsimp only at h
        have hP : va_P (dC, dI) vwCl (wA ad cB cI cZ cL LP today legCount legs hung warmth damp wopen tsize bytes rat rtold rwrong numbers asked ftold ffarm ffrom fwhat fon csize ctotal offered cws cwa g_number g_farm g_pig g_first g_begun g_weight g_salted g_heat g_place g_target g_feedAsked g_sealed g_bad g_sold) H := by rw [← ht]; exact hB.1
        have hD : va_D A (wA ad cB cI cZ cL LP today legCount legs hung warmth damp wopen tsize bytes rat rtold rwrong numbers asked ftold ffarm ffrom fwhat fon csize ctotal offered cws cwa g_number g_farm g_pig g_first g_begun g_weight g_salted g_heat g_place g_target g_feedAsked g_sealed g_bad g_sold) := hB.2.2
        exact vx_out (fun x9 hx9 => (htb x9 hx9).elim) hlocks hce hcv hcl (fun t ht hv9 => ⟨(x_6, hung, g_place), h, ⟨rfl, kB_mk hP hK hD ht hv9⟩, hS.F ht⟩) hS.2.2 (Nat.le_of_ble_eq_true rfl) (Nat.le_of_ble_eq_true rfl)
      · have h := hw
        try dsimp only at h
        have hP : va_P (dC, dI) vwCl (wA ad cB cI cZ cL LP today legCount legs hung warmth damp wopen tsize bytes rat rtold rwrong numbers asked ftold ffarm ffrom fwhat fon csize ctotal offered cws cwa g_number g_farm g_pig g_first g_begun g_weight g_salted g_heat g_place g_target g_feedAsked g_sealed g_bad g_sold) H := by rw [← ht]; exact hB.1
        have hD : va_D A (wA ad cB cI cZ cL LP today legCount legs hung warmth damp wopen tsize bytes rat rtold rwrong numbers asked ftold ffarm ffrom fwhat fon csize ctotal offered cws cwa g_number g_farm g_pig g_first g_begun g_weight g_salted g_heat g_place g_target g_feedAsked g_sealed g_bad g_sold) := hB.2.2
        refine lv_istore (lv' := [(5, .int r_6), (4, .ref y_2), (0, .ref (ad 0)), (1, .int p0), (2, .int p1), (3, .int p2)]) hx hb dX7_hang_13 hl (by decide) rfl (fun ls hl => ?_)
        refine lv_aload hx hb dX7_hang_15 (lv_at hl 1 rfl) ?_
        obtain ⟨k_7, hg_k_7⟩ := wA_leg hy_y_2
        refine va_getN (D := (dC, dI)) (ci := 3) (v := .int (g_sold y_2)) (C := RX3) (T := TX3) (N := 14) hx hb hts hk_1 hown hK hP k_7 hg_k_7 rfl 13 (by decide) hk_0 (fun _ h9 => h9) rfl dX7_hang_17 ?_
        refine lv_if_ne (tgt := 35) hx hb dX7_hang_20 (by decide) (fun c_8 => ?_) (fun c_8 => ?_)
        · have h := h.1 c_8
          refine lv_iconst (v := 0) hx hb dX7_hang_35 (by decide) ?_
          refine vx_ret ?_
          exact W.zret (v := 0) (ty := .boolean) hx hb hr (z01 h.1) (fun t ht hW => ⟨⟨0, (hung, g_place), rfl, h.2, kB_mk hP hK hD ht hW.alike⟩, hS.F ht⟩) hS.2.2 dX7_hang_36
        · have h := h.2 c_8
          refine lv_aload_n hx hb dX7_hang_23 rfl (lv_at hl 2 rfl) ?_
          refine va_get (D := (dC, dI)) (ci := 7) (v := .ref (ad 2)) (C := RX7) (T := TX7) (N := 10) hx hb hts hk_3 hown hK hP 0 wA_g0 rfl 3 (by decide) hk_2 (fun _ h9 => h9) rfl dX7_hang_24 ?_
          refine lv_iload hx hb dX7_hang_27 (lv_at hl 0 rfl) ?_
          refine va_callq (va_runV (As := [.int r_6]) (rest := []) ⟨hx, hb, hml, hown, hts⟩ (c_C_X2_legAt l dC dI ad cB cI cZ cL A LP today legCount legs hung warmth damp wopen tsize bytes rat rtold rwrong numbers asked ftold ffarm ffrom fwhat fon csize ctotal offered cws cwa g_number g_farm g_pig g_first g_begun g_weight g_salted g_heat g_place g_target g_feedAsked g_sealed g_bad g_sold r_6 _ h) (cwV 1 hts gX7_hang_X2_legAt rfl rfl rfl (by decide +kernel) ⟨(Nat.le_of_ble_eq_true rfl), (Nat.le_of_ble_eq_true rfl)⟩) ⟨kC_blind, va_recv hK hP (ci := 2) (q0 := 2) rfl wA_g2, fun U hU hW => ⟨rfl, kC_go hA hS hP hK hD hE U hU hW⟩⟩ rfl rfl hl.1 rfl (lv_room (Nat.le_of_ble_eq_true rfl)) dX7_hang_29 ⟨(Nat.le_of_ble_eq_true rfl), (Nat.le_of_ble_eq_true rfl)⟩) hS (fun q _ h => h) (fun q h => h) (fun r_9 u t H locs ht hvm hw hB hz1 hk1 hS => ?_)
          have h := hw
          try dsimp only at h
          have hP : va_P (dC, dI) vwCl (wA ad cB cI cZ cL LP today legCount legs hung warmth damp wopen tsize bytes rat rtold rwrong numbers asked ftold ffarm ffrom fwhat fon csize ctotal offered cws cwa g_number g_farm g_pig g_first g_begun g_weight g_salted g_heat g_place g_target g_feedAsked g_sealed g_bad g_sold) H := by rw [← ht]; exact hB.1
          have hD : va_D A (wA ad cB cI cZ cL LP today legCount legs hung warmth damp wopen tsize bytes rat rtold rwrong numbers asked ftold ffarm ffrom fwhat fon csize ctotal offered cws cwa g_number g_farm g_pig g_first g_begun g_weight g_salted g_heat g_place g_target g_feedAsked g_sealed g_bad g_sold) := hB.2.2
          cases hr_11 : r_9 with
          | none =>
            have h := h.1 hr_11
            refine lv_ifnullN (tgt := 37) hx hb dX7_hang_32 (by decide) ?_
            refine lv_aload_n hx hb dX7_hang_37 rfl (lv_at hl 2 rfl) ?_
            refine va_get (D := (dC, dI)) (ci := 7) (v := .ref (ad 2)) (C := RX7) (T := TX7) (N := 10) hx hb hts hk_3 hown hK hP 0 wA_g0 rfl 3 (by decide) hk_2 (fun _ h9 => h9) rfl dX7_hang_38 ?_
            refine lv_aload hx hb dX7_hang_41 (lv_at hl 1 rfl) ?_
            refine va_callv (va_runV (As := [.ref y_2]) (rest := []) ⟨hx, hb, hml, hown, hts⟩ (c_C_X2_takeOff l dC dI ad cB cI cZ cL A LP today legCount legs hung warmth damp wopen tsize bytes rat rtold rwrong numbers asked ftold ffarm ffrom fwhat fon csize ctotal offered cws cwa g_number g_farm g_pig g_first g_begun g_weight g_salted g_heat g_place g_target g_feedAsked g_sealed g_bad g_sold y_2 hy_y_2 _ h) (cwV 1 hts gX7_hang_X2_takeOff rfl rfl rfl (by decide +kernel) ⟨(Nat.le_of_ble_eq_true rfl), (Nat.le_of_ble_eq_true rfl)⟩) ⟨kC_blind, va_recv hK hP (ci := 2) (q0 := 2) rfl wA_g2, fun U hU hW => ⟨rfl, kC_go hA hS hP hK hD hE U hU hW⟩⟩ rfl rfl hl.1 rfl (lv_room (Nat.le_of_ble_eq_true rfl)) dX7_hang_43 ⟨(Nat.le_of_ble_eq_true rfl), (Nat.le_of_ble_eq_true rfl)⟩) hS (fun q _ h => h) (fun q h => h) (fun u t H locs ht hvm hw hB hz1 hk1 hS => ?_)
            obtain ⟨hung_13, g_place_13⟩ := u
            have h := hw
            try dsimp only at h
            have hP : va_P (dC, dI) vwCl (wA ad cB cI cZ cL LP today legCount legs hung_13 warmth damp wopen tsize bytes rat rtold rwrong numbers asked ftold ffarm ffrom fwhat fon csize ctotal offered cws cwa g_number g_farm g_pig g_first g_begun g_weight g_salted g_heat g_place_13 g_target g_feedAsked g_sealed g_bad g_sold) H := by rw [← ht]; exact hB.1
            have hD : va_D A (wA ad cB cI cZ cL LP today legCount legs hung_13 warmth damp wopen tsize bytes rat rtold rwrong numbers asked ftold ffarm ffrom fwhat fon csize ctotal offered cws cwa g_number g_farm g_pig g_first g_begun g_weight g_salted g_heat g_place_13 g_target g_feedAsked g_sealed g_bad g_sold) := hB.2.2
            refine lv_aload_n hx hb dX7_hang_46 rfl (lv_at hl 2 rfl) ?_
            refine va_get (D := (dC, dI)) (ci := 7) (v := .ref (ad 2)) (C := RX7) (T := TX7) (N := 10) hx hb hts hk_3 hown hK hP 0 wA_g0 rfl 3 (by decide) hk_2 (fun _ h9 => h9) rfl dX7_hang_47 ?_
            refine lv_aload hx hb dX7_hang_50 (lv_at hl 1 rfl) ?_
            refine lv_iload hx hb dX7_hang_52 (lv_at hl 0 rfl) ?_
            refine va_callv (va_runV (As := [.ref y_2, .int r_6]) (rest := []) ⟨hx, hb, hml, hown, hts⟩ (c_C_X2_put l dC dI ad cB cI cZ cL A LP today legCount legs hung_13 warmth damp wopen tsize bytes rat rtold rwrong numbers asked ftold ffarm ffrom fwhat fon csize ctotal offered cws cwa g_number g_farm g_pig g_first g_begun g_weight g_salted g_heat g_place_13 g_target g_feedAsked g_sealed g_bad g_sold y_2 r_6 hy_y_2 _ h) (cwV 2 hts gX7_hang_X2_put rfl rfl rfl (by decide +kernel) ⟨(Nat.le_of_ble_eq_true rfl), (Nat.le_of_ble_eq_true rfl)⟩) ⟨kC_blind, va_recv hK hP (ci := 2) (q0 := 2) rfl wA_g2, fun U hU hW => ⟨rfl, kC_go hA hS hP hK hD hE U hU hW⟩⟩ rfl rfl hl.1 rfl (lv_room (Nat.le_of_ble_eq_true rfl)) dX7_hang_54 ⟨(Nat.le_of_ble_eq_true rfl), (Nat.le_of_ble_eq_true rfl)⟩) hS (fun q _ h => h) (fun q h => h) (fun u t H locs ht hvm hw hB hz1 hk1 hS => ?_)
            obtain ⟨hung_14, g_place_14⟩ := u
            have h := hw
            try dsimp only at h
            have hP : va_P (dC, dI) vwCl (wA ad cB cI cZ cL LP today legCount legs hung_14 warmth damp wopen tsize bytes rat rtold rwrong numbers asked ftold ffarm ffrom fwhat fon csize ctotal offered cws cwa g_number g_farm g_pig g_first g_begun g_weight g_salted g_heat g_place_14 g_target g_feedAsked g_sealed g_bad g_sold) H := by rw [← ht]; exact hB.1
            have hD : va_D A (wA ad cB cI cZ cL LP today legCount legs hung_14 warmth damp wopen tsize bytes rat rtold rwrong numbers asked ftold ffarm ffrom fwhat fon csize ctotal offered cws cwa g_number g_farm g_pig g_first g_begun g_weight g_salted g_heat g_place_14 g_target g_feedAsked g_sealed g_bad g_sold) := hB.2.2
            refine lv_iconst (v := 1) hx hb dX7_hang_57 (by decide) ?_
            refine vx_ret ?_
            exact W.zret (v := 1) (ty := .boolean) hx hb hr (z01 h.1) (fun t ht hW => ⟨⟨1, (hung_14, g_place_14), rfl, h.2, kB_mk hP hK hD ht hW.alike⟩, hS.F ht⟩) hS.2.2 dX7_hang_58
          | some y_10 =>
            have hy_y_10 := (h.2 y_10 hr_11).1
            have h := (h.2 y_10 hr_11).2
            refine lv_ifnull hx hb dX7_hang_32 ?_
            refine lv_iconst (v := 0) hx hb dX7_hang_35 (by decide) ?_
            refine vx_ret ?_
            exact W.zret (v := 0) (ty := .boolean) hx hb hr (z01 h.1) (fun t ht hW => ⟨⟨0, (hung, g_place), rfl, h.2, kB_mk hP hK hD ht hW.alike⟩, hS.F ht⟩) hS.2.2 dX7_hang_36
def wp_C_X7_take (LP : List Nat) (legs : Nat → Option Nat) (Q : Int32 → (Nat → Option Nat) → (Nat → Int32) → Prop) (X : Nat → (Nat → Option Nat) → (Nat → Int32) → Prop) (hung : Nat → Option Nat) (g_place : Nat → Int32) (p0 : Int32) : Prop := wp_C_X7_needLeg LP legs (fun r_1 => ((r_1 = none → False) ∧ (∀ y_2 : Nat, r_1 = some y_2 → y_2 ∈ LP ∧ wp_C_X3_hangs LP g_place (fun r_5 => wp_C_X2_takeOff LP (fun hung_7 g_place_7 => (o01 r_5 ∧ Q r_5 hung_7 g_place_7)) hung g_place y_2) y_2))) (fun x_1 => X x_1 hung g_place) p0
def rm_C_X7_take : Room := { frames := 7, cells := 1, slots := 6, locals := 103 }
abbrev pq_C_X7_take (dC : Nat → ClassId) (dI : Nat → Nat → Nat) (ad : Nat → Nat) (cB cI cZ cL : ClassId) (A : Nat → Prop) (LP : List Nat) (today legCount : Int32) (legs hung : Nat → Option Nat) (warmth damp wopen : Nat → Int32) (tsize : Int32) (bytes : Nat → Int32) (rat rtold rwrong : Int32) (numbers asked : Nat → Int32) (ftold : Int32) (ffarm ffrom fwhat fon : Nat → Int32) (csize ctotal : Int32) (offered : Nat → Option Nat) (cws cwa g_number g_farm g_pig g_first g_begun g_weight g_salted g_heat g_place g_target g_feedAsked g_sealed g_bad g_sold : Nat → Int32) (Q : Int32 → (Nat → Option Nat) → (Nat → Int32) → Prop) : Array Value → State → Outcome → State → Prop := va_Qi (fun (r : Int32) (u : (Nat → Option Nat) × (Nat → Int32)) => Q r u.1 u.2) (fun u t => kB dC dI A (wA ad cB cI cZ cL LP today legCount legs u.1 warmth damp wopen tsize bytes rat rtold rwrong numbers asked ftold ffarm ffrom fwhat fon csize ctotal offered cws cwa g_number g_farm g_pig g_first g_begun g_weight g_salted g_heat u.2 g_target g_feedAsked g_sealed g_bad g_sold) (kTy cB cI cZ cL) t) A
abbrev px_C_X7_take (dC : Nat → ClassId) (dI : Nat → Nat → Nat) (ad : Nat → Nat) (cB cI cZ cL : ClassId) (A : Nat → Prop) (LP : List Nat) (today legCount : Int32) (legs hung : Nat → Option Nat) (warmth damp wopen : Nat → Int32) (tsize : Int32) (bytes : Nat → Int32) (rat rtold rwrong : Int32) (numbers asked : Nat → Int32) (ftold : Int32) (ffarm ffrom fwhat fon : Nat → Int32) (csize ctotal : Int32) (offered : Nat → Option Nat) (cws cwa g_number g_farm g_pig g_first g_begun g_weight g_salted g_heat g_place g_target g_feedAsked g_sealed g_bad g_sold : Nat → Int32) (X : Nat → (Nat → Option Nat) → (Nat → Int32) → Prop) : String → State → State → Prop := vx_X (fun u : Nat × (Nat → Option Nat) × (Nat → Int32) => X u.1 u.2.1 u.2.2) (fun E u t => E = kEx u.1 ∧ kB dC dI A (wA ad cB cI cZ cL LP today legCount legs u.2.1 warmth damp wopen tsize bytes rat rtold rwrong numbers asked ftold ffarm ffrom fwhat fon csize ctotal offered cws cwa g_number g_farm g_pig g_first g_begun g_weight g_salted g_heat u.2.2 g_target g_feedAsked g_sealed g_bad g_sold) (kTy cB cI cZ cL) t) A
set_option maxHeartbeats 4000000 in
set_option maxRecDepth 100000 in
theorem c_C_X7_take (l : Launch) (hl0 : l.stackTraces = false) (dC : Nat → ClassId) (dI : Nat → Nat → Nat) (ad : Nat → Nat) (cB cI cZ cL : ClassId) (A : Nat → Prop) (LP : List Nat) (today legCount : Int32) (legs hung : Nat → Option Nat) (warmth damp wopen : Nat → Int32) (tsize : Int32) (bytes : Nat → Int32) (rat rtold rwrong : Int32) (numbers asked : Nat → Int32) (ftold : Int32) (ffarm ffrom fwhat fon : Nat → Int32) (csize ctotal : Int32) (offered : Nat → Option Nat) (cws cwa g_number g_farm g_pig g_first g_begun g_weight g_salted g_heat g_place g_target g_feedAsked g_sealed g_bad g_sold : Nat → Int32) (p0 : Int32)  (Q : Int32 → (Nat → Option Nat) → (Nat → Int32) → Prop) (X : Nat → (Nat → Option Nat) → (Nat → Int32) → Prop) (h : wp_C_X7_take LP legs Q X hung g_place p0) : vx_Met l yX7_take wsX7_take rm_C_X7_take (va_Pc [.ref (ad 0), .int p0] (kC dC dI ad A (wA ad cB cI cZ cL LP today legCount legs hung warmth damp wopen tsize bytes rat rtold rwrong numbers asked ftold ffarm ffrom fwhat fon csize ctotal offered cws cwa g_number g_farm g_pig g_first g_begun g_weight g_salted g_heat g_place g_target g_feedAsked g_sealed g_bad g_sold) (kTy cB cI cZ cL))) (pq_C_X7_take dC dI ad cB cI cZ cL A LP today legCount legs hung warmth damp wopen tsize bytes rat rtold rwrong numbers asked ftold ffarm ffrom fwhat fon csize ctotal offered cws cwa g_number g_farm g_pig g_first g_begun g_weight g_salted g_heat g_place g_target g_feedAsked g_sealed g_bad g_sold Q) (px_C_X7_take dC dI ad cB cI cZ cL A LP today legCount legs hung warmth damp wopen tsize bytes rat rtold rwrong numbers asked ftold ffarm ffrom fwhat fon csize ctotal offered cws cwa g_number g_farm g_pig g_first g_begun g_weight g_salted g_heat g_place g_target g_feedAsked g_sealed g_bad g_sold X) 1 6 A := by
  refine vx_ofW (cc := cX7_take) (maxL := 4) (ret := (some .boolean)) (by decide) rfl ?_
  intro p e s m args below meth c s₁ B hml htb hv
  obtain ⟨rfl, hA, hP, hK, hD, hE⟩ := hv
  have hx := B.exec
  have hb := B.bytes
  have hr := B.returns
  have hts := atoms_spec (ws := wsX7_take) B.pre
  have hown : s.vm.findClass RX7 = some m.cls := findClass_of_methodNamed B.named
  have hlocks := B.notSynchronized
  have hS : va_S A s.heap s.heap [] := va_S.rf
  have hk_0 := hts (.fieldLink RX7 18 "HamCellar" "hooks" "LHamCellar$Hooks;") (by decide +kernel)
  have hk_1 : ∀ w ∈ wsX70, w ∈ wsX7_take := by decide +kernel
  have hl := lv_entry ([.ref (ad 0), .int p0]) (n := 4) (Nat.le_of_ble_eq_true rfl)
  rw [lg_entry_eq]
  generalize (lg_sl ([.ref (ad 0), .int p0]) ++ List.replicate (4 - (lg_sl ([.ref (ad 0), .int p0])).length) Slot.unset).toArray = ls at hl ⊢
  have hl : lv_has ls 4 [(0, .ref (ad 0)), (1, .int p0)] := hl
  unfold wp_C_X7_take at h
  refine lv_aload_n hx hb dX7_take_0 rfl (lv_at hl 0 rfl) ?_
  refine lv_iload_n hx hb dX7_take_1 rfl (lv_at hl 1 rfl) ?_
  refine vx_callq (vx_runV (As := [.int p0]) (rest := []) ⟨hx, hb, hml, hown, hts⟩ (c_C_X7_needLeg l hl0 dC dI ad cB cI cZ cL A LP today legCount legs hung warmth damp wopen tsize bytes rat rtold rwrong numbers asked ftold ffarm ffrom fwhat fon csize ctotal offered cws cwa g_number g_farm g_pig g_first g_begun g_weight g_salted g_heat g_place g_target g_feedAsked g_sealed g_bad g_sold p0 _ _ h) (cwV 1 hts gX7_take_X7_needLeg rfl rfl rfl (by decide +kernel) ⟨(Nat.le_of_ble_eq_true rfl), (Nat.le_of_ble_eq_true rfl)⟩) ⟨kC_blind, va_recv hK hP (ci := 7) (q0 := 0) rfl wA_g0, fun U hU hW => ⟨rfl, kC_go hA hS hP hK hD hE U hU hW⟩⟩ rfl rfl hl.1 rfl (lv_room (Nat.le_of_ble_eq_true rfl)) dX7_take_2 ⟨(Nat.le_of_ble_eq_true rfl), (Nat.le_of_ble_eq_true rfl)⟩) hS (fun q _ h => h) (fun q h => h) (fun q _ h => h) (fun E9 ce9 q9 u t H locs ht hvm hw hB hz1 hk1 hS hce hcv hcl => ?_) (fun r_1 u t H locs ht hvm hw hB hz1 hk1 hS => ?_)
  · obtain ⟨x_1, rfl⟩ : ∃ z, z = u := ⟨_, rfl⟩
    obtain ⟨rfl, hB⟩ := hB
    have h := hw
    try dsimp only at h
    have hP : va_P (dC, dI) vwCl (wA ad cB cI cZ cL LP today legCount legs hung warmth damp wopen tsize bytes rat rtold rwrong numbers asked ftold ffarm ffrom fwhat fon csize ctotal offered cws cwa g_number g_farm g_pig g_first g_begun g_weight g_salted g_heat g_place g_target g_feedAsked g_sealed g_bad g_sold) H := by rw [← ht]; exact hB.1
    have hD : va_D A (wA ad cB cI cZ cL LP today legCount legs hung warmth damp wopen tsize bytes rat rtold rwrong numbers asked ftold ffarm ffrom fwhat fon csize ctotal offered cws cwa g_number g_farm g_pig g_first g_begun g_weight g_salted g_heat g_place g_target g_feedAsked g_sealed g_bad g_sold) := hB.2.2
    exact vx_out (fun x9 hx9 => (htb x9 hx9).elim) hlocks hce hcv hcl (fun t ht hv9 => ⟨(x_1, hung, g_place), h, ⟨rfl, kB_mk hP hK hD ht hv9⟩, hS.F ht⟩) hS.2.2 (Nat.le_of_ble_eq_true rfl) (Nat.le_of_ble_eq_true rfl)
  · have h := hw
    try dsimp only at h
    have hP : va_P (dC, dI) vwCl (wA ad cB cI cZ cL LP today legCount legs hung warmth damp wopen tsize bytes rat rtold rwrong numbers asked ftold ffarm ffrom fwhat fon csize ctotal offered cws cwa g_number g_farm g_pig g_first g_begun g_weight g_salted g_heat g_place g_target g_feedAsked g_sealed g_bad g_sold) H := by rw [← ht]; exact hB.1
    have hD : va_D A (wA ad cB cI cZ cL LP today legCount legs hung warmth damp wopen tsize bytes rat rtold rwrong numbers asked ftold ffarm ffrom fwhat fon csize ctotal offered cws cwa g_number g_farm g_pig g_first g_begun g_weight g_salted g_heat g_place g_target g_feedAsked g_sealed g_bad g_sold) := hB.2.2
    cases hr_3 : r_1 with
    | none =>
      have h := h.1 hr_3
      refine lv_astore_nN (lv' := [(2, .null), (0, .ref (ad 0)), (1, .int p0)]) hx hb dX7_take_5 rfl hl (by decide) rfl (fun ls hl => ?_)
      refine lv_aload_nN hx hb dX7_take_6 rfl (lv_at hl 0 rfl) ?_
      exact h.elim
    | some y_2 =>
      have hy_y_2 := (h.2 y_2 hr_3).1
      have h := (h.2 y_2 hr_3).2
      refine lv_astore_n (lv' := [(2, .ref y_2), (0, .ref (ad 0)), (1, .int p0)]) hx hb dX7_take_5 rfl hl (by decide) rfl (fun ls hl => ?_)
      refine lv_aload_n hx hb dX7_take_6 rfl (lv_at hl 0 rfl) ?_
      obtain ⟨k_6, hg_k_6⟩ := wA_leg hy_y_2
      refine va_calli (va_runV (As := []) (rest := []) ⟨hx, hb, hml, hown, hts⟩ (c_C_X3_hangs l dC dI ad cB cI cZ cL A LP today legCount legs hung warmth damp wopen tsize bytes rat rtold rwrong numbers asked ftold ffarm ffrom fwhat fon csize ctotal offered cws cwa g_number g_farm g_pig g_first g_begun g_weight g_salted g_heat g_place g_target g_feedAsked g_sealed g_bad g_sold y_2 hy_y_2 _ h) (cwV 0 hts gX7_take_X3_hangs rfl rfl rfl (by decide +kernel) ⟨(Nat.le_of_ble_eq_true rfl), (Nat.le_of_ble_eq_true rfl)⟩) ⟨kC_blind, va_recv hK hP (ci := 3) (q0 := k_6) rfl hg_k_6, fun U hU hW => ⟨rfl, kC_go hA hS hP hK hD hE U hU hW⟩⟩ rfl rfl hl.1 rfl (lv_room (Nat.le_of_ble_eq_true rfl)) dX7_take_7 ⟨(Nat.le_of_ble_eq_true rfl), (Nat.le_of_ble_eq_true rfl)⟩) hS (fun q _ h => h) (fun q h => h) (fun r_5 u t H locs ht hvm hw hB hz1 hk1 hS => ?_)
      have h := hw
      try dsimp only at h
      have hP : va_P (dC, dI) vwCl (wA ad cB cI cZ cL LP today legCount legs hung warmth damp wopen tsize bytes rat rtold rwrong numbers asked ftold ffarm ffrom fwhat fon csize ctotal offered cws cwa g_number g_farm g_pig g_first g_begun g_weight g_salted g_heat g_place g_target g_feedAsked g_sealed g_bad g_sold) H := by rw [← ht]; exact hB.1
      have hD : va_D A (wA ad cB cI cZ cL LP today legCount legs hung warmth damp wopen tsize bytes rat rtold rwrong numbers asked ftold ffarm ffrom fwhat fon csize ctotal offered cws cwa g_number g_farm g_pig g_first g_begun g_weight g_salted g_heat g_place g_target g_feedAsked g_sealed g_bad g_sold) := hB.2.2
      refine lv_istore_n (lv' := [(3, .int r_5), (2, .ref y_2), (0, .ref (ad 0)), (1, .int p0)]) hx hb dX7_take_10 rfl hl (by decide) rfl (fun ls hl => ?_)
      refine lv_aload_n hx hb dX7_take_11 rfl (lv_at hl 2 rfl) ?_
      refine va_get (D := (dC, dI)) (ci := 7) (v := .ref (ad 2)) (C := RX7) (T := TX7) (N := 10) hx hb hts hk_1 hown hK hP 0 wA_g0 rfl 3 (by decide) hk_0 (fun _ h9 => h9) rfl dX7_take_12 ?_
      refine lv_aload_n hx hb dX7_take_15 rfl (lv_at hl 1 rfl) ?_
      refine va_callv (va_runV (As := [.ref y_2]) (rest := []) ⟨hx, hb, hml, hown, hts⟩ (c_C_X2_takeOff l dC dI ad cB cI cZ cL A LP today legCount legs hung warmth damp wopen tsize bytes rat rtold rwrong numbers asked ftold ffarm ffrom fwhat fon csize ctotal offered cws cwa g_number g_farm g_pig g_first g_begun g_weight g_salted g_heat g_place g_target g_feedAsked g_sealed g_bad g_sold y_2 hy_y_2 _ h) (cwV 1 hts gX7_take_X2_takeOff rfl rfl rfl (by decide +kernel) ⟨(Nat.le_of_ble_eq_true rfl), (Nat.le_of_ble_eq_true rfl)⟩) ⟨kC_blind, va_recv hK hP (ci := 2) (q0 := 2) rfl wA_g2, fun U hU hW => ⟨rfl, kC_go hA hS hP hK hD hE U hU hW⟩⟩ rfl rfl hl.1 rfl (lv_room (Nat.le_of_ble_eq_true rfl)) dX7_take_16 ⟨(Nat.le_of_ble_eq_true rfl), (Nat.le_of_ble_eq_true rfl)⟩) hS (fun q _ h => h) (fun q h => h) (fun u t H locs ht hvm hw hB hz1 hk1 hS => ?_)
      obtain ⟨hung_7, g_place_7⟩ := u
      have h := hw
      try dsimp only at h
      have hP : va_P (dC, dI) vwCl (wA ad cB cI cZ cL LP today legCount legs hung_7 warmth damp wopen tsize bytes rat rtold rwrong numbers asked ftold ffarm ffrom fwhat fon csize ctotal offered cws cwa g_number g_farm g_pig g_first g_begun g_weight g_salted g_heat g_place_7 g_target g_feedAsked g_sealed g_bad g_sold) H := by rw [← ht]; exact hB.1
      have hD : va_D A (wA ad cB cI cZ cL LP today legCount legs hung_7 warmth damp wopen tsize bytes rat rtold rwrong numbers asked ftold ffarm ffrom fwhat fon csize ctotal offered cws cwa g_number g_farm g_pig g_first g_begun g_weight g_salted g_heat g_place_7 g_target g_feedAsked g_sealed g_bad g_sold) := hB.2.2
      refine lv_iload_n hx hb dX7_take_19 rfl (lv_at hl 0 rfl) ?_
      refine vx_ret ?_
      exact W.zret (v := r_5) (ty := .boolean) hx hb hr (z01 h.1) (fun t ht hW => ⟨⟨r_5, (hung_7, g_place_7), rfl, h.2, kB_mk hP hK hD ht hW.alike⟩, hS.F ht⟩) hS.2.2 dX7_take_20
def bk_C_X7_air_38   (Q : (Nat → Int32) → (Nat → Int32) → Prop) (X : Nat → (Nat → Int32) → (Nat → Int32) → Prop) (warmth : Nat → Int32) (damp : Nat → Int32) : Prop := X 2 warmth damp
def wp_C_X7_air (Q : (Nat → Int32) → (Nat → Int32) → Prop) (X : Nat → (Nat → Int32) → (Nat → Int32) → Prop) (warmth : Nat → Int32) (damp : Nat → Int32) (p0 : Int32) (p1 : Int32) (p2 : Int32) : Prop := wp_C_X7_isWithin (fun r_1 => ((¬ r_1 = 0 → wp_C_X7_isWithin (fun r_3 => ((r_3 = 0 → bk_C_X7_air_38 Q X warmth damp) ∧ (¬ (r_3 = 0) → wp_C_X7_isWithin (fun r_5 => ((¬ r_5 = 0 → wp_C_X4_setAir (fun warmth_7 damp_7 => Q warmth_7 damp_7) warmth damp p0 p1 p2) ∧ (r_5 = 0 → bk_C_X7_air_38 Q X warmth damp))) p2 0 100))) p1 (-5) 40) ∧ (r_1 = 0 → X 1 warmth damp))) p0 0 5
def rm_C_X7_air : Room := { frames := 6, cells := 1, slots := 6, locals := 81 }
abbrev pq_C_X7_air (dC : Nat → ClassId) (dI : Nat → Nat → Nat) (ad : Nat → Nat) (cB cI cZ cL : ClassId) (A : Nat → Prop) (LP : List Nat) (today legCount : Int32) (legs hung : Nat → Option Nat) (warmth damp wopen : Nat → Int32) (tsize : Int32) (bytes : Nat → Int32) (rat rtold rwrong : Int32) (numbers asked : Nat → Int32) (ftold : Int32) (ffarm ffrom fwhat fon : Nat → Int32) (csize ctotal : Int32) (offered : Nat → Option Nat) (cws cwa g_number g_farm g_pig g_first g_begun g_weight g_salted g_heat g_place g_target g_feedAsked g_sealed g_bad g_sold : Nat → Int32) (Q : (Nat → Int32) → (Nat → Int32) → Prop) : Array Value → State → Outcome → State → Prop := va_Qv (fun u : (Nat → Int32) × (Nat → Int32) => Q u.1 u.2) (fun u t => kB dC dI A (wA ad cB cI cZ cL LP today legCount legs hung u.1 u.2 wopen tsize bytes rat rtold rwrong numbers asked ftold ffarm ffrom fwhat fon csize ctotal offered cws cwa g_number g_farm g_pig g_first g_begun g_weight g_salted g_heat g_place g_target g_feedAsked g_sealed g_bad g_sold) (kTy cB cI cZ cL) t) A
abbrev px_C_X7_air (dC : Nat → ClassId) (dI : Nat → Nat → Nat) (ad : Nat → Nat) (cB cI cZ cL : ClassId) (A : Nat → Prop) (LP : List Nat) (today legCount : Int32) (legs hung : Nat → Option Nat) (warmth damp wopen : Nat → Int32) (tsize : Int32) (bytes : Nat → Int32) (rat rtold rwrong : Int32) (numbers asked : Nat → Int32) (ftold : Int32) (ffarm ffrom fwhat fon : Nat → Int32) (csize ctotal : Int32) (offered : Nat → Option Nat) (cws cwa g_number g_farm g_pig g_first g_begun g_weight g_salted g_heat g_place g_target g_feedAsked g_sealed g_bad g_sold : Nat → Int32) (X : Nat → (Nat → Int32) → (Nat → Int32) → Prop) : String → State → State → Prop := vx_X (fun u : Nat × (Nat → Int32) × (Nat → Int32) => X u.1 u.2.1 u.2.2) (fun E u t => E = kEx u.1 ∧ kB dC dI A (wA ad cB cI cZ cL LP today legCount legs hung u.2.1 u.2.2 wopen tsize bytes rat rtold rwrong numbers asked ftold ffarm ffrom fwhat fon csize ctotal offered cws cwa g_number g_farm g_pig g_first g_begun g_weight g_salted g_heat g_place g_target g_feedAsked g_sealed g_bad g_sold) (kTy cB cI cZ cL) t) A
set_option maxHeartbeats 4000000 in
set_option maxRecDepth 100000 in
theorem c_C_X7_air (l : Launch) (hl0 : l.stackTraces = false) (dC : Nat → ClassId) (dI : Nat → Nat → Nat) (ad : Nat → Nat) (cB cI cZ cL : ClassId) (A : Nat → Prop) (LP : List Nat) (today legCount : Int32) (legs hung : Nat → Option Nat) (warmth damp wopen : Nat → Int32) (tsize : Int32) (bytes : Nat → Int32) (rat rtold rwrong : Int32) (numbers asked : Nat → Int32) (ftold : Int32) (ffarm ffrom fwhat fon : Nat → Int32) (csize ctotal : Int32) (offered : Nat → Option Nat) (cws cwa g_number g_farm g_pig g_first g_begun g_weight g_salted g_heat g_place g_target g_feedAsked g_sealed g_bad g_sold : Nat → Int32) (p0 : Int32) (p1 : Int32) (p2 : Int32)  (Q : (Nat → Int32) → (Nat → Int32) → Prop) (X : Nat → (Nat → Int32) → (Nat → Int32) → Prop) (h : wp_C_X7_air Q X warmth damp p0 p1 p2) : vx_Met l yX7_air wsX7_air rm_C_X7_air (va_Pc [.ref (ad 0), .int p0, .int p1, .int p2] (kC dC dI ad A (wA ad cB cI cZ cL LP today legCount legs hung warmth damp wopen tsize bytes rat rtold rwrong numbers asked ftold ffarm ffrom fwhat fon csize ctotal offered cws cwa g_number g_farm g_pig g_first g_begun g_weight g_salted g_heat g_place g_target g_feedAsked g_sealed g_bad g_sold) (kTy cB cI cZ cL))) (pq_C_X7_air dC dI ad cB cI cZ cL A LP today legCount legs hung warmth damp wopen tsize bytes rat rtold rwrong numbers asked ftold ffarm ffrom fwhat fon csize ctotal offered cws cwa g_number g_farm g_pig g_first g_begun g_weight g_salted g_heat g_place g_target g_feedAsked g_sealed g_bad g_sold Q) (px_C_X7_air dC dI ad cB cI cZ cL A LP today legCount legs hung warmth damp wopen tsize bytes rat rtold rwrong numbers asked ftold ffarm ffrom fwhat fon csize ctotal offered cws cwa g_number g_farm g_pig g_first g_begun g_weight g_salted g_heat g_place g_target g_feedAsked g_sealed g_bad g_sold X) 1 6 A := by
  refine vx_ofW (cc := cX7_air) (maxL := 4) (ret := none) (by decide) rfl ?_
  intro p e s m args below meth c s₁ B hml htb hv
  obtain ⟨rfl, hA, hP, hK, hD, hE⟩ := hv
  have hx := B.exec
  have hb := B.bytes
  have hr := B.returns
  have hts := atoms_spec (ws := wsX7_air) B.pre
  have hown : s.vm.findClass RX7 = some m.cls := findClass_of_methodNamed B.named
  have hlocks := B.notSynchronized
  have hS : va_S A s.heap s.heap [] := va_S.rf
  have hk_0 := hts (.classLink RX7 85 "java/lang/IllegalArgumentException") (by decide +kernel)
  have hk_1 := hts (.initialized "java/lang/IllegalArgumentException") (by decide +kernel)
  have hk_2 : (∀ w ∈ vx_at0 RX7 87 "java/lang/IllegalArgumentException" ["java/lang/RuntimeException", "java/lang/Exception"], w.before ([.ref (ad 0), .int p0, .int p1, .int p2] : List Value).toArray s = true) ∧ (∀ w ∈ Cond.classLink RX7 85 "java/lang/IllegalArgumentException" :: Cond.initialized "java/lang/IllegalArgumentException" :: vx_at0 RX7 87 "java/lang/IllegalArgumentException" ["java/lang/RuntimeException", "java/lang/Exception"], vx_ot w = true) := ⟨vx_hat (B := [.castable "java/lang/IllegalArgumentException" "java/lang/IllegalArgumentException", .declares ⟨"java/lang/RuntimeException", "<init>", "()V"⟩, .declares ⟨"java/lang/Exception", "<init>", "()V"⟩, .declares ⟨"java/lang/Throwable", "<init>", "()V"⟩]) (fun w hw => hts w ((by decide +kernel : ∀ w ∈ (vx_at0 RX7 87 "java/lang/IllegalArgumentException" ["java/lang/RuntimeException", "java/lang/Exception"]).filter goodWord, w ∈ wsX7_air) w hw)) (by decide +kernel) (vx_c (va_Nw.use rfl (hE.2.1.2.2.1 "java/lang/IllegalArgumentException" (by decide))) (vx_c (va_Nw.use rfl (hE.2.1.2.2.2 _ (List.mem_of_getElem? (i := 0) rfl))) (vx_c (va_Nw.use rfl (hE.2.1.2.2.2 _ (List.mem_of_getElem? (i := 1) rfl))) (vx_c (va_Nw.use rfl (hE.2.1.2.2.2 _ (List.mem_of_getElem? (i := 2) rfl))) vx_n)))), by decide +kernel⟩
  have hk_3 := hts (.fieldLink RX7 25 "HamCellar" "rooms" "LHamCellar$Rooms;") (by decide +kernel)
  have hk_4 : ∀ w ∈ wsX70, w ∈ wsX7_air := by decide +kernel
  have hk_5 := hts (.classLink RX7 132 "java/lang/IndexOutOfBoundsException") (by decide +kernel)
  have hk_6 := hts (.initialized "java/lang/IndexOutOfBoundsException") (by decide +kernel)
  have hk_7 : (∀ w ∈ vx_at0 RX7 134 "java/lang/IndexOutOfBoundsException" ["java/lang/RuntimeException", "java/lang/Exception"], w.before ([.ref (ad 0), .int p0, .int p1, .int p2] : List Value).toArray s = true) ∧ (∀ w ∈ Cond.classLink RX7 132 "java/lang/IndexOutOfBoundsException" :: Cond.initialized "java/lang/IndexOutOfBoundsException" :: vx_at0 RX7 134 "java/lang/IndexOutOfBoundsException" ["java/lang/RuntimeException", "java/lang/Exception"], vx_ot w = true) := ⟨vx_hat (B := [.castable "java/lang/IndexOutOfBoundsException" "java/lang/IndexOutOfBoundsException", .declares ⟨"java/lang/RuntimeException", "<init>", "()V"⟩, .declares ⟨"java/lang/Exception", "<init>", "()V"⟩, .declares ⟨"java/lang/Throwable", "<init>", "()V"⟩]) (fun w hw => hts w ((by decide +kernel : ∀ w ∈ (vx_at0 RX7 134 "java/lang/IndexOutOfBoundsException" ["java/lang/RuntimeException", "java/lang/Exception"]).filter goodWord, w ∈ wsX7_air) w hw)) (by decide +kernel) (vx_c (va_Nw.use rfl (hE.2.1.2.2.1 "java/lang/IndexOutOfBoundsException" (by decide))) (vx_c (va_Nw.use rfl (hE.2.1.2.2.2 _ (List.mem_of_getElem? (i := 0) rfl))) (vx_c (va_Nw.use rfl (hE.2.1.2.2.2 _ (List.mem_of_getElem? (i := 1) rfl))) (vx_c (va_Nw.use rfl (hE.2.1.2.2.2 _ (List.mem_of_getElem? (i := 2) rfl))) vx_n)))), by decide +kernel⟩
  have hbk_C_X7_air_38 : ∀ (warmth : Nat → Int32) (damp : Nat → Int32) (H : Heap) (locs : List Loc) (ls : Array Slot), va_P (dC, dI) vwCl (wA ad cB cI cZ cL LP today legCount legs hung warmth damp wopen tsize bytes rat rtold rwrong numbers asked ftold ffarm ffrom fwhat fon csize ctotal offered cws cwa g_number g_farm g_pig g_first g_begun g_weight g_salted g_heat g_place g_target g_feedAsked g_sealed g_bad g_sold) H → va_D A (wA ad cB cI cZ cL LP today legCount legs hung warmth damp wopen tsize bytes rat rtold rwrong numbers asked ftold ffarm ffrom fwhat fon csize ctotal offered cws cwa g_number g_farm g_pig g_first g_begun g_weight g_salted g_heat g_place g_target g_feedAsked g_sealed g_bad g_sold) → va_S A s.heap H locs → lv_has ls 4 [] → bk_C_X7_air_38 Q X warmth damp → W p l e (headSpec wsX7_air rm_C_X7_air).room s m ([.ref (ad 0), .int p0, .int p1, .int p2] : List Value).toArray below meth c H locs 0 0 (vx_MQ below (pq_C_X7_air dC dI ad cB cI cZ cL A LP today legCount legs hung warmth damp wopen tsize bytes rat rtold rwrong numbers asked ftold ffarm ffrom fwhat fon csize ctotal offered cws cwa g_number g_farm g_pig g_first g_begun g_weight g_salted g_heat g_place g_target g_feedAsked g_sealed g_bad g_sold Q) (px_C_X7_air dC dI ad cB cI cZ cL A LP today legCount legs hung warmth damp wopen tsize bytes rat rtold rwrong numbers asked ftold ffarm ffrom fwhat fon csize ctotal offered cws cwa g_number g_farm g_pig g_first g_begun g_weight g_salted g_heat g_place g_target g_feedAsked g_sealed g_bad g_sold X) ([.ref (ad 0), .int p0, .int p1, .int p2] : List Value).toArray s 1 6 A) (F0 m 38 ls []) := by
    intro warmth damp H locs ls hP hD hS hl h
    exact vx_throw0 (own := RX7) (cls := "java/lang/IllegalArgumentException") (names := ["java/lang/RuntimeException", "java/lang/Exception"]) hx hb hl0 hown (by decide +kernel) (by decide +kernel) hk_0 hk_1 hk_2.1 hk_2.2 hE.1.1 hE.1.2 hS (hl.1.trans hml.symm) dX7_air_38 dX7_air_41 dX7_air_42 dX7_air_45 (fun x9 hx9 => (htb x9 hx9).elim) (Nat.le_of_ble_eq_true rfl) (Nat.le_of_ble_eq_true rfl) (Nat.le_of_ble_eq_true rfl) (Nat.le_of_ble_eq_true rfl) hlocks (fun t hv9 hz9 hk9 => by obtain ⟨b9, f9⟩ := kX_mk hS hP hK hD hv9 hz9 hk9; exact ⟨(2, warmth, damp), h, ⟨rfl, b9⟩, f9⟩) hS.2.2 (Nat.le_of_ble_eq_true rfl) (Nat.le_of_ble_eq_true rfl)
  have hl := lv_entry ([.ref (ad 0), .int p0, .int p1, .int p2]) (n := 4) (Nat.le_of_ble_eq_true rfl)
  rw [lg_entry_eq]
  generalize (lg_sl ([.ref (ad 0), .int p0, .int p1, .int p2]) ++ List.replicate (4 - (lg_sl ([.ref (ad 0), .int p0, .int p1, .int p2])).length) Slot.unset).toArray = ls at hl ⊢
  have hl : lv_has ls 4 [(0, .ref (ad 0)), (1, .int p0), (2, .int p1), (3, .int p2)] := hl
  unfold wp_C_X7_air at h
  refine lv_iload_n hx hb dX7_air_0 rfl (lv_at hl 1 rfl) ?_
  refine lv_iconst (v := 0) hx hb dX7_air_1 (by decide) ?_
  refine lv_iconst (v := 5) hx hb dX7_air_2 (by decide) ?_
  refine va_calli (va_runS (As := [.int p0, .int 0, .int 5]) (rest := []) ⟨hx, hb, hml, hown, hts⟩ (c_C_X7_isWithin l dC dI ad cB cI cZ cL A LP today legCount legs hung warmth damp wopen tsize bytes rat rtold rwrong numbers asked ftold ffarm ffrom fwhat fon csize ctotal offered cws cwa g_number g_farm g_pig g_first g_begun g_weight g_salted g_heat g_place g_target g_feedAsked g_sealed g_bad g_sold p0 0 5 _ h) (va_cwS 3 hts gX7_air_X7_isWithin rfl rfl rfl (by decide +kernel) ⟨(Nat.le_of_ble_eq_true rfl), (Nat.le_of_ble_eq_true rfl)⟩) ⟨kC_blind, fun U hU hW => ⟨rfl, kC_go hA hS hP hK hD hE U hU hW⟩⟩ rfl rfl hl.1 rfl (lv_room (Nat.le_of_ble_eq_true rfl)) dX7_air_3 ⟨(Nat.le_of_ble_eq_true rfl), (Nat.le_of_ble_eq_true rfl)⟩) hS (fun q _ h => h) (fun q h => h) (fun r_1 u t H locs ht hvm hw hB hz1 hk1 hS => ?_)
  have h := hw
  try dsimp only at h
  have hP : va_P (dC, dI) vwCl (wA ad cB cI cZ cL LP today legCount legs hung warmth damp wopen tsize bytes rat rtold rwrong numbers asked ftold ffarm ffrom fwhat fon csize ctotal offered cws cwa g_number g_farm g_pig g_first g_begun g_weight g_salted g_heat g_place g_target g_feedAsked g_sealed g_bad g_sold) H := by rw [← ht]; exact hB.1
  have hD : va_D A (wA ad cB cI cZ cL LP today legCount legs hung warmth damp wopen tsize bytes rat rtold rwrong numbers asked ftold ffarm ffrom fwhat fon csize ctotal offered cws cwa g_number g_farm g_pig g_first g_begun g_weight g_salted g_heat g_place g_target g_feedAsked g_sealed g_bad g_sold) := hB.2.2
  refine lv_if_ne (tgt := 17) hx hb dX7_air_6 (by decide) (fun c_2 => ?_) (fun c_2 => ?_)
  · have h := h.1 c_2
    refine lv_iload_n hx hb dX7_air_17 rfl (lv_at hl 2 rfl) ?_
    refine lv_bipush (v := (-5)) hx hb dX7_air_18 (by decide) ?_
    refine lv_bipush (v := 40) hx hb dX7_air_20 (by decide) ?_
    refine va_calli (va_runS (As := [.int p1, .int (-5), .int 40]) (rest := []) ⟨hx, hb, hml, hown, hts⟩ (c_C_X7_isWithin l dC dI ad cB cI cZ cL A LP today legCount legs hung warmth damp wopen tsize bytes rat rtold rwrong numbers asked ftold ffarm ffrom fwhat fon csize ctotal offered cws cwa g_number g_farm g_pig g_first g_begun g_weight g_salted g_heat g_place g_target g_feedAsked g_sealed g_bad g_sold p1 (-5) 40 _ h) (va_cwS 3 hts gX7_air_X7_isWithin rfl rfl rfl (by decide +kernel) ⟨(Nat.le_of_ble_eq_true rfl), (Nat.le_of_ble_eq_true rfl)⟩) ⟨kC_blind, fun U hU hW => ⟨rfl, kC_go hA hS hP hK hD hE U hU hW⟩⟩ rfl rfl hl.1 rfl (lv_room (Nat.le_of_ble_eq_true rfl)) dX7_air_22 ⟨(Nat.le_of_ble_eq_true rfl), (Nat.le_of_ble_eq_true rfl)⟩) hS (fun q _ h => h) (fun q h => h) (fun r_3 u t H locs ht hvm hw hB hz1 hk1 hS => ?_)
    have h := hw
    try dsimp only at h
    have hP : va_P (dC, dI) vwCl (wA ad cB cI cZ cL LP today legCount legs hung warmth damp wopen tsize bytes rat rtold rwrong numbers asked ftold ffarm ffrom fwhat fon csize ctotal offered cws cwa g_number g_farm g_pig g_first g_begun g_weight g_salted g_heat g_place g_target g_feedAsked g_sealed g_bad g_sold) H := by rw [← ht]; exact hB.1
    have hD : va_D A (wA ad cB cI cZ cL LP today legCount legs hung warmth damp wopen tsize bytes rat rtold rwrong numbers asked ftold ffarm ffrom fwhat fon csize ctotal offered cws cwa g_number g_farm g_pig g_first g_begun g_weight g_salted g_heat g_place g_target g_feedAsked g_sealed g_bad g_sold) := hB.2.2
    refine lv_if_eq (tgt := 38) hx hb dX7_air_25 (by decide) (fun c_4 => ?_) (fun c_4 => ?_)
    · have h := h.1 c_4
      exact hbk_C_X7_air_38 warmth damp _ _ _ hP hD hS (lv_sub hl [] rfl) h
    · have h := h.2 c_4
      refine lv_iload_n hx hb dX7_air_28 rfl (lv_at hl 3 rfl) ?_
      refine lv_iconst (v := 0) hx hb dX7_air_29 (by decide) ?_
      refine lv_bipush (v := 100) hx hb dX7_air_30 (by decide) ?_
      refine va_calli (va_runS (As := [.int p2, .int 0, .int 100]) (rest := []) ⟨hx, hb, hml, hown, hts⟩ (c_C_X7_isWithin l dC dI ad cB cI cZ cL A LP today legCount legs hung warmth damp wopen tsize bytes rat rtold rwrong numbers asked ftold ffarm ffrom fwhat fon csize ctotal offered cws cwa g_number g_farm g_pig g_first g_begun g_weight g_salted g_heat g_place g_target g_feedAsked g_sealed g_bad g_sold p2 0 100 _ h) (va_cwS 3 hts gX7_air_X7_isWithin rfl rfl rfl (by decide +kernel) ⟨(Nat.le_of_ble_eq_true rfl), (Nat.le_of_ble_eq_true rfl)⟩) ⟨kC_blind, fun U hU hW => ⟨rfl, kC_go hA hS hP hK hD hE U hU hW⟩⟩ rfl rfl hl.1 rfl (lv_room (Nat.le_of_ble_eq_true rfl)) dX7_air_32 ⟨(Nat.le_of_ble_eq_true rfl), (Nat.le_of_ble_eq_true rfl)⟩) hS (fun q _ h => h) (fun q h => h) (fun r_5 u t H locs ht hvm hw hB hz1 hk1 hS => ?_)
      have h := hw
      try dsimp only at h
      have hP : va_P (dC, dI) vwCl (wA ad cB cI cZ cL LP today legCount legs hung warmth damp wopen tsize bytes rat rtold rwrong numbers asked ftold ffarm ffrom fwhat fon csize ctotal offered cws cwa g_number g_farm g_pig g_first g_begun g_weight g_salted g_heat g_place g_target g_feedAsked g_sealed g_bad g_sold) H := by rw [← ht]; exact hB.1
      have hD : va_D A (wA ad cB cI cZ cL LP today legCount legs hung warmth damp wopen tsize bytes rat rtold rwrong numbers asked ftold ffarm ffrom fwhat fon csize ctotal offered cws cwa g_number g_farm g_pig g_first g_begun g_weight g_salted g_heat g_place g_target g_feedAsked g_sealed g_bad g_sold) := hB.2.2
      refine lv_if_ne (tgt := 46) hx hb dX7_air_35 (by decide) (fun c_6 => ?_) (fun c_6 => ?_)
      · have h := h.1 c_6
        refine lv_aload_n hx hb dX7_air_46 rfl (lv_at hl 0 rfl) ?_
        refine va_get (D := (dC, dI)) (ci := 7) (v := .ref (ad 4)) (C := RX7) (T := TX7) (N := 10) hx hb hts hk_4 hown hK hP 0 wA_g0 rfl 4 (by decide) hk_3 (fun _ h9 => h9) rfl dX7_air_47 ?_
        refine lv_iload_n hx hb dX7_air_50 rfl (lv_at hl 1 rfl) ?_
        refine lv_iload_n hx hb dX7_air_51 rfl (lv_at hl 2 rfl) ?_
        refine lv_iload_n hx hb dX7_air_52 rfl (lv_at hl 3 rfl) ?_
        refine va_callv (va_runV (As := [.int p0, .int p1, .int p2]) (rest := []) ⟨hx, hb, hml, hown, hts⟩ (c_C_X4_setAir l dC dI ad cB cI cZ cL A LP today legCount legs hung warmth damp wopen tsize bytes rat rtold rwrong numbers asked ftold ffarm ffrom fwhat fon csize ctotal offered cws cwa g_number g_farm g_pig g_first g_begun g_weight g_salted g_heat g_place g_target g_feedAsked g_sealed g_bad g_sold p0 p1 p2 _ h) (cwV 3 hts gX7_air_X4_setAir rfl rfl rfl (by decide +kernel) ⟨(Nat.le_of_ble_eq_true rfl), (Nat.le_of_ble_eq_true rfl)⟩) ⟨kC_blind, va_recv hK hP (ci := 4) (q0 := 4) rfl wA_g4, fun U hU hW => ⟨rfl, kC_go hA hS hP hK hD hE U hU hW⟩⟩ rfl rfl hl.1 rfl (lv_room (Nat.le_of_ble_eq_true rfl)) dX7_air_53 ⟨(Nat.le_of_ble_eq_true rfl), (Nat.le_of_ble_eq_true rfl)⟩) hS (fun q _ h => h) (fun q h => h) (fun u t H locs ht hvm hw hB hz1 hk1 hS => ?_)
        obtain ⟨warmth_7, damp_7⟩ := u
        have h := hw
        try dsimp only at h
        have hP : va_P (dC, dI) vwCl (wA ad cB cI cZ cL LP today legCount legs hung warmth_7 damp_7 wopen tsize bytes rat rtold rwrong numbers asked ftold ffarm ffrom fwhat fon csize ctotal offered cws cwa g_number g_farm g_pig g_first g_begun g_weight g_salted g_heat g_place g_target g_feedAsked g_sealed g_bad g_sold) H := by rw [← ht]; exact hB.1
        have hD : va_D A (wA ad cB cI cZ cL LP today legCount legs hung warmth_7 damp_7 wopen tsize bytes rat rtold rwrong numbers asked ftold ffarm ffrom fwhat fon csize ctotal offered cws cwa g_number g_farm g_pig g_first g_begun g_weight g_salted g_heat g_place g_target g_feedAsked g_sealed g_bad g_sold) := hB.2.2
        refine W.widen (k := 1) (n := 6) (Nat.le_of_ble_eq_true rfl) (Nat.le_of_ble_eq_true rfl) ?_
        refine vx_ret ?_
        exact W.vret hx hb hr (fun t ht hW => ⟨⟨(warmth_7, damp_7), rfl, h, kB_mk hP hK hD ht hW.alike⟩, hS.F ht⟩) hS.2.2 dX7_air_56
      · have h := h.2 c_6
        exact hbk_C_X7_air_38 warmth damp _ _ _ hP hD hS (lv_sub hl [] rfl) h
  · have h := h.2 c_2
    exact vx_throw0 (own := RX7) (cls := "java/lang/IndexOutOfBoundsException") (names := ["java/lang/RuntimeException", "java/lang/Exception"]) hx hb hl0 hown (by decide +kernel) (by decide +kernel) hk_5 hk_6 hk_7.1 hk_7.2 hE.1.1 hE.1.2 hS (hl.1.trans hml.symm) dX7_air_9 dX7_air_12 dX7_air_13 dX7_air_16 (fun x9 hx9 => (htb x9 hx9).elim) (Nat.le_of_ble_eq_true rfl) (Nat.le_of_ble_eq_true rfl) (Nat.le_of_ble_eq_true rfl) (Nat.le_of_ble_eq_true rfl) hlocks (fun t hv9 hz9 hk9 => by obtain ⟨b9, f9⟩ := kX_mk hS hP hK hD hv9 hz9 hk9; exact ⟨(1, warmth, damp), h, ⟨rfl, b9⟩, f9⟩) hS.2.2 (Nat.le_of_ble_eq_true rfl) (Nat.le_of_ble_eq_true rfl)
def wp_C_X7_open (Q : Int32 → (Nat → Int32) → Prop) (X : Nat → (Nat → Int32) → Prop) (wopen : Nat → Int32) (p0 : Int32) (p1 : Int32) : Prop := wp_C_X7_isWithin (fun r_1 => ((¬ r_1 = 0 → wp_C_X4_setWindows (fun r_3 wopen_3 => (o01 r_3 ∧ Q r_3 wopen_3)) wopen p0 p1) ∧ (r_1 = 0 → X 1 wopen))) p0 1 5
def rm_C_X7_open : Room := { frames := 6, cells := 1, slots := 6, locals := 81 }
abbrev pq_C_X7_open (dC : Nat → ClassId) (dI : Nat → Nat → Nat) (ad : Nat → Nat) (cB cI cZ cL : ClassId) (A : Nat → Prop) (LP : List Nat) (today legCount : Int32) (legs hung : Nat → Option Nat) (warmth damp wopen : Nat → Int32) (tsize : Int32) (bytes : Nat → Int32) (rat rtold rwrong : Int32) (numbers asked : Nat → Int32) (ftold : Int32) (ffarm ffrom fwhat fon : Nat → Int32) (csize ctotal : Int32) (offered : Nat → Option Nat) (cws cwa g_number g_farm g_pig g_first g_begun g_weight g_salted g_heat g_place g_target g_feedAsked g_sealed g_bad g_sold : Nat → Int32) (Q : Int32 → (Nat → Int32) → Prop) : Array Value → State → Outcome → State → Prop := va_Qi (fun (r : Int32) (u : (Nat → Int32)) => Q r u) (fun u t => kB dC dI A (wA ad cB cI cZ cL LP today legCount legs hung warmth damp u tsize bytes rat rtold rwrong numbers asked ftold ffarm ffrom fwhat fon csize ctotal offered cws cwa g_number g_farm g_pig g_first g_begun g_weight g_salted g_heat g_place g_target g_feedAsked g_sealed g_bad g_sold) (kTy cB cI cZ cL) t) A
abbrev px_C_X7_open (dC : Nat → ClassId) (dI : Nat → Nat → Nat) (ad : Nat → Nat) (cB cI cZ cL : ClassId) (A : Nat → Prop) (LP : List Nat) (today legCount : Int32) (legs hung : Nat → Option Nat) (warmth damp wopen : Nat → Int32) (tsize : Int32) (bytes : Nat → Int32) (rat rtold rwrong : Int32) (numbers asked : Nat → Int32) (ftold : Int32) (ffarm ffrom fwhat fon : Nat → Int32) (csize ctotal : Int32) (offered : Nat → Option Nat) (cws cwa g_number g_farm g_pig g_first g_begun g_weight g_salted g_heat g_place g_target g_feedAsked g_sealed g_bad g_sold : Nat → Int32) (X : Nat → (Nat → Int32) → Prop) : String → State → State → Prop := vx_X (fun u : Nat × (Nat → Int32) => X u.1 u.2) (fun E u t => E = kEx u.1 ∧ kB dC dI A (wA ad cB cI cZ cL LP today legCount legs hung warmth damp u.2 tsize bytes rat rtold rwrong numbers asked ftold ffarm ffrom fwhat fon csize ctotal offered cws cwa g_number g_farm g_pig g_first g_begun g_weight g_salted g_heat g_place g_target g_feedAsked g_sealed g_bad g_sold) (kTy cB cI cZ cL) t) A
set_option maxHeartbeats 4000000 in
set_option maxRecDepth 100000 in
theorem c_C_X7_open (l : Launch) (hl0 : l.stackTraces = false) (dC : Nat → ClassId) (dI : Nat → Nat → Nat) (ad : Nat → Nat) (cB cI cZ cL : ClassId) (A : Nat → Prop) (LP : List Nat) (today legCount : Int32) (legs hung : Nat → Option Nat) (warmth damp wopen : Nat → Int32) (tsize : Int32) (bytes : Nat → Int32) (rat rtold rwrong : Int32) (numbers asked : Nat → Int32) (ftold : Int32) (ffarm ffrom fwhat fon : Nat → Int32) (csize ctotal : Int32) (offered : Nat → Option Nat) (cws cwa g_number g_farm g_pig g_first g_begun g_weight g_salted g_heat g_place g_target g_feedAsked g_sealed g_bad g_sold : Nat → Int32) (p0 : Int32) (p1 : Int32)  (Q : Int32 → (Nat → Int32) → Prop) (X : Nat → (Nat → Int32) → Prop) (h : wp_C_X7_open Q X wopen p0 p1) : vx_Met l yX7_open wsX7_open rm_C_X7_open (va_Pc [.ref (ad 0), .int p0, .int p1] (kC dC dI ad A (wA ad cB cI cZ cL LP today legCount legs hung warmth damp wopen tsize bytes rat rtold rwrong numbers asked ftold ffarm ffrom fwhat fon csize ctotal offered cws cwa g_number g_farm g_pig g_first g_begun g_weight g_salted g_heat g_place g_target g_feedAsked g_sealed g_bad g_sold) (kTy cB cI cZ cL))) (pq_C_X7_open dC dI ad cB cI cZ cL A LP today legCount legs hung warmth damp wopen tsize bytes rat rtold rwrong numbers asked ftold ffarm ffrom fwhat fon csize ctotal offered cws cwa g_number g_farm g_pig g_first g_begun g_weight g_salted g_heat g_place g_target g_feedAsked g_sealed g_bad g_sold Q) (px_C_X7_open dC dI ad cB cI cZ cL A LP today legCount legs hung warmth damp wopen tsize bytes rat rtold rwrong numbers asked ftold ffarm ffrom fwhat fon csize ctotal offered cws cwa g_number g_farm g_pig g_first g_begun g_weight g_salted g_heat g_place g_target g_feedAsked g_sealed g_bad g_sold X) 1 6 A := by
  refine vx_ofW (cc := cX7_open) (maxL := 3) (ret := (some .boolean)) (by decide) rfl ?_
  intro p e s m args below meth c s₁ B hml htb hv
  obtain ⟨rfl, hA, hP, hK, hD, hE⟩ := hv
  have hx := B.exec
  have hb := B.bytes
  have hr := B.returns
  have hts := atoms_spec (ws := wsX7_open) B.pre
  have hown : s.vm.findClass RX7 = some m.cls := findClass_of_methodNamed B.named
  have hlocks := B.notSynchronized
  have hS : va_S A s.heap s.heap [] := va_S.rf
  have hk_0 := hts (.fieldLink RX7 25 "HamCellar" "rooms" "LHamCellar$Rooms;") (by decide +kernel)
  have hk_1 : ∀ w ∈ wsX70, w ∈ wsX7_open := by decide +kernel
  have hk_2 := hts (.classLink RX7 132 "java/lang/IndexOutOfBoundsException") (by decide +kernel)
  have hk_3 := hts (.initialized "java/lang/IndexOutOfBoundsException") (by decide +kernel)
  have hk_4 : (∀ w ∈ vx_at0 RX7 134 "java/lang/IndexOutOfBoundsException" ["java/lang/RuntimeException", "java/lang/Exception"], w.before ([.ref (ad 0), .int p0, .int p1] : List Value).toArray s = true) ∧ (∀ w ∈ Cond.classLink RX7 132 "java/lang/IndexOutOfBoundsException" :: Cond.initialized "java/lang/IndexOutOfBoundsException" :: vx_at0 RX7 134 "java/lang/IndexOutOfBoundsException" ["java/lang/RuntimeException", "java/lang/Exception"], vx_ot w = true) := ⟨vx_hat (B := [.castable "java/lang/IndexOutOfBoundsException" "java/lang/IndexOutOfBoundsException", .declares ⟨"java/lang/RuntimeException", "<init>", "()V"⟩, .declares ⟨"java/lang/Exception", "<init>", "()V"⟩, .declares ⟨"java/lang/Throwable", "<init>", "()V"⟩]) (fun w hw => hts w ((by decide +kernel : ∀ w ∈ (vx_at0 RX7 134 "java/lang/IndexOutOfBoundsException" ["java/lang/RuntimeException", "java/lang/Exception"]).filter goodWord, w ∈ wsX7_open) w hw)) (by decide +kernel) (vx_c (va_Nw.use rfl (hE.2.1.2.2.1 "java/lang/IndexOutOfBoundsException" (by decide))) (vx_c (va_Nw.use rfl (hE.2.1.2.2.2 _ (List.mem_of_getElem? (i := 0) rfl))) (vx_c (va_Nw.use rfl (hE.2.1.2.2.2 _ (List.mem_of_getElem? (i := 1) rfl))) (vx_c (va_Nw.use rfl (hE.2.1.2.2.2 _ (List.mem_of_getElem? (i := 2) rfl))) vx_n)))), by decide +kernel⟩
  have hl := lv_entry ([.ref (ad 0), .int p0, .int p1]) (n := 3) (Nat.le_of_ble_eq_true rfl)
  rw [lg_entry_eq]
  generalize (lg_sl ([.ref (ad 0), .int p0, .int p1]) ++ List.replicate (3 - (lg_sl ([.ref (ad 0), .int p0, .int p1])).length) Slot.unset).toArray = ls at hl ⊢
  have hl : lv_has ls 3 [(0, .ref (ad 0)), (1, .int p0), (2, .int p1)] := hl
  unfold wp_C_X7_open at h
  refine lv_iload_n hx hb dX7_open_0 rfl (lv_at hl 1 rfl) ?_
  refine lv_iconst (v := 1) hx hb dX7_open_1 (by decide) ?_
  refine lv_iconst (v := 5) hx hb dX7_open_2 (by decide) ?_
  refine va_calli (va_runS (As := [.int p0, .int 1, .int 5]) (rest := []) ⟨hx, hb, hml, hown, hts⟩ (c_C_X7_isWithin l dC dI ad cB cI cZ cL A LP today legCount legs hung warmth damp wopen tsize bytes rat rtold rwrong numbers asked ftold ffarm ffrom fwhat fon csize ctotal offered cws cwa g_number g_farm g_pig g_first g_begun g_weight g_salted g_heat g_place g_target g_feedAsked g_sealed g_bad g_sold p0 1 5 _ h) (va_cwS 3 hts gX7_open_X7_isWithin rfl rfl rfl (by decide +kernel) ⟨(Nat.le_of_ble_eq_true rfl), (Nat.le_of_ble_eq_true rfl)⟩) ⟨kC_blind, fun U hU hW => ⟨rfl, kC_go hA hS hP hK hD hE U hU hW⟩⟩ rfl rfl hl.1 rfl (lv_room (Nat.le_of_ble_eq_true rfl)) dX7_open_3 ⟨(Nat.le_of_ble_eq_true rfl), (Nat.le_of_ble_eq_true rfl)⟩) hS (fun q _ h => h) (fun q h => h) (fun r_1 u t H locs ht hvm hw hB hz1 hk1 hS => ?_)
  have h := hw
  try dsimp only at h
  have hP : va_P (dC, dI) vwCl (wA ad cB cI cZ cL LP today legCount legs hung warmth damp wopen tsize bytes rat rtold rwrong numbers asked ftold ffarm ffrom fwhat fon csize ctotal offered cws cwa g_number g_farm g_pig g_first g_begun g_weight g_salted g_heat g_place g_target g_feedAsked g_sealed g_bad g_sold) H := by rw [← ht]; exact hB.1
  have hD : va_D A (wA ad cB cI cZ cL LP today legCount legs hung warmth damp wopen tsize bytes rat rtold rwrong numbers asked ftold ffarm ffrom fwhat fon csize ctotal offered cws cwa g_number g_farm g_pig g_first g_begun g_weight g_salted g_heat g_place g_target g_feedAsked g_sealed g_bad g_sold) := hB.2.2
  refine lv_if_ne (tgt := 17) hx hb dX7_open_6 (by decide) (fun c_2 => ?_) (fun c_2 => ?_)
  · have h := h.1 c_2
    refine lv_aload_n hx hb dX7_open_17 rfl (lv_at hl 0 rfl) ?_
    refine va_get (D := (dC, dI)) (ci := 7) (v := .ref (ad 4)) (C := RX7) (T := TX7) (N := 10) hx hb hts hk_1 hown hK hP 0 wA_g0 rfl 4 (by decide) hk_0 (fun _ h9 => h9) rfl dX7_open_18 ?_
    refine lv_iload_n hx hb dX7_open_21 rfl (lv_at hl 1 rfl) ?_
    refine lv_iload_n hx hb dX7_open_22 rfl (lv_at hl 2 rfl) ?_
    refine va_calli (va_runV (As := [.int p0, .int p1]) (rest := []) ⟨hx, hb, hml, hown, hts⟩ (c_C_X4_setWindows l dC dI ad cB cI cZ cL A LP today legCount legs hung warmth damp wopen tsize bytes rat rtold rwrong numbers asked ftold ffarm ffrom fwhat fon csize ctotal offered cws cwa g_number g_farm g_pig g_first g_begun g_weight g_salted g_heat g_place g_target g_feedAsked g_sealed g_bad g_sold p0 p1 _ h) (cwV 2 hts gX7_open_X4_setWindows rfl rfl rfl (by decide +kernel) ⟨(Nat.le_of_ble_eq_true rfl), (Nat.le_of_ble_eq_true rfl)⟩) ⟨kC_blind, va_recv hK hP (ci := 4) (q0 := 4) rfl wA_g4, fun U hU hW => ⟨rfl, kC_go hA hS hP hK hD hE U hU hW⟩⟩ rfl rfl hl.1 rfl (lv_room (Nat.le_of_ble_eq_true rfl)) dX7_open_23 ⟨(Nat.le_of_ble_eq_true rfl), (Nat.le_of_ble_eq_true rfl)⟩) hS (fun q _ h => h) (fun q h => h) (fun r_3 u t H locs ht hvm hw hB hz1 hk1 hS => ?_)
    obtain ⟨wopen_3, rfl⟩ : ∃ z, z = u := ⟨_, rfl⟩
    have h := hw
    try dsimp only at h
    have hP : va_P (dC, dI) vwCl (wA ad cB cI cZ cL LP today legCount legs hung warmth damp wopen_3 tsize bytes rat rtold rwrong numbers asked ftold ffarm ffrom fwhat fon csize ctotal offered cws cwa g_number g_farm g_pig g_first g_begun g_weight g_salted g_heat g_place g_target g_feedAsked g_sealed g_bad g_sold) H := by rw [← ht]; exact hB.1
    have hD : va_D A (wA ad cB cI cZ cL LP today legCount legs hung warmth damp wopen_3 tsize bytes rat rtold rwrong numbers asked ftold ffarm ffrom fwhat fon csize ctotal offered cws cwa g_number g_farm g_pig g_first g_begun g_weight g_salted g_heat g_place g_target g_feedAsked g_sealed g_bad g_sold) := hB.2.2
    refine W.widen (k := 1) (n := 6) (Nat.le_of_ble_eq_true rfl) (Nat.le_of_ble_eq_true rfl) ?_
    refine vx_ret ?_
    exact W.zret (v := r_3) (ty := .boolean) hx hb hr (z01 h.1) (fun t ht hW => ⟨⟨r_3, (wopen_3), rfl, h.2, kB_mk hP hK hD ht hW.alike⟩, hS.F ht⟩) hS.2.2 dX7_open_26
  · have h := h.2 c_2
    exact vx_throw0 (own := RX7) (cls := "java/lang/IndexOutOfBoundsException") (names := ["java/lang/RuntimeException", "java/lang/Exception"]) hx hb hl0 hown (by decide +kernel) (by decide +kernel) hk_2 hk_3 hk_4.1 hk_4.2 hE.1.1 hE.1.2 hS (hl.1.trans hml.symm) dX7_open_9 dX7_open_12 dX7_open_13 dX7_open_16 (fun x9 hx9 => (htb x9 hx9).elim) (Nat.le_of_ble_eq_true rfl) (Nat.le_of_ble_eq_true rfl) (Nat.le_of_ble_eq_true rfl) (Nat.le_of_ble_eq_true rfl) hlocks (fun t hv9 hz9 hk9 => by obtain ⟨b9, f9⟩ := kX_mk hS hP hK hD hv9 hz9 hk9; exact ⟨(1, wopen), h, ⟨rfl, b9⟩, f9⟩) hS.2.2 (Nat.le_of_ble_eq_true rfl) (Nat.le_of_ble_eq_true rfl)
def wp_C_X7_keepForADay (LP : List Nat) (warmth : Nat → Int32) (damp : Nat → Int32) (g_first : Nat → Int32) (g_place : Nat → Int32) (Q : (Nat → Int32) → (Nat → Int32) → (Nat → Int32) → (Nat → Int32) → Prop) (g_weight : Nat → Int32) (g_salted : Nat → Int32) (g_heat : Nat → Int32) (g_bad : Nat → Int32) (p0 : Nat) : Prop := wp_C_X3_room LP g_place (fun r_1 => ((¬ r_1 = 0 → ((¬ r_1 = (-1) → wp_C_X4_warmthOf warmth (fun r_5 => wp_C_X4_dampOf damp (fun r_6 => wp_C_X3_dry LP (fun g_weight_7 => wp_C_X3_gainHeat LP g_first g_salted (fun g_heat_9 g_bad_9 => Q g_weight_7 g_salted g_heat_9 g_bad_9) g_heat g_bad p0 (r_5 - 12)) g_weight p0 r_5 r_6) r_1) r_1) ∧ (r_1 = (-1) → wp_C_X3_gainHeat LP g_first g_salted (fun g_heat_11 g_bad_11 => Q g_weight g_salted g_heat_11 g_bad_11) g_heat g_bad p0 8))) ∧ (r_1 = 0 → wp_C_X3_lieInSalt LP (fun g_weight_13 g_salted_13 => Q g_weight_13 g_salted_13 g_heat g_bad) g_weight g_salted p0))) p0
def rm_C_X7_keepForADay : Room := { frames := 2, cells := 0, slots := 0, locals := 40 }
abbrev pq_C_X7_keepForADay (dC : Nat → ClassId) (dI : Nat → Nat → Nat) (ad : Nat → Nat) (cB cI cZ cL : ClassId) (A : Nat → Prop) (LP : List Nat) (today legCount : Int32) (legs hung : Nat → Option Nat) (warmth damp wopen : Nat → Int32) (tsize : Int32) (bytes : Nat → Int32) (rat rtold rwrong : Int32) (numbers asked : Nat → Int32) (ftold : Int32) (ffarm ffrom fwhat fon : Nat → Int32) (csize ctotal : Int32) (offered : Nat → Option Nat) (cws cwa g_number g_farm g_pig g_first g_begun g_weight g_salted g_heat g_place g_target g_feedAsked g_sealed g_bad g_sold : Nat → Int32) (Q : (Nat → Int32) → (Nat → Int32) → (Nat → Int32) → (Nat → Int32) → Prop) : Array Value → State → Outcome → State → Prop := va_Qv (fun u : (Nat → Int32) × (Nat → Int32) × (Nat → Int32) × (Nat → Int32) => Q u.1 u.2.1 u.2.2.1 u.2.2.2) (fun u t => kB dC dI A (wA ad cB cI cZ cL LP today legCount legs hung warmth damp wopen tsize bytes rat rtold rwrong numbers asked ftold ffarm ffrom fwhat fon csize ctotal offered cws cwa g_number g_farm g_pig g_first g_begun u.1 u.2.1 u.2.2.1 g_place g_target g_feedAsked g_sealed u.2.2.2 g_sold) (kTy cB cI cZ cL) t) A
set_option maxHeartbeats 4000000 in
set_option maxRecDepth 100000 in
theorem c_C_X7_keepForADay (l : Launch) (dC : Nat → ClassId) (dI : Nat → Nat → Nat) (ad : Nat → Nat) (cB cI cZ cL : ClassId) (A : Nat → Prop) (LP : List Nat) (today legCount : Int32) (legs hung : Nat → Option Nat) (warmth damp wopen : Nat → Int32) (tsize : Int32) (bytes : Nat → Int32) (rat rtold rwrong : Int32) (numbers asked : Nat → Int32) (ftold : Int32) (ffarm ffrom fwhat fon : Nat → Int32) (csize ctotal : Int32) (offered : Nat → Option Nat) (cws cwa g_number g_farm g_pig g_first g_begun g_weight g_salted g_heat g_place g_target g_feedAsked g_sealed g_bad g_sold : Nat → Int32) (p0 : Nat) (hy_p0 : p0 ∈ LP) (Q : (Nat → Int32) → (Nat → Int32) → (Nat → Int32) → (Nat → Int32) → Prop) (h : wp_C_X7_keepForADay LP warmth damp g_first g_place Q g_weight g_salted g_heat g_bad p0) : Met l yX7_keepForADay wsX7_keepForADay rm_C_X7_keepForADay (va_Pc [.ref (ad 0), .ref p0] (kC dC dI ad A (wA ad cB cI cZ cL LP today legCount legs hung warmth damp wopen tsize bytes rat rtold rwrong numbers asked ftold ffarm ffrom fwhat fon csize ctotal offered cws cwa g_number g_farm g_pig g_first g_begun g_weight g_salted g_heat g_place g_target g_feedAsked g_sealed g_bad g_sold) (kTy cB cI cZ cL))) (pq_C_X7_keepForADay dC dI ad cB cI cZ cL A LP today legCount legs hung warmth damp wopen tsize bytes rat rtold rwrong numbers asked ftold ffarm ffrom fwhat fon csize ctotal offered cws cwa g_number g_farm g_pig g_first g_begun g_weight g_salted g_heat g_place g_target g_feedAsked g_sealed g_bad g_sold Q) 0 0 A := by
  refine Met.ofW (cc := cX7_keepForADay) (maxL := 4) (ret := none) (by decide) rfl ?_
  intro p e s m args below meth c s₁ B hml hv
  obtain ⟨rfl, hA, hP, hK, hD, hE⟩ := hv
  have hx := B.exec
  have hb := B.bytes
  have hr := B.returns
  have hts := atoms_spec (ws := wsX7_keepForADay) B.pre
  have hown : s.vm.findClass RX7 = some m.cls := findClass_of_methodNamed B.named
  have hlocks := B.notSynchronized
  have hS : va_S A s.heap s.heap [] := va_S.rf
  have hk_0 := hts (.fieldLink RX7 25 "HamCellar" "rooms" "LHamCellar$Rooms;") (by decide +kernel)
  have hk_1 : ∀ w ∈ wsX70, w ∈ wsX7_keepForADay := by decide +kernel
  have hl := lv_entry ([.ref (ad 0), .ref p0]) (n := 4) (Nat.le_of_ble_eq_true rfl)
  rw [lg_entry_eq]
  generalize (lg_sl ([.ref (ad 0), .ref p0]) ++ List.replicate (4 - (lg_sl ([.ref (ad 0), .ref p0])).length) Slot.unset).toArray = ls at hl ⊢
  have hl : lv_has ls 4 [(0, .ref (ad 0)), (1, .ref p0)] := hl
  unfold wp_C_X7_keepForADay at h
  refine lv_aload_n hx hb dX7_keepForADay_0 rfl (lv_at hl 1 rfl) ?_
  obtain ⟨k_2, hg_k_2⟩ := wA_leg hy_p0
  refine va_calli (va_runV (As := []) (rest := []) ⟨hx, hb, hml, hown, hts⟩ (c_C_X3_room l dC dI ad cB cI cZ cL A LP today legCount legs hung warmth damp wopen tsize bytes rat rtold rwrong numbers asked ftold ffarm ffrom fwhat fon csize ctotal offered cws cwa g_number g_farm g_pig g_first g_begun g_weight g_salted g_heat g_place g_target g_feedAsked g_sealed g_bad g_sold p0 hy_p0 _ h) (cwV 0 hts gX7_keepForADay_X3_room rfl rfl rfl (by decide +kernel) ⟨(Nat.le_of_ble_eq_true rfl), (Nat.le_of_ble_eq_true rfl)⟩) ⟨kC_blind, va_recv hK hP (ci := 3) (q0 := k_2) rfl hg_k_2, fun U hU hW => ⟨rfl, kC_go hA hS hP hK hD hE U hU hW⟩⟩ rfl rfl hl.1 rfl (lv_room (Nat.le_of_ble_eq_true rfl)) dX7_keepForADay_1 ⟨(Nat.le_of_ble_eq_true rfl), (Nat.le_of_ble_eq_true rfl)⟩) hS (fun q _ h => h) (fun q h => h) (fun r_1 u t H locs ht hvm hw hB hz1 hk1 hS => ?_)
  have h := hw
  try dsimp only at h
  have hP : va_P (dC, dI) vwCl (wA ad cB cI cZ cL LP today legCount legs hung warmth damp wopen tsize bytes rat rtold rwrong numbers asked ftold ffarm ffrom fwhat fon csize ctotal offered cws cwa g_number g_farm g_pig g_first g_begun g_weight g_salted g_heat g_place g_target g_feedAsked g_sealed g_bad g_sold) H := by rw [← ht]; exact hB.1
  have hD : va_D A (wA ad cB cI cZ cL LP today legCount legs hung warmth damp wopen tsize bytes rat rtold rwrong numbers asked ftold ffarm ffrom fwhat fon csize ctotal offered cws cwa g_number g_farm g_pig g_first g_begun g_weight g_salted g_heat g_place g_target g_feedAsked g_sealed g_bad g_sold) := hB.2.2
  refine lv_istore_n (lv' := [(2, .int r_1), (0, .ref (ad 0)), (1, .ref p0)]) hx hb dX7_keepForADay_4 rfl hl (by decide) rfl (fun ls hl => ?_)
  refine lv_iload_n hx hb dX7_keepForADay_5 rfl (lv_at hl 0 rfl) ?_
  refine lv_if_ne (tgt := 16) hx hb dX7_keepForADay_6 (by decide) (fun c_3 => ?_) (fun c_3 => ?_)
  · have h := h.1 c_3
    refine lv_iload_n hx hb dX7_keepForADay_16 rfl (lv_at hl 0 rfl) ?_
    refine lv_iconst (v := (-1)) hx hb dX7_keepForADay_17 (by decide) ?_
    refine lv_icmp_ne (tgt := 30) hx hb dX7_keepForADay_18 (by decide) (fun c_4 => ?_) (fun c_4 => ?_)
    · have h := h.1 c_4
      refine lv_aload_n hx hb dX7_keepForADay_30 rfl (lv_at hl 1 rfl) ?_
      refine va_get (D := (dC, dI)) (ci := 7) (v := .ref (ad 4)) (C := RX7) (T := TX7) (N := 10) hx hb hts hk_1 hown hK hP 0 wA_g0 rfl 4 (by decide) hk_0 (fun _ h9 => h9) rfl dX7_keepForADay_31 ?_
      refine lv_iload_n hx hb dX7_keepForADay_34 rfl (lv_at hl 0 rfl) ?_
      refine va_calli (va_runV (As := [.int r_1]) (rest := []) ⟨hx, hb, hml, hown, hts⟩ (c_C_X4_warmthOf l dC dI ad cB cI cZ cL A LP today legCount legs hung warmth damp wopen tsize bytes rat rtold rwrong numbers asked ftold ffarm ffrom fwhat fon csize ctotal offered cws cwa g_number g_farm g_pig g_first g_begun g_weight g_salted g_heat g_place g_target g_feedAsked g_sealed g_bad g_sold r_1 _ h) (cwV 1 hts gX7_keepForADay_X4_warmthOf rfl rfl rfl (by decide +kernel) ⟨(Nat.le_of_ble_eq_true rfl), (Nat.le_of_ble_eq_true rfl)⟩) ⟨kC_blind, va_recv hK hP (ci := 4) (q0 := 4) rfl wA_g4, fun U hU hW => ⟨rfl, kC_go hA hS hP hK hD hE U hU hW⟩⟩ rfl rfl hl.1 rfl (lv_room (Nat.le_of_ble_eq_true rfl)) dX7_keepForADay_35 ⟨(Nat.le_of_ble_eq_true rfl), (Nat.le_of_ble_eq_true rfl)⟩) hS (fun q _ h => h) (fun q h => h) (fun r_5 u t H locs ht hvm hw hB hz1 hk1 hS => ?_)
      have h := hw
      try dsimp only at h
      have hP : va_P (dC, dI) vwCl (wA ad cB cI cZ cL LP today legCount legs hung warmth damp wopen tsize bytes rat rtold rwrong numbers asked ftold ffarm ffrom fwhat fon csize ctotal offered cws cwa g_number g_farm g_pig g_first g_begun g_weight g_salted g_heat g_place g_target g_feedAsked g_sealed g_bad g_sold) H := by rw [← ht]; exact hB.1
      have hD : va_D A (wA ad cB cI cZ cL LP today legCount legs hung warmth damp wopen tsize bytes rat rtold rwrong numbers asked ftold ffarm ffrom fwhat fon csize ctotal offered cws cwa g_number g_farm g_pig g_first g_begun g_weight g_salted g_heat g_place g_target g_feedAsked g_sealed g_bad g_sold) := hB.2.2
      refine lv_istore_n (lv' := [(3, .int r_5), (2, .int r_1), (0, .ref (ad 0)), (1, .ref p0)]) hx hb dX7_keepForADay_38 rfl hl (by decide) rfl (fun ls hl => ?_)
      refine lv_aload_n hx hb dX7_keepForADay_39 rfl (lv_at hl 3 rfl) ?_
      refine lv_iload_n hx hb dX7_keepForADay_40 rfl (lv_at hl 0 rfl) ?_
      refine lv_aload_n hx hb dX7_keepForADay_41 rfl (lv_at hl 2 rfl) ?_
      refine va_get (D := (dC, dI)) (ci := 7) (v := .ref (ad 4)) (C := RX7) (T := TX7) (N := 10) hx hb hts hk_1 hown hK hP 0 wA_g0 rfl 4 (by decide) hk_0 (fun _ h9 => h9) rfl dX7_keepForADay_42 ?_
      refine lv_iload_n hx hb dX7_keepForADay_45 rfl (lv_at hl 1 rfl) ?_
      refine va_calli (va_runV (As := [.int r_1]) (rest := [.int r_5, .ref p0]) ⟨hx, hb, hml, hown, hts⟩ (c_C_X4_dampOf l dC dI ad cB cI cZ cL A LP today legCount legs hung warmth damp wopen tsize bytes rat rtold rwrong numbers asked ftold ffarm ffrom fwhat fon csize ctotal offered cws cwa g_number g_farm g_pig g_first g_begun g_weight g_salted g_heat g_place g_target g_feedAsked g_sealed g_bad g_sold r_1 _ h) (cwV 1 hts gX7_keepForADay_X4_dampOf rfl rfl rfl (by decide +kernel) ⟨(Nat.le_of_ble_eq_true rfl), (Nat.le_of_ble_eq_true rfl)⟩) ⟨kC_blind, va_recv hK hP (ci := 4) (q0 := 4) rfl wA_g4, fun U hU hW => ⟨rfl, kC_go hA hS hP hK hD hE U hU hW⟩⟩ rfl rfl hl.1 rfl (lv_room (Nat.le_of_ble_eq_true rfl)) dX7_keepForADay_46 ⟨(Nat.le_of_ble_eq_true rfl), (Nat.le_of_ble_eq_true rfl)⟩) hS (fun q _ h => h) (fun q h => h) (fun r_6 u t H locs ht hvm hw hB hz1 hk1 hS => ?_)
      have h := hw
      try dsimp only at h
      have hP : va_P (dC, dI) vwCl (wA ad cB cI cZ cL LP today legCount legs hung warmth damp wopen tsize bytes rat rtold rwrong numbers asked ftold ffarm ffrom fwhat fon csize ctotal offered cws cwa g_number g_farm g_pig g_first g_begun g_weight g_salted g_heat g_place g_target g_feedAsked g_sealed g_bad g_sold) H := by rw [← ht]; exact hB.1
      have hD : va_D A (wA ad cB cI cZ cL LP today legCount legs hung warmth damp wopen tsize bytes rat rtold rwrong numbers asked ftold ffarm ffrom fwhat fon csize ctotal offered cws cwa g_number g_farm g_pig g_first g_begun g_weight g_salted g_heat g_place g_target g_feedAsked g_sealed g_bad g_sold) := hB.2.2
      obtain ⟨k_8, hg_k_8⟩ := wA_leg hy_p0
      refine va_callv (va_runV (As := [.int r_5, .int r_6]) (rest := []) ⟨hx, hb, hml, hown, hts⟩ (c_C_X3_dry l dC dI ad cB cI cZ cL A LP today legCount legs hung warmth damp wopen tsize bytes rat rtold rwrong numbers asked ftold ffarm ffrom fwhat fon csize ctotal offered cws cwa g_number g_farm g_pig g_first g_begun g_weight g_salted g_heat g_place g_target g_feedAsked g_sealed g_bad g_sold p0 r_5 r_6 hy_p0 _ h) (cwV 2 hts gX7_keepForADay_X3_dry rfl rfl rfl (by decide +kernel) ⟨(Nat.le_of_ble_eq_true rfl), (Nat.le_of_ble_eq_true rfl)⟩) ⟨kC_blind, va_recv hK hP (ci := 3) (q0 := k_8) rfl hg_k_8, fun U hU hW => ⟨rfl, kC_go hA hS hP hK hD hE U hU hW⟩⟩ rfl rfl hl.1 rfl (lv_room (Nat.le_of_ble_eq_true rfl)) dX7_keepForADay_49 ⟨(Nat.le_of_ble_eq_true rfl), (Nat.le_of_ble_eq_true rfl)⟩) hS (fun q _ h => h) (fun q h => h) (fun u t H locs ht hvm hw hB hz1 hk1 hS => ?_)
      obtain ⟨g_weight_7, rfl⟩ : ∃ z, z = u := ⟨_, rfl⟩
      have h := hw
      try dsimp only at h
      have hP : va_P (dC, dI) vwCl (wA ad cB cI cZ cL LP today legCount legs hung warmth damp wopen tsize bytes rat rtold rwrong numbers asked ftold ffarm ffrom fwhat fon csize ctotal offered cws cwa g_number g_farm g_pig g_first g_begun g_weight_7 g_salted g_heat g_place g_target g_feedAsked g_sealed g_bad g_sold) H := by rw [← ht]; exact hB.1
      have hD : va_D A (wA ad cB cI cZ cL LP today legCount legs hung warmth damp wopen tsize bytes rat rtold rwrong numbers asked ftold ffarm ffrom fwhat fon csize ctotal offered cws cwa g_number g_farm g_pig g_first g_begun g_weight_7 g_salted g_heat g_place g_target g_feedAsked g_sealed g_bad g_sold) := hB.2.2
      refine lv_aload_n hx hb dX7_keepForADay_52 rfl (lv_at hl 3 rfl) ?_
      refine lv_iload_n hx hb dX7_keepForADay_53 rfl (lv_at hl 0 rfl) ?_
      refine lv_bipush (v := 12) hx hb dX7_keepForADay_54 (by decide) ?_
      refine lv_isub hx hb dX7_keepForADay_56 ?_
      obtain ⟨k_10, hg_k_10⟩ := wA_leg hy_p0
      refine va_callv (va_runV (As := [.int (r_5 - 12)]) (rest := []) ⟨hx, hb, hml, hown, hts⟩ (c_C_X3_gainHeat l dC dI ad cB cI cZ cL A LP today legCount legs hung warmth damp wopen tsize bytes rat rtold rwrong numbers asked ftold ffarm ffrom fwhat fon csize ctotal offered cws cwa g_number g_farm g_pig g_first g_begun g_weight_7 g_salted g_heat g_place g_target g_feedAsked g_sealed g_bad g_sold p0 (r_5 - 12) hy_p0 _ h) (cwV 1 hts gX7_keepForADay_X3_gainHeat rfl rfl rfl (by decide +kernel) ⟨(Nat.le_of_ble_eq_true rfl), (Nat.le_of_ble_eq_true rfl)⟩) ⟨kC_blind, va_recv hK hP (ci := 3) (q0 := k_10) rfl hg_k_10, fun U hU hW => ⟨rfl, kC_go hA hS hP hK hD hE U hU hW⟩⟩ rfl rfl hl.1 rfl (lv_room (Nat.le_of_ble_eq_true rfl)) dX7_keepForADay_57 ⟨(Nat.le_of_ble_eq_true rfl), (Nat.le_of_ble_eq_true rfl)⟩) hS (fun q _ h => h) (fun q h => h) (fun u t H locs ht hvm hw hB hz1 hk1 hS => ?_)
      obtain ⟨g_heat_9, g_bad_9⟩ := u
      have h := hw
      try dsimp only at h
      have hP : va_P (dC, dI) vwCl (wA ad cB cI cZ cL LP today legCount legs hung warmth damp wopen tsize bytes rat rtold rwrong numbers asked ftold ffarm ffrom fwhat fon csize ctotal offered cws cwa g_number g_farm g_pig g_first g_begun g_weight_7 g_salted g_heat_9 g_place g_target g_feedAsked g_sealed g_bad_9 g_sold) H := by rw [← ht]; exact hB.1
      have hD : va_D A (wA ad cB cI cZ cL LP today legCount legs hung warmth damp wopen tsize bytes rat rtold rwrong numbers asked ftold ffarm ffrom fwhat fon csize ctotal offered cws cwa g_number g_farm g_pig g_first g_begun g_weight_7 g_salted g_heat_9 g_place g_target g_feedAsked g_sealed g_bad_9 g_sold) := hB.2.2
      exact W.vret hx hb hr (fun t ht hW => ⟨⟨(g_weight_7, g_salted, g_heat_9, g_bad_9), rfl, h, kB_mk hP hK hD ht hW.alike⟩, hS.F ht⟩) hS.2.2 dX7_keepForADay_60
    · have h := h.2 c_4
      refine lv_aload_n hx hb dX7_keepForADay_21 rfl (lv_at hl 2 rfl) ?_
      refine lv_bipush (v := 8) hx hb dX7_keepForADay_22 (by decide) ?_
      obtain ⟨k_12, hg_k_12⟩ := wA_leg hy_p0
      refine va_callv (va_runV (As := [.int 8]) (rest := []) ⟨hx, hb, hml, hown, hts⟩ (c_C_X3_gainHeat l dC dI ad cB cI cZ cL A LP today legCount legs hung warmth damp wopen tsize bytes rat rtold rwrong numbers asked ftold ffarm ffrom fwhat fon csize ctotal offered cws cwa g_number g_farm g_pig g_first g_begun g_weight g_salted g_heat g_place g_target g_feedAsked g_sealed g_bad g_sold p0 8 hy_p0 _ h) (cwV 1 hts gX7_keepForADay_X3_gainHeat rfl rfl rfl (by decide +kernel) ⟨(Nat.le_of_ble_eq_true rfl), (Nat.le_of_ble_eq_true rfl)⟩) ⟨kC_blind, va_recv hK hP (ci := 3) (q0 := k_12) rfl hg_k_12, fun U hU hW => ⟨rfl, kC_go hA hS hP hK hD hE U hU hW⟩⟩ rfl rfl hl.1 rfl (lv_room (Nat.le_of_ble_eq_true rfl)) dX7_keepForADay_24 ⟨(Nat.le_of_ble_eq_true rfl), (Nat.le_of_ble_eq_true rfl)⟩) hS (fun q _ h => h) (fun q h => h) (fun u t H locs ht hvm hw hB hz1 hk1 hS => ?_)
      obtain ⟨g_heat_11, g_bad_11⟩ := u
      have h := hw
      try dsimp only at h
      have hP : va_P (dC, dI) vwCl (wA ad cB cI cZ cL LP today legCount legs hung warmth damp wopen tsize bytes rat rtold rwrong numbers asked ftold ffarm ffrom fwhat fon csize ctotal offered cws cwa g_number g_farm g_pig g_first g_begun g_weight g_salted g_heat_11 g_place g_target g_feedAsked g_sealed g_bad_11 g_sold) H := by rw [← ht]; exact hB.1
      have hD : va_D A (wA ad cB cI cZ cL LP today legCount legs hung warmth damp wopen tsize bytes rat rtold rwrong numbers asked ftold ffarm ffrom fwhat fon csize ctotal offered cws cwa g_number g_farm g_pig g_first g_begun g_weight g_salted g_heat_11 g_place g_target g_feedAsked g_sealed g_bad_11 g_sold) := hB.2.2
      refine lv_goto (tgt := 60) hx hb dX7_keepForADay_27 (by decide) ?_
      exact W.vret hx hb hr (fun t ht hW => ⟨⟨(g_weight, g_salted, g_heat_11, g_bad_11), rfl, h, kB_mk hP hK hD ht hW.alike⟩, hS.F ht⟩) hS.2.2 dX7_keepForADay_60
  · have h := h.2 c_3
    refine lv_aload_n hx hb dX7_keepForADay_9 rfl (lv_at hl 2 rfl) ?_
    obtain ⟨k_14, hg_k_14⟩ := wA_leg hy_p0
    refine va_callv (va_runV (As := []) (rest := []) ⟨hx, hb, hml, hown, hts⟩ (c_C_X3_lieInSalt l dC dI ad cB cI cZ cL A LP today legCount legs hung warmth damp wopen tsize bytes rat rtold rwrong numbers asked ftold ffarm ffrom fwhat fon csize ctotal offered cws cwa g_number g_farm g_pig g_first g_begun g_weight g_salted g_heat g_place g_target g_feedAsked g_sealed g_bad g_sold p0 hy_p0 _ h) (cwV 0 hts gX7_keepForADay_X3_lieInSalt rfl rfl rfl (by decide +kernel) ⟨(Nat.le_of_ble_eq_true rfl), (Nat.le_of_ble_eq_true rfl)⟩) ⟨kC_blind, va_recv hK hP (ci := 3) (q0 := k_14) rfl hg_k_14, fun U hU hW => ⟨rfl, kC_go hA hS hP hK hD hE U hU hW⟩⟩ rfl rfl hl.1 rfl (lv_room (Nat.le_of_ble_eq_true rfl)) dX7_keepForADay_10 ⟨(Nat.le_of_ble_eq_true rfl), (Nat.le_of_ble_eq_true rfl)⟩) hS (fun q _ h => h) (fun q h => h) (fun u t H locs ht hvm hw hB hz1 hk1 hS => ?_)
    obtain ⟨g_weight_13, g_salted_13⟩ := u
    have h := hw
    try dsimp only at h
    have hP : va_P (dC, dI) vwCl (wA ad cB cI cZ cL LP today legCount legs hung warmth damp wopen tsize bytes rat rtold rwrong numbers asked ftold ffarm ffrom fwhat fon csize ctotal offered cws cwa g_number g_farm g_pig g_first g_begun g_weight_13 g_salted_13 g_heat g_place g_target g_feedAsked g_sealed g_bad g_sold) H := by rw [← ht]; exact hB.1
    have hD : va_D A (wA ad cB cI cZ cL LP today legCount legs hung warmth damp wopen tsize bytes rat rtold rwrong numbers asked ftold ffarm ffrom fwhat fon csize ctotal offered cws cwa g_number g_farm g_pig g_first g_begun g_weight_13 g_salted_13 g_heat g_place g_target g_feedAsked g_sealed g_bad g_sold) := hB.2.2
    refine lv_goto (tgt := 60) hx hb dX7_keepForADay_13 (by decide) ?_
    exact W.vret hx hb hr (fun t ht hW => ⟨⟨(g_weight_13, g_salted_13, g_heat, g_bad), rfl, h, kB_mk hP hK hD ht hW.alike⟩, hS.F ht⟩) hS.2.2 dX7_keepForADay_60
def bk_C_X7_passDay_56 (LP : List Nat) (legs : Nat → Option Nat) (wopen : Nat → Int32) (g_first : Nat → Int32) (g_place : Nat → Int32) (g_sold : Nat → Int32)  (Q : Int32 → (Nat → Int32) → (Nat → Int32) → (Nat → Int32) → (Nat → Int32) → (Nat → Int32) → (Nat → Int32) → Prop) (K27 : Int32 → (Nat → Int32) → (Nat → Int32) → (Nat → Int32) → (Nat → Int32) → (Nat → Int32) → (Nat → Int32) → Int32 → Int32 → Prop) (today : Int32) (warmth : Nat → Int32) (damp : Nat → Int32) (g_weight : Nat → Int32) (g_salted : Nat → Int32) (g_heat : Nat → Int32) (g_bad : Nat → Int32) (v2 : Int32) (v3 : Int32) : Prop := K27 today warmth damp g_weight g_salted g_heat g_bad v2 (v3 + 1)
def lp_C_X7_passDay_27 (LP : List Nat) (legs : Nat → Option Nat) (wopen : Nat → Int32) (g_first : Nat → Int32) (g_place : Nat → Int32) (g_sold : Nat → Int32)  (Q : Int32 → (Nat → Int32) → (Nat → Int32) → (Nat → Int32) → (Nat → Int32) → (Nat → Int32) → (Nat → Int32) → Prop) : Nat → Int32 → (Nat → Int32) → (Nat → Int32) → (Nat → Int32) → (Nat → Int32) → (Nat → Int32) → (Nat → Int32) → Int32 → Int32 → Prop
  | 0 => fun _ _ _ _ _ _ _ _ _ => False
  | n + 1 => fun today warmth damp g_weight g_salted g_heat g_bad v2 v3 => ((v2 ≤ v3 → Q today warmth damp g_weight g_salted g_heat g_bad) ∧ (¬ (v2 ≤ v3) → (vp_in v3 60 ∧ ((legs v3.toNatClampNeg = none → bk_C_X7_passDay_56 LP legs wopen g_first g_place g_sold Q (lp_C_X7_passDay_27 LP legs wopen g_first g_place g_sold Q n) today warmth damp g_weight g_salted g_heat g_bad v2 v3) ∧ (∀ y_4 : Nat, legs v3.toNatClampNeg = some y_4 → y_4 ∈ LP ∧ ((¬ (g_sold y_4) = 0 → bk_C_X7_passDay_56 LP legs wopen g_first g_place g_sold Q (lp_C_X7_passDay_27 LP legs wopen g_first g_place g_sold Q n) today warmth damp g_weight g_salted g_heat g_bad v2 v3) ∧ ((g_sold y_4) = 0 → wp_C_X7_keepForADay LP warmth damp g_first g_place (fun g_weight_9 g_salted_9 g_heat_9 g_bad_9 => bk_C_X7_passDay_56 LP legs wopen g_first g_place g_sold Q (lp_C_X7_passDay_27 LP legs wopen g_first g_place g_sold Q n) today warmth damp g_weight_9 g_salted_9 g_heat_9 g_bad_9 v2 v3) g_weight g_salted g_heat g_bad y_4)))))))
def wp_C_X7_passDay (LP : List Nat) (legs : Nat → Option Nat) (wopen : Nat → Int32) (g_first : Nat → Int32) (g_place : Nat → Int32) (g_sold : Nat → Int32) (Q : Int32 → (Nat → Int32) → (Nat → Int32) → (Nat → Int32) → (Nat → Int32) → (Nat → Int32) → (Nat → Int32) → Prop) (today : Int32) (warmth : Nat → Int32) (damp : Nat → Int32) (g_weight : Nat → Int32) (g_salted : Nat → Int32) (g_heat : Nat → Int32) (g_bad : Nat → Int32) : Prop := wp_C_X4_letOutsideIn wopen (fun warmth_1 damp_1 => (∃ n_10, lp_C_X7_passDay_27 LP legs wopen g_first g_place g_sold Q n_10 (today + 1) warmth_1 damp_1 g_weight g_salted g_heat g_bad 60 0)) warmth damp
def rm_C_X7_passDay : Room := { frames := 3, cells := 0, slots := 0, locals := 63 }
abbrev pq_C_X7_passDay (dC : Nat → ClassId) (dI : Nat → Nat → Nat) (ad : Nat → Nat) (cB cI cZ cL : ClassId) (A : Nat → Prop) (LP : List Nat) (today legCount : Int32) (legs hung : Nat → Option Nat) (warmth damp wopen : Nat → Int32) (tsize : Int32) (bytes : Nat → Int32) (rat rtold rwrong : Int32) (numbers asked : Nat → Int32) (ftold : Int32) (ffarm ffrom fwhat fon : Nat → Int32) (csize ctotal : Int32) (offered : Nat → Option Nat) (cws cwa g_number g_farm g_pig g_first g_begun g_weight g_salted g_heat g_place g_target g_feedAsked g_sealed g_bad g_sold : Nat → Int32) (Q : Int32 → (Nat → Int32) → (Nat → Int32) → (Nat → Int32) → (Nat → Int32) → (Nat → Int32) → (Nat → Int32) → Prop) : Array Value → State → Outcome → State → Prop := va_Qv (fun u : Int32 × (Nat → Int32) × (Nat → Int32) × (Nat → Int32) × (Nat → Int32) × (Nat → Int32) × (Nat → Int32) => Q u.1 u.2.1 u.2.2.1 u.2.2.2.1 u.2.2.2.2.1 u.2.2.2.2.2.1 u.2.2.2.2.2.2) (fun u t => kB dC dI A (wA ad cB cI cZ cL LP u.1 legCount legs hung u.2.1 u.2.2.1 wopen tsize bytes rat rtold rwrong numbers asked ftold ffarm ffrom fwhat fon csize ctotal offered cws cwa g_number g_farm g_pig g_first g_begun u.2.2.2.1 u.2.2.2.2.1 u.2.2.2.2.2.1 g_place g_target g_feedAsked g_sealed u.2.2.2.2.2.2 g_sold) (kTy cB cI cZ cL) t) A
set_option maxHeartbeats 4000000 in
set_option maxRecDepth 100000 in
theorem c_C_X7_passDay (l : Launch) (dC : Nat → ClassId) (dI : Nat → Nat → Nat) (ad : Nat → Nat) (cB cI cZ cL : ClassId) (A : Nat → Prop) (LP : List Nat) (today legCount : Int32) (legs hung : Nat → Option Nat) (warmth damp wopen : Nat → Int32) (tsize : Int32) (bytes : Nat → Int32) (rat rtold rwrong : Int32) (numbers asked : Nat → Int32) (ftold : Int32) (ffarm ffrom fwhat fon : Nat → Int32) (csize ctotal : Int32) (offered : Nat → Option Nat) (cws cwa g_number g_farm g_pig g_first g_begun g_weight g_salted g_heat g_place g_target g_feedAsked g_sealed g_bad g_sold : Nat → Int32)   (Q : Int32 → (Nat → Int32) → (Nat → Int32) → (Nat → Int32) → (Nat → Int32) → (Nat → Int32) → (Nat → Int32) → Prop) (h : wp_C_X7_passDay LP legs wopen g_first g_place g_sold Q today warmth damp g_weight g_salted g_heat g_bad) : Met l yX7_passDay wsX7_passDay rm_C_X7_passDay (va_Pc [.ref (ad 0)] (kC dC dI ad A (wA ad cB cI cZ cL LP today legCount legs hung warmth damp wopen tsize bytes rat rtold rwrong numbers asked ftold ffarm ffrom fwhat fon csize ctotal offered cws cwa g_number g_farm g_pig g_first g_begun g_weight g_salted g_heat g_place g_target g_feedAsked g_sealed g_bad g_sold) (kTy cB cI cZ cL))) (pq_C_X7_passDay dC dI ad cB cI cZ cL A LP today legCount legs hung warmth damp wopen tsize bytes rat rtold rwrong numbers asked ftold ffarm ffrom fwhat fon csize ctotal offered cws cwa g_number g_farm g_pig g_first g_begun g_weight g_salted g_heat g_place g_target g_feedAsked g_sealed g_bad g_sold Q) 0 0 A := by
  refine Met.ofW (cc := cX7_passDay) (maxL := 5) (ret := none) (by decide) rfl ?_
  intro p e s m args below meth c s₁ B hml hv
  obtain ⟨rfl, hA, hP, hK, hD, hE⟩ := hv
  have hx := B.exec
  have hb := B.bytes
  have hr := B.returns
  have hts := atoms_spec (ws := wsX7_passDay) B.pre
  have hown : s.vm.findClass RX7 = some m.cls := findClass_of_methodNamed B.named
  have hlocks := B.notSynchronized
  have hS : va_S A s.heap s.heap [] := va_S.rf
  have hk_0 := hts (.fieldLink RX7 99 "HamCellar" "today" "I") (by decide +kernel)
  have hk_1 : ∀ w ∈ wsX70, w ∈ wsX7_passDay := by decide +kernel
  have hk_2 := hts (.fieldLink RX7 25 "HamCellar" "rooms" "LHamCellar$Rooms;") (by decide +kernel)
  have hk_3 := hts (.fieldLink RX7 11 "HamCellar" "legs" "[LHamCellar$Leg;") (by decide +kernel)
  have hk_4n := hE.2.1.1 ("HamCellar", 113, "HamCellar$Leg", "sold", "Z", "HamCellar") (by decide +kernel)
  have hk_4 : (Cond.fieldLinkNest "HamCellar" 113 "HamCellar$Leg" "sold" "Z" "HamCellar").before ([.ref (ad 0)] : List Value).toArray s = true := va_Nw.use rfl hk_4n
  have hk_5 : ∀ w ∈ wsX30, w ∈ wsX7_passDay := by decide +kernel
  have hbk_C_X7_passDay_56 : ∀ (K27 : Int32 → (Nat → Int32) → (Nat → Int32) → (Nat → Int32) → (Nat → Int32) → (Nat → Int32) → (Nat → Int32) → Int32 → Int32 → Prop) (hK27 : ∀ (today : Int32) (warmth : Nat → Int32) (damp : Nat → Int32) (g_weight : Nat → Int32) (g_salted : Nat → Int32) (g_heat : Nat → Int32) (g_bad : Nat → Int32) (v2 : Int32) (v3 : Int32) (H : Heap) (locs : List Loc) (ls : Array Slot), va_P (dC, dI) vwCl (wA ad cB cI cZ cL LP today legCount legs hung warmth damp wopen tsize bytes rat rtold rwrong numbers asked ftold ffarm ffrom fwhat fon csize ctotal offered cws cwa g_number g_farm g_pig g_first g_begun g_weight g_salted g_heat g_place g_target g_feedAsked g_sealed g_bad g_sold) H → va_D A (wA ad cB cI cZ cL LP today legCount legs hung warmth damp wopen tsize bytes rat rtold rwrong numbers asked ftold ffarm ffrom fwhat fon csize ctotal offered cws cwa g_number g_farm g_pig g_first g_begun g_weight g_salted g_heat g_place g_target g_feedAsked g_sealed g_bad g_sold) → va_S A s.heap H locs → lv_has ls 5 [(0, .ref (ad 0)), (1, .ref (ad 1)), (2, .int v2), (3, .int v3)] → K27 today warmth damp g_weight g_salted g_heat g_bad v2 v3 → W p l e (headSpec wsX7_passDay rm_C_X7_passDay).room s m ([.ref (ad 0)] : List Value).toArray below meth c H locs 0 0 (MQ below (pq_C_X7_passDay dC dI ad cB cI cZ cL A LP today legCount legs hung warmth damp wopen tsize bytes rat rtold rwrong numbers asked ftold ffarm ffrom fwhat fon csize ctotal offered cws cwa g_number g_farm g_pig g_first g_begun g_weight g_salted g_heat g_place g_target g_feedAsked g_sealed g_bad g_sold Q) ([.ref (ad 0)] : List Value).toArray s 0 0 A) (F0 m 27 ls [])) (today : Int32) (warmth : Nat → Int32) (damp : Nat → Int32) (g_weight : Nat → Int32) (g_salted : Nat → Int32) (g_heat : Nat → Int32) (g_bad : Nat → Int32) (v2 : Int32) (v3 : Int32) (H : Heap) (locs : List Loc) (ls : Array Slot), va_P (dC, dI) vwCl (wA ad cB cI cZ cL LP today legCount legs hung warmth damp wopen tsize bytes rat rtold rwrong numbers asked ftold ffarm ffrom fwhat fon csize ctotal offered cws cwa g_number g_farm g_pig g_first g_begun g_weight g_salted g_heat g_place g_target g_feedAsked g_sealed g_bad g_sold) H → va_D A (wA ad cB cI cZ cL LP today legCount legs hung warmth damp wopen tsize bytes rat rtold rwrong numbers asked ftold ffarm ffrom fwhat fon csize ctotal offered cws cwa g_number g_farm g_pig g_first g_begun g_weight g_salted g_heat g_place g_target g_feedAsked g_sealed g_bad g_sold) → va_S A s.heap H locs → lv_has ls 5 [(0, .ref (ad 0)), (1, .ref (ad 1)), (2, .int v2), (3, .int v3)] → bk_C_X7_passDay_56 LP legs wopen g_first g_place g_sold Q K27 today warmth damp g_weight g_salted g_heat g_bad v2 v3 → W p l e (headSpec wsX7_passDay rm_C_X7_passDay).room s m ([.ref (ad 0)] : List Value).toArray below meth c H locs 0 0 (MQ below (pq_C_X7_passDay dC dI ad cB cI cZ cL A LP today legCount legs hung warmth damp wopen tsize bytes rat rtold rwrong numbers asked ftold ffarm ffrom fwhat fon csize ctotal offered cws cwa g_number g_farm g_pig g_first g_begun g_weight g_salted g_heat g_place g_target g_feedAsked g_sealed g_bad g_sold Q) ([.ref (ad 0)] : List Value).toArray s 0 0 A) (F0 m 56 ls []) := by
    intro K27 hK27 today warmth damp g_weight g_salted g_heat g_bad v2 v3 H locs ls hP hD hS hl h
    refine lv_iinc (v := v3 + 1) (lv' := [(3, .int (v3 + 1)), (0, .ref (ad 0)), (1, .ref (ad 1)), (2, .int v2)]) hx hb dX7_passDay_56 hl (k := 3) rfl rfl (by decide) rfl (fun ls hl => ?_)
    refine lv_goto (tgt := 27) hx hb dX7_passDay_59 (by decide) ?_
    exact hK27 today warmth damp g_weight g_salted g_heat g_bad v2 (v3 + 1) _ _ _ hP hD hS (lv_sub hl [1, 2, 3, 0] rfl) h
  have hlp_C_X7_passDay_27 : ∀ (n : Nat) (today : Int32) (warmth : Nat → Int32) (damp : Nat → Int32) (g_weight : Nat → Int32) (g_salted : Nat → Int32) (g_heat : Nat → Int32) (g_bad : Nat → Int32) (v2 : Int32) (v3 : Int32) (H : Heap) (locs : List Loc) (ls : Array Slot), va_P (dC, dI) vwCl (wA ad cB cI cZ cL LP today legCount legs hung warmth damp wopen tsize bytes rat rtold rwrong numbers asked ftold ffarm ffrom fwhat fon csize ctotal offered cws cwa g_number g_farm g_pig g_first g_begun g_weight g_salted g_heat g_place g_target g_feedAsked g_sealed g_bad g_sold) H → va_D A (wA ad cB cI cZ cL LP today legCount legs hung warmth damp wopen tsize bytes rat rtold rwrong numbers asked ftold ffarm ffrom fwhat fon csize ctotal offered cws cwa g_number g_farm g_pig g_first g_begun g_weight g_salted g_heat g_place g_target g_feedAsked g_sealed g_bad g_sold) → va_S A s.heap H locs → lv_has ls 5 [(0, .ref (ad 0)), (1, .ref (ad 1)), (2, .int v2), (3, .int v3)] → lp_C_X7_passDay_27 LP legs wopen g_first g_place g_sold Q n today warmth damp g_weight g_salted g_heat g_bad v2 v3 → W p l e (headSpec wsX7_passDay rm_C_X7_passDay).room s m ([.ref (ad 0)] : List Value).toArray below meth c H locs 0 0 (MQ below (pq_C_X7_passDay dC dI ad cB cI cZ cL A LP today legCount legs hung warmth damp wopen tsize bytes rat rtold rwrong numbers asked ftold ffarm ffrom fwhat fon csize ctotal offered cws cwa g_number g_farm g_pig g_first g_begun g_weight g_salted g_heat g_place g_target g_feedAsked g_sealed g_bad g_sold Q) ([.ref (ad 0)] : List Value).toArray s 0 0 A) (F0 m 27 ls []) := by
    intro n
    induction n with
    | zero => intro today warmth damp g_weight g_salted g_heat g_bad v2 v3 H locs ls hP hD hS hl h; exact h.elim
    | succ n ih =>
      intro today warmth damp g_weight g_salted g_heat g_bad v2 v3 H locs ls hP hD hS hl h
      refine lv_iload_n hx hb dX7_passDay_27 rfl (lv_at hl 3 rfl) ?_
      refine lv_iload_n hx hb dX7_passDay_28 rfl (lv_at hl 2 rfl) ?_
      refine lv_icmp_ge (tgt := 62) hx hb dX7_passDay_29 (by decide) (fun c_2 => ?_) (fun c_2 => ?_)
      · have h := h.1 c_2
        exact W.vret hx hb hr (fun t ht hW => ⟨⟨(today, warmth, damp, g_weight, g_salted, g_heat, g_bad), rfl, h, kB_mk hP hK hD ht hW.alike⟩, hS.F ht⟩) hS.2.2 dX7_passDay_62
      · have h := h.2 c_2
        refine lv_aload_n hx hb dX7_passDay_32 rfl (lv_at hl 1 rfl) ?_
        refine lv_iload_n hx hb dX7_passDay_33 rfl (lv_at hl 3 rfl) ?_
        have hi_3 := h.1
        have h := h.2
        refine va_aldq hx hb hK hP 1 3 wA_g1 rfl hi_3 dX7_passDay_34 ?_
        cases hr_5 : legs v3.toNatClampNeg with
        | none =>
          have h := h.1 hr_5
          refine lv_astoreN (lv' := [(4, .null), (0, .ref (ad 0)), (1, .ref (ad 1)), (2, .int v2), (3, .int v3)]) hx hb dX7_passDay_35 hl (by decide) rfl (fun ls hl => ?_)
          refine lv_aloadN hx hb dX7_passDay_37 (lv_at hl 0 rfl) ?_
          refine lv_ifnullN (tgt := 56) hx hb dX7_passDay_39 (by decide) ?_
          exact hbk_C_X7_passDay_56 (lp_C_X7_passDay_27 LP legs wopen g_first g_place g_sold Q n) ih today warmth damp g_weight g_salted g_heat g_bad v2 v3 _ _ _ hP hD hS (lv_sub hl [1, 2, 3, 4] rfl) h
        | some y_4 =>
          have hy_y_4 := (h.2 y_4 hr_5).1
          have h := (h.2 y_4 hr_5).2
          refine lv_astore (lv' := [(4, .ref y_4), (0, .ref (ad 0)), (1, .ref (ad 1)), (2, .int v2), (3, .int v3)]) hx hb dX7_passDay_35 hl (by decide) rfl (fun ls hl => ?_)
          refine lv_aload hx hb dX7_passDay_37 (lv_at hl 0 rfl) ?_
          refine lv_ifnull hx hb dX7_passDay_39 ?_
          refine lv_aload hx hb dX7_passDay_42 (lv_at hl 0 rfl) ?_
          obtain ⟨k_7, hg_k_7⟩ := wA_leg hy_y_4
          refine va_getN (D := (dC, dI)) (ci := 3) (v := .int (g_sold y_4)) (C := RX3) (T := TX3) (N := 14) hx hb hts hk_5 hown hK hP k_7 hg_k_7 rfl 13 (by decide) hk_4 (fun _ h9 => h9) rfl dX7_passDay_44 ?_
          refine lv_if_ne (tgt := 56) hx hb dX7_passDay_47 (by decide) (fun c_8 => ?_) (fun c_8 => ?_)
          · have h := h.1 c_8
            exact hbk_C_X7_passDay_56 (lp_C_X7_passDay_27 LP legs wopen g_first g_place g_sold Q n) ih today warmth damp g_weight g_salted g_heat g_bad v2 v3 _ _ _ hP hD hS (lv_sub hl [1, 2, 3, 4] rfl) h
          · have h := h.2 c_8
            refine lv_aload_n hx hb dX7_passDay_50 rfl (lv_at hl 1 rfl) ?_
            refine lv_aload hx hb dX7_passDay_51 (lv_at hl 0 rfl) ?_
            refine va_callv (va_runV (As := [.ref y_4]) (rest := []) ⟨hx, hb, hml, hown, hts⟩ (c_C_X7_keepForADay l dC dI ad cB cI cZ cL A LP today legCount legs hung warmth damp wopen tsize bytes rat rtold rwrong numbers asked ftold ffarm ffrom fwhat fon csize ctotal offered cws cwa g_number g_farm g_pig g_first g_begun g_weight g_salted g_heat g_place g_target g_feedAsked g_sealed g_bad g_sold y_4 hy_y_4 _ h) (cwV 1 hts gX7_passDay_X7_keepForADay rfl rfl rfl (by decide +kernel) ⟨(Nat.le_of_ble_eq_true rfl), (Nat.le_of_ble_eq_true rfl)⟩) ⟨kC_blind, va_recv hK hP (ci := 7) (q0 := 0) rfl wA_g0, fun U hU hW => ⟨rfl, kC_go hA hS hP hK hD hE U hU hW⟩⟩ rfl rfl hl.1 rfl (lv_room (Nat.le_of_ble_eq_true rfl)) dX7_passDay_53 ⟨(Nat.le_of_ble_eq_true rfl), (Nat.le_of_ble_eq_true rfl)⟩) hS (fun q _ h => h) (fun q h => h) (fun u t H locs ht hvm hw hB hz1 hk1 hS => ?_)
            obtain ⟨g_weight_9, g_salted_9, g_heat_9, g_bad_9⟩ := u
            have h := hw
            try dsimp only at h
            have hP : va_P (dC, dI) vwCl (wA ad cB cI cZ cL LP today legCount legs hung warmth damp wopen tsize bytes rat rtold rwrong numbers asked ftold ffarm ffrom fwhat fon csize ctotal offered cws cwa g_number g_farm g_pig g_first g_begun g_weight_9 g_salted_9 g_heat_9 g_place g_target g_feedAsked g_sealed g_bad_9 g_sold) H := by rw [← ht]; exact hB.1
            have hD : va_D A (wA ad cB cI cZ cL LP today legCount legs hung warmth damp wopen tsize bytes rat rtold rwrong numbers asked ftold ffarm ffrom fwhat fon csize ctotal offered cws cwa g_number g_farm g_pig g_first g_begun g_weight_9 g_salted_9 g_heat_9 g_place g_target g_feedAsked g_sealed g_bad_9 g_sold) := hB.2.2
            exact hbk_C_X7_passDay_56 (lp_C_X7_passDay_27 LP legs wopen g_first g_place g_sold Q n) ih today warmth damp g_weight_9 g_salted_9 g_heat_9 g_bad_9 v2 v3 _ _ _ hP hD hS (lv_sub hl [1, 2, 3, 4] rfl) h
  have hl := lv_entry ([.ref (ad 0)]) (n := 5) (Nat.le_of_ble_eq_true rfl)
  rw [lg_entry_eq]
  generalize (lg_sl ([.ref (ad 0)]) ++ List.replicate (5 - (lg_sl ([.ref (ad 0)])).length) Slot.unset).toArray = ls at hl ⊢
  have hl : lv_has ls 5 [(0, .ref (ad 0))] := hl
  unfold wp_C_X7_passDay at h
  refine lv_aload_n hx hb dX7_passDay_0 rfl (lv_at hl 0 rfl) ?_
  refine lv_dup hx hb dX7_passDay_1 rfl ?_
  refine va_get (D := (dC, dI)) (ci := 7) (v := .int today) (C := RX7) (T := TX7) (N := 10) hx hb hts hk_1 hown hK hP 0 wA_g0 rfl 0 (by decide) hk_0 (fun _ h9 => h9) rfl dX7_passDay_2 ?_
  refine lv_iconst (v := 1) hx hb dX7_passDay_5 (by decide) ?_
  refine lv_iadd hx hb dX7_passDay_6 ?_
  refine va_put (D := (dC, dI)) (ci := 7) (v := .int (today + 1)) (ty := .int) (C := RX7) (T := TX7) (N := 10) hx hb hts hk_1 tyX7 tyX7_ok nmX7 hown hK hP hD hS 0 wA_g0 rfl 0 (by decide) hk_0 (fun _ h9 => h9) rfl (by decide +kernel) rfl rfl (Nat.le_of_ble_eq_true rfl) dX7_passDay_7 (fun H locs hP2 hD2 hS => ?_)
  have hP : va_P (dC, dI) vwCl (wA ad cB cI cZ cL LP (today + 1) legCount legs hung warmth damp wopen tsize bytes rat rtold rwrong numbers asked ftold ffarm ffrom fwhat fon csize ctotal offered cws cwa g_number g_farm g_pig g_first g_begun g_weight g_salted g_heat g_place g_target g_feedAsked g_sealed g_bad g_sold) H := hP_eq (wA_p_today) hP2
  have hD : va_D A (wA ad cB cI cZ cL LP (today + 1) legCount legs hung warmth damp wopen tsize bytes rat rtold rwrong numbers asked ftold ffarm ffrom fwhat fon csize ctotal offered cws cwa g_number g_farm g_pig g_first g_begun g_weight g_salted g_heat g_place g_target g_feedAsked g_sealed g_bad g_sold) := hD_eq (wA_p_today) hD2
  refine lv_aload_n hx hb dX7_passDay_10 rfl (lv_at hl 0 rfl) ?_
  refine va_get (D := (dC, dI)) (ci := 7) (v := .ref (ad 4)) (C := RX7) (T := TX7) (N := 10) hx hb hts hk_1 hown hK hP 0 wA_g0 rfl 4 (by decide) hk_2 (fun _ h9 => h9) rfl dX7_passDay_11 ?_
  refine va_callv (va_runV (As := []) (rest := []) ⟨hx, hb, hml, hown, hts⟩ (c_C_X4_letOutsideIn l dC dI ad cB cI cZ cL A LP (today + 1) legCount legs hung warmth damp wopen tsize bytes rat rtold rwrong numbers asked ftold ffarm ffrom fwhat fon csize ctotal offered cws cwa g_number g_farm g_pig g_first g_begun g_weight g_salted g_heat g_place g_target g_feedAsked g_sealed g_bad g_sold _ h) (cwV 0 hts gX7_passDay_X4_letOutsideIn rfl rfl rfl (by decide +kernel) ⟨(Nat.le_of_ble_eq_true rfl), (Nat.le_of_ble_eq_true rfl)⟩) ⟨kC_blind, va_recv hK hP (ci := 4) (q0 := 4) rfl wA_g4, fun U hU hW => ⟨rfl, kC_go hA hS hP hK hD hE U hU hW⟩⟩ rfl rfl hl.1 rfl (lv_room (Nat.le_of_ble_eq_true rfl)) dX7_passDay_14 ⟨(Nat.le_of_ble_eq_true rfl), (Nat.le_of_ble_eq_true rfl)⟩) hS (fun q _ h => h) (fun q h => h) (fun u t H locs ht hvm hw hB hz1 hk1 hS => ?_)
  obtain ⟨warmth_1, damp_1⟩ := u
  have h := hw
  try dsimp only at h
  have hP : va_P (dC, dI) vwCl (wA ad cB cI cZ cL LP (today + 1) legCount legs hung warmth_1 damp_1 wopen tsize bytes rat rtold rwrong numbers asked ftold ffarm ffrom fwhat fon csize ctotal offered cws cwa g_number g_farm g_pig g_first g_begun g_weight g_salted g_heat g_place g_target g_feedAsked g_sealed g_bad g_sold) H := by rw [← ht]; exact hB.1
  have hD : va_D A (wA ad cB cI cZ cL LP (today + 1) legCount legs hung warmth_1 damp_1 wopen tsize bytes rat rtold rwrong numbers asked ftold ffarm ffrom fwhat fon csize ctotal offered cws cwa g_number g_farm g_pig g_first g_begun g_weight g_salted g_heat g_place g_target g_feedAsked g_sealed g_bad g_sold) := hB.2.2
  refine lv_aload_n hx hb dX7_passDay_17 rfl (lv_at hl 0 rfl) ?_
  refine va_get (D := (dC, dI)) (ci := 7) (v := .ref (ad 1)) (C := RX7) (T := TX7) (N := 10) hx hb hts hk_1 hown hK hP 0 wA_g0 rfl 2 (by decide) hk_3 (fun _ h9 => h9) rfl dX7_passDay_18 ?_
  refine lv_astore_n (lv' := [(1, .ref (ad 1)), (0, .ref (ad 0))]) hx hb dX7_passDay_21 rfl hl (by decide) rfl (fun ls hl => ?_)
  refine lv_aload_n hx hb dX7_passDay_22 rfl (lv_at hl 0 rfl) ?_
  refine va_alen hx hb hK hP 1 3 wA_g1 rfl (v := 60) rfl dX7_passDay_23 ?_
  refine lv_istore_n (lv' := [(2, .int 60), (1, .ref (ad 1)), (0, .ref (ad 0))]) hx hb dX7_passDay_24 rfl hl (by decide) rfl (fun ls hl => ?_)
  refine lv_iconst (v := 0) hx hb dX7_passDay_25 (by decide) ?_
  refine lv_istore_n (lv' := [(3, .int 0), (2, .int 60), (1, .ref (ad 1)), (0, .ref (ad 0))]) hx hb dX7_passDay_26 rfl hl (by decide) rfl (fun ls hl => ?_)
  obtain ⟨n_10, h⟩ := h
  exact hlp_C_X7_passDay_27 n_10 (today + 1) warmth_1 damp_1 g_weight g_salted g_heat g_bad 60 0 _ _ _ hP hD hS (lv_sub hl [3, 2, 1, 0] rfl) h
def lp_C_X7_days_21 (LP : List Nat) (legs : Nat → Option Nat) (wopen : Nat → Int32) (g_first : Nat → Int32) (g_place : Nat → Int32) (g_sold : Nat → Int32)  (Q : Int32 → Int32 → (Nat → Int32) → (Nat → Int32) → (Nat → Int32) → (Nat → Int32) → (Nat → Int32) → (Nat → Int32) → Prop) (X : Nat → Int32 → (Nat → Int32) → (Nat → Int32) → (Nat → Int32) → (Nat → Int32) → (Nat → Int32) → (Nat → Int32) → Prop) : Nat → Int32 → (Nat → Int32) → (Nat → Int32) → (Nat → Int32) → (Nat → Int32) → (Nat → Int32) → (Nat → Int32) → Int32 → Int32 → Prop
  | 0 => fun _ _ _ _ _ _ _ _ _ => False
  | n + 1 => fun today warmth damp g_weight g_salted g_heat g_bad v1 v2 => ((v1 ≤ v2 → Q today today warmth damp g_weight g_salted g_heat g_bad) ∧ (¬ (v1 ≤ v2) → ((2000 ≤ today → Q today today warmth damp g_weight g_salted g_heat g_bad) ∧ (¬ (2000 ≤ today) → wp_C_X7_passDay LP legs wopen g_first g_place g_sold (fun today_5 warmth_5 damp_5 g_weight_5 g_salted_5 g_heat_5 g_bad_5 => lp_C_X7_days_21 LP legs wopen g_first g_place g_sold Q X n today_5 warmth_5 damp_5 g_weight_5 g_salted_5 g_heat_5 g_bad_5 v1 (v2 + 1)) today warmth damp g_weight g_salted g_heat g_bad))))
def wp_C_X7_days (LP : List Nat) (legs : Nat → Option Nat) (wopen : Nat → Int32) (g_first : Nat → Int32) (g_place : Nat → Int32) (g_sold : Nat → Int32) (Q : Int32 → Int32 → (Nat → Int32) → (Nat → Int32) → (Nat → Int32) → (Nat → Int32) → (Nat → Int32) → (Nat → Int32) → Prop) (X : Nat → Int32 → (Nat → Int32) → (Nat → Int32) → (Nat → Int32) → (Nat → Int32) → (Nat → Int32) → (Nat → Int32) → Prop) (today : Int32) (warmth : Nat → Int32) (damp : Nat → Int32) (g_weight : Nat → Int32) (g_salted : Nat → Int32) (g_heat : Nat → Int32) (g_bad : Nat → Int32) (p0 : Int32) : Prop := wp_C_X7_isWithin (fun r_1 => ((¬ r_1 = 0 → (∃ n_6, lp_C_X7_days_21 LP legs wopen g_first g_place g_sold Q X n_6 today warmth damp g_weight g_salted g_heat g_bad p0 0)) ∧ (r_1 = 0 → X 2 today warmth damp g_weight g_salted g_heat g_bad))) p0 0 200
def rm_C_X7_days : Room := { frames := 6, cells := 1, slots := 6, locals := 87 }
abbrev pq_C_X7_days (dC : Nat → ClassId) (dI : Nat → Nat → Nat) (ad : Nat → Nat) (cB cI cZ cL : ClassId) (A : Nat → Prop) (LP : List Nat) (today legCount : Int32) (legs hung : Nat → Option Nat) (warmth damp wopen : Nat → Int32) (tsize : Int32) (bytes : Nat → Int32) (rat rtold rwrong : Int32) (numbers asked : Nat → Int32) (ftold : Int32) (ffarm ffrom fwhat fon : Nat → Int32) (csize ctotal : Int32) (offered : Nat → Option Nat) (cws cwa g_number g_farm g_pig g_first g_begun g_weight g_salted g_heat g_place g_target g_feedAsked g_sealed g_bad g_sold : Nat → Int32) (Q : Int32 → Int32 → (Nat → Int32) → (Nat → Int32) → (Nat → Int32) → (Nat → Int32) → (Nat → Int32) → (Nat → Int32) → Prop) : Array Value → State → Outcome → State → Prop := va_Qi (fun (r : Int32) (u : Int32 × (Nat → Int32) × (Nat → Int32) × (Nat → Int32) × (Nat → Int32) × (Nat → Int32) × (Nat → Int32)) => Q r u.1 u.2.1 u.2.2.1 u.2.2.2.1 u.2.2.2.2.1 u.2.2.2.2.2.1 u.2.2.2.2.2.2) (fun u t => kB dC dI A (wA ad cB cI cZ cL LP u.1 legCount legs hung u.2.1 u.2.2.1 wopen tsize bytes rat rtold rwrong numbers asked ftold ffarm ffrom fwhat fon csize ctotal offered cws cwa g_number g_farm g_pig g_first g_begun u.2.2.2.1 u.2.2.2.2.1 u.2.2.2.2.2.1 g_place g_target g_feedAsked g_sealed u.2.2.2.2.2.2 g_sold) (kTy cB cI cZ cL) t) A
abbrev px_C_X7_days (dC : Nat → ClassId) (dI : Nat → Nat → Nat) (ad : Nat → Nat) (cB cI cZ cL : ClassId) (A : Nat → Prop) (LP : List Nat) (today legCount : Int32) (legs hung : Nat → Option Nat) (warmth damp wopen : Nat → Int32) (tsize : Int32) (bytes : Nat → Int32) (rat rtold rwrong : Int32) (numbers asked : Nat → Int32) (ftold : Int32) (ffarm ffrom fwhat fon : Nat → Int32) (csize ctotal : Int32) (offered : Nat → Option Nat) (cws cwa g_number g_farm g_pig g_first g_begun g_weight g_salted g_heat g_place g_target g_feedAsked g_sealed g_bad g_sold : Nat → Int32) (X : Nat → Int32 → (Nat → Int32) → (Nat → Int32) → (Nat → Int32) → (Nat → Int32) → (Nat → Int32) → (Nat → Int32) → Prop) : String → State → State → Prop := vx_X (fun u : Nat × Int32 × (Nat → Int32) × (Nat → Int32) × (Nat → Int32) × (Nat → Int32) × (Nat → Int32) × (Nat → Int32) => X u.1 u.2.1 u.2.2.1 u.2.2.2.1 u.2.2.2.2.1 u.2.2.2.2.2.1 u.2.2.2.2.2.2.1 u.2.2.2.2.2.2.2) (fun E u t => E = kEx u.1 ∧ kB dC dI A (wA ad cB cI cZ cL LP u.2.1 legCount legs hung u.2.2.1 u.2.2.2.1 wopen tsize bytes rat rtold rwrong numbers asked ftold ffarm ffrom fwhat fon csize ctotal offered cws cwa g_number g_farm g_pig g_first g_begun u.2.2.2.2.1 u.2.2.2.2.2.1 u.2.2.2.2.2.2.1 g_place g_target g_feedAsked g_sealed u.2.2.2.2.2.2.2 g_sold) (kTy cB cI cZ cL) t) A
set_option maxHeartbeats 4000000 in
set_option maxRecDepth 100000 in
theorem c_C_X7_days (l : Launch) (hl0 : l.stackTraces = false) (dC : Nat → ClassId) (dI : Nat → Nat → Nat) (ad : Nat → Nat) (cB cI cZ cL : ClassId) (A : Nat → Prop) (LP : List Nat) (today legCount : Int32) (legs hung : Nat → Option Nat) (warmth damp wopen : Nat → Int32) (tsize : Int32) (bytes : Nat → Int32) (rat rtold rwrong : Int32) (numbers asked : Nat → Int32) (ftold : Int32) (ffarm ffrom fwhat fon : Nat → Int32) (csize ctotal : Int32) (offered : Nat → Option Nat) (cws cwa g_number g_farm g_pig g_first g_begun g_weight g_salted g_heat g_place g_target g_feedAsked g_sealed g_bad g_sold : Nat → Int32) (p0 : Int32)  (Q : Int32 → Int32 → (Nat → Int32) → (Nat → Int32) → (Nat → Int32) → (Nat → Int32) → (Nat → Int32) → (Nat → Int32) → Prop) (X : Nat → Int32 → (Nat → Int32) → (Nat → Int32) → (Nat → Int32) → (Nat → Int32) → (Nat → Int32) → (Nat → Int32) → Prop) (h : wp_C_X7_days LP legs wopen g_first g_place g_sold Q X today warmth damp g_weight g_salted g_heat g_bad p0) : vx_Met l yX7_days wsX7_days rm_C_X7_days (va_Pc [.ref (ad 0), .int p0] (kC dC dI ad A (wA ad cB cI cZ cL LP today legCount legs hung warmth damp wopen tsize bytes rat rtold rwrong numbers asked ftold ffarm ffrom fwhat fon csize ctotal offered cws cwa g_number g_farm g_pig g_first g_begun g_weight g_salted g_heat g_place g_target g_feedAsked g_sealed g_bad g_sold) (kTy cB cI cZ cL))) (pq_C_X7_days dC dI ad cB cI cZ cL A LP today legCount legs hung warmth damp wopen tsize bytes rat rtold rwrong numbers asked ftold ffarm ffrom fwhat fon csize ctotal offered cws cwa g_number g_farm g_pig g_first g_begun g_weight g_salted g_heat g_place g_target g_feedAsked g_sealed g_bad g_sold Q) (px_C_X7_days dC dI ad cB cI cZ cL A LP today legCount legs hung warmth damp wopen tsize bytes rat rtold rwrong numbers asked ftold ffarm ffrom fwhat fon csize ctotal offered cws cwa g_number g_farm g_pig g_first g_begun g_weight g_salted g_heat g_place g_target g_feedAsked g_sealed g_bad g_sold X) 1 6 A := by
  refine vx_ofW (cc := cX7_days) (maxL := 3) (ret := (some .int)) (by decide) rfl ?_
  intro p e s m args below meth c s₁ B hml htb hv
  obtain ⟨rfl, hA, hP, hK, hD, hE⟩ := hv
  have hx := B.exec
  have hb := B.bytes
  have hr := B.returns
  have hts := atoms_spec (ws := wsX7_days) B.pre
  have hown : s.vm.findClass RX7 = some m.cls := findClass_of_methodNamed B.named
  have hlocks := B.notSynchronized
  have hS : va_S A s.heap s.heap [] := va_S.rf
  have hk_0 := hts (.fieldLink RX7 99 "HamCellar" "today" "I") (by decide +kernel)
  have hk_1 : ∀ w ∈ wsX70, w ∈ wsX7_days := by decide +kernel
  have hk_2 := hts (.classLink RX7 85 "java/lang/IllegalArgumentException") (by decide +kernel)
  have hk_3 := hts (.initialized "java/lang/IllegalArgumentException") (by decide +kernel)
  have hk_4 : (∀ w ∈ vx_at0 RX7 87 "java/lang/IllegalArgumentException" ["java/lang/RuntimeException", "java/lang/Exception"], w.before ([.ref (ad 0), .int p0] : List Value).toArray s = true) ∧ (∀ w ∈ Cond.classLink RX7 85 "java/lang/IllegalArgumentException" :: Cond.initialized "java/lang/IllegalArgumentException" :: vx_at0 RX7 87 "java/lang/IllegalArgumentException" ["java/lang/RuntimeException", "java/lang/Exception"], vx_ot w = true) := ⟨vx_hat (B := [.castable "java/lang/IllegalArgumentException" "java/lang/IllegalArgumentException", .declares ⟨"java/lang/RuntimeException", "<init>", "()V"⟩, .declares ⟨"java/lang/Exception", "<init>", "()V"⟩, .declares ⟨"java/lang/Throwable", "<init>", "()V"⟩]) (fun w hw => hts w ((by decide +kernel : ∀ w ∈ (vx_at0 RX7 87 "java/lang/IllegalArgumentException" ["java/lang/RuntimeException", "java/lang/Exception"]).filter goodWord, w ∈ wsX7_days) w hw)) (by decide +kernel) (vx_c (va_Nw.use rfl (hE.2.1.2.2.1 "java/lang/IllegalArgumentException" (by decide))) (vx_c (va_Nw.use rfl (hE.2.1.2.2.2 _ (List.mem_of_getElem? (i := 0) rfl))) (vx_c (va_Nw.use rfl (hE.2.1.2.2.2 _ (List.mem_of_getElem? (i := 1) rfl))) (vx_c (va_Nw.use rfl (hE.2.1.2.2.2 _ (List.mem_of_getElem? (i := 2) rfl))) vx_n)))), by decide +kernel⟩
  have hlp_C_X7_days_21 : ∀ (n : Nat) (today : Int32) (warmth : Nat → Int32) (damp : Nat → Int32) (g_weight : Nat → Int32) (g_salted : Nat → Int32) (g_heat : Nat → Int32) (g_bad : Nat → Int32) (v1 : Int32) (v2 : Int32) (H : Heap) (locs : List Loc) (ls : Array Slot), va_P (dC, dI) vwCl (wA ad cB cI cZ cL LP today legCount legs hung warmth damp wopen tsize bytes rat rtold rwrong numbers asked ftold ffarm ffrom fwhat fon csize ctotal offered cws cwa g_number g_farm g_pig g_first g_begun g_weight g_salted g_heat g_place g_target g_feedAsked g_sealed g_bad g_sold) H → va_D A (wA ad cB cI cZ cL LP today legCount legs hung warmth damp wopen tsize bytes rat rtold rwrong numbers asked ftold ffarm ffrom fwhat fon csize ctotal offered cws cwa g_number g_farm g_pig g_first g_begun g_weight g_salted g_heat g_place g_target g_feedAsked g_sealed g_bad g_sold) → va_S A s.heap H locs → lv_has ls 3 [(0, .ref (ad 0)), (1, .int v1), (2, .int v2)] → lp_C_X7_days_21 LP legs wopen g_first g_place g_sold Q X n today warmth damp g_weight g_salted g_heat g_bad v1 v2 → W p l e (headSpec wsX7_days rm_C_X7_days).room s m ([.ref (ad 0), .int p0] : List Value).toArray below meth c H locs 0 0 (vx_MQ below (pq_C_X7_days dC dI ad cB cI cZ cL A LP today legCount legs hung warmth damp wopen tsize bytes rat rtold rwrong numbers asked ftold ffarm ffrom fwhat fon csize ctotal offered cws cwa g_number g_farm g_pig g_first g_begun g_weight g_salted g_heat g_place g_target g_feedAsked g_sealed g_bad g_sold Q) (px_C_X7_days dC dI ad cB cI cZ cL A LP today legCount legs hung warmth damp wopen tsize bytes rat rtold rwrong numbers asked ftold ffarm ffrom fwhat fon csize ctotal offered cws cwa g_number g_farm g_pig g_first g_begun g_weight g_salted g_heat g_place g_target g_feedAsked g_sealed g_bad g_sold X) ([.ref (ad 0), .int p0] : List Value).toArray s 1 6 A) (F0 m 21 ls []) := by
    intro n
    induction n with
    | zero => intro today warmth damp g_weight g_salted g_heat g_bad v1 v2 H locs ls hP hD hS hl h; exact h.elim
    | succ n ih =>
      intro today warmth damp g_weight g_salted g_heat g_bad v1 v2 H locs ls hP hD hS hl h
      refine lv_iload_n hx hb dX7_days_21 rfl (lv_at hl 2 rfl) ?_
      refine lv_iload_n hx hb dX7_days_22 rfl (lv_at hl 1 rfl) ?_
      refine lv_icmp_ge (tgt := 46) hx hb dX7_days_23 (by decide) (fun c_3 => ?_) (fun c_3 => ?_)
      · have h := h.1 c_3
        refine lv_aload_n hx hb dX7_days_46 rfl (lv_at hl 0 rfl) ?_
        refine va_get (D := (dC, dI)) (ci := 7) (v := .int today) (C := RX7) (T := TX7) (N := 10) hx hb hts hk_1 hown hK hP 0 wA_g0 rfl 0 (by decide) hk_0 (fun _ h9 => h9) rfl dX7_days_47 ?_
        refine W.widen (k := 1) (n := 6) (Nat.le_of_ble_eq_true rfl) (Nat.le_of_ble_eq_true rfl) ?_
        refine vx_ret ?_
        exact W.iret (v := today) hx hb hr (fun t ht hW => ⟨⟨today, (today, warmth, damp, g_weight, g_salted, g_heat, g_bad), rfl, h, kB_mk hP hK hD ht hW.alike⟩, hS.F ht⟩) hS.2.2 dX7_days_50
      · have h := h.2 c_3
        refine lv_aload_n hx hb dX7_days_26 rfl (lv_at hl 0 rfl) ?_
        refine va_get (D := (dC, dI)) (ci := 7) (v := .int today) (C := RX7) (T := TX7) (N := 10) hx hb hts hk_1 hown hK hP 0 wA_g0 rfl 0 (by decide) hk_0 (fun _ h9 => h9) rfl dX7_days_27 ?_
        refine lv_sipush (v := 2000) hx hb dX7_days_30 (by decide) ?_
        refine lv_icmp_ge (tgt := 46) hx hb dX7_days_33 (by decide) (fun c_4 => ?_) (fun c_4 => ?_)
        · have h := h.1 c_4
          refine lv_aload_n hx hb dX7_days_46 rfl (lv_at hl 0 rfl) ?_
          refine va_get (D := (dC, dI)) (ci := 7) (v := .int today) (C := RX7) (T := TX7) (N := 10) hx hb hts hk_1 hown hK hP 0 wA_g0 rfl 0 (by decide) hk_0 (fun _ h9 => h9) rfl dX7_days_47 ?_
          refine W.widen (k := 1) (n := 6) (Nat.le_of_ble_eq_true rfl) (Nat.le_of_ble_eq_true rfl) ?_
          refine vx_ret ?_
          exact W.iret (v := today) hx hb hr (fun t ht hW => ⟨⟨today, (today, warmth, damp, g_weight, g_salted, g_heat, g_bad), rfl, h, kB_mk hP hK hD ht hW.alike⟩, hS.F ht⟩) hS.2.2 dX7_days_50
        · have h := h.2 c_4
          refine lv_aload_n hx hb dX7_days_36 rfl (lv_at hl 0 rfl) ?_
          refine va_callv (va_runV (As := []) (rest := []) ⟨hx, hb, hml, hown, hts⟩ (c_C_X7_passDay l dC dI ad cB cI cZ cL A LP today legCount legs hung warmth damp wopen tsize bytes rat rtold rwrong numbers asked ftold ffarm ffrom fwhat fon csize ctotal offered cws cwa g_number g_farm g_pig g_first g_begun g_weight g_salted g_heat g_place g_target g_feedAsked g_sealed g_bad g_sold _ h) (cwV 0 hts gX7_days_X7_passDay rfl rfl rfl (by decide +kernel) ⟨(Nat.le_of_ble_eq_true rfl), (Nat.le_of_ble_eq_true rfl)⟩) ⟨kC_blind, va_recv hK hP (ci := 7) (q0 := 0) rfl wA_g0, fun U hU hW => ⟨rfl, kC_go hA hS hP hK hD hE U hU hW⟩⟩ rfl rfl hl.1 rfl (lv_room (Nat.le_of_ble_eq_true rfl)) dX7_days_37 ⟨(Nat.le_of_ble_eq_true rfl), (Nat.le_of_ble_eq_true rfl)⟩) hS (fun q _ h => h) (fun q h => h) (fun u t H locs ht hvm hw hB hz1 hk1 hS => ?_)
          obtain ⟨today_5, warmth_5, damp_5, g_weight_5, g_salted_5, g_heat_5, g_bad_5⟩ := u
          have h := hw
          try dsimp only at h
          have hP : va_P (dC, dI) vwCl (wA ad cB cI cZ cL LP today_5 legCount legs hung warmth_5 damp_5 wopen tsize bytes rat rtold rwrong numbers asked ftold ffarm ffrom fwhat fon csize ctotal offered cws cwa g_number g_farm g_pig g_first g_begun g_weight_5 g_salted_5 g_heat_5 g_place g_target g_feedAsked g_sealed g_bad_5 g_sold) H := by rw [← ht]; exact hB.1
          have hD : va_D A (wA ad cB cI cZ cL LP today_5 legCount legs hung warmth_5 damp_5 wopen tsize bytes rat rtold rwrong numbers asked ftold ffarm ffrom fwhat fon csize ctotal offered cws cwa g_number g_farm g_pig g_first g_begun g_weight_5 g_salted_5 g_heat_5 g_place g_target g_feedAsked g_sealed g_bad_5 g_sold) := hB.2.2
          refine lv_iinc (v := v2 + 1) (lv' := [(2, .int (v2 + 1)), (0, .ref (ad 0)), (1, .int v1)]) hx hb dX7_days_40 hl (k := 2) rfl rfl (by decide) rfl (fun ls hl => ?_)
          refine lv_goto (tgt := 21) hx hb dX7_days_43 (by decide) ?_
          exact ih today_5 warmth_5 damp_5 g_weight_5 g_salted_5 g_heat_5 g_bad_5 v1 (v2 + 1) _ _ _ hP hD hS (lv_sub hl [1, 2, 0] rfl) h
  have hl := lv_entry ([.ref (ad 0), .int p0]) (n := 3) (Nat.le_of_ble_eq_true rfl)
  rw [lg_entry_eq]
  generalize (lg_sl ([.ref (ad 0), .int p0]) ++ List.replicate (3 - (lg_sl ([.ref (ad 0), .int p0])).length) Slot.unset).toArray = ls at hl ⊢
  have hl : lv_has ls 3 [(0, .ref (ad 0)), (1, .int p0)] := hl
  unfold wp_C_X7_days at h
  refine lv_iload_n hx hb dX7_days_0 rfl (lv_at hl 1 rfl) ?_
  refine lv_iconst (v := 0) hx hb dX7_days_1 (by decide) ?_
  refine lv_sipush (v := 200) hx hb dX7_days_2 (by decide) ?_
  refine va_calli (va_runS (As := [.int p0, .int 0, .int 200]) (rest := []) ⟨hx, hb, hml, hown, hts⟩ (c_C_X7_isWithin l dC dI ad cB cI cZ cL A LP today legCount legs hung warmth damp wopen tsize bytes rat rtold rwrong numbers asked ftold ffarm ffrom fwhat fon csize ctotal offered cws cwa g_number g_farm g_pig g_first g_begun g_weight g_salted g_heat g_place g_target g_feedAsked g_sealed g_bad g_sold p0 0 200 _ h) (va_cwS 3 hts gX7_days_X7_isWithin rfl rfl rfl (by decide +kernel) ⟨(Nat.le_of_ble_eq_true rfl), (Nat.le_of_ble_eq_true rfl)⟩) ⟨kC_blind, fun U hU hW => ⟨rfl, kC_go hA hS hP hK hD hE U hU hW⟩⟩ rfl rfl hl.1 rfl (lv_room (Nat.le_of_ble_eq_true rfl)) dX7_days_5 ⟨(Nat.le_of_ble_eq_true rfl), (Nat.le_of_ble_eq_true rfl)⟩) hS (fun q _ h => h) (fun q h => h) (fun r_1 u t H locs ht hvm hw hB hz1 hk1 hS => ?_)
  have h := hw
  try dsimp only at h
  have hP : va_P (dC, dI) vwCl (wA ad cB cI cZ cL LP today legCount legs hung warmth damp wopen tsize bytes rat rtold rwrong numbers asked ftold ffarm ffrom fwhat fon csize ctotal offered cws cwa g_number g_farm g_pig g_first g_begun g_weight g_salted g_heat g_place g_target g_feedAsked g_sealed g_bad g_sold) H := by rw [← ht]; exact hB.1
  have hD : va_D A (wA ad cB cI cZ cL LP today legCount legs hung warmth damp wopen tsize bytes rat rtold rwrong numbers asked ftold ffarm ffrom fwhat fon csize ctotal offered cws cwa g_number g_farm g_pig g_first g_begun g_weight g_salted g_heat g_place g_target g_feedAsked g_sealed g_bad g_sold) := hB.2.2
  refine lv_if_ne (tgt := 19) hx hb dX7_days_8 (by decide) (fun c_2 => ?_) (fun c_2 => ?_)
  · have h := h.1 c_2
    refine lv_iconst (v := 0) hx hb dX7_days_19 (by decide) ?_
    refine lv_istore_n (lv' := [(2, .int 0), (0, .ref (ad 0)), (1, .int p0)]) hx hb dX7_days_20 rfl hl (by decide) rfl (fun ls hl => ?_)
    obtain ⟨n_6, h⟩ := h
    exact hlp_C_X7_days_21 n_6 today warmth damp g_weight g_salted g_heat g_bad p0 0 _ _ _ hP hD hS (lv_sub hl [1, 2, 0] rfl) h
  · have h := h.2 c_2
    exact vx_throw0 (own := RX7) (cls := "java/lang/IllegalArgumentException") (names := ["java/lang/RuntimeException", "java/lang/Exception"]) hx hb hl0 hown (by decide +kernel) (by decide +kernel) hk_2 hk_3 hk_4.1 hk_4.2 hE.1.1 hE.1.2 hS (hl.1.trans hml.symm) dX7_days_11 dX7_days_14 dX7_days_15 dX7_days_18 (fun x9 hx9 => (htb x9 hx9).elim) (Nat.le_of_ble_eq_true rfl) (Nat.le_of_ble_eq_true rfl) (Nat.le_of_ble_eq_true rfl) (Nat.le_of_ble_eq_true rfl) hlocks (fun t hv9 hz9 hk9 => by obtain ⟨b9, f9⟩ := kX_mk hS hP hK hD hv9 hz9 hk9; exact ⟨(2, today, warmth, damp, g_weight, g_salted, g_heat, g_bad), h, ⟨rfl, b9⟩, f9⟩) hS.2.2 (Nat.le_of_ble_eq_true rfl) (Nat.le_of_ble_eq_true rfl)
def lp_C_X7_rules_29 (bytes : Nat → Int32)  (Q : Int32 → Int32 → Int32 → Int32 → Int32 → (Nat → Int32) → (Nat → Int32) → Prop) (X : Nat → Int32 → Int32 → Int32 → Int32 → (Nat → Int32) → (Nat → Int32) → Prop) : Nat → Int32 → Int32 → Int32 → Int32 → (Nat → Int32) → (Nat → Int32) → Int32 → Prop
  | 0 => fun _ _ _ _ _ _ _ => False
  | n + 1 => fun tsize rat rtold rwrong numbers asked v2 => ((5 ≤ v2 → Q rtold tsize rat rtold rwrong numbers asked) ∧ (¬ (5 ≤ v2) → wp_C_X5_numberOf numbers (fun r_5 => (vp_in v2 5 ∧ lp_C_X7_rules_29 bytes Q X n tsize rat rtold rwrong numbers (upd asked v2.toNatClampNeg r_5) (v2 + 1))) v2))
def wp_C_X7_rules (bytes : Nat → Int32) (Q : Int32 → Int32 → Int32 → Int32 → Int32 → (Nat → Int32) → (Nat → Int32) → Prop) (X : Nat → Int32 → Int32 → Int32 → Int32 → (Nat → Int32) → (Nat → Int32) → Prop) (tsize : Int32) (rat : Int32) (rtold : Int32) (rwrong : Int32) (numbers : Nat → Int32) (asked : Nat → Int32) : Prop := wp_C_X5_read tsize bytes (fun r_1 rat_1 rtold_1 rwrong_1 numbers_1 => wp_C_X6_clear (fun tsize_2 => ((¬ r_1 = 0 → (∃ n_7, lp_C_X7_rules_29 bytes Q X n_7 tsize_2 rat_1 rtold_1 rwrong_1 numbers_1 asked 0)) ∧ (r_1 = 0 → X 2 tsize_2 rat_1 rtold_1 rwrong_1 numbers_1 asked))) tsize) rat rtold rwrong numbers
def rm_C_X7_rules : Room := { frames := 8, cells := 1, slots := 6, locals := 176 }
abbrev pq_C_X7_rules (dC : Nat → ClassId) (dI : Nat → Nat → Nat) (ad : Nat → Nat) (cB cI cZ cL : ClassId) (A : Nat → Prop) (LP : List Nat) (today legCount : Int32) (legs hung : Nat → Option Nat) (warmth damp wopen : Nat → Int32) (tsize : Int32) (bytes : Nat → Int32) (rat rtold rwrong : Int32) (numbers asked : Nat → Int32) (ftold : Int32) (ffarm ffrom fwhat fon : Nat → Int32) (csize ctotal : Int32) (offered : Nat → Option Nat) (cws cwa g_number g_farm g_pig g_first g_begun g_weight g_salted g_heat g_place g_target g_feedAsked g_sealed g_bad g_sold : Nat → Int32) (Q : Int32 → Int32 → Int32 → Int32 → Int32 → (Nat → Int32) → (Nat → Int32) → Prop) : Array Value → State → Outcome → State → Prop := va_Qi (fun (r : Int32) (u : Int32 × Int32 × Int32 × Int32 × (Nat → Int32) × (Nat → Int32)) => Q r u.1 u.2.1 u.2.2.1 u.2.2.2.1 u.2.2.2.2.1 u.2.2.2.2.2) (fun u t => kB dC dI A (wA ad cB cI cZ cL LP today legCount legs hung warmth damp wopen u.1 bytes u.2.1 u.2.2.1 u.2.2.2.1 u.2.2.2.2.1 u.2.2.2.2.2 ftold ffarm ffrom fwhat fon csize ctotal offered cws cwa g_number g_farm g_pig g_first g_begun g_weight g_salted g_heat g_place g_target g_feedAsked g_sealed g_bad g_sold) (kTy cB cI cZ cL) t) A
abbrev px_C_X7_rules (dC : Nat → ClassId) (dI : Nat → Nat → Nat) (ad : Nat → Nat) (cB cI cZ cL : ClassId) (A : Nat → Prop) (LP : List Nat) (today legCount : Int32) (legs hung : Nat → Option Nat) (warmth damp wopen : Nat → Int32) (tsize : Int32) (bytes : Nat → Int32) (rat rtold rwrong : Int32) (numbers asked : Nat → Int32) (ftold : Int32) (ffarm ffrom fwhat fon : Nat → Int32) (csize ctotal : Int32) (offered : Nat → Option Nat) (cws cwa g_number g_farm g_pig g_first g_begun g_weight g_salted g_heat g_place g_target g_feedAsked g_sealed g_bad g_sold : Nat → Int32) (X : Nat → Int32 → Int32 → Int32 → Int32 → (Nat → Int32) → (Nat → Int32) → Prop) : String → State → State → Prop := vx_X (fun u : Nat × Int32 × Int32 × Int32 × Int32 × (Nat → Int32) × (Nat → Int32) => X u.1 u.2.1 u.2.2.1 u.2.2.2.1 u.2.2.2.2.1 u.2.2.2.2.2.1 u.2.2.2.2.2.2) (fun E u t => E = kEx u.1 ∧ kB dC dI A (wA ad cB cI cZ cL LP today legCount legs hung warmth damp wopen u.2.1 bytes u.2.2.1 u.2.2.2.1 u.2.2.2.2.1 u.2.2.2.2.2.1 u.2.2.2.2.2.2 ftold ffarm ffrom fwhat fon csize ctotal offered cws cwa g_number g_farm g_pig g_first g_begun g_weight g_salted g_heat g_place g_target g_feedAsked g_sealed g_bad g_sold) (kTy cB cI cZ cL) t) A
set_option maxHeartbeats 4000000 in
set_option maxRecDepth 100000 in
theorem c_C_X7_rules (l : Launch) (hl0 : l.stackTraces = false) (dC : Nat → ClassId) (dI : Nat → Nat → Nat) (ad : Nat → Nat) (cB cI cZ cL : ClassId) (A : Nat → Prop) (LP : List Nat) (today legCount : Int32) (legs hung : Nat → Option Nat) (warmth damp wopen : Nat → Int32) (tsize : Int32) (bytes : Nat → Int32) (rat rtold rwrong : Int32) (numbers asked : Nat → Int32) (ftold : Int32) (ffarm ffrom fwhat fon : Nat → Int32) (csize ctotal : Int32) (offered : Nat → Option Nat) (cws cwa g_number g_farm g_pig g_first g_begun g_weight g_salted g_heat g_place g_target g_feedAsked g_sealed g_bad g_sold : Nat → Int32)   (Q : Int32 → Int32 → Int32 → Int32 → Int32 → (Nat → Int32) → (Nat → Int32) → Prop) (X : Nat → Int32 → Int32 → Int32 → Int32 → (Nat → Int32) → (Nat → Int32) → Prop) (h : wp_C_X7_rules bytes Q X tsize rat rtold rwrong numbers asked) : vx_Met l yX7_rules wsX7_rules rm_C_X7_rules (va_Pc [.ref (ad 0)] (kC dC dI ad A (wA ad cB cI cZ cL LP today legCount legs hung warmth damp wopen tsize bytes rat rtold rwrong numbers asked ftold ffarm ffrom fwhat fon csize ctotal offered cws cwa g_number g_farm g_pig g_first g_begun g_weight g_salted g_heat g_place g_target g_feedAsked g_sealed g_bad g_sold) (kTy cB cI cZ cL))) (pq_C_X7_rules dC dI ad cB cI cZ cL A LP today legCount legs hung warmth damp wopen tsize bytes rat rtold rwrong numbers asked ftold ffarm ffrom fwhat fon csize ctotal offered cws cwa g_number g_farm g_pig g_first g_begun g_weight g_salted g_heat g_place g_target g_feedAsked g_sealed g_bad g_sold Q) (px_C_X7_rules dC dI ad cB cI cZ cL A LP today legCount legs hung warmth damp wopen tsize bytes rat rtold rwrong numbers asked ftold ffarm ffrom fwhat fon csize ctotal offered cws cwa g_number g_farm g_pig g_first g_begun g_weight g_salted g_heat g_place g_target g_feedAsked g_sealed g_bad g_sold X) 1 6 A := by
  refine vx_ofW (cc := cX7_rules) (maxL := 3) (ret := (some .int)) (by decide) rfl ?_
  intro p e s m args below meth c s₁ B hml htb hv
  obtain ⟨rfl, hA, hP, hK, hD, hE⟩ := hv
  have hx := B.exec
  have hb := B.bytes
  have hr := B.returns
  have hts := atoms_spec (ws := wsX7_rules) B.pre
  have hown : s.vm.findClass RX7 = some m.cls := findClass_of_methodNamed B.named
  have hlocks := B.notSynchronized
  have hS : va_S A s.heap s.heap [] := va_S.rf
  have hk_0 := hts (.fieldLink RX7 41 "HamCellar" "reader" "LHamCellar$RuleReader;") (by decide +kernel)
  have hk_1 : ∀ w ∈ wsX70, w ∈ wsX7_rules := by decide +kernel
  have hk_2 := hts (.fieldLink RX7 32 "HamCellar" "tape" "LHamCellar$Tape;") (by decide +kernel)
  have hk_3 := hts (.fieldLink RX7 45 "HamCellar" "asked" "[I") (by decide +kernel)
  have hk_4n := hE.2.1.1 ("HamCellar", 155, "HamCellar$RuleReader", "told", "I", "HamCellar") (by decide +kernel)
  have hk_4 : (Cond.fieldLinkNest "HamCellar" 155 "HamCellar$RuleReader" "told" "I" "HamCellar").before ([.ref (ad 0)] : List Value).toArray s = true := va_Nw.use rfl hk_4n
  have hk_5 : ∀ w ∈ wsX50, w ∈ wsX7_rules := by decide +kernel
  have hk_6 := hts (.classLink RX7 85 "java/lang/IllegalArgumentException") (by decide +kernel)
  have hk_7 := hts (.initialized "java/lang/IllegalArgumentException") (by decide +kernel)
  have hk_8 : (∀ w ∈ vx_at0 RX7 87 "java/lang/IllegalArgumentException" ["java/lang/RuntimeException", "java/lang/Exception"], w.before ([.ref (ad 0)] : List Value).toArray s = true) ∧ (∀ w ∈ Cond.classLink RX7 85 "java/lang/IllegalArgumentException" :: Cond.initialized "java/lang/IllegalArgumentException" :: vx_at0 RX7 87 "java/lang/IllegalArgumentException" ["java/lang/RuntimeException", "java/lang/Exception"], vx_ot w = true) := ⟨vx_hat (B := [.castable "java/lang/IllegalArgumentException" "java/lang/IllegalArgumentException", .declares ⟨"java/lang/RuntimeException", "<init>", "()V"⟩, .declares ⟨"java/lang/Exception", "<init>", "()V"⟩, .declares ⟨"java/lang/Throwable", "<init>", "()V"⟩]) (fun w hw => hts w ((by decide +kernel : ∀ w ∈ (vx_at0 RX7 87 "java/lang/IllegalArgumentException" ["java/lang/RuntimeException", "java/lang/Exception"]).filter goodWord, w ∈ wsX7_rules) w hw)) (by decide +kernel) (vx_c (va_Nw.use rfl (hE.2.1.2.2.1 "java/lang/IllegalArgumentException" (by decide))) (vx_c (va_Nw.use rfl (hE.2.1.2.2.2 _ (List.mem_of_getElem? (i := 0) rfl))) (vx_c (va_Nw.use rfl (hE.2.1.2.2.2 _ (List.mem_of_getElem? (i := 1) rfl))) (vx_c (va_Nw.use rfl (hE.2.1.2.2.2 _ (List.mem_of_getElem? (i := 2) rfl))) vx_n)))), by decide +kernel⟩
  have hlp_C_X7_rules_29 : ∀ (n : Nat) (tsize : Int32) (rat : Int32) (rtold : Int32) (rwrong : Int32) (numbers : Nat → Int32) (asked : Nat → Int32) (v2 : Int32) (H : Heap) (locs : List Loc) (ls : Array Slot), va_P (dC, dI) vwCl (wA ad cB cI cZ cL LP today legCount legs hung warmth damp wopen tsize bytes rat rtold rwrong numbers asked ftold ffarm ffrom fwhat fon csize ctotal offered cws cwa g_number g_farm g_pig g_first g_begun g_weight g_salted g_heat g_place g_target g_feedAsked g_sealed g_bad g_sold) H → va_D A (wA ad cB cI cZ cL LP today legCount legs hung warmth damp wopen tsize bytes rat rtold rwrong numbers asked ftold ffarm ffrom fwhat fon csize ctotal offered cws cwa g_number g_farm g_pig g_first g_begun g_weight g_salted g_heat g_place g_target g_feedAsked g_sealed g_bad g_sold) → va_S A s.heap H locs → lv_has ls 3 [(0, .ref (ad 0)), (2, .int v2)] → lp_C_X7_rules_29 bytes Q X n tsize rat rtold rwrong numbers asked v2 → W p l e (headSpec wsX7_rules rm_C_X7_rules).room s m ([.ref (ad 0)] : List Value).toArray below meth c H locs 0 0 (vx_MQ below (pq_C_X7_rules dC dI ad cB cI cZ cL A LP today legCount legs hung warmth damp wopen tsize bytes rat rtold rwrong numbers asked ftold ffarm ffrom fwhat fon csize ctotal offered cws cwa g_number g_farm g_pig g_first g_begun g_weight g_salted g_heat g_place g_target g_feedAsked g_sealed g_bad g_sold Q) (px_C_X7_rules dC dI ad cB cI cZ cL A LP today legCount legs hung warmth damp wopen tsize bytes rat rtold rwrong numbers asked ftold ffarm ffrom fwhat fon csize ctotal offered cws cwa g_number g_farm g_pig g_first g_begun g_weight g_salted g_heat g_place g_target g_feedAsked g_sealed g_bad g_sold X) ([.ref (ad 0)] : List Value).toArray s 1 6 A) (F0 m 29 ls []) := by
    intro n
    induction n with
    | zero => intro tsize rat rtold rwrong numbers asked v2 H locs ls hP hD hS hl h; exact h.elim
    | succ n ih =>
      intro tsize rat rtold rwrong numbers asked v2 H locs ls hP hD hS hl h
      refine lv_iload_n hx hb dX7_rules_29 rfl (lv_at hl 1 rfl) ?_
      refine lv_aload_n hx hb dX7_rules_30 rfl (lv_at hl 0 rfl) ?_
      refine va_get (D := (dC, dI)) (ci := 7) (v := .ref (ad 12)) (C := RX7) (T := TX7) (N := 10) hx hb hts hk_1 hown hK hP 0 wA_g0 rfl 7 (by decide) hk_3 (fun _ h9 => h9) rfl dX7_rules_31 ?_
      refine va_alen hx hb hK hP 12 1 wA_g12 rfl (v := 5) rfl dX7_rules_34 ?_
      refine lv_icmp_ge (tgt := 58) hx hb dX7_rules_35 (by decide) (fun c_4 => ?_) (fun c_4 => ?_)
      · have h := h.1 c_4
        refine lv_aload_n hx hb dX7_rules_58 rfl (lv_at hl 0 rfl) ?_
        refine va_get (D := (dC, dI)) (ci := 7) (v := .ref (ad 10)) (C := RX7) (T := TX7) (N := 10) hx hb hts hk_1 hown hK hP 0 wA_g0 rfl 6 (by decide) hk_0 (fun _ h9 => h9) rfl dX7_rules_59 ?_
        refine va_getN (D := (dC, dI)) (ci := 5) (v := .int rtold) (C := RX5) (T := TX5) (N := 5) hx hb hts hk_5 hown hK hP 10 wA_g10 rfl 3 (by decide) hk_4 (fun _ h9 => h9) rfl dX7_rules_62 ?_
        refine W.widen (k := 1) (n := 6) (Nat.le_of_ble_eq_true rfl) (Nat.le_of_ble_eq_true rfl) ?_
        refine vx_ret ?_
        exact W.iret (v := rtold) hx hb hr (fun t ht hW => ⟨⟨rtold, (tsize, rat, rtold, rwrong, numbers, asked), rfl, h, kB_mk hP hK hD ht hW.alike⟩, hS.F ht⟩) hS.2.2 dX7_rules_65
      · have h := h.2 c_4
        refine lv_aload_n hx hb dX7_rules_38 rfl (lv_at hl 0 rfl) ?_
        refine va_get (D := (dC, dI)) (ci := 7) (v := .ref (ad 12)) (C := RX7) (T := TX7) (N := 10) hx hb hts hk_1 hown hK hP 0 wA_g0 rfl 7 (by decide) hk_3 (fun _ h9 => h9) rfl dX7_rules_39 ?_
        refine lv_iload_n hx hb dX7_rules_42 rfl (lv_at hl 1 rfl) ?_
        refine lv_aload_n hx hb dX7_rules_43 rfl (lv_at hl 0 rfl) ?_
        refine va_get (D := (dC, dI)) (ci := 7) (v := .ref (ad 10)) (C := RX7) (T := TX7) (N := 10) hx hb hts hk_1 hown hK hP 0 wA_g0 rfl 6 (by decide) hk_0 (fun _ h9 => h9) rfl dX7_rules_44 ?_
        refine lv_iload_n hx hb dX7_rules_47 rfl (lv_at hl 1 rfl) ?_
        refine va_calli (va_runV (As := [.int v2]) (rest := [.int v2, .ref (ad 12)]) ⟨hx, hb, hml, hown, hts⟩ (c_C_X5_numberOf l dC dI ad cB cI cZ cL A LP today legCount legs hung warmth damp wopen tsize bytes rat rtold rwrong numbers asked ftold ffarm ffrom fwhat fon csize ctotal offered cws cwa g_number g_farm g_pig g_first g_begun g_weight g_salted g_heat g_place g_target g_feedAsked g_sealed g_bad g_sold v2 _ h) (cwV 1 hts gX7_rules_X5_numberOf rfl rfl rfl (by decide +kernel) ⟨(Nat.le_of_ble_eq_true rfl), (Nat.le_of_ble_eq_true rfl)⟩) ⟨kC_blind, va_recv hK hP (ci := 5) (q0 := 10) rfl wA_g10, fun U hU hW => ⟨rfl, kC_go hA hS hP hK hD hE U hU hW⟩⟩ rfl rfl hl.1 rfl (lv_room (Nat.le_of_ble_eq_true rfl)) dX7_rules_48 ⟨(Nat.le_of_ble_eq_true rfl), (Nat.le_of_ble_eq_true rfl)⟩) hS (fun q _ h => h) (fun q h => h) (fun r_5 u t H locs ht hvm hw hB hz1 hk1 hS => ?_)
        have h := hw
        try dsimp only at h
        have hP : va_P (dC, dI) vwCl (wA ad cB cI cZ cL LP today legCount legs hung warmth damp wopen tsize bytes rat rtold rwrong numbers asked ftold ffarm ffrom fwhat fon csize ctotal offered cws cwa g_number g_farm g_pig g_first g_begun g_weight g_salted g_heat g_place g_target g_feedAsked g_sealed g_bad g_sold) H := by rw [← ht]; exact hB.1
        have hD : va_D A (wA ad cB cI cZ cL LP today legCount legs hung warmth damp wopen tsize bytes rat rtold rwrong numbers asked ftold ffarm ffrom fwhat fon csize ctotal offered cws cwa g_number g_farm g_pig g_first g_begun g_weight g_salted g_heat g_place g_target g_feedAsked g_sealed g_bad g_sold) := hB.2.2
        have hi_6 := h.1
        have h := h.2
        refine va_iast hx hb hK hP hD hS 12 1 wA_g12 rfl hi_6 dX7_rules_51 (fun H locs hP2 hD2 hS => ?_)
        have hP : va_P (dC, dI) vwCl (wA ad cB cI cZ cL LP today legCount legs hung warmth damp wopen tsize bytes rat rtold rwrong numbers (upd asked v2.toNatClampNeg r_5) ftold ffarm ffrom fwhat fon csize ctotal offered cws cwa g_number g_farm g_pig g_first g_begun g_weight g_salted g_heat g_place g_target g_feedAsked g_sealed g_bad g_sold) H := hP_eq (wA_p_asked) hP2
        have hD : va_D A (wA ad cB cI cZ cL LP today legCount legs hung warmth damp wopen tsize bytes rat rtold rwrong numbers (upd asked v2.toNatClampNeg r_5) ftold ffarm ffrom fwhat fon csize ctotal offered cws cwa g_number g_farm g_pig g_first g_begun g_weight g_salted g_heat g_place g_target g_feedAsked g_sealed g_bad g_sold) := hD_eq (wA_p_asked) hD2
        refine lv_iinc (v := v2 + 1) (lv' := [(2, .int (v2 + 1)), (0, .ref (ad 0))]) hx hb dX7_rules_52 hl (k := 1) rfl rfl (by decide) rfl (fun ls hl => ?_)
        refine lv_goto (tgt := 29) hx hb dX7_rules_55 (by decide) ?_
        exact ih tsize rat rtold rwrong numbers (upd asked v2.toNatClampNeg r_5) (v2 + 1) _ _ _ hP hD hS (lv_sub hl [1, 0] rfl) h
  have hl := lv_entry ([.ref (ad 0)]) (n := 3) (Nat.le_of_ble_eq_true rfl)
  rw [lg_entry_eq]
  generalize (lg_sl ([.ref (ad 0)]) ++ List.replicate (3 - (lg_sl ([.ref (ad 0)])).length) Slot.unset).toArray = ls at hl ⊢
  have hl : lv_has ls 3 [(0, .ref (ad 0))] := hl
  unfold wp_C_X7_rules at h
  refine lv_aload_n hx hb dX7_rules_0 rfl (lv_at hl 0 rfl) ?_
  refine va_get (D := (dC, dI)) (ci := 7) (v := .ref (ad 10)) (C := RX7) (T := TX7) (N := 10) hx hb hts hk_1 hown hK hP 0 wA_g0 rfl 6 (by decide) hk_0 (fun _ h9 => h9) rfl dX7_rules_1 ?_
  refine va_calli (va_runV (As := []) (rest := []) ⟨hx, hb, hml, hown, hts⟩ (c_C_X5_read l dC dI ad cB cI cZ cL A LP today legCount legs hung warmth damp wopen tsize bytes rat rtold rwrong numbers asked ftold ffarm ffrom fwhat fon csize ctotal offered cws cwa g_number g_farm g_pig g_first g_begun g_weight g_salted g_heat g_place g_target g_feedAsked g_sealed g_bad g_sold _ h) (cwV 0 hts gX7_rules_X5_read rfl rfl rfl (by decide +kernel) ⟨(Nat.le_of_ble_eq_true rfl), (Nat.le_of_ble_eq_true rfl)⟩) ⟨kC_blind, va_recv hK hP (ci := 5) (q0 := 10) rfl wA_g10, fun U hU hW => ⟨rfl, kC_go hA hS hP hK hD hE U hU hW⟩⟩ rfl rfl hl.1 rfl (lv_room (Nat.le_of_ble_eq_true rfl)) dX7_rules_4 ⟨(Nat.le_of_ble_eq_true rfl), (Nat.le_of_ble_eq_true rfl)⟩) hS (fun q _ h => h) (fun q h => h) (fun r_1 u t H locs ht hvm hw hB hz1 hk1 hS => ?_)
  obtain ⟨rat_1, rtold_1, rwrong_1, numbers_1⟩ := u
  have h := hw
  try dsimp only at h
  have hP : va_P (dC, dI) vwCl (wA ad cB cI cZ cL LP today legCount legs hung warmth damp wopen tsize bytes rat_1 rtold_1 rwrong_1 numbers_1 asked ftold ffarm ffrom fwhat fon csize ctotal offered cws cwa g_number g_farm g_pig g_first g_begun g_weight g_salted g_heat g_place g_target g_feedAsked g_sealed g_bad g_sold) H := by rw [← ht]; exact hB.1
  have hD : va_D A (wA ad cB cI cZ cL LP today legCount legs hung warmth damp wopen tsize bytes rat_1 rtold_1 rwrong_1 numbers_1 asked ftold ffarm ffrom fwhat fon csize ctotal offered cws cwa g_number g_farm g_pig g_first g_begun g_weight g_salted g_heat g_place g_target g_feedAsked g_sealed g_bad g_sold) := hB.2.2
  refine lv_istore_n (lv' := [(1, .int r_1), (0, .ref (ad 0))]) hx hb dX7_rules_7 rfl hl (by decide) rfl (fun ls hl => ?_)
  refine lv_aload_n hx hb dX7_rules_8 rfl (lv_at hl 1 rfl) ?_
  refine va_get (D := (dC, dI)) (ci := 7) (v := .ref (ad 8)) (C := RX7) (T := TX7) (N := 10) hx hb hts hk_1 hown hK hP 0 wA_g0 rfl 5 (by decide) hk_2 (fun _ h9 => h9) rfl dX7_rules_9 ?_
  refine va_callv (va_runV (As := []) (rest := []) ⟨hx, hb, hml, hown, hts⟩ (c_C_X6_clear l dC dI ad cB cI cZ cL A LP today legCount legs hung warmth damp wopen tsize bytes rat_1 rtold_1 rwrong_1 numbers_1 asked ftold ffarm ffrom fwhat fon csize ctotal offered cws cwa g_number g_farm g_pig g_first g_begun g_weight g_salted g_heat g_place g_target g_feedAsked g_sealed g_bad g_sold _ h) (cwV 0 hts gX7_rules_X6_clear rfl rfl rfl (by decide +kernel) ⟨(Nat.le_of_ble_eq_true rfl), (Nat.le_of_ble_eq_true rfl)⟩) ⟨kC_blind, va_recv hK hP (ci := 6) (q0 := 8) rfl wA_g8, fun U hU hW => ⟨rfl, kC_go hA hS hP hK hD hE U hU hW⟩⟩ rfl rfl hl.1 rfl (lv_room (Nat.le_of_ble_eq_true rfl)) dX7_rules_12 ⟨(Nat.le_of_ble_eq_true rfl), (Nat.le_of_ble_eq_true rfl)⟩) hS (fun q _ h => h) (fun q h => h) (fun u t H locs ht hvm hw hB hz1 hk1 hS => ?_)
  obtain ⟨tsize_2, rfl⟩ : ∃ z, z = u := ⟨_, rfl⟩
  have h := hw
  try dsimp only at h
  have hP : va_P (dC, dI) vwCl (wA ad cB cI cZ cL LP today legCount legs hung warmth damp wopen tsize_2 bytes rat_1 rtold_1 rwrong_1 numbers_1 asked ftold ffarm ffrom fwhat fon csize ctotal offered cws cwa g_number g_farm g_pig g_first g_begun g_weight g_salted g_heat g_place g_target g_feedAsked g_sealed g_bad g_sold) H := by rw [← ht]; exact hB.1
  have hD : va_D A (wA ad cB cI cZ cL LP today legCount legs hung warmth damp wopen tsize_2 bytes rat_1 rtold_1 rwrong_1 numbers_1 asked ftold ffarm ffrom fwhat fon csize ctotal offered cws cwa g_number g_farm g_pig g_first g_begun g_weight g_salted g_heat g_place g_target g_feedAsked g_sealed g_bad g_sold) := hB.2.2
  refine lv_iload_n hx hb dX7_rules_15 rfl (lv_at hl 0 rfl) ?_
  refine lv_if_ne (tgt := 27) hx hb dX7_rules_16 (by decide) (fun c_3 => ?_) (fun c_3 => ?_)
  · have h := h.1 c_3
    refine lv_iconst (v := 0) hx hb dX7_rules_27 (by decide) ?_
    refine lv_istore_n (lv' := [(2, .int 0), (1, .int r_1), (0, .ref (ad 0))]) hx hb dX7_rules_28 rfl hl (by decide) rfl (fun ls hl => ?_)
    obtain ⟨n_7, h⟩ := h
    exact hlp_C_X7_rules_29 n_7 tsize_2 rat_1 rtold_1 rwrong_1 numbers_1 asked 0 _ _ _ hP hD hS (lv_sub hl [2, 0] rfl) h
  · have h := h.2 c_3
    exact vx_throw0 (own := RX7) (cls := "java/lang/IllegalArgumentException") (names := ["java/lang/RuntimeException", "java/lang/Exception"]) hx hb hl0 hown (by decide +kernel) (by decide +kernel) hk_6 hk_7 hk_8.1 hk_8.2 hE.1.1 hE.1.2 hS (hl.1.trans hml.symm) dX7_rules_19 dX7_rules_22 dX7_rules_23 dX7_rules_26 (fun x9 hx9 => (htb x9 hx9).elim) (Nat.le_of_ble_eq_true rfl) (Nat.le_of_ble_eq_true rfl) (Nat.le_of_ble_eq_true rfl) (Nat.le_of_ble_eq_true rfl) hlocks (fun t hv9 hz9 hk9 => by obtain ⟨b9, f9⟩ := kX_mk hS hP hK hD hv9 hz9 hk9; exact ⟨(2, tsize_2, rat_1, rtold_1, rwrong_1, numbers_1, asked), h, ⟨rfl, b9⟩, f9⟩) hS.2.2 (Nat.le_of_ble_eq_true rfl) (Nat.le_of_ble_eq_true rfl)
def wp_C_X7_fault (rwrong : Int32) (Q : Int32 → Prop) : Prop := Q rwrong
def rm_C_X7_fault : Room := { frames := 0, cells := 0, slots := 0, locals := 0 }
abbrev pq_C_X7_fault (dC : Nat → ClassId) (dI : Nat → Nat → Nat) (ad : Nat → Nat) (cB cI cZ cL : ClassId) (A : Nat → Prop) (LP : List Nat) (today legCount : Int32) (legs hung : Nat → Option Nat) (warmth damp wopen : Nat → Int32) (tsize : Int32) (bytes : Nat → Int32) (rat rtold rwrong : Int32) (numbers asked : Nat → Int32) (ftold : Int32) (ffarm ffrom fwhat fon : Nat → Int32) (csize ctotal : Int32) (offered : Nat → Option Nat) (cws cwa g_number g_farm g_pig g_first g_begun g_weight g_salted g_heat g_place g_target g_feedAsked g_sealed g_bad g_sold : Nat → Int32) (Q : Int32 → Prop) : Array Value → State → Outcome → State → Prop := va_Qi (fun (r : Int32) (u : Unit) => Q r ) (fun u t => kB dC dI A (wA ad cB cI cZ cL LP today legCount legs hung warmth damp wopen tsize bytes rat rtold rwrong numbers asked ftold ffarm ffrom fwhat fon csize ctotal offered cws cwa g_number g_farm g_pig g_first g_begun g_weight g_salted g_heat g_place g_target g_feedAsked g_sealed g_bad g_sold) (kTy cB cI cZ cL) t) A
set_option maxHeartbeats 4000000 in
set_option maxRecDepth 100000 in
theorem c_C_X7_fault (l : Launch) (dC : Nat → ClassId) (dI : Nat → Nat → Nat) (ad : Nat → Nat) (cB cI cZ cL : ClassId) (A : Nat → Prop) (LP : List Nat) (today legCount : Int32) (legs hung : Nat → Option Nat) (warmth damp wopen : Nat → Int32) (tsize : Int32) (bytes : Nat → Int32) (rat rtold rwrong : Int32) (numbers asked : Nat → Int32) (ftold : Int32) (ffarm ffrom fwhat fon : Nat → Int32) (csize ctotal : Int32) (offered : Nat → Option Nat) (cws cwa g_number g_farm g_pig g_first g_begun g_weight g_salted g_heat g_place g_target g_feedAsked g_sealed g_bad g_sold : Nat → Int32)   (Q : Int32 → Prop) (h : wp_C_X7_fault rwrong Q) : Met l yX7_fault wsX7_fault rm_C_X7_fault (va_Pc [.ref (ad 0)] (kC dC dI ad A (wA ad cB cI cZ cL LP today legCount legs hung warmth damp wopen tsize bytes rat rtold rwrong numbers asked ftold ffarm ffrom fwhat fon csize ctotal offered cws cwa g_number g_farm g_pig g_first g_begun g_weight g_salted g_heat g_place g_target g_feedAsked g_sealed g_bad g_sold) (kTy cB cI cZ cL))) (pq_C_X7_fault dC dI ad cB cI cZ cL A LP today legCount legs hung warmth damp wopen tsize bytes rat rtold rwrong numbers asked ftold ffarm ffrom fwhat fon csize ctotal offered cws cwa g_number g_farm g_pig g_first g_begun g_weight g_salted g_heat g_place g_target g_feedAsked g_sealed g_bad g_sold Q) 0 0 A := by
  refine Met.ofW (cc := cX7_fault) (maxL := 1) (ret := (some .int)) (by decide) rfl ?_
  intro p e s m args below meth c s₁ B hml hv
  obtain ⟨rfl, hA, hP, hK, hD, hE⟩ := hv
  have hx := B.exec
  have hb := B.bytes
  have hr := B.returns
  have hts := atoms_spec (ws := wsX7_fault) B.pre
  have hown : s.vm.findClass RX7 = some m.cls := findClass_of_methodNamed B.named
  have hlocks := B.notSynchronized
  have hS : va_S A s.heap s.heap [] := va_S.rf
  have hk_0 := hts (.fieldLink RX7 41 "HamCellar" "reader" "LHamCellar$RuleReader;") (by decide +kernel)
  have hk_1 : ∀ w ∈ wsX70, w ∈ wsX7_fault := by decide +kernel
  have hk_2n := hE.2.1.1 ("HamCellar", 158, "HamCellar$RuleReader", "wrong", "I", "HamCellar") (by decide +kernel)
  have hk_2 : (Cond.fieldLinkNest "HamCellar" 158 "HamCellar$RuleReader" "wrong" "I" "HamCellar").before ([.ref (ad 0)] : List Value).toArray s = true := va_Nw.use rfl hk_2n
  have hk_3 : ∀ w ∈ wsX50, w ∈ wsX7_fault := by decide +kernel
  have hl := lv_entry ([.ref (ad 0)]) (n := 1) (Nat.le_of_ble_eq_true rfl)
  rw [lg_entry_eq]
  generalize (lg_sl ([.ref (ad 0)]) ++ List.replicate (1 - (lg_sl ([.ref (ad 0)])).length) Slot.unset).toArray = ls at hl ⊢
  have hl : lv_has ls 1 [(0, .ref (ad 0))] := hl
  unfold wp_C_X7_fault at h
  refine lv_aload_n hx hb dX7_fault_0 rfl (lv_at hl 0 rfl) ?_
  refine va_get (D := (dC, dI)) (ci := 7) (v := .ref (ad 10)) (C := RX7) (T := TX7) (N := 10) hx hb hts hk_1 hown hK hP 0 wA_g0 rfl 6 (by decide) hk_0 (fun _ h9 => h9) rfl dX7_fault_1 ?_
  refine va_getN (D := (dC, dI)) (ci := 5) (v := .int rwrong) (C := RX5) (T := TX5) (N := 5) hx hb hts hk_3 hown hK hP 10 wA_g10 rfl 4 (by decide) hk_2 (fun _ h9 => h9) rfl dX7_fault_4 ?_
  exact W.iret (v := rwrong) hx hb hr (fun t ht hW => ⟨⟨rwrong, (), rfl, h, kB_mk hP hK hD ht hW.alike⟩, hS.F ht⟩) hS.2.2 dX7_fault_7
def wp_C_X7_isFeedAgainst (LP : List Nat) (today : Int32) (ftold : Int32) (ffarm : Nat → Int32) (ffrom : Nat → Int32) (fwhat : Nat → Int32) (fon : Nat → Int32) (g_farm : Nat → Int32) (g_begun : Nat → Int32) (Q : Int32 → Prop) (p0 : Nat) (p1 : Int32) : Prop := wp_C_X1_find ftold ffarm ffrom fwhat fon (fun r_3 => ((p1 ≤ r_3 → (o01 0 ∧ Q 0 )) ∧ (¬ (p1 ≤ r_3) → (o01 1 ∧ Q 1 )))) (g_farm p0) (g_begun p0) today
def rm_C_X7_isFeedAgainst : Room := { frames := 1, cells := 0, slots := 0, locals := 27 }
abbrev pq_C_X7_isFeedAgainst (dC : Nat → ClassId) (dI : Nat → Nat → Nat) (ad : Nat → Nat) (cB cI cZ cL : ClassId) (A : Nat → Prop) (LP : List Nat) (today legCount : Int32) (legs hung : Nat → Option Nat) (warmth damp wopen : Nat → Int32) (tsize : Int32) (bytes : Nat → Int32) (rat rtold rwrong : Int32) (numbers asked : Nat → Int32) (ftold : Int32) (ffarm ffrom fwhat fon : Nat → Int32) (csize ctotal : Int32) (offered : Nat → Option Nat) (cws cwa g_number g_farm g_pig g_first g_begun g_weight g_salted g_heat g_place g_target g_feedAsked g_sealed g_bad g_sold : Nat → Int32) (Q : Int32 → Prop) : Array Value → State → Outcome → State → Prop := va_Qi (fun (r : Int32) (u : Unit) => Q r ) (fun u t => kB dC dI A (wA ad cB cI cZ cL LP today legCount legs hung warmth damp wopen tsize bytes rat rtold rwrong numbers asked ftold ffarm ffrom fwhat fon csize ctotal offered cws cwa g_number g_farm g_pig g_first g_begun g_weight g_salted g_heat g_place g_target g_feedAsked g_sealed g_bad g_sold) (kTy cB cI cZ cL) t) A
set_option maxHeartbeats 4000000 in
set_option maxRecDepth 100000 in
theorem c_C_X7_isFeedAgainst (l : Launch) (dC : Nat → ClassId) (dI : Nat → Nat → Nat) (ad : Nat → Nat) (cB cI cZ cL : ClassId) (A : Nat → Prop) (LP : List Nat) (today legCount : Int32) (legs hung : Nat → Option Nat) (warmth damp wopen : Nat → Int32) (tsize : Int32) (bytes : Nat → Int32) (rat rtold rwrong : Int32) (numbers asked : Nat → Int32) (ftold : Int32) (ffarm ffrom fwhat fon : Nat → Int32) (csize ctotal : Int32) (offered : Nat → Option Nat) (cws cwa g_number g_farm g_pig g_first g_begun g_weight g_salted g_heat g_place g_target g_feedAsked g_sealed g_bad g_sold : Nat → Int32) (p0 : Nat) (p1 : Int32) (hy_p0 : p0 ∈ LP) (Q : Int32 → Prop) (h : wp_C_X7_isFeedAgainst LP today ftold ffarm ffrom fwhat fon g_farm g_begun Q p0 p1) : Met l yX7_isFeedAgainst wsX7_isFeedAgainst rm_C_X7_isFeedAgainst (va_Pc [.ref (ad 0), .ref p0, .int p1] (kC dC dI ad A (wA ad cB cI cZ cL LP today legCount legs hung warmth damp wopen tsize bytes rat rtold rwrong numbers asked ftold ffarm ffrom fwhat fon csize ctotal offered cws cwa g_number g_farm g_pig g_first g_begun g_weight g_salted g_heat g_place g_target g_feedAsked g_sealed g_bad g_sold) (kTy cB cI cZ cL))) (pq_C_X7_isFeedAgainst dC dI ad cB cI cZ cL A LP today legCount legs hung warmth damp wopen tsize bytes rat rtold rwrong numbers asked ftold ffarm ffrom fwhat fon csize ctotal offered cws cwa g_number g_farm g_pig g_first g_begun g_weight g_salted g_heat g_place g_target g_feedAsked g_sealed g_bad g_sold Q) 0 0 A := by
  refine Met.ofW (cc := cX7_isFeedAgainst) (maxL := 3) (ret := (some .boolean)) (by decide) rfl ?_
  intro p e s m args below meth c s₁ B hml hv
  obtain ⟨rfl, hA, hP, hK, hD, hE⟩ := hv
  have hx := B.exec
  have hb := B.bytes
  have hr := B.returns
  have hts := atoms_spec (ws := wsX7_isFeedAgainst) B.pre
  have hown : s.vm.findClass RX7 = some m.cls := findClass_of_methodNamed B.named
  have hlocks := B.notSynchronized
  have hS : va_S A s.heap s.heap [] := va_S.rf
  have hk_0 := hts (.fieldLink RX7 52 "HamCellar" "feeds" "LHamCellar$FeedBook;") (by decide +kernel)
  have hk_1 : ∀ w ∈ wsX70, w ∈ wsX7_isFeedAgainst := by decide +kernel
  have hk_2n := hE.2.1.1 ("HamCellar", 209, "HamCellar$Leg", "farm", "I", "HamCellar") (by decide +kernel)
  have hk_2 : (Cond.fieldLinkNest "HamCellar" 209 "HamCellar$Leg" "farm" "I" "HamCellar").before ([.ref (ad 0), .ref p0, .int p1] : List Value).toArray s = true := va_Nw.use rfl hk_2n
  have hk_3 : ∀ w ∈ wsX30, w ∈ wsX7_isFeedAgainst := by decide +kernel
  have hk_4n := hE.2.1.1 ("HamCellar", 215, "HamCellar$Leg", "begun", "I", "HamCellar") (by decide +kernel)
  have hk_4 : (Cond.fieldLinkNest "HamCellar" 215 "HamCellar$Leg" "begun" "I" "HamCellar").before ([.ref (ad 0), .ref p0, .int p1] : List Value).toArray s = true := va_Nw.use rfl hk_4n
  have hk_5 := hts (.fieldLink RX7 99 "HamCellar" "today" "I") (by decide +kernel)
  have hl := lv_entry ([.ref (ad 0), .ref p0, .int p1]) (n := 3) (Nat.le_of_ble_eq_true rfl)
  rw [lg_entry_eq]
  generalize (lg_sl ([.ref (ad 0), .ref p0, .int p1]) ++ List.replicate (3 - (lg_sl ([.ref (ad 0), .ref p0, .int p1])).length) Slot.unset).toArray = ls at hl ⊢
  have hl : lv_has ls 3 [(0, .ref (ad 0)), (1, .ref p0), (2, .int p1)] := hl
  unfold wp_C_X7_isFeedAgainst at h
  refine lv_aload_n hx hb dX7_isFeedAgainst_0 rfl (lv_at hl 0 rfl) ?_
  refine va_get (D := (dC, dI)) (ci := 7) (v := .ref (ad 13)) (C := RX7) (T := TX7) (N := 10) hx hb hts hk_1 hown hK hP 0 wA_g0 rfl 8 (by decide) hk_0 (fun _ h9 => h9) rfl dX7_isFeedAgainst_1 ?_
  refine lv_aload_n hx hb dX7_isFeedAgainst_4 rfl (lv_at hl 1 rfl) ?_
  obtain ⟨k_1, hg_k_1⟩ := wA_leg hy_p0
  refine va_getN (D := (dC, dI)) (ci := 3) (v := .int (g_farm p0)) (C := RX3) (T := TX3) (N := 14) hx hb hts hk_3 hown hK hP k_1 hg_k_1 rfl 1 (by decide) hk_2 (fun _ h9 => h9) rfl dX7_isFeedAgainst_5 ?_
  refine lv_aload_n hx hb dX7_isFeedAgainst_8 rfl (lv_at hl 1 rfl) ?_
  obtain ⟨k_2, hg_k_2⟩ := wA_leg hy_p0
  refine va_getN (D := (dC, dI)) (ci := 3) (v := .int (g_begun p0)) (C := RX3) (T := TX3) (N := 14) hx hb hts hk_3 hown hK hP k_2 hg_k_2 rfl 4 (by decide) hk_4 (fun _ h9 => h9) rfl dX7_isFeedAgainst_9 ?_
  refine lv_aload_n hx hb dX7_isFeedAgainst_12 rfl (lv_at hl 0 rfl) ?_
  refine va_get (D := (dC, dI)) (ci := 7) (v := .int today) (C := RX7) (T := TX7) (N := 10) hx hb hts hk_1 hown hK hP 0 wA_g0 rfl 0 (by decide) hk_5 (fun _ h9 => h9) rfl dX7_isFeedAgainst_13 ?_
  refine va_calli (va_runV (As := [.int (g_farm p0), .int (g_begun p0), .int today]) (rest := []) ⟨hx, hb, hml, hown, hts⟩ (c_C_X1_find l dC dI ad cB cI cZ cL A LP today legCount legs hung warmth damp wopen tsize bytes rat rtold rwrong numbers asked ftold ffarm ffrom fwhat fon csize ctotal offered cws cwa g_number g_farm g_pig g_first g_begun g_weight g_salted g_heat g_place g_target g_feedAsked g_sealed g_bad g_sold (g_farm p0) (g_begun p0) today _ h) (cwV 3 hts gX7_isFeedAgainst_X1_find rfl rfl rfl (by decide +kernel) ⟨(Nat.le_of_ble_eq_true rfl), (Nat.le_of_ble_eq_true rfl)⟩) ⟨kC_blind, va_recv hK hP (ci := 1) (q0 := 13) rfl wA_g13, fun U hU hW => ⟨rfl, kC_go hA hS hP hK hD hE U hU hW⟩⟩ rfl rfl hl.1 rfl (lv_room (Nat.le_of_ble_eq_true rfl)) dX7_isFeedAgainst_16 ⟨(Nat.le_of_ble_eq_true rfl), (Nat.le_of_ble_eq_true rfl)⟩) hS (fun q _ h => h) (fun q h => h) (fun r_3 u t H locs ht hvm hw hB hz1 hk1 hS => ?_)
  have h := hw
  try dsimp only at h
  have hP : va_P (dC, dI) vwCl (wA ad cB cI cZ cL LP today legCount legs hung warmth damp wopen tsize bytes rat rtold rwrong numbers asked ftold ffarm ffrom fwhat fon csize ctotal offered cws cwa g_number g_farm g_pig g_first g_begun g_weight g_salted g_heat g_place g_target g_feedAsked g_sealed g_bad g_sold) H := by rw [← ht]; exact hB.1
  have hD : va_D A (wA ad cB cI cZ cL LP today legCount legs hung warmth damp wopen tsize bytes rat rtold rwrong numbers asked ftold ffarm ffrom fwhat fon csize ctotal offered cws cwa g_number g_farm g_pig g_first g_begun g_weight g_salted g_heat g_place g_target g_feedAsked g_sealed g_bad g_sold) := hB.2.2
  refine lv_iload_n hx hb dX7_isFeedAgainst_19 rfl (lv_at hl 2 rfl) ?_
  refine lv_icmp_ge (tgt := 27) hx hb dX7_isFeedAgainst_20 (by decide) (fun c_4 => ?_) (fun c_4 => ?_)
  · have h := h.1 c_4
    refine lv_iconst (v := 0) hx hb dX7_isFeedAgainst_27 (by decide) ?_
    exact W.zret (v := 0) (ty := .boolean) hx hb hr (z01 h.1) (fun t ht hW => ⟨⟨0, (), rfl, h.2, kB_mk hP hK hD ht hW.alike⟩, hS.F ht⟩) hS.2.2 dX7_isFeedAgainst_28
  · have h := h.2 c_4
    refine lv_iconst (v := 1) hx hb dX7_isFeedAgainst_23 (by decide) ?_
    refine lv_goto (tgt := 28) hx hb dX7_isFeedAgainst_24 (by decide) ?_
    exact W.zret (v := 1) (ty := .boolean) hx hb hr (z01 h.1) (fun t ht hW => ⟨⟨1, (), rfl, h.2, kB_mk hP hK hD ht hW.alike⟩, hS.F ht⟩) hS.2.2 dX7_isFeedAgainst_28
def bk_C_X7_undoSeals_69 (LP : List Nat) (today : Int32) (legs : Nat → Option Nat) (ftold : Int32) (ffarm : Nat → Int32) (ffrom : Nat → Int32) (fwhat : Nat → Int32) (fon : Nat → Int32) (g_farm : Nat → Int32) (g_begun : Nat → Int32) (g_feedAsked : Nat → Int32) (g_sold : Nat → Int32)  (Q : Int32 → (Nat → Int32) → Prop) (K13 : (Nat → Int32) → Int32 → Int32 → Int32 → Prop) (g_sealed : Nat → Int32) (v1 : Int32) (v3 : Int32) (v4 : Int32) : Prop := K13 g_sealed v1 v3 (v4 + 1)
def lp_C_X7_undoSeals_13 (LP : List Nat) (today : Int32) (legs : Nat → Option Nat) (ftold : Int32) (ffarm : Nat → Int32) (ffrom : Nat → Int32) (fwhat : Nat → Int32) (fon : Nat → Int32) (g_farm : Nat → Int32) (g_begun : Nat → Int32) (g_feedAsked : Nat → Int32) (g_sold : Nat → Int32)  (Q : Int32 → (Nat → Int32) → Prop) : Nat → (Nat → Int32) → Int32 → Int32 → Int32 → Prop
  | 0 => fun _ _ _ _ => False
  | n + 1 => fun g_sealed v1 v3 v4 => ((v3 ≤ v4 → Q v1 g_sealed) ∧ (¬ (v3 ≤ v4) → (vp_in v4 60 ∧ ((legs v4.toNatClampNeg = none → bk_C_X7_undoSeals_69 LP today legs ftold ffarm ffrom fwhat fon g_farm g_begun g_feedAsked g_sold Q (lp_C_X7_undoSeals_13 LP today legs ftold ffarm ffrom fwhat fon g_farm g_begun g_feedAsked g_sold Q n) g_sealed v1 v3 v4) ∧ (∀ y_3 : Nat, legs v4.toNatClampNeg = some y_3 → y_3 ∈ LP ∧ (((g_sealed y_3) = 0 → bk_C_X7_undoSeals_69 LP today legs ftold ffarm ffrom fwhat fon g_farm g_begun g_feedAsked g_sold Q (lp_C_X7_undoSeals_13 LP today legs ftold ffarm ffrom fwhat fon g_farm g_begun g_feedAsked g_sold Q n) g_sealed v1 v3 v4) ∧ (¬ ((g_sealed y_3) = 0) → ((¬ (g_sold y_3) = 0 → bk_C_X7_undoSeals_69 LP today legs ftold ffarm ffrom fwhat fon g_farm g_begun g_feedAsked g_sold Q (lp_C_X7_undoSeals_13 LP today legs ftold ffarm ffrom fwhat fon g_farm g_begun g_feedAsked g_sold Q n) g_sealed v1 v3 v4) ∧ ((g_sold y_3) = 0 → wp_C_X7_isFeedAgainst LP today ftold ffarm ffrom fwhat fon g_farm g_begun (fun r_11 => ((r_11 = 0 → bk_C_X7_undoSeals_69 LP today legs ftold ffarm ffrom fwhat fon g_farm g_begun g_feedAsked g_sold Q (lp_C_X7_undoSeals_13 LP today legs ftold ffarm ffrom fwhat fon g_farm g_begun g_feedAsked g_sold Q n) g_sealed v1 v3 v4) ∧ (¬ (r_11 = 0) → bk_C_X7_undoSeals_69 LP today legs ftold ffarm ffrom fwhat fon g_farm g_begun g_feedAsked g_sold Q (lp_C_X7_undoSeals_13 LP today legs ftold ffarm ffrom fwhat fon g_farm g_begun g_feedAsked g_sold Q n) (va_up g_sealed y_3 0) (v1 + 1) v3 v4))) y_3 (g_feedAsked y_3))))))))))
def wp_C_X7_undoSeals (LP : List Nat) (today : Int32) (legs : Nat → Option Nat) (ftold : Int32) (ffarm : Nat → Int32) (ffrom : Nat → Int32) (fwhat : Nat → Int32) (fon : Nat → Int32) (g_farm : Nat → Int32) (g_begun : Nat → Int32) (g_feedAsked : Nat → Int32) (g_sold : Nat → Int32) (Q : Int32 → (Nat → Int32) → Prop) (g_sealed : Nat → Int32) : Prop := (∃ n_14, lp_C_X7_undoSeals_13 LP today legs ftold ffarm ffrom fwhat fon g_farm g_begun g_feedAsked g_sold Q n_14 g_sealed 0 60 0)
def rm_C_X7_undoSeals : Room := { frames := 2, cells := 0, slots := 0, locals := 49 }
abbrev pq_C_X7_undoSeals (dC : Nat → ClassId) (dI : Nat → Nat → Nat) (ad : Nat → Nat) (cB cI cZ cL : ClassId) (A : Nat → Prop) (LP : List Nat) (today legCount : Int32) (legs hung : Nat → Option Nat) (warmth damp wopen : Nat → Int32) (tsize : Int32) (bytes : Nat → Int32) (rat rtold rwrong : Int32) (numbers asked : Nat → Int32) (ftold : Int32) (ffarm ffrom fwhat fon : Nat → Int32) (csize ctotal : Int32) (offered : Nat → Option Nat) (cws cwa g_number g_farm g_pig g_first g_begun g_weight g_salted g_heat g_place g_target g_feedAsked g_sealed g_bad g_sold : Nat → Int32) (Q : Int32 → (Nat → Int32) → Prop) : Array Value → State → Outcome → State → Prop := va_Qi (fun (r : Int32) (u : (Nat → Int32)) => Q r u) (fun u t => kB dC dI A (wA ad cB cI cZ cL LP today legCount legs hung warmth damp wopen tsize bytes rat rtold rwrong numbers asked ftold ffarm ffrom fwhat fon csize ctotal offered cws cwa g_number g_farm g_pig g_first g_begun g_weight g_salted g_heat g_place g_target g_feedAsked u g_bad g_sold) (kTy cB cI cZ cL) t) A
set_option maxHeartbeats 4000000 in
set_option maxRecDepth 100000 in
theorem c_C_X7_undoSeals (l : Launch) (dC : Nat → ClassId) (dI : Nat → Nat → Nat) (ad : Nat → Nat) (cB cI cZ cL : ClassId) (A : Nat → Prop) (LP : List Nat) (today legCount : Int32) (legs hung : Nat → Option Nat) (warmth damp wopen : Nat → Int32) (tsize : Int32) (bytes : Nat → Int32) (rat rtold rwrong : Int32) (numbers asked : Nat → Int32) (ftold : Int32) (ffarm ffrom fwhat fon : Nat → Int32) (csize ctotal : Int32) (offered : Nat → Option Nat) (cws cwa g_number g_farm g_pig g_first g_begun g_weight g_salted g_heat g_place g_target g_feedAsked g_sealed g_bad g_sold : Nat → Int32)   (Q : Int32 → (Nat → Int32) → Prop) (h : wp_C_X7_undoSeals LP today legs ftold ffarm ffrom fwhat fon g_farm g_begun g_feedAsked g_sold Q g_sealed) : Met l yX7_undoSeals wsX7_undoSeals rm_C_X7_undoSeals (va_Pc [.ref (ad 0)] (kC dC dI ad A (wA ad cB cI cZ cL LP today legCount legs hung warmth damp wopen tsize bytes rat rtold rwrong numbers asked ftold ffarm ffrom fwhat fon csize ctotal offered cws cwa g_number g_farm g_pig g_first g_begun g_weight g_salted g_heat g_place g_target g_feedAsked g_sealed g_bad g_sold) (kTy cB cI cZ cL))) (pq_C_X7_undoSeals dC dI ad cB cI cZ cL A LP today legCount legs hung warmth damp wopen tsize bytes rat rtold rwrong numbers asked ftold ffarm ffrom fwhat fon csize ctotal offered cws cwa g_number g_farm g_pig g_first g_begun g_weight g_salted g_heat g_place g_target g_feedAsked g_sealed g_bad g_sold Q) 0 0 A := by
  refine Met.ofW (cc := cX7_undoSeals) (maxL := 6) (ret := (some .int)) (by decide) rfl ?_
  intro p e s m args below meth c s₁ B hml hv
  obtain ⟨rfl, hA, hP, hK, hD, hE⟩ := hv
  have hx := B.exec
  have hb := B.bytes
  have hr := B.returns
  have hts := atoms_spec (ws := wsX7_undoSeals) B.pre
  have hown : s.vm.findClass RX7 = some m.cls := findClass_of_methodNamed B.named
  have hlocks := B.notSynchronized
  have hS : va_S A s.heap s.heap [] := va_S.rf
  have hk_0 := hts (.fieldLink RX7 11 "HamCellar" "legs" "[LHamCellar$Leg;") (by decide +kernel)
  have hk_1 : ∀ w ∈ wsX70, w ∈ wsX7_undoSeals := by decide +kernel
  have hk_2n := hE.2.1.1 ("HamCellar", 175, "HamCellar$Leg", "sealed", "Z", "HamCellar") (by decide +kernel)
  have hk_2 : (Cond.fieldLinkNest "HamCellar" 175 "HamCellar$Leg" "sealed" "Z" "HamCellar").before ([.ref (ad 0)] : List Value).toArray s = true := va_Nw.use rfl hk_2n
  have hk_3 : ∀ w ∈ wsX30, w ∈ wsX7_undoSeals := by decide +kernel
  have hk_4n := hE.2.1.1 ("HamCellar", 113, "HamCellar$Leg", "sold", "Z", "HamCellar") (by decide +kernel)
  have hk_4 : (Cond.fieldLinkNest "HamCellar" 113 "HamCellar$Leg" "sold" "Z" "HamCellar").before ([.ref (ad 0)] : List Value).toArray s = true := va_Nw.use rfl hk_4n
  have hk_5n := hE.2.1.1 ("HamCellar", 181, "HamCellar$Leg", "feedAsked", "I", "HamCellar") (by decide +kernel)
  have hk_5 : (Cond.fieldLinkNest "HamCellar" 181 "HamCellar$Leg" "feedAsked" "I" "HamCellar").before ([.ref (ad 0)] : List Value).toArray s = true := va_Nw.use rfl hk_5n
  have hbk_C_X7_undoSeals_69 : ∀ (K13 : (Nat → Int32) → Int32 → Int32 → Int32 → Prop) (hK13 : ∀ (g_sealed : Nat → Int32) (v1 : Int32) (v3 : Int32) (v4 : Int32) (H : Heap) (locs : List Loc) (ls : Array Slot), va_P (dC, dI) vwCl (wA ad cB cI cZ cL LP today legCount legs hung warmth damp wopen tsize bytes rat rtold rwrong numbers asked ftold ffarm ffrom fwhat fon csize ctotal offered cws cwa g_number g_farm g_pig g_first g_begun g_weight g_salted g_heat g_place g_target g_feedAsked g_sealed g_bad g_sold) H → va_D A (wA ad cB cI cZ cL LP today legCount legs hung warmth damp wopen tsize bytes rat rtold rwrong numbers asked ftold ffarm ffrom fwhat fon csize ctotal offered cws cwa g_number g_farm g_pig g_first g_begun g_weight g_salted g_heat g_place g_target g_feedAsked g_sealed g_bad g_sold) → va_S A s.heap H locs → lv_has ls 6 [(0, .ref (ad 0)), (1, .int v1), (2, .ref (ad 1)), (3, .int v3), (4, .int v4)] → K13 g_sealed v1 v3 v4 → W p l e (headSpec wsX7_undoSeals rm_C_X7_undoSeals).room s m ([.ref (ad 0)] : List Value).toArray below meth c H locs 0 0 (MQ below (pq_C_X7_undoSeals dC dI ad cB cI cZ cL A LP today legCount legs hung warmth damp wopen tsize bytes rat rtold rwrong numbers asked ftold ffarm ffrom fwhat fon csize ctotal offered cws cwa g_number g_farm g_pig g_first g_begun g_weight g_salted g_heat g_place g_target g_feedAsked g_sealed g_bad g_sold Q) ([.ref (ad 0)] : List Value).toArray s 0 0 A) (F0 m 13 ls [])) (g_sealed : Nat → Int32) (v1 : Int32) (v3 : Int32) (v4 : Int32) (H : Heap) (locs : List Loc) (ls : Array Slot), va_P (dC, dI) vwCl (wA ad cB cI cZ cL LP today legCount legs hung warmth damp wopen tsize bytes rat rtold rwrong numbers asked ftold ffarm ffrom fwhat fon csize ctotal offered cws cwa g_number g_farm g_pig g_first g_begun g_weight g_salted g_heat g_place g_target g_feedAsked g_sealed g_bad g_sold) H → va_D A (wA ad cB cI cZ cL LP today legCount legs hung warmth damp wopen tsize bytes rat rtold rwrong numbers asked ftold ffarm ffrom fwhat fon csize ctotal offered cws cwa g_number g_farm g_pig g_first g_begun g_weight g_salted g_heat g_place g_target g_feedAsked g_sealed g_bad g_sold) → va_S A s.heap H locs → lv_has ls 6 [(0, .ref (ad 0)), (1, .int v1), (2, .ref (ad 1)), (3, .int v3), (4, .int v4)] → bk_C_X7_undoSeals_69 LP today legs ftold ffarm ffrom fwhat fon g_farm g_begun g_feedAsked g_sold Q K13 g_sealed v1 v3 v4 → W p l e (headSpec wsX7_undoSeals rm_C_X7_undoSeals).room s m ([.ref (ad 0)] : List Value).toArray below meth c H locs 0 0 (MQ below (pq_C_X7_undoSeals dC dI ad cB cI cZ cL A LP today legCount legs hung warmth damp wopen tsize bytes rat rtold rwrong numbers asked ftold ffarm ffrom fwhat fon csize ctotal offered cws cwa g_number g_farm g_pig g_first g_begun g_weight g_salted g_heat g_place g_target g_feedAsked g_sealed g_bad g_sold Q) ([.ref (ad 0)] : List Value).toArray s 0 0 A) (F0 m 69 ls []) := by
    intro K13 hK13 g_sealed v1 v3 v4 H locs ls hP hD hS hl h
    refine lv_iinc (v := v4 + 1) (lv' := [(4, .int (v4 + 1)), (0, .ref (ad 0)), (1, .int v1), (2, .ref (ad 1)), (3, .int v3)]) hx hb dX7_undoSeals_69 hl (k := 4) rfl rfl (by decide) rfl (fun ls hl => ?_)
    refine lv_goto (tgt := 13) hx hb dX7_undoSeals_72 (by decide) ?_
    exact hK13 g_sealed v1 v3 (v4 + 1) _ _ _ hP hD hS (lv_sub hl [1, 2, 3, 4, 0] rfl) h
  have hlp_C_X7_undoSeals_13 : ∀ (n : Nat) (g_sealed : Nat → Int32) (v1 : Int32) (v3 : Int32) (v4 : Int32) (H : Heap) (locs : List Loc) (ls : Array Slot), va_P (dC, dI) vwCl (wA ad cB cI cZ cL LP today legCount legs hung warmth damp wopen tsize bytes rat rtold rwrong numbers asked ftold ffarm ffrom fwhat fon csize ctotal offered cws cwa g_number g_farm g_pig g_first g_begun g_weight g_salted g_heat g_place g_target g_feedAsked g_sealed g_bad g_sold) H → va_D A (wA ad cB cI cZ cL LP today legCount legs hung warmth damp wopen tsize bytes rat rtold rwrong numbers asked ftold ffarm ffrom fwhat fon csize ctotal offered cws cwa g_number g_farm g_pig g_first g_begun g_weight g_salted g_heat g_place g_target g_feedAsked g_sealed g_bad g_sold) → va_S A s.heap H locs → lv_has ls 6 [(0, .ref (ad 0)), (1, .int v1), (2, .ref (ad 1)), (3, .int v3), (4, .int v4)] → lp_C_X7_undoSeals_13 LP today legs ftold ffarm ffrom fwhat fon g_farm g_begun g_feedAsked g_sold Q n g_sealed v1 v3 v4 → W p l e (headSpec wsX7_undoSeals rm_C_X7_undoSeals).room s m ([.ref (ad 0)] : List Value).toArray below meth c H locs 0 0 (MQ below (pq_C_X7_undoSeals dC dI ad cB cI cZ cL A LP today legCount legs hung warmth damp wopen tsize bytes rat rtold rwrong numbers asked ftold ffarm ffrom fwhat fon csize ctotal offered cws cwa g_number g_farm g_pig g_first g_begun g_weight g_salted g_heat g_place g_target g_feedAsked g_sealed g_bad g_sold Q) ([.ref (ad 0)] : List Value).toArray s 0 0 A) (F0 m 13 ls []) := by
    intro n
    induction n with
    | zero => intro g_sealed v1 v3 v4 H locs ls hP hD hS hl h; exact h.elim
    | succ n ih =>
      intro g_sealed v1 v3 v4 H locs ls hP hD hS hl h
      refine lv_iload hx hb dX7_undoSeals_13 (lv_at hl 4 rfl) ?_
      refine lv_iload_n hx hb dX7_undoSeals_15 rfl (lv_at hl 3 rfl) ?_
      refine lv_icmp_ge (tgt := 75) hx hb dX7_undoSeals_16 (by decide) (fun c_1 => ?_) (fun c_1 => ?_)
      · have h := h.1 c_1
        refine lv_iload_n hx hb dX7_undoSeals_75 rfl (lv_at hl 1 rfl) ?_
        exact W.iret (v := v1) hx hb hr (fun t ht hW => ⟨⟨v1, (g_sealed), rfl, h, kB_mk hP hK hD ht hW.alike⟩, hS.F ht⟩) hS.2.2 dX7_undoSeals_76
      · have h := h.2 c_1
        refine lv_aload_n hx hb dX7_undoSeals_19 rfl (lv_at hl 2 rfl) ?_
        refine lv_iload hx hb dX7_undoSeals_20 (lv_at hl 4 rfl) ?_
        have hi_2 := h.1
        have h := h.2
        refine va_aldq hx hb hK hP 1 3 wA_g1 rfl hi_2 dX7_undoSeals_22 ?_
        cases hr_4 : legs v4.toNatClampNeg with
        | none =>
          have h := h.1 hr_4
          refine lv_astoreN (lv' := [(5, .null), (0, .ref (ad 0)), (1, .int v1), (2, .ref (ad 1)), (3, .int v3), (4, .int v4)]) hx hb dX7_undoSeals_23 hl (by decide) rfl (fun ls hl => ?_)
          refine lv_aloadN hx hb dX7_undoSeals_25 (lv_at hl 0 rfl) ?_
          refine lv_ifnullN (tgt := 69) hx hb dX7_undoSeals_27 (by decide) ?_
          exact hbk_C_X7_undoSeals_69 (lp_C_X7_undoSeals_13 LP today legs ftold ffarm ffrom fwhat fon g_farm g_begun g_feedAsked g_sold Q n) ih g_sealed v1 v3 v4 _ _ _ hP hD hS (lv_sub hl [1, 2, 3, 4, 5] rfl) h
        | some y_3 =>
          have hy_y_3 := (h.2 y_3 hr_4).1
          have h := (h.2 y_3 hr_4).2
          refine lv_astore (lv' := [(5, .ref y_3), (0, .ref (ad 0)), (1, .int v1), (2, .ref (ad 1)), (3, .int v3), (4, .int v4)]) hx hb dX7_undoSeals_23 hl (by decide) rfl (fun ls hl => ?_)
          refine lv_aload hx hb dX7_undoSeals_25 (lv_at hl 0 rfl) ?_
          refine lv_ifnull hx hb dX7_undoSeals_27 ?_
          refine lv_aload hx hb dX7_undoSeals_30 (lv_at hl 0 rfl) ?_
          obtain ⟨k_6, hg_k_6⟩ := wA_leg hy_y_3
          refine va_getN (D := (dC, dI)) (ci := 3) (v := .int (g_sealed y_3)) (C := RX3) (T := TX3) (N := 14) hx hb hts hk_3 hown hK hP k_6 hg_k_6 rfl 11 (by decide) hk_2 (fun _ h9 => h9) rfl dX7_undoSeals_32 ?_
          refine lv_if_eq (tgt := 69) hx hb dX7_undoSeals_35 (by decide) (fun c_7 => ?_) (fun c_7 => ?_)
          · have h := h.1 c_7
            exact hbk_C_X7_undoSeals_69 (lp_C_X7_undoSeals_13 LP today legs ftold ffarm ffrom fwhat fon g_farm g_begun g_feedAsked g_sold Q n) ih g_sealed v1 v3 v4 _ _ _ hP hD hS (lv_sub hl [1, 2, 3, 4, 5] rfl) h
          · have h := h.2 c_7
            refine lv_aload hx hb dX7_undoSeals_38 (lv_at hl 0 rfl) ?_
            obtain ⟨k_8, hg_k_8⟩ := wA_leg hy_y_3
            refine va_getN (D := (dC, dI)) (ci := 3) (v := .int (g_sold y_3)) (C := RX3) (T := TX3) (N := 14) hx hb hts hk_3 hown hK hP k_8 hg_k_8 rfl 13 (by decide) hk_4 (fun _ h9 => h9) rfl dX7_undoSeals_40 ?_
            refine lv_if_ne (tgt := 69) hx hb dX7_undoSeals_43 (by decide) (fun c_9 => ?_) (fun c_9 => ?_)
            · have h := h.1 c_9
              exact hbk_C_X7_undoSeals_69 (lp_C_X7_undoSeals_13 LP today legs ftold ffarm ffrom fwhat fon g_farm g_begun g_feedAsked g_sold Q n) ih g_sealed v1 v3 v4 _ _ _ hP hD hS (lv_sub hl [1, 2, 3, 4, 5] rfl) h
            · have h := h.2 c_9
              refine lv_aload_n hx hb dX7_undoSeals_46 rfl (lv_at hl 1 rfl) ?_
              refine lv_aload hx hb dX7_undoSeals_47 (lv_at hl 0 rfl) ?_
              refine lv_aload hx hb dX7_undoSeals_49 (lv_at hl 0 rfl) ?_
              obtain ⟨k_10, hg_k_10⟩ := wA_leg hy_y_3
              refine va_getN (D := (dC, dI)) (ci := 3) (v := .int (g_feedAsked y_3)) (C := RX3) (T := TX3) (N := 14) hx hb hts hk_3 hown hK hP k_10 hg_k_10 rfl 10 (by decide) hk_5 (fun _ h9 => h9) rfl dX7_undoSeals_51 ?_
              refine va_calli (va_runV (As := [.ref y_3, .int (g_feedAsked y_3)]) (rest := []) ⟨hx, hb, hml, hown, hts⟩ (c_C_X7_isFeedAgainst l dC dI ad cB cI cZ cL A LP today legCount legs hung warmth damp wopen tsize bytes rat rtold rwrong numbers asked ftold ffarm ffrom fwhat fon csize ctotal offered cws cwa g_number g_farm g_pig g_first g_begun g_weight g_salted g_heat g_place g_target g_feedAsked g_sealed g_bad g_sold y_3 (g_feedAsked y_3) hy_y_3 _ h) (cwV 2 hts gX7_undoSeals_X7_isFeedAgainst rfl rfl rfl (by decide +kernel) ⟨(Nat.le_of_ble_eq_true rfl), (Nat.le_of_ble_eq_true rfl)⟩) ⟨kC_blind, va_recv hK hP (ci := 7) (q0 := 0) rfl wA_g0, fun U hU hW => ⟨rfl, kC_go hA hS hP hK hD hE U hU hW⟩⟩ rfl rfl hl.1 rfl (lv_room (Nat.le_of_ble_eq_true rfl)) dX7_undoSeals_54 ⟨(Nat.le_of_ble_eq_true rfl), (Nat.le_of_ble_eq_true rfl)⟩) hS (fun q _ h => h) (fun q h => h) (fun r_11 u t H locs ht hvm hw hB hz1 hk1 hS => ?_)
              have h := hw
              try dsimp only at h
              have hP : va_P (dC, dI) vwCl (wA ad cB cI cZ cL LP today legCount legs hung warmth damp wopen tsize bytes rat rtold rwrong numbers asked ftold ffarm ffrom fwhat fon csize ctotal offered cws cwa g_number g_farm g_pig g_first g_begun g_weight g_salted g_heat g_place g_target g_feedAsked g_sealed g_bad g_sold) H := by rw [← ht]; exact hB.1
              have hD : va_D A (wA ad cB cI cZ cL LP today legCount legs hung warmth damp wopen tsize bytes rat rtold rwrong numbers asked ftold ffarm ffrom fwhat fon csize ctotal offered cws cwa g_number g_farm g_pig g_first g_begun g_weight g_salted g_heat g_place g_target g_feedAsked g_sealed g_bad g_sold) := hB.2.2
              refine lv_if_eq (tgt := 69) hx hb dX7_undoSeals_57 (by decide) (fun c_12 => ?_) (fun c_12 => ?_)
              · have h := h.1 c_12
                exact hbk_C_X7_undoSeals_69 (lp_C_X7_undoSeals_13 LP today legs ftold ffarm ffrom fwhat fon g_farm g_begun g_feedAsked g_sold Q n) ih g_sealed v1 v3 v4 _ _ _ hP hD hS (lv_sub hl [1, 2, 3, 4, 5] rfl) h
              · have h := h.2 c_12
                refine lv_aload hx hb dX7_undoSeals_60 (lv_at hl 0 rfl) ?_
                refine lv_iconst (v := 0) hx hb dX7_undoSeals_62 (by decide) ?_
                obtain ⟨k_13, hg_k_13⟩ := wA_leg hy_y_3
                refine va_putN (D := (dC, dI)) (ci := 3) (v := .int 0) (ty := .boolean) (C := RX3) (T := TX3) (N := 14) hx hb hts hk_3 tyX3 tyX3_ok nmX3 hown hK hP hD hS k_13 hg_k_13 rfl 11 (by decide) hk_2 (fun _ h9 => h9) rfl (by decide +kernel) rfl rfl (Nat.le_of_ble_eq_true rfl) dX7_undoSeals_63 (fun H locs hP2 hD2 hS => ?_)
                have hP : va_P (dC, dI) vwCl (wA ad cB cI cZ cL LP today legCount legs hung warmth damp wopen tsize bytes rat rtold rwrong numbers asked ftold ffarm ffrom fwhat fon csize ctotal offered cws cwa g_number g_farm g_pig g_first g_begun g_weight g_salted g_heat g_place g_target g_feedAsked (va_up g_sealed y_3 0) g_bad g_sold) H := hP_eq (wA_p_g_sealed hD hy_y_3 hg_k_13) hP2
                have hD : va_D A (wA ad cB cI cZ cL LP today legCount legs hung warmth damp wopen tsize bytes rat rtold rwrong numbers asked ftold ffarm ffrom fwhat fon csize ctotal offered cws cwa g_number g_farm g_pig g_first g_begun g_weight g_salted g_heat g_place g_target g_feedAsked (va_up g_sealed y_3 0) g_bad g_sold) := hD_eq (wA_p_g_sealed hD hy_y_3 hg_k_13) hD2
                refine lv_iinc (v := v1 + 1) (lv' := [(1, .int (v1 + 1)), (5, .ref y_3), (0, .ref (ad 0)), (2, .ref (ad 1)), (3, .int v3), (4, .int v4)]) hx hb dX7_undoSeals_66 hl (k := 2) rfl rfl (by decide) rfl (fun ls hl => ?_)
                exact hbk_C_X7_undoSeals_69 (lp_C_X7_undoSeals_13 LP today legs ftold ffarm ffrom fwhat fon g_farm g_begun g_feedAsked g_sold Q n) ih (va_up g_sealed y_3 0) (v1 + 1) v3 v4 _ _ _ hP hD hS (lv_sub hl [2, 0, 3, 4, 5] rfl) h
  have hl := lv_entry ([.ref (ad 0)]) (n := 6) (Nat.le_of_ble_eq_true rfl)
  rw [lg_entry_eq]
  generalize (lg_sl ([.ref (ad 0)]) ++ List.replicate (6 - (lg_sl ([.ref (ad 0)])).length) Slot.unset).toArray = ls at hl ⊢
  have hl : lv_has ls 6 [(0, .ref (ad 0))] := hl
  unfold wp_C_X7_undoSeals at h
  refine lv_iconst (v := 0) hx hb dX7_undoSeals_0 (by decide) ?_
  refine lv_istore_n (lv' := [(1, .int 0), (0, .ref (ad 0))]) hx hb dX7_undoSeals_1 rfl hl (by decide) rfl (fun ls hl => ?_)
  refine lv_aload_n hx hb dX7_undoSeals_2 rfl (lv_at hl 1 rfl) ?_
  refine va_get (D := (dC, dI)) (ci := 7) (v := .ref (ad 1)) (C := RX7) (T := TX7) (N := 10) hx hb hts hk_1 hown hK hP 0 wA_g0 rfl 2 (by decide) hk_0 (fun _ h9 => h9) rfl dX7_undoSeals_3 ?_
  refine lv_astore_n (lv' := [(2, .ref (ad 1)), (1, .int 0), (0, .ref (ad 0))]) hx hb dX7_undoSeals_6 rfl hl (by decide) rfl (fun ls hl => ?_)
  refine lv_aload_n hx hb dX7_undoSeals_7 rfl (lv_at hl 0 rfl) ?_
  refine va_alen hx hb hK hP 1 3 wA_g1 rfl (v := 60) rfl dX7_undoSeals_8 ?_
  refine lv_istore_n (lv' := [(3, .int 60), (2, .ref (ad 1)), (1, .int 0), (0, .ref (ad 0))]) hx hb dX7_undoSeals_9 rfl hl (by decide) rfl (fun ls hl => ?_)
  refine lv_iconst (v := 0) hx hb dX7_undoSeals_10 (by decide) ?_
  refine lv_istore (lv' := [(4, .int 0), (3, .int 60), (2, .ref (ad 1)), (1, .int 0), (0, .ref (ad 0))]) hx hb dX7_undoSeals_11 hl (by decide) rfl (fun ls hl => ?_)
  obtain ⟨n_14, h⟩ := h
  exact hlp_C_X7_undoSeals_13 n_14 g_sealed 0 60 0 _ _ _ hP hD hS (lv_sub hl [4, 3, 2, 1, 0] rfl) h
def bk_C_X7_fed_24 (LP : List Nat) (today : Int32) (legs : Nat → Option Nat) (g_farm : Nat → Int32) (g_begun : Nat → Int32) (g_feedAsked : Nat → Int32) (g_sold : Nat → Int32)  (Q : Int32 → Int32 → (Nat → Int32) → (Nat → Int32) → (Nat → Int32) → (Nat → Int32) → (Nat → Int32) → Prop) (X : Nat → Int32 → (Nat → Int32) → (Nat → Int32) → (Nat → Int32) → (Nat → Int32) → (Nat → Int32) → Prop) (ftold : Int32) (ffarm : Nat → Int32) (ffrom : Nat → Int32) (fwhat : Nat → Int32) (fon : Nat → Int32) (g_sealed : Nat → Int32) : Prop := X 2 ftold ffarm ffrom fwhat fon g_sealed
def wp_C_X7_fed (LP : List Nat) (today : Int32) (legs : Nat → Option Nat) (g_farm : Nat → Int32) (g_begun : Nat → Int32) (g_feedAsked : Nat → Int32) (g_sold : Nat → Int32) (Q : Int32 → Int32 → (Nat → Int32) → (Nat → Int32) → (Nat → Int32) → (Nat → Int32) → (Nat → Int32) → Prop) (X : Nat → Int32 → (Nat → Int32) → (Nat → Int32) → (Nat → Int32) → (Nat → Int32) → (Nat → Int32) → Prop) (ftold : Int32) (ffarm : Nat → Int32) (ffrom : Nat → Int32) (fwhat : Nat → Int32) (fon : Nat → Int32) (g_sealed : Nat → Int32) (p0 : Int32) (p1 : Int32) (p2 : Int32) : Prop := wp_C_X7_needFarm (wp_C_X7_isWithin (fun r_2 => ((r_2 = 0 → bk_C_X7_fed_24 LP today legs g_farm g_begun g_feedAsked g_sold Q X ftold ffarm ffrom fwhat fon g_sealed) ∧ (¬ (r_2 = 0) → wp_C_X7_isWithin (fun r_4 => ((¬ r_4 = 0 → wp_C_X1_write (fun r_6 ftold_6 ffarm_6 ffrom_6 fwhat_6 fon_6 => ((¬ r_6 = 0 → wp_C_X7_undoSeals LP today legs ftold_6 ffarm_6 ffrom_6 fwhat_6 fon_6 g_farm g_begun g_feedAsked g_sold (fun r_8 g_sealed_8 => Q r_8 ftold_6 ffarm_6 ffrom_6 fwhat_6 fon_6 g_sealed_8) g_sealed) ∧ (r_6 = 0 → Q (-1) ftold_6 ffarm_6 ffrom_6 fwhat_6 fon_6 g_sealed))) ftold ffarm ffrom fwhat fon p0 p1 p2 today) ∧ (r_4 = 0 → bk_C_X7_fed_24 LP today legs g_farm g_begun g_feedAsked g_sold Q X ftold ffarm ffrom fwhat fon g_sealed))) p1 0 2000))) p2 0 3) (fun x_1 => X x_1 ftold ffarm ffrom fwhat fon g_sealed) p0
def rm_C_X7_fed : Room := { frames := 7, cells := 2, slots := 12, locals := 101 }
abbrev pq_C_X7_fed (dC : Nat → ClassId) (dI : Nat → Nat → Nat) (ad : Nat → Nat) (cB cI cZ cL : ClassId) (A : Nat → Prop) (LP : List Nat) (today legCount : Int32) (legs hung : Nat → Option Nat) (warmth damp wopen : Nat → Int32) (tsize : Int32) (bytes : Nat → Int32) (rat rtold rwrong : Int32) (numbers asked : Nat → Int32) (ftold : Int32) (ffarm ffrom fwhat fon : Nat → Int32) (csize ctotal : Int32) (offered : Nat → Option Nat) (cws cwa g_number g_farm g_pig g_first g_begun g_weight g_salted g_heat g_place g_target g_feedAsked g_sealed g_bad g_sold : Nat → Int32) (Q : Int32 → Int32 → (Nat → Int32) → (Nat → Int32) → (Nat → Int32) → (Nat → Int32) → (Nat → Int32) → Prop) : Array Value → State → Outcome → State → Prop := va_Qi (fun (r : Int32) (u : Int32 × (Nat → Int32) × (Nat → Int32) × (Nat → Int32) × (Nat → Int32) × (Nat → Int32)) => Q r u.1 u.2.1 u.2.2.1 u.2.2.2.1 u.2.2.2.2.1 u.2.2.2.2.2) (fun u t => kB dC dI A (wA ad cB cI cZ cL LP today legCount legs hung warmth damp wopen tsize bytes rat rtold rwrong numbers asked u.1 u.2.1 u.2.2.1 u.2.2.2.1 u.2.2.2.2.1 csize ctotal offered cws cwa g_number g_farm g_pig g_first g_begun g_weight g_salted g_heat g_place g_target g_feedAsked u.2.2.2.2.2 g_bad g_sold) (kTy cB cI cZ cL) t) A
abbrev px_C_X7_fed (dC : Nat → ClassId) (dI : Nat → Nat → Nat) (ad : Nat → Nat) (cB cI cZ cL : ClassId) (A : Nat → Prop) (LP : List Nat) (today legCount : Int32) (legs hung : Nat → Option Nat) (warmth damp wopen : Nat → Int32) (tsize : Int32) (bytes : Nat → Int32) (rat rtold rwrong : Int32) (numbers asked : Nat → Int32) (ftold : Int32) (ffarm ffrom fwhat fon : Nat → Int32) (csize ctotal : Int32) (offered : Nat → Option Nat) (cws cwa g_number g_farm g_pig g_first g_begun g_weight g_salted g_heat g_place g_target g_feedAsked g_sealed g_bad g_sold : Nat → Int32) (X : Nat → Int32 → (Nat → Int32) → (Nat → Int32) → (Nat → Int32) → (Nat → Int32) → (Nat → Int32) → Prop) : String → State → State → Prop := vx_X (fun u : Nat × Int32 × (Nat → Int32) × (Nat → Int32) × (Nat → Int32) × (Nat → Int32) × (Nat → Int32) => X u.1 u.2.1 u.2.2.1 u.2.2.2.1 u.2.2.2.2.1 u.2.2.2.2.2.1 u.2.2.2.2.2.2) (fun E u t => E = kEx u.1 ∧ kB dC dI A (wA ad cB cI cZ cL LP today legCount legs hung warmth damp wopen tsize bytes rat rtold rwrong numbers asked u.2.1 u.2.2.1 u.2.2.2.1 u.2.2.2.2.1 u.2.2.2.2.2.1 csize ctotal offered cws cwa g_number g_farm g_pig g_first g_begun g_weight g_salted g_heat g_place g_target g_feedAsked u.2.2.2.2.2.2 g_bad g_sold) (kTy cB cI cZ cL) t) A
set_option maxHeartbeats 4000000 in
set_option maxRecDepth 100000 in
theorem c_C_X7_fed (l : Launch) (hl0 : l.stackTraces = false) (dC : Nat → ClassId) (dI : Nat → Nat → Nat) (ad : Nat → Nat) (cB cI cZ cL : ClassId) (A : Nat → Prop) (LP : List Nat) (today legCount : Int32) (legs hung : Nat → Option Nat) (warmth damp wopen : Nat → Int32) (tsize : Int32) (bytes : Nat → Int32) (rat rtold rwrong : Int32) (numbers asked : Nat → Int32) (ftold : Int32) (ffarm ffrom fwhat fon : Nat → Int32) (csize ctotal : Int32) (offered : Nat → Option Nat) (cws cwa g_number g_farm g_pig g_first g_begun g_weight g_salted g_heat g_place g_target g_feedAsked g_sealed g_bad g_sold : Nat → Int32) (p0 : Int32) (p1 : Int32) (p2 : Int32)  (Q : Int32 → Int32 → (Nat → Int32) → (Nat → Int32) → (Nat → Int32) → (Nat → Int32) → (Nat → Int32) → Prop) (X : Nat → Int32 → (Nat → Int32) → (Nat → Int32) → (Nat → Int32) → (Nat → Int32) → (Nat → Int32) → Prop) (h : wp_C_X7_fed LP today legs g_farm g_begun g_feedAsked g_sold Q X ftold ffarm ffrom fwhat fon g_sealed p0 p1 p2) : vx_Met l yX7_fed wsX7_fed rm_C_X7_fed (va_Pc [.ref (ad 0), .int p0, .int p1, .int p2] (kC dC dI ad A (wA ad cB cI cZ cL LP today legCount legs hung warmth damp wopen tsize bytes rat rtold rwrong numbers asked ftold ffarm ffrom fwhat fon csize ctotal offered cws cwa g_number g_farm g_pig g_first g_begun g_weight g_salted g_heat g_place g_target g_feedAsked g_sealed g_bad g_sold) (kTy cB cI cZ cL))) (pq_C_X7_fed dC dI ad cB cI cZ cL A LP today legCount legs hung warmth damp wopen tsize bytes rat rtold rwrong numbers asked ftold ffarm ffrom fwhat fon csize ctotal offered cws cwa g_number g_farm g_pig g_first g_begun g_weight g_salted g_heat g_place g_target g_feedAsked g_sealed g_bad g_sold Q) (px_C_X7_fed dC dI ad cB cI cZ cL A LP today legCount legs hung warmth damp wopen tsize bytes rat rtold rwrong numbers asked ftold ffarm ffrom fwhat fon csize ctotal offered cws cwa g_number g_farm g_pig g_first g_begun g_weight g_salted g_heat g_place g_target g_feedAsked g_sealed g_bad g_sold X) 2 12 A := by
  refine vx_ofW (cc := cX7_fed) (maxL := 4) (ret := (some .int)) (by decide) rfl ?_
  intro p e s m args below meth c s₁ B hml htb hv
  obtain ⟨rfl, hA, hP, hK, hD, hE⟩ := hv
  have hx := B.exec
  have hb := B.bytes
  have hr := B.returns
  have hts := atoms_spec (ws := wsX7_fed) B.pre
  have hown : s.vm.findClass RX7 = some m.cls := findClass_of_methodNamed B.named
  have hlocks := B.notSynchronized
  have hS : va_S A s.heap s.heap [] := va_S.rf
  have hk_0 := hts (.classLink RX7 85 "java/lang/IllegalArgumentException") (by decide +kernel)
  have hk_1 := hts (.initialized "java/lang/IllegalArgumentException") (by decide +kernel)
  have hk_2 : (∀ w ∈ vx_at0 RX7 87 "java/lang/IllegalArgumentException" ["java/lang/RuntimeException", "java/lang/Exception"], w.before ([.ref (ad 0), .int p0, .int p1, .int p2] : List Value).toArray s = true) ∧ (∀ w ∈ Cond.classLink RX7 85 "java/lang/IllegalArgumentException" :: Cond.initialized "java/lang/IllegalArgumentException" :: vx_at0 RX7 87 "java/lang/IllegalArgumentException" ["java/lang/RuntimeException", "java/lang/Exception"], vx_ot w = true) := ⟨vx_hat (B := [.castable "java/lang/IllegalArgumentException" "java/lang/IllegalArgumentException", .declares ⟨"java/lang/RuntimeException", "<init>", "()V"⟩, .declares ⟨"java/lang/Exception", "<init>", "()V"⟩, .declares ⟨"java/lang/Throwable", "<init>", "()V"⟩]) (fun w hw => hts w ((by decide +kernel : ∀ w ∈ (vx_at0 RX7 87 "java/lang/IllegalArgumentException" ["java/lang/RuntimeException", "java/lang/Exception"]).filter goodWord, w ∈ wsX7_fed) w hw)) (by decide +kernel) (vx_c (va_Nw.use rfl (hE.2.1.2.2.1 "java/lang/IllegalArgumentException" (by decide))) (vx_c (va_Nw.use rfl (hE.2.1.2.2.2 _ (List.mem_of_getElem? (i := 0) rfl))) (vx_c (va_Nw.use rfl (hE.2.1.2.2.2 _ (List.mem_of_getElem? (i := 1) rfl))) (vx_c (va_Nw.use rfl (hE.2.1.2.2.2 _ (List.mem_of_getElem? (i := 2) rfl))) vx_n)))), by decide +kernel⟩
  have hk_3 := hts (.fieldLink RX7 52 "HamCellar" "feeds" "LHamCellar$FeedBook;") (by decide +kernel)
  have hk_4 : ∀ w ∈ wsX70, w ∈ wsX7_fed := by decide +kernel
  have hk_5 := hts (.fieldLink RX7 99 "HamCellar" "today" "I") (by decide +kernel)
  have hbk_C_X7_fed_24 : ∀ (ftold : Int32) (ffarm : Nat → Int32) (ffrom : Nat → Int32) (fwhat : Nat → Int32) (fon : Nat → Int32) (g_sealed : Nat → Int32) (H : Heap) (locs : List Loc) (ls : Array Slot), va_P (dC, dI) vwCl (wA ad cB cI cZ cL LP today legCount legs hung warmth damp wopen tsize bytes rat rtold rwrong numbers asked ftold ffarm ffrom fwhat fon csize ctotal offered cws cwa g_number g_farm g_pig g_first g_begun g_weight g_salted g_heat g_place g_target g_feedAsked g_sealed g_bad g_sold) H → va_D A (wA ad cB cI cZ cL LP today legCount legs hung warmth damp wopen tsize bytes rat rtold rwrong numbers asked ftold ffarm ffrom fwhat fon csize ctotal offered cws cwa g_number g_farm g_pig g_first g_begun g_weight g_salted g_heat g_place g_target g_feedAsked g_sealed g_bad g_sold) → va_S A s.heap H locs → lv_has ls 4 [] → bk_C_X7_fed_24 LP today legs g_farm g_begun g_feedAsked g_sold Q X ftold ffarm ffrom fwhat fon g_sealed → W p l e (headSpec wsX7_fed rm_C_X7_fed).room s m ([.ref (ad 0), .int p0, .int p1, .int p2] : List Value).toArray below meth c H locs 1 6 (vx_MQ below (pq_C_X7_fed dC dI ad cB cI cZ cL A LP today legCount legs hung warmth damp wopen tsize bytes rat rtold rwrong numbers asked ftold ffarm ffrom fwhat fon csize ctotal offered cws cwa g_number g_farm g_pig g_first g_begun g_weight g_salted g_heat g_place g_target g_feedAsked g_sealed g_bad g_sold Q) (px_C_X7_fed dC dI ad cB cI cZ cL A LP today legCount legs hung warmth damp wopen tsize bytes rat rtold rwrong numbers asked ftold ffarm ffrom fwhat fon csize ctotal offered cws cwa g_number g_farm g_pig g_first g_begun g_weight g_salted g_heat g_place g_target g_feedAsked g_sealed g_bad g_sold X) ([.ref (ad 0), .int p0, .int p1, .int p2] : List Value).toArray s 2 12 A) (F0 m 24 ls []) := by
    intro ftold ffarm ffrom fwhat fon g_sealed H locs ls hP hD hS hl h
    exact vx_throw0 (own := RX7) (cls := "java/lang/IllegalArgumentException") (names := ["java/lang/RuntimeException", "java/lang/Exception"]) hx hb hl0 hown (by decide +kernel) (by decide +kernel) hk_0 hk_1 hk_2.1 hk_2.2 hE.1.1 hE.1.2 hS (hl.1.trans hml.symm) dX7_fed_24 dX7_fed_27 dX7_fed_28 dX7_fed_31 (fun x9 hx9 => (htb x9 hx9).elim) (Nat.le_of_ble_eq_true rfl) (Nat.le_of_ble_eq_true rfl) (Nat.le_of_ble_eq_true rfl) (Nat.le_of_ble_eq_true rfl) hlocks (fun t hv9 hz9 hk9 => by obtain ⟨b9, f9⟩ := kX_mk hS hP hK hD hv9 hz9 hk9; exact ⟨(2, ftold, ffarm, ffrom, fwhat, fon, g_sealed), h, ⟨rfl, b9⟩, f9⟩) hS.2.2 (Nat.le_of_ble_eq_true rfl) (Nat.le_of_ble_eq_true rfl)
  have hl := lv_entry ([.ref (ad 0), .int p0, .int p1, .int p2]) (n := 4) (Nat.le_of_ble_eq_true rfl)
  rw [lg_entry_eq]
  generalize (lg_sl ([.ref (ad 0), .int p0, .int p1, .int p2]) ++ List.replicate (4 - (lg_sl ([.ref (ad 0), .int p0, .int p1, .int p2])).length) Slot.unset).toArray = ls at hl ⊢
  have hl : lv_has ls 4 [(0, .ref (ad 0)), (1, .int p0), (2, .int p1), (3, .int p2)] := hl
  unfold wp_C_X7_fed at h
  refine lv_iload_n hx hb dX7_fed_0 rfl (lv_at hl 1 rfl) ?_
  refine vx_callv (vx_runS (As := [.int p0]) (rest := []) ⟨hx, hb, hml, hown, hts⟩ (c_C_X7_needFarm l hl0 dC dI ad cB cI cZ cL A LP today legCount legs hung warmth damp wopen tsize bytes rat rtold rwrong numbers asked ftold ffarm ffrom fwhat fon csize ctotal offered cws cwa g_number g_farm g_pig g_first g_begun g_weight g_salted g_heat g_place g_target g_feedAsked g_sealed g_bad g_sold p0 _ _ h) (va_cwS 1 hts gX7_fed_X7_needFarm rfl rfl rfl (by decide +kernel) ⟨(Nat.le_of_ble_eq_true rfl), (Nat.le_of_ble_eq_true rfl)⟩) ⟨kC_blind, fun U hU hW => ⟨rfl, kC_go hA hS hP hK hD hE U hU hW⟩⟩ rfl rfl hl.1 rfl (lv_room (Nat.le_of_ble_eq_true rfl)) dX7_fed_1 ⟨(Nat.le_of_ble_eq_true rfl), (Nat.le_of_ble_eq_true rfl)⟩) hS (fun q _ h => h) (fun q h => h) (fun q _ h => h) (fun E9 ce9 q9 u t H locs ht hvm hw hB hz1 hk1 hS hce hcv hcl => ?_) (fun u t H locs ht hvm hw hB hz1 hk1 hS => ?_)
  · obtain ⟨x_1, rfl⟩ : ∃ z, z = u := ⟨_, rfl⟩
    obtain ⟨rfl, hB⟩ := hB
    have h := hw
    try dsimp only at h
    have hP : va_P (dC, dI) vwCl (wA ad cB cI cZ cL LP today legCount legs hung warmth damp wopen tsize bytes rat rtold rwrong numbers asked ftold ffarm ffrom fwhat fon csize ctotal offered cws cwa g_number g_farm g_pig g_first g_begun g_weight g_salted g_heat g_place g_target g_feedAsked g_sealed g_bad g_sold) H := by rw [← ht]; exact hB.1
    have hD : va_D A (wA ad cB cI cZ cL LP today legCount legs hung warmth damp wopen tsize bytes rat rtold rwrong numbers asked ftold ffarm ffrom fwhat fon csize ctotal offered cws cwa g_number g_farm g_pig g_first g_begun g_weight g_salted g_heat g_place g_target g_feedAsked g_sealed g_bad g_sold) := hB.2.2
    exact vx_out (fun x9 hx9 => (htb x9 hx9).elim) hlocks hce hcv hcl (fun t ht hv9 => ⟨(x_1, ftold, ffarm, ffrom, fwhat, fon, g_sealed), h, ⟨rfl, kB_mk hP hK hD ht hv9⟩, hS.F ht⟩) hS.2.2 (Nat.le_of_ble_eq_true rfl) (Nat.le_of_ble_eq_true rfl)
  · have h := hw
    try dsimp only at h
    have hP : va_P (dC, dI) vwCl (wA ad cB cI cZ cL LP today legCount legs hung warmth damp wopen tsize bytes rat rtold rwrong numbers asked ftold ffarm ffrom fwhat fon csize ctotal offered cws cwa g_number g_farm g_pig g_first g_begun g_weight g_salted g_heat g_place g_target g_feedAsked g_sealed g_bad g_sold) H := by rw [← ht]; exact hB.1
    have hD : va_D A (wA ad cB cI cZ cL LP today legCount legs hung warmth damp wopen tsize bytes rat rtold rwrong numbers asked ftold ffarm ffrom fwhat fon csize ctotal offered cws cwa g_number g_farm g_pig g_first g_begun g_weight g_salted g_heat g_place g_target g_feedAsked g_sealed g_bad g_sold) := hB.2.2
    refine lv_iload_n hx hb dX7_fed_4 rfl (lv_at hl 3 rfl) ?_
    refine lv_iconst (v := 0) hx hb dX7_fed_5 (by decide) ?_
    refine lv_iconst (v := 3) hx hb dX7_fed_6 (by decide) ?_
    refine va_calli (va_runS (As := [.int p2, .int 0, .int 3]) (rest := []) ⟨hx, hb, hml, hown, hts⟩ (c_C_X7_isWithin l dC dI ad cB cI cZ cL A LP today legCount legs hung warmth damp wopen tsize bytes rat rtold rwrong numbers asked ftold ffarm ffrom fwhat fon csize ctotal offered cws cwa g_number g_farm g_pig g_first g_begun g_weight g_salted g_heat g_place g_target g_feedAsked g_sealed g_bad g_sold p2 0 3 _ h) (va_cwS 3 hts gX7_fed_X7_isWithin rfl rfl rfl (by decide +kernel) ⟨(Nat.le_of_ble_eq_true rfl), (Nat.le_of_ble_eq_true rfl)⟩) ⟨kC_blind, fun U hU hW => ⟨rfl, kC_go hA hS hP hK hD hE U hU hW⟩⟩ rfl rfl hl.1 rfl (lv_room (Nat.le_of_ble_eq_true rfl)) dX7_fed_7 ⟨(Nat.le_of_ble_eq_true rfl), (Nat.le_of_ble_eq_true rfl)⟩) hS (fun q _ h => h) (fun q h => h) (fun r_2 u t H locs ht hvm hw hB hz1 hk1 hS => ?_)
    have h := hw
    try dsimp only at h
    have hP : va_P (dC, dI) vwCl (wA ad cB cI cZ cL LP today legCount legs hung warmth damp wopen tsize bytes rat rtold rwrong numbers asked ftold ffarm ffrom fwhat fon csize ctotal offered cws cwa g_number g_farm g_pig g_first g_begun g_weight g_salted g_heat g_place g_target g_feedAsked g_sealed g_bad g_sold) H := by rw [← ht]; exact hB.1
    have hD : va_D A (wA ad cB cI cZ cL LP today legCount legs hung warmth damp wopen tsize bytes rat rtold rwrong numbers asked ftold ffarm ffrom fwhat fon csize ctotal offered cws cwa g_number g_farm g_pig g_first g_begun g_weight g_salted g_heat g_place g_target g_feedAsked g_sealed g_bad g_sold) := hB.2.2
    refine lv_if_eq (tgt := 24) hx hb dX7_fed_10 (by decide) (fun c_3 => ?_) (fun c_3 => ?_)
    · have h := h.1 c_3
      exact hbk_C_X7_fed_24 ftold ffarm ffrom fwhat fon g_sealed _ _ _ hP hD hS (lv_sub hl [] rfl) h
    · have h := h.2 c_3
      refine lv_iload_n hx hb dX7_fed_13 rfl (lv_at hl 2 rfl) ?_
      refine lv_iconst (v := 0) hx hb dX7_fed_14 (by decide) ?_
      refine lv_sipush (v := 2000) hx hb dX7_fed_15 (by decide) ?_
      refine va_calli (va_runS (As := [.int p1, .int 0, .int 2000]) (rest := []) ⟨hx, hb, hml, hown, hts⟩ (c_C_X7_isWithin l dC dI ad cB cI cZ cL A LP today legCount legs hung warmth damp wopen tsize bytes rat rtold rwrong numbers asked ftold ffarm ffrom fwhat fon csize ctotal offered cws cwa g_number g_farm g_pig g_first g_begun g_weight g_salted g_heat g_place g_target g_feedAsked g_sealed g_bad g_sold p1 0 2000 _ h) (va_cwS 3 hts gX7_fed_X7_isWithin rfl rfl rfl (by decide +kernel) ⟨(Nat.le_of_ble_eq_true rfl), (Nat.le_of_ble_eq_true rfl)⟩) ⟨kC_blind, fun U hU hW => ⟨rfl, kC_go hA hS hP hK hD hE U hU hW⟩⟩ rfl rfl hl.1 rfl (lv_room (Nat.le_of_ble_eq_true rfl)) dX7_fed_18 ⟨(Nat.le_of_ble_eq_true rfl), (Nat.le_of_ble_eq_true rfl)⟩) hS (fun q _ h => h) (fun q h => h) (fun r_4 u t H locs ht hvm hw hB hz1 hk1 hS => ?_)
      have h := hw
      try dsimp only at h
      have hP : va_P (dC, dI) vwCl (wA ad cB cI cZ cL LP today legCount legs hung warmth damp wopen tsize bytes rat rtold rwrong numbers asked ftold ffarm ffrom fwhat fon csize ctotal offered cws cwa g_number g_farm g_pig g_first g_begun g_weight g_salted g_heat g_place g_target g_feedAsked g_sealed g_bad g_sold) H := by rw [← ht]; exact hB.1
      have hD : va_D A (wA ad cB cI cZ cL LP today legCount legs hung warmth damp wopen tsize bytes rat rtold rwrong numbers asked ftold ffarm ffrom fwhat fon csize ctotal offered cws cwa g_number g_farm g_pig g_first g_begun g_weight g_salted g_heat g_place g_target g_feedAsked g_sealed g_bad g_sold) := hB.2.2
      refine lv_if_ne (tgt := 32) hx hb dX7_fed_21 (by decide) (fun c_5 => ?_) (fun c_5 => ?_)
      · have h := h.1 c_5
        refine lv_aload_n hx hb dX7_fed_32 rfl (lv_at hl 0 rfl) ?_
        refine va_get (D := (dC, dI)) (ci := 7) (v := .ref (ad 13)) (C := RX7) (T := TX7) (N := 10) hx hb hts hk_4 hown hK hP 0 wA_g0 rfl 8 (by decide) hk_3 (fun _ h9 => h9) rfl dX7_fed_33 ?_
        refine lv_iload_n hx hb dX7_fed_36 rfl (lv_at hl 1 rfl) ?_
        refine lv_iload_n hx hb dX7_fed_37 rfl (lv_at hl 2 rfl) ?_
        refine lv_iload_n hx hb dX7_fed_38 rfl (lv_at hl 3 rfl) ?_
        refine lv_aload_n hx hb dX7_fed_39 rfl (lv_at hl 0 rfl) ?_
        refine va_get (D := (dC, dI)) (ci := 7) (v := .int today) (C := RX7) (T := TX7) (N := 10) hx hb hts hk_4 hown hK hP 0 wA_g0 rfl 0 (by decide) hk_5 (fun _ h9 => h9) rfl dX7_fed_40 ?_
        refine va_calli (va_runV (As := [.int p0, .int p1, .int p2, .int today]) (rest := []) ⟨hx, hb, hml, hown, hts⟩ (c_C_X1_write l dC dI ad cB cI cZ cL A LP today legCount legs hung warmth damp wopen tsize bytes rat rtold rwrong numbers asked ftold ffarm ffrom fwhat fon csize ctotal offered cws cwa g_number g_farm g_pig g_first g_begun g_weight g_salted g_heat g_place g_target g_feedAsked g_sealed g_bad g_sold p0 p1 p2 today _ h) (cwV 4 hts gX7_fed_X1_write rfl rfl rfl (by decide +kernel) ⟨(Nat.le_of_ble_eq_true rfl), (Nat.le_of_ble_eq_true rfl)⟩) ⟨kC_blind, va_recv hK hP (ci := 1) (q0 := 13) rfl wA_g13, fun U hU hW => ⟨rfl, kC_go hA hS hP hK hD hE U hU hW⟩⟩ rfl rfl hl.1 rfl (lv_room (Nat.le_of_ble_eq_true rfl)) dX7_fed_43 ⟨(Nat.le_of_ble_eq_true rfl), (Nat.le_of_ble_eq_true rfl)⟩) hS (fun q _ h => h) (fun q h => h) (fun r_6 u t H locs ht hvm hw hB hz1 hk1 hS => ?_)
        obtain ⟨ftold_6, ffarm_6, ffrom_6, fwhat_6, fon_6⟩ := u
        have h := hw
        try dsimp only at h
        have hP : va_P (dC, dI) vwCl (wA ad cB cI cZ cL LP today legCount legs hung warmth damp wopen tsize bytes rat rtold rwrong numbers asked ftold_6 ffarm_6 ffrom_6 fwhat_6 fon_6 csize ctotal offered cws cwa g_number g_farm g_pig g_first g_begun g_weight g_salted g_heat g_place g_target g_feedAsked g_sealed g_bad g_sold) H := by rw [← ht]; exact hB.1
        have hD : va_D A (wA ad cB cI cZ cL LP today legCount legs hung warmth damp wopen tsize bytes rat rtold rwrong numbers asked ftold_6 ffarm_6 ffrom_6 fwhat_6 fon_6 csize ctotal offered cws cwa g_number g_farm g_pig g_first g_begun g_weight g_salted g_heat g_place g_target g_feedAsked g_sealed g_bad g_sold) := hB.2.2
        refine lv_if_ne (tgt := 51) hx hb dX7_fed_46 (by decide) (fun c_7 => ?_) (fun c_7 => ?_)
        · have h := h.1 c_7
          refine lv_aload_n hx hb dX7_fed_51 rfl (lv_at hl 0 rfl) ?_
          refine va_calli (va_runV (As := []) (rest := []) ⟨hx, hb, hml, hown, hts⟩ (c_C_X7_undoSeals l dC dI ad cB cI cZ cL A LP today legCount legs hung warmth damp wopen tsize bytes rat rtold rwrong numbers asked ftold_6 ffarm_6 ffrom_6 fwhat_6 fon_6 csize ctotal offered cws cwa g_number g_farm g_pig g_first g_begun g_weight g_salted g_heat g_place g_target g_feedAsked g_sealed g_bad g_sold _ h) (cwV 0 hts gX7_fed_X7_undoSeals rfl rfl rfl (by decide +kernel) ⟨(Nat.le_of_ble_eq_true rfl), (Nat.le_of_ble_eq_true rfl)⟩) ⟨kC_blind, va_recv hK hP (ci := 7) (q0 := 0) rfl wA_g0, fun U hU hW => ⟨rfl, kC_go hA hS hP hK hD hE U hU hW⟩⟩ rfl rfl hl.1 rfl (lv_room (Nat.le_of_ble_eq_true rfl)) dX7_fed_52 ⟨(Nat.le_of_ble_eq_true rfl), (Nat.le_of_ble_eq_true rfl)⟩) hS (fun q _ h => h) (fun q h => h) (fun r_8 u t H locs ht hvm hw hB hz1 hk1 hS => ?_)
          obtain ⟨g_sealed_8, rfl⟩ : ∃ z, z = u := ⟨_, rfl⟩
          have h := hw
          try dsimp only at h
          have hP : va_P (dC, dI) vwCl (wA ad cB cI cZ cL LP today legCount legs hung warmth damp wopen tsize bytes rat rtold rwrong numbers asked ftold_6 ffarm_6 ffrom_6 fwhat_6 fon_6 csize ctotal offered cws cwa g_number g_farm g_pig g_first g_begun g_weight g_salted g_heat g_place g_target g_feedAsked g_sealed_8 g_bad g_sold) H := by rw [← ht]; exact hB.1
          have hD : va_D A (wA ad cB cI cZ cL LP today legCount legs hung warmth damp wopen tsize bytes rat rtold rwrong numbers asked ftold_6 ffarm_6 ffrom_6 fwhat_6 fon_6 csize ctotal offered cws cwa g_number g_farm g_pig g_first g_begun g_weight g_salted g_heat g_place g_target g_feedAsked g_sealed_8 g_bad g_sold) := hB.2.2
          refine W.widen (k := 2) (n := 12) (Nat.le_of_ble_eq_true rfl) (Nat.le_of_ble_eq_true rfl) ?_
          refine vx_ret ?_
          exact W.iret (v := r_8) hx hb hr (fun t ht hW => ⟨⟨r_8, (ftold_6, ffarm_6, ffrom_6, fwhat_6, fon_6, g_sealed_8), rfl, h, kB_mk hP hK hD ht hW.alike⟩, hS.F ht⟩) hS.2.2 dX7_fed_55
        · have h := h.2 c_7
          refine lv_iconst (v := (-1)) hx hb dX7_fed_49 (by decide) ?_
          refine W.widen (k := 2) (n := 12) (Nat.le_of_ble_eq_true rfl) (Nat.le_of_ble_eq_true rfl) ?_
          refine vx_ret ?_
          exact W.iret (v := (-1)) hx hb hr (fun t ht hW => ⟨⟨(-1), (ftold_6, ffarm_6, ffrom_6, fwhat_6, fon_6, g_sealed), rfl, h, kB_mk hP hK hD ht hW.alike⟩, hS.F ht⟩) hS.2.2 dX7_fed_50
      · have h := h.2 c_5
        exact hbk_C_X7_fed_24 ftold ffarm ffrom fwhat fon g_sealed _ _ _ hP hD hS (lv_sub hl [] rfl) h
def wp_C_X7_known (ftold : Int32) (ffarm : Nat → Int32) (ffrom : Nat → Int32) (fwhat : Nat → Int32) (fon : Nat → Int32) (Q : Int32 → Prop) (X : Nat → Prop) (p0 : Int32) (p1 : Int32) (p2 : Int32) : Prop := wp_C_X7_needFarm (wp_C_X1_find ftold ffarm ffrom fwhat fon (fun r_2 => Q r_2) p0 p1 p2) (fun x_1 => X x_1) p0
def rm_C_X7_known : Room := { frames := 7, cells := 1, slots := 6, locals := 101 }
abbrev pq_C_X7_known (dC : Nat → ClassId) (dI : Nat → Nat → Nat) (ad : Nat → Nat) (cB cI cZ cL : ClassId) (A : Nat → Prop) (LP : List Nat) (today legCount : Int32) (legs hung : Nat → Option Nat) (warmth damp wopen : Nat → Int32) (tsize : Int32) (bytes : Nat → Int32) (rat rtold rwrong : Int32) (numbers asked : Nat → Int32) (ftold : Int32) (ffarm ffrom fwhat fon : Nat → Int32) (csize ctotal : Int32) (offered : Nat → Option Nat) (cws cwa g_number g_farm g_pig g_first g_begun g_weight g_salted g_heat g_place g_target g_feedAsked g_sealed g_bad g_sold : Nat → Int32) (Q : Int32 → Prop) : Array Value → State → Outcome → State → Prop := va_Qi (fun (r : Int32) (u : Unit) => Q r ) (fun u t => kB dC dI A (wA ad cB cI cZ cL LP today legCount legs hung warmth damp wopen tsize bytes rat rtold rwrong numbers asked ftold ffarm ffrom fwhat fon csize ctotal offered cws cwa g_number g_farm g_pig g_first g_begun g_weight g_salted g_heat g_place g_target g_feedAsked g_sealed g_bad g_sold) (kTy cB cI cZ cL) t) A
abbrev px_C_X7_known (dC : Nat → ClassId) (dI : Nat → Nat → Nat) (ad : Nat → Nat) (cB cI cZ cL : ClassId) (A : Nat → Prop) (LP : List Nat) (today legCount : Int32) (legs hung : Nat → Option Nat) (warmth damp wopen : Nat → Int32) (tsize : Int32) (bytes : Nat → Int32) (rat rtold rwrong : Int32) (numbers asked : Nat → Int32) (ftold : Int32) (ffarm ffrom fwhat fon : Nat → Int32) (csize ctotal : Int32) (offered : Nat → Option Nat) (cws cwa g_number g_farm g_pig g_first g_begun g_weight g_salted g_heat g_place g_target g_feedAsked g_sealed g_bad g_sold : Nat → Int32) (X : Nat → Prop) : String → State → State → Prop := vx_X (fun u : Nat => X u) (fun E u t => E = kEx u ∧ kB dC dI A (wA ad cB cI cZ cL LP today legCount legs hung warmth damp wopen tsize bytes rat rtold rwrong numbers asked ftold ffarm ffrom fwhat fon csize ctotal offered cws cwa g_number g_farm g_pig g_first g_begun g_weight g_salted g_heat g_place g_target g_feedAsked g_sealed g_bad g_sold) (kTy cB cI cZ cL) t) A
set_option maxHeartbeats 4000000 in
set_option maxRecDepth 100000 in
theorem c_C_X7_known (l : Launch) (hl0 : l.stackTraces = false) (dC : Nat → ClassId) (dI : Nat → Nat → Nat) (ad : Nat → Nat) (cB cI cZ cL : ClassId) (A : Nat → Prop) (LP : List Nat) (today legCount : Int32) (legs hung : Nat → Option Nat) (warmth damp wopen : Nat → Int32) (tsize : Int32) (bytes : Nat → Int32) (rat rtold rwrong : Int32) (numbers asked : Nat → Int32) (ftold : Int32) (ffarm ffrom fwhat fon : Nat → Int32) (csize ctotal : Int32) (offered : Nat → Option Nat) (cws cwa g_number g_farm g_pig g_first g_begun g_weight g_salted g_heat g_place g_target g_feedAsked g_sealed g_bad g_sold : Nat → Int32) (p0 : Int32) (p1 : Int32) (p2 : Int32)  (Q : Int32 → Prop) (X : Nat → Prop) (h : wp_C_X7_known ftold ffarm ffrom fwhat fon Q X p0 p1 p2) : vx_Met l yX7_known wsX7_known rm_C_X7_known (va_Pc [.ref (ad 0), .int p0, .int p1, .int p2] (kC dC dI ad A (wA ad cB cI cZ cL LP today legCount legs hung warmth damp wopen tsize bytes rat rtold rwrong numbers asked ftold ffarm ffrom fwhat fon csize ctotal offered cws cwa g_number g_farm g_pig g_first g_begun g_weight g_salted g_heat g_place g_target g_feedAsked g_sealed g_bad g_sold) (kTy cB cI cZ cL))) (pq_C_X7_known dC dI ad cB cI cZ cL A LP today legCount legs hung warmth damp wopen tsize bytes rat rtold rwrong numbers asked ftold ffarm ffrom fwhat fon csize ctotal offered cws cwa g_number g_farm g_pig g_first g_begun g_weight g_salted g_heat g_place g_target g_feedAsked g_sealed g_bad g_sold Q) (px_C_X7_known dC dI ad cB cI cZ cL A LP today legCount legs hung warmth damp wopen tsize bytes rat rtold rwrong numbers asked ftold ffarm ffrom fwhat fon csize ctotal offered cws cwa g_number g_farm g_pig g_first g_begun g_weight g_salted g_heat g_place g_target g_feedAsked g_sealed g_bad g_sold X) 1 6 A := by
  refine vx_ofW (cc := cX7_known) (maxL := 4) (ret := (some .int)) (by decide) rfl ?_
  intro p e s m args below meth c s₁ B hml htb hv
  obtain ⟨rfl, hA, hP, hK, hD, hE⟩ := hv
  have hx := B.exec
  have hb := B.bytes
  have hr := B.returns
  have hts := atoms_spec (ws := wsX7_known) B.pre
  have hown : s.vm.findClass RX7 = some m.cls := findClass_of_methodNamed B.named
  have hlocks := B.notSynchronized
  have hS : va_S A s.heap s.heap [] := va_S.rf
  have hk_0 := hts (.fieldLink RX7 52 "HamCellar" "feeds" "LHamCellar$FeedBook;") (by decide +kernel)
  have hk_1 : ∀ w ∈ wsX70, w ∈ wsX7_known := by decide +kernel
  have hl := lv_entry ([.ref (ad 0), .int p0, .int p1, .int p2]) (n := 4) (Nat.le_of_ble_eq_true rfl)
  rw [lg_entry_eq]
  generalize (lg_sl ([.ref (ad 0), .int p0, .int p1, .int p2]) ++ List.replicate (4 - (lg_sl ([.ref (ad 0), .int p0, .int p1, .int p2])).length) Slot.unset).toArray = ls at hl ⊢
  have hl : lv_has ls 4 [(0, .ref (ad 0)), (1, .int p0), (2, .int p1), (3, .int p2)] := hl
  unfold wp_C_X7_known at h
  refine lv_iload_n hx hb dX7_known_0 rfl (lv_at hl 1 rfl) ?_
  refine vx_callv (vx_runS (As := [.int p0]) (rest := []) ⟨hx, hb, hml, hown, hts⟩ (c_C_X7_needFarm l hl0 dC dI ad cB cI cZ cL A LP today legCount legs hung warmth damp wopen tsize bytes rat rtold rwrong numbers asked ftold ffarm ffrom fwhat fon csize ctotal offered cws cwa g_number g_farm g_pig g_first g_begun g_weight g_salted g_heat g_place g_target g_feedAsked g_sealed g_bad g_sold p0 _ _ h) (va_cwS 1 hts gX7_known_X7_needFarm rfl rfl rfl (by decide +kernel) ⟨(Nat.le_of_ble_eq_true rfl), (Nat.le_of_ble_eq_true rfl)⟩) ⟨kC_blind, fun U hU hW => ⟨rfl, kC_go hA hS hP hK hD hE U hU hW⟩⟩ rfl rfl hl.1 rfl (lv_room (Nat.le_of_ble_eq_true rfl)) dX7_known_1 ⟨(Nat.le_of_ble_eq_true rfl), (Nat.le_of_ble_eq_true rfl)⟩) hS (fun q _ h => h) (fun q h => h) (fun q _ h => h) (fun E9 ce9 q9 u t H locs ht hvm hw hB hz1 hk1 hS hce hcv hcl => ?_) (fun u t H locs ht hvm hw hB hz1 hk1 hS => ?_)
  · obtain ⟨x_1, rfl⟩ : ∃ z, z = u := ⟨_, rfl⟩
    obtain ⟨rfl, hB⟩ := hB
    have h := hw
    try dsimp only at h
    have hP : va_P (dC, dI) vwCl (wA ad cB cI cZ cL LP today legCount legs hung warmth damp wopen tsize bytes rat rtold rwrong numbers asked ftold ffarm ffrom fwhat fon csize ctotal offered cws cwa g_number g_farm g_pig g_first g_begun g_weight g_salted g_heat g_place g_target g_feedAsked g_sealed g_bad g_sold) H := by rw [← ht]; exact hB.1
    have hD : va_D A (wA ad cB cI cZ cL LP today legCount legs hung warmth damp wopen tsize bytes rat rtold rwrong numbers asked ftold ffarm ffrom fwhat fon csize ctotal offered cws cwa g_number g_farm g_pig g_first g_begun g_weight g_salted g_heat g_place g_target g_feedAsked g_sealed g_bad g_sold) := hB.2.2
    exact vx_out (fun x9 hx9 => (htb x9 hx9).elim) hlocks hce hcv hcl (fun t ht hv9 => ⟨(x_1), h, ⟨rfl, kB_mk hP hK hD ht hv9⟩, hS.F ht⟩) hS.2.2 (Nat.le_of_ble_eq_true rfl) (Nat.le_of_ble_eq_true rfl)
  · have h := hw
    try dsimp only at h
    have hP : va_P (dC, dI) vwCl (wA ad cB cI cZ cL LP today legCount legs hung warmth damp wopen tsize bytes rat rtold rwrong numbers asked ftold ffarm ffrom fwhat fon csize ctotal offered cws cwa g_number g_farm g_pig g_first g_begun g_weight g_salted g_heat g_place g_target g_feedAsked g_sealed g_bad g_sold) H := by rw [← ht]; exact hB.1
    have hD : va_D A (wA ad cB cI cZ cL LP today legCount legs hung warmth damp wopen tsize bytes rat rtold rwrong numbers asked ftold ffarm ffrom fwhat fon csize ctotal offered cws cwa g_number g_farm g_pig g_first g_begun g_weight g_salted g_heat g_place g_target g_feedAsked g_sealed g_bad g_sold) := hB.2.2
    refine lv_aload_n hx hb dX7_known_4 rfl (lv_at hl 0 rfl) ?_
    refine va_get (D := (dC, dI)) (ci := 7) (v := .ref (ad 13)) (C := RX7) (T := TX7) (N := 10) hx hb hts hk_1 hown hK hP 0 wA_g0 rfl 8 (by decide) hk_0 (fun _ h9 => h9) rfl dX7_known_5 ?_
    refine lv_iload_n hx hb dX7_known_8 rfl (lv_at hl 1 rfl) ?_
    refine lv_iload_n hx hb dX7_known_9 rfl (lv_at hl 2 rfl) ?_
    refine lv_iload_n hx hb dX7_known_10 rfl (lv_at hl 3 rfl) ?_
    refine va_calli (va_runV (As := [.int p0, .int p1, .int p2]) (rest := []) ⟨hx, hb, hml, hown, hts⟩ (c_C_X1_find l dC dI ad cB cI cZ cL A LP today legCount legs hung warmth damp wopen tsize bytes rat rtold rwrong numbers asked ftold ffarm ffrom fwhat fon csize ctotal offered cws cwa g_number g_farm g_pig g_first g_begun g_weight g_salted g_heat g_place g_target g_feedAsked g_sealed g_bad g_sold p0 p1 p2 _ h) (cwV 3 hts gX7_known_X1_find rfl rfl rfl (by decide +kernel) ⟨(Nat.le_of_ble_eq_true rfl), (Nat.le_of_ble_eq_true rfl)⟩) ⟨kC_blind, va_recv hK hP (ci := 1) (q0 := 13) rfl wA_g13, fun U hU hW => ⟨rfl, kC_go hA hS hP hK hD hE U hU hW⟩⟩ rfl rfl hl.1 rfl (lv_room (Nat.le_of_ble_eq_true rfl)) dX7_known_11 ⟨(Nat.le_of_ble_eq_true rfl), (Nat.le_of_ble_eq_true rfl)⟩) hS (fun q _ h => h) (fun q h => h) (fun r_2 u t H locs ht hvm hw hB hz1 hk1 hS => ?_)
    have h := hw
    try dsimp only at h
    have hP : va_P (dC, dI) vwCl (wA ad cB cI cZ cL LP today legCount legs hung warmth damp wopen tsize bytes rat rtold rwrong numbers asked ftold ffarm ffrom fwhat fon csize ctotal offered cws cwa g_number g_farm g_pig g_first g_begun g_weight g_salted g_heat g_place g_target g_feedAsked g_sealed g_bad g_sold) H := by rw [← ht]; exact hB.1
    have hD : va_D A (wA ad cB cI cZ cL LP today legCount legs hung warmth damp wopen tsize bytes rat rtold rwrong numbers asked ftold ffarm ffrom fwhat fon csize ctotal offered cws cwa g_number g_farm g_pig g_first g_begun g_weight g_salted g_heat g_place g_target g_feedAsked g_sealed g_bad g_sold) := hB.2.2
    refine vx_ret ?_
    exact W.iret (v := r_2) hx hb hr (fun t ht hW => ⟨⟨r_2, (), rfl, h, kB_mk hP hK hD ht hW.alike⟩, hS.F ht⟩) hS.2.2 dX7_known_14
def wp_C_X7_askedOf (asked : Nat → Int32) (Q : Int32 → Prop) (p0 : Int32) : Prop := ((p0 < 0 → Q 0) ∧ (¬ (p0 < 0) → ((5 ≤ p0 → Q 0) ∧ (¬ (5 ≤ p0) → (vp_in p0 5 ∧ Q (asked p0.toNatClampNeg))))))
def rm_C_X7_askedOf : Room := { frames := 0, cells := 0, slots := 0, locals := 0 }
abbrev pq_C_X7_askedOf (dC : Nat → ClassId) (dI : Nat → Nat → Nat) (ad : Nat → Nat) (cB cI cZ cL : ClassId) (A : Nat → Prop) (LP : List Nat) (today legCount : Int32) (legs hung : Nat → Option Nat) (warmth damp wopen : Nat → Int32) (tsize : Int32) (bytes : Nat → Int32) (rat rtold rwrong : Int32) (numbers asked : Nat → Int32) (ftold : Int32) (ffarm ffrom fwhat fon : Nat → Int32) (csize ctotal : Int32) (offered : Nat → Option Nat) (cws cwa g_number g_farm g_pig g_first g_begun g_weight g_salted g_heat g_place g_target g_feedAsked g_sealed g_bad g_sold : Nat → Int32) (Q : Int32 → Prop) : Array Value → State → Outcome → State → Prop := va_Qi (fun (r : Int32) (u : Unit) => Q r ) (fun u t => kB dC dI A (wA ad cB cI cZ cL LP today legCount legs hung warmth damp wopen tsize bytes rat rtold rwrong numbers asked ftold ffarm ffrom fwhat fon csize ctotal offered cws cwa g_number g_farm g_pig g_first g_begun g_weight g_salted g_heat g_place g_target g_feedAsked g_sealed g_bad g_sold) (kTy cB cI cZ cL) t) A
set_option maxHeartbeats 4000000 in
set_option maxRecDepth 100000 in
theorem c_C_X7_askedOf (l : Launch) (dC : Nat → ClassId) (dI : Nat → Nat → Nat) (ad : Nat → Nat) (cB cI cZ cL : ClassId) (A : Nat → Prop) (LP : List Nat) (today legCount : Int32) (legs hung : Nat → Option Nat) (warmth damp wopen : Nat → Int32) (tsize : Int32) (bytes : Nat → Int32) (rat rtold rwrong : Int32) (numbers asked : Nat → Int32) (ftold : Int32) (ffarm ffrom fwhat fon : Nat → Int32) (csize ctotal : Int32) (offered : Nat → Option Nat) (cws cwa g_number g_farm g_pig g_first g_begun g_weight g_salted g_heat g_place g_target g_feedAsked g_sealed g_bad g_sold : Nat → Int32) (p0 : Int32)  (Q : Int32 → Prop) (h : wp_C_X7_askedOf asked Q p0) : Met l yX7_askedOf wsX7_askedOf rm_C_X7_askedOf (va_Pc [.ref (ad 0), .int p0] (kC dC dI ad A (wA ad cB cI cZ cL LP today legCount legs hung warmth damp wopen tsize bytes rat rtold rwrong numbers asked ftold ffarm ffrom fwhat fon csize ctotal offered cws cwa g_number g_farm g_pig g_first g_begun g_weight g_salted g_heat g_place g_target g_feedAsked g_sealed g_bad g_sold) (kTy cB cI cZ cL))) (pq_C_X7_askedOf dC dI ad cB cI cZ cL A LP today legCount legs hung warmth damp wopen tsize bytes rat rtold rwrong numbers asked ftold ffarm ffrom fwhat fon csize ctotal offered cws cwa g_number g_farm g_pig g_first g_begun g_weight g_salted g_heat g_place g_target g_feedAsked g_sealed g_bad g_sold Q) 0 0 A := by
  refine Met.ofW (cc := cX7_askedOf) (maxL := 2) (ret := (some .int)) (by decide) rfl ?_
  intro p e s m args below meth c s₁ B hml hv
  obtain ⟨rfl, hA, hP, hK, hD, hE⟩ := hv
  have hx := B.exec
  have hb := B.bytes
  have hr := B.returns
  have hts := atoms_spec (ws := wsX7_askedOf) B.pre
  have hown : s.vm.findClass RX7 = some m.cls := findClass_of_methodNamed B.named
  have hlocks := B.notSynchronized
  have hS : va_S A s.heap s.heap [] := va_S.rf
  have hk_0 := hts (.fieldLink RX7 45 "HamCellar" "asked" "[I") (by decide +kernel)
  have hk_1 : ∀ w ∈ wsX70, w ∈ wsX7_askedOf := by decide +kernel
  have hl := lv_entry ([.ref (ad 0), .int p0]) (n := 2) (Nat.le_of_ble_eq_true rfl)
  rw [lg_entry_eq]
  generalize (lg_sl ([.ref (ad 0), .int p0]) ++ List.replicate (2 - (lg_sl ([.ref (ad 0), .int p0])).length) Slot.unset).toArray = ls at hl ⊢
  have hl : lv_has ls 2 [(0, .ref (ad 0)), (1, .int p0)] := hl
  unfold wp_C_X7_askedOf at h
  refine lv_iload_n hx hb dX7_askedOf_0 rfl (lv_at hl 1 rfl) ?_
  refine lv_if_lt (tgt := 22) hx hb dX7_askedOf_1 (by decide) (fun c_1 => ?_) (fun c_1 => ?_)
  · have h := h.1 c_1
    refine lv_iconst (v := 0) hx hb dX7_askedOf_22 (by decide) ?_
    exact W.iret (v := 0) hx hb hr (fun t ht hW => ⟨⟨0, (), rfl, h, kB_mk hP hK hD ht hW.alike⟩, hS.F ht⟩) hS.2.2 dX7_askedOf_23
  · have h := h.2 c_1
    refine lv_iload_n hx hb dX7_askedOf_4 rfl (lv_at hl 1 rfl) ?_
    refine lv_aload_n hx hb dX7_askedOf_5 rfl (lv_at hl 0 rfl) ?_
    refine va_get (D := (dC, dI)) (ci := 7) (v := .ref (ad 12)) (C := RX7) (T := TX7) (N := 10) hx hb hts hk_1 hown hK hP 0 wA_g0 rfl 7 (by decide) hk_0 (fun _ h9 => h9) rfl dX7_askedOf_6 ?_
    refine va_alen hx hb hK hP 12 1 wA_g12 rfl (v := 5) rfl dX7_askedOf_9 ?_
    refine lv_icmp_ge (tgt := 22) hx hb dX7_askedOf_10 (by decide) (fun c_2 => ?_) (fun c_2 => ?_)
    · have h := h.1 c_2
      refine lv_iconst (v := 0) hx hb dX7_askedOf_22 (by decide) ?_
      exact W.iret (v := 0) hx hb hr (fun t ht hW => ⟨⟨0, (), rfl, h, kB_mk hP hK hD ht hW.alike⟩, hS.F ht⟩) hS.2.2 dX7_askedOf_23
    · have h := h.2 c_2
      refine lv_aload_n hx hb dX7_askedOf_13 rfl (lv_at hl 0 rfl) ?_
      refine va_get (D := (dC, dI)) (ci := 7) (v := .ref (ad 12)) (C := RX7) (T := TX7) (N := 10) hx hb hts hk_1 hown hK hP 0 wA_g0 rfl 7 (by decide) hk_0 (fun _ h9 => h9) rfl dX7_askedOf_14 ?_
      refine lv_iload_n hx hb dX7_askedOf_17 rfl (lv_at hl 1 rfl) ?_
      have hi_3 := h.1
      have h := h.2
      refine va_iald hx hb hK hP 12 1 wA_g12 rfl hi_3 dX7_askedOf_18 ?_
      refine lv_goto (tgt := 23) hx hb dX7_askedOf_19 (by decide) ?_
      exact W.iret (v := asked p0.toNatClampNeg) hx hb hr (fun t ht hW => ⟨⟨asked p0.toNatClampNeg, (), rfl, h, kB_mk hP hK hD ht hW.alike⟩, hS.F ht⟩) hS.2.2 dX7_askedOf_23
def wp_C_X7_whatIsAgainst (LP : List Nat) (today : Int32) (asked : Nat → Int32) (ftold : Int32) (ffarm : Nat → Int32) (ffrom : Nat → Int32) (fwhat : Nat → Int32) (fon : Nat → Int32) (g_farm : Nat → Int32) (g_first : Nat → Int32) (g_begun : Nat → Int32) (g_weight : Nat → Int32) (g_salted : Nat → Int32) (g_sealed : Nat → Int32) (g_bad : Nat → Int32) (g_sold : Nat → Int32) (Q : Int32 → Prop) (p0 : Nat) : Prop := (((g_sold p0) = 0 → (((g_sealed p0) = 0 → (((g_bad p0) = 0 → wp_C_X7_askedOf asked (fun r_8 => ((r_8 ≤ (today - (g_begun p0)) → wp_C_X7_askedOf asked (fun r_10 => wp_C_X3_hasLost LP g_first g_weight (fun r_11 => ((¬ r_11 = 0 → wp_C_X7_askedOf asked (fun r_15 => ((r_15 ≤ (g_salted p0) → wp_C_X7_askedOf asked (fun r_17 => wp_C_X7_isFeedAgainst LP today ftold ffarm ffrom fwhat fon g_farm g_begun (fun r_18 => ((r_18 = 0 → wp_C_X7_askedOf asked (fun r_21 => ((r_21 ≤ (g_weight p0) → Q 0) ∧ (¬ (r_21 ≤ (g_weight p0)) → Q 8))) 4) ∧ (¬ (r_18 = 0) → Q 7))) p0 r_17) 3) ∧ (¬ (r_15 ≤ (g_salted p0)) → Q 6))) 2) ∧ (r_11 = 0 → Q 5))) p0 r_10) 1) ∧ (¬ (r_8 ≤ (today - (g_begun p0))) → Q 4))) 0) ∧ (¬ ((g_bad p0) = 0) → Q 3))) ∧ (¬ ((g_sealed p0) = 0) → Q 2))) ∧ (¬ ((g_sold p0) = 0) → Q 1))
def rm_C_X7_whatIsAgainst : Room := { frames := 2, cells := 0, slots := 0, locals := 49 }
abbrev pq_C_X7_whatIsAgainst (dC : Nat → ClassId) (dI : Nat → Nat → Nat) (ad : Nat → Nat) (cB cI cZ cL : ClassId) (A : Nat → Prop) (LP : List Nat) (today legCount : Int32) (legs hung : Nat → Option Nat) (warmth damp wopen : Nat → Int32) (tsize : Int32) (bytes : Nat → Int32) (rat rtold rwrong : Int32) (numbers asked : Nat → Int32) (ftold : Int32) (ffarm ffrom fwhat fon : Nat → Int32) (csize ctotal : Int32) (offered : Nat → Option Nat) (cws cwa g_number g_farm g_pig g_first g_begun g_weight g_salted g_heat g_place g_target g_feedAsked g_sealed g_bad g_sold : Nat → Int32) (Q : Int32 → Prop) : Array Value → State → Outcome → State → Prop := va_Qi (fun (r : Int32) (u : Unit) => Q r ) (fun u t => kB dC dI A (wA ad cB cI cZ cL LP today legCount legs hung warmth damp wopen tsize bytes rat rtold rwrong numbers asked ftold ffarm ffrom fwhat fon csize ctotal offered cws cwa g_number g_farm g_pig g_first g_begun g_weight g_salted g_heat g_place g_target g_feedAsked g_sealed g_bad g_sold) (kTy cB cI cZ cL) t) A
set_option maxHeartbeats 4000000 in
set_option maxRecDepth 100000 in
theorem c_C_X7_whatIsAgainst (l : Launch) (dC : Nat → ClassId) (dI : Nat → Nat → Nat) (ad : Nat → Nat) (cB cI cZ cL : ClassId) (A : Nat → Prop) (LP : List Nat) (today legCount : Int32) (legs hung : Nat → Option Nat) (warmth damp wopen : Nat → Int32) (tsize : Int32) (bytes : Nat → Int32) (rat rtold rwrong : Int32) (numbers asked : Nat → Int32) (ftold : Int32) (ffarm ffrom fwhat fon : Nat → Int32) (csize ctotal : Int32) (offered : Nat → Option Nat) (cws cwa g_number g_farm g_pig g_first g_begun g_weight g_salted g_heat g_place g_target g_feedAsked g_sealed g_bad g_sold : Nat → Int32) (p0 : Nat) (hy_p0 : p0 ∈ LP) (Q : Int32 → Prop) (h : wp_C_X7_whatIsAgainst LP today asked ftold ffarm ffrom fwhat fon g_farm g_first g_begun g_weight g_salted g_sealed g_bad g_sold Q p0) : Met l yX7_whatIsAgainst wsX7_whatIsAgainst rm_C_X7_whatIsAgainst (va_Pc [.ref (ad 0), .ref p0] (kC dC dI ad A (wA ad cB cI cZ cL LP today legCount legs hung warmth damp wopen tsize bytes rat rtold rwrong numbers asked ftold ffarm ffrom fwhat fon csize ctotal offered cws cwa g_number g_farm g_pig g_first g_begun g_weight g_salted g_heat g_place g_target g_feedAsked g_sealed g_bad g_sold) (kTy cB cI cZ cL))) (pq_C_X7_whatIsAgainst dC dI ad cB cI cZ cL A LP today legCount legs hung warmth damp wopen tsize bytes rat rtold rwrong numbers asked ftold ffarm ffrom fwhat fon csize ctotal offered cws cwa g_number g_farm g_pig g_first g_begun g_weight g_salted g_heat g_place g_target g_feedAsked g_sealed g_bad g_sold Q) 0 0 A := by
  refine Met.ofW (cc := cX7_whatIsAgainst) (maxL := 2) (ret := (some .int)) (by decide) rfl ?_
  intro p e s m args below meth c s₁ B hml hv
  obtain ⟨rfl, hA, hP, hK, hD, hE⟩ := hv
  have hx := B.exec
  have hb := B.bytes
  have hr := B.returns
  have hts := atoms_spec (ws := wsX7_whatIsAgainst) B.pre
  have hown : s.vm.findClass RX7 = some m.cls := findClass_of_methodNamed B.named
  have hlocks := B.notSynchronized
  have hS : va_S A s.heap s.heap [] := va_S.rf
  have hk_0n := hE.2.1.1 ("HamCellar", 113, "HamCellar$Leg", "sold", "Z", "HamCellar") (by decide +kernel)
  have hk_0 : (Cond.fieldLinkNest "HamCellar" 113 "HamCellar$Leg" "sold" "Z" "HamCellar").before ([.ref (ad 0), .ref p0] : List Value).toArray s = true := va_Nw.use rfl hk_0n
  have hk_1 : ∀ w ∈ wsX30, w ∈ wsX7_whatIsAgainst := by decide +kernel
  have hk_2n := hE.2.1.1 ("HamCellar", 175, "HamCellar$Leg", "sealed", "Z", "HamCellar") (by decide +kernel)
  have hk_2 : (Cond.fieldLinkNest "HamCellar" 175 "HamCellar$Leg" "sealed" "Z" "HamCellar").before ([.ref (ad 0), .ref p0] : List Value).toArray s = true := va_Nw.use rfl hk_2n
  have hk_3n := hE.2.1.1 ("HamCellar", 206, "HamCellar$Leg", "bad", "Z", "HamCellar") (by decide +kernel)
  have hk_3 : (Cond.fieldLinkNest "HamCellar" 206 "HamCellar$Leg" "bad" "Z" "HamCellar").before ([.ref (ad 0), .ref p0] : List Value).toArray s = true := va_Nw.use rfl hk_3n
  have hk_4 := hts (.fieldLink RX7 99 "HamCellar" "today" "I") (by decide +kernel)
  have hk_5 : ∀ w ∈ wsX70, w ∈ wsX7_whatIsAgainst := by decide +kernel
  have hk_6n := hE.2.1.1 ("HamCellar", 215, "HamCellar$Leg", "begun", "I", "HamCellar") (by decide +kernel)
  have hk_6 : (Cond.fieldLinkNest "HamCellar" 215 "HamCellar$Leg" "begun" "I" "HamCellar").before ([.ref (ad 0), .ref p0] : List Value).toArray s = true := va_Nw.use rfl hk_6n
  have hk_7n := hE.2.1.1 ("HamCellar", 190, "HamCellar$Leg", "salted", "I", "HamCellar") (by decide +kernel)
  have hk_7 : (Cond.fieldLinkNest "HamCellar" 190 "HamCellar$Leg" "salted" "I" "HamCellar").before ([.ref (ad 0), .ref p0] : List Value).toArray s = true := va_Nw.use rfl hk_7n
  have hk_8n := hE.2.1.1 ("HamCellar", 184, "HamCellar$Leg", "weight", "I", "HamCellar") (by decide +kernel)
  have hk_8 : (Cond.fieldLinkNest "HamCellar" 184 "HamCellar$Leg" "weight" "I" "HamCellar").before ([.ref (ad 0), .ref p0] : List Value).toArray s = true := va_Nw.use rfl hk_8n
  have hl := lv_entry ([.ref (ad 0), .ref p0]) (n := 2) (Nat.le_of_ble_eq_true rfl)
  rw [lg_entry_eq]
  generalize (lg_sl ([.ref (ad 0), .ref p0]) ++ List.replicate (2 - (lg_sl ([.ref (ad 0), .ref p0])).length) Slot.unset).toArray = ls at hl ⊢
  have hl : lv_has ls 2 [(0, .ref (ad 0)), (1, .ref p0)] := hl
  unfold wp_C_X7_whatIsAgainst at h
  refine lv_aload_n hx hb dX7_whatIsAgainst_0 rfl (lv_at hl 1 rfl) ?_
  obtain ⟨k_1, hg_k_1⟩ := wA_leg hy_p0
  refine va_getN (D := (dC, dI)) (ci := 3) (v := .int (g_sold p0)) (C := RX3) (T := TX3) (N := 14) hx hb hts hk_1 hown hK hP k_1 hg_k_1 rfl 13 (by decide) hk_0 (fun _ h9 => h9) rfl dX7_whatIsAgainst_1 ?_
  refine lv_if_eq (tgt := 9) hx hb dX7_whatIsAgainst_4 (by decide) (fun c_2 => ?_) (fun c_2 => ?_)
  · have h := h.1 c_2
    refine lv_aload_n hx hb dX7_whatIsAgainst_9 rfl (lv_at hl 1 rfl) ?_
    obtain ⟨k_3, hg_k_3⟩ := wA_leg hy_p0
    refine va_getN (D := (dC, dI)) (ci := 3) (v := .int (g_sealed p0)) (C := RX3) (T := TX3) (N := 14) hx hb hts hk_1 hown hK hP k_3 hg_k_3 rfl 11 (by decide) hk_2 (fun _ h9 => h9) rfl dX7_whatIsAgainst_10 ?_
    refine lv_if_eq (tgt := 18) hx hb dX7_whatIsAgainst_13 (by decide) (fun c_4 => ?_) (fun c_4 => ?_)
    · have h := h.1 c_4
      refine lv_aload_n hx hb dX7_whatIsAgainst_18 rfl (lv_at hl 1 rfl) ?_
      obtain ⟨k_5, hg_k_5⟩ := wA_leg hy_p0
      refine va_getN (D := (dC, dI)) (ci := 3) (v := .int (g_bad p0)) (C := RX3) (T := TX3) (N := 14) hx hb hts hk_1 hown hK hP k_5 hg_k_5 rfl 12 (by decide) hk_3 (fun _ h9 => h9) rfl dX7_whatIsAgainst_19 ?_
      refine lv_if_eq (tgt := 27) hx hb dX7_whatIsAgainst_22 (by decide) (fun c_6 => ?_) (fun c_6 => ?_)
      · have h := h.1 c_6
        refine lv_aload_n hx hb dX7_whatIsAgainst_27 rfl (lv_at hl 0 rfl) ?_
        refine va_get (D := (dC, dI)) (ci := 7) (v := .int today) (C := RX7) (T := TX7) (N := 10) hx hb hts hk_5 hown hK hP 0 wA_g0 rfl 0 (by decide) hk_4 (fun _ h9 => h9) rfl dX7_whatIsAgainst_28 ?_
        refine lv_aload_n hx hb dX7_whatIsAgainst_31 rfl (lv_at hl 1 rfl) ?_
        obtain ⟨k_7, hg_k_7⟩ := wA_leg hy_p0
        refine va_getN (D := (dC, dI)) (ci := 3) (v := .int (g_begun p0)) (C := RX3) (T := TX3) (N := 14) hx hb hts hk_1 hown hK hP k_7 hg_k_7 rfl 4 (by decide) hk_6 (fun _ h9 => h9) rfl dX7_whatIsAgainst_32 ?_
        refine lv_isub hx hb dX7_whatIsAgainst_35 ?_
        refine lv_aload_n hx hb dX7_whatIsAgainst_36 rfl (lv_at hl 0 rfl) ?_
        refine lv_iconst (v := 0) hx hb dX7_whatIsAgainst_37 (by decide) ?_
        refine va_calli (va_runV (As := [.int 0]) (rest := [.int (today - (g_begun p0))]) ⟨hx, hb, hml, hown, hts⟩ (c_C_X7_askedOf l dC dI ad cB cI cZ cL A LP today legCount legs hung warmth damp wopen tsize bytes rat rtold rwrong numbers asked ftold ffarm ffrom fwhat fon csize ctotal offered cws cwa g_number g_farm g_pig g_first g_begun g_weight g_salted g_heat g_place g_target g_feedAsked g_sealed g_bad g_sold 0 _ h) (cwV 1 hts gX7_whatIsAgainst_X7_askedOf rfl rfl rfl (by decide +kernel) ⟨(Nat.le_of_ble_eq_true rfl), (Nat.le_of_ble_eq_true rfl)⟩) ⟨kC_blind, va_recv hK hP (ci := 7) (q0 := 0) rfl wA_g0, fun U hU hW => ⟨rfl, kC_go hA hS hP hK hD hE U hU hW⟩⟩ rfl rfl hl.1 rfl (lv_room (Nat.le_of_ble_eq_true rfl)) dX7_whatIsAgainst_38 ⟨(Nat.le_of_ble_eq_true rfl), (Nat.le_of_ble_eq_true rfl)⟩) hS (fun q _ h => h) (fun q h => h) (fun r_8 u t H locs ht hvm hw hB hz1 hk1 hS => ?_)
        have h := hw
        try dsimp only at h
        have hP : va_P (dC, dI) vwCl (wA ad cB cI cZ cL LP today legCount legs hung warmth damp wopen tsize bytes rat rtold rwrong numbers asked ftold ffarm ffrom fwhat fon csize ctotal offered cws cwa g_number g_farm g_pig g_first g_begun g_weight g_salted g_heat g_place g_target g_feedAsked g_sealed g_bad g_sold) H := by rw [← ht]; exact hB.1
        have hD : va_D A (wA ad cB cI cZ cL LP today legCount legs hung warmth damp wopen tsize bytes rat rtold rwrong numbers asked ftold ffarm ffrom fwhat fon csize ctotal offered cws cwa g_number g_farm g_pig g_first g_begun g_weight g_salted g_heat g_place g_target g_feedAsked g_sealed g_bad g_sold) := hB.2.2
        refine lv_icmp_ge (tgt := 46) hx hb dX7_whatIsAgainst_41 (by decide) (fun c_9 => ?_) (fun c_9 => ?_)
        · have h := h.1 c_9
          refine lv_aload_n hx hb dX7_whatIsAgainst_46 rfl (lv_at hl 1 rfl) ?_
          refine lv_aload_n hx hb dX7_whatIsAgainst_47 rfl (lv_at hl 0 rfl) ?_
          refine lv_iconst (v := 1) hx hb dX7_whatIsAgainst_48 (by decide) ?_
          refine va_calli (va_runV (As := [.int 1]) (rest := [.ref p0]) ⟨hx, hb, hml, hown, hts⟩ (c_C_X7_askedOf l dC dI ad cB cI cZ cL A LP today legCount legs hung warmth damp wopen tsize bytes rat rtold rwrong numbers asked ftold ffarm ffrom fwhat fon csize ctotal offered cws cwa g_number g_farm g_pig g_first g_begun g_weight g_salted g_heat g_place g_target g_feedAsked g_sealed g_bad g_sold 1 _ h) (cwV 1 hts gX7_whatIsAgainst_X7_askedOf rfl rfl rfl (by decide +kernel) ⟨(Nat.le_of_ble_eq_true rfl), (Nat.le_of_ble_eq_true rfl)⟩) ⟨kC_blind, va_recv hK hP (ci := 7) (q0 := 0) rfl wA_g0, fun U hU hW => ⟨rfl, kC_go hA hS hP hK hD hE U hU hW⟩⟩ rfl rfl hl.1 rfl (lv_room (Nat.le_of_ble_eq_true rfl)) dX7_whatIsAgainst_49 ⟨(Nat.le_of_ble_eq_true rfl), (Nat.le_of_ble_eq_true rfl)⟩) hS (fun q _ h => h) (fun q h => h) (fun r_10 u t H locs ht hvm hw hB hz1 hk1 hS => ?_)
          have h := hw
          try dsimp only at h
          have hP : va_P (dC, dI) vwCl (wA ad cB cI cZ cL LP today legCount legs hung warmth damp wopen tsize bytes rat rtold rwrong numbers asked ftold ffarm ffrom fwhat fon csize ctotal offered cws cwa g_number g_farm g_pig g_first g_begun g_weight g_salted g_heat g_place g_target g_feedAsked g_sealed g_bad g_sold) H := by rw [← ht]; exact hB.1
          have hD : va_D A (wA ad cB cI cZ cL LP today legCount legs hung warmth damp wopen tsize bytes rat rtold rwrong numbers asked ftold ffarm ffrom fwhat fon csize ctotal offered cws cwa g_number g_farm g_pig g_first g_begun g_weight g_salted g_heat g_place g_target g_feedAsked g_sealed g_bad g_sold) := hB.2.2
          obtain ⟨k_12, hg_k_12⟩ := wA_leg hy_p0
          refine va_calli (va_runV (As := [.int r_10]) (rest := []) ⟨hx, hb, hml, hown, hts⟩ (c_C_X3_hasLost l dC dI ad cB cI cZ cL A LP today legCount legs hung warmth damp wopen tsize bytes rat rtold rwrong numbers asked ftold ffarm ffrom fwhat fon csize ctotal offered cws cwa g_number g_farm g_pig g_first g_begun g_weight g_salted g_heat g_place g_target g_feedAsked g_sealed g_bad g_sold p0 r_10 hy_p0 _ h) (cwV 1 hts gX7_whatIsAgainst_X3_hasLost rfl rfl rfl (by decide +kernel) ⟨(Nat.le_of_ble_eq_true rfl), (Nat.le_of_ble_eq_true rfl)⟩) ⟨kC_blind, va_recv hK hP (ci := 3) (q0 := k_12) rfl hg_k_12, fun U hU hW => ⟨rfl, kC_go hA hS hP hK hD hE U hU hW⟩⟩ rfl rfl hl.1 rfl (lv_room (Nat.le_of_ble_eq_true rfl)) dX7_whatIsAgainst_52 ⟨(Nat.le_of_ble_eq_true rfl), (Nat.le_of_ble_eq_true rfl)⟩) hS (fun q _ h => h) (fun q h => h) (fun r_11 u t H locs ht hvm hw hB hz1 hk1 hS => ?_)
          have h := hw
          try dsimp only at h
          have hP : va_P (dC, dI) vwCl (wA ad cB cI cZ cL LP today legCount legs hung warmth damp wopen tsize bytes rat rtold rwrong numbers asked ftold ffarm ffrom fwhat fon csize ctotal offered cws cwa g_number g_farm g_pig g_first g_begun g_weight g_salted g_heat g_place g_target g_feedAsked g_sealed g_bad g_sold) H := by rw [← ht]; exact hB.1
          have hD : va_D A (wA ad cB cI cZ cL LP today legCount legs hung warmth damp wopen tsize bytes rat rtold rwrong numbers asked ftold ffarm ffrom fwhat fon csize ctotal offered cws cwa g_number g_farm g_pig g_first g_begun g_weight g_salted g_heat g_place g_target g_feedAsked g_sealed g_bad g_sold) := hB.2.2
          refine lv_if_ne (tgt := 60) hx hb dX7_whatIsAgainst_55 (by decide) (fun c_13 => ?_) (fun c_13 => ?_)
          · have h := h.1 c_13
            refine lv_aload_n hx hb dX7_whatIsAgainst_60 rfl (lv_at hl 1 rfl) ?_
            obtain ⟨k_14, hg_k_14⟩ := wA_leg hy_p0
            refine va_getN (D := (dC, dI)) (ci := 3) (v := .int (g_salted p0)) (C := RX3) (T := TX3) (N := 14) hx hb hts hk_1 hown hK hP k_14 hg_k_14 rfl 6 (by decide) hk_7 (fun _ h9 => h9) rfl dX7_whatIsAgainst_61 ?_
            refine lv_aload_n hx hb dX7_whatIsAgainst_64 rfl (lv_at hl 0 rfl) ?_
            refine lv_iconst (v := 2) hx hb dX7_whatIsAgainst_65 (by decide) ?_
            refine va_calli (va_runV (As := [.int 2]) (rest := [.int (g_salted p0)]) ⟨hx, hb, hml, hown, hts⟩ (c_C_X7_askedOf l dC dI ad cB cI cZ cL A LP today legCount legs hung warmth damp wopen tsize bytes rat rtold rwrong numbers asked ftold ffarm ffrom fwhat fon csize ctotal offered cws cwa g_number g_farm g_pig g_first g_begun g_weight g_salted g_heat g_place g_target g_feedAsked g_sealed g_bad g_sold 2 _ h) (cwV 1 hts gX7_whatIsAgainst_X7_askedOf rfl rfl rfl (by decide +kernel) ⟨(Nat.le_of_ble_eq_true rfl), (Nat.le_of_ble_eq_true rfl)⟩) ⟨kC_blind, va_recv hK hP (ci := 7) (q0 := 0) rfl wA_g0, fun U hU hW => ⟨rfl, kC_go hA hS hP hK hD hE U hU hW⟩⟩ rfl rfl hl.1 rfl (lv_room (Nat.le_of_ble_eq_true rfl)) dX7_whatIsAgainst_66 ⟨(Nat.le_of_ble_eq_true rfl), (Nat.le_of_ble_eq_true rfl)⟩) hS (fun q _ h => h) (fun q h => h) (fun r_15 u t H locs ht hvm hw hB hz1 hk1 hS => ?_)
            have h := hw
            try dsimp only at h
            have hP : va_P (dC, dI) vwCl (wA ad cB cI cZ cL LP today legCount legs hung warmth damp wopen tsize bytes rat rtold rwrong numbers asked ftold ffarm ffrom fwhat fon csize ctotal offered cws cwa g_number g_farm g_pig g_first g_begun g_weight g_salted g_heat g_place g_target g_feedAsked g_sealed g_bad g_sold) H := by rw [← ht]; exact hB.1
            have hD : va_D A (wA ad cB cI cZ cL LP today legCount legs hung warmth damp wopen tsize bytes rat rtold rwrong numbers asked ftold ffarm ffrom fwhat fon csize ctotal offered cws cwa g_number g_farm g_pig g_first g_begun g_weight g_salted g_heat g_place g_target g_feedAsked g_sealed g_bad g_sold) := hB.2.2
            refine lv_icmp_ge (tgt := 75) hx hb dX7_whatIsAgainst_69 (by decide) (fun c_16 => ?_) (fun c_16 => ?_)
            · have h := h.1 c_16
              refine lv_aload_n hx hb dX7_whatIsAgainst_75 rfl (lv_at hl 0 rfl) ?_
              refine lv_aload_n hx hb dX7_whatIsAgainst_76 rfl (lv_at hl 1 rfl) ?_
              refine lv_aload_n hx hb dX7_whatIsAgainst_77 rfl (lv_at hl 0 rfl) ?_
              refine lv_iconst (v := 3) hx hb dX7_whatIsAgainst_78 (by decide) ?_
              refine va_calli (va_runV (As := [.int 3]) (rest := [.ref p0, .ref (ad 0)]) ⟨hx, hb, hml, hown, hts⟩ (c_C_X7_askedOf l dC dI ad cB cI cZ cL A LP today legCount legs hung warmth damp wopen tsize bytes rat rtold rwrong numbers asked ftold ffarm ffrom fwhat fon csize ctotal offered cws cwa g_number g_farm g_pig g_first g_begun g_weight g_salted g_heat g_place g_target g_feedAsked g_sealed g_bad g_sold 3 _ h) (cwV 1 hts gX7_whatIsAgainst_X7_askedOf rfl rfl rfl (by decide +kernel) ⟨(Nat.le_of_ble_eq_true rfl), (Nat.le_of_ble_eq_true rfl)⟩) ⟨kC_blind, va_recv hK hP (ci := 7) (q0 := 0) rfl wA_g0, fun U hU hW => ⟨rfl, kC_go hA hS hP hK hD hE U hU hW⟩⟩ rfl rfl hl.1 rfl (lv_room (Nat.le_of_ble_eq_true rfl)) dX7_whatIsAgainst_79 ⟨(Nat.le_of_ble_eq_true rfl), (Nat.le_of_ble_eq_true rfl)⟩) hS (fun q _ h => h) (fun q h => h) (fun r_17 u t H locs ht hvm hw hB hz1 hk1 hS => ?_)
              have h := hw
              try dsimp only at h
              have hP : va_P (dC, dI) vwCl (wA ad cB cI cZ cL LP today legCount legs hung warmth damp wopen tsize bytes rat rtold rwrong numbers asked ftold ffarm ffrom fwhat fon csize ctotal offered cws cwa g_number g_farm g_pig g_first g_begun g_weight g_salted g_heat g_place g_target g_feedAsked g_sealed g_bad g_sold) H := by rw [← ht]; exact hB.1
              have hD : va_D A (wA ad cB cI cZ cL LP today legCount legs hung warmth damp wopen tsize bytes rat rtold rwrong numbers asked ftold ffarm ffrom fwhat fon csize ctotal offered cws cwa g_number g_farm g_pig g_first g_begun g_weight g_salted g_heat g_place g_target g_feedAsked g_sealed g_bad g_sold) := hB.2.2
              refine va_calli (va_runV (As := [.ref p0, .int r_17]) (rest := []) ⟨hx, hb, hml, hown, hts⟩ (c_C_X7_isFeedAgainst l dC dI ad cB cI cZ cL A LP today legCount legs hung warmth damp wopen tsize bytes rat rtold rwrong numbers asked ftold ffarm ffrom fwhat fon csize ctotal offered cws cwa g_number g_farm g_pig g_first g_begun g_weight g_salted g_heat g_place g_target g_feedAsked g_sealed g_bad g_sold p0 r_17 hy_p0 _ h) (cwV 2 hts gX7_whatIsAgainst_X7_isFeedAgainst rfl rfl rfl (by decide +kernel) ⟨(Nat.le_of_ble_eq_true rfl), (Nat.le_of_ble_eq_true rfl)⟩) ⟨kC_blind, va_recv hK hP (ci := 7) (q0 := 0) rfl wA_g0, fun U hU hW => ⟨rfl, kC_go hA hS hP hK hD hE U hU hW⟩⟩ rfl rfl hl.1 rfl (lv_room (Nat.le_of_ble_eq_true rfl)) dX7_whatIsAgainst_82 ⟨(Nat.le_of_ble_eq_true rfl), (Nat.le_of_ble_eq_true rfl)⟩) hS (fun q _ h => h) (fun q h => h) (fun r_18 u t H locs ht hvm hw hB hz1 hk1 hS => ?_)
              have h := hw
              try dsimp only at h
              have hP : va_P (dC, dI) vwCl (wA ad cB cI cZ cL LP today legCount legs hung warmth damp wopen tsize bytes rat rtold rwrong numbers asked ftold ffarm ffrom fwhat fon csize ctotal offered cws cwa g_number g_farm g_pig g_first g_begun g_weight g_salted g_heat g_place g_target g_feedAsked g_sealed g_bad g_sold) H := by rw [← ht]; exact hB.1
              have hD : va_D A (wA ad cB cI cZ cL LP today legCount legs hung warmth damp wopen tsize bytes rat rtold rwrong numbers asked ftold ffarm ffrom fwhat fon csize ctotal offered cws cwa g_number g_farm g_pig g_first g_begun g_weight g_salted g_heat g_place g_target g_feedAsked g_sealed g_bad g_sold) := hB.2.2
              refine lv_if_eq (tgt := 91) hx hb dX7_whatIsAgainst_85 (by decide) (fun c_19 => ?_) (fun c_19 => ?_)
              · have h := h.1 c_19
                refine lv_aload_n hx hb dX7_whatIsAgainst_91 rfl (lv_at hl 1 rfl) ?_
                obtain ⟨k_20, hg_k_20⟩ := wA_leg hy_p0
                refine va_getN (D := (dC, dI)) (ci := 3) (v := .int (g_weight p0)) (C := RX3) (T := TX3) (N := 14) hx hb hts hk_1 hown hK hP k_20 hg_k_20 rfl 5 (by decide) hk_8 (fun _ h9 => h9) rfl dX7_whatIsAgainst_92 ?_
                refine lv_aload_n hx hb dX7_whatIsAgainst_95 rfl (lv_at hl 0 rfl) ?_
                refine lv_iconst (v := 4) hx hb dX7_whatIsAgainst_96 (by decide) ?_
                refine va_calli (va_runV (As := [.int 4]) (rest := [.int (g_weight p0)]) ⟨hx, hb, hml, hown, hts⟩ (c_C_X7_askedOf l dC dI ad cB cI cZ cL A LP today legCount legs hung warmth damp wopen tsize bytes rat rtold rwrong numbers asked ftold ffarm ffrom fwhat fon csize ctotal offered cws cwa g_number g_farm g_pig g_first g_begun g_weight g_salted g_heat g_place g_target g_feedAsked g_sealed g_bad g_sold 4 _ h) (cwV 1 hts gX7_whatIsAgainst_X7_askedOf rfl rfl rfl (by decide +kernel) ⟨(Nat.le_of_ble_eq_true rfl), (Nat.le_of_ble_eq_true rfl)⟩) ⟨kC_blind, va_recv hK hP (ci := 7) (q0 := 0) rfl wA_g0, fun U hU hW => ⟨rfl, kC_go hA hS hP hK hD hE U hU hW⟩⟩ rfl rfl hl.1 rfl (lv_room (Nat.le_of_ble_eq_true rfl)) dX7_whatIsAgainst_97 ⟨(Nat.le_of_ble_eq_true rfl), (Nat.le_of_ble_eq_true rfl)⟩) hS (fun q _ h => h) (fun q h => h) (fun r_21 u t H locs ht hvm hw hB hz1 hk1 hS => ?_)
                have h := hw
                try dsimp only at h
                have hP : va_P (dC, dI) vwCl (wA ad cB cI cZ cL LP today legCount legs hung warmth damp wopen tsize bytes rat rtold rwrong numbers asked ftold ffarm ffrom fwhat fon csize ctotal offered cws cwa g_number g_farm g_pig g_first g_begun g_weight g_salted g_heat g_place g_target g_feedAsked g_sealed g_bad g_sold) H := by rw [← ht]; exact hB.1
                have hD : va_D A (wA ad cB cI cZ cL LP today legCount legs hung warmth damp wopen tsize bytes rat rtold rwrong numbers asked ftold ffarm ffrom fwhat fon csize ctotal offered cws cwa g_number g_farm g_pig g_first g_begun g_weight g_salted g_heat g_place g_target g_feedAsked g_sealed g_bad g_sold) := hB.2.2
                refine lv_icmp_ge (tgt := 108) hx hb dX7_whatIsAgainst_100 (by decide) (fun c_22 => ?_) (fun c_22 => ?_)
                · have h := h.1 c_22
                  refine lv_iconst (v := 0) hx hb dX7_whatIsAgainst_108 (by decide) ?_
                  exact W.iret (v := 0) hx hb hr (fun t ht hW => ⟨⟨0, (), rfl, h, kB_mk hP hK hD ht hW.alike⟩, hS.F ht⟩) hS.2.2 dX7_whatIsAgainst_109
                · have h := h.2 c_22
                  refine lv_bipush (v := 8) hx hb dX7_whatIsAgainst_103 (by decide) ?_
                  refine lv_goto (tgt := 109) hx hb dX7_whatIsAgainst_105 (by decide) ?_
                  exact W.iret (v := 8) hx hb hr (fun t ht hW => ⟨⟨8, (), rfl, h, kB_mk hP hK hD ht hW.alike⟩, hS.F ht⟩) hS.2.2 dX7_whatIsAgainst_109
              · have h := h.2 c_19
                refine lv_bipush (v := 7) hx hb dX7_whatIsAgainst_88 (by decide) ?_
                exact W.iret (v := 7) hx hb hr (fun t ht hW => ⟨⟨7, (), rfl, h, kB_mk hP hK hD ht hW.alike⟩, hS.F ht⟩) hS.2.2 dX7_whatIsAgainst_90
            · have h := h.2 c_16
              refine lv_bipush (v := 6) hx hb dX7_whatIsAgainst_72 (by decide) ?_
              exact W.iret (v := 6) hx hb hr (fun t ht hW => ⟨⟨6, (), rfl, h, kB_mk hP hK hD ht hW.alike⟩, hS.F ht⟩) hS.2.2 dX7_whatIsAgainst_74
          · have h := h.2 c_13
            refine lv_iconst (v := 5) hx hb dX7_whatIsAgainst_58 (by decide) ?_
            exact W.iret (v := 5) hx hb hr (fun t ht hW => ⟨⟨5, (), rfl, h, kB_mk hP hK hD ht hW.alike⟩, hS.F ht⟩) hS.2.2 dX7_whatIsAgainst_59
        · have h := h.2 c_9
          refine lv_iconst (v := 4) hx hb dX7_whatIsAgainst_44 (by decide) ?_
          exact W.iret (v := 4) hx hb hr (fun t ht hW => ⟨⟨4, (), rfl, h, kB_mk hP hK hD ht hW.alike⟩, hS.F ht⟩) hS.2.2 dX7_whatIsAgainst_45
      · have h := h.2 c_6
        refine lv_iconst (v := 3) hx hb dX7_whatIsAgainst_25 (by decide) ?_
        exact W.iret (v := 3) hx hb hr (fun t ht hW => ⟨⟨3, (), rfl, h, kB_mk hP hK hD ht hW.alike⟩, hS.F ht⟩) hS.2.2 dX7_whatIsAgainst_26
    · have h := h.2 c_4
      refine lv_iconst (v := 2) hx hb dX7_whatIsAgainst_16 (by decide) ?_
      exact W.iret (v := 2) hx hb hr (fun t ht hW => ⟨⟨2, (), rfl, h, kB_mk hP hK hD ht hW.alike⟩, hS.F ht⟩) hS.2.2 dX7_whatIsAgainst_17
  · have h := h.2 c_2
    refine lv_iconst (v := 1) hx hb dX7_whatIsAgainst_7 (by decide) ?_
    exact W.iret (v := 1) hx hb hr (fun t ht hW => ⟨⟨1, (), rfl, h, kB_mk hP hK hD ht hW.alike⟩, hS.F ht⟩) hS.2.2 dX7_whatIsAgainst_8
def wp_C_X7_seal (LP : List Nat) (today : Int32) (legs : Nat → Option Nat) (asked : Nat → Int32) (ftold : Int32) (ffarm : Nat → Int32) (ffrom : Nat → Int32) (fwhat : Nat → Int32) (fon : Nat → Int32) (g_farm : Nat → Int32) (g_first : Nat → Int32) (g_begun : Nat → Int32) (g_weight : Nat → Int32) (g_salted : Nat → Int32) (g_bad : Nat → Int32) (g_sold : Nat → Int32) (Q : Int32 → (Nat → Int32) → (Nat → Int32) → Prop) (X : Nat → (Nat → Int32) → (Nat → Int32) → Prop) (g_feedAsked : Nat → Int32) (g_sealed : Nat → Int32) (p0 : Int32) : Prop := wp_C_X7_needLeg LP legs (fun r_1 => ((r_1 = none → False) ∧ (∀ y_2 : Nat, r_1 = some y_2 → y_2 ∈ LP ∧ wp_C_X7_whatIsAgainst LP today asked ftold ffarm ffrom fwhat fon g_farm g_first g_begun g_weight g_salted g_sealed g_bad g_sold (fun r_5 => ((¬ r_5 = 0 → Q r_5 g_feedAsked g_sealed) ∧ (r_5 = 0 → wp_C_X7_askedOf asked (fun r_8 => Q r_5 (va_up g_feedAsked y_2 r_8) (va_up g_sealed y_2 1)) 3))) y_2))) (fun x_1 => X x_1 g_feedAsked g_sealed) p0
def rm_C_X7_seal : Room := { frames := 7, cells := 1, slots := 6, locals := 103 }
abbrev pq_C_X7_seal (dC : Nat → ClassId) (dI : Nat → Nat → Nat) (ad : Nat → Nat) (cB cI cZ cL : ClassId) (A : Nat → Prop) (LP : List Nat) (today legCount : Int32) (legs hung : Nat → Option Nat) (warmth damp wopen : Nat → Int32) (tsize : Int32) (bytes : Nat → Int32) (rat rtold rwrong : Int32) (numbers asked : Nat → Int32) (ftold : Int32) (ffarm ffrom fwhat fon : Nat → Int32) (csize ctotal : Int32) (offered : Nat → Option Nat) (cws cwa g_number g_farm g_pig g_first g_begun g_weight g_salted g_heat g_place g_target g_feedAsked g_sealed g_bad g_sold : Nat → Int32) (Q : Int32 → (Nat → Int32) → (Nat → Int32) → Prop) : Array Value → State → Outcome → State → Prop := va_Qi (fun (r : Int32) (u : (Nat → Int32) × (Nat → Int32)) => Q r u.1 u.2) (fun u t => kB dC dI A (wA ad cB cI cZ cL LP today legCount legs hung warmth damp wopen tsize bytes rat rtold rwrong numbers asked ftold ffarm ffrom fwhat fon csize ctotal offered cws cwa g_number g_farm g_pig g_first g_begun g_weight g_salted g_heat g_place g_target u.1 u.2 g_bad g_sold) (kTy cB cI cZ cL) t) A
abbrev px_C_X7_seal (dC : Nat → ClassId) (dI : Nat → Nat → Nat) (ad : Nat → Nat) (cB cI cZ cL : ClassId) (A : Nat → Prop) (LP : List Nat) (today legCount : Int32) (legs hung : Nat → Option Nat) (warmth damp wopen : Nat → Int32) (tsize : Int32) (bytes : Nat → Int32) (rat rtold rwrong : Int32) (numbers asked : Nat → Int32) (ftold : Int32) (ffarm ffrom fwhat fon : Nat → Int32) (csize ctotal : Int32) (offered : Nat → Option Nat) (cws cwa g_number g_farm g_pig g_first g_begun g_weight g_salted g_heat g_place g_target g_feedAsked g_sealed g_bad g_sold : Nat → Int32) (X : Nat → (Nat → Int32) → (Nat → Int32) → Prop) : String → State → State → Prop := vx_X (fun u : Nat × (Nat → Int32) × (Nat → Int32) => X u.1 u.2.1 u.2.2) (fun E u t => E = kEx u.1 ∧ kB dC dI A (wA ad cB cI cZ cL LP today legCount legs hung warmth damp wopen tsize bytes rat rtold rwrong numbers asked ftold ffarm ffrom fwhat fon csize ctotal offered cws cwa g_number g_farm g_pig g_first g_begun g_weight g_salted g_heat g_place g_target u.2.1 u.2.2 g_bad g_sold) (kTy cB cI cZ cL) t) A
set_option maxHeartbeats 4000000 in
set_option maxRecDepth 100000 in
theorem c_C_X7_seal (l : Launch) (hl0 : l.stackTraces = false) (dC : Nat → ClassId) (dI : Nat → Nat → Nat) (ad : Nat → Nat) (cB cI cZ cL : ClassId) (A : Nat → Prop) (LP : List Nat) (today legCount : Int32) (legs hung : Nat → Option Nat) (warmth damp wopen : Nat → Int32) (tsize : Int32) (bytes : Nat → Int32) (rat rtold rwrong : Int32) (numbers asked : Nat → Int32) (ftold : Int32) (ffarm ffrom fwhat fon : Nat → Int32) (csize ctotal : Int32) (offered : Nat → Option Nat) (cws cwa g_number g_farm g_pig g_first g_begun g_weight g_salted g_heat g_place g_target g_feedAsked g_sealed g_bad g_sold : Nat → Int32) (p0 : Int32)  (Q : Int32 → (Nat → Int32) → (Nat → Int32) → Prop) (X : Nat → (Nat → Int32) → (Nat → Int32) → Prop) (h : wp_C_X7_seal LP today legs asked ftold ffarm ffrom fwhat fon g_farm g_first g_begun g_weight g_salted g_bad g_sold Q X g_feedAsked g_sealed p0) : vx_Met l yX7_seal wsX7_seal rm_C_X7_seal (va_Pc [.ref (ad 0), .int p0] (kC dC dI ad A (wA ad cB cI cZ cL LP today legCount legs hung warmth damp wopen tsize bytes rat rtold rwrong numbers asked ftold ffarm ffrom fwhat fon csize ctotal offered cws cwa g_number g_farm g_pig g_first g_begun g_weight g_salted g_heat g_place g_target g_feedAsked g_sealed g_bad g_sold) (kTy cB cI cZ cL))) (pq_C_X7_seal dC dI ad cB cI cZ cL A LP today legCount legs hung warmth damp wopen tsize bytes rat rtold rwrong numbers asked ftold ffarm ffrom fwhat fon csize ctotal offered cws cwa g_number g_farm g_pig g_first g_begun g_weight g_salted g_heat g_place g_target g_feedAsked g_sealed g_bad g_sold Q) (px_C_X7_seal dC dI ad cB cI cZ cL A LP today legCount legs hung warmth damp wopen tsize bytes rat rtold rwrong numbers asked ftold ffarm ffrom fwhat fon csize ctotal offered cws cwa g_number g_farm g_pig g_first g_begun g_weight g_salted g_heat g_place g_target g_feedAsked g_sealed g_bad g_sold X) 1 6 A := by
  refine vx_ofW (cc := cX7_seal) (maxL := 4) (ret := (some .int)) (by decide) rfl ?_
  intro p e s m args below meth c s₁ B hml htb hv
  obtain ⟨rfl, hA, hP, hK, hD, hE⟩ := hv
  have hx := B.exec
  have hb := B.bytes
  have hr := B.returns
  have hts := atoms_spec (ws := wsX7_seal) B.pre
  have hown : s.vm.findClass RX7 = some m.cls := findClass_of_methodNamed B.named
  have hlocks := B.notSynchronized
  have hS : va_S A s.heap s.heap [] := va_S.rf
  have hk_0n := hE.2.1.1 ("HamCellar", 175, "HamCellar$Leg", "sealed", "Z", "HamCellar") (by decide +kernel)
  have hk_0 : (Cond.fieldLinkNest "HamCellar" 175 "HamCellar$Leg" "sealed" "Z" "HamCellar").before ([.ref (ad 0), .int p0] : List Value).toArray s = true := va_Nw.use rfl hk_0n
  have hk_1 : ∀ w ∈ wsX30, w ∈ wsX7_seal := by decide +kernel
  have hk_2n := hE.2.1.1 ("HamCellar", 181, "HamCellar$Leg", "feedAsked", "I", "HamCellar") (by decide +kernel)
  have hk_2 : (Cond.fieldLinkNest "HamCellar" 181 "HamCellar$Leg" "feedAsked" "I" "HamCellar").before ([.ref (ad 0), .int p0] : List Value).toArray s = true := va_Nw.use rfl hk_2n
  have hl := lv_entry ([.ref (ad 0), .int p0]) (n := 4) (Nat.le_of_ble_eq_true rfl)
  rw [lg_entry_eq]
  generalize (lg_sl ([.ref (ad 0), .int p0]) ++ List.replicate (4 - (lg_sl ([.ref (ad 0), .int p0])).length) Slot.unset).toArray = ls at hl ⊢
  have hl : lv_has ls 4 [(0, .ref (ad 0)), (1, .int p0)] := hl
  unfold wp_C_X7_seal at h
  refine lv_aload_n hx hb dX7_seal_0 rfl (lv_at hl 0 rfl) ?_
  refine lv_iload_n hx hb dX7_seal_1 rfl (lv_at hl 1 rfl) ?_
  refine vx_callq (vx_runV (As := [.int p0]) (rest := []) ⟨hx, hb, hml, hown, hts⟩ (c_C_X7_needLeg l hl0 dC dI ad cB cI cZ cL A LP today legCount legs hung warmth damp wopen tsize bytes rat rtold rwrong numbers asked ftold ffarm ffrom fwhat fon csize ctotal offered cws cwa g_number g_farm g_pig g_first g_begun g_weight g_salted g_heat g_place g_target g_feedAsked g_sealed g_bad g_sold p0 _ _ h) (cwV 1 hts gX7_seal_X7_needLeg rfl rfl rfl (by decide +kernel) ⟨(Nat.le_of_ble_eq_true rfl), (Nat.le_of_ble_eq_true rfl)⟩) ⟨kC_blind, va_recv hK hP (ci := 7) (q0 := 0) rfl wA_g0, fun U hU hW => ⟨rfl, kC_go hA hS hP hK hD hE U hU hW⟩⟩ rfl rfl hl.1 rfl (lv_room (Nat.le_of_ble_eq_true rfl)) dX7_seal_2 ⟨(Nat.le_of_ble_eq_true rfl), (Nat.le_of_ble_eq_true rfl)⟩) hS (fun q _ h => h) (fun q h => h) (fun q _ h => h) (fun E9 ce9 q9 u t H locs ht hvm hw hB hz1 hk1 hS hce hcv hcl => ?_) (fun r_1 u t H locs ht hvm hw hB hz1 hk1 hS => ?_)
  · obtain ⟨x_1, rfl⟩ : ∃ z, z = u := ⟨_, rfl⟩
    obtain ⟨rfl, hB⟩ := hB
    have h := hw
    try dsimp only at h
    have hP : va_P (dC, dI) vwCl (wA ad cB cI cZ cL LP today legCount legs hung warmth damp wopen tsize bytes rat rtold rwrong numbers asked ftold ffarm ffrom fwhat fon csize ctotal offered cws cwa g_number g_farm g_pig g_first g_begun g_weight g_salted g_heat g_place g_target g_feedAsked g_sealed g_bad g_sold) H := by rw [← ht]; exact hB.1
    have hD : va_D A (wA ad cB cI cZ cL LP today legCount legs hung warmth damp wopen tsize bytes rat rtold rwrong numbers asked ftold ffarm ffrom fwhat fon csize ctotal offered cws cwa g_number g_farm g_pig g_first g_begun g_weight g_salted g_heat g_place g_target g_feedAsked g_sealed g_bad g_sold) := hB.2.2
    exact vx_out (fun x9 hx9 => (htb x9 hx9).elim) hlocks hce hcv hcl (fun t ht hv9 => ⟨(x_1, g_feedAsked, g_sealed), h, ⟨rfl, kB_mk hP hK hD ht hv9⟩, hS.F ht⟩) hS.2.2 (Nat.le_of_ble_eq_true rfl) (Nat.le_of_ble_eq_true rfl)
  · have h := hw
    try dsimp only at h
    have hP : va_P (dC, dI) vwCl (wA ad cB cI cZ cL LP today legCount legs hung warmth damp wopen tsize bytes rat rtold rwrong numbers asked ftold ffarm ffrom fwhat fon csize ctotal offered cws cwa g_number g_farm g_pig g_first g_begun g_weight g_salted g_heat g_place g_target g_feedAsked g_sealed g_bad g_sold) H := by rw [← ht]; exact hB.1
    have hD : va_D A (wA ad cB cI cZ cL LP today legCount legs hung warmth damp wopen tsize bytes rat rtold rwrong numbers asked ftold ffarm ffrom fwhat fon csize ctotal offered cws cwa g_number g_farm g_pig g_first g_begun g_weight g_salted g_heat g_place g_target g_feedAsked g_sealed g_bad g_sold) := hB.2.2
    cases hr_3 : r_1 with
    | none =>
      have h := h.1 hr_3
      refine lv_astore_nN (lv' := [(2, .null), (0, .ref (ad 0)), (1, .int p0)]) hx hb dX7_seal_5 rfl hl (by decide) rfl (fun ls hl => ?_)
      refine lv_aload_n hx hb dX7_seal_6 rfl (lv_at hl 1 rfl) ?_
      refine lv_aload_nN hx hb dX7_seal_7 rfl (lv_at hl 0 rfl) ?_
      exact h.elim
    | some y_2 =>
      have hy_y_2 := (h.2 y_2 hr_3).1
      have h := (h.2 y_2 hr_3).2
      refine lv_astore_n (lv' := [(2, .ref y_2), (0, .ref (ad 0)), (1, .int p0)]) hx hb dX7_seal_5 rfl hl (by decide) rfl (fun ls hl => ?_)
      refine lv_aload_n hx hb dX7_seal_6 rfl (lv_at hl 1 rfl) ?_
      refine lv_aload_n hx hb dX7_seal_7 rfl (lv_at hl 0 rfl) ?_
      refine va_calli (va_runV (As := [.ref y_2]) (rest := []) ⟨hx, hb, hml, hown, hts⟩ (c_C_X7_whatIsAgainst l dC dI ad cB cI cZ cL A LP today legCount legs hung warmth damp wopen tsize bytes rat rtold rwrong numbers asked ftold ffarm ffrom fwhat fon csize ctotal offered cws cwa g_number g_farm g_pig g_first g_begun g_weight g_salted g_heat g_place g_target g_feedAsked g_sealed g_bad g_sold y_2 hy_y_2 _ h) (cwV 1 hts gX7_seal_X7_whatIsAgainst rfl rfl rfl (by decide +kernel) ⟨(Nat.le_of_ble_eq_true rfl), (Nat.le_of_ble_eq_true rfl)⟩) ⟨kC_blind, va_recv hK hP (ci := 7) (q0 := 0) rfl wA_g0, fun U hU hW => ⟨rfl, kC_go hA hS hP hK hD hE U hU hW⟩⟩ rfl rfl hl.1 rfl (lv_room (Nat.le_of_ble_eq_true rfl)) dX7_seal_8 ⟨(Nat.le_of_ble_eq_true rfl), (Nat.le_of_ble_eq_true rfl)⟩) hS (fun q _ h => h) (fun q h => h) (fun r_5 u t H locs ht hvm hw hB hz1 hk1 hS => ?_)
      have h := hw
      try dsimp only at h
      have hP : va_P (dC, dI) vwCl (wA ad cB cI cZ cL LP today legCount legs hung warmth damp wopen tsize bytes rat rtold rwrong numbers asked ftold ffarm ffrom fwhat fon csize ctotal offered cws cwa g_number g_farm g_pig g_first g_begun g_weight g_salted g_heat g_place g_target g_feedAsked g_sealed g_bad g_sold) H := by rw [← ht]; exact hB.1
      have hD : va_D A (wA ad cB cI cZ cL LP today legCount legs hung warmth damp wopen tsize bytes rat rtold rwrong numbers asked ftold ffarm ffrom fwhat fon csize ctotal offered cws cwa g_number g_farm g_pig g_first g_begun g_weight g_salted g_heat g_place g_target g_feedAsked g_sealed g_bad g_sold) := hB.2.2
      refine lv_istore_n (lv' := [(3, .int r_5), (2, .ref y_2), (0, .ref (ad 0)), (1, .int p0)]) hx hb dX7_seal_11 rfl hl (by decide) rfl (fun ls hl => ?_)
      refine lv_iload_n hx hb dX7_seal_12 rfl (lv_at hl 0 rfl) ?_
      refine lv_if_ne (tgt := 30) hx hb dX7_seal_13 (by decide) (fun c_6 => ?_) (fun c_6 => ?_)
      · have h := h.1 c_6
        refine lv_iload_n hx hb dX7_seal_30 rfl (lv_at hl 0 rfl) ?_
        refine vx_ret ?_
        exact W.iret (v := r_5) hx hb hr (fun t ht hW => ⟨⟨r_5, (g_feedAsked, g_sealed), rfl, h, kB_mk hP hK hD ht hW.alike⟩, hS.F ht⟩) hS.2.2 dX7_seal_31
      · have h := h.2 c_6
        refine lv_aload_n hx hb dX7_seal_16 rfl (lv_at hl 1 rfl) ?_
        refine lv_iconst (v := 1) hx hb dX7_seal_17 (by decide) ?_
        obtain ⟨k_7, hg_k_7⟩ := wA_leg hy_y_2
        refine va_putN (D := (dC, dI)) (ci := 3) (v := .int 1) (ty := .boolean) (C := RX3) (T := TX3) (N := 14) hx hb hts hk_1 tyX3 tyX3_ok nmX3 hown hK hP hD hS k_7 hg_k_7 rfl 11 (by decide) hk_0 (fun _ h9 => h9) rfl (by decide +kernel) rfl rfl (Nat.le_of_ble_eq_true rfl) dX7_seal_18 (fun H locs hP2 hD2 hS => ?_)
        have hP : va_P (dC, dI) vwCl (wA ad cB cI cZ cL LP today legCount legs hung warmth damp wopen tsize bytes rat rtold rwrong numbers asked ftold ffarm ffrom fwhat fon csize ctotal offered cws cwa g_number g_farm g_pig g_first g_begun g_weight g_salted g_heat g_place g_target g_feedAsked (va_up g_sealed y_2 1) g_bad g_sold) H := hP_eq (wA_p_g_sealed hD hy_y_2 hg_k_7) hP2
        have hD : va_D A (wA ad cB cI cZ cL LP today legCount legs hung warmth damp wopen tsize bytes rat rtold rwrong numbers asked ftold ffarm ffrom fwhat fon csize ctotal offered cws cwa g_number g_farm g_pig g_first g_begun g_weight g_salted g_heat g_place g_target g_feedAsked (va_up g_sealed y_2 1) g_bad g_sold) := hD_eq (wA_p_g_sealed hD hy_y_2 hg_k_7) hD2
        refine lv_aload_n hx hb dX7_seal_21 rfl (lv_at hl 1 rfl) ?_
        refine lv_aload_n hx hb dX7_seal_22 rfl (lv_at hl 2 rfl) ?_
        refine lv_iconst (v := 3) hx hb dX7_seal_23 (by decide) ?_
        refine va_calli (va_runV (As := [.int 3]) (rest := [.ref y_2]) ⟨hx, hb, hml, hown, hts⟩ (c_C_X7_askedOf l dC dI ad cB cI cZ cL A LP today legCount legs hung warmth damp wopen tsize bytes rat rtold rwrong numbers asked ftold ffarm ffrom fwhat fon csize ctotal offered cws cwa g_number g_farm g_pig g_first g_begun g_weight g_salted g_heat g_place g_target g_feedAsked (va_up g_sealed y_2 1) g_bad g_sold 3 _ h) (cwV 1 hts gX7_seal_X7_askedOf rfl rfl rfl (by decide +kernel) ⟨(Nat.le_of_ble_eq_true rfl), (Nat.le_of_ble_eq_true rfl)⟩) ⟨kC_blind, va_recv hK hP (ci := 7) (q0 := 0) rfl wA_g0, fun U hU hW => ⟨rfl, kC_go hA hS hP hK hD hE U hU hW⟩⟩ rfl rfl hl.1 rfl (lv_room (Nat.le_of_ble_eq_true rfl)) dX7_seal_24 ⟨(Nat.le_of_ble_eq_true rfl), (Nat.le_of_ble_eq_true rfl)⟩) hS (fun q _ h => h) (fun q h => h) (fun r_8 u t H locs ht hvm hw hB hz1 hk1 hS => ?_)
        have h := hw
        try dsimp only at h
        have hP : va_P (dC, dI) vwCl (wA ad cB cI cZ cL LP today legCount legs hung warmth damp wopen tsize bytes rat rtold rwrong numbers asked ftold ffarm ffrom fwhat fon csize ctotal offered cws cwa g_number g_farm g_pig g_first g_begun g_weight g_salted g_heat g_place g_target g_feedAsked (va_up g_sealed y_2 1) g_bad g_sold) H := by rw [← ht]; exact hB.1
        have hD : va_D A (wA ad cB cI cZ cL LP today legCount legs hung warmth damp wopen tsize bytes rat rtold rwrong numbers asked ftold ffarm ffrom fwhat fon csize ctotal offered cws cwa g_number g_farm g_pig g_first g_begun g_weight g_salted g_heat g_place g_target g_feedAsked (va_up g_sealed y_2 1) g_bad g_sold) := hB.2.2
        obtain ⟨k_9, hg_k_9⟩ := wA_leg hy_y_2
        refine va_putN (D := (dC, dI)) (ci := 3) (v := .int r_8) (ty := .int) (C := RX3) (T := TX3) (N := 14) hx hb hts hk_1 tyX3 tyX3_ok nmX3 hown hK hP hD hS k_9 hg_k_9 rfl 10 (by decide) hk_2 (fun _ h9 => h9) rfl (by decide +kernel) rfl rfl (Nat.le_of_ble_eq_true rfl) dX7_seal_27 (fun H locs hP2 hD2 hS => ?_)
        have hP : va_P (dC, dI) vwCl (wA ad cB cI cZ cL LP today legCount legs hung warmth damp wopen tsize bytes rat rtold rwrong numbers asked ftold ffarm ffrom fwhat fon csize ctotal offered cws cwa g_number g_farm g_pig g_first g_begun g_weight g_salted g_heat g_place g_target (va_up g_feedAsked y_2 r_8) (va_up g_sealed y_2 1) g_bad g_sold) H := hP_eq (wA_p_g_feedAsked hD hy_y_2 hg_k_9) hP2
        have hD : va_D A (wA ad cB cI cZ cL LP today legCount legs hung warmth damp wopen tsize bytes rat rtold rwrong numbers asked ftold ffarm ffrom fwhat fon csize ctotal offered cws cwa g_number g_farm g_pig g_first g_begun g_weight g_salted g_heat g_place g_target (va_up g_feedAsked y_2 r_8) (va_up g_sealed y_2 1) g_bad g_sold) := hD_eq (wA_p_g_feedAsked hD hy_y_2 hg_k_9) hD2
        refine lv_iload_n hx hb dX7_seal_30 rfl (lv_at hl 0 rfl) ?_
        refine vx_ret ?_
        exact W.iret (v := r_5) hx hb hr (fun t ht hW => ⟨⟨r_5, (va_up g_feedAsked y_2 r_8, va_up g_sealed y_2 1), rfl, h, kB_mk hP hK hD ht hW.alike⟩, hS.F ht⟩) hS.2.2 dX7_seal_31
def wp_C_X7_look (LP : List Nat) (legs : Nat → Option Nat) (g_farm : Nat → Int32) (g_pig : Nat → Int32) (g_first : Nat → Int32) (g_begun : Nat → Int32) (g_weight : Nat → Int32) (g_salted : Nat → Int32) (g_heat : Nat → Int32) (g_place : Nat → Int32) (g_sealed : Nat → Int32) (g_bad : Nat → Int32) (g_sold : Nat → Int32) (Q : Int32 → Prop) (X : Nat → Prop) (p0 : Int32) (p1 : Int32) : Prop := wp_C_X7_needLeg LP legs (fun r_1 => ((r_1 = none → ((p1 = 0 → False) ∧ (¬ p1 = 0 → ((p1 = 1 → False) ∧ (¬ p1 = 1 → ((p1 = 2 → False) ∧ (¬ p1 = 2 → ((p1 = 3 → False) ∧ (¬ p1 = 3 → ((p1 = 4 → False) ∧ (¬ p1 = 4 → ((p1 = 5 → False) ∧ (¬ p1 = 5 → ((p1 = 6 → False) ∧ (¬ p1 = 6 → ((p1 = 7 → False) ∧ (¬ p1 = 7 → ((p1 = 8 → False) ∧ (¬ p1 = 8 → ((p1 = 9 → False) ∧ (¬ p1 = 9 → ((p1 = 10 → False) ∧ (¬ p1 = 10 → ((p1 = 11 → False) ∧ (¬ p1 = 11 → X 4))))))))))))))))))))))))) ∧ (∀ y_2 : Nat, r_1 = some y_2 → y_2 ∈ LP ∧ ((p1 = 0 → Q (g_weight y_2)) ∧ (¬ p1 = 0 → ((p1 = 1 → Q (g_first y_2)) ∧ (¬ p1 = 1 → ((p1 = 2 → Q (g_salted y_2)) ∧ (¬ p1 = 2 → ((p1 = 3 → Q (g_heat y_2)) ∧ (¬ p1 = 3 → ((p1 = 4 → (((g_sold y_2) = 0 → wp_C_X3_hangs LP g_place (fun r_11 => wp_C_X7_oneIf (fun r_13 => Q r_13) r_11) y_2) ∧ (¬ ((g_sold y_2) = 0) → Q 2))) ∧ (¬ p1 = 4 → ((p1 = 5 → wp_C_X3_room LP g_place (fun r_14 => Q r_14) y_2) ∧ (¬ p1 = 5 → ((p1 = 6 → wp_C_X3_hook LP g_place (fun r_16 => Q r_16) y_2) ∧ (¬ p1 = 6 → ((p1 = 7 → wp_C_X7_oneIf (fun r_19 => Q r_19) (g_sealed y_2)) ∧ (¬ p1 = 7 → ((p1 = 8 → wp_C_X7_oneIf (fun r_21 => Q r_21) (g_bad y_2)) ∧ (¬ p1 = 8 → ((p1 = 9 → Q (g_farm y_2)) ∧ (¬ p1 = 9 → ((p1 = 10 → Q (g_pig y_2)) ∧ (¬ p1 = 10 → ((p1 = 11 → Q (g_begun y_2)) ∧ (¬ p1 = 11 → X 4))))))))))))))))))))))))))) (fun x_1 => X x_1) p0
def rm_C_X7_look : Room := { frames := 7, cells := 2, slots := 12, locals := 103 }
abbrev pq_C_X7_look (dC : Nat → ClassId) (dI : Nat → Nat → Nat) (ad : Nat → Nat) (cB cI cZ cL : ClassId) (A : Nat → Prop) (LP : List Nat) (today legCount : Int32) (legs hung : Nat → Option Nat) (warmth damp wopen : Nat → Int32) (tsize : Int32) (bytes : Nat → Int32) (rat rtold rwrong : Int32) (numbers asked : Nat → Int32) (ftold : Int32) (ffarm ffrom fwhat fon : Nat → Int32) (csize ctotal : Int32) (offered : Nat → Option Nat) (cws cwa g_number g_farm g_pig g_first g_begun g_weight g_salted g_heat g_place g_target g_feedAsked g_sealed g_bad g_sold : Nat → Int32) (Q : Int32 → Prop) : Array Value → State → Outcome → State → Prop := va_Qi (fun (r : Int32) (u : Unit) => Q r ) (fun u t => kB dC dI A (wA ad cB cI cZ cL LP today legCount legs hung warmth damp wopen tsize bytes rat rtold rwrong numbers asked ftold ffarm ffrom fwhat fon csize ctotal offered cws cwa g_number g_farm g_pig g_first g_begun g_weight g_salted g_heat g_place g_target g_feedAsked g_sealed g_bad g_sold) (kTy cB cI cZ cL) t) A
abbrev px_C_X7_look (dC : Nat → ClassId) (dI : Nat → Nat → Nat) (ad : Nat → Nat) (cB cI cZ cL : ClassId) (A : Nat → Prop) (LP : List Nat) (today legCount : Int32) (legs hung : Nat → Option Nat) (warmth damp wopen : Nat → Int32) (tsize : Int32) (bytes : Nat → Int32) (rat rtold rwrong : Int32) (numbers asked : Nat → Int32) (ftold : Int32) (ffarm ffrom fwhat fon : Nat → Int32) (csize ctotal : Int32) (offered : Nat → Option Nat) (cws cwa g_number g_farm g_pig g_first g_begun g_weight g_salted g_heat g_place g_target g_feedAsked g_sealed g_bad g_sold : Nat → Int32) (X : Nat → Prop) : String → State → State → Prop := vx_X (fun u : Nat => X u) (fun E u t => E = kEx u ∧ kB dC dI A (wA ad cB cI cZ cL LP today legCount legs hung warmth damp wopen tsize bytes rat rtold rwrong numbers asked ftold ffarm ffrom fwhat fon csize ctotal offered cws cwa g_number g_farm g_pig g_first g_begun g_weight g_salted g_heat g_place g_target g_feedAsked g_sealed g_bad g_sold) (kTy cB cI cZ cL) t) A
set_option maxHeartbeats 4000000 in
set_option maxRecDepth 100000 in
theorem c_C_X7_look (l : Launch) (hl0 : l.stackTraces = false) (dC : Nat → ClassId) (dI : Nat → Nat → Nat) (ad : Nat → Nat) (cB cI cZ cL : ClassId) (A : Nat → Prop) (LP : List Nat) (today legCount : Int32) (legs hung : Nat → Option Nat) (warmth damp wopen : Nat → Int32) (tsize : Int32) (bytes : Nat → Int32) (rat rtold rwrong : Int32) (numbers asked : Nat → Int32) (ftold : Int32) (ffarm ffrom fwhat fon : Nat → Int32) (csize ctotal : Int32) (offered : Nat → Option Nat) (cws cwa g_number g_farm g_pig g_first g_begun g_weight g_salted g_heat g_place g_target g_feedAsked g_sealed g_bad g_sold : Nat → Int32) (p0 : Int32) (p1 : Int32)  (Q : Int32 → Prop) (X : Nat → Prop) (h : wp_C_X7_look LP legs g_farm g_pig g_first g_begun g_weight g_salted g_heat g_place g_sealed g_bad g_sold Q X p0 p1) : vx_Met l yX7_look wsX7_look rm_C_X7_look (va_Pc [.ref (ad 0), .int p0, .int p1] (kC dC dI ad A (wA ad cB cI cZ cL LP today legCount legs hung warmth damp wopen tsize bytes rat rtold rwrong numbers asked ftold ffarm ffrom fwhat fon csize ctotal offered cws cwa g_number g_farm g_pig g_first g_begun g_weight g_salted g_heat g_place g_target g_feedAsked g_sealed g_bad g_sold) (kTy cB cI cZ cL))) (pq_C_X7_look dC dI ad cB cI cZ cL A LP today legCount legs hung warmth damp wopen tsize bytes rat rtold rwrong numbers asked ftold ffarm ffrom fwhat fon csize ctotal offered cws cwa g_number g_farm g_pig g_first g_begun g_weight g_salted g_heat g_place g_target g_feedAsked g_sealed g_bad g_sold Q) (px_C_X7_look dC dI ad cB cI cZ cL A LP today legCount legs hung warmth damp wopen tsize bytes rat rtold rwrong numbers asked ftold ffarm ffrom fwhat fon csize ctotal offered cws cwa g_number g_farm g_pig g_first g_begun g_weight g_salted g_heat g_place g_target g_feedAsked g_sealed g_bad g_sold X) 2 12 A := by
  refine vx_ofW (cc := cX7_look) (maxL := 4) (ret := (some .int)) (by decide) rfl ?_
  intro p e s m args below meth c s₁ B hml htb hv
  obtain ⟨rfl, hA, hP, hK, hD, hE⟩ := hv
  have hx := B.exec
  have hb := B.bytes
  have hr := B.returns
  have hts := atoms_spec (ws := wsX7_look) B.pre
  have hown : s.vm.findClass RX7 = some m.cls := findClass_of_methodNamed B.named
  have hlocks := B.notSynchronized
  have hS : va_S A s.heap s.heap [] := va_S.rf
  have hk_0n := hE.2.1.1 ("HamCellar", 184, "HamCellar$Leg", "weight", "I", "HamCellar") (by decide +kernel)
  have hk_0 : (Cond.fieldLinkNest "HamCellar" 184 "HamCellar$Leg" "weight" "I" "HamCellar").before ([.ref (ad 0), .int p0, .int p1] : List Value).toArray s = true := va_Nw.use rfl hk_0n
  have hk_1 : ∀ w ∈ wsX30, w ∈ wsX7_look := by decide +kernel
  have hk_2n := hE.2.1.1 ("HamCellar", 187, "HamCellar$Leg", "first", "I", "HamCellar") (by decide +kernel)
  have hk_2 : (Cond.fieldLinkNest "HamCellar" 187 "HamCellar$Leg" "first" "I" "HamCellar").before ([.ref (ad 0), .int p0, .int p1] : List Value).toArray s = true := va_Nw.use rfl hk_2n
  have hk_3n := hE.2.1.1 ("HamCellar", 190, "HamCellar$Leg", "salted", "I", "HamCellar") (by decide +kernel)
  have hk_3 : (Cond.fieldLinkNest "HamCellar" 190 "HamCellar$Leg" "salted" "I" "HamCellar").before ([.ref (ad 0), .int p0, .int p1] : List Value).toArray s = true := va_Nw.use rfl hk_3n
  have hk_4n := hE.2.1.1 ("HamCellar", 193, "HamCellar$Leg", "heat", "I", "HamCellar") (by decide +kernel)
  have hk_4 : (Cond.fieldLinkNest "HamCellar" 193 "HamCellar$Leg" "heat" "I" "HamCellar").before ([.ref (ad 0), .int p0, .int p1] : List Value).toArray s = true := va_Nw.use rfl hk_4n
  have hk_5n := hE.2.1.1 ("HamCellar", 113, "HamCellar$Leg", "sold", "Z", "HamCellar") (by decide +kernel)
  have hk_5 : (Cond.fieldLinkNest "HamCellar" 113 "HamCellar$Leg" "sold" "Z" "HamCellar").before ([.ref (ad 0), .int p0, .int p1] : List Value).toArray s = true := va_Nw.use rfl hk_5n
  have hk_6n := hE.2.1.1 ("HamCellar", 175, "HamCellar$Leg", "sealed", "Z", "HamCellar") (by decide +kernel)
  have hk_6 : (Cond.fieldLinkNest "HamCellar" 175 "HamCellar$Leg" "sealed" "Z" "HamCellar").before ([.ref (ad 0), .int p0, .int p1] : List Value).toArray s = true := va_Nw.use rfl hk_6n
  have hk_7n := hE.2.1.1 ("HamCellar", 206, "HamCellar$Leg", "bad", "Z", "HamCellar") (by decide +kernel)
  have hk_7 : (Cond.fieldLinkNest "HamCellar" 206 "HamCellar$Leg" "bad" "Z" "HamCellar").before ([.ref (ad 0), .int p0, .int p1] : List Value).toArray s = true := va_Nw.use rfl hk_7n
  have hk_8n := hE.2.1.1 ("HamCellar", 209, "HamCellar$Leg", "farm", "I", "HamCellar") (by decide +kernel)
  have hk_8 : (Cond.fieldLinkNest "HamCellar" 209 "HamCellar$Leg" "farm" "I" "HamCellar").before ([.ref (ad 0), .int p0, .int p1] : List Value).toArray s = true := va_Nw.use rfl hk_8n
  have hk_9n := hE.2.1.1 ("HamCellar", 212, "HamCellar$Leg", "pig", "I", "HamCellar") (by decide +kernel)
  have hk_9 : (Cond.fieldLinkNest "HamCellar" 212 "HamCellar$Leg" "pig" "I" "HamCellar").before ([.ref (ad 0), .int p0, .int p1] : List Value).toArray s = true := va_Nw.use rfl hk_9n
  have hk_10n := hE.2.1.1 ("HamCellar", 215, "HamCellar$Leg", "begun", "I", "HamCellar") (by decide +kernel)
  have hk_10 : (Cond.fieldLinkNest "HamCellar" 215 "HamCellar$Leg" "begun" "I" "HamCellar").before ([.ref (ad 0), .int p0, .int p1] : List Value).toArray s = true := va_Nw.use rfl hk_10n
  have hk_11 := hts (.classLink RX7 218 "java/util/NoSuchElementException") (by decide +kernel)
  have hk_12 := hts (.initialized "java/util/NoSuchElementException") (by decide +kernel)
  have hk_13 : (∀ w ∈ vx_at0 RX7 220 "java/util/NoSuchElementException" ["java/lang/RuntimeException", "java/lang/Exception"], w.before ([.ref (ad 0), .int p0, .int p1] : List Value).toArray s = true) ∧ (∀ w ∈ Cond.classLink RX7 218 "java/util/NoSuchElementException" :: Cond.initialized "java/util/NoSuchElementException" :: vx_at0 RX7 220 "java/util/NoSuchElementException" ["java/lang/RuntimeException", "java/lang/Exception"], vx_ot w = true) := ⟨vx_hat (B := [.castable "java/util/NoSuchElementException" "java/util/NoSuchElementException", .declares ⟨"java/lang/RuntimeException", "<init>", "()V"⟩, .declares ⟨"java/lang/Exception", "<init>", "()V"⟩, .declares ⟨"java/lang/Throwable", "<init>", "()V"⟩]) (fun w hw => hts w ((by decide +kernel : ∀ w ∈ (vx_at0 RX7 220 "java/util/NoSuchElementException" ["java/lang/RuntimeException", "java/lang/Exception"]).filter goodWord, w ∈ wsX7_look) w hw)) (by decide +kernel) (vx_c (va_Nw.use rfl (hE.2.1.2.2.1 "java/util/NoSuchElementException" (by decide))) (vx_c (va_Nw.use rfl (hE.2.1.2.2.2 _ (List.mem_of_getElem? (i := 0) rfl))) (vx_c (va_Nw.use rfl (hE.2.1.2.2.2 _ (List.mem_of_getElem? (i := 1) rfl))) (vx_c (va_Nw.use rfl (hE.2.1.2.2.2 _ (List.mem_of_getElem? (i := 2) rfl))) vx_n)))), by decide +kernel⟩
  have hl := lv_entry ([.ref (ad 0), .int p0, .int p1]) (n := 4) (Nat.le_of_ble_eq_true rfl)
  rw [lg_entry_eq]
  generalize (lg_sl ([.ref (ad 0), .int p0, .int p1]) ++ List.replicate (4 - (lg_sl ([.ref (ad 0), .int p0, .int p1])).length) Slot.unset).toArray = ls at hl ⊢
  have hl : lv_has ls 4 [(0, .ref (ad 0)), (1, .int p0), (2, .int p1)] := hl
  unfold wp_C_X7_look at h
  refine lv_aload_n hx hb dX7_look_0 rfl (lv_at hl 0 rfl) ?_
  refine lv_iload_n hx hb dX7_look_1 rfl (lv_at hl 1 rfl) ?_
  refine vx_callq (vx_runV (As := [.int p0]) (rest := []) ⟨hx, hb, hml, hown, hts⟩ (c_C_X7_needLeg l hl0 dC dI ad cB cI cZ cL A LP today legCount legs hung warmth damp wopen tsize bytes rat rtold rwrong numbers asked ftold ffarm ffrom fwhat fon csize ctotal offered cws cwa g_number g_farm g_pig g_first g_begun g_weight g_salted g_heat g_place g_target g_feedAsked g_sealed g_bad g_sold p0 _ _ h) (cwV 1 hts gX7_look_X7_needLeg rfl rfl rfl (by decide +kernel) ⟨(Nat.le_of_ble_eq_true rfl), (Nat.le_of_ble_eq_true rfl)⟩) ⟨kC_blind, va_recv hK hP (ci := 7) (q0 := 0) rfl wA_g0, fun U hU hW => ⟨rfl, kC_go hA hS hP hK hD hE U hU hW⟩⟩ rfl rfl hl.1 rfl (lv_room (Nat.le_of_ble_eq_true rfl)) dX7_look_2 ⟨(Nat.le_of_ble_eq_true rfl), (Nat.le_of_ble_eq_true rfl)⟩) hS (fun q _ h => h) (fun q h => h) (fun q _ h => h) (fun E9 ce9 q9 u t H locs ht hvm hw hB hz1 hk1 hS hce hcv hcl => ?_) (fun r_1 u t H locs ht hvm hw hB hz1 hk1 hS => ?_)
  · obtain ⟨x_1, rfl⟩ : ∃ z, z = u := ⟨_, rfl⟩
    obtain ⟨rfl, hB⟩ := hB
    have h := hw
    try dsimp only at h
    have hP : va_P (dC, dI) vwCl (wA ad cB cI cZ cL LP today legCount legs hung warmth damp wopen tsize bytes rat rtold rwrong numbers asked ftold ffarm ffrom fwhat fon csize ctotal offered cws cwa g_number g_farm g_pig g_first g_begun g_weight g_salted g_heat g_place g_target g_feedAsked g_sealed g_bad g_sold) H := by rw [← ht]; exact hB.1
    have hD : va_D A (wA ad cB cI cZ cL LP today legCount legs hung warmth damp wopen tsize bytes rat rtold rwrong numbers asked ftold ffarm ffrom fwhat fon csize ctotal offered cws cwa g_number g_farm g_pig g_first g_begun g_weight g_salted g_heat g_place g_target g_feedAsked g_sealed g_bad g_sold) := hB.2.2
    exact vx_out (fun x9 hx9 => (htb x9 hx9).elim) hlocks hce hcv hcl (fun t ht hv9 => ⟨(x_1), h, ⟨rfl, kB_mk hP hK hD ht hv9⟩, hS.F ht⟩) hS.2.2 (Nat.le_of_ble_eq_true rfl) (Nat.le_of_ble_eq_true rfl)
  · have h := hw
    try dsimp only at h
    have hP : va_P (dC, dI) vwCl (wA ad cB cI cZ cL LP today legCount legs hung warmth damp wopen tsize bytes rat rtold rwrong numbers asked ftold ffarm ffrom fwhat fon csize ctotal offered cws cwa g_number g_farm g_pig g_first g_begun g_weight g_salted g_heat g_place g_target g_feedAsked g_sealed g_bad g_sold) H := by rw [← ht]; exact hB.1
    have hD : va_D A (wA ad cB cI cZ cL LP today legCount legs hung warmth damp wopen tsize bytes rat rtold rwrong numbers asked ftold ffarm ffrom fwhat fon csize ctotal offered cws cwa g_number g_farm g_pig g_first g_begun g_weight g_salted g_heat g_place g_target g_feedAsked g_sealed g_bad g_sold) := hB.2.2
    cases hr_3 : r_1 with
    | none =>
      have h := h.1 hr_3
      refine lv_astore_nN (lv' := [(3, .null), (0, .ref (ad 0)), (1, .int p0), (2, .int p1)]) hx hb dX7_look_5 rfl hl (by decide) rfl (fun ls hl => ?_)
      refine lv_iload_n hx hb dX7_look_6 rfl (lv_at hl 3 rfl) ?_
      by_cases hc_7_0 : p1 = 0
      · have h := h.1 hc_7_0
        refine lv_tableIn (off := 61) (tgt := 68) hx hb dX7_look_7 (by rw [hc_7_0]; decide) (by rw [hc_7_0]; decide) (by rw [hc_7_0]; rfl) (by decide) ?_
        refine lv_aload_nN hx hb dX7_look_68 rfl (lv_at hl 0 rfl) ?_
        exact h.elim
      · have h := h.2 hc_7_0
        by_cases hc_7_1 : p1 = 1
        · have h := h.1 hc_7_1
          refine lv_tableIn (off := 66) (tgt := 73) hx hb dX7_look_7 (by rw [hc_7_1]; decide) (by rw [hc_7_1]; decide) (by rw [hc_7_1]; rfl) (by decide) ?_
          refine lv_aload_nN hx hb dX7_look_73 rfl (lv_at hl 0 rfl) ?_
          exact h.elim
        · have h := h.2 hc_7_1
          by_cases hc_7_2 : p1 = 2
          · have h := h.1 hc_7_2
            refine lv_tableIn (off := 71) (tgt := 78) hx hb dX7_look_7 (by rw [hc_7_2]; decide) (by rw [hc_7_2]; decide) (by rw [hc_7_2]; rfl) (by decide) ?_
            refine lv_aload_nN hx hb dX7_look_78 rfl (lv_at hl 0 rfl) ?_
            exact h.elim
          · have h := h.2 hc_7_2
            by_cases hc_7_3 : p1 = 3
            · have h := h.1 hc_7_3
              refine lv_tableIn (off := 76) (tgt := 83) hx hb dX7_look_7 (by rw [hc_7_3]; decide) (by rw [hc_7_3]; decide) (by rw [hc_7_3]; rfl) (by decide) ?_
              refine lv_aload_nN hx hb dX7_look_83 rfl (lv_at hl 0 rfl) ?_
              exact h.elim
            · have h := h.2 hc_7_3
              by_cases hc_7_4 : p1 = 4
              · have h := h.1 hc_7_4
                refine lv_tableIn (off := 81) (tgt := 88) hx hb dX7_look_7 (by rw [hc_7_4]; decide) (by rw [hc_7_4]; decide) (by rw [hc_7_4]; rfl) (by decide) ?_
                refine lv_aload_nN hx hb dX7_look_88 rfl (lv_at hl 0 rfl) ?_
                exact h.elim
              · have h := h.2 hc_7_4
                by_cases hc_7_5 : p1 = 5
                · have h := h.1 hc_7_5
                  refine lv_tableIn (off := 100) (tgt := 107) hx hb dX7_look_7 (by rw [hc_7_5]; decide) (by rw [hc_7_5]; decide) (by rw [hc_7_5]; rfl) (by decide) ?_
                  refine lv_aload_nN hx hb dX7_look_107 rfl (lv_at hl 0 rfl) ?_
                  exact h.elim
                · have h := h.2 hc_7_5
                  by_cases hc_7_6 : p1 = 6
                  · have h := h.1 hc_7_6
                    refine lv_tableIn (off := 105) (tgt := 112) hx hb dX7_look_7 (by rw [hc_7_6]; decide) (by rw [hc_7_6]; decide) (by rw [hc_7_6]; rfl) (by decide) ?_
                    refine lv_aload_nN hx hb dX7_look_112 rfl (lv_at hl 0 rfl) ?_
                    exact h.elim
                  · have h := h.2 hc_7_6
                    by_cases hc_7_7 : p1 = 7
                    · have h := h.1 hc_7_7
                      refine lv_tableIn (off := 110) (tgt := 117) hx hb dX7_look_7 (by rw [hc_7_7]; decide) (by rw [hc_7_7]; decide) (by rw [hc_7_7]; rfl) (by decide) ?_
                      refine lv_aload_nN hx hb dX7_look_117 rfl (lv_at hl 0 rfl) ?_
                      exact h.elim
                    · have h := h.2 hc_7_7
                      by_cases hc_7_8 : p1 = 8
                      · have h := h.1 hc_7_8
                        refine lv_tableIn (off := 118) (tgt := 125) hx hb dX7_look_7 (by rw [hc_7_8]; decide) (by rw [hc_7_8]; decide) (by rw [hc_7_8]; rfl) (by decide) ?_
                        refine lv_aload_nN hx hb dX7_look_125 rfl (lv_at hl 0 rfl) ?_
                        exact h.elim
                      · have h := h.2 hc_7_8
                        by_cases hc_7_9 : p1 = 9
                        · have h := h.1 hc_7_9
                          refine lv_tableIn (off := 126) (tgt := 133) hx hb dX7_look_7 (by rw [hc_7_9]; decide) (by rw [hc_7_9]; decide) (by rw [hc_7_9]; rfl) (by decide) ?_
                          refine lv_aload_nN hx hb dX7_look_133 rfl (lv_at hl 0 rfl) ?_
                          exact h.elim
                        · have h := h.2 hc_7_9
                          by_cases hc_7_10 : p1 = 10
                          · have h := h.1 hc_7_10
                            refine lv_tableIn (off := 131) (tgt := 138) hx hb dX7_look_7 (by rw [hc_7_10]; decide) (by rw [hc_7_10]; decide) (by rw [hc_7_10]; rfl) (by decide) ?_
                            refine lv_aload_nN hx hb dX7_look_138 rfl (lv_at hl 0 rfl) ?_
                            exact h.elim
                          · have h := h.2 hc_7_10
                            by_cases hc_7_11 : p1 = 11
                            · have h := h.1 hc_7_11
                              refine lv_tableIn (off := 136) (tgt := 143) hx hb dX7_look_7 (by rw [hc_7_11]; decide) (by rw [hc_7_11]; decide) (by rw [hc_7_11]; rfl) (by decide) ?_
                              refine lv_aload_nN hx hb dX7_look_143 rfl (lv_at hl 0 rfl) ?_
                              exact h.elim
                            · have h := h.2 hc_7_11
                              have t_0 : ¬ p1.toInt = 0 := lv_neT hc_7_0 (by decide)
                              have t_1 : ¬ p1.toInt = 1 := lv_neT hc_7_1 (by decide)
                              have t_2 : ¬ p1.toInt = 2 := lv_neT hc_7_2 (by decide)
                              have t_3 : ¬ p1.toInt = 3 := lv_neT hc_7_3 (by decide)
                              have t_4 : ¬ p1.toInt = 4 := lv_neT hc_7_4 (by decide)
                              have t_5 : ¬ p1.toInt = 5 := lv_neT hc_7_5 (by decide)
                              have t_6 : ¬ p1.toInt = 6 := lv_neT hc_7_6 (by decide)
                              have t_7 : ¬ p1.toInt = 7 := lv_neT hc_7_7 (by decide)
                              have t_8 : ¬ p1.toInt = 8 := lv_neT hc_7_8 (by decide)
                              have t_9 : ¬ p1.toInt = 9 := lv_neT hc_7_9 (by decide)
                              have t_10 : ¬ p1.toInt = 10 := lv_neT hc_7_10 (by decide)
                              have t_11 : ¬ p1.toInt = 11 := lv_neT hc_7_11 (by decide)
                              refine lv_tableOut (tgt := 148) hx hb dX7_look_7 (by omega) (by decide) ?_
                              exact vx_throw0 (own := RX7) (cls := "java/util/NoSuchElementException") (names := ["java/lang/RuntimeException", "java/lang/Exception"]) hx hb hl0 hown (by decide +kernel) (by decide +kernel) hk_11 hk_12 hk_13.1 hk_13.2 hE.1.1 hE.1.2 hS (hl.1.trans hml.symm) dX7_look_148 dX7_look_151 dX7_look_152 dX7_look_155 (fun x9 hx9 => (htb x9 hx9).elim) (Nat.le_of_ble_eq_true rfl) (Nat.le_of_ble_eq_true rfl) (Nat.le_of_ble_eq_true rfl) (Nat.le_of_ble_eq_true rfl) hlocks (fun t hv9 hz9 hk9 => by obtain ⟨b9, f9⟩ := kX_mk hS hP hK hD hv9 hz9 hk9; exact ⟨(4), h, ⟨rfl, b9⟩, f9⟩) hS.2.2 (Nat.le_of_ble_eq_true rfl) (Nat.le_of_ble_eq_true rfl)
    | some y_2 =>
      have hy_y_2 := (h.2 y_2 hr_3).1
      have h := (h.2 y_2 hr_3).2
      refine lv_astore_n (lv' := [(3, .ref y_2), (0, .ref (ad 0)), (1, .int p0), (2, .int p1)]) hx hb dX7_look_5 rfl hl (by decide) rfl (fun ls hl => ?_)
      refine lv_iload_n hx hb dX7_look_6 rfl (lv_at hl 3 rfl) ?_
      by_cases hc_7_0 : p1 = 0
      · have h := h.1 hc_7_0
        refine lv_tableIn (off := 61) (tgt := 68) hx hb dX7_look_7 (by rw [hc_7_0]; decide) (by rw [hc_7_0]; decide) (by rw [hc_7_0]; rfl) (by decide) ?_
        refine lv_aload_n hx hb dX7_look_68 rfl (lv_at hl 0 rfl) ?_
        obtain ⟨k_5, hg_k_5⟩ := wA_leg hy_y_2
        refine va_getN (D := (dC, dI)) (ci := 3) (v := .int (g_weight y_2)) (C := RX3) (T := TX3) (N := 14) hx hb hts hk_1 hown hK hP k_5 hg_k_5 rfl 5 (by decide) hk_0 (fun _ h9 => h9) rfl dX7_look_69 ?_
        refine W.widen (k := 2) (n := 12) (Nat.le_of_ble_eq_true rfl) (Nat.le_of_ble_eq_true rfl) ?_
        refine vx_ret ?_
        exact W.iret (v := g_weight y_2) hx hb hr (fun t ht hW => ⟨⟨g_weight y_2, (), rfl, h, kB_mk hP hK hD ht hW.alike⟩, hS.F ht⟩) hS.2.2 dX7_look_72
      · have h := h.2 hc_7_0
        by_cases hc_7_1 : p1 = 1
        · have h := h.1 hc_7_1
          refine lv_tableIn (off := 66) (tgt := 73) hx hb dX7_look_7 (by rw [hc_7_1]; decide) (by rw [hc_7_1]; decide) (by rw [hc_7_1]; rfl) (by decide) ?_
          refine lv_aload_n hx hb dX7_look_73 rfl (lv_at hl 0 rfl) ?_
          obtain ⟨k_6, hg_k_6⟩ := wA_leg hy_y_2
          refine va_getN (D := (dC, dI)) (ci := 3) (v := .int (g_first y_2)) (C := RX3) (T := TX3) (N := 14) hx hb hts hk_1 hown hK hP k_6 hg_k_6 rfl 3 (by decide) hk_2 (fun _ h9 => h9) rfl dX7_look_74 ?_
          refine W.widen (k := 2) (n := 12) (Nat.le_of_ble_eq_true rfl) (Nat.le_of_ble_eq_true rfl) ?_
          refine vx_ret ?_
          exact W.iret (v := g_first y_2) hx hb hr (fun t ht hW => ⟨⟨g_first y_2, (), rfl, h, kB_mk hP hK hD ht hW.alike⟩, hS.F ht⟩) hS.2.2 dX7_look_77
        · have h := h.2 hc_7_1
          by_cases hc_7_2 : p1 = 2
          · have h := h.1 hc_7_2
            refine lv_tableIn (off := 71) (tgt := 78) hx hb dX7_look_7 (by rw [hc_7_2]; decide) (by rw [hc_7_2]; decide) (by rw [hc_7_2]; rfl) (by decide) ?_
            refine lv_aload_n hx hb dX7_look_78 rfl (lv_at hl 0 rfl) ?_
            obtain ⟨k_7, hg_k_7⟩ := wA_leg hy_y_2
            refine va_getN (D := (dC, dI)) (ci := 3) (v := .int (g_salted y_2)) (C := RX3) (T := TX3) (N := 14) hx hb hts hk_1 hown hK hP k_7 hg_k_7 rfl 6 (by decide) hk_3 (fun _ h9 => h9) rfl dX7_look_79 ?_
            refine W.widen (k := 2) (n := 12) (Nat.le_of_ble_eq_true rfl) (Nat.le_of_ble_eq_true rfl) ?_
            refine vx_ret ?_
            exact W.iret (v := g_salted y_2) hx hb hr (fun t ht hW => ⟨⟨g_salted y_2, (), rfl, h, kB_mk hP hK hD ht hW.alike⟩, hS.F ht⟩) hS.2.2 dX7_look_82
          · have h := h.2 hc_7_2
            by_cases hc_7_3 : p1 = 3
            · have h := h.1 hc_7_3
              refine lv_tableIn (off := 76) (tgt := 83) hx hb dX7_look_7 (by rw [hc_7_3]; decide) (by rw [hc_7_3]; decide) (by rw [hc_7_3]; rfl) (by decide) ?_
              refine lv_aload_n hx hb dX7_look_83 rfl (lv_at hl 0 rfl) ?_
              obtain ⟨k_8, hg_k_8⟩ := wA_leg hy_y_2
              refine va_getN (D := (dC, dI)) (ci := 3) (v := .int (g_heat y_2)) (C := RX3) (T := TX3) (N := 14) hx hb hts hk_1 hown hK hP k_8 hg_k_8 rfl 7 (by decide) hk_4 (fun _ h9 => h9) rfl dX7_look_84 ?_
              refine W.widen (k := 2) (n := 12) (Nat.le_of_ble_eq_true rfl) (Nat.le_of_ble_eq_true rfl) ?_
              refine vx_ret ?_
              exact W.iret (v := g_heat y_2) hx hb hr (fun t ht hW => ⟨⟨g_heat y_2, (), rfl, h, kB_mk hP hK hD ht hW.alike⟩, hS.F ht⟩) hS.2.2 dX7_look_87
            · have h := h.2 hc_7_3
              by_cases hc_7_4 : p1 = 4
              · have h := h.1 hc_7_4
                refine lv_tableIn (off := 81) (tgt := 88) hx hb dX7_look_7 (by rw [hc_7_4]; decide) (by rw [hc_7_4]; decide) (by rw [hc_7_4]; rfl) (by decide) ?_
                refine lv_aload_n hx hb dX7_look_88 rfl (lv_at hl 0 rfl) ?_
                obtain ⟨k_9, hg_k_9⟩ := wA_leg hy_y_2
                refine va_getN (D := (dC, dI)) (ci := 3) (v := .int (g_sold y_2)) (C := RX3) (T := TX3) (N := 14) hx hb hts hk_1 hown hK hP k_9 hg_k_9 rfl 13 (by decide) hk_5 (fun _ h9 => h9) rfl dX7_look_89 ?_
                refine lv_if_eq (tgt := 99) hx hb dX7_look_92 (by decide) (fun c_10 => ?_) (fun c_10 => ?_)
                · have h := h.1 c_10
                  refine lv_aload_n hx hb dX7_look_99 rfl (lv_at hl 0 rfl) ?_
                  obtain ⟨k_12, hg_k_12⟩ := wA_leg hy_y_2
                  refine va_calli (va_runV (As := []) (rest := []) ⟨hx, hb, hml, hown, hts⟩ (c_C_X3_hangs l dC dI ad cB cI cZ cL A LP today legCount legs hung warmth damp wopen tsize bytes rat rtold rwrong numbers asked ftold ffarm ffrom fwhat fon csize ctotal offered cws cwa g_number g_farm g_pig g_first g_begun g_weight g_salted g_heat g_place g_target g_feedAsked g_sealed g_bad g_sold y_2 hy_y_2 _ h) (cwV 0 hts gX7_look_X3_hangs rfl rfl rfl (by decide +kernel) ⟨(Nat.le_of_ble_eq_true rfl), (Nat.le_of_ble_eq_true rfl)⟩) ⟨kC_blind, va_recv hK hP (ci := 3) (q0 := k_12) rfl hg_k_12, fun U hU hW => ⟨rfl, kC_go hA hS hP hK hD hE U hU hW⟩⟩ rfl rfl hl.1 rfl (lv_room (Nat.le_of_ble_eq_true rfl)) dX7_look_100 ⟨(Nat.le_of_ble_eq_true rfl), (Nat.le_of_ble_eq_true rfl)⟩) hS (fun q _ h => h) (fun q h => h) (fun r_11 u t H locs ht hvm hw hB hz1 hk1 hS => ?_)
                  have h := hw
                  try dsimp only at h
                  have hP : va_P (dC, dI) vwCl (wA ad cB cI cZ cL LP today legCount legs hung warmth damp wopen tsize bytes rat rtold rwrong numbers asked ftold ffarm ffrom fwhat fon csize ctotal offered cws cwa g_number g_farm g_pig g_first g_begun g_weight g_salted g_heat g_place g_target g_feedAsked g_sealed g_bad g_sold) H := by rw [← ht]; exact hB.1
                  have hD : va_D A (wA ad cB cI cZ cL LP today legCount legs hung warmth damp wopen tsize bytes rat rtold rwrong numbers asked ftold ffarm ffrom fwhat fon csize ctotal offered cws cwa g_number g_farm g_pig g_first g_begun g_weight g_salted g_heat g_place g_target g_feedAsked g_sealed g_bad g_sold) := hB.2.2
                  refine va_calli (va_runS (As := [.int r_11]) (rest := []) ⟨hx, hb, hml, hown, hts⟩ (c_C_X7_oneIf l dC dI ad cB cI cZ cL A LP today legCount legs hung warmth damp wopen tsize bytes rat rtold rwrong numbers asked ftold ffarm ffrom fwhat fon csize ctotal offered cws cwa g_number g_farm g_pig g_first g_begun g_weight g_salted g_heat g_place g_target g_feedAsked g_sealed g_bad g_sold r_11 _ h) (va_cwS 1 hts gX7_look_X7_oneIf rfl rfl rfl (by decide +kernel) ⟨(Nat.le_of_ble_eq_true rfl), (Nat.le_of_ble_eq_true rfl)⟩) ⟨kC_blind, fun U hU hW => ⟨rfl, kC_go hA hS hP hK hD hE U hU hW⟩⟩ rfl rfl hl.1 rfl (lv_room (Nat.le_of_ble_eq_true rfl)) dX7_look_103 ⟨(Nat.le_of_ble_eq_true rfl), (Nat.le_of_ble_eq_true rfl)⟩) hS (fun q _ h => h) (fun q h => h) (fun r_13 u t H locs ht hvm hw hB hz1 hk1 hS => ?_)
                  have h := hw
                  try dsimp only at h
                  have hP : va_P (dC, dI) vwCl (wA ad cB cI cZ cL LP today legCount legs hung warmth damp wopen tsize bytes rat rtold rwrong numbers asked ftold ffarm ffrom fwhat fon csize ctotal offered cws cwa g_number g_farm g_pig g_first g_begun g_weight g_salted g_heat g_place g_target g_feedAsked g_sealed g_bad g_sold) H := by rw [← ht]; exact hB.1
                  have hD : va_D A (wA ad cB cI cZ cL LP today legCount legs hung warmth damp wopen tsize bytes rat rtold rwrong numbers asked ftold ffarm ffrom fwhat fon csize ctotal offered cws cwa g_number g_farm g_pig g_first g_begun g_weight g_salted g_heat g_place g_target g_feedAsked g_sealed g_bad g_sold) := hB.2.2
                  refine W.widen (k := 2) (n := 12) (Nat.le_of_ble_eq_true rfl) (Nat.le_of_ble_eq_true rfl) ?_
                  refine vx_ret ?_
                  exact W.iret (v := r_13) hx hb hr (fun t ht hW => ⟨⟨r_13, (), rfl, h, kB_mk hP hK hD ht hW.alike⟩, hS.F ht⟩) hS.2.2 dX7_look_106
                · have h := h.2 c_10
                  refine lv_iconst (v := 2) hx hb dX7_look_95 (by decide) ?_
                  refine lv_goto (tgt := 106) hx hb dX7_look_96 (by decide) ?_
                  refine W.widen (k := 2) (n := 12) (Nat.le_of_ble_eq_true rfl) (Nat.le_of_ble_eq_true rfl) ?_
                  refine vx_ret ?_
                  exact W.iret (v := 2) hx hb hr (fun t ht hW => ⟨⟨2, (), rfl, h, kB_mk hP hK hD ht hW.alike⟩, hS.F ht⟩) hS.2.2 dX7_look_106
              · have h := h.2 hc_7_4
                by_cases hc_7_5 : p1 = 5
                · have h := h.1 hc_7_5
                  refine lv_tableIn (off := 100) (tgt := 107) hx hb dX7_look_7 (by rw [hc_7_5]; decide) (by rw [hc_7_5]; decide) (by rw [hc_7_5]; rfl) (by decide) ?_
                  refine lv_aload_n hx hb dX7_look_107 rfl (lv_at hl 0 rfl) ?_
                  obtain ⟨k_15, hg_k_15⟩ := wA_leg hy_y_2
                  refine va_calli (va_runV (As := []) (rest := []) ⟨hx, hb, hml, hown, hts⟩ (c_C_X3_room l dC dI ad cB cI cZ cL A LP today legCount legs hung warmth damp wopen tsize bytes rat rtold rwrong numbers asked ftold ffarm ffrom fwhat fon csize ctotal offered cws cwa g_number g_farm g_pig g_first g_begun g_weight g_salted g_heat g_place g_target g_feedAsked g_sealed g_bad g_sold y_2 hy_y_2 _ h) (cwV 0 hts gX7_look_X3_room rfl rfl rfl (by decide +kernel) ⟨(Nat.le_of_ble_eq_true rfl), (Nat.le_of_ble_eq_true rfl)⟩) ⟨kC_blind, va_recv hK hP (ci := 3) (q0 := k_15) rfl hg_k_15, fun U hU hW => ⟨rfl, kC_go hA hS hP hK hD hE U hU hW⟩⟩ rfl rfl hl.1 rfl (lv_room (Nat.le_of_ble_eq_true rfl)) dX7_look_108 ⟨(Nat.le_of_ble_eq_true rfl), (Nat.le_of_ble_eq_true rfl)⟩) hS (fun q _ h => h) (fun q h => h) (fun r_14 u t H locs ht hvm hw hB hz1 hk1 hS => ?_)
                  have h := hw
                  try dsimp only at h
                  have hP : va_P (dC, dI) vwCl (wA ad cB cI cZ cL LP today legCount legs hung warmth damp wopen tsize bytes rat rtold rwrong numbers asked ftold ffarm ffrom fwhat fon csize ctotal offered cws cwa g_number g_farm g_pig g_first g_begun g_weight g_salted g_heat g_place g_target g_feedAsked g_sealed g_bad g_sold) H := by rw [← ht]; exact hB.1
                  have hD : va_D A (wA ad cB cI cZ cL LP today legCount legs hung warmth damp wopen tsize bytes rat rtold rwrong numbers asked ftold ffarm ffrom fwhat fon csize ctotal offered cws cwa g_number g_farm g_pig g_first g_begun g_weight g_salted g_heat g_place g_target g_feedAsked g_sealed g_bad g_sold) := hB.2.2
                  refine W.widen (k := 2) (n := 12) (Nat.le_of_ble_eq_true rfl) (Nat.le_of_ble_eq_true rfl) ?_
                  refine vx_ret ?_
                  exact W.iret (v := r_14) hx hb hr (fun t ht hW => ⟨⟨r_14, (), rfl, h, kB_mk hP hK hD ht hW.alike⟩, hS.F ht⟩) hS.2.2 dX7_look_111
                · have h := h.2 hc_7_5
                  by_cases hc_7_6 : p1 = 6
                  · have h := h.1 hc_7_6
                    refine lv_tableIn (off := 105) (tgt := 112) hx hb dX7_look_7 (by rw [hc_7_6]; decide) (by rw [hc_7_6]; decide) (by rw [hc_7_6]; rfl) (by decide) ?_
                    refine lv_aload_n hx hb dX7_look_112 rfl (lv_at hl 0 rfl) ?_
                    obtain ⟨k_17, hg_k_17⟩ := wA_leg hy_y_2
                    refine va_calli (va_runV (As := []) (rest := []) ⟨hx, hb, hml, hown, hts⟩ (c_C_X3_hook l dC dI ad cB cI cZ cL A LP today legCount legs hung warmth damp wopen tsize bytes rat rtold rwrong numbers asked ftold ffarm ffrom fwhat fon csize ctotal offered cws cwa g_number g_farm g_pig g_first g_begun g_weight g_salted g_heat g_place g_target g_feedAsked g_sealed g_bad g_sold y_2 hy_y_2 _ h) (cwV 0 hts gX7_look_X3_hook rfl rfl rfl (by decide +kernel) ⟨(Nat.le_of_ble_eq_true rfl), (Nat.le_of_ble_eq_true rfl)⟩) ⟨kC_blind, va_recv hK hP (ci := 3) (q0 := k_17) rfl hg_k_17, fun U hU hW => ⟨rfl, kC_go hA hS hP hK hD hE U hU hW⟩⟩ rfl rfl hl.1 rfl (lv_room (Nat.le_of_ble_eq_true rfl)) dX7_look_113 ⟨(Nat.le_of_ble_eq_true rfl), (Nat.le_of_ble_eq_true rfl)⟩) hS (fun q _ h => h) (fun q h => h) (fun r_16 u t H locs ht hvm hw hB hz1 hk1 hS => ?_)
                    have h := hw
                    try dsimp only at h
                    have hP : va_P (dC, dI) vwCl (wA ad cB cI cZ cL LP today legCount legs hung warmth damp wopen tsize bytes rat rtold rwrong numbers asked ftold ffarm ffrom fwhat fon csize ctotal offered cws cwa g_number g_farm g_pig g_first g_begun g_weight g_salted g_heat g_place g_target g_feedAsked g_sealed g_bad g_sold) H := by rw [← ht]; exact hB.1
                    have hD : va_D A (wA ad cB cI cZ cL LP today legCount legs hung warmth damp wopen tsize bytes rat rtold rwrong numbers asked ftold ffarm ffrom fwhat fon csize ctotal offered cws cwa g_number g_farm g_pig g_first g_begun g_weight g_salted g_heat g_place g_target g_feedAsked g_sealed g_bad g_sold) := hB.2.2
                    refine W.widen (k := 2) (n := 12) (Nat.le_of_ble_eq_true rfl) (Nat.le_of_ble_eq_true rfl) ?_
                    refine vx_ret ?_
                    exact W.iret (v := r_16) hx hb hr (fun t ht hW => ⟨⟨r_16, (), rfl, h, kB_mk hP hK hD ht hW.alike⟩, hS.F ht⟩) hS.2.2 dX7_look_116
                  · have h := h.2 hc_7_6
                    by_cases hc_7_7 : p1 = 7
                    · have h := h.1 hc_7_7
                      refine lv_tableIn (off := 110) (tgt := 117) hx hb dX7_look_7 (by rw [hc_7_7]; decide) (by rw [hc_7_7]; decide) (by rw [hc_7_7]; rfl) (by decide) ?_
                      refine lv_aload_n hx hb dX7_look_117 rfl (lv_at hl 0 rfl) ?_
                      obtain ⟨k_18, hg_k_18⟩ := wA_leg hy_y_2
                      refine va_getN (D := (dC, dI)) (ci := 3) (v := .int (g_sealed y_2)) (C := RX3) (T := TX3) (N := 14) hx hb hts hk_1 hown hK hP k_18 hg_k_18 rfl 11 (by decide) hk_6 (fun _ h9 => h9) rfl dX7_look_118 ?_
                      refine va_calli (va_runS (As := [.int (g_sealed y_2)]) (rest := []) ⟨hx, hb, hml, hown, hts⟩ (c_C_X7_oneIf l dC dI ad cB cI cZ cL A LP today legCount legs hung warmth damp wopen tsize bytes rat rtold rwrong numbers asked ftold ffarm ffrom fwhat fon csize ctotal offered cws cwa g_number g_farm g_pig g_first g_begun g_weight g_salted g_heat g_place g_target g_feedAsked g_sealed g_bad g_sold (g_sealed y_2) _ h) (va_cwS 1 hts gX7_look_X7_oneIf rfl rfl rfl (by decide +kernel) ⟨(Nat.le_of_ble_eq_true rfl), (Nat.le_of_ble_eq_true rfl)⟩) ⟨kC_blind, fun U hU hW => ⟨rfl, kC_go hA hS hP hK hD hE U hU hW⟩⟩ rfl rfl hl.1 rfl (lv_room (Nat.le_of_ble_eq_true rfl)) dX7_look_121 ⟨(Nat.le_of_ble_eq_true rfl), (Nat.le_of_ble_eq_true rfl)⟩) hS (fun q _ h => h) (fun q h => h) (fun r_19 u t H locs ht hvm hw hB hz1 hk1 hS => ?_)
                      have h := hw
                      try dsimp only at h
                      have hP : va_P (dC, dI) vwCl (wA ad cB cI cZ cL LP today legCount legs hung warmth damp wopen tsize bytes rat rtold rwrong numbers asked ftold ffarm ffrom fwhat fon csize ctotal offered cws cwa g_number g_farm g_pig g_first g_begun g_weight g_salted g_heat g_place g_target g_feedAsked g_sealed g_bad g_sold) H := by rw [← ht]; exact hB.1
                      have hD : va_D A (wA ad cB cI cZ cL LP today legCount legs hung warmth damp wopen tsize bytes rat rtold rwrong numbers asked ftold ffarm ffrom fwhat fon csize ctotal offered cws cwa g_number g_farm g_pig g_first g_begun g_weight g_salted g_heat g_place g_target g_feedAsked g_sealed g_bad g_sold) := hB.2.2
                      refine W.widen (k := 2) (n := 12) (Nat.le_of_ble_eq_true rfl) (Nat.le_of_ble_eq_true rfl) ?_
                      refine vx_ret ?_
                      exact W.iret (v := r_19) hx hb hr (fun t ht hW => ⟨⟨r_19, (), rfl, h, kB_mk hP hK hD ht hW.alike⟩, hS.F ht⟩) hS.2.2 dX7_look_124
                    · have h := h.2 hc_7_7
                      by_cases hc_7_8 : p1 = 8
                      · have h := h.1 hc_7_8
                        refine lv_tableIn (off := 118) (tgt := 125) hx hb dX7_look_7 (by rw [hc_7_8]; decide) (by rw [hc_7_8]; decide) (by rw [hc_7_8]; rfl) (by decide) ?_
                        refine lv_aload_n hx hb dX7_look_125 rfl (lv_at hl 0 rfl) ?_
                        obtain ⟨k_20, hg_k_20⟩ := wA_leg hy_y_2
                        refine va_getN (D := (dC, dI)) (ci := 3) (v := .int (g_bad y_2)) (C := RX3) (T := TX3) (N := 14) hx hb hts hk_1 hown hK hP k_20 hg_k_20 rfl 12 (by decide) hk_7 (fun _ h9 => h9) rfl dX7_look_126 ?_
                        refine va_calli (va_runS (As := [.int (g_bad y_2)]) (rest := []) ⟨hx, hb, hml, hown, hts⟩ (c_C_X7_oneIf l dC dI ad cB cI cZ cL A LP today legCount legs hung warmth damp wopen tsize bytes rat rtold rwrong numbers asked ftold ffarm ffrom fwhat fon csize ctotal offered cws cwa g_number g_farm g_pig g_first g_begun g_weight g_salted g_heat g_place g_target g_feedAsked g_sealed g_bad g_sold (g_bad y_2) _ h) (va_cwS 1 hts gX7_look_X7_oneIf rfl rfl rfl (by decide +kernel) ⟨(Nat.le_of_ble_eq_true rfl), (Nat.le_of_ble_eq_true rfl)⟩) ⟨kC_blind, fun U hU hW => ⟨rfl, kC_go hA hS hP hK hD hE U hU hW⟩⟩ rfl rfl hl.1 rfl (lv_room (Nat.le_of_ble_eq_true rfl)) dX7_look_129 ⟨(Nat.le_of_ble_eq_true rfl), (Nat.le_of_ble_eq_true rfl)⟩) hS (fun q _ h => h) (fun q h => h) (fun r_21 u t H locs ht hvm hw hB hz1 hk1 hS => ?_)
                        have h := hw
                        try dsimp only at h
                        have hP : va_P (dC, dI) vwCl (wA ad cB cI cZ cL LP today legCount legs hung warmth damp wopen tsize bytes rat rtold rwrong numbers asked ftold ffarm ffrom fwhat fon csize ctotal offered cws cwa g_number g_farm g_pig g_first g_begun g_weight g_salted g_heat g_place g_target g_feedAsked g_sealed g_bad g_sold) H := by rw [← ht]; exact hB.1
                        have hD : va_D A (wA ad cB cI cZ cL LP today legCount legs hung warmth damp wopen tsize bytes rat rtold rwrong numbers asked ftold ffarm ffrom fwhat fon csize ctotal offered cws cwa g_number g_farm g_pig g_first g_begun g_weight g_salted g_heat g_place g_target g_feedAsked g_sealed g_bad g_sold) := hB.2.2
                        refine W.widen (k := 2) (n := 12) (Nat.le_of_ble_eq_true rfl) (Nat.le_of_ble_eq_true rfl) ?_
                        refine vx_ret ?_
                        exact W.iret (v := r_21) hx hb hr (fun t ht hW => ⟨⟨r_21, (), rfl, h, kB_mk hP hK hD ht hW.alike⟩, hS.F ht⟩) hS.2.2 dX7_look_132
                      · have h := h.2 hc_7_8
                        by_cases hc_7_9 : p1 = 9
                        · have h := h.1 hc_7_9
                          refine lv_tableIn (off := 126) (tgt := 133) hx hb dX7_look_7 (by rw [hc_7_9]; decide) (by rw [hc_7_9]; decide) (by rw [hc_7_9]; rfl) (by decide) ?_
                          refine lv_aload_n hx hb dX7_look_133 rfl (lv_at hl 0 rfl) ?_
                          obtain ⟨k_22, hg_k_22⟩ := wA_leg hy_y_2
                          refine va_getN (D := (dC, dI)) (ci := 3) (v := .int (g_farm y_2)) (C := RX3) (T := TX3) (N := 14) hx hb hts hk_1 hown hK hP k_22 hg_k_22 rfl 1 (by decide) hk_8 (fun _ h9 => h9) rfl dX7_look_134 ?_
                          refine W.widen (k := 2) (n := 12) (Nat.le_of_ble_eq_true rfl) (Nat.le_of_ble_eq_true rfl) ?_
                          refine vx_ret ?_
                          exact W.iret (v := g_farm y_2) hx hb hr (fun t ht hW => ⟨⟨g_farm y_2, (), rfl, h, kB_mk hP hK hD ht hW.alike⟩, hS.F ht⟩) hS.2.2 dX7_look_137
                        · have h := h.2 hc_7_9
                          by_cases hc_7_10 : p1 = 10
                          · have h := h.1 hc_7_10
                            refine lv_tableIn (off := 131) (tgt := 138) hx hb dX7_look_7 (by rw [hc_7_10]; decide) (by rw [hc_7_10]; decide) (by rw [hc_7_10]; rfl) (by decide) ?_
                            refine lv_aload_n hx hb dX7_look_138 rfl (lv_at hl 0 rfl) ?_
                            obtain ⟨k_23, hg_k_23⟩ := wA_leg hy_y_2
                            refine va_getN (D := (dC, dI)) (ci := 3) (v := .int (g_pig y_2)) (C := RX3) (T := TX3) (N := 14) hx hb hts hk_1 hown hK hP k_23 hg_k_23 rfl 2 (by decide) hk_9 (fun _ h9 => h9) rfl dX7_look_139 ?_
                            refine W.widen (k := 2) (n := 12) (Nat.le_of_ble_eq_true rfl) (Nat.le_of_ble_eq_true rfl) ?_
                            refine vx_ret ?_
                            exact W.iret (v := g_pig y_2) hx hb hr (fun t ht hW => ⟨⟨g_pig y_2, (), rfl, h, kB_mk hP hK hD ht hW.alike⟩, hS.F ht⟩) hS.2.2 dX7_look_142
                          · have h := h.2 hc_7_10
                            by_cases hc_7_11 : p1 = 11
                            · have h := h.1 hc_7_11
                              refine lv_tableIn (off := 136) (tgt := 143) hx hb dX7_look_7 (by rw [hc_7_11]; decide) (by rw [hc_7_11]; decide) (by rw [hc_7_11]; rfl) (by decide) ?_
                              refine lv_aload_n hx hb dX7_look_143 rfl (lv_at hl 0 rfl) ?_
                              obtain ⟨k_24, hg_k_24⟩ := wA_leg hy_y_2
                              refine va_getN (D := (dC, dI)) (ci := 3) (v := .int (g_begun y_2)) (C := RX3) (T := TX3) (N := 14) hx hb hts hk_1 hown hK hP k_24 hg_k_24 rfl 4 (by decide) hk_10 (fun _ h9 => h9) rfl dX7_look_144 ?_
                              refine W.widen (k := 2) (n := 12) (Nat.le_of_ble_eq_true rfl) (Nat.le_of_ble_eq_true rfl) ?_
                              refine vx_ret ?_
                              exact W.iret (v := g_begun y_2) hx hb hr (fun t ht hW => ⟨⟨g_begun y_2, (), rfl, h, kB_mk hP hK hD ht hW.alike⟩, hS.F ht⟩) hS.2.2 dX7_look_147
                            · have h := h.2 hc_7_11
                              have t_0 : ¬ p1.toInt = 0 := lv_neT hc_7_0 (by decide)
                              have t_1 : ¬ p1.toInt = 1 := lv_neT hc_7_1 (by decide)
                              have t_2 : ¬ p1.toInt = 2 := lv_neT hc_7_2 (by decide)
                              have t_3 : ¬ p1.toInt = 3 := lv_neT hc_7_3 (by decide)
                              have t_4 : ¬ p1.toInt = 4 := lv_neT hc_7_4 (by decide)
                              have t_5 : ¬ p1.toInt = 5 := lv_neT hc_7_5 (by decide)
                              have t_6 : ¬ p1.toInt = 6 := lv_neT hc_7_6 (by decide)
                              have t_7 : ¬ p1.toInt = 7 := lv_neT hc_7_7 (by decide)
                              have t_8 : ¬ p1.toInt = 8 := lv_neT hc_7_8 (by decide)
                              have t_9 : ¬ p1.toInt = 9 := lv_neT hc_7_9 (by decide)
                              have t_10 : ¬ p1.toInt = 10 := lv_neT hc_7_10 (by decide)
                              have t_11 : ¬ p1.toInt = 11 := lv_neT hc_7_11 (by decide)
                              refine lv_tableOut (tgt := 148) hx hb dX7_look_7 (by omega) (by decide) ?_
                              exact vx_throw0 (own := RX7) (cls := "java/util/NoSuchElementException") (names := ["java/lang/RuntimeException", "java/lang/Exception"]) hx hb hl0 hown (by decide +kernel) (by decide +kernel) hk_11 hk_12 hk_13.1 hk_13.2 hE.1.1 hE.1.2 hS (hl.1.trans hml.symm) dX7_look_148 dX7_look_151 dX7_look_152 dX7_look_155 (fun x9 hx9 => (htb x9 hx9).elim) (Nat.le_of_ble_eq_true rfl) (Nat.le_of_ble_eq_true rfl) (Nat.le_of_ble_eq_true rfl) (Nat.le_of_ble_eq_true rfl) hlocks (fun t hv9 hz9 hk9 => by obtain ⟨b9, f9⟩ := kX_mk hS hP hK hD hv9 hz9 hk9; exact ⟨(4), h, ⟨rfl, b9⟩, f9⟩) hS.2.2 (Nat.le_of_ble_eq_true rfl) (Nat.le_of_ble_eq_true rfl)
def wp_C_X7_on (LP : List Nat) (hung : Nat → Option Nat) (g_number : Nat → Int32) (Q : Int32 → Prop) (X : Nat → Prop) (p0 : Int32) (p1 : Int32) : Prop := wp_C_X7_needPlace (fun r_1 => wp_C_X2_legAt LP hung (fun r_2 => ((r_2 = none → Q (-1)) ∧ (∀ y_3 : Nat, r_2 = some y_3 → y_3 ∈ LP ∧ Q (g_number y_3)))) r_1) (fun x_1 => X x_1) 0 p0 p1
def rm_C_X7_on : Room := { frames := 7, cells := 1, slots := 6, locals := 103 }
abbrev pq_C_X7_on (dC : Nat → ClassId) (dI : Nat → Nat → Nat) (ad : Nat → Nat) (cB cI cZ cL : ClassId) (A : Nat → Prop) (LP : List Nat) (today legCount : Int32) (legs hung : Nat → Option Nat) (warmth damp wopen : Nat → Int32) (tsize : Int32) (bytes : Nat → Int32) (rat rtold rwrong : Int32) (numbers asked : Nat → Int32) (ftold : Int32) (ffarm ffrom fwhat fon : Nat → Int32) (csize ctotal : Int32) (offered : Nat → Option Nat) (cws cwa g_number g_farm g_pig g_first g_begun g_weight g_salted g_heat g_place g_target g_feedAsked g_sealed g_bad g_sold : Nat → Int32) (Q : Int32 → Prop) : Array Value → State → Outcome → State → Prop := va_Qi (fun (r : Int32) (u : Unit) => Q r ) (fun u t => kB dC dI A (wA ad cB cI cZ cL LP today legCount legs hung warmth damp wopen tsize bytes rat rtold rwrong numbers asked ftold ffarm ffrom fwhat fon csize ctotal offered cws cwa g_number g_farm g_pig g_first g_begun g_weight g_salted g_heat g_place g_target g_feedAsked g_sealed g_bad g_sold) (kTy cB cI cZ cL) t) A
abbrev px_C_X7_on (dC : Nat → ClassId) (dI : Nat → Nat → Nat) (ad : Nat → Nat) (cB cI cZ cL : ClassId) (A : Nat → Prop) (LP : List Nat) (today legCount : Int32) (legs hung : Nat → Option Nat) (warmth damp wopen : Nat → Int32) (tsize : Int32) (bytes : Nat → Int32) (rat rtold rwrong : Int32) (numbers asked : Nat → Int32) (ftold : Int32) (ffarm ffrom fwhat fon : Nat → Int32) (csize ctotal : Int32) (offered : Nat → Option Nat) (cws cwa g_number g_farm g_pig g_first g_begun g_weight g_salted g_heat g_place g_target g_feedAsked g_sealed g_bad g_sold : Nat → Int32) (X : Nat → Prop) : String → State → State → Prop := vx_X (fun u : Nat => X u) (fun E u t => E = kEx u ∧ kB dC dI A (wA ad cB cI cZ cL LP today legCount legs hung warmth damp wopen tsize bytes rat rtold rwrong numbers asked ftold ffarm ffrom fwhat fon csize ctotal offered cws cwa g_number g_farm g_pig g_first g_begun g_weight g_salted g_heat g_place g_target g_feedAsked g_sealed g_bad g_sold) (kTy cB cI cZ cL) t) A
set_option maxHeartbeats 4000000 in
set_option maxRecDepth 100000 in
theorem c_C_X7_on (l : Launch) (hl0 : l.stackTraces = false) (dC : Nat → ClassId) (dI : Nat → Nat → Nat) (ad : Nat → Nat) (cB cI cZ cL : ClassId) (A : Nat → Prop) (LP : List Nat) (today legCount : Int32) (legs hung : Nat → Option Nat) (warmth damp wopen : Nat → Int32) (tsize : Int32) (bytes : Nat → Int32) (rat rtold rwrong : Int32) (numbers asked : Nat → Int32) (ftold : Int32) (ffarm ffrom fwhat fon : Nat → Int32) (csize ctotal : Int32) (offered : Nat → Option Nat) (cws cwa g_number g_farm g_pig g_first g_begun g_weight g_salted g_heat g_place g_target g_feedAsked g_sealed g_bad g_sold : Nat → Int32) (p0 : Int32) (p1 : Int32)  (Q : Int32 → Prop) (X : Nat → Prop) (h : wp_C_X7_on LP hung g_number Q X p0 p1) : vx_Met l yX7_on wsX7_on rm_C_X7_on (va_Pc [.ref (ad 0), .int p0, .int p1] (kC dC dI ad A (wA ad cB cI cZ cL LP today legCount legs hung warmth damp wopen tsize bytes rat rtold rwrong numbers asked ftold ffarm ffrom fwhat fon csize ctotal offered cws cwa g_number g_farm g_pig g_first g_begun g_weight g_salted g_heat g_place g_target g_feedAsked g_sealed g_bad g_sold) (kTy cB cI cZ cL))) (pq_C_X7_on dC dI ad cB cI cZ cL A LP today legCount legs hung warmth damp wopen tsize bytes rat rtold rwrong numbers asked ftold ffarm ffrom fwhat fon csize ctotal offered cws cwa g_number g_farm g_pig g_first g_begun g_weight g_salted g_heat g_place g_target g_feedAsked g_sealed g_bad g_sold Q) (px_C_X7_on dC dI ad cB cI cZ cL A LP today legCount legs hung warmth damp wopen tsize bytes rat rtold rwrong numbers asked ftold ffarm ffrom fwhat fon csize ctotal offered cws cwa g_number g_farm g_pig g_first g_begun g_weight g_salted g_heat g_place g_target g_feedAsked g_sealed g_bad g_sold X) 1 6 A := by
  refine vx_ofW (cc := cX7_on) (maxL := 4) (ret := (some .int)) (by decide) rfl ?_
  intro p e s m args below meth c s₁ B hml htb hv
  obtain ⟨rfl, hA, hP, hK, hD, hE⟩ := hv
  have hx := B.exec
  have hb := B.bytes
  have hr := B.returns
  have hts := atoms_spec (ws := wsX7_on) B.pre
  have hown : s.vm.findClass RX7 = some m.cls := findClass_of_methodNamed B.named
  have hlocks := B.notSynchronized
  have hS : va_S A s.heap s.heap [] := va_S.rf
  have hk_0 := hts (.fieldLink RX7 18 "HamCellar" "hooks" "LHamCellar$Hooks;") (by decide +kernel)
  have hk_1 : ∀ w ∈ wsX70, w ∈ wsX7_on := by decide +kernel
  have hk_2n := hE.2.1.1 ("HamCellar", 221, "HamCellar$Leg", "number", "I", "HamCellar") (by decide +kernel)
  have hk_2 : (Cond.fieldLinkNest "HamCellar" 221 "HamCellar$Leg" "number" "I" "HamCellar").before ([.ref (ad 0), .int p0, .int p1] : List Value).toArray s = true := va_Nw.use rfl hk_2n
  have hk_3 : ∀ w ∈ wsX30, w ∈ wsX7_on := by decide +kernel
  have hl := lv_entry ([.ref (ad 0), .int p0, .int p1]) (n := 4) (Nat.le_of_ble_eq_true rfl)
  rw [lg_entry_eq]
  generalize (lg_sl ([.ref (ad 0), .int p0, .int p1]) ++ List.replicate (4 - (lg_sl ([.ref (ad 0), .int p0, .int p1])).length) Slot.unset).toArray = ls at hl ⊢
  have hl : lv_has ls 4 [(0, .ref (ad 0)), (1, .int p0), (2, .int p1)] := hl
  unfold wp_C_X7_on at h
  refine lv_aload_n hx hb dX7_on_0 rfl (lv_at hl 0 rfl) ?_
  refine va_get (D := (dC, dI)) (ci := 7) (v := .ref (ad 2)) (C := RX7) (T := TX7) (N := 10) hx hb hts hk_1 hown hK hP 0 wA_g0 rfl 3 (by decide) hk_0 (fun _ h9 => h9) rfl dX7_on_1 ?_
  refine lv_iconst (v := 0) hx hb dX7_on_4 (by decide) ?_
  refine lv_iload_n hx hb dX7_on_5 rfl (lv_at hl 1 rfl) ?_
  refine lv_iload_n hx hb dX7_on_6 rfl (lv_at hl 2 rfl) ?_
  refine vx_calli (vx_runS (As := [.int 0, .int p0, .int p1]) (rest := [.ref (ad 2)]) ⟨hx, hb, hml, hown, hts⟩ (c_C_X7_needPlace l hl0 dC dI ad cB cI cZ cL A LP today legCount legs hung warmth damp wopen tsize bytes rat rtold rwrong numbers asked ftold ffarm ffrom fwhat fon csize ctotal offered cws cwa g_number g_farm g_pig g_first g_begun g_weight g_salted g_heat g_place g_target g_feedAsked g_sealed g_bad g_sold 0 p0 p1 _ _ h) (va_cwS 3 hts gX7_on_X7_needPlace rfl rfl rfl (by decide +kernel) ⟨(Nat.le_of_ble_eq_true rfl), (Nat.le_of_ble_eq_true rfl)⟩) ⟨kC_blind, fun U hU hW => ⟨rfl, kC_go hA hS hP hK hD hE U hU hW⟩⟩ rfl rfl hl.1 rfl (lv_room (Nat.le_of_ble_eq_true rfl)) dX7_on_7 ⟨(Nat.le_of_ble_eq_true rfl), (Nat.le_of_ble_eq_true rfl)⟩) hS (fun q _ h => h) (fun q h => h) (fun q _ h => h) (fun E9 ce9 q9 u t H locs ht hvm hw hB hz1 hk1 hS hce hcv hcl => ?_) (fun r_1 u t H locs ht hvm hw hB hz1 hk1 hS => ?_)
  · obtain ⟨x_1, rfl⟩ : ∃ z, z = u := ⟨_, rfl⟩
    obtain ⟨rfl, hB⟩ := hB
    have h := hw
    try dsimp only at h
    have hP : va_P (dC, dI) vwCl (wA ad cB cI cZ cL LP today legCount legs hung warmth damp wopen tsize bytes rat rtold rwrong numbers asked ftold ffarm ffrom fwhat fon csize ctotal offered cws cwa g_number g_farm g_pig g_first g_begun g_weight g_salted g_heat g_place g_target g_feedAsked g_sealed g_bad g_sold) H := by rw [← ht]; exact hB.1
    have hD : va_D A (wA ad cB cI cZ cL LP today legCount legs hung warmth damp wopen tsize bytes rat rtold rwrong numbers asked ftold ffarm ffrom fwhat fon csize ctotal offered cws cwa g_number g_farm g_pig g_first g_begun g_weight g_salted g_heat g_place g_target g_feedAsked g_sealed g_bad g_sold) := hB.2.2
    exact vx_out (fun x9 hx9 => (htb x9 hx9).elim) hlocks hce hcv hcl (fun t ht hv9 => ⟨(x_1), h, ⟨rfl, kB_mk hP hK hD ht hv9⟩, hS.F ht⟩) hS.2.2 (Nat.le_of_ble_eq_true rfl) (Nat.le_of_ble_eq_true rfl)
  · have h := hw
    try dsimp only at h
    have hP : va_P (dC, dI) vwCl (wA ad cB cI cZ cL LP today legCount legs hung warmth damp wopen tsize bytes rat rtold rwrong numbers asked ftold ffarm ffrom fwhat fon csize ctotal offered cws cwa g_number g_farm g_pig g_first g_begun g_weight g_salted g_heat g_place g_target g_feedAsked g_sealed g_bad g_sold) H := by rw [← ht]; exact hB.1
    have hD : va_D A (wA ad cB cI cZ cL LP today legCount legs hung warmth damp wopen tsize bytes rat rtold rwrong numbers asked ftold ffarm ffrom fwhat fon csize ctotal offered cws cwa g_number g_farm g_pig g_first g_begun g_weight g_salted g_heat g_place g_target g_feedAsked g_sealed g_bad g_sold) := hB.2.2
    refine va_callq (va_runV (As := [.int r_1]) (rest := []) ⟨hx, hb, hml, hown, hts⟩ (c_C_X2_legAt l dC dI ad cB cI cZ cL A LP today legCount legs hung warmth damp wopen tsize bytes rat rtold rwrong numbers asked ftold ffarm ffrom fwhat fon csize ctotal offered cws cwa g_number g_farm g_pig g_first g_begun g_weight g_salted g_heat g_place g_target g_feedAsked g_sealed g_bad g_sold r_1 _ h) (cwV 1 hts gX7_on_X2_legAt rfl rfl rfl (by decide +kernel) ⟨(Nat.le_of_ble_eq_true rfl), (Nat.le_of_ble_eq_true rfl)⟩) ⟨kC_blind, va_recv hK hP (ci := 2) (q0 := 2) rfl wA_g2, fun U hU hW => ⟨rfl, kC_go hA hS hP hK hD hE U hU hW⟩⟩ rfl rfl hl.1 rfl (lv_room (Nat.le_of_ble_eq_true rfl)) dX7_on_10 ⟨(Nat.le_of_ble_eq_true rfl), (Nat.le_of_ble_eq_true rfl)⟩) hS (fun q _ h => h) (fun q h => h) (fun r_2 u t H locs ht hvm hw hB hz1 hk1 hS => ?_)
    have h := hw
    try dsimp only at h
    have hP : va_P (dC, dI) vwCl (wA ad cB cI cZ cL LP today legCount legs hung warmth damp wopen tsize bytes rat rtold rwrong numbers asked ftold ffarm ffrom fwhat fon csize ctotal offered cws cwa g_number g_farm g_pig g_first g_begun g_weight g_salted g_heat g_place g_target g_feedAsked g_sealed g_bad g_sold) H := by rw [← ht]; exact hB.1
    have hD : va_D A (wA ad cB cI cZ cL LP today legCount legs hung warmth damp wopen tsize bytes rat rtold rwrong numbers asked ftold ffarm ffrom fwhat fon csize ctotal offered cws cwa g_number g_farm g_pig g_first g_begun g_weight g_salted g_heat g_place g_target g_feedAsked g_sealed g_bad g_sold) := hB.2.2
    cases hr_4 : r_2 with
    | none =>
      have h := h.1 hr_4
      refine lv_astore_nN (lv' := [(3, .null), (0, .ref (ad 0)), (1, .int p0), (2, .int p1)]) hx hb dX7_on_13 rfl hl (by decide) rfl (fun ls hl => ?_)
      refine lv_aload_nN hx hb dX7_on_14 rfl (lv_at hl 0 rfl) ?_
      refine lv_ifnonnullN hx hb dX7_on_15 ?_
      refine lv_iconst (v := (-1)) hx hb dX7_on_18 (by decide) ?_
      refine lv_goto (tgt := 26) hx hb dX7_on_19 (by decide) ?_
      refine vx_ret ?_
      exact W.iret (v := (-1)) hx hb hr (fun t ht hW => ⟨⟨(-1), (), rfl, h, kB_mk hP hK hD ht hW.alike⟩, hS.F ht⟩) hS.2.2 dX7_on_26
    | some y_3 =>
      have hy_y_3 := (h.2 y_3 hr_4).1
      have h := (h.2 y_3 hr_4).2
      refine lv_astore_n (lv' := [(3, .ref y_3), (0, .ref (ad 0)), (1, .int p0), (2, .int p1)]) hx hb dX7_on_13 rfl hl (by decide) rfl (fun ls hl => ?_)
      refine lv_aload_n hx hb dX7_on_14 rfl (lv_at hl 0 rfl) ?_
      refine lv_ifnonnull (tgt := 22) hx hb dX7_on_15 (by decide) ?_
      refine lv_aload_n hx hb dX7_on_22 rfl (lv_at hl 0 rfl) ?_
      obtain ⟨k_6, hg_k_6⟩ := wA_leg hy_y_3
      refine va_getN (D := (dC, dI)) (ci := 3) (v := .int (g_number y_3)) (C := RX3) (T := TX3) (N := 14) hx hb hts hk_3 hown hK hP k_6 hg_k_6 rfl 0 (by decide) hk_2 (fun _ h9 => h9) rfl dX7_on_23 ?_
      refine vx_ret ?_
      exact W.iret (v := g_number y_3) hx hb hr (fun t ht hW => ⟨⟨g_number y_3, (), rfl, h, kB_mk hP hK hD ht hW.alike⟩, hS.F ht⟩) hS.2.2 dX7_on_26
def bk_C_X7_isToldForAnother_47 (LP : List Nat) (legs : Nat → Option Nat) (g_target : Nat → Int32)  (Q : Int32 → Prop) (K12 : Nat → Int32 → Int32 → Int32 → Prop) (v1 : Nat) (v2 : Int32) (v4 : Int32) (v5 : Int32) : Prop := K12 v1 v2 v4 (v5 + 1)
def lp_C_X7_isToldForAnother_12 (LP : List Nat) (legs : Nat → Option Nat) (g_target : Nat → Int32)  (Q : Int32 → Prop) : Nat → Nat → Int32 → Int32 → Int32 → Prop
  | 0 => fun _ _ _ _ => False
  | n + 1 => fun v1 v2 v4 v5 => ((v4 ≤ v5 → (o01 0 ∧ Q 0 )) ∧ (¬ (v4 ≤ v5) → (vp_in v5 60 ∧ ((legs v5.toNatClampNeg = none → bk_C_X7_isToldForAnother_47 LP legs g_target Q (lp_C_X7_isToldForAnother_12 LP legs g_target Q n) v1 v2 v4 v5) ∧ (∀ y_3 : Nat, legs v5.toNatClampNeg = some y_3 → y_3 ∈ LP ∧ (((some y_3) = (some v1) → bk_C_X7_isToldForAnother_47 LP legs g_target Q (lp_C_X7_isToldForAnother_12 LP legs g_target Q n) v1 v2 v4 v5) ∧ (¬ ((some y_3) = (some v1)) → ((¬ (g_target y_3) = v2 → bk_C_X7_isToldForAnother_47 LP legs g_target Q (lp_C_X7_isToldForAnother_12 LP legs g_target Q n) v1 v2 v4 v5) ∧ ((g_target y_3) = v2 → (o01 1 ∧ Q 1 ))))))))))
def wp_C_X7_isToldForAnother (LP : List Nat) (legs : Nat → Option Nat) (g_target : Nat → Int32) (Q : Int32 → Prop) (p0 : Nat) (p1 : Int32) : Prop := (∃ n_9, lp_C_X7_isToldForAnother_12 LP legs g_target Q n_9 p0 p1 60 0)
def rm_C_X7_isToldForAnother : Room := { frames := 0, cells := 0, slots := 0, locals := 0 }
abbrev pq_C_X7_isToldForAnother (dC : Nat → ClassId) (dI : Nat → Nat → Nat) (ad : Nat → Nat) (cB cI cZ cL : ClassId) (A : Nat → Prop) (LP : List Nat) (today legCount : Int32) (legs hung : Nat → Option Nat) (warmth damp wopen : Nat → Int32) (tsize : Int32) (bytes : Nat → Int32) (rat rtold rwrong : Int32) (numbers asked : Nat → Int32) (ftold : Int32) (ffarm ffrom fwhat fon : Nat → Int32) (csize ctotal : Int32) (offered : Nat → Option Nat) (cws cwa g_number g_farm g_pig g_first g_begun g_weight g_salted g_heat g_place g_target g_feedAsked g_sealed g_bad g_sold : Nat → Int32) (Q : Int32 → Prop) : Array Value → State → Outcome → State → Prop := va_Qi (fun (r : Int32) (u : Unit) => Q r ) (fun u t => kB dC dI A (wA ad cB cI cZ cL LP today legCount legs hung warmth damp wopen tsize bytes rat rtold rwrong numbers asked ftold ffarm ffrom fwhat fon csize ctotal offered cws cwa g_number g_farm g_pig g_first g_begun g_weight g_salted g_heat g_place g_target g_feedAsked g_sealed g_bad g_sold) (kTy cB cI cZ cL) t) A
set_option maxHeartbeats 4000000 in
set_option maxRecDepth 100000 in
theorem c_C_X7_isToldForAnother (l : Launch) (dC : Nat → ClassId) (dI : Nat → Nat → Nat) (ad : Nat → Nat) (cB cI cZ cL : ClassId) (A : Nat → Prop) (LP : List Nat) (today legCount : Int32) (legs hung : Nat → Option Nat) (warmth damp wopen : Nat → Int32) (tsize : Int32) (bytes : Nat → Int32) (rat rtold rwrong : Int32) (numbers asked : Nat → Int32) (ftold : Int32) (ffarm ffrom fwhat fon : Nat → Int32) (csize ctotal : Int32) (offered : Nat → Option Nat) (cws cwa g_number g_farm g_pig g_first g_begun g_weight g_salted g_heat g_place g_target g_feedAsked g_sealed g_bad g_sold : Nat → Int32) (p0 : Nat) (p1 : Int32) (hy_p0 : p0 ∈ LP) (Q : Int32 → Prop) (h : wp_C_X7_isToldForAnother LP legs g_target Q p0 p1) : Met l yX7_isToldForAnother wsX7_isToldForAnother rm_C_X7_isToldForAnother (va_Pc [.ref (ad 0), .ref p0, .int p1] (kC dC dI ad A (wA ad cB cI cZ cL LP today legCount legs hung warmth damp wopen tsize bytes rat rtold rwrong numbers asked ftold ffarm ffrom fwhat fon csize ctotal offered cws cwa g_number g_farm g_pig g_first g_begun g_weight g_salted g_heat g_place g_target g_feedAsked g_sealed g_bad g_sold) (kTy cB cI cZ cL))) (pq_C_X7_isToldForAnother dC dI ad cB cI cZ cL A LP today legCount legs hung warmth damp wopen tsize bytes rat rtold rwrong numbers asked ftold ffarm ffrom fwhat fon csize ctotal offered cws cwa g_number g_farm g_pig g_first g_begun g_weight g_salted g_heat g_place g_target g_feedAsked g_sealed g_bad g_sold Q) 0 0 A := by
  refine Met.ofW (cc := cX7_isToldForAnother) (maxL := 7) (ret := (some .boolean)) (by decide) rfl ?_
  intro p e s m args below meth c s₁ B hml hv
  obtain ⟨rfl, hA, hP, hK, hD, hE⟩ := hv
  have hx := B.exec
  have hb := B.bytes
  have hr := B.returns
  have hts := atoms_spec (ws := wsX7_isToldForAnother) B.pre
  have hown : s.vm.findClass RX7 = some m.cls := findClass_of_methodNamed B.named
  have hlocks := B.notSynchronized
  have hS : va_S A s.heap s.heap [] := va_S.rf
  have hk_0 := hts (.fieldLink RX7 11 "HamCellar" "legs" "[LHamCellar$Leg;") (by decide +kernel)
  have hk_1 : ∀ w ∈ wsX70, w ∈ wsX7_isToldForAnother := by decide +kernel
  have hk_2n := hE.2.1.1 ("HamCellar", 231, "HamCellar$Leg", "target", "I", "HamCellar") (by decide +kernel)
  have hk_2 : (Cond.fieldLinkNest "HamCellar" 231 "HamCellar$Leg" "target" "I" "HamCellar").before ([.ref (ad 0), .ref p0, .int p1] : List Value).toArray s = true := va_Nw.use rfl hk_2n
  have hk_3 : ∀ w ∈ wsX30, w ∈ wsX7_isToldForAnother := by decide +kernel
  have hbk_C_X7_isToldForAnother_47 : ∀ (K12 : Nat → Int32 → Int32 → Int32 → Prop) (hK12 : ∀ (v1 : Nat) (v2 : Int32) (v4 : Int32) (v5 : Int32) (hy_v1 : v1 ∈ LP) (H : Heap) (locs : List Loc) (ls : Array Slot), va_P (dC, dI) vwCl (wA ad cB cI cZ cL LP today legCount legs hung warmth damp wopen tsize bytes rat rtold rwrong numbers asked ftold ffarm ffrom fwhat fon csize ctotal offered cws cwa g_number g_farm g_pig g_first g_begun g_weight g_salted g_heat g_place g_target g_feedAsked g_sealed g_bad g_sold) H → va_D A (wA ad cB cI cZ cL LP today legCount legs hung warmth damp wopen tsize bytes rat rtold rwrong numbers asked ftold ffarm ffrom fwhat fon csize ctotal offered cws cwa g_number g_farm g_pig g_first g_begun g_weight g_salted g_heat g_place g_target g_feedAsked g_sealed g_bad g_sold) → va_S A s.heap H locs → lv_has ls 7 [(1, .ref v1), (2, .int v2), (3, .ref (ad 1)), (4, .int v4), (5, .int v5)] → K12 v1 v2 v4 v5 → W p l e (headSpec wsX7_isToldForAnother rm_C_X7_isToldForAnother).room s m ([.ref (ad 0), .ref p0, .int p1] : List Value).toArray below meth c H locs 0 0 (MQ below (pq_C_X7_isToldForAnother dC dI ad cB cI cZ cL A LP today legCount legs hung warmth damp wopen tsize bytes rat rtold rwrong numbers asked ftold ffarm ffrom fwhat fon csize ctotal offered cws cwa g_number g_farm g_pig g_first g_begun g_weight g_salted g_heat g_place g_target g_feedAsked g_sealed g_bad g_sold Q) ([.ref (ad 0), .ref p0, .int p1] : List Value).toArray s 0 0 A) (F0 m 12 ls [])) (v1 : Nat) (v2 : Int32) (v4 : Int32) (v5 : Int32) (hy_v1 : v1 ∈ LP) (H : Heap) (locs : List Loc) (ls : Array Slot), va_P (dC, dI) vwCl (wA ad cB cI cZ cL LP today legCount legs hung warmth damp wopen tsize bytes rat rtold rwrong numbers asked ftold ffarm ffrom fwhat fon csize ctotal offered cws cwa g_number g_farm g_pig g_first g_begun g_weight g_salted g_heat g_place g_target g_feedAsked g_sealed g_bad g_sold) H → va_D A (wA ad cB cI cZ cL LP today legCount legs hung warmth damp wopen tsize bytes rat rtold rwrong numbers asked ftold ffarm ffrom fwhat fon csize ctotal offered cws cwa g_number g_farm g_pig g_first g_begun g_weight g_salted g_heat g_place g_target g_feedAsked g_sealed g_bad g_sold) → va_S A s.heap H locs → lv_has ls 7 [(1, .ref v1), (2, .int v2), (3, .ref (ad 1)), (4, .int v4), (5, .int v5)] → bk_C_X7_isToldForAnother_47 LP legs g_target Q K12 v1 v2 v4 v5 → W p l e (headSpec wsX7_isToldForAnother rm_C_X7_isToldForAnother).room s m ([.ref (ad 0), .ref p0, .int p1] : List Value).toArray below meth c H locs 0 0 (MQ below (pq_C_X7_isToldForAnother dC dI ad cB cI cZ cL A LP today legCount legs hung warmth damp wopen tsize bytes rat rtold rwrong numbers asked ftold ffarm ffrom fwhat fon csize ctotal offered cws cwa g_number g_farm g_pig g_first g_begun g_weight g_salted g_heat g_place g_target g_feedAsked g_sealed g_bad g_sold Q) ([.ref (ad 0), .ref p0, .int p1] : List Value).toArray s 0 0 A) (F0 m 47 ls []) := by
    intro K12 hK12 v1 v2 v4 v5 hy_v1 H locs ls hP hD hS hl h
    refine lv_iinc (v := v5 + 1) (lv' := [(5, .int (v5 + 1)), (1, .ref v1), (2, .int v2), (3, .ref (ad 1)), (4, .int v4)]) hx hb dX7_isToldForAnother_47 hl (k := 4) rfl rfl (by decide) rfl (fun ls hl => ?_)
    refine lv_goto (tgt := 12) hx hb dX7_isToldForAnother_50 (by decide) ?_
    exact hK12 v1 v2 v4 (v5 + 1) hy_v1 _ _ _ hP hD hS (lv_sub hl [1, 2, 3, 4, 0] rfl) h
  have hlp_C_X7_isToldForAnother_12 : ∀ (n : Nat) (v1 : Nat) (v2 : Int32) (v4 : Int32) (v5 : Int32) (hy_v1 : v1 ∈ LP) (H : Heap) (locs : List Loc) (ls : Array Slot), va_P (dC, dI) vwCl (wA ad cB cI cZ cL LP today legCount legs hung warmth damp wopen tsize bytes rat rtold rwrong numbers asked ftold ffarm ffrom fwhat fon csize ctotal offered cws cwa g_number g_farm g_pig g_first g_begun g_weight g_salted g_heat g_place g_target g_feedAsked g_sealed g_bad g_sold) H → va_D A (wA ad cB cI cZ cL LP today legCount legs hung warmth damp wopen tsize bytes rat rtold rwrong numbers asked ftold ffarm ffrom fwhat fon csize ctotal offered cws cwa g_number g_farm g_pig g_first g_begun g_weight g_salted g_heat g_place g_target g_feedAsked g_sealed g_bad g_sold) → va_S A s.heap H locs → lv_has ls 7 [(1, .ref v1), (2, .int v2), (3, .ref (ad 1)), (4, .int v4), (5, .int v5)] → lp_C_X7_isToldForAnother_12 LP legs g_target Q n v1 v2 v4 v5 → W p l e (headSpec wsX7_isToldForAnother rm_C_X7_isToldForAnother).room s m ([.ref (ad 0), .ref p0, .int p1] : List Value).toArray below meth c H locs 0 0 (MQ below (pq_C_X7_isToldForAnother dC dI ad cB cI cZ cL A LP today legCount legs hung warmth damp wopen tsize bytes rat rtold rwrong numbers asked ftold ffarm ffrom fwhat fon csize ctotal offered cws cwa g_number g_farm g_pig g_first g_begun g_weight g_salted g_heat g_place g_target g_feedAsked g_sealed g_bad g_sold Q) ([.ref (ad 0), .ref p0, .int p1] : List Value).toArray s 0 0 A) (F0 m 12 ls []) := by
    intro n
    induction n with
    | zero => intro v1 v2 v4 v5 hy_v1 H locs ls hP hD hS hl h; exact h.elim
    | succ n ih =>
      intro v1 v2 v4 v5 hy_v1 H locs ls hP hD hS hl h
      refine lv_iload hx hb dX7_isToldForAnother_12 (lv_at hl 4 rfl) ?_
      refine lv_iload hx hb dX7_isToldForAnother_14 (lv_at hl 3 rfl) ?_
      refine lv_icmp_ge (tgt := 53) hx hb dX7_isToldForAnother_16 (by decide) (fun c_1 => ?_) (fun c_1 => ?_)
      · have h := h.1 c_1
        refine lv_iconst (v := 0) hx hb dX7_isToldForAnother_53 (by decide) ?_
        exact W.zret (v := 0) (ty := .boolean) hx hb hr (z01 h.1) (fun t ht hW => ⟨⟨0, (), rfl, h.2, kB_mk hP hK hD ht hW.alike⟩, hS.F ht⟩) hS.2.2 dX7_isToldForAnother_54
      · have h := h.2 c_1
        refine lv_aload_n hx hb dX7_isToldForAnother_19 rfl (lv_at hl 2 rfl) ?_
        refine lv_iload hx hb dX7_isToldForAnother_20 (lv_at hl 4 rfl) ?_
        have hi_2 := h.1
        have h := h.2
        refine va_aldq hx hb hK hP 1 3 wA_g1 rfl hi_2 dX7_isToldForAnother_22 ?_
        cases hr_4 : legs v5.toNatClampNeg with
        | none =>
          have h := h.1 hr_4
          refine lv_astoreN (lv' := [(6, .null), (1, .ref v1), (2, .int v2), (3, .ref (ad 1)), (4, .int v4), (5, .int v5)]) hx hb dX7_isToldForAnother_23 hl (by decide) rfl (fun ls hl => ?_)
          refine lv_aloadN hx hb dX7_isToldForAnother_25 (lv_at hl 0 rfl) ?_
          refine lv_ifnullN (tgt := 47) hx hb dX7_isToldForAnother_27 (by decide) ?_
          exact hbk_C_X7_isToldForAnother_47 (lp_C_X7_isToldForAnother_12 LP legs g_target Q n) ih v1 v2 v4 v5 hy_v1 _ _ _ hP hD hS (lv_sub hl [1, 2, 3, 4, 5] rfl) h
        | some y_3 =>
          have hy_y_3 := (h.2 y_3 hr_4).1
          have h := (h.2 y_3 hr_4).2
          refine lv_astore (lv' := [(6, .ref y_3), (1, .ref v1), (2, .int v2), (3, .ref (ad 1)), (4, .int v4), (5, .int v5)]) hx hb dX7_isToldForAnother_23 hl (by decide) rfl (fun ls hl => ?_)
          refine lv_aload hx hb dX7_isToldForAnother_25 (lv_at hl 0 rfl) ?_
          refine lv_ifnull hx hb dX7_isToldForAnother_27 ?_
          refine lv_aload hx hb dX7_isToldForAnother_30 (lv_at hl 0 rfl) ?_
          refine lv_aload_n hx hb dX7_isToldForAnother_32 rfl (lv_at hl 1 rfl) ?_
          refine lv_acmp_eq (rx := (some y_3)) (ry := (some v1)) (tgt := 47) hx hb dX7_isToldForAnother_33 (by decide) (fun c_6 => ?_) (fun c_6 => ?_)
          · have h := h.1 c_6
            exact hbk_C_X7_isToldForAnother_47 (lp_C_X7_isToldForAnother_12 LP legs g_target Q n) ih v1 v2 v4 v5 hy_v1 _ _ _ hP hD hS (lv_sub hl [1, 2, 3, 4, 5] rfl) h
          · have h := h.2 c_6
            refine lv_aload hx hb dX7_isToldForAnother_36 (lv_at hl 0 rfl) ?_
            obtain ⟨k_7, hg_k_7⟩ := wA_leg hy_y_3
            refine va_getN (D := (dC, dI)) (ci := 3) (v := .int (g_target y_3)) (C := RX3) (T := TX3) (N := 14) hx hb hts hk_3 hown hK hP k_7 hg_k_7 rfl 9 (by decide) hk_2 (fun _ h9 => h9) rfl dX7_isToldForAnother_38 ?_
            refine lv_iload_n hx hb dX7_isToldForAnother_41 rfl (lv_at hl 2 rfl) ?_
            refine lv_icmp_ne (tgt := 47) hx hb dX7_isToldForAnother_42 (by decide) (fun c_8 => ?_) (fun c_8 => ?_)
            · have h := h.1 c_8
              exact hbk_C_X7_isToldForAnother_47 (lp_C_X7_isToldForAnother_12 LP legs g_target Q n) ih v1 v2 v4 v5 hy_v1 _ _ _ hP hD hS (lv_sub hl [1, 2, 3, 4, 5] rfl) h
            · have h := h.2 c_8
              refine lv_iconst (v := 1) hx hb dX7_isToldForAnother_45 (by decide) ?_
              exact W.zret (v := 1) (ty := .boolean) hx hb hr (z01 h.1) (fun t ht hW => ⟨⟨1, (), rfl, h.2, kB_mk hP hK hD ht hW.alike⟩, hS.F ht⟩) hS.2.2 dX7_isToldForAnother_46
  have hl := lv_entry ([.ref (ad 0), .ref p0, .int p1]) (n := 7) (Nat.le_of_ble_eq_true rfl)
  rw [lg_entry_eq]
  generalize (lg_sl ([.ref (ad 0), .ref p0, .int p1]) ++ List.replicate (7 - (lg_sl ([.ref (ad 0), .ref p0, .int p1])).length) Slot.unset).toArray = ls at hl ⊢
  have hl : lv_has ls 7 [(0, .ref (ad 0)), (1, .ref p0), (2, .int p1)] := hl
  unfold wp_C_X7_isToldForAnother at h
  refine lv_aload_n hx hb dX7_isToldForAnother_0 rfl (lv_at hl 0 rfl) ?_
  refine va_get (D := (dC, dI)) (ci := 7) (v := .ref (ad 1)) (C := RX7) (T := TX7) (N := 10) hx hb hts hk_1 hown hK hP 0 wA_g0 rfl 2 (by decide) hk_0 (fun _ h9 => h9) rfl dX7_isToldForAnother_1 ?_
  refine lv_astore_n (lv' := [(3, .ref (ad 1)), (0, .ref (ad 0)), (1, .ref p0), (2, .int p1)]) hx hb dX7_isToldForAnother_4 rfl hl (by decide) rfl (fun ls hl => ?_)
  refine lv_aload_n hx hb dX7_isToldForAnother_5 rfl (lv_at hl 0 rfl) ?_
  refine va_alen hx hb hK hP 1 3 wA_g1 rfl (v := 60) rfl dX7_isToldForAnother_6 ?_
  refine lv_istore (lv' := [(4, .int 60), (3, .ref (ad 1)), (0, .ref (ad 0)), (1, .ref p0), (2, .int p1)]) hx hb dX7_isToldForAnother_7 hl (by decide) rfl (fun ls hl => ?_)
  refine lv_iconst (v := 0) hx hb dX7_isToldForAnother_9 (by decide) ?_
  refine lv_istore (lv' := [(5, .int 0), (4, .int 60), (3, .ref (ad 1)), (0, .ref (ad 0)), (1, .ref p0), (2, .int p1)]) hx hb dX7_isToldForAnother_10 hl (by decide) rfl (fun ls hl => ?_)
  obtain ⟨n_9, h⟩ := h
  exact hlp_C_X7_isToldForAnother_12 n_9 p0 p1 60 0 hy_p0 _ _ _ hP hD hS (lv_sub hl [4, 5, 2, 1, 0] rfl) h
def wp_C_X7_should (LP : List Nat) (legs : Nat → Option Nat) (g_place : Nat → Int32) (Q : Int32 → (Nat → Int32) → Prop) (X : Nat → (Nat → Int32) → Prop) (g_target : Nat → Int32) (p0 : Int32) (p1 : Int32) (p2 : Int32) : Prop := wp_C_X7_needLeg LP legs (fun r_1 => ((r_1 = none → wp_C_X7_needPlace (fun r_5 => False) (fun x_5 => X x_5 g_target) 1 p1 p2) ∧ (∀ y_2 : Nat, r_1 = some y_2 → y_2 ∈ LP ∧ wp_C_X7_needPlace (fun r_6 => wp_C_X3_hangsInAir LP g_place (fun r_7 => ((r_7 = 0 → (o01 0 ∧ Q 0 g_target)) ∧ (¬ (r_7 = 0) → wp_C_X7_isToldForAnother LP legs g_target (fun r_10 => ((r_10 = 0 → (o01 1 ∧ Q 1 (va_up g_target y_2 r_6))) ∧ (¬ (r_10 = 0) → (o01 0 ∧ Q 0 g_target)))) y_2 r_6))) y_2) (fun x_6 => X x_6 g_target) 1 p1 p2))) (fun x_1 => X x_1 g_target) p0
def rm_C_X7_should : Room := { frames := 7, cells := 2, slots := 12, locals := 103 }
abbrev pq_C_X7_should (dC : Nat → ClassId) (dI : Nat → Nat → Nat) (ad : Nat → Nat) (cB cI cZ cL : ClassId) (A : Nat → Prop) (LP : List Nat) (today legCount : Int32) (legs hung : Nat → Option Nat) (warmth damp wopen : Nat → Int32) (tsize : Int32) (bytes : Nat → Int32) (rat rtold rwrong : Int32) (numbers asked : Nat → Int32) (ftold : Int32) (ffarm ffrom fwhat fon : Nat → Int32) (csize ctotal : Int32) (offered : Nat → Option Nat) (cws cwa g_number g_farm g_pig g_first g_begun g_weight g_salted g_heat g_place g_target g_feedAsked g_sealed g_bad g_sold : Nat → Int32) (Q : Int32 → (Nat → Int32) → Prop) : Array Value → State → Outcome → State → Prop := va_Qi (fun (r : Int32) (u : (Nat → Int32)) => Q r u) (fun u t => kB dC dI A (wA ad cB cI cZ cL LP today legCount legs hung warmth damp wopen tsize bytes rat rtold rwrong numbers asked ftold ffarm ffrom fwhat fon csize ctotal offered cws cwa g_number g_farm g_pig g_first g_begun g_weight g_salted g_heat g_place u g_feedAsked g_sealed g_bad g_sold) (kTy cB cI cZ cL) t) A
abbrev px_C_X7_should (dC : Nat → ClassId) (dI : Nat → Nat → Nat) (ad : Nat → Nat) (cB cI cZ cL : ClassId) (A : Nat → Prop) (LP : List Nat) (today legCount : Int32) (legs hung : Nat → Option Nat) (warmth damp wopen : Nat → Int32) (tsize : Int32) (bytes : Nat → Int32) (rat rtold rwrong : Int32) (numbers asked : Nat → Int32) (ftold : Int32) (ffarm ffrom fwhat fon : Nat → Int32) (csize ctotal : Int32) (offered : Nat → Option Nat) (cws cwa g_number g_farm g_pig g_first g_begun g_weight g_salted g_heat g_place g_target g_feedAsked g_sealed g_bad g_sold : Nat → Int32) (X : Nat → (Nat → Int32) → Prop) : String → State → State → Prop := vx_X (fun u : Nat × (Nat → Int32) => X u.1 u.2) (fun E u t => E = kEx u.1 ∧ kB dC dI A (wA ad cB cI cZ cL LP today legCount legs hung warmth damp wopen tsize bytes rat rtold rwrong numbers asked ftold ffarm ffrom fwhat fon csize ctotal offered cws cwa g_number g_farm g_pig g_first g_begun g_weight g_salted g_heat g_place u.2 g_feedAsked g_sealed g_bad g_sold) (kTy cB cI cZ cL) t) A
set_option maxHeartbeats 4000000 in
set_option maxRecDepth 100000 in
theorem c_C_X7_should (l : Launch) (hl0 : l.stackTraces = false) (dC : Nat → ClassId) (dI : Nat → Nat → Nat) (ad : Nat → Nat) (cB cI cZ cL : ClassId) (A : Nat → Prop) (LP : List Nat) (today legCount : Int32) (legs hung : Nat → Option Nat) (warmth damp wopen : Nat → Int32) (tsize : Int32) (bytes : Nat → Int32) (rat rtold rwrong : Int32) (numbers asked : Nat → Int32) (ftold : Int32) (ffarm ffrom fwhat fon : Nat → Int32) (csize ctotal : Int32) (offered : Nat → Option Nat) (cws cwa g_number g_farm g_pig g_first g_begun g_weight g_salted g_heat g_place g_target g_feedAsked g_sealed g_bad g_sold : Nat → Int32) (p0 : Int32) (p1 : Int32) (p2 : Int32)  (Q : Int32 → (Nat → Int32) → Prop) (X : Nat → (Nat → Int32) → Prop) (h : wp_C_X7_should LP legs g_place Q X g_target p0 p1 p2) : vx_Met l yX7_should wsX7_should rm_C_X7_should (va_Pc [.ref (ad 0), .int p0, .int p1, .int p2] (kC dC dI ad A (wA ad cB cI cZ cL LP today legCount legs hung warmth damp wopen tsize bytes rat rtold rwrong numbers asked ftold ffarm ffrom fwhat fon csize ctotal offered cws cwa g_number g_farm g_pig g_first g_begun g_weight g_salted g_heat g_place g_target g_feedAsked g_sealed g_bad g_sold) (kTy cB cI cZ cL))) (pq_C_X7_should dC dI ad cB cI cZ cL A LP today legCount legs hung warmth damp wopen tsize bytes rat rtold rwrong numbers asked ftold ffarm ffrom fwhat fon csize ctotal offered cws cwa g_number g_farm g_pig g_first g_begun g_weight g_salted g_heat g_place g_target g_feedAsked g_sealed g_bad g_sold Q) (px_C_X7_should dC dI ad cB cI cZ cL A LP today legCount legs hung warmth damp wopen tsize bytes rat rtold rwrong numbers asked ftold ffarm ffrom fwhat fon csize ctotal offered cws cwa g_number g_farm g_pig g_first g_begun g_weight g_salted g_heat g_place g_target g_feedAsked g_sealed g_bad g_sold X) 2 12 A := by
  refine vx_ofW (cc := cX7_should) (maxL := 6) (ret := (some .boolean)) (by decide) rfl ?_
  intro p e s m args below meth c s₁ B hml htb hv
  obtain ⟨rfl, hA, hP, hK, hD, hE⟩ := hv
  have hx := B.exec
  have hb := B.bytes
  have hr := B.returns
  have hts := atoms_spec (ws := wsX7_should) B.pre
  have hown : s.vm.findClass RX7 = some m.cls := findClass_of_methodNamed B.named
  have hlocks := B.notSynchronized
  have hS : va_S A s.heap s.heap [] := va_S.rf
  have hk_0n := hE.2.1.1 ("HamCellar", 231, "HamCellar$Leg", "target", "I", "HamCellar") (by decide +kernel)
  have hk_0 : (Cond.fieldLinkNest "HamCellar" 231 "HamCellar$Leg" "target" "I" "HamCellar").before ([.ref (ad 0), .int p0, .int p1, .int p2] : List Value).toArray s = true := va_Nw.use rfl hk_0n
  have hk_1 : ∀ w ∈ wsX30, w ∈ wsX7_should := by decide +kernel
  have hl := lv_entry ([.ref (ad 0), .int p0, .int p1, .int p2]) (n := 6) (Nat.le_of_ble_eq_true rfl)
  rw [lg_entry_eq]
  generalize (lg_sl ([.ref (ad 0), .int p0, .int p1, .int p2]) ++ List.replicate (6 - (lg_sl ([.ref (ad 0), .int p0, .int p1, .int p2])).length) Slot.unset).toArray = ls at hl ⊢
  have hl : lv_has ls 6 [(0, .ref (ad 0)), (1, .int p0), (2, .int p1), (3, .int p2)] := hl
  unfold wp_C_X7_should at h
  refine lv_aload_n hx hb dX7_should_0 rfl (lv_at hl 0 rfl) ?_
  refine lv_iload_n hx hb dX7_should_1 rfl (lv_at hl 1 rfl) ?_
  refine vx_callq (vx_runV (As := [.int p0]) (rest := []) ⟨hx, hb, hml, hown, hts⟩ (c_C_X7_needLeg l hl0 dC dI ad cB cI cZ cL A LP today legCount legs hung warmth damp wopen tsize bytes rat rtold rwrong numbers asked ftold ffarm ffrom fwhat fon csize ctotal offered cws cwa g_number g_farm g_pig g_first g_begun g_weight g_salted g_heat g_place g_target g_feedAsked g_sealed g_bad g_sold p0 _ _ h) (cwV 1 hts gX7_should_X7_needLeg rfl rfl rfl (by decide +kernel) ⟨(Nat.le_of_ble_eq_true rfl), (Nat.le_of_ble_eq_true rfl)⟩) ⟨kC_blind, va_recv hK hP (ci := 7) (q0 := 0) rfl wA_g0, fun U hU hW => ⟨rfl, kC_go hA hS hP hK hD hE U hU hW⟩⟩ rfl rfl hl.1 rfl (lv_room (Nat.le_of_ble_eq_true rfl)) dX7_should_2 ⟨(Nat.le_of_ble_eq_true rfl), (Nat.le_of_ble_eq_true rfl)⟩) hS (fun q _ h => h) (fun q h => h) (fun q _ h => h) (fun E9 ce9 q9 u t H locs ht hvm hw hB hz1 hk1 hS hce hcv hcl => ?_) (fun r_1 u t H locs ht hvm hw hB hz1 hk1 hS => ?_)
  · obtain ⟨x_1, rfl⟩ : ∃ z, z = u := ⟨_, rfl⟩
    obtain ⟨rfl, hB⟩ := hB
    have h := hw
    try dsimp only at h
    have hP : va_P (dC, dI) vwCl (wA ad cB cI cZ cL LP today legCount legs hung warmth damp wopen tsize bytes rat rtold rwrong numbers asked ftold ffarm ffrom fwhat fon csize ctotal offered cws cwa g_number g_farm g_pig g_first g_begun g_weight g_salted g_heat g_place g_target g_feedAsked g_sealed g_bad g_sold) H := by rw [← ht]; exact hB.1
    have hD : va_D A (wA ad cB cI cZ cL LP today legCount legs hung warmth damp wopen tsize bytes rat rtold rwrong numbers asked ftold ffarm ffrom fwhat fon csize ctotal offered cws cwa g_number g_farm g_pig g_first g_begun g_weight g_salted g_heat g_place g_target g_feedAsked g_sealed g_bad g_sold) := hB.2.2
    exact vx_out (fun x9 hx9 => (htb x9 hx9).elim) hlocks hce hcv hcl (fun t ht hv9 => ⟨(x_1, g_target), h, ⟨rfl, kB_mk hP hK hD ht hv9⟩, hS.F ht⟩) hS.2.2 (Nat.le_of_ble_eq_true rfl) (Nat.le_of_ble_eq_true rfl)
  · have h := hw
    try dsimp only at h
    have hP : va_P (dC, dI) vwCl (wA ad cB cI cZ cL LP today legCount legs hung warmth damp wopen tsize bytes rat rtold rwrong numbers asked ftold ffarm ffrom fwhat fon csize ctotal offered cws cwa g_number g_farm g_pig g_first g_begun g_weight g_salted g_heat g_place g_target g_feedAsked g_sealed g_bad g_sold) H := by rw [← ht]; exact hB.1
    have hD : va_D A (wA ad cB cI cZ cL LP today legCount legs hung warmth damp wopen tsize bytes rat rtold rwrong numbers asked ftold ffarm ffrom fwhat fon csize ctotal offered cws cwa g_number g_farm g_pig g_first g_begun g_weight g_salted g_heat g_place g_target g_feedAsked g_sealed g_bad g_sold) := hB.2.2
    cases hr_3 : r_1 with
    | none =>
      have h := h.1 hr_3
      refine lv_astoreN (lv' := [(4, .null), (0, .ref (ad 0)), (1, .int p0), (2, .int p1), (3, .int p2)]) hx hb dX7_should_5 hl (by decide) rfl (fun ls hl => ?_)
      refine lv_iconst (v := 1) hx hb dX7_should_7 (by decide) ?_
      refine lv_iload_n hx hb dX7_should_8 rfl (lv_at hl 3 rfl) ?_
      refine lv_iload_n hx hb dX7_should_9 rfl (lv_at hl 4 rfl) ?_
      refine vx_calli (vx_runS (As := [.int 1, .int p1, .int p2]) (rest := []) ⟨hx, hb, hml, hown, hts⟩ (c_C_X7_needPlace l hl0 dC dI ad cB cI cZ cL A LP today legCount legs hung warmth damp wopen tsize bytes rat rtold rwrong numbers asked ftold ffarm ffrom fwhat fon csize ctotal offered cws cwa g_number g_farm g_pig g_first g_begun g_weight g_salted g_heat g_place g_target g_feedAsked g_sealed g_bad g_sold 1 p1 p2 _ _ h) (va_cwS 3 hts gX7_should_X7_needPlace rfl rfl rfl (by decide +kernel) ⟨(Nat.le_of_ble_eq_true rfl), (Nat.le_of_ble_eq_true rfl)⟩) ⟨kC_blind, fun U hU hW => ⟨rfl, kC_go hA hS hP hK hD hE U hU hW⟩⟩ rfl rfl hl.1 rfl (lv_room (Nat.le_of_ble_eq_true rfl)) dX7_should_10 ⟨(Nat.le_of_ble_eq_true rfl), (Nat.le_of_ble_eq_true rfl)⟩) hS (fun q _ h => h) (fun q h => h) (fun q _ h => h) (fun E9 ce9 q9 u t H locs ht hvm hw hB hz1 hk1 hS hce hcv hcl => ?_) (fun r_5 u t H locs ht hvm hw hB hz1 hk1 hS => ?_)
      · obtain ⟨x_5, rfl⟩ : ∃ z, z = u := ⟨_, rfl⟩
        obtain ⟨rfl, hB⟩ := hB
        have h := hw
        try dsimp only at h
        have hP : va_P (dC, dI) vwCl (wA ad cB cI cZ cL LP today legCount legs hung warmth damp wopen tsize bytes rat rtold rwrong numbers asked ftold ffarm ffrom fwhat fon csize ctotal offered cws cwa g_number g_farm g_pig g_first g_begun g_weight g_salted g_heat g_place g_target g_feedAsked g_sealed g_bad g_sold) H := by rw [← ht]; exact hB.1
        have hD : va_D A (wA ad cB cI cZ cL LP today legCount legs hung warmth damp wopen tsize bytes rat rtold rwrong numbers asked ftold ffarm ffrom fwhat fon csize ctotal offered cws cwa g_number g_farm g_pig g_first g_begun g_weight g_salted g_heat g_place g_target g_feedAsked g_sealed g_bad g_sold) := hB.2.2
        exact vx_out (fun x9 hx9 => (htb x9 hx9).elim) hlocks hce hcv hcl (fun t ht hv9 => ⟨(x_5, g_target), h, ⟨rfl, kB_mk hP hK hD ht hv9⟩, hS.F ht⟩) hS.2.2 (Nat.le_of_ble_eq_true rfl) (Nat.le_of_ble_eq_true rfl)
      · exact False.elim hw
    | some y_2 =>
      have hy_y_2 := (h.2 y_2 hr_3).1
      have h := (h.2 y_2 hr_3).2
      refine lv_astore (lv' := [(4, .ref y_2), (0, .ref (ad 0)), (1, .int p0), (2, .int p1), (3, .int p2)]) hx hb dX7_should_5 hl (by decide) rfl (fun ls hl => ?_)
      refine lv_iconst (v := 1) hx hb dX7_should_7 (by decide) ?_
      refine lv_iload_n hx hb dX7_should_8 rfl (lv_at hl 3 rfl) ?_
      refine lv_iload_n hx hb dX7_should_9 rfl (lv_at hl 4 rfl) ?_
      refine vx_calli (vx_runS (As := [.int 1, .int p1, .int p2]) (rest := []) ⟨hx, hb, hml, hown, hts⟩ (c_C_X7_needPlace l hl0 dC dI ad cB cI cZ cL A LP today legCount legs hung warmth damp wopen tsize bytes rat rtold rwrong numbers asked ftold ffarm ffrom fwhat fon csize ctotal offered cws cwa g_number g_farm g_pig g_first g_begun g_weight g_salted g_heat g_place g_target g_feedAsked g_sealed g_bad g_sold 1 p1 p2 _ _ h) (va_cwS 3 hts gX7_should_X7_needPlace rfl rfl rfl (by decide +kernel) ⟨(Nat.le_of_ble_eq_true rfl), (Nat.le_of_ble_eq_true rfl)⟩) ⟨kC_blind, fun U hU hW => ⟨rfl, kC_go hA hS hP hK hD hE U hU hW⟩⟩ rfl rfl hl.1 rfl (lv_room (Nat.le_of_ble_eq_true rfl)) dX7_should_10 ⟨(Nat.le_of_ble_eq_true rfl), (Nat.le_of_ble_eq_true rfl)⟩) hS (fun q _ h => h) (fun q h => h) (fun q _ h => h) (fun E9 ce9 q9 u t H locs ht hvm hw hB hz1 hk1 hS hce hcv hcl => ?_) (fun r_6 u t H locs ht hvm hw hB hz1 hk1 hS => ?_)
      · obtain ⟨x_6, rfl⟩ : ∃ z, z = u := ⟨_, rfl⟩
        obtain ⟨rfl, hB⟩ := hB
        have h := hw
        try dsimp only at h
        have hP : va_P (dC, dI) vwCl (wA ad cB cI cZ cL LP today legCount legs hung warmth damp wopen tsize bytes rat rtold rwrong numbers asked ftold ffarm ffrom fwhat fon csize ctotal offered cws cwa g_number g_farm g_pig g_first g_begun g_weight g_salted g_heat g_place g_target g_feedAsked g_sealed g_bad g_sold) H := by rw [← ht]; exact hB.1
        have hD : va_D A (wA ad cB cI cZ cL LP today legCount legs hung warmth damp wopen tsize bytes rat rtold rwrong numbers asked ftold ffarm ffrom fwhat fon csize ctotal offered cws cwa g_number g_farm g_pig g_first g_begun g_weight g_salted g_heat g_place g_target g_feedAsked g_sealed g_bad g_sold) := hB.2.2
        exact vx_out (fun x9 hx9 => (htb x9 hx9).elim) hlocks hce hcv hcl (fun t ht hv9 => ⟨(x_6, g_target), h, ⟨rfl, kB_mk hP hK hD ht hv9⟩, hS.F ht⟩) hS.2.2 (Nat.le_of_ble_eq_true rfl) (Nat.le_of_ble_eq_true rfl)
      · have h := hw
        try dsimp only at h
        have hP : va_P (dC, dI) vwCl (wA ad cB cI cZ cL LP today legCount legs hung warmth damp wopen tsize bytes rat rtold rwrong numbers asked ftold ffarm ffrom fwhat fon csize ctotal offered cws cwa g_number g_farm g_pig g_first g_begun g_weight g_salted g_heat g_place g_target g_feedAsked g_sealed g_bad g_sold) H := by rw [← ht]; exact hB.1
        have hD : va_D A (wA ad cB cI cZ cL LP today legCount legs hung warmth damp wopen tsize bytes rat rtold rwrong numbers asked ftold ffarm ffrom fwhat fon csize ctotal offered cws cwa g_number g_farm g_pig g_first g_begun g_weight g_salted g_heat g_place g_target g_feedAsked g_sealed g_bad g_sold) := hB.2.2
        refine lv_istore (lv' := [(5, .int r_6), (4, .ref y_2), (0, .ref (ad 0)), (1, .int p0), (2, .int p1), (3, .int p2)]) hx hb dX7_should_13 hl (by decide) rfl (fun ls hl => ?_)
        refine lv_aload hx hb dX7_should_15 (lv_at hl 1 rfl) ?_
        obtain ⟨k_8, hg_k_8⟩ := wA_leg hy_y_2
        refine va_calli (va_runV (As := []) (rest := []) ⟨hx, hb, hml, hown, hts⟩ (c_C_X3_hangsInAir l dC dI ad cB cI cZ cL A LP today legCount legs hung warmth damp wopen tsize bytes rat rtold rwrong numbers asked ftold ffarm ffrom fwhat fon csize ctotal offered cws cwa g_number g_farm g_pig g_first g_begun g_weight g_salted g_heat g_place g_target g_feedAsked g_sealed g_bad g_sold y_2 hy_y_2 _ h) (cwV 0 hts gX7_should_X3_hangsInAir rfl rfl rfl (by decide +kernel) ⟨(Nat.le_of_ble_eq_true rfl), (Nat.le_of_ble_eq_true rfl)⟩) ⟨kC_blind, va_recv hK hP (ci := 3) (q0 := k_8) rfl hg_k_8, fun U hU hW => ⟨rfl, kC_go hA hS hP hK hD hE U hU hW⟩⟩ rfl rfl hl.1 rfl (lv_room (Nat.le_of_ble_eq_true rfl)) dX7_should_17 ⟨(Nat.le_of_ble_eq_true rfl), (Nat.le_of_ble_eq_true rfl)⟩) hS (fun q _ h => h) (fun q h => h) (fun r_7 u t H locs ht hvm hw hB hz1 hk1 hS => ?_)
        have h := hw
        try dsimp only at h
        have hP : va_P (dC, dI) vwCl (wA ad cB cI cZ cL LP today legCount legs hung warmth damp wopen tsize bytes rat rtold rwrong numbers asked ftold ffarm ffrom fwhat fon csize ctotal offered cws cwa g_number g_farm g_pig g_first g_begun g_weight g_salted g_heat g_place g_target g_feedAsked g_sealed g_bad g_sold) H := by rw [← ht]; exact hB.1
        have hD : va_D A (wA ad cB cI cZ cL LP today legCount legs hung warmth damp wopen tsize bytes rat rtold rwrong numbers asked ftold ffarm ffrom fwhat fon csize ctotal offered cws cwa g_number g_farm g_pig g_first g_begun g_weight g_salted g_heat g_place g_target g_feedAsked g_sealed g_bad g_sold) := hB.2.2
        refine lv_if_eq (tgt := 34) hx hb dX7_should_20 (by decide) (fun c_9 => ?_) (fun c_9 => ?_)
        · have h := h.1 c_9
          refine lv_iconst (v := 0) hx hb dX7_should_34 (by decide) ?_
          refine vx_ret ?_
          exact W.zret (v := 0) (ty := .boolean) hx hb hr (z01 h.1) (fun t ht hW => ⟨⟨0, (g_target), rfl, h.2, kB_mk hP hK hD ht hW.alike⟩, hS.F ht⟩) hS.2.2 dX7_should_35
        · have h := h.2 c_9
          refine lv_aload_n hx hb dX7_should_23 rfl (lv_at hl 2 rfl) ?_
          refine lv_aload hx hb dX7_should_24 (lv_at hl 1 rfl) ?_
          refine lv_iload hx hb dX7_should_26 (lv_at hl 0 rfl) ?_
          refine va_calli (va_runV (As := [.ref y_2, .int r_6]) (rest := []) ⟨hx, hb, hml, hown, hts⟩ (c_C_X7_isToldForAnother l dC dI ad cB cI cZ cL A LP today legCount legs hung warmth damp wopen tsize bytes rat rtold rwrong numbers asked ftold ffarm ffrom fwhat fon csize ctotal offered cws cwa g_number g_farm g_pig g_first g_begun g_weight g_salted g_heat g_place g_target g_feedAsked g_sealed g_bad g_sold y_2 r_6 hy_y_2 _ h) (cwV 2 hts gX7_should_X7_isToldForAnother rfl rfl rfl (by decide +kernel) ⟨(Nat.le_of_ble_eq_true rfl), (Nat.le_of_ble_eq_true rfl)⟩) ⟨kC_blind, va_recv hK hP (ci := 7) (q0 := 0) rfl wA_g0, fun U hU hW => ⟨rfl, kC_go hA hS hP hK hD hE U hU hW⟩⟩ rfl rfl hl.1 rfl (lv_room (Nat.le_of_ble_eq_true rfl)) dX7_should_28 ⟨(Nat.le_of_ble_eq_true rfl), (Nat.le_of_ble_eq_true rfl)⟩) hS (fun q _ h => h) (fun q h => h) (fun r_10 u t H locs ht hvm hw hB hz1 hk1 hS => ?_)
          have h := hw
          try dsimp only at h
          have hP : va_P (dC, dI) vwCl (wA ad cB cI cZ cL LP today legCount legs hung warmth damp wopen tsize bytes rat rtold rwrong numbers asked ftold ffarm ffrom fwhat fon csize ctotal offered cws cwa g_number g_farm g_pig g_first g_begun g_weight g_salted g_heat g_place g_target g_feedAsked g_sealed g_bad g_sold) H := by rw [← ht]; exact hB.1
          have hD : va_D A (wA ad cB cI cZ cL LP today legCount legs hung warmth damp wopen tsize bytes rat rtold rwrong numbers asked ftold ffarm ffrom fwhat fon csize ctotal offered cws cwa g_number g_farm g_pig g_first g_begun g_weight g_salted g_heat g_place g_target g_feedAsked g_sealed g_bad g_sold) := hB.2.2
          refine lv_if_eq (tgt := 36) hx hb dX7_should_31 (by decide) (fun c_11 => ?_) (fun c_11 => ?_)
          · have h := h.1 c_11
            refine lv_aload hx hb dX7_should_36 (lv_at hl 1 rfl) ?_
            refine lv_iload hx hb dX7_should_38 (lv_at hl 0 rfl) ?_
            obtain ⟨k_12, hg_k_12⟩ := wA_leg hy_y_2
            refine va_putN (D := (dC, dI)) (ci := 3) (v := .int r_6) (ty := .int) (C := RX3) (T := TX3) (N := 14) hx hb hts hk_1 tyX3 tyX3_ok nmX3 hown hK hP hD hS k_12 hg_k_12 rfl 9 (by decide) hk_0 (fun _ h9 => h9) rfl (by decide +kernel) rfl rfl (Nat.le_of_ble_eq_true rfl) dX7_should_40 (fun H locs hP2 hD2 hS => ?_)
            have hP : va_P (dC, dI) vwCl (wA ad cB cI cZ cL LP today legCount legs hung warmth damp wopen tsize bytes rat rtold rwrong numbers asked ftold ffarm ffrom fwhat fon csize ctotal offered cws cwa g_number g_farm g_pig g_first g_begun g_weight g_salted g_heat g_place (va_up g_target y_2 r_6) g_feedAsked g_sealed g_bad g_sold) H := hP_eq (wA_p_g_target hD hy_y_2 hg_k_12) hP2
            have hD : va_D A (wA ad cB cI cZ cL LP today legCount legs hung warmth damp wopen tsize bytes rat rtold rwrong numbers asked ftold ffarm ffrom fwhat fon csize ctotal offered cws cwa g_number g_farm g_pig g_first g_begun g_weight g_salted g_heat g_place (va_up g_target y_2 r_6) g_feedAsked g_sealed g_bad g_sold) := hD_eq (wA_p_g_target hD hy_y_2 hg_k_12) hD2
            refine lv_iconst (v := 1) hx hb dX7_should_43 (by decide) ?_
            refine vx_ret ?_
            exact W.zret (v := 1) (ty := .boolean) hx hb hr (z01 h.1) (fun t ht hW => ⟨⟨1, (va_up g_target y_2 r_6), rfl, h.2, kB_mk hP hK hD ht hW.alike⟩, hS.F ht⟩) hS.2.2 dX7_should_44
          · have h := h.2 c_11
            refine lv_iconst (v := 0) hx hb dX7_should_34 (by decide) ?_
            refine vx_ret ?_
            exact W.zret (v := 0) (ty := .boolean) hx hb hr (z01 h.1) (fun t ht hW => ⟨⟨0, (g_target), rfl, h.2, kB_mk hP hK hD ht hW.alike⟩, hS.F ht⟩) hS.2.2 dX7_should_35
def bk_C_X7_moves_42 (LP : List Nat) (legs : Nat → Option Nat) (hung : Nat → Option Nat) (g_place : Nat → Int32)  (Q : Int32 → (Nat → Int32) → Prop) (K19 : (Nat → Int32) → Int32 → Int32 → Int32 → Prop) (g_target : Nat → Int32) (v1 : Int32) (v3 : Int32) (v4 : Int32) : Prop := K19 g_target v1 v3 (v4 + 1)
def lp_C_X7_moves_19 (LP : List Nat) (legs : Nat → Option Nat) (hung : Nat → Option Nat) (g_place : Nat → Int32)  (Q : Int32 → (Nat → Int32) → Prop) : Nat → (Nat → Int32) → Int32 → Int32 → Int32 → Prop
  | 0 => fun _ _ _ _ => False
  | n + 1 => fun g_target v1 v3 v4 => ((v3 ≤ v4 → Q v1 g_target) ∧ (¬ (v3 ≤ v4) → (vp_in v4 60 ∧ ((legs v4.toNatClampNeg = none → bk_C_X7_moves_42 LP legs hung g_place Q (lp_C_X7_moves_19 LP legs hung g_place Q n) g_target v1 v3 v4) ∧ (∀ y_4 : Nat, legs v4.toNatClampNeg = some y_4 → y_4 ∈ LP ∧ bk_C_X7_moves_42 LP legs hung g_place Q (lp_C_X7_moves_19 LP legs hung g_place Q n) (va_up g_target y_4 (-1)) v1 v3 v4)))))
def wp_C_X7_moves (LP : List Nat) (legs : Nat → Option Nat) (hung : Nat → Option Nat) (g_place : Nat → Int32) (Q : Int32 → (Nat → Int32) → Prop) (g_target : Nat → Int32) : Prop := wp_C_X2_leastMoves LP hung g_place g_target (fun r_1 => (∃ n_8, lp_C_X7_moves_19 LP legs hung g_place Q n_8 g_target r_1 60 0))
def rm_C_X7_moves : Room := { frames := 3, cells := 0, slots := 0, locals := 69 }
abbrev pq_C_X7_moves (dC : Nat → ClassId) (dI : Nat → Nat → Nat) (ad : Nat → Nat) (cB cI cZ cL : ClassId) (A : Nat → Prop) (LP : List Nat) (today legCount : Int32) (legs hung : Nat → Option Nat) (warmth damp wopen : Nat → Int32) (tsize : Int32) (bytes : Nat → Int32) (rat rtold rwrong : Int32) (numbers asked : Nat → Int32) (ftold : Int32) (ffarm ffrom fwhat fon : Nat → Int32) (csize ctotal : Int32) (offered : Nat → Option Nat) (cws cwa g_number g_farm g_pig g_first g_begun g_weight g_salted g_heat g_place g_target g_feedAsked g_sealed g_bad g_sold : Nat → Int32) (Q : Int32 → (Nat → Int32) → Prop) : Array Value → State → Outcome → State → Prop := va_Qi (fun (r : Int32) (u : (Nat → Int32)) => Q r u) (fun u t => kB dC dI A (wA ad cB cI cZ cL LP today legCount legs hung warmth damp wopen tsize bytes rat rtold rwrong numbers asked ftold ffarm ffrom fwhat fon csize ctotal offered cws cwa g_number g_farm g_pig g_first g_begun g_weight g_salted g_heat g_place u g_feedAsked g_sealed g_bad g_sold) (kTy cB cI cZ cL) t) A
set_option maxHeartbeats 4000000 in
set_option maxRecDepth 100000 in
theorem c_C_X7_moves (l : Launch) (dC : Nat → ClassId) (dI : Nat → Nat → Nat) (ad : Nat → Nat) (cB cI cZ cL : ClassId) (A : Nat → Prop) (LP : List Nat) (today legCount : Int32) (legs hung : Nat → Option Nat) (warmth damp wopen : Nat → Int32) (tsize : Int32) (bytes : Nat → Int32) (rat rtold rwrong : Int32) (numbers asked : Nat → Int32) (ftold : Int32) (ffarm ffrom fwhat fon : Nat → Int32) (csize ctotal : Int32) (offered : Nat → Option Nat) (cws cwa g_number g_farm g_pig g_first g_begun g_weight g_salted g_heat g_place g_target g_feedAsked g_sealed g_bad g_sold : Nat → Int32)   (Q : Int32 → (Nat → Int32) → Prop) (h : wp_C_X7_moves LP legs hung g_place Q g_target) : Met l yX7_moves wsX7_moves rm_C_X7_moves (va_Pc [.ref (ad 0)] (kC dC dI ad A (wA ad cB cI cZ cL LP today legCount legs hung warmth damp wopen tsize bytes rat rtold rwrong numbers asked ftold ffarm ffrom fwhat fon csize ctotal offered cws cwa g_number g_farm g_pig g_first g_begun g_weight g_salted g_heat g_place g_target g_feedAsked g_sealed g_bad g_sold) (kTy cB cI cZ cL))) (pq_C_X7_moves dC dI ad cB cI cZ cL A LP today legCount legs hung warmth damp wopen tsize bytes rat rtold rwrong numbers asked ftold ffarm ffrom fwhat fon csize ctotal offered cws cwa g_number g_farm g_pig g_first g_begun g_weight g_salted g_heat g_place g_target g_feedAsked g_sealed g_bad g_sold Q) 0 0 A := by
  refine Met.ofW (cc := cX7_moves) (maxL := 6) (ret := (some .int)) (by decide) rfl ?_
  intro p e s m args below meth c s₁ B hml hv
  obtain ⟨rfl, hA, hP, hK, hD, hE⟩ := hv
  have hx := B.exec
  have hb := B.bytes
  have hr := B.returns
  have hts := atoms_spec (ws := wsX7_moves) B.pre
  have hown : s.vm.findClass RX7 = some m.cls := findClass_of_methodNamed B.named
  have hlocks := B.notSynchronized
  have hS : va_S A s.heap s.heap [] := va_S.rf
  have hk_0 := hts (.fieldLink RX7 18 "HamCellar" "hooks" "LHamCellar$Hooks;") (by decide +kernel)
  have hk_1 : ∀ w ∈ wsX70, w ∈ wsX7_moves := by decide +kernel
  have hk_2 := hts (.fieldLink RX7 11 "HamCellar" "legs" "[LHamCellar$Leg;") (by decide +kernel)
  have hk_3n := hE.2.1.1 ("HamCellar", 231, "HamCellar$Leg", "target", "I", "HamCellar") (by decide +kernel)
  have hk_3 : (Cond.fieldLinkNest "HamCellar" 231 "HamCellar$Leg" "target" "I" "HamCellar").before ([.ref (ad 0)] : List Value).toArray s = true := va_Nw.use rfl hk_3n
  have hk_4 : ∀ w ∈ wsX30, w ∈ wsX7_moves := by decide +kernel
  have hbk_C_X7_moves_42 : ∀ (K19 : (Nat → Int32) → Int32 → Int32 → Int32 → Prop) (hK19 : ∀ (g_target : Nat → Int32) (v1 : Int32) (v3 : Int32) (v4 : Int32) (H : Heap) (locs : List Loc) (ls : Array Slot), va_P (dC, dI) vwCl (wA ad cB cI cZ cL LP today legCount legs hung warmth damp wopen tsize bytes rat rtold rwrong numbers asked ftold ffarm ffrom fwhat fon csize ctotal offered cws cwa g_number g_farm g_pig g_first g_begun g_weight g_salted g_heat g_place g_target g_feedAsked g_sealed g_bad g_sold) H → va_D A (wA ad cB cI cZ cL LP today legCount legs hung warmth damp wopen tsize bytes rat rtold rwrong numbers asked ftold ffarm ffrom fwhat fon csize ctotal offered cws cwa g_number g_farm g_pig g_first g_begun g_weight g_salted g_heat g_place g_target g_feedAsked g_sealed g_bad g_sold) → va_S A s.heap H locs → lv_has ls 6 [(1, .int v1), (2, .ref (ad 1)), (3, .int v3), (4, .int v4)] → K19 g_target v1 v3 v4 → W p l e (headSpec wsX7_moves rm_C_X7_moves).room s m ([.ref (ad 0)] : List Value).toArray below meth c H locs 0 0 (MQ below (pq_C_X7_moves dC dI ad cB cI cZ cL A LP today legCount legs hung warmth damp wopen tsize bytes rat rtold rwrong numbers asked ftold ffarm ffrom fwhat fon csize ctotal offered cws cwa g_number g_farm g_pig g_first g_begun g_weight g_salted g_heat g_place g_target g_feedAsked g_sealed g_bad g_sold Q) ([.ref (ad 0)] : List Value).toArray s 0 0 A) (F0 m 19 ls [])) (g_target : Nat → Int32) (v1 : Int32) (v3 : Int32) (v4 : Int32) (H : Heap) (locs : List Loc) (ls : Array Slot), va_P (dC, dI) vwCl (wA ad cB cI cZ cL LP today legCount legs hung warmth damp wopen tsize bytes rat rtold rwrong numbers asked ftold ffarm ffrom fwhat fon csize ctotal offered cws cwa g_number g_farm g_pig g_first g_begun g_weight g_salted g_heat g_place g_target g_feedAsked g_sealed g_bad g_sold) H → va_D A (wA ad cB cI cZ cL LP today legCount legs hung warmth damp wopen tsize bytes rat rtold rwrong numbers asked ftold ffarm ffrom fwhat fon csize ctotal offered cws cwa g_number g_farm g_pig g_first g_begun g_weight g_salted g_heat g_place g_target g_feedAsked g_sealed g_bad g_sold) → va_S A s.heap H locs → lv_has ls 6 [(1, .int v1), (2, .ref (ad 1)), (3, .int v3), (4, .int v4)] → bk_C_X7_moves_42 LP legs hung g_place Q K19 g_target v1 v3 v4 → W p l e (headSpec wsX7_moves rm_C_X7_moves).room s m ([.ref (ad 0)] : List Value).toArray below meth c H locs 0 0 (MQ below (pq_C_X7_moves dC dI ad cB cI cZ cL A LP today legCount legs hung warmth damp wopen tsize bytes rat rtold rwrong numbers asked ftold ffarm ffrom fwhat fon csize ctotal offered cws cwa g_number g_farm g_pig g_first g_begun g_weight g_salted g_heat g_place g_target g_feedAsked g_sealed g_bad g_sold Q) ([.ref (ad 0)] : List Value).toArray s 0 0 A) (F0 m 42 ls []) := by
    intro K19 hK19 g_target v1 v3 v4 H locs ls hP hD hS hl h
    refine lv_iinc (v := v4 + 1) (lv' := [(4, .int (v4 + 1)), (1, .int v1), (2, .ref (ad 1)), (3, .int v3)]) hx hb dX7_moves_42 hl (k := 3) rfl rfl (by decide) rfl (fun ls hl => ?_)
    refine lv_goto (tgt := 19) hx hb dX7_moves_45 (by decide) ?_
    exact hK19 g_target v1 v3 (v4 + 1) _ _ _ hP hD hS (lv_sub hl [1, 2, 3, 0] rfl) h
  have hlp_C_X7_moves_19 : ∀ (n : Nat) (g_target : Nat → Int32) (v1 : Int32) (v3 : Int32) (v4 : Int32) (H : Heap) (locs : List Loc) (ls : Array Slot), va_P (dC, dI) vwCl (wA ad cB cI cZ cL LP today legCount legs hung warmth damp wopen tsize bytes rat rtold rwrong numbers asked ftold ffarm ffrom fwhat fon csize ctotal offered cws cwa g_number g_farm g_pig g_first g_begun g_weight g_salted g_heat g_place g_target g_feedAsked g_sealed g_bad g_sold) H → va_D A (wA ad cB cI cZ cL LP today legCount legs hung warmth damp wopen tsize bytes rat rtold rwrong numbers asked ftold ffarm ffrom fwhat fon csize ctotal offered cws cwa g_number g_farm g_pig g_first g_begun g_weight g_salted g_heat g_place g_target g_feedAsked g_sealed g_bad g_sold) → va_S A s.heap H locs → lv_has ls 6 [(1, .int v1), (2, .ref (ad 1)), (3, .int v3), (4, .int v4)] → lp_C_X7_moves_19 LP legs hung g_place Q n g_target v1 v3 v4 → W p l e (headSpec wsX7_moves rm_C_X7_moves).room s m ([.ref (ad 0)] : List Value).toArray below meth c H locs 0 0 (MQ below (pq_C_X7_moves dC dI ad cB cI cZ cL A LP today legCount legs hung warmth damp wopen tsize bytes rat rtold rwrong numbers asked ftold ffarm ffrom fwhat fon csize ctotal offered cws cwa g_number g_farm g_pig g_first g_begun g_weight g_salted g_heat g_place g_target g_feedAsked g_sealed g_bad g_sold Q) ([.ref (ad 0)] : List Value).toArray s 0 0 A) (F0 m 19 ls []) := by
    intro n
    induction n with
    | zero => intro g_target v1 v3 v4 H locs ls hP hD hS hl h; exact h.elim
    | succ n ih =>
      intro g_target v1 v3 v4 H locs ls hP hD hS hl h
      refine lv_iload hx hb dX7_moves_19 (lv_at hl 3 rfl) ?_
      refine lv_iload_n hx hb dX7_moves_21 rfl (lv_at hl 2 rfl) ?_
      refine lv_icmp_ge (tgt := 48) hx hb dX7_moves_22 (by decide) (fun c_2 => ?_) (fun c_2 => ?_)
      · have h := h.1 c_2
        refine lv_iload_n hx hb dX7_moves_48 rfl (lv_at hl 0 rfl) ?_
        exact W.iret (v := v1) hx hb hr (fun t ht hW => ⟨⟨v1, (g_target), rfl, h, kB_mk hP hK hD ht hW.alike⟩, hS.F ht⟩) hS.2.2 dX7_moves_49
      · have h := h.2 c_2
        refine lv_aload_n hx hb dX7_moves_25 rfl (lv_at hl 1 rfl) ?_
        refine lv_iload hx hb dX7_moves_26 (lv_at hl 3 rfl) ?_
        have hi_3 := h.1
        have h := h.2
        refine va_aldq hx hb hK hP 1 3 wA_g1 rfl hi_3 dX7_moves_28 ?_
        cases hr_5 : legs v4.toNatClampNeg with
        | none =>
          have h := h.1 hr_5
          refine lv_astoreN (lv' := [(5, .null), (1, .int v1), (2, .ref (ad 1)), (3, .int v3), (4, .int v4)]) hx hb dX7_moves_29 hl (by decide) rfl (fun ls hl => ?_)
          refine lv_aloadN hx hb dX7_moves_31 (lv_at hl 0 rfl) ?_
          refine lv_ifnullN (tgt := 42) hx hb dX7_moves_33 (by decide) ?_
          exact hbk_C_X7_moves_42 (lp_C_X7_moves_19 LP legs hung g_place Q n) ih g_target v1 v3 v4 _ _ _ hP hD hS (lv_sub hl [1, 2, 3, 4] rfl) h
        | some y_4 =>
          have hy_y_4 := (h.2 y_4 hr_5).1
          have h := (h.2 y_4 hr_5).2
          refine lv_astore (lv' := [(5, .ref y_4), (1, .int v1), (2, .ref (ad 1)), (3, .int v3), (4, .int v4)]) hx hb dX7_moves_29 hl (by decide) rfl (fun ls hl => ?_)
          refine lv_aload hx hb dX7_moves_31 (lv_at hl 0 rfl) ?_
          refine lv_ifnull hx hb dX7_moves_33 ?_
          refine lv_aload hx hb dX7_moves_36 (lv_at hl 0 rfl) ?_
          refine lv_iconst (v := (-1)) hx hb dX7_moves_38 (by decide) ?_
          obtain ⟨k_7, hg_k_7⟩ := wA_leg hy_y_4
          refine va_putN (D := (dC, dI)) (ci := 3) (v := .int (-1)) (ty := .int) (C := RX3) (T := TX3) (N := 14) hx hb hts hk_4 tyX3 tyX3_ok nmX3 hown hK hP hD hS k_7 hg_k_7 rfl 9 (by decide) hk_3 (fun _ h9 => h9) rfl (by decide +kernel) rfl rfl (Nat.le_of_ble_eq_true rfl) dX7_moves_39 (fun H locs hP2 hD2 hS => ?_)
          have hP : va_P (dC, dI) vwCl (wA ad cB cI cZ cL LP today legCount legs hung warmth damp wopen tsize bytes rat rtold rwrong numbers asked ftold ffarm ffrom fwhat fon csize ctotal offered cws cwa g_number g_farm g_pig g_first g_begun g_weight g_salted g_heat g_place (va_up g_target y_4 (-1)) g_feedAsked g_sealed g_bad g_sold) H := hP_eq (wA_p_g_target hD hy_y_4 hg_k_7) hP2
          have hD : va_D A (wA ad cB cI cZ cL LP today legCount legs hung warmth damp wopen tsize bytes rat rtold rwrong numbers asked ftold ffarm ffrom fwhat fon csize ctotal offered cws cwa g_number g_farm g_pig g_first g_begun g_weight g_salted g_heat g_place (va_up g_target y_4 (-1)) g_feedAsked g_sealed g_bad g_sold) := hD_eq (wA_p_g_target hD hy_y_4 hg_k_7) hD2
          exact hbk_C_X7_moves_42 (lp_C_X7_moves_19 LP legs hung g_place Q n) ih (va_up g_target y_4 (-1)) v1 v3 v4 _ _ _ hP hD hS (lv_sub hl [1, 2, 3, 4] rfl) h
  have hl := lv_entry ([.ref (ad 0)]) (n := 6) (Nat.le_of_ble_eq_true rfl)
  rw [lg_entry_eq]
  generalize (lg_sl ([.ref (ad 0)]) ++ List.replicate (6 - (lg_sl ([.ref (ad 0)])).length) Slot.unset).toArray = ls at hl ⊢
  have hl : lv_has ls 6 [(0, .ref (ad 0))] := hl
  unfold wp_C_X7_moves at h
  refine lv_aload_n hx hb dX7_moves_0 rfl (lv_at hl 0 rfl) ?_
  refine va_get (D := (dC, dI)) (ci := 7) (v := .ref (ad 2)) (C := RX7) (T := TX7) (N := 10) hx hb hts hk_1 hown hK hP 0 wA_g0 rfl 3 (by decide) hk_0 (fun _ h9 => h9) rfl dX7_moves_1 ?_
  refine va_calli (va_runV (As := []) (rest := []) ⟨hx, hb, hml, hown, hts⟩ (c_C_X2_leastMoves l dC dI ad cB cI cZ cL A LP today legCount legs hung warmth damp wopen tsize bytes rat rtold rwrong numbers asked ftold ffarm ffrom fwhat fon csize ctotal offered cws cwa g_number g_farm g_pig g_first g_begun g_weight g_salted g_heat g_place g_target g_feedAsked g_sealed g_bad g_sold _ h) (cwV 0 hts gX7_moves_X2_leastMoves rfl rfl rfl (by decide +kernel) ⟨(Nat.le_of_ble_eq_true rfl), (Nat.le_of_ble_eq_true rfl)⟩) ⟨kC_blind, va_recv hK hP (ci := 2) (q0 := 2) rfl wA_g2, fun U hU hW => ⟨rfl, kC_go hA hS hP hK hD hE U hU hW⟩⟩ rfl rfl hl.1 rfl (lv_room (Nat.le_of_ble_eq_true rfl)) dX7_moves_4 ⟨(Nat.le_of_ble_eq_true rfl), (Nat.le_of_ble_eq_true rfl)⟩) hS (fun q _ h => h) (fun q h => h) (fun r_1 u t H locs ht hvm hw hB hz1 hk1 hS => ?_)
  have h := hw
  try dsimp only at h
  have hP : va_P (dC, dI) vwCl (wA ad cB cI cZ cL LP today legCount legs hung warmth damp wopen tsize bytes rat rtold rwrong numbers asked ftold ffarm ffrom fwhat fon csize ctotal offered cws cwa g_number g_farm g_pig g_first g_begun g_weight g_salted g_heat g_place g_target g_feedAsked g_sealed g_bad g_sold) H := by rw [← ht]; exact hB.1
  have hD : va_D A (wA ad cB cI cZ cL LP today legCount legs hung warmth damp wopen tsize bytes rat rtold rwrong numbers asked ftold ffarm ffrom fwhat fon csize ctotal offered cws cwa g_number g_farm g_pig g_first g_begun g_weight g_salted g_heat g_place g_target g_feedAsked g_sealed g_bad g_sold) := hB.2.2
  refine lv_istore_n (lv' := [(1, .int r_1), (0, .ref (ad 0))]) hx hb dX7_moves_7 rfl hl (by decide) rfl (fun ls hl => ?_)
  refine lv_aload_n hx hb dX7_moves_8 rfl (lv_at hl 1 rfl) ?_
  refine va_get (D := (dC, dI)) (ci := 7) (v := .ref (ad 1)) (C := RX7) (T := TX7) (N := 10) hx hb hts hk_1 hown hK hP 0 wA_g0 rfl 2 (by decide) hk_2 (fun _ h9 => h9) rfl dX7_moves_9 ?_
  refine lv_astore_n (lv' := [(2, .ref (ad 1)), (1, .int r_1), (0, .ref (ad 0))]) hx hb dX7_moves_12 rfl hl (by decide) rfl (fun ls hl => ?_)
  refine lv_aload_n hx hb dX7_moves_13 rfl (lv_at hl 0 rfl) ?_
  refine va_alen hx hb hK hP 1 3 wA_g1 rfl (v := 60) rfl dX7_moves_14 ?_
  refine lv_istore_n (lv' := [(3, .int 60), (2, .ref (ad 1)), (1, .int r_1), (0, .ref (ad 0))]) hx hb dX7_moves_15 rfl hl (by decide) rfl (fun ls hl => ?_)
  refine lv_iconst (v := 0) hx hb dX7_moves_16 (by decide) ?_
  refine lv_istore (lv' := [(4, .int 0), (3, .int 60), (2, .ref (ad 1)), (1, .int r_1), (0, .ref (ad 0))]) hx hb dX7_moves_17 hl (by decide) rfl (fun ls hl => ?_)
  obtain ⟨n_8, h⟩ := h
  exact hlp_C_X7_moves_19 n_8 g_target r_1 60 0 _ _ _ hP hD hS (lv_sub hl [3, 2, 1, 0] rfl) h
def bk_C_X7_sell_56 (LP : List Nat) (csize : Int32) (offered : Nat → Option Nat)  (Q : Int32 → (Nat → Option Nat) → (Nat → Int32) → (Nat → Int32) → Prop) (K4 : (Nat → Option Nat) → (Nat → Int32) → (Nat → Int32) → Int32 → Int32 → Int32 → Prop) (hung : Nat → Option Nat) (g_place : Nat → Int32) (g_sold : Nat → Int32) (v1 : Int32) (v2 : Int32) (v3 : Int32) : Prop := K4 hung g_place g_sold v1 v2 (v3 + 1)
def bk_C_X7_sell_31 (LP : List Nat) (csize : Int32) (offered : Nat → Option Nat)  (Q : Int32 → (Nat → Option Nat) → (Nat → Int32) → (Nat → Int32) → Prop) (K4 : (Nat → Option Nat) → (Nat → Int32) → (Nat → Int32) → Int32 → Int32 → Int32 → Prop) (hung : Nat → Option Nat) (g_place : Nat → Int32) (g_sold : Nat → Int32) (v1 : Int32) (v2 : Int32) (v3 : Int32) : Prop := bk_C_X7_sell_56 LP csize offered Q K4 hung g_place g_sold v1 v2 v3
def bk_C_X7_sell_31_1 (LP : List Nat) (csize : Int32) (offered : Nat → Option Nat)  (Q : Int32 → (Nat → Option Nat) → (Nat → Int32) → (Nat → Int32) → Prop) (K4 : (Nat → Option Nat) → (Nat → Int32) → (Nat → Int32) → Int32 → Int32 → Int32 → Prop) (hung : Nat → Option Nat) (g_place : Nat → Int32) (g_sold : Nat → Int32) (v1 : Int32) (v2 : Int32) (v3 : Int32) (k0 : Nat) : Prop := wp_C_X2_takeOff LP (fun hung_7 g_place_7 => bk_C_X7_sell_56 LP csize offered Q K4 hung_7 g_place_7 (va_up g_sold k0 1) v1 (v2 + 1) v3) hung g_place k0
def lp_C_X7_sell_4 (LP : List Nat) (csize : Int32) (offered : Nat → Option Nat)  (Q : Int32 → (Nat → Option Nat) → (Nat → Int32) → (Nat → Int32) → Prop) : Nat → (Nat → Option Nat) → (Nat → Int32) → (Nat → Int32) → Int32 → Int32 → Int32 → Prop
  | 0 => fun _ _ _ _ _ _ => False
  | n + 1 => fun hung g_place g_sold v1 v2 v3 => ((14 ≤ v3 → Q v2 hung g_place g_sold) ∧ (¬ (14 ≤ v3) → ((¬ ((v1 >>> (v3 &&& 31)) &&& 1) = 1 → bk_C_X7_sell_31 LP csize offered Q (lp_C_X7_sell_4 LP csize offered Q n) hung g_place g_sold v1 v2 v3) ∧ (((v1 >>> (v3 &&& 31)) &&& 1) = 1 → wp_C_X0_legAt LP csize offered (fun r_3 => ((r_3 = none → bk_C_X7_sell_31 LP csize offered Q (lp_C_X7_sell_4 LP csize offered Q n) hung g_place g_sold v1 v2 v3) ∧ (∀ y_4 : Nat, r_3 = some y_4 → y_4 ∈ LP ∧ bk_C_X7_sell_31_1 LP csize offered Q (lp_C_X7_sell_4 LP csize offered Q n) hung g_place g_sold v1 v2 v3 y_4))) v3))))
def wp_C_X7_sell (LP : List Nat) (csize : Int32) (offered : Nat → Option Nat) (Q : Int32 → (Nat → Option Nat) → (Nat → Int32) → (Nat → Int32) → Prop) (hung : Nat → Option Nat) (g_place : Nat → Int32) (g_sold : Nat → Int32) (p0 : Int32) : Prop := (∃ n_9, lp_C_X7_sell_4 LP csize offered Q n_9 hung g_place g_sold p0 0 0)
def rm_C_X7_sell : Room := { frames := 1, cells := 0, slots := 0, locals := 22 }
abbrev pq_C_X7_sell (dC : Nat → ClassId) (dI : Nat → Nat → Nat) (ad : Nat → Nat) (cB cI cZ cL : ClassId) (A : Nat → Prop) (LP : List Nat) (today legCount : Int32) (legs hung : Nat → Option Nat) (warmth damp wopen : Nat → Int32) (tsize : Int32) (bytes : Nat → Int32) (rat rtold rwrong : Int32) (numbers asked : Nat → Int32) (ftold : Int32) (ffarm ffrom fwhat fon : Nat → Int32) (csize ctotal : Int32) (offered : Nat → Option Nat) (cws cwa g_number g_farm g_pig g_first g_begun g_weight g_salted g_heat g_place g_target g_feedAsked g_sealed g_bad g_sold : Nat → Int32) (Q : Int32 → (Nat → Option Nat) → (Nat → Int32) → (Nat → Int32) → Prop) : Array Value → State → Outcome → State → Prop := va_Qi (fun (r : Int32) (u : (Nat → Option Nat) × (Nat → Int32) × (Nat → Int32)) => Q r u.1 u.2.1 u.2.2) (fun u t => kB dC dI A (wA ad cB cI cZ cL LP today legCount legs u.1 warmth damp wopen tsize bytes rat rtold rwrong numbers asked ftold ffarm ffrom fwhat fon csize ctotal offered cws cwa g_number g_farm g_pig g_first g_begun g_weight g_salted g_heat u.2.1 g_target g_feedAsked g_sealed g_bad u.2.2) (kTy cB cI cZ cL) t) A
set_option maxHeartbeats 4000000 in
set_option maxRecDepth 100000 in
theorem c_C_X7_sell (l : Launch) (dC : Nat → ClassId) (dI : Nat → Nat → Nat) (ad : Nat → Nat) (cB cI cZ cL : ClassId) (A : Nat → Prop) (LP : List Nat) (today legCount : Int32) (legs hung : Nat → Option Nat) (warmth damp wopen : Nat → Int32) (tsize : Int32) (bytes : Nat → Int32) (rat rtold rwrong : Int32) (numbers asked : Nat → Int32) (ftold : Int32) (ffarm ffrom fwhat fon : Nat → Int32) (csize ctotal : Int32) (offered : Nat → Option Nat) (cws cwa g_number g_farm g_pig g_first g_begun g_weight g_salted g_heat g_place g_target g_feedAsked g_sealed g_bad g_sold : Nat → Int32) (p0 : Int32)  (Q : Int32 → (Nat → Option Nat) → (Nat → Int32) → (Nat → Int32) → Prop) (h : wp_C_X7_sell LP csize offered Q hung g_place g_sold p0) : Met l yX7_sell wsX7_sell rm_C_X7_sell (va_Pc [.ref (ad 0), .int p0] (kC dC dI ad A (wA ad cB cI cZ cL LP today legCount legs hung warmth damp wopen tsize bytes rat rtold rwrong numbers asked ftold ffarm ffrom fwhat fon csize ctotal offered cws cwa g_number g_farm g_pig g_first g_begun g_weight g_salted g_heat g_place g_target g_feedAsked g_sealed g_bad g_sold) (kTy cB cI cZ cL))) (pq_C_X7_sell dC dI ad cB cI cZ cL A LP today legCount legs hung warmth damp wopen tsize bytes rat rtold rwrong numbers asked ftold ffarm ffrom fwhat fon csize ctotal offered cws cwa g_number g_farm g_pig g_first g_begun g_weight g_salted g_heat g_place g_target g_feedAsked g_sealed g_bad g_sold Q) 0 0 A := by
  refine Met.ofW (cc := cX7_sell) (maxL := 5) (ret := (some .int)) (by decide) rfl ?_
  intro p e s m args below meth c s₁ B hml hv
  obtain ⟨rfl, hA, hP, hK, hD, hE⟩ := hv
  have hx := B.exec
  have hb := B.bytes
  have hr := B.returns
  have hts := atoms_spec (ws := wsX7_sell) B.pre
  have hown : s.vm.findClass RX7 = some m.cls := findClass_of_methodNamed B.named
  have hlocks := B.notSynchronized
  have hS : va_S A s.heap s.heap [] := va_S.rf
  have hk_0 := hts (.fieldLink RX7 59 "HamCellar" "choice" "LHamCellar$Choice;") (by decide +kernel)
  have hk_1 : ∀ w ∈ wsX70, w ∈ wsX7_sell := by decide +kernel
  have hk_2 := hts (.fieldLink RX7 18 "HamCellar" "hooks" "LHamCellar$Hooks;") (by decide +kernel)
  have hk_3n := hE.2.1.1 ("HamCellar", 113, "HamCellar$Leg", "sold", "Z", "HamCellar") (by decide +kernel)
  have hk_3 : (Cond.fieldLinkNest "HamCellar" 113 "HamCellar$Leg" "sold" "Z" "HamCellar").before ([.ref (ad 0), .int p0] : List Value).toArray s = true := va_Nw.use rfl hk_3n
  have hk_4 : ∀ w ∈ wsX30, w ∈ wsX7_sell := by decide +kernel
  have hbk_C_X7_sell_56 : ∀ (K4 : (Nat → Option Nat) → (Nat → Int32) → (Nat → Int32) → Int32 → Int32 → Int32 → Prop) (hK4 : ∀ (hung : Nat → Option Nat) (g_place : Nat → Int32) (g_sold : Nat → Int32) (v1 : Int32) (v2 : Int32) (v3 : Int32) (H : Heap) (locs : List Loc) (ls : Array Slot), va_P (dC, dI) vwCl (wA ad cB cI cZ cL LP today legCount legs hung warmth damp wopen tsize bytes rat rtold rwrong numbers asked ftold ffarm ffrom fwhat fon csize ctotal offered cws cwa g_number g_farm g_pig g_first g_begun g_weight g_salted g_heat g_place g_target g_feedAsked g_sealed g_bad g_sold) H → va_D A (wA ad cB cI cZ cL LP today legCount legs hung warmth damp wopen tsize bytes rat rtold rwrong numbers asked ftold ffarm ffrom fwhat fon csize ctotal offered cws cwa g_number g_farm g_pig g_first g_begun g_weight g_salted g_heat g_place g_target g_feedAsked g_sealed g_bad g_sold) → va_S A s.heap H locs → lv_has ls 5 [(0, .ref (ad 0)), (1, .int v1), (2, .int v2), (3, .int v3)] → K4 hung g_place g_sold v1 v2 v3 → W p l e (headSpec wsX7_sell rm_C_X7_sell).room s m ([.ref (ad 0), .int p0] : List Value).toArray below meth c H locs 0 0 (MQ below (pq_C_X7_sell dC dI ad cB cI cZ cL A LP today legCount legs hung warmth damp wopen tsize bytes rat rtold rwrong numbers asked ftold ffarm ffrom fwhat fon csize ctotal offered cws cwa g_number g_farm g_pig g_first g_begun g_weight g_salted g_heat g_place g_target g_feedAsked g_sealed g_bad g_sold Q) ([.ref (ad 0), .int p0] : List Value).toArray s 0 0 A) (F0 m 4 ls [])) (hung : Nat → Option Nat) (g_place : Nat → Int32) (g_sold : Nat → Int32) (v1 : Int32) (v2 : Int32) (v3 : Int32) (H : Heap) (locs : List Loc) (ls : Array Slot), va_P (dC, dI) vwCl (wA ad cB cI cZ cL LP today legCount legs hung warmth damp wopen tsize bytes rat rtold rwrong numbers asked ftold ffarm ffrom fwhat fon csize ctotal offered cws cwa g_number g_farm g_pig g_first g_begun g_weight g_salted g_heat g_place g_target g_feedAsked g_sealed g_bad g_sold) H → va_D A (wA ad cB cI cZ cL LP today legCount legs hung warmth damp wopen tsize bytes rat rtold rwrong numbers asked ftold ffarm ffrom fwhat fon csize ctotal offered cws cwa g_number g_farm g_pig g_first g_begun g_weight g_salted g_heat g_place g_target g_feedAsked g_sealed g_bad g_sold) → va_S A s.heap H locs → lv_has ls 5 [(0, .ref (ad 0)), (1, .int v1), (2, .int v2), (3, .int v3)] → bk_C_X7_sell_56 LP csize offered Q K4 hung g_place g_sold v1 v2 v3 → W p l e (headSpec wsX7_sell rm_C_X7_sell).room s m ([.ref (ad 0), .int p0] : List Value).toArray below meth c H locs 0 0 (MQ below (pq_C_X7_sell dC dI ad cB cI cZ cL A LP today legCount legs hung warmth damp wopen tsize bytes rat rtold rwrong numbers asked ftold ffarm ffrom fwhat fon csize ctotal offered cws cwa g_number g_farm g_pig g_first g_begun g_weight g_salted g_heat g_place g_target g_feedAsked g_sealed g_bad g_sold Q) ([.ref (ad 0), .int p0] : List Value).toArray s 0 0 A) (F0 m 56 ls []) := by
    intro K4 hK4 hung g_place g_sold v1 v2 v3 H locs ls hP hD hS hl h
    refine lv_iinc (v := v3 + 1) (lv' := [(3, .int (v3 + 1)), (0, .ref (ad 0)), (1, .int v1), (2, .int v2)]) hx hb dX7_sell_56 hl (k := 3) rfl rfl (by decide) rfl (fun ls hl => ?_)
    refine lv_goto (tgt := 4) hx hb dX7_sell_59 (by decide) ?_
    exact hK4 hung g_place g_sold v1 v2 (v3 + 1) _ _ _ hP hD hS (lv_sub hl [1, 2, 3, 0] rfl) h
  have hbk_C_X7_sell_31 : ∀ (K4 : (Nat → Option Nat) → (Nat → Int32) → (Nat → Int32) → Int32 → Int32 → Int32 → Prop) (hK4 : ∀ (hung : Nat → Option Nat) (g_place : Nat → Int32) (g_sold : Nat → Int32) (v1 : Int32) (v2 : Int32) (v3 : Int32) (H : Heap) (locs : List Loc) (ls : Array Slot), va_P (dC, dI) vwCl (wA ad cB cI cZ cL LP today legCount legs hung warmth damp wopen tsize bytes rat rtold rwrong numbers asked ftold ffarm ffrom fwhat fon csize ctotal offered cws cwa g_number g_farm g_pig g_first g_begun g_weight g_salted g_heat g_place g_target g_feedAsked g_sealed g_bad g_sold) H → va_D A (wA ad cB cI cZ cL LP today legCount legs hung warmth damp wopen tsize bytes rat rtold rwrong numbers asked ftold ffarm ffrom fwhat fon csize ctotal offered cws cwa g_number g_farm g_pig g_first g_begun g_weight g_salted g_heat g_place g_target g_feedAsked g_sealed g_bad g_sold) → va_S A s.heap H locs → lv_has ls 5 [(0, .ref (ad 0)), (1, .int v1), (2, .int v2), (3, .int v3)] → K4 hung g_place g_sold v1 v2 v3 → W p l e (headSpec wsX7_sell rm_C_X7_sell).room s m ([.ref (ad 0), .int p0] : List Value).toArray below meth c H locs 0 0 (MQ below (pq_C_X7_sell dC dI ad cB cI cZ cL A LP today legCount legs hung warmth damp wopen tsize bytes rat rtold rwrong numbers asked ftold ffarm ffrom fwhat fon csize ctotal offered cws cwa g_number g_farm g_pig g_first g_begun g_weight g_salted g_heat g_place g_target g_feedAsked g_sealed g_bad g_sold Q) ([.ref (ad 0), .int p0] : List Value).toArray s 0 0 A) (F0 m 4 ls [])) (hung : Nat → Option Nat) (g_place : Nat → Int32) (g_sold : Nat → Int32) (v1 : Int32) (v2 : Int32) (v3 : Int32) (H : Heap) (locs : List Loc) (ls : Array Slot), va_P (dC, dI) vwCl (wA ad cB cI cZ cL LP today legCount legs hung warmth damp wopen tsize bytes rat rtold rwrong numbers asked ftold ffarm ffrom fwhat fon csize ctotal offered cws cwa g_number g_farm g_pig g_first g_begun g_weight g_salted g_heat g_place g_target g_feedAsked g_sealed g_bad g_sold) H → va_D A (wA ad cB cI cZ cL LP today legCount legs hung warmth damp wopen tsize bytes rat rtold rwrong numbers asked ftold ffarm ffrom fwhat fon csize ctotal offered cws cwa g_number g_farm g_pig g_first g_begun g_weight g_salted g_heat g_place g_target g_feedAsked g_sealed g_bad g_sold) → va_S A s.heap H locs → lv_has ls 5 [(0, .ref (ad 0)), (1, .int v1), (2, .int v2), (3, .int v3)] → bk_C_X7_sell_31 LP csize offered Q K4 hung g_place g_sold v1 v2 v3 → W p l e (headSpec wsX7_sell rm_C_X7_sell).room s m ([.ref (ad 0), .int p0] : List Value).toArray below meth c H locs 0 0 (MQ below (pq_C_X7_sell dC dI ad cB cI cZ cL A LP today legCount legs hung warmth damp wopen tsize bytes rat rtold rwrong numbers asked ftold ffarm ffrom fwhat fon csize ctotal offered cws cwa g_number g_farm g_pig g_first g_begun g_weight g_salted g_heat g_place g_target g_feedAsked g_sealed g_bad g_sold Q) ([.ref (ad 0), .int p0] : List Value).toArray s 0 0 A) (F0 m 31 ls [.null]) := by
    intro K4 hK4 hung g_place g_sold v1 v2 v3 H locs ls hP hD hS hl h
    refine lv_astoreN (lv' := [(4, .null), (0, .ref (ad 0)), (1, .int v1), (2, .int v2), (3, .int v3)]) hx hb dX7_sell_31 hl (by decide) rfl (fun ls hl => ?_)
    refine lv_aloadN hx hb dX7_sell_33 (lv_at hl 0 rfl) ?_
    refine lv_ifnullN (tgt := 56) hx hb dX7_sell_35 (by decide) ?_
    exact hbk_C_X7_sell_56 K4 hK4 hung g_place g_sold v1 v2 v3 _ _ _ hP hD hS (lv_sub hl [1, 2, 3, 4] rfl) h
  have hbk_C_X7_sell_31_1 : ∀ (K4 : (Nat → Option Nat) → (Nat → Int32) → (Nat → Int32) → Int32 → Int32 → Int32 → Prop) (hK4 : ∀ (hung : Nat → Option Nat) (g_place : Nat → Int32) (g_sold : Nat → Int32) (v1 : Int32) (v2 : Int32) (v3 : Int32) (H : Heap) (locs : List Loc) (ls : Array Slot), va_P (dC, dI) vwCl (wA ad cB cI cZ cL LP today legCount legs hung warmth damp wopen tsize bytes rat rtold rwrong numbers asked ftold ffarm ffrom fwhat fon csize ctotal offered cws cwa g_number g_farm g_pig g_first g_begun g_weight g_salted g_heat g_place g_target g_feedAsked g_sealed g_bad g_sold) H → va_D A (wA ad cB cI cZ cL LP today legCount legs hung warmth damp wopen tsize bytes rat rtold rwrong numbers asked ftold ffarm ffrom fwhat fon csize ctotal offered cws cwa g_number g_farm g_pig g_first g_begun g_weight g_salted g_heat g_place g_target g_feedAsked g_sealed g_bad g_sold) → va_S A s.heap H locs → lv_has ls 5 [(0, .ref (ad 0)), (1, .int v1), (2, .int v2), (3, .int v3)] → K4 hung g_place g_sold v1 v2 v3 → W p l e (headSpec wsX7_sell rm_C_X7_sell).room s m ([.ref (ad 0), .int p0] : List Value).toArray below meth c H locs 0 0 (MQ below (pq_C_X7_sell dC dI ad cB cI cZ cL A LP today legCount legs hung warmth damp wopen tsize bytes rat rtold rwrong numbers asked ftold ffarm ffrom fwhat fon csize ctotal offered cws cwa g_number g_farm g_pig g_first g_begun g_weight g_salted g_heat g_place g_target g_feedAsked g_sealed g_bad g_sold Q) ([.ref (ad 0), .int p0] : List Value).toArray s 0 0 A) (F0 m 4 ls [])) (hung : Nat → Option Nat) (g_place : Nat → Int32) (g_sold : Nat → Int32) (v1 : Int32) (v2 : Int32) (v3 : Int32) (k0 : Nat) (hy_k0 : k0 ∈ LP) (H : Heap) (locs : List Loc) (ls : Array Slot), va_P (dC, dI) vwCl (wA ad cB cI cZ cL LP today legCount legs hung warmth damp wopen tsize bytes rat rtold rwrong numbers asked ftold ffarm ffrom fwhat fon csize ctotal offered cws cwa g_number g_farm g_pig g_first g_begun g_weight g_salted g_heat g_place g_target g_feedAsked g_sealed g_bad g_sold) H → va_D A (wA ad cB cI cZ cL LP today legCount legs hung warmth damp wopen tsize bytes rat rtold rwrong numbers asked ftold ffarm ffrom fwhat fon csize ctotal offered cws cwa g_number g_farm g_pig g_first g_begun g_weight g_salted g_heat g_place g_target g_feedAsked g_sealed g_bad g_sold) → va_S A s.heap H locs → lv_has ls 5 [(0, .ref (ad 0)), (1, .int v1), (2, .int v2), (3, .int v3)] → bk_C_X7_sell_31_1 LP csize offered Q K4 hung g_place g_sold v1 v2 v3 k0 → W p l e (headSpec wsX7_sell rm_C_X7_sell).room s m ([.ref (ad 0), .int p0] : List Value).toArray below meth c H locs 0 0 (MQ below (pq_C_X7_sell dC dI ad cB cI cZ cL A LP today legCount legs hung warmth damp wopen tsize bytes rat rtold rwrong numbers asked ftold ffarm ffrom fwhat fon csize ctotal offered cws cwa g_number g_farm g_pig g_first g_begun g_weight g_salted g_heat g_place g_target g_feedAsked g_sealed g_bad g_sold Q) ([.ref (ad 0), .int p0] : List Value).toArray s 0 0 A) (F0 m 31 ls [.ref k0]) := by
    intro K4 hK4 hung g_place g_sold v1 v2 v3 k0 hy_k0 H locs ls hP hD hS hl h
    have h : wp_C_X2_takeOff LP (fun hung_7 g_place_7 => bk_C_X7_sell_56 LP csize offered Q K4 hung_7 g_place_7 (va_up g_sold k0 1) v1 (v2 + 1) v3) hung g_place k0 := h
    refine lv_astore (lv' := [(4, .ref k0), (0, .ref (ad 0)), (1, .int v1), (2, .int v2), (3, .int v3)]) hx hb dX7_sell_31 hl (by decide) rfl (fun ls hl => ?_)
    refine lv_aload hx hb dX7_sell_33 (lv_at hl 0 rfl) ?_
    refine lv_ifnull hx hb dX7_sell_35 ?_
    refine lv_aload_n hx hb dX7_sell_38 rfl (lv_at hl 1 rfl) ?_
    refine va_get (D := (dC, dI)) (ci := 7) (v := .ref (ad 2)) (C := RX7) (T := TX7) (N := 10) hx hb hts hk_1 hown hK hP 0 wA_g0 rfl 3 (by decide) hk_2 (fun _ h9 => h9) rfl dX7_sell_39 ?_
    refine lv_aload hx hb dX7_sell_42 (lv_at hl 0 rfl) ?_
    refine va_callv (va_runV (As := [.ref k0]) (rest := []) ⟨hx, hb, hml, hown, hts⟩ (c_C_X2_takeOff l dC dI ad cB cI cZ cL A LP today legCount legs hung warmth damp wopen tsize bytes rat rtold rwrong numbers asked ftold ffarm ffrom fwhat fon csize ctotal offered cws cwa g_number g_farm g_pig g_first g_begun g_weight g_salted g_heat g_place g_target g_feedAsked g_sealed g_bad g_sold k0 hy_k0 _ h) (cwV 1 hts gX7_sell_X2_takeOff rfl rfl rfl (by decide +kernel) ⟨(Nat.le_of_ble_eq_true rfl), (Nat.le_of_ble_eq_true rfl)⟩) ⟨kC_blind, va_recv hK hP (ci := 2) (q0 := 2) rfl wA_g2, fun U hU hW => ⟨rfl, kC_go hA hS hP hK hD hE U hU hW⟩⟩ rfl rfl hl.1 rfl (lv_room (Nat.le_of_ble_eq_true rfl)) dX7_sell_44 ⟨(Nat.le_of_ble_eq_true rfl), (Nat.le_of_ble_eq_true rfl)⟩) hS (fun q _ h => h) (fun q h => h) (fun u t H locs ht hvm hw hB hz1 hk1 hS => ?_)
    obtain ⟨hung_7, g_place_7⟩ := u
    have h := hw
    try dsimp only at h
    have hP : va_P (dC, dI) vwCl (wA ad cB cI cZ cL LP today legCount legs hung_7 warmth damp wopen tsize bytes rat rtold rwrong numbers asked ftold ffarm ffrom fwhat fon csize ctotal offered cws cwa g_number g_farm g_pig g_first g_begun g_weight g_salted g_heat g_place_7 g_target g_feedAsked g_sealed g_bad g_sold) H := by rw [← ht]; exact hB.1
    have hD : va_D A (wA ad cB cI cZ cL LP today legCount legs hung_7 warmth damp wopen tsize bytes rat rtold rwrong numbers asked ftold ffarm ffrom fwhat fon csize ctotal offered cws cwa g_number g_farm g_pig g_first g_begun g_weight g_salted g_heat g_place_7 g_target g_feedAsked g_sealed g_bad g_sold) := hB.2.2
    refine lv_aload hx hb dX7_sell_47 (lv_at hl 0 rfl) ?_
    refine lv_iconst (v := 1) hx hb dX7_sell_49 (by decide) ?_
    obtain ⟨k_8, hg_k_8⟩ := wA_leg hy_k0
    refine va_putN (D := (dC, dI)) (ci := 3) (v := .int 1) (ty := .boolean) (C := RX3) (T := TX3) (N := 14) hx hb hts hk_4 tyX3 tyX3_ok nmX3 hown hK hP hD hS k_8 hg_k_8 rfl 13 (by decide) hk_3 (fun _ h9 => h9) rfl (by decide +kernel) rfl rfl (Nat.le_of_ble_eq_true rfl) dX7_sell_50 (fun H locs hP2 hD2 hS => ?_)
    have hP : va_P (dC, dI) vwCl (wA ad cB cI cZ cL LP today legCount legs hung_7 warmth damp wopen tsize bytes rat rtold rwrong numbers asked ftold ffarm ffrom fwhat fon csize ctotal offered cws cwa g_number g_farm g_pig g_first g_begun g_weight g_salted g_heat g_place_7 g_target g_feedAsked g_sealed g_bad (va_up g_sold k0 1)) H := hP_eq (wA_p_g_sold hD hy_k0 hg_k_8) hP2
    have hD : va_D A (wA ad cB cI cZ cL LP today legCount legs hung_7 warmth damp wopen tsize bytes rat rtold rwrong numbers asked ftold ffarm ffrom fwhat fon csize ctotal offered cws cwa g_number g_farm g_pig g_first g_begun g_weight g_salted g_heat g_place_7 g_target g_feedAsked g_sealed g_bad (va_up g_sold k0 1)) := hD_eq (wA_p_g_sold hD hy_k0 hg_k_8) hD2
    refine lv_iinc (v := v2 + 1) (lv' := [(2, .int (v2 + 1)), (4, .ref k0), (0, .ref (ad 0)), (1, .int v1), (3, .int v3)]) hx hb dX7_sell_53 hl (k := 3) rfl rfl (by decide) rfl (fun ls hl => ?_)
    exact hbk_C_X7_sell_56 K4 hK4 hung_7 g_place_7 (va_up g_sold k0 1) v1 (v2 + 1) v3 _ _ _ hP hD hS (lv_sub hl [2, 3, 0, 4] rfl) h
  have hlp_C_X7_sell_4 : ∀ (n : Nat) (hung : Nat → Option Nat) (g_place : Nat → Int32) (g_sold : Nat → Int32) (v1 : Int32) (v2 : Int32) (v3 : Int32) (H : Heap) (locs : List Loc) (ls : Array Slot), va_P (dC, dI) vwCl (wA ad cB cI cZ cL LP today legCount legs hung warmth damp wopen tsize bytes rat rtold rwrong numbers asked ftold ffarm ffrom fwhat fon csize ctotal offered cws cwa g_number g_farm g_pig g_first g_begun g_weight g_salted g_heat g_place g_target g_feedAsked g_sealed g_bad g_sold) H → va_D A (wA ad cB cI cZ cL LP today legCount legs hung warmth damp wopen tsize bytes rat rtold rwrong numbers asked ftold ffarm ffrom fwhat fon csize ctotal offered cws cwa g_number g_farm g_pig g_first g_begun g_weight g_salted g_heat g_place g_target g_feedAsked g_sealed g_bad g_sold) → va_S A s.heap H locs → lv_has ls 5 [(0, .ref (ad 0)), (1, .int v1), (2, .int v2), (3, .int v3)] → lp_C_X7_sell_4 LP csize offered Q n hung g_place g_sold v1 v2 v3 → W p l e (headSpec wsX7_sell rm_C_X7_sell).room s m ([.ref (ad 0), .int p0] : List Value).toArray below meth c H locs 0 0 (MQ below (pq_C_X7_sell dC dI ad cB cI cZ cL A LP today legCount legs hung warmth damp wopen tsize bytes rat rtold rwrong numbers asked ftold ffarm ffrom fwhat fon csize ctotal offered cws cwa g_number g_farm g_pig g_first g_begun g_weight g_salted g_heat g_place g_target g_feedAsked g_sealed g_bad g_sold Q) ([.ref (ad 0), .int p0] : List Value).toArray s 0 0 A) (F0 m 4 ls []) := by
    intro n
    induction n with
    | zero => intro hung g_place g_sold v1 v2 v3 H locs ls hP hD hS hl h; exact h.elim
    | succ n ih =>
      intro hung g_place g_sold v1 v2 v3 H locs ls hP hD hS hl h
      refine lv_iload_n hx hb dX7_sell_4 rfl (lv_at hl 3 rfl) ?_
      refine lv_bipush (v := 14) hx hb dX7_sell_5 (by decide) ?_
      refine lv_icmp_ge (tgt := 62) hx hb dX7_sell_7 (by decide) (fun c_1 => ?_) (fun c_1 => ?_)
      · have h := h.1 c_1
        refine lv_iload_n hx hb dX7_sell_62 rfl (lv_at hl 2 rfl) ?_
        exact W.iret (v := v2) hx hb hr (fun t ht hW => ⟨⟨v2, (hung, g_place, g_sold), rfl, h, kB_mk hP hK hD ht hW.alike⟩, hS.F ht⟩) hS.2.2 dX7_sell_63
      · have h := h.2 c_1
        refine lv_iload_n hx hb dX7_sell_10 rfl (lv_at hl 1 rfl) ?_
        refine lv_iload_n hx hb dX7_sell_11 rfl (lv_at hl 3 rfl) ?_
        refine lv_ishr hx hb dX7_sell_12 ?_
        refine lv_iconst (v := 1) hx hb dX7_sell_13 (by decide) ?_
        refine lv_iand hx hb dX7_sell_14 ?_
        refine lv_iconst (v := 1) hx hb dX7_sell_15 (by decide) ?_
        refine lv_icmp_ne (tgt := 30) hx hb dX7_sell_16 (by decide) (fun c_2 => ?_) (fun c_2 => ?_)
        · have h := h.1 c_2
          refine lv_null hx hb dX7_sell_30 ?_
          exact hbk_C_X7_sell_31 (lp_C_X7_sell_4 LP csize offered Q n) ih hung g_place g_sold v1 v2 v3 _ _ _ hP hD hS (lv_sub hl [0, 1, 2, 3] rfl) h
        · have h := h.2 c_2
          refine lv_aload_n hx hb dX7_sell_19 rfl (lv_at hl 0 rfl) ?_
          refine va_get (D := (dC, dI)) (ci := 7) (v := .ref (ad 18)) (C := RX7) (T := TX7) (N := 10) hx hb hts hk_1 hown hK hP 0 wA_g0 rfl 9 (by decide) hk_0 (fun _ h9 => h9) rfl dX7_sell_20 ?_
          refine lv_iload_n hx hb dX7_sell_23 rfl (lv_at hl 3 rfl) ?_
          refine va_callq (va_runV (As := [.int v3]) (rest := []) ⟨hx, hb, hml, hown, hts⟩ (c_C_X0_legAt l dC dI ad cB cI cZ cL A LP today legCount legs hung warmth damp wopen tsize bytes rat rtold rwrong numbers asked ftold ffarm ffrom fwhat fon csize ctotal offered cws cwa g_number g_farm g_pig g_first g_begun g_weight g_salted g_heat g_place g_target g_feedAsked g_sealed g_bad g_sold v3 _ h) (cwV 1 hts gX7_sell_X0_legAt rfl rfl rfl (by decide +kernel) ⟨(Nat.le_of_ble_eq_true rfl), (Nat.le_of_ble_eq_true rfl)⟩) ⟨kC_blind, va_recv hK hP (ci := 0) (q0 := 18) rfl wA_g18, fun U hU hW => ⟨rfl, kC_go hA hS hP hK hD hE U hU hW⟩⟩ rfl rfl hl.1 rfl (lv_room (Nat.le_of_ble_eq_true rfl)) dX7_sell_24 ⟨(Nat.le_of_ble_eq_true rfl), (Nat.le_of_ble_eq_true rfl)⟩) hS (fun q _ h => h) (fun q h => h) (fun r_3 u t H locs ht hvm hw hB hz1 hk1 hS => ?_)
          have h := hw
          try dsimp only at h
          have hP : va_P (dC, dI) vwCl (wA ad cB cI cZ cL LP today legCount legs hung warmth damp wopen tsize bytes rat rtold rwrong numbers asked ftold ffarm ffrom fwhat fon csize ctotal offered cws cwa g_number g_farm g_pig g_first g_begun g_weight g_salted g_heat g_place g_target g_feedAsked g_sealed g_bad g_sold) H := by rw [← ht]; exact hB.1
          have hD : va_D A (wA ad cB cI cZ cL LP today legCount legs hung warmth damp wopen tsize bytes rat rtold rwrong numbers asked ftold ffarm ffrom fwhat fon csize ctotal offered cws cwa g_number g_farm g_pig g_first g_begun g_weight g_salted g_heat g_place g_target g_feedAsked g_sealed g_bad g_sold) := hB.2.2
          cases hr_5 : r_3 with
          | none =>
            have h := h.1 hr_5
            refine lv_goto (tgt := 31) hx hb dX7_sell_27 (by decide) ?_
            exact hbk_C_X7_sell_31 (lp_C_X7_sell_4 LP csize offered Q n) ih hung g_place g_sold v1 v2 v3 _ _ _ hP hD hS (lv_sub hl [0, 1, 2, 3] rfl) h
          | some y_4 =>
            have hy_y_4 := (h.2 y_4 hr_5).1
            have h := (h.2 y_4 hr_5).2
            refine lv_goto (tgt := 31) hx hb dX7_sell_27 (by decide) ?_
            exact hbk_C_X7_sell_31_1 (lp_C_X7_sell_4 LP csize offered Q n) ih hung g_place g_sold v1 v2 v3 y_4 hy_y_4 _ _ _ hP hD hS (lv_sub hl [0, 1, 2, 3] rfl) h
  have hl := lv_entry ([.ref (ad 0), .int p0]) (n := 5) (Nat.le_of_ble_eq_true rfl)
  rw [lg_entry_eq]
  generalize (lg_sl ([.ref (ad 0), .int p0]) ++ List.replicate (5 - (lg_sl ([.ref (ad 0), .int p0])).length) Slot.unset).toArray = ls at hl ⊢
  have hl : lv_has ls 5 [(0, .ref (ad 0)), (1, .int p0)] := hl
  unfold wp_C_X7_sell at h
  refine lv_iconst (v := 0) hx hb dX7_sell_0 (by decide) ?_
  refine lv_istore_n (lv' := [(2, .int 0), (0, .ref (ad 0)), (1, .int p0)]) hx hb dX7_sell_1 rfl hl (by decide) rfl (fun ls hl => ?_)
  refine lv_iconst (v := 0) hx hb dX7_sell_2 (by decide) ?_
  refine lv_istore_n (lv' := [(3, .int 0), (2, .int 0), (0, .ref (ad 0)), (1, .int p0)]) hx hb dX7_sell_3 rfl hl (by decide) rfl (fun ls hl => ?_)
  obtain ⟨n_9, h⟩ := h
  exact hlp_C_X7_sell_4 n_9 hung g_place g_sold p0 0 0 _ _ _ hP hD hS (lv_sub hl [2, 3, 1, 0] rfl) h
def bk_C_X7_order_86 (LP : List Nat) (legs : Nat → Option Nat) (g_weight : Nat → Int32) (g_sealed : Nat → Int32) (g_bad : Nat → Int32)  (Q : Int32 → (Nat → Option Nat) → Int32 → Int32 → (Nat → Option Nat) → (Nat → Int32) → (Nat → Int32) → (Nat → Int32) → (Nat → Int32) → Prop) (X : Nat → (Nat → Option Nat) → Int32 → Int32 → (Nat → Option Nat) → (Nat → Int32) → (Nat → Int32) → (Nat → Int32) → (Nat → Int32) → Prop) (K36 : (Nat → Option Nat) → Int32 → Int32 → (Nat → Option Nat) → (Nat → Int32) → (Nat → Int32) → (Nat → Int32) → (Nat → Int32) → Int32 → Int32 → Int32 → Prop) (hung : Nat → Option Nat) (csize : Int32) (ctotal : Int32) (offered : Nat → Option Nat) (cws : Nat → Int32) (cwa : Nat → Int32) (g_place : Nat → Int32) (g_sold : Nat → Int32) (v1 : Int32) (v3 : Int32) (v4 : Int32) : Prop := K36 hung csize ctotal offered cws cwa g_place g_sold v1 v3 (v4 + 1)
def lp_C_X7_order_36 (LP : List Nat) (legs : Nat → Option Nat) (g_weight : Nat → Int32) (g_sealed : Nat → Int32) (g_bad : Nat → Int32)  (Q : Int32 → (Nat → Option Nat) → Int32 → Int32 → (Nat → Option Nat) → (Nat → Int32) → (Nat → Int32) → (Nat → Int32) → (Nat → Int32) → Prop) (X : Nat → (Nat → Option Nat) → Int32 → Int32 → (Nat → Option Nat) → (Nat → Int32) → (Nat → Int32) → (Nat → Int32) → (Nat → Int32) → Prop) : Nat → (Nat → Option Nat) → Int32 → Int32 → (Nat → Option Nat) → (Nat → Int32) → (Nat → Int32) → (Nat → Int32) → (Nat → Int32) → Int32 → Int32 → Int32 → Prop
  | 0 => fun _ _ _ _ _ _ _ _ _ _ _ => False
  | n + 1 => fun hung csize ctotal offered cws cwa g_place g_sold v1 v3 v4 => ((v3 ≤ v4 → wp_C_X0_leastSet csize ctotal cws cwa (fun r_5 => ((¬ r_5 = 0 → wp_C_X7_sell LP csize offered (fun r_7 hung_7 g_place_7 g_sold_7 => Q r_7 hung_7 csize ctotal offered cws cwa g_place_7 g_sold_7) hung g_place g_sold r_5) ∧ (r_5 = 0 → Q (-1) hung csize ctotal offered cws cwa g_place g_sold))) v1) ∧ (¬ (v3 ≤ v4) → (vp_in v4 60 ∧ ((legs v4.toNatClampNeg = none → bk_C_X7_order_86 LP legs g_weight g_sealed g_bad Q X (lp_C_X7_order_36 LP legs g_weight g_sealed g_bad Q X n) hung csize ctotal offered cws cwa g_place g_sold v1 v3 v4) ∧ (∀ y_9 : Nat, legs v4.toNatClampNeg = some y_9 → y_9 ∈ LP ∧ (((g_sealed y_9) = 0 → bk_C_X7_order_86 LP legs g_weight g_sealed g_bad Q X (lp_C_X7_order_36 LP legs g_weight g_sealed g_bad Q X n) hung csize ctotal offered cws cwa g_place g_sold v1 v3 v4) ∧ (¬ ((g_sealed y_9) = 0) → wp_C_X3_hangs LP g_place (fun r_14 => ((r_14 = 0 → bk_C_X7_order_86 LP legs g_weight g_sealed g_bad Q X (lp_C_X7_order_36 LP legs g_weight g_sealed g_bad Q X n) hung csize ctotal offered cws cwa g_place g_sold v1 v3 v4) ∧ (¬ (r_14 = 0) → ((¬ (g_bad y_9) = 0 → bk_C_X7_order_86 LP legs g_weight g_sealed g_bad Q X (lp_C_X7_order_36 LP legs g_weight g_sealed g_bad Q X n) hung csize ctotal offered cws cwa g_place g_sold v1 v3 v4) ∧ ((g_bad y_9) = 0 → wp_C_X0_offer LP g_weight (fun csize_19 ctotal_19 offered_19 cws_19 cwa_19 => bk_C_X7_order_86 LP legs g_weight g_sealed g_bad Q X (lp_C_X7_order_36 LP legs g_weight g_sealed g_bad Q X n) hung csize_19 ctotal_19 offered_19 cws_19 cwa_19 g_place g_sold v1 v3 v4) csize ctotal offered cws cwa y_9))))) y_9)))))))
def wp_C_X7_order (LP : List Nat) (legs : Nat → Option Nat) (g_weight : Nat → Int32) (g_sealed : Nat → Int32) (g_bad : Nat → Int32) (Q : Int32 → (Nat → Option Nat) → Int32 → Int32 → (Nat → Option Nat) → (Nat → Int32) → (Nat → Int32) → (Nat → Int32) → (Nat → Int32) → Prop) (X : Nat → (Nat → Option Nat) → Int32 → Int32 → (Nat → Option Nat) → (Nat → Int32) → (Nat → Int32) → (Nat → Int32) → (Nat → Int32) → Prop) (hung : Nat → Option Nat) (csize : Int32) (ctotal : Int32) (offered : Nat → Option Nat) (cws : Nat → Int32) (cwa : Nat → Int32) (g_place : Nat → Int32) (g_sold : Nat → Int32) (p0 : Int32) : Prop := wp_C_X7_isWithin (fun r_1 => ((¬ r_1 = 0 → wp_C_X0_clear (fun csize_3 ctotal_3 => (∃ n_20, lp_C_X7_order_36 LP legs g_weight g_sealed g_bad Q X n_20 hung csize_3 ctotal_3 offered cws cwa g_place g_sold p0 60 0)) csize ctotal) ∧ (r_1 = 0 → X 2 hung csize ctotal offered cws cwa g_place g_sold))) p0 1 200000
def rm_C_X7_order : Room := { frames := 6, cells := 1, slots := 6, locals := 81 }
abbrev pq_C_X7_order (dC : Nat → ClassId) (dI : Nat → Nat → Nat) (ad : Nat → Nat) (cB cI cZ cL : ClassId) (A : Nat → Prop) (LP : List Nat) (today legCount : Int32) (legs hung : Nat → Option Nat) (warmth damp wopen : Nat → Int32) (tsize : Int32) (bytes : Nat → Int32) (rat rtold rwrong : Int32) (numbers asked : Nat → Int32) (ftold : Int32) (ffarm ffrom fwhat fon : Nat → Int32) (csize ctotal : Int32) (offered : Nat → Option Nat) (cws cwa g_number g_farm g_pig g_first g_begun g_weight g_salted g_heat g_place g_target g_feedAsked g_sealed g_bad g_sold : Nat → Int32) (Q : Int32 → (Nat → Option Nat) → Int32 → Int32 → (Nat → Option Nat) → (Nat → Int32) → (Nat → Int32) → (Nat → Int32) → (Nat → Int32) → Prop) : Array Value → State → Outcome → State → Prop := va_Qi (fun (r : Int32) (u : (Nat → Option Nat) × Int32 × Int32 × (Nat → Option Nat) × (Nat → Int32) × (Nat → Int32) × (Nat → Int32) × (Nat → Int32)) => Q r u.1 u.2.1 u.2.2.1 u.2.2.2.1 u.2.2.2.2.1 u.2.2.2.2.2.1 u.2.2.2.2.2.2.1 u.2.2.2.2.2.2.2) (fun u t => kB dC dI A (wA ad cB cI cZ cL LP today legCount legs u.1 warmth damp wopen tsize bytes rat rtold rwrong numbers asked ftold ffarm ffrom fwhat fon u.2.1 u.2.2.1 u.2.2.2.1 u.2.2.2.2.1 u.2.2.2.2.2.1 g_number g_farm g_pig g_first g_begun g_weight g_salted g_heat u.2.2.2.2.2.2.1 g_target g_feedAsked g_sealed g_bad u.2.2.2.2.2.2.2) (kTy cB cI cZ cL) t) A
abbrev px_C_X7_order (dC : Nat → ClassId) (dI : Nat → Nat → Nat) (ad : Nat → Nat) (cB cI cZ cL : ClassId) (A : Nat → Prop) (LP : List Nat) (today legCount : Int32) (legs hung : Nat → Option Nat) (warmth damp wopen : Nat → Int32) (tsize : Int32) (bytes : Nat → Int32) (rat rtold rwrong : Int32) (numbers asked : Nat → Int32) (ftold : Int32) (ffarm ffrom fwhat fon : Nat → Int32) (csize ctotal : Int32) (offered : Nat → Option Nat) (cws cwa g_number g_farm g_pig g_first g_begun g_weight g_salted g_heat g_place g_target g_feedAsked g_sealed g_bad g_sold : Nat → Int32) (X : Nat → (Nat → Option Nat) → Int32 → Int32 → (Nat → Option Nat) → (Nat → Int32) → (Nat → Int32) → (Nat → Int32) → (Nat → Int32) → Prop) : String → State → State → Prop := vx_X (fun u : Nat × (Nat → Option Nat) × Int32 × Int32 × (Nat → Option Nat) × (Nat → Int32) × (Nat → Int32) × (Nat → Int32) × (Nat → Int32) => X u.1 u.2.1 u.2.2.1 u.2.2.2.1 u.2.2.2.2.1 u.2.2.2.2.2.1 u.2.2.2.2.2.2.1 u.2.2.2.2.2.2.2.1 u.2.2.2.2.2.2.2.2) (fun E u t => E = kEx u.1 ∧ kB dC dI A (wA ad cB cI cZ cL LP today legCount legs u.2.1 warmth damp wopen tsize bytes rat rtold rwrong numbers asked ftold ffarm ffrom fwhat fon u.2.2.1 u.2.2.2.1 u.2.2.2.2.1 u.2.2.2.2.2.1 u.2.2.2.2.2.2.1 g_number g_farm g_pig g_first g_begun g_weight g_salted g_heat u.2.2.2.2.2.2.2.1 g_target g_feedAsked g_sealed g_bad u.2.2.2.2.2.2.2.2) (kTy cB cI cZ cL) t) A
set_option maxHeartbeats 4000000 in
set_option maxRecDepth 100000 in
theorem c_C_X7_order (l : Launch) (hl0 : l.stackTraces = false) (dC : Nat → ClassId) (dI : Nat → Nat → Nat) (ad : Nat → Nat) (cB cI cZ cL : ClassId) (A : Nat → Prop) (LP : List Nat) (today legCount : Int32) (legs hung : Nat → Option Nat) (warmth damp wopen : Nat → Int32) (tsize : Int32) (bytes : Nat → Int32) (rat rtold rwrong : Int32) (numbers asked : Nat → Int32) (ftold : Int32) (ffarm ffrom fwhat fon : Nat → Int32) (csize ctotal : Int32) (offered : Nat → Option Nat) (cws cwa g_number g_farm g_pig g_first g_begun g_weight g_salted g_heat g_place g_target g_feedAsked g_sealed g_bad g_sold : Nat → Int32) (p0 : Int32)  (Q : Int32 → (Nat → Option Nat) → Int32 → Int32 → (Nat → Option Nat) → (Nat → Int32) → (Nat → Int32) → (Nat → Int32) → (Nat → Int32) → Prop) (X : Nat → (Nat → Option Nat) → Int32 → Int32 → (Nat → Option Nat) → (Nat → Int32) → (Nat → Int32) → (Nat → Int32) → (Nat → Int32) → Prop) (h : wp_C_X7_order LP legs g_weight g_sealed g_bad Q X hung csize ctotal offered cws cwa g_place g_sold p0) : vx_Met l yX7_order wsX7_order rm_C_X7_order (va_Pc [.ref (ad 0), .int p0] (kC dC dI ad A (wA ad cB cI cZ cL LP today legCount legs hung warmth damp wopen tsize bytes rat rtold rwrong numbers asked ftold ffarm ffrom fwhat fon csize ctotal offered cws cwa g_number g_farm g_pig g_first g_begun g_weight g_salted g_heat g_place g_target g_feedAsked g_sealed g_bad g_sold) (kTy cB cI cZ cL))) (pq_C_X7_order dC dI ad cB cI cZ cL A LP today legCount legs hung warmth damp wopen tsize bytes rat rtold rwrong numbers asked ftold ffarm ffrom fwhat fon csize ctotal offered cws cwa g_number g_farm g_pig g_first g_begun g_weight g_salted g_heat g_place g_target g_feedAsked g_sealed g_bad g_sold Q) (px_C_X7_order dC dI ad cB cI cZ cL A LP today legCount legs hung warmth damp wopen tsize bytes rat rtold rwrong numbers asked ftold ffarm ffrom fwhat fon csize ctotal offered cws cwa g_number g_farm g_pig g_first g_begun g_weight g_salted g_heat g_place g_target g_feedAsked g_sealed g_bad g_sold X) 1 6 A := by
  refine vx_ofW (cc := cX7_order) (maxL := 6) (ret := (some .int)) (by decide) rfl ?_
  intro p e s m args below meth c s₁ B hml htb hv
  obtain ⟨rfl, hA, hP, hK, hD, hE⟩ := hv
  have hx := B.exec
  have hb := B.bytes
  have hr := B.returns
  have hts := atoms_spec (ws := wsX7_order) B.pre
  have hown : s.vm.findClass RX7 = some m.cls := findClass_of_methodNamed B.named
  have hlocks := B.notSynchronized
  have hS : va_S A s.heap s.heap [] := va_S.rf
  have hk_0 := hts (.constant RX7 237 200000) (by decide +kernel)
  have hk_1 := hts (.fieldLink RX7 59 "HamCellar" "choice" "LHamCellar$Choice;") (by decide +kernel)
  have hk_2 : ∀ w ∈ wsX70, w ∈ wsX7_order := by decide +kernel
  have hk_3 := hts (.fieldLink RX7 11 "HamCellar" "legs" "[LHamCellar$Leg;") (by decide +kernel)
  have hk_4n := hE.2.1.1 ("HamCellar", 175, "HamCellar$Leg", "sealed", "Z", "HamCellar") (by decide +kernel)
  have hk_4 : (Cond.fieldLinkNest "HamCellar" 175 "HamCellar$Leg" "sealed" "Z" "HamCellar").before ([.ref (ad 0), .int p0] : List Value).toArray s = true := va_Nw.use rfl hk_4n
  have hk_5 : ∀ w ∈ wsX30, w ∈ wsX7_order := by decide +kernel
  have hk_6n := hE.2.1.1 ("HamCellar", 206, "HamCellar$Leg", "bad", "Z", "HamCellar") (by decide +kernel)
  have hk_6 : (Cond.fieldLinkNest "HamCellar" 206 "HamCellar$Leg" "bad" "Z" "HamCellar").before ([.ref (ad 0), .int p0] : List Value).toArray s = true := va_Nw.use rfl hk_6n
  have hk_7 := hts (.classLink RX7 85 "java/lang/IllegalArgumentException") (by decide +kernel)
  have hk_8 := hts (.initialized "java/lang/IllegalArgumentException") (by decide +kernel)
  have hk_9 : (∀ w ∈ vx_at0 RX7 87 "java/lang/IllegalArgumentException" ["java/lang/RuntimeException", "java/lang/Exception"], w.before ([.ref (ad 0), .int p0] : List Value).toArray s = true) ∧ (∀ w ∈ Cond.classLink RX7 85 "java/lang/IllegalArgumentException" :: Cond.initialized "java/lang/IllegalArgumentException" :: vx_at0 RX7 87 "java/lang/IllegalArgumentException" ["java/lang/RuntimeException", "java/lang/Exception"], vx_ot w = true) := ⟨vx_hat (B := [.castable "java/lang/IllegalArgumentException" "java/lang/IllegalArgumentException", .declares ⟨"java/lang/RuntimeException", "<init>", "()V"⟩, .declares ⟨"java/lang/Exception", "<init>", "()V"⟩, .declares ⟨"java/lang/Throwable", "<init>", "()V"⟩]) (fun w hw => hts w ((by decide +kernel : ∀ w ∈ (vx_at0 RX7 87 "java/lang/IllegalArgumentException" ["java/lang/RuntimeException", "java/lang/Exception"]).filter goodWord, w ∈ wsX7_order) w hw)) (by decide +kernel) (vx_c (va_Nw.use rfl (hE.2.1.2.2.1 "java/lang/IllegalArgumentException" (by decide))) (vx_c (va_Nw.use rfl (hE.2.1.2.2.2 _ (List.mem_of_getElem? (i := 0) rfl))) (vx_c (va_Nw.use rfl (hE.2.1.2.2.2 _ (List.mem_of_getElem? (i := 1) rfl))) (vx_c (va_Nw.use rfl (hE.2.1.2.2.2 _ (List.mem_of_getElem? (i := 2) rfl))) vx_n)))), by decide +kernel⟩
  have hbk_C_X7_order_86 : ∀ (K36 : (Nat → Option Nat) → Int32 → Int32 → (Nat → Option Nat) → (Nat → Int32) → (Nat → Int32) → (Nat → Int32) → (Nat → Int32) → Int32 → Int32 → Int32 → Prop) (hK36 : ∀ (hung : Nat → Option Nat) (csize : Int32) (ctotal : Int32) (offered : Nat → Option Nat) (cws : Nat → Int32) (cwa : Nat → Int32) (g_place : Nat → Int32) (g_sold : Nat → Int32) (v1 : Int32) (v3 : Int32) (v4 : Int32) (H : Heap) (locs : List Loc) (ls : Array Slot), va_P (dC, dI) vwCl (wA ad cB cI cZ cL LP today legCount legs hung warmth damp wopen tsize bytes rat rtold rwrong numbers asked ftold ffarm ffrom fwhat fon csize ctotal offered cws cwa g_number g_farm g_pig g_first g_begun g_weight g_salted g_heat g_place g_target g_feedAsked g_sealed g_bad g_sold) H → va_D A (wA ad cB cI cZ cL LP today legCount legs hung warmth damp wopen tsize bytes rat rtold rwrong numbers asked ftold ffarm ffrom fwhat fon csize ctotal offered cws cwa g_number g_farm g_pig g_first g_begun g_weight g_salted g_heat g_place g_target g_feedAsked g_sealed g_bad g_sold) → va_S A s.heap H locs → lv_has ls 6 [(0, .ref (ad 0)), (1, .int v1), (2, .ref (ad 1)), (3, .int v3), (4, .int v4)] → K36 hung csize ctotal offered cws cwa g_place g_sold v1 v3 v4 → W p l e (headSpec wsX7_order rm_C_X7_order).room s m ([.ref (ad 0), .int p0] : List Value).toArray below meth c H locs 0 0 (vx_MQ below (pq_C_X7_order dC dI ad cB cI cZ cL A LP today legCount legs hung warmth damp wopen tsize bytes rat rtold rwrong numbers asked ftold ffarm ffrom fwhat fon csize ctotal offered cws cwa g_number g_farm g_pig g_first g_begun g_weight g_salted g_heat g_place g_target g_feedAsked g_sealed g_bad g_sold Q) (px_C_X7_order dC dI ad cB cI cZ cL A LP today legCount legs hung warmth damp wopen tsize bytes rat rtold rwrong numbers asked ftold ffarm ffrom fwhat fon csize ctotal offered cws cwa g_number g_farm g_pig g_first g_begun g_weight g_salted g_heat g_place g_target g_feedAsked g_sealed g_bad g_sold X) ([.ref (ad 0), .int p0] : List Value).toArray s 1 6 A) (F0 m 36 ls [])) (hung : Nat → Option Nat) (csize : Int32) (ctotal : Int32) (offered : Nat → Option Nat) (cws : Nat → Int32) (cwa : Nat → Int32) (g_place : Nat → Int32) (g_sold : Nat → Int32) (v1 : Int32) (v3 : Int32) (v4 : Int32) (H : Heap) (locs : List Loc) (ls : Array Slot), va_P (dC, dI) vwCl (wA ad cB cI cZ cL LP today legCount legs hung warmth damp wopen tsize bytes rat rtold rwrong numbers asked ftold ffarm ffrom fwhat fon csize ctotal offered cws cwa g_number g_farm g_pig g_first g_begun g_weight g_salted g_heat g_place g_target g_feedAsked g_sealed g_bad g_sold) H → va_D A (wA ad cB cI cZ cL LP today legCount legs hung warmth damp wopen tsize bytes rat rtold rwrong numbers asked ftold ffarm ffrom fwhat fon csize ctotal offered cws cwa g_number g_farm g_pig g_first g_begun g_weight g_salted g_heat g_place g_target g_feedAsked g_sealed g_bad g_sold) → va_S A s.heap H locs → lv_has ls 6 [(0, .ref (ad 0)), (1, .int v1), (2, .ref (ad 1)), (3, .int v3), (4, .int v4)] → bk_C_X7_order_86 LP legs g_weight g_sealed g_bad Q X K36 hung csize ctotal offered cws cwa g_place g_sold v1 v3 v4 → W p l e (headSpec wsX7_order rm_C_X7_order).room s m ([.ref (ad 0), .int p0] : List Value).toArray below meth c H locs 0 0 (vx_MQ below (pq_C_X7_order dC dI ad cB cI cZ cL A LP today legCount legs hung warmth damp wopen tsize bytes rat rtold rwrong numbers asked ftold ffarm ffrom fwhat fon csize ctotal offered cws cwa g_number g_farm g_pig g_first g_begun g_weight g_salted g_heat g_place g_target g_feedAsked g_sealed g_bad g_sold Q) (px_C_X7_order dC dI ad cB cI cZ cL A LP today legCount legs hung warmth damp wopen tsize bytes rat rtold rwrong numbers asked ftold ffarm ffrom fwhat fon csize ctotal offered cws cwa g_number g_farm g_pig g_first g_begun g_weight g_salted g_heat g_place g_target g_feedAsked g_sealed g_bad g_sold X) ([.ref (ad 0), .int p0] : List Value).toArray s 1 6 A) (F0 m 86 ls []) := by
    intro K36 hK36 hung csize ctotal offered cws cwa g_place g_sold v1 v3 v4 H locs ls hP hD hS hl h
    refine lv_iinc (v := v4 + 1) (lv' := [(4, .int (v4 + 1)), (0, .ref (ad 0)), (1, .int v1), (2, .ref (ad 1)), (3, .int v3)]) hx hb dX7_order_86 hl (k := 4) rfl rfl (by decide) rfl (fun ls hl => ?_)
    refine lv_goto (tgt := 36) hx hb dX7_order_89 (by decide) ?_
    exact hK36 hung csize ctotal offered cws cwa g_place g_sold v1 v3 (v4 + 1) _ _ _ hP hD hS (lv_sub hl [1, 2, 3, 4, 0] rfl) h
  have hlp_C_X7_order_36 : ∀ (n : Nat) (hung : Nat → Option Nat) (csize : Int32) (ctotal : Int32) (offered : Nat → Option Nat) (cws : Nat → Int32) (cwa : Nat → Int32) (g_place : Nat → Int32) (g_sold : Nat → Int32) (v1 : Int32) (v3 : Int32) (v4 : Int32) (H : Heap) (locs : List Loc) (ls : Array Slot), va_P (dC, dI) vwCl (wA ad cB cI cZ cL LP today legCount legs hung warmth damp wopen tsize bytes rat rtold rwrong numbers asked ftold ffarm ffrom fwhat fon csize ctotal offered cws cwa g_number g_farm g_pig g_first g_begun g_weight g_salted g_heat g_place g_target g_feedAsked g_sealed g_bad g_sold) H → va_D A (wA ad cB cI cZ cL LP today legCount legs hung warmth damp wopen tsize bytes rat rtold rwrong numbers asked ftold ffarm ffrom fwhat fon csize ctotal offered cws cwa g_number g_farm g_pig g_first g_begun g_weight g_salted g_heat g_place g_target g_feedAsked g_sealed g_bad g_sold) → va_S A s.heap H locs → lv_has ls 6 [(0, .ref (ad 0)), (1, .int v1), (2, .ref (ad 1)), (3, .int v3), (4, .int v4)] → lp_C_X7_order_36 LP legs g_weight g_sealed g_bad Q X n hung csize ctotal offered cws cwa g_place g_sold v1 v3 v4 → W p l e (headSpec wsX7_order rm_C_X7_order).room s m ([.ref (ad 0), .int p0] : List Value).toArray below meth c H locs 0 0 (vx_MQ below (pq_C_X7_order dC dI ad cB cI cZ cL A LP today legCount legs hung warmth damp wopen tsize bytes rat rtold rwrong numbers asked ftold ffarm ffrom fwhat fon csize ctotal offered cws cwa g_number g_farm g_pig g_first g_begun g_weight g_salted g_heat g_place g_target g_feedAsked g_sealed g_bad g_sold Q) (px_C_X7_order dC dI ad cB cI cZ cL A LP today legCount legs hung warmth damp wopen tsize bytes rat rtold rwrong numbers asked ftold ffarm ffrom fwhat fon csize ctotal offered cws cwa g_number g_farm g_pig g_first g_begun g_weight g_salted g_heat g_place g_target g_feedAsked g_sealed g_bad g_sold X) ([.ref (ad 0), .int p0] : List Value).toArray s 1 6 A) (F0 m 36 ls []) := by
    intro n
    induction n with
    | zero => intro hung csize ctotal offered cws cwa g_place g_sold v1 v3 v4 H locs ls hP hD hS hl h; exact h.elim
    | succ n ih =>
      intro hung csize ctotal offered cws cwa g_place g_sold v1 v3 v4 H locs ls hP hD hS hl h
      refine lv_iload hx hb dX7_order_36 (lv_at hl 4 rfl) ?_
      refine lv_iload_n hx hb dX7_order_38 rfl (lv_at hl 3 rfl) ?_
      refine lv_icmp_ge (tgt := 92) hx hb dX7_order_39 (by decide) (fun c_4 => ?_) (fun c_4 => ?_)
      · have h := h.1 c_4
        refine lv_aload_n hx hb dX7_order_92 rfl (lv_at hl 0 rfl) ?_
        refine va_get (D := (dC, dI)) (ci := 7) (v := .ref (ad 18)) (C := RX7) (T := TX7) (N := 10) hx hb hts hk_2 hown hK hP 0 wA_g0 rfl 9 (by decide) hk_1 (fun _ h9 => h9) rfl dX7_order_93 ?_
        refine lv_iload_n hx hb dX7_order_96 rfl (lv_at hl 1 rfl) ?_
        refine va_calli (va_runV (As := [.int v1]) (rest := []) ⟨hx, hb, hml, hown, hts⟩ (c_C_X0_leastSet l dC dI ad cB cI cZ cL A LP today legCount legs hung warmth damp wopen tsize bytes rat rtold rwrong numbers asked ftold ffarm ffrom fwhat fon csize ctotal offered cws cwa g_number g_farm g_pig g_first g_begun g_weight g_salted g_heat g_place g_target g_feedAsked g_sealed g_bad g_sold v1 _ h) (cwV 1 hts gX7_order_X0_leastSet rfl rfl rfl (by decide +kernel) ⟨(Nat.le_of_ble_eq_true rfl), (Nat.le_of_ble_eq_true rfl)⟩) ⟨kC_blind, va_recv hK hP (ci := 0) (q0 := 18) rfl wA_g18, fun U hU hW => ⟨rfl, kC_go hA hS hP hK hD hE U hU hW⟩⟩ rfl rfl hl.1 rfl (lv_room (Nat.le_of_ble_eq_true rfl)) dX7_order_97 ⟨(Nat.le_of_ble_eq_true rfl), (Nat.le_of_ble_eq_true rfl)⟩) hS (fun q _ h => h) (fun q h => h) (fun r_5 u t H locs ht hvm hw hB hz1 hk1 hS => ?_)
        have h := hw
        try dsimp only at h
        have hP : va_P (dC, dI) vwCl (wA ad cB cI cZ cL LP today legCount legs hung warmth damp wopen tsize bytes rat rtold rwrong numbers asked ftold ffarm ffrom fwhat fon csize ctotal offered cws cwa g_number g_farm g_pig g_first g_begun g_weight g_salted g_heat g_place g_target g_feedAsked g_sealed g_bad g_sold) H := by rw [← ht]; exact hB.1
        have hD : va_D A (wA ad cB cI cZ cL LP today legCount legs hung warmth damp wopen tsize bytes rat rtold rwrong numbers asked ftold ffarm ffrom fwhat fon csize ctotal offered cws cwa g_number g_farm g_pig g_first g_begun g_weight g_salted g_heat g_place g_target g_feedAsked g_sealed g_bad g_sold) := hB.2.2
        refine lv_istore_n (lv' := [(2, .int r_5), (0, .ref (ad 0)), (1, .int v1), (3, .int v3), (4, .int v4)]) hx hb dX7_order_100 rfl hl (by decide) rfl (fun ls hl => ?_)
        refine lv_iload_n hx hb dX7_order_101 rfl (lv_at hl 0 rfl) ?_
        refine lv_if_ne (tgt := 109) hx hb dX7_order_102 (by decide) (fun c_6 => ?_) (fun c_6 => ?_)
        · have h := h.1 c_6
          refine lv_aload_n hx hb dX7_order_109 rfl (lv_at hl 1 rfl) ?_
          refine lv_iload_n hx hb dX7_order_110 rfl (lv_at hl 0 rfl) ?_
          refine va_calli (va_runV (As := [.int r_5]) (rest := []) ⟨hx, hb, hml, hown, hts⟩ (c_C_X7_sell l dC dI ad cB cI cZ cL A LP today legCount legs hung warmth damp wopen tsize bytes rat rtold rwrong numbers asked ftold ffarm ffrom fwhat fon csize ctotal offered cws cwa g_number g_farm g_pig g_first g_begun g_weight g_salted g_heat g_place g_target g_feedAsked g_sealed g_bad g_sold r_5 _ h) (cwV 1 hts gX7_order_X7_sell rfl rfl rfl (by decide +kernel) ⟨(Nat.le_of_ble_eq_true rfl), (Nat.le_of_ble_eq_true rfl)⟩) ⟨kC_blind, va_recv hK hP (ci := 7) (q0 := 0) rfl wA_g0, fun U hU hW => ⟨rfl, kC_go hA hS hP hK hD hE U hU hW⟩⟩ rfl rfl hl.1 rfl (lv_room (Nat.le_of_ble_eq_true rfl)) dX7_order_111 ⟨(Nat.le_of_ble_eq_true rfl), (Nat.le_of_ble_eq_true rfl)⟩) hS (fun q _ h => h) (fun q h => h) (fun r_7 u t H locs ht hvm hw hB hz1 hk1 hS => ?_)
          obtain ⟨hung_7, g_place_7, g_sold_7⟩ := u
          have h := hw
          try dsimp only at h
          have hP : va_P (dC, dI) vwCl (wA ad cB cI cZ cL LP today legCount legs hung_7 warmth damp wopen tsize bytes rat rtold rwrong numbers asked ftold ffarm ffrom fwhat fon csize ctotal offered cws cwa g_number g_farm g_pig g_first g_begun g_weight g_salted g_heat g_place_7 g_target g_feedAsked g_sealed g_bad g_sold_7) H := by rw [← ht]; exact hB.1
          have hD : va_D A (wA ad cB cI cZ cL LP today legCount legs hung_7 warmth damp wopen tsize bytes rat rtold rwrong numbers asked ftold ffarm ffrom fwhat fon csize ctotal offered cws cwa g_number g_farm g_pig g_first g_begun g_weight g_salted g_heat g_place_7 g_target g_feedAsked g_sealed g_bad g_sold_7) := hB.2.2
          refine W.widen (k := 1) (n := 6) (Nat.le_of_ble_eq_true rfl) (Nat.le_of_ble_eq_true rfl) ?_
          refine vx_ret ?_
          exact W.iret (v := r_7) hx hb hr (fun t ht hW => ⟨⟨r_7, (hung_7, csize, ctotal, offered, cws, cwa, g_place_7, g_sold_7), rfl, h, kB_mk hP hK hD ht hW.alike⟩, hS.F ht⟩) hS.2.2 dX7_order_114
        · have h := h.2 c_6
          refine lv_iconst (v := (-1)) hx hb dX7_order_105 (by decide) ?_
          refine lv_goto (tgt := 114) hx hb dX7_order_106 (by decide) ?_
          refine W.widen (k := 1) (n := 6) (Nat.le_of_ble_eq_true rfl) (Nat.le_of_ble_eq_true rfl) ?_
          refine vx_ret ?_
          exact W.iret (v := (-1)) hx hb hr (fun t ht hW => ⟨⟨(-1), (hung, csize, ctotal, offered, cws, cwa, g_place, g_sold), rfl, h, kB_mk hP hK hD ht hW.alike⟩, hS.F ht⟩) hS.2.2 dX7_order_114
      · have h := h.2 c_4
        refine lv_aload_n hx hb dX7_order_42 rfl (lv_at hl 2 rfl) ?_
        refine lv_iload hx hb dX7_order_43 (lv_at hl 4 rfl) ?_
        have hi_8 := h.1
        have h := h.2
        refine va_aldq hx hb hK hP 1 3 wA_g1 rfl hi_8 dX7_order_45 ?_
        cases hr_10 : legs v4.toNatClampNeg with
        | none =>
          have h := h.1 hr_10
          refine lv_astoreN (lv' := [(5, .null), (0, .ref (ad 0)), (1, .int v1), (2, .ref (ad 1)), (3, .int v3), (4, .int v4)]) hx hb dX7_order_46 hl (by decide) rfl (fun ls hl => ?_)
          refine lv_aloadN hx hb dX7_order_48 (lv_at hl 0 rfl) ?_
          refine lv_ifnullN (tgt := 86) hx hb dX7_order_50 (by decide) ?_
          exact hbk_C_X7_order_86 (lp_C_X7_order_36 LP legs g_weight g_sealed g_bad Q X n) ih hung csize ctotal offered cws cwa g_place g_sold v1 v3 v4 _ _ _ hP hD hS (lv_sub hl [1, 2, 3, 4, 5] rfl) h
        | some y_9 =>
          have hy_y_9 := (h.2 y_9 hr_10).1
          have h := (h.2 y_9 hr_10).2
          refine lv_astore (lv' := [(5, .ref y_9), (0, .ref (ad 0)), (1, .int v1), (2, .ref (ad 1)), (3, .int v3), (4, .int v4)]) hx hb dX7_order_46 hl (by decide) rfl (fun ls hl => ?_)
          refine lv_aload hx hb dX7_order_48 (lv_at hl 0 rfl) ?_
          refine lv_ifnull hx hb dX7_order_50 ?_
          refine lv_aload hx hb dX7_order_53 (lv_at hl 0 rfl) ?_
          obtain ⟨k_12, hg_k_12⟩ := wA_leg hy_y_9
          refine va_getN (D := (dC, dI)) (ci := 3) (v := .int (g_sealed y_9)) (C := RX3) (T := TX3) (N := 14) hx hb hts hk_5 hown hK hP k_12 hg_k_12 rfl 11 (by decide) hk_4 (fun _ h9 => h9) rfl dX7_order_55 ?_
          refine lv_if_eq (tgt := 86) hx hb dX7_order_58 (by decide) (fun c_13 => ?_) (fun c_13 => ?_)
          · have h := h.1 c_13
            exact hbk_C_X7_order_86 (lp_C_X7_order_36 LP legs g_weight g_sealed g_bad Q X n) ih hung csize ctotal offered cws cwa g_place g_sold v1 v3 v4 _ _ _ hP hD hS (lv_sub hl [1, 2, 3, 4, 5] rfl) h
          · have h := h.2 c_13
            refine lv_aload hx hb dX7_order_61 (lv_at hl 0 rfl) ?_
            obtain ⟨k_15, hg_k_15⟩ := wA_leg hy_y_9
            refine va_calli (va_runV (As := []) (rest := []) ⟨hx, hb, hml, hown, hts⟩ (c_C_X3_hangs l dC dI ad cB cI cZ cL A LP today legCount legs hung warmth damp wopen tsize bytes rat rtold rwrong numbers asked ftold ffarm ffrom fwhat fon csize ctotal offered cws cwa g_number g_farm g_pig g_first g_begun g_weight g_salted g_heat g_place g_target g_feedAsked g_sealed g_bad g_sold y_9 hy_y_9 _ h) (cwV 0 hts gX7_order_X3_hangs rfl rfl rfl (by decide +kernel) ⟨(Nat.le_of_ble_eq_true rfl), (Nat.le_of_ble_eq_true rfl)⟩) ⟨kC_blind, va_recv hK hP (ci := 3) (q0 := k_15) rfl hg_k_15, fun U hU hW => ⟨rfl, kC_go hA hS hP hK hD hE U hU hW⟩⟩ rfl rfl hl.1 rfl (lv_room (Nat.le_of_ble_eq_true rfl)) dX7_order_63 ⟨(Nat.le_of_ble_eq_true rfl), (Nat.le_of_ble_eq_true rfl)⟩) hS (fun q _ h => h) (fun q h => h) (fun r_14 u t H locs ht hvm hw hB hz1 hk1 hS => ?_)
            have h := hw
            try dsimp only at h
            have hP : va_P (dC, dI) vwCl (wA ad cB cI cZ cL LP today legCount legs hung warmth damp wopen tsize bytes rat rtold rwrong numbers asked ftold ffarm ffrom fwhat fon csize ctotal offered cws cwa g_number g_farm g_pig g_first g_begun g_weight g_salted g_heat g_place g_target g_feedAsked g_sealed g_bad g_sold) H := by rw [← ht]; exact hB.1
            have hD : va_D A (wA ad cB cI cZ cL LP today legCount legs hung warmth damp wopen tsize bytes rat rtold rwrong numbers asked ftold ffarm ffrom fwhat fon csize ctotal offered cws cwa g_number g_farm g_pig g_first g_begun g_weight g_salted g_heat g_place g_target g_feedAsked g_sealed g_bad g_sold) := hB.2.2
            refine lv_if_eq (tgt := 86) hx hb dX7_order_66 (by decide) (fun c_16 => ?_) (fun c_16 => ?_)
            · have h := h.1 c_16
              exact hbk_C_X7_order_86 (lp_C_X7_order_36 LP legs g_weight g_sealed g_bad Q X n) ih hung csize ctotal offered cws cwa g_place g_sold v1 v3 v4 _ _ _ hP hD hS (lv_sub hl [1, 2, 3, 4, 5] rfl) h
            · have h := h.2 c_16
              refine lv_aload hx hb dX7_order_69 (lv_at hl 0 rfl) ?_
              obtain ⟨k_17, hg_k_17⟩ := wA_leg hy_y_9
              refine va_getN (D := (dC, dI)) (ci := 3) (v := .int (g_bad y_9)) (C := RX3) (T := TX3) (N := 14) hx hb hts hk_5 hown hK hP k_17 hg_k_17 rfl 12 (by decide) hk_6 (fun _ h9 => h9) rfl dX7_order_71 ?_
              refine lv_if_ne (tgt := 86) hx hb dX7_order_74 (by decide) (fun c_18 => ?_) (fun c_18 => ?_)
              · have h := h.1 c_18
                exact hbk_C_X7_order_86 (lp_C_X7_order_36 LP legs g_weight g_sealed g_bad Q X n) ih hung csize ctotal offered cws cwa g_place g_sold v1 v3 v4 _ _ _ hP hD hS (lv_sub hl [1, 2, 3, 4, 5] rfl) h
              · have h := h.2 c_18
                refine lv_aload_n hx hb dX7_order_77 rfl (lv_at hl 1 rfl) ?_
                refine va_get (D := (dC, dI)) (ci := 7) (v := .ref (ad 18)) (C := RX7) (T := TX7) (N := 10) hx hb hts hk_2 hown hK hP 0 wA_g0 rfl 9 (by decide) hk_1 (fun _ h9 => h9) rfl dX7_order_78 ?_
                refine lv_aload hx hb dX7_order_81 (lv_at hl 0 rfl) ?_
                refine va_callv (va_runV (As := [.ref y_9]) (rest := []) ⟨hx, hb, hml, hown, hts⟩ (c_C_X0_offer l dC dI ad cB cI cZ cL A LP today legCount legs hung warmth damp wopen tsize bytes rat rtold rwrong numbers asked ftold ffarm ffrom fwhat fon csize ctotal offered cws cwa g_number g_farm g_pig g_first g_begun g_weight g_salted g_heat g_place g_target g_feedAsked g_sealed g_bad g_sold y_9 hy_y_9 _ h) (cwV 1 hts gX7_order_X0_offer rfl rfl rfl (by decide +kernel) ⟨(Nat.le_of_ble_eq_true rfl), (Nat.le_of_ble_eq_true rfl)⟩) ⟨kC_blind, va_recv hK hP (ci := 0) (q0 := 18) rfl wA_g18, fun U hU hW => ⟨rfl, kC_go hA hS hP hK hD hE U hU hW⟩⟩ rfl rfl hl.1 rfl (lv_room (Nat.le_of_ble_eq_true rfl)) dX7_order_83 ⟨(Nat.le_of_ble_eq_true rfl), (Nat.le_of_ble_eq_true rfl)⟩) hS (fun q _ h => h) (fun q h => h) (fun u t H locs ht hvm hw hB hz1 hk1 hS => ?_)
                obtain ⟨csize_19, ctotal_19, offered_19, cws_19, cwa_19⟩ := u
                have h := hw
                try dsimp only at h
                have hP : va_P (dC, dI) vwCl (wA ad cB cI cZ cL LP today legCount legs hung warmth damp wopen tsize bytes rat rtold rwrong numbers asked ftold ffarm ffrom fwhat fon csize_19 ctotal_19 offered_19 cws_19 cwa_19 g_number g_farm g_pig g_first g_begun g_weight g_salted g_heat g_place g_target g_feedAsked g_sealed g_bad g_sold) H := by rw [← ht]; exact hB.1
                have hD : va_D A (wA ad cB cI cZ cL LP today legCount legs hung warmth damp wopen tsize bytes rat rtold rwrong numbers asked ftold ffarm ffrom fwhat fon csize_19 ctotal_19 offered_19 cws_19 cwa_19 g_number g_farm g_pig g_first g_begun g_weight g_salted g_heat g_place g_target g_feedAsked g_sealed g_bad g_sold) := hB.2.2
                exact hbk_C_X7_order_86 (lp_C_X7_order_36 LP legs g_weight g_sealed g_bad Q X n) ih hung csize_19 ctotal_19 offered_19 cws_19 cwa_19 g_place g_sold v1 v3 v4 _ _ _ hP hD hS (lv_sub hl [1, 2, 3, 4, 5] rfl) h
  have hl := lv_entry ([.ref (ad 0), .int p0]) (n := 6) (Nat.le_of_ble_eq_true rfl)
  rw [lg_entry_eq]
  generalize (lg_sl ([.ref (ad 0), .int p0]) ++ List.replicate (6 - (lg_sl ([.ref (ad 0), .int p0])).length) Slot.unset).toArray = ls at hl ⊢
  have hl : lv_has ls 6 [(0, .ref (ad 0)), (1, .int p0)] := hl
  unfold wp_C_X7_order at h
  refine lv_iload_n hx hb dX7_order_0 rfl (lv_at hl 1 rfl) ?_
  refine lv_iconst (v := 1) hx hb dX7_order_1 (by decide) ?_
  refine lv_ldc hx hb hown hk_0 dX7_order_2 ?_
  refine va_calli (va_runS (As := [.int p0, .int 1, .int 200000]) (rest := []) ⟨hx, hb, hml, hown, hts⟩ (c_C_X7_isWithin l dC dI ad cB cI cZ cL A LP today legCount legs hung warmth damp wopen tsize bytes rat rtold rwrong numbers asked ftold ffarm ffrom fwhat fon csize ctotal offered cws cwa g_number g_farm g_pig g_first g_begun g_weight g_salted g_heat g_place g_target g_feedAsked g_sealed g_bad g_sold p0 1 200000 _ h) (va_cwS 3 hts gX7_order_X7_isWithin rfl rfl rfl (by decide +kernel) ⟨(Nat.le_of_ble_eq_true rfl), (Nat.le_of_ble_eq_true rfl)⟩) ⟨kC_blind, fun U hU hW => ⟨rfl, kC_go hA hS hP hK hD hE U hU hW⟩⟩ rfl rfl hl.1 rfl (lv_room (Nat.le_of_ble_eq_true rfl)) dX7_order_4 ⟨(Nat.le_of_ble_eq_true rfl), (Nat.le_of_ble_eq_true rfl)⟩) hS (fun q _ h => h) (fun q h => h) (fun r_1 u t H locs ht hvm hw hB hz1 hk1 hS => ?_)
  have h := hw
  try dsimp only at h
  have hP : va_P (dC, dI) vwCl (wA ad cB cI cZ cL LP today legCount legs hung warmth damp wopen tsize bytes rat rtold rwrong numbers asked ftold ffarm ffrom fwhat fon csize ctotal offered cws cwa g_number g_farm g_pig g_first g_begun g_weight g_salted g_heat g_place g_target g_feedAsked g_sealed g_bad g_sold) H := by rw [← ht]; exact hB.1
  have hD : va_D A (wA ad cB cI cZ cL LP today legCount legs hung warmth damp wopen tsize bytes rat rtold rwrong numbers asked ftold ffarm ffrom fwhat fon csize ctotal offered cws cwa g_number g_farm g_pig g_first g_begun g_weight g_salted g_heat g_place g_target g_feedAsked g_sealed g_bad g_sold) := hB.2.2
  refine lv_if_ne (tgt := 18) hx hb dX7_order_7 (by decide) (fun c_2 => ?_) (fun c_2 => ?_)
  · have h := h.1 c_2
    refine lv_aload_n hx hb dX7_order_18 rfl (lv_at hl 0 rfl) ?_
    refine va_get (D := (dC, dI)) (ci := 7) (v := .ref (ad 18)) (C := RX7) (T := TX7) (N := 10) hx hb hts hk_2 hown hK hP 0 wA_g0 rfl 9 (by decide) hk_1 (fun _ h9 => h9) rfl dX7_order_19 ?_
    refine va_callv (va_runV (As := []) (rest := []) ⟨hx, hb, hml, hown, hts⟩ (c_C_X0_clear l dC dI ad cB cI cZ cL A LP today legCount legs hung warmth damp wopen tsize bytes rat rtold rwrong numbers asked ftold ffarm ffrom fwhat fon csize ctotal offered cws cwa g_number g_farm g_pig g_first g_begun g_weight g_salted g_heat g_place g_target g_feedAsked g_sealed g_bad g_sold _ h) (cwV 0 hts gX7_order_X0_clear rfl rfl rfl (by decide +kernel) ⟨(Nat.le_of_ble_eq_true rfl), (Nat.le_of_ble_eq_true rfl)⟩) ⟨kC_blind, va_recv hK hP (ci := 0) (q0 := 18) rfl wA_g18, fun U hU hW => ⟨rfl, kC_go hA hS hP hK hD hE U hU hW⟩⟩ rfl rfl hl.1 rfl (lv_room (Nat.le_of_ble_eq_true rfl)) dX7_order_22 ⟨(Nat.le_of_ble_eq_true rfl), (Nat.le_of_ble_eq_true rfl)⟩) hS (fun q _ h => h) (fun q h => h) (fun u t H locs ht hvm hw hB hz1 hk1 hS => ?_)
    obtain ⟨csize_3, ctotal_3⟩ := u
    have h := hw
    try dsimp only at h
    have hP : va_P (dC, dI) vwCl (wA ad cB cI cZ cL LP today legCount legs hung warmth damp wopen tsize bytes rat rtold rwrong numbers asked ftold ffarm ffrom fwhat fon csize_3 ctotal_3 offered cws cwa g_number g_farm g_pig g_first g_begun g_weight g_salted g_heat g_place g_target g_feedAsked g_sealed g_bad g_sold) H := by rw [← ht]; exact hB.1
    have hD : va_D A (wA ad cB cI cZ cL LP today legCount legs hung warmth damp wopen tsize bytes rat rtold rwrong numbers asked ftold ffarm ffrom fwhat fon csize_3 ctotal_3 offered cws cwa g_number g_farm g_pig g_first g_begun g_weight g_salted g_heat g_place g_target g_feedAsked g_sealed g_bad g_sold) := hB.2.2
    refine lv_aload_n hx hb dX7_order_25 rfl (lv_at hl 0 rfl) ?_
    refine va_get (D := (dC, dI)) (ci := 7) (v := .ref (ad 1)) (C := RX7) (T := TX7) (N := 10) hx hb hts hk_2 hown hK hP 0 wA_g0 rfl 2 (by decide) hk_3 (fun _ h9 => h9) rfl dX7_order_26 ?_
    refine lv_astore_n (lv' := [(2, .ref (ad 1)), (0, .ref (ad 0)), (1, .int p0)]) hx hb dX7_order_29 rfl hl (by decide) rfl (fun ls hl => ?_)
    refine lv_aload_n hx hb dX7_order_30 rfl (lv_at hl 0 rfl) ?_
    refine va_alen hx hb hK hP 1 3 wA_g1 rfl (v := 60) rfl dX7_order_31 ?_
    refine lv_istore_n (lv' := [(3, .int 60), (2, .ref (ad 1)), (0, .ref (ad 0)), (1, .int p0)]) hx hb dX7_order_32 rfl hl (by decide) rfl (fun ls hl => ?_)
    refine lv_iconst (v := 0) hx hb dX7_order_33 (by decide) ?_
    refine lv_istore (lv' := [(4, .int 0), (3, .int 60), (2, .ref (ad 1)), (0, .ref (ad 0)), (1, .int p0)]) hx hb dX7_order_34 hl (by decide) rfl (fun ls hl => ?_)
    obtain ⟨n_20, h⟩ := h
    exact hlp_C_X7_order_36 n_20 hung csize_3 ctotal_3 offered cws cwa g_place g_sold p0 60 0 _ _ _ hP hD hS (lv_sub hl [3, 4, 2, 1, 0] rfl) h
  · have h := h.2 c_2
    exact vx_throw0 (own := RX7) (cls := "java/lang/IllegalArgumentException") (names := ["java/lang/RuntimeException", "java/lang/Exception"]) hx hb hl0 hown (by decide +kernel) (by decide +kernel) hk_7 hk_8 hk_9.1 hk_9.2 hE.1.1 hE.1.2 hS (hl.1.trans hml.symm) dX7_order_10 dX7_order_13 dX7_order_14 dX7_order_17 (fun x9 hx9 => (htb x9 hx9).elim) (Nat.le_of_ble_eq_true rfl) (Nat.le_of_ble_eq_true rfl) (Nat.le_of_ble_eq_true rfl) (Nat.le_of_ble_eq_true rfl) hlocks (fun t hv9 hz9 hk9 => by obtain ⟨b9, f9⟩ := kX_mk hS hP hK hD hv9 hz9 hk9; exact ⟨(2, hung, csize, ctotal, offered, cws, cwa, g_place, g_sold), h, ⟨rfl, b9⟩, f9⟩) hS.2.2 (Nat.le_of_ble_eq_true rfl) (Nat.le_of_ble_eq_true rfl)
def bk_C_X7_shareOf_125 (LP : List Nat) (g_weight : Nat → Int32) (g_place : Nat → Int32) (g_target : Nat → Int32) (g_sealed : Nat → Int32) (g_bad : Nat → Int32) (g_sold : Nat → Int32)  (Q : Int32 → Prop) (k0 : Int32) : Prop := wp_C_X7_oneIf (fun r_18 => Q r_18) k0
def wp_C_X7_shareOf (LP : List Nat) (g_weight : Nat → Int32) (g_place : Nat → Int32) (g_target : Nat → Int32) (g_sealed : Nat → Int32) (g_bad : Nat → Int32) (g_sold : Nat → Int32) (Q : Int32 → Prop) (p0 : Nat) (p1 : Int32) : Prop := ((p1 = 2 → wp_C_X3_hangs LP g_place (fun r_1 => wp_C_X7_oneIf (fun r_3 => Q r_3) r_1) p0) ∧ (¬ p1 = 2 → ((p1 = 3 → wp_C_X7_oneIf (fun r_5 => Q r_5) (g_sealed p0)) ∧ (¬ p1 = 3 → ((p1 = 4 → wp_C_X7_oneIf (fun r_7 => Q r_7) (g_bad p0)) ∧ (¬ p1 = 4 → ((p1 = 5 → wp_C_X7_oneIf (fun r_9 => Q r_9) (g_sold p0)) ∧ (¬ p1 = 5 → ((p1 = 6 → (((g_sold p0) = 0 → Q (g_weight p0)) ∧ (¬ ((g_sold p0) = 0) → Q 0))) ∧ (¬ p1 = 6 → ((p1 = 7 → (((g_sold p0) = 0 → Q 0) ∧ (¬ ((g_sold p0) = 0) → Q (g_weight p0)))) ∧ (¬ p1 = 7 → ((p1 = 8 → Q 0) ∧ (¬ p1 = 8 → ((p1 = 9 → (((g_target p0) = (-1) → bk_C_X7_shareOf_125 LP g_weight g_place g_target g_sealed g_bad g_sold Q 0) ∧ (¬ ((g_target p0) = (-1)) → bk_C_X7_shareOf_125 LP g_weight g_place g_target g_sealed g_bad g_sold Q 1))) ∧ (¬ p1 = 9 → Q 0))))))))))))))))
def rm_C_X7_shareOf : Room := { frames := 1, cells := 0, slots := 0, locals := 20 }
abbrev pq_C_X7_shareOf (dC : Nat → ClassId) (dI : Nat → Nat → Nat) (ad : Nat → Nat) (cB cI cZ cL : ClassId) (A : Nat → Prop) (LP : List Nat) (today legCount : Int32) (legs hung : Nat → Option Nat) (warmth damp wopen : Nat → Int32) (tsize : Int32) (bytes : Nat → Int32) (rat rtold rwrong : Int32) (numbers asked : Nat → Int32) (ftold : Int32) (ffarm ffrom fwhat fon : Nat → Int32) (csize ctotal : Int32) (offered : Nat → Option Nat) (cws cwa g_number g_farm g_pig g_first g_begun g_weight g_salted g_heat g_place g_target g_feedAsked g_sealed g_bad g_sold : Nat → Int32) (Q : Int32 → Prop) : Array Value → State → Outcome → State → Prop := va_Qi (fun (r : Int32) (u : Unit) => Q r ) (fun u t => kB dC dI A (wA ad cB cI cZ cL LP today legCount legs hung warmth damp wopen tsize bytes rat rtold rwrong numbers asked ftold ffarm ffrom fwhat fon csize ctotal offered cws cwa g_number g_farm g_pig g_first g_begun g_weight g_salted g_heat g_place g_target g_feedAsked g_sealed g_bad g_sold) (kTy cB cI cZ cL) t) A
set_option maxHeartbeats 4000000 in
set_option maxRecDepth 100000 in
theorem c_C_X7_shareOf (l : Launch) (dC : Nat → ClassId) (dI : Nat → Nat → Nat) (ad : Nat → Nat) (cB cI cZ cL : ClassId) (A : Nat → Prop) (LP : List Nat) (today legCount : Int32) (legs hung : Nat → Option Nat) (warmth damp wopen : Nat → Int32) (tsize : Int32) (bytes : Nat → Int32) (rat rtold rwrong : Int32) (numbers asked : Nat → Int32) (ftold : Int32) (ffarm ffrom fwhat fon : Nat → Int32) (csize ctotal : Int32) (offered : Nat → Option Nat) (cws cwa g_number g_farm g_pig g_first g_begun g_weight g_salted g_heat g_place g_target g_feedAsked g_sealed g_bad g_sold : Nat → Int32) (p0 : Nat) (p1 : Int32) (hy_p0 : p0 ∈ LP) (Q : Int32 → Prop) (h : wp_C_X7_shareOf LP g_weight g_place g_target g_sealed g_bad g_sold Q p0 p1) : Met l yX7_shareOf wsX7_shareOf rm_C_X7_shareOf (va_Pc [.ref p0, .int p1] (kC dC dI ad A (wA ad cB cI cZ cL LP today legCount legs hung warmth damp wopen tsize bytes rat rtold rwrong numbers asked ftold ffarm ffrom fwhat fon csize ctotal offered cws cwa g_number g_farm g_pig g_first g_begun g_weight g_salted g_heat g_place g_target g_feedAsked g_sealed g_bad g_sold) (kTy cB cI cZ cL))) (pq_C_X7_shareOf dC dI ad cB cI cZ cL A LP today legCount legs hung warmth damp wopen tsize bytes rat rtold rwrong numbers asked ftold ffarm ffrom fwhat fon csize ctotal offered cws cwa g_number g_farm g_pig g_first g_begun g_weight g_salted g_heat g_place g_target g_feedAsked g_sealed g_bad g_sold Q) 0 0 A := by
  refine Met.ofW (cc := cX7_shareOf) (maxL := 2) (ret := (some .int)) (by decide) rfl ?_
  intro p e s m args below meth c s₁ B hml hv
  obtain ⟨rfl, hA, hP, hK, hD, hE⟩ := hv
  have hx := B.exec
  have hb := B.bytes
  have hr := B.returns
  have hts := atoms_spec (ws := wsX7_shareOf) B.pre
  have hown : s.vm.findClass RX7 = some m.cls := findClass_of_methodNamed B.named
  have hlocks := B.notSynchronized
  have hS : va_S A s.heap s.heap [] := va_S.rf
  have hk_0n := hE.2.1.1 ("HamCellar", 175, "HamCellar$Leg", "sealed", "Z", "HamCellar") (by decide +kernel)
  have hk_0 : (Cond.fieldLinkNest "HamCellar" 175 "HamCellar$Leg" "sealed" "Z" "HamCellar").before ([.ref p0, .int p1] : List Value).toArray s = true := va_Nw.use rfl hk_0n
  have hk_1 : ∀ w ∈ wsX30, w ∈ wsX7_shareOf := by decide +kernel
  have hk_2n := hE.2.1.1 ("HamCellar", 206, "HamCellar$Leg", "bad", "Z", "HamCellar") (by decide +kernel)
  have hk_2 : (Cond.fieldLinkNest "HamCellar" 206 "HamCellar$Leg" "bad" "Z" "HamCellar").before ([.ref p0, .int p1] : List Value).toArray s = true := va_Nw.use rfl hk_2n
  have hk_3n := hE.2.1.1 ("HamCellar", 113, "HamCellar$Leg", "sold", "Z", "HamCellar") (by decide +kernel)
  have hk_3 : (Cond.fieldLinkNest "HamCellar" 113 "HamCellar$Leg" "sold" "Z" "HamCellar").before ([.ref p0, .int p1] : List Value).toArray s = true := va_Nw.use rfl hk_3n
  have hk_4n := hE.2.1.1 ("HamCellar", 184, "HamCellar$Leg", "weight", "I", "HamCellar") (by decide +kernel)
  have hk_4 : (Cond.fieldLinkNest "HamCellar" 184 "HamCellar$Leg" "weight" "I" "HamCellar").before ([.ref p0, .int p1] : List Value).toArray s = true := va_Nw.use rfl hk_4n
  have hk_5n := hE.2.1.1 ("HamCellar", 231, "HamCellar$Leg", "target", "I", "HamCellar") (by decide +kernel)
  have hk_5 : (Cond.fieldLinkNest "HamCellar" 231 "HamCellar$Leg" "target" "I" "HamCellar").before ([.ref p0, .int p1] : List Value).toArray s = true := va_Nw.use rfl hk_5n
  have hbk_C_X7_shareOf_125 : ∀ (k0 : Int32) (H : Heap) (locs : List Loc) (ls : Array Slot), va_P (dC, dI) vwCl (wA ad cB cI cZ cL LP today legCount legs hung warmth damp wopen tsize bytes rat rtold rwrong numbers asked ftold ffarm ffrom fwhat fon csize ctotal offered cws cwa g_number g_farm g_pig g_first g_begun g_weight g_salted g_heat g_place g_target g_feedAsked g_sealed g_bad g_sold) H → va_D A (wA ad cB cI cZ cL LP today legCount legs hung warmth damp wopen tsize bytes rat rtold rwrong numbers asked ftold ffarm ffrom fwhat fon csize ctotal offered cws cwa g_number g_farm g_pig g_first g_begun g_weight g_salted g_heat g_place g_target g_feedAsked g_sealed g_bad g_sold) → va_S A s.heap H locs → lv_has ls 2 [] → bk_C_X7_shareOf_125 LP g_weight g_place g_target g_sealed g_bad g_sold Q k0 → W p l e (headSpec wsX7_shareOf rm_C_X7_shareOf).room s m ([.ref p0, .int p1] : List Value).toArray below meth c H locs 0 0 (MQ below (pq_C_X7_shareOf dC dI ad cB cI cZ cL A LP today legCount legs hung warmth damp wopen tsize bytes rat rtold rwrong numbers asked ftold ffarm ffrom fwhat fon csize ctotal offered cws cwa g_number g_farm g_pig g_first g_begun g_weight g_salted g_heat g_place g_target g_feedAsked g_sealed g_bad g_sold Q) ([.ref p0, .int p1] : List Value).toArray s 0 0 A) (F0 m 125 ls [.int k0]) := by
    intro k0 H locs ls hP hD hS hl h
    have h : wp_C_X7_oneIf (fun r_18 => Q r_18) k0 := h
    refine va_calli (va_runS (As := [.int k0]) (rest := []) ⟨hx, hb, hml, hown, hts⟩ (c_C_X7_oneIf l dC dI ad cB cI cZ cL A LP today legCount legs hung warmth damp wopen tsize bytes rat rtold rwrong numbers asked ftold ffarm ffrom fwhat fon csize ctotal offered cws cwa g_number g_farm g_pig g_first g_begun g_weight g_salted g_heat g_place g_target g_feedAsked g_sealed g_bad g_sold k0 _ h) (va_cwS 1 hts gX7_shareOf_X7_oneIf rfl rfl rfl (by decide +kernel) ⟨(Nat.le_of_ble_eq_true rfl), (Nat.le_of_ble_eq_true rfl)⟩) ⟨kC_blind, fun U hU hW => ⟨rfl, kC_go hA hS hP hK hD hE U hU hW⟩⟩ rfl rfl hl.1 rfl (lv_room (Nat.le_of_ble_eq_true rfl)) dX7_shareOf_125 ⟨(Nat.le_of_ble_eq_true rfl), (Nat.le_of_ble_eq_true rfl)⟩) hS (fun q _ h => h) (fun q h => h) (fun r_18 u t H locs ht hvm hw hB hz1 hk1 hS => ?_)
    have h := hw
    try dsimp only at h
    have hP : va_P (dC, dI) vwCl (wA ad cB cI cZ cL LP today legCount legs hung warmth damp wopen tsize bytes rat rtold rwrong numbers asked ftold ffarm ffrom fwhat fon csize ctotal offered cws cwa g_number g_farm g_pig g_first g_begun g_weight g_salted g_heat g_place g_target g_feedAsked g_sealed g_bad g_sold) H := by rw [← ht]; exact hB.1
    have hD : va_D A (wA ad cB cI cZ cL LP today legCount legs hung warmth damp wopen tsize bytes rat rtold rwrong numbers asked ftold ffarm ffrom fwhat fon csize ctotal offered cws cwa g_number g_farm g_pig g_first g_begun g_weight g_salted g_heat g_place g_target g_feedAsked g_sealed g_bad g_sold) := hB.2.2
    exact W.iret (v := r_18) hx hb hr (fun t ht hW => ⟨⟨r_18, (), rfl, h, kB_mk hP hK hD ht hW.alike⟩, hS.F ht⟩) hS.2.2 dX7_shareOf_128
  have hl := lv_entry ([.ref p0, .int p1]) (n := 2) (Nat.le_of_ble_eq_true rfl)
  rw [lg_entry_eq]
  generalize (lg_sl ([.ref p0, .int p1]) ++ List.replicate (2 - (lg_sl ([.ref p0, .int p1])).length) Slot.unset).toArray = ls at hl ⊢
  have hl : lv_has ls 2 [(0, .ref p0), (1, .int p1)] := hl
  unfold wp_C_X7_shareOf at h
  refine lv_iload_n hx hb dX7_shareOf_0 rfl (lv_at hl 1 rfl) ?_
  by_cases hc_1_2 : p1 = 2
  · have h := h.1 hc_1_2
    refine lv_tableIn (off := 47) (tgt := 48) hx hb dX7_shareOf_1 (by rw [hc_1_2]; decide) (by rw [hc_1_2]; decide) (by rw [hc_1_2]; rfl) (by decide) ?_
    refine lv_aload_n hx hb dX7_shareOf_48 rfl (lv_at hl 0 rfl) ?_
    obtain ⟨k_2, hg_k_2⟩ := wA_leg hy_p0
    refine va_calli (va_runV (As := []) (rest := []) ⟨hx, hb, hml, hown, hts⟩ (c_C_X3_hangs l dC dI ad cB cI cZ cL A LP today legCount legs hung warmth damp wopen tsize bytes rat rtold rwrong numbers asked ftold ffarm ffrom fwhat fon csize ctotal offered cws cwa g_number g_farm g_pig g_first g_begun g_weight g_salted g_heat g_place g_target g_feedAsked g_sealed g_bad g_sold p0 hy_p0 _ h) (cwV 0 hts gX7_shareOf_X3_hangs rfl rfl rfl (by decide +kernel) ⟨(Nat.le_of_ble_eq_true rfl), (Nat.le_of_ble_eq_true rfl)⟩) ⟨kC_blind, va_recv hK hP (ci := 3) (q0 := k_2) rfl hg_k_2, fun U hU hW => ⟨rfl, kC_go hA hS hP hK hD hE U hU hW⟩⟩ rfl rfl hl.1 rfl (lv_room (Nat.le_of_ble_eq_true rfl)) dX7_shareOf_49 ⟨(Nat.le_of_ble_eq_true rfl), (Nat.le_of_ble_eq_true rfl)⟩) hS (fun q _ h => h) (fun q h => h) (fun r_1 u t H locs ht hvm hw hB hz1 hk1 hS => ?_)
    have h := hw
    try dsimp only at h
    have hP : va_P (dC, dI) vwCl (wA ad cB cI cZ cL LP today legCount legs hung warmth damp wopen tsize bytes rat rtold rwrong numbers asked ftold ffarm ffrom fwhat fon csize ctotal offered cws cwa g_number g_farm g_pig g_first g_begun g_weight g_salted g_heat g_place g_target g_feedAsked g_sealed g_bad g_sold) H := by rw [← ht]; exact hB.1
    have hD : va_D A (wA ad cB cI cZ cL LP today legCount legs hung warmth damp wopen tsize bytes rat rtold rwrong numbers asked ftold ffarm ffrom fwhat fon csize ctotal offered cws cwa g_number g_farm g_pig g_first g_begun g_weight g_salted g_heat g_place g_target g_feedAsked g_sealed g_bad g_sold) := hB.2.2
    refine va_calli (va_runS (As := [.int r_1]) (rest := []) ⟨hx, hb, hml, hown, hts⟩ (c_C_X7_oneIf l dC dI ad cB cI cZ cL A LP today legCount legs hung warmth damp wopen tsize bytes rat rtold rwrong numbers asked ftold ffarm ffrom fwhat fon csize ctotal offered cws cwa g_number g_farm g_pig g_first g_begun g_weight g_salted g_heat g_place g_target g_feedAsked g_sealed g_bad g_sold r_1 _ h) (va_cwS 1 hts gX7_shareOf_X7_oneIf rfl rfl rfl (by decide +kernel) ⟨(Nat.le_of_ble_eq_true rfl), (Nat.le_of_ble_eq_true rfl)⟩) ⟨kC_blind, fun U hU hW => ⟨rfl, kC_go hA hS hP hK hD hE U hU hW⟩⟩ rfl rfl hl.1 rfl (lv_room (Nat.le_of_ble_eq_true rfl)) dX7_shareOf_52 ⟨(Nat.le_of_ble_eq_true rfl), (Nat.le_of_ble_eq_true rfl)⟩) hS (fun q _ h => h) (fun q h => h) (fun r_3 u t H locs ht hvm hw hB hz1 hk1 hS => ?_)
    have h := hw
    try dsimp only at h
    have hP : va_P (dC, dI) vwCl (wA ad cB cI cZ cL LP today legCount legs hung warmth damp wopen tsize bytes rat rtold rwrong numbers asked ftold ffarm ffrom fwhat fon csize ctotal offered cws cwa g_number g_farm g_pig g_first g_begun g_weight g_salted g_heat g_place g_target g_feedAsked g_sealed g_bad g_sold) H := by rw [← ht]; exact hB.1
    have hD : va_D A (wA ad cB cI cZ cL LP today legCount legs hung warmth damp wopen tsize bytes rat rtold rwrong numbers asked ftold ffarm ffrom fwhat fon csize ctotal offered cws cwa g_number g_farm g_pig g_first g_begun g_weight g_salted g_heat g_place g_target g_feedAsked g_sealed g_bad g_sold) := hB.2.2
    exact W.iret (v := r_3) hx hb hr (fun t ht hW => ⟨⟨r_3, (), rfl, h, kB_mk hP hK hD ht hW.alike⟩, hS.F ht⟩) hS.2.2 dX7_shareOf_55
  · have h := h.2 hc_1_2
    by_cases hc_1_3 : p1 = 3
    · have h := h.1 hc_1_3
      refine lv_tableIn (off := 55) (tgt := 56) hx hb dX7_shareOf_1 (by rw [hc_1_3]; decide) (by rw [hc_1_3]; decide) (by rw [hc_1_3]; rfl) (by decide) ?_
      refine lv_aload_n hx hb dX7_shareOf_56 rfl (lv_at hl 0 rfl) ?_
      obtain ⟨k_4, hg_k_4⟩ := wA_leg hy_p0
      refine va_getN (D := (dC, dI)) (ci := 3) (v := .int (g_sealed p0)) (C := RX3) (T := TX3) (N := 14) hx hb hts hk_1 hown hK hP k_4 hg_k_4 rfl 11 (by decide) hk_0 (fun _ h9 => h9) rfl dX7_shareOf_57 ?_
      refine va_calli (va_runS (As := [.int (g_sealed p0)]) (rest := []) ⟨hx, hb, hml, hown, hts⟩ (c_C_X7_oneIf l dC dI ad cB cI cZ cL A LP today legCount legs hung warmth damp wopen tsize bytes rat rtold rwrong numbers asked ftold ffarm ffrom fwhat fon csize ctotal offered cws cwa g_number g_farm g_pig g_first g_begun g_weight g_salted g_heat g_place g_target g_feedAsked g_sealed g_bad g_sold (g_sealed p0) _ h) (va_cwS 1 hts gX7_shareOf_X7_oneIf rfl rfl rfl (by decide +kernel) ⟨(Nat.le_of_ble_eq_true rfl), (Nat.le_of_ble_eq_true rfl)⟩) ⟨kC_blind, fun U hU hW => ⟨rfl, kC_go hA hS hP hK hD hE U hU hW⟩⟩ rfl rfl hl.1 rfl (lv_room (Nat.le_of_ble_eq_true rfl)) dX7_shareOf_60 ⟨(Nat.le_of_ble_eq_true rfl), (Nat.le_of_ble_eq_true rfl)⟩) hS (fun q _ h => h) (fun q h => h) (fun r_5 u t H locs ht hvm hw hB hz1 hk1 hS => ?_)
      have h := hw
      try dsimp only at h
      have hP : va_P (dC, dI) vwCl (wA ad cB cI cZ cL LP today legCount legs hung warmth damp wopen tsize bytes rat rtold rwrong numbers asked ftold ffarm ffrom fwhat fon csize ctotal offered cws cwa g_number g_farm g_pig g_first g_begun g_weight g_salted g_heat g_place g_target g_feedAsked g_sealed g_bad g_sold) H := by rw [← ht]; exact hB.1
      have hD : va_D A (wA ad cB cI cZ cL LP today legCount legs hung warmth damp wopen tsize bytes rat rtold rwrong numbers asked ftold ffarm ffrom fwhat fon csize ctotal offered cws cwa g_number g_farm g_pig g_first g_begun g_weight g_salted g_heat g_place g_target g_feedAsked g_sealed g_bad g_sold) := hB.2.2
      exact W.iret (v := r_5) hx hb hr (fun t ht hW => ⟨⟨r_5, (), rfl, h, kB_mk hP hK hD ht hW.alike⟩, hS.F ht⟩) hS.2.2 dX7_shareOf_63
    · have h := h.2 hc_1_3
      by_cases hc_1_4 : p1 = 4
      · have h := h.1 hc_1_4
        refine lv_tableIn (off := 63) (tgt := 64) hx hb dX7_shareOf_1 (by rw [hc_1_4]; decide) (by rw [hc_1_4]; decide) (by rw [hc_1_4]; rfl) (by decide) ?_
        refine lv_aload_n hx hb dX7_shareOf_64 rfl (lv_at hl 0 rfl) ?_
        obtain ⟨k_6, hg_k_6⟩ := wA_leg hy_p0
        refine va_getN (D := (dC, dI)) (ci := 3) (v := .int (g_bad p0)) (C := RX3) (T := TX3) (N := 14) hx hb hts hk_1 hown hK hP k_6 hg_k_6 rfl 12 (by decide) hk_2 (fun _ h9 => h9) rfl dX7_shareOf_65 ?_
        refine va_calli (va_runS (As := [.int (g_bad p0)]) (rest := []) ⟨hx, hb, hml, hown, hts⟩ (c_C_X7_oneIf l dC dI ad cB cI cZ cL A LP today legCount legs hung warmth damp wopen tsize bytes rat rtold rwrong numbers asked ftold ffarm ffrom fwhat fon csize ctotal offered cws cwa g_number g_farm g_pig g_first g_begun g_weight g_salted g_heat g_place g_target g_feedAsked g_sealed g_bad g_sold (g_bad p0) _ h) (va_cwS 1 hts gX7_shareOf_X7_oneIf rfl rfl rfl (by decide +kernel) ⟨(Nat.le_of_ble_eq_true rfl), (Nat.le_of_ble_eq_true rfl)⟩) ⟨kC_blind, fun U hU hW => ⟨rfl, kC_go hA hS hP hK hD hE U hU hW⟩⟩ rfl rfl hl.1 rfl (lv_room (Nat.le_of_ble_eq_true rfl)) dX7_shareOf_68 ⟨(Nat.le_of_ble_eq_true rfl), (Nat.le_of_ble_eq_true rfl)⟩) hS (fun q _ h => h) (fun q h => h) (fun r_7 u t H locs ht hvm hw hB hz1 hk1 hS => ?_)
        have h := hw
        try dsimp only at h
        have hP : va_P (dC, dI) vwCl (wA ad cB cI cZ cL LP today legCount legs hung warmth damp wopen tsize bytes rat rtold rwrong numbers asked ftold ffarm ffrom fwhat fon csize ctotal offered cws cwa g_number g_farm g_pig g_first g_begun g_weight g_salted g_heat g_place g_target g_feedAsked g_sealed g_bad g_sold) H := by rw [← ht]; exact hB.1
        have hD : va_D A (wA ad cB cI cZ cL LP today legCount legs hung warmth damp wopen tsize bytes rat rtold rwrong numbers asked ftold ffarm ffrom fwhat fon csize ctotal offered cws cwa g_number g_farm g_pig g_first g_begun g_weight g_salted g_heat g_place g_target g_feedAsked g_sealed g_bad g_sold) := hB.2.2
        exact W.iret (v := r_7) hx hb hr (fun t ht hW => ⟨⟨r_7, (), rfl, h, kB_mk hP hK hD ht hW.alike⟩, hS.F ht⟩) hS.2.2 dX7_shareOf_71
      · have h := h.2 hc_1_4
        by_cases hc_1_5 : p1 = 5
        · have h := h.1 hc_1_5
          refine lv_tableIn (off := 71) (tgt := 72) hx hb dX7_shareOf_1 (by rw [hc_1_5]; decide) (by rw [hc_1_5]; decide) (by rw [hc_1_5]; rfl) (by decide) ?_
          refine lv_aload_n hx hb dX7_shareOf_72 rfl (lv_at hl 0 rfl) ?_
          obtain ⟨k_8, hg_k_8⟩ := wA_leg hy_p0
          refine va_getN (D := (dC, dI)) (ci := 3) (v := .int (g_sold p0)) (C := RX3) (T := TX3) (N := 14) hx hb hts hk_1 hown hK hP k_8 hg_k_8 rfl 13 (by decide) hk_3 (fun _ h9 => h9) rfl dX7_shareOf_73 ?_
          refine va_calli (va_runS (As := [.int (g_sold p0)]) (rest := []) ⟨hx, hb, hml, hown, hts⟩ (c_C_X7_oneIf l dC dI ad cB cI cZ cL A LP today legCount legs hung warmth damp wopen tsize bytes rat rtold rwrong numbers asked ftold ffarm ffrom fwhat fon csize ctotal offered cws cwa g_number g_farm g_pig g_first g_begun g_weight g_salted g_heat g_place g_target g_feedAsked g_sealed g_bad g_sold (g_sold p0) _ h) (va_cwS 1 hts gX7_shareOf_X7_oneIf rfl rfl rfl (by decide +kernel) ⟨(Nat.le_of_ble_eq_true rfl), (Nat.le_of_ble_eq_true rfl)⟩) ⟨kC_blind, fun U hU hW => ⟨rfl, kC_go hA hS hP hK hD hE U hU hW⟩⟩ rfl rfl hl.1 rfl (lv_room (Nat.le_of_ble_eq_true rfl)) dX7_shareOf_76 ⟨(Nat.le_of_ble_eq_true rfl), (Nat.le_of_ble_eq_true rfl)⟩) hS (fun q _ h => h) (fun q h => h) (fun r_9 u t H locs ht hvm hw hB hz1 hk1 hS => ?_)
          have h := hw
          try dsimp only at h
          have hP : va_P (dC, dI) vwCl (wA ad cB cI cZ cL LP today legCount legs hung warmth damp wopen tsize bytes rat rtold rwrong numbers asked ftold ffarm ffrom fwhat fon csize ctotal offered cws cwa g_number g_farm g_pig g_first g_begun g_weight g_salted g_heat g_place g_target g_feedAsked g_sealed g_bad g_sold) H := by rw [← ht]; exact hB.1
          have hD : va_D A (wA ad cB cI cZ cL LP today legCount legs hung warmth damp wopen tsize bytes rat rtold rwrong numbers asked ftold ffarm ffrom fwhat fon csize ctotal offered cws cwa g_number g_farm g_pig g_first g_begun g_weight g_salted g_heat g_place g_target g_feedAsked g_sealed g_bad g_sold) := hB.2.2
          exact W.iret (v := r_9) hx hb hr (fun t ht hW => ⟨⟨r_9, (), rfl, h, kB_mk hP hK hD ht hW.alike⟩, hS.F ht⟩) hS.2.2 dX7_shareOf_79
        · have h := h.2 hc_1_5
          by_cases hc_1_6 : p1 = 6
          · have h := h.1 hc_1_6
            refine lv_tableIn (off := 79) (tgt := 80) hx hb dX7_shareOf_1 (by rw [hc_1_6]; decide) (by rw [hc_1_6]; decide) (by rw [hc_1_6]; rfl) (by decide) ?_
            refine lv_aload_n hx hb dX7_shareOf_80 rfl (lv_at hl 0 rfl) ?_
            obtain ⟨k_10, hg_k_10⟩ := wA_leg hy_p0
            refine va_getN (D := (dC, dI)) (ci := 3) (v := .int (g_sold p0)) (C := RX3) (T := TX3) (N := 14) hx hb hts hk_1 hown hK hP k_10 hg_k_10 rfl 13 (by decide) hk_3 (fun _ h9 => h9) rfl dX7_shareOf_81 ?_
            refine lv_if_eq (tgt := 91) hx hb dX7_shareOf_84 (by decide) (fun c_11 => ?_) (fun c_11 => ?_)
            · have h := h.1 c_11
              refine lv_aload_n hx hb dX7_shareOf_91 rfl (lv_at hl 0 rfl) ?_
              obtain ⟨k_12, hg_k_12⟩ := wA_leg hy_p0
              refine va_getN (D := (dC, dI)) (ci := 3) (v := .int (g_weight p0)) (C := RX3) (T := TX3) (N := 14) hx hb hts hk_1 hown hK hP k_12 hg_k_12 rfl 5 (by decide) hk_4 (fun _ h9 => h9) rfl dX7_shareOf_92 ?_
              exact W.iret (v := g_weight p0) hx hb hr (fun t ht hW => ⟨⟨g_weight p0, (), rfl, h, kB_mk hP hK hD ht hW.alike⟩, hS.F ht⟩) hS.2.2 dX7_shareOf_95
            · have h := h.2 c_11
              refine lv_iconst (v := 0) hx hb dX7_shareOf_87 (by decide) ?_
              refine lv_goto (tgt := 95) hx hb dX7_shareOf_88 (by decide) ?_
              exact W.iret (v := 0) hx hb hr (fun t ht hW => ⟨⟨0, (), rfl, h, kB_mk hP hK hD ht hW.alike⟩, hS.F ht⟩) hS.2.2 dX7_shareOf_95
          · have h := h.2 hc_1_6
            by_cases hc_1_7 : p1 = 7
            · have h := h.1 hc_1_7
              refine lv_tableIn (off := 95) (tgt := 96) hx hb dX7_shareOf_1 (by rw [hc_1_7]; decide) (by rw [hc_1_7]; decide) (by rw [hc_1_7]; rfl) (by decide) ?_
              refine lv_aload_n hx hb dX7_shareOf_96 rfl (lv_at hl 0 rfl) ?_
              obtain ⟨k_13, hg_k_13⟩ := wA_leg hy_p0
              refine va_getN (D := (dC, dI)) (ci := 3) (v := .int (g_sold p0)) (C := RX3) (T := TX3) (N := 14) hx hb hts hk_1 hown hK hP k_13 hg_k_13 rfl 13 (by decide) hk_3 (fun _ h9 => h9) rfl dX7_shareOf_97 ?_
              refine lv_if_eq (tgt := 110) hx hb dX7_shareOf_100 (by decide) (fun c_14 => ?_) (fun c_14 => ?_)
              · have h := h.1 c_14
                refine lv_iconst (v := 0) hx hb dX7_shareOf_110 (by decide) ?_
                exact W.iret (v := 0) hx hb hr (fun t ht hW => ⟨⟨0, (), rfl, h, kB_mk hP hK hD ht hW.alike⟩, hS.F ht⟩) hS.2.2 dX7_shareOf_111
              · have h := h.2 c_14
                refine lv_aload_n hx hb dX7_shareOf_103 rfl (lv_at hl 0 rfl) ?_
                obtain ⟨k_15, hg_k_15⟩ := wA_leg hy_p0
                refine va_getN (D := (dC, dI)) (ci := 3) (v := .int (g_weight p0)) (C := RX3) (T := TX3) (N := 14) hx hb hts hk_1 hown hK hP k_15 hg_k_15 rfl 5 (by decide) hk_4 (fun _ h9 => h9) rfl dX7_shareOf_104 ?_
                refine lv_goto (tgt := 111) hx hb dX7_shareOf_107 (by decide) ?_
                exact W.iret (v := g_weight p0) hx hb hr (fun t ht hW => ⟨⟨g_weight p0, (), rfl, h, kB_mk hP hK hD ht hW.alike⟩, hS.F ht⟩) hS.2.2 dX7_shareOf_111
            · have h := h.2 hc_1_7
              by_cases hc_1_8 : p1 = 8
              · have h := h.1 hc_1_8
                refine lv_tableIn (off := 128) (tgt := 129) hx hb dX7_shareOf_1 (by rw [hc_1_8]; decide) (by rw [hc_1_8]; decide) (by rw [hc_1_8]; rfl) (by decide) ?_
                refine lv_iconst (v := 0) hx hb dX7_shareOf_129 (by decide) ?_
                exact W.iret (v := 0) hx hb hr (fun t ht hW => ⟨⟨0, (), rfl, h, kB_mk hP hK hD ht hW.alike⟩, hS.F ht⟩) hS.2.2 dX7_shareOf_130
              · have h := h.2 hc_1_8
                by_cases hc_1_9 : p1 = 9
                · have h := h.1 hc_1_9
                  refine lv_tableIn (off := 111) (tgt := 112) hx hb dX7_shareOf_1 (by rw [hc_1_9]; decide) (by rw [hc_1_9]; decide) (by rw [hc_1_9]; rfl) (by decide) ?_
                  refine lv_aload_n hx hb dX7_shareOf_112 rfl (lv_at hl 0 rfl) ?_
                  obtain ⟨k_16, hg_k_16⟩ := wA_leg hy_p0
                  refine va_getN (D := (dC, dI)) (ci := 3) (v := .int (g_target p0)) (C := RX3) (T := TX3) (N := 14) hx hb hts hk_1 hown hK hP k_16 hg_k_16 rfl 9 (by decide) hk_5 (fun _ h9 => h9) rfl dX7_shareOf_113 ?_
                  refine lv_iconst (v := (-1)) hx hb dX7_shareOf_116 (by decide) ?_
                  refine lv_icmp_eq (tgt := 124) hx hb dX7_shareOf_117 (by decide) (fun c_17 => ?_) (fun c_17 => ?_)
                  · have h := h.1 c_17
                    refine lv_iconst (v := 0) hx hb dX7_shareOf_124 (by decide) ?_
                    exact hbk_C_X7_shareOf_125 0 _ _ _ hP hD hS (lv_sub hl [] rfl) h
                  · have h := h.2 c_17
                    refine lv_iconst (v := 1) hx hb dX7_shareOf_120 (by decide) ?_
                    refine lv_goto (tgt := 125) hx hb dX7_shareOf_121 (by decide) ?_
                    exact hbk_C_X7_shareOf_125 1 _ _ _ hP hD hS (lv_sub hl [] rfl) h
                · have h := h.2 hc_1_9
                  have t_2 : ¬ p1.toInt = 2 := lv_neT hc_1_2 (by decide)
                  have t_3 : ¬ p1.toInt = 3 := lv_neT hc_1_3 (by decide)
                  have t_4 : ¬ p1.toInt = 4 := lv_neT hc_1_4 (by decide)
                  have t_5 : ¬ p1.toInt = 5 := lv_neT hc_1_5 (by decide)
                  have t_6 : ¬ p1.toInt = 6 := lv_neT hc_1_6 (by decide)
                  have t_7 : ¬ p1.toInt = 7 := lv_neT hc_1_7 (by decide)
                  have t_8 : ¬ p1.toInt = 8 := lv_neT hc_1_8 (by decide)
                  have t_9 : ¬ p1.toInt = 9 := lv_neT hc_1_9 (by decide)
                  refine lv_tableOut (tgt := 129) hx hb dX7_shareOf_1 (by omega) (by decide) ?_
                  refine lv_iconst (v := 0) hx hb dX7_shareOf_129 (by decide) ?_
                  exact W.iret (v := 0) hx hb hr (fun t ht hW => ⟨⟨0, (), rfl, h, kB_mk hP hK hD ht hW.alike⟩, hS.F ht⟩) hS.2.2 dX7_shareOf_130
def bk_C_X7_sumOfLegs_41 (LP : List Nat) (legs : Nat → Option Nat) (g_weight : Nat → Int32) (g_place : Nat → Int32) (g_target : Nat → Int32) (g_sealed : Nat → Int32) (g_bad : Nat → Int32) (g_sold : Nat → Int32)  (Q : Int32 → Prop) (K14 : Int32 → Int32 → Int32 → Int32 → Prop) (v1 : Int32) (v2 : Int32) (v4 : Int32) (v5 : Int32) : Prop := K14 v1 v2 v4 (v5 + 1)
def lp_C_X7_sumOfLegs_14 (LP : List Nat) (legs : Nat → Option Nat) (g_weight : Nat → Int32) (g_place : Nat → Int32) (g_target : Nat → Int32) (g_sealed : Nat → Int32) (g_bad : Nat → Int32) (g_sold : Nat → Int32)  (Q : Int32 → Prop) : Nat → Int32 → Int32 → Int32 → Int32 → Prop
  | 0 => fun _ _ _ _ => False
  | n + 1 => fun v1 v2 v4 v5 => ((v4 ≤ v5 → Q v2) ∧ (¬ (v4 ≤ v5) → (vp_in v5 60 ∧ ((legs v5.toNatClampNeg = none → bk_C_X7_sumOfLegs_41 LP legs g_weight g_place g_target g_sealed g_bad g_sold Q (lp_C_X7_sumOfLegs_14 LP legs g_weight g_place g_target g_sealed g_bad g_sold Q n) v1 v2 v4 v5) ∧ (∀ y_3 : Nat, legs v5.toNatClampNeg = some y_3 → y_3 ∈ LP ∧ wp_C_X7_shareOf LP g_weight g_place g_target g_sealed g_bad g_sold (fun r_6 => bk_C_X7_sumOfLegs_41 LP legs g_weight g_place g_target g_sealed g_bad g_sold Q (lp_C_X7_sumOfLegs_14 LP legs g_weight g_place g_target g_sealed g_bad g_sold Q n) v1 (v2 + r_6) v4 v5) y_3 v1)))))
def wp_C_X7_sumOfLegs (LP : List Nat) (legs : Nat → Option Nat) (g_weight : Nat → Int32) (g_place : Nat → Int32) (g_target : Nat → Int32) (g_sealed : Nat → Int32) (g_bad : Nat → Int32) (g_sold : Nat → Int32) (Q : Int32 → Prop) (p0 : Int32) : Prop := (∃ n_7, lp_C_X7_sumOfLegs_14 LP legs g_weight g_place g_target g_sealed g_bad g_sold Q n_7 p0 0 60 0)
def rm_C_X7_sumOfLegs : Room := { frames := 2, cells := 0, slots := 0, locals := 41 }
abbrev pq_C_X7_sumOfLegs (dC : Nat → ClassId) (dI : Nat → Nat → Nat) (ad : Nat → Nat) (cB cI cZ cL : ClassId) (A : Nat → Prop) (LP : List Nat) (today legCount : Int32) (legs hung : Nat → Option Nat) (warmth damp wopen : Nat → Int32) (tsize : Int32) (bytes : Nat → Int32) (rat rtold rwrong : Int32) (numbers asked : Nat → Int32) (ftold : Int32) (ffarm ffrom fwhat fon : Nat → Int32) (csize ctotal : Int32) (offered : Nat → Option Nat) (cws cwa g_number g_farm g_pig g_first g_begun g_weight g_salted g_heat g_place g_target g_feedAsked g_sealed g_bad g_sold : Nat → Int32) (Q : Int32 → Prop) : Array Value → State → Outcome → State → Prop := va_Qi (fun (r : Int32) (u : Unit) => Q r ) (fun u t => kB dC dI A (wA ad cB cI cZ cL LP today legCount legs hung warmth damp wopen tsize bytes rat rtold rwrong numbers asked ftold ffarm ffrom fwhat fon csize ctotal offered cws cwa g_number g_farm g_pig g_first g_begun g_weight g_salted g_heat g_place g_target g_feedAsked g_sealed g_bad g_sold) (kTy cB cI cZ cL) t) A
set_option maxHeartbeats 4000000 in
set_option maxRecDepth 100000 in
theorem c_C_X7_sumOfLegs (l : Launch) (dC : Nat → ClassId) (dI : Nat → Nat → Nat) (ad : Nat → Nat) (cB cI cZ cL : ClassId) (A : Nat → Prop) (LP : List Nat) (today legCount : Int32) (legs hung : Nat → Option Nat) (warmth damp wopen : Nat → Int32) (tsize : Int32) (bytes : Nat → Int32) (rat rtold rwrong : Int32) (numbers asked : Nat → Int32) (ftold : Int32) (ffarm ffrom fwhat fon : Nat → Int32) (csize ctotal : Int32) (offered : Nat → Option Nat) (cws cwa g_number g_farm g_pig g_first g_begun g_weight g_salted g_heat g_place g_target g_feedAsked g_sealed g_bad g_sold : Nat → Int32) (p0 : Int32)  (Q : Int32 → Prop) (h : wp_C_X7_sumOfLegs LP legs g_weight g_place g_target g_sealed g_bad g_sold Q p0) : Met l yX7_sumOfLegs wsX7_sumOfLegs rm_C_X7_sumOfLegs (va_Pc [.ref (ad 0), .int p0] (kC dC dI ad A (wA ad cB cI cZ cL LP today legCount legs hung warmth damp wopen tsize bytes rat rtold rwrong numbers asked ftold ffarm ffrom fwhat fon csize ctotal offered cws cwa g_number g_farm g_pig g_first g_begun g_weight g_salted g_heat g_place g_target g_feedAsked g_sealed g_bad g_sold) (kTy cB cI cZ cL))) (pq_C_X7_sumOfLegs dC dI ad cB cI cZ cL A LP today legCount legs hung warmth damp wopen tsize bytes rat rtold rwrong numbers asked ftold ffarm ffrom fwhat fon csize ctotal offered cws cwa g_number g_farm g_pig g_first g_begun g_weight g_salted g_heat g_place g_target g_feedAsked g_sealed g_bad g_sold Q) 0 0 A := by
  refine Met.ofW (cc := cX7_sumOfLegs) (maxL := 7) (ret := (some .int)) (by decide) rfl ?_
  intro p e s m args below meth c s₁ B hml hv
  obtain ⟨rfl, hA, hP, hK, hD, hE⟩ := hv
  have hx := B.exec
  have hb := B.bytes
  have hr := B.returns
  have hts := atoms_spec (ws := wsX7_sumOfLegs) B.pre
  have hown : s.vm.findClass RX7 = some m.cls := findClass_of_methodNamed B.named
  have hlocks := B.notSynchronized
  have hS : va_S A s.heap s.heap [] := va_S.rf
  have hk_0 := hts (.fieldLink RX7 11 "HamCellar" "legs" "[LHamCellar$Leg;") (by decide +kernel)
  have hk_1 : ∀ w ∈ wsX70, w ∈ wsX7_sumOfLegs := by decide +kernel
  have hbk_C_X7_sumOfLegs_41 : ∀ (K14 : Int32 → Int32 → Int32 → Int32 → Prop) (hK14 : ∀ (v1 : Int32) (v2 : Int32) (v4 : Int32) (v5 : Int32) (H : Heap) (locs : List Loc) (ls : Array Slot), va_P (dC, dI) vwCl (wA ad cB cI cZ cL LP today legCount legs hung warmth damp wopen tsize bytes rat rtold rwrong numbers asked ftold ffarm ffrom fwhat fon csize ctotal offered cws cwa g_number g_farm g_pig g_first g_begun g_weight g_salted g_heat g_place g_target g_feedAsked g_sealed g_bad g_sold) H → va_D A (wA ad cB cI cZ cL LP today legCount legs hung warmth damp wopen tsize bytes rat rtold rwrong numbers asked ftold ffarm ffrom fwhat fon csize ctotal offered cws cwa g_number g_farm g_pig g_first g_begun g_weight g_salted g_heat g_place g_target g_feedAsked g_sealed g_bad g_sold) → va_S A s.heap H locs → lv_has ls 7 [(1, .int v1), (2, .int v2), (3, .ref (ad 1)), (4, .int v4), (5, .int v5)] → K14 v1 v2 v4 v5 → W p l e (headSpec wsX7_sumOfLegs rm_C_X7_sumOfLegs).room s m ([.ref (ad 0), .int p0] : List Value).toArray below meth c H locs 0 0 (MQ below (pq_C_X7_sumOfLegs dC dI ad cB cI cZ cL A LP today legCount legs hung warmth damp wopen tsize bytes rat rtold rwrong numbers asked ftold ffarm ffrom fwhat fon csize ctotal offered cws cwa g_number g_farm g_pig g_first g_begun g_weight g_salted g_heat g_place g_target g_feedAsked g_sealed g_bad g_sold Q) ([.ref (ad 0), .int p0] : List Value).toArray s 0 0 A) (F0 m 14 ls [])) (v1 : Int32) (v2 : Int32) (v4 : Int32) (v5 : Int32) (H : Heap) (locs : List Loc) (ls : Array Slot), va_P (dC, dI) vwCl (wA ad cB cI cZ cL LP today legCount legs hung warmth damp wopen tsize bytes rat rtold rwrong numbers asked ftold ffarm ffrom fwhat fon csize ctotal offered cws cwa g_number g_farm g_pig g_first g_begun g_weight g_salted g_heat g_place g_target g_feedAsked g_sealed g_bad g_sold) H → va_D A (wA ad cB cI cZ cL LP today legCount legs hung warmth damp wopen tsize bytes rat rtold rwrong numbers asked ftold ffarm ffrom fwhat fon csize ctotal offered cws cwa g_number g_farm g_pig g_first g_begun g_weight g_salted g_heat g_place g_target g_feedAsked g_sealed g_bad g_sold) → va_S A s.heap H locs → lv_has ls 7 [(1, .int v1), (2, .int v2), (3, .ref (ad 1)), (4, .int v4), (5, .int v5)] → bk_C_X7_sumOfLegs_41 LP legs g_weight g_place g_target g_sealed g_bad g_sold Q K14 v1 v2 v4 v5 → W p l e (headSpec wsX7_sumOfLegs rm_C_X7_sumOfLegs).room s m ([.ref (ad 0), .int p0] : List Value).toArray below meth c H locs 0 0 (MQ below (pq_C_X7_sumOfLegs dC dI ad cB cI cZ cL A LP today legCount legs hung warmth damp wopen tsize bytes rat rtold rwrong numbers asked ftold ffarm ffrom fwhat fon csize ctotal offered cws cwa g_number g_farm g_pig g_first g_begun g_weight g_salted g_heat g_place g_target g_feedAsked g_sealed g_bad g_sold Q) ([.ref (ad 0), .int p0] : List Value).toArray s 0 0 A) (F0 m 41 ls []) := by
    intro K14 hK14 v1 v2 v4 v5 H locs ls hP hD hS hl h
    refine lv_iinc (v := v5 + 1) (lv' := [(5, .int (v5 + 1)), (1, .int v1), (2, .int v2), (3, .ref (ad 1)), (4, .int v4)]) hx hb dX7_sumOfLegs_41 hl (k := 4) rfl rfl (by decide) rfl (fun ls hl => ?_)
    refine lv_goto (tgt := 14) hx hb dX7_sumOfLegs_44 (by decide) ?_
    exact hK14 v1 v2 v4 (v5 + 1) _ _ _ hP hD hS (lv_sub hl [1, 2, 3, 4, 0] rfl) h
  have hlp_C_X7_sumOfLegs_14 : ∀ (n : Nat) (v1 : Int32) (v2 : Int32) (v4 : Int32) (v5 : Int32) (H : Heap) (locs : List Loc) (ls : Array Slot), va_P (dC, dI) vwCl (wA ad cB cI cZ cL LP today legCount legs hung warmth damp wopen tsize bytes rat rtold rwrong numbers asked ftold ffarm ffrom fwhat fon csize ctotal offered cws cwa g_number g_farm g_pig g_first g_begun g_weight g_salted g_heat g_place g_target g_feedAsked g_sealed g_bad g_sold) H → va_D A (wA ad cB cI cZ cL LP today legCount legs hung warmth damp wopen tsize bytes rat rtold rwrong numbers asked ftold ffarm ffrom fwhat fon csize ctotal offered cws cwa g_number g_farm g_pig g_first g_begun g_weight g_salted g_heat g_place g_target g_feedAsked g_sealed g_bad g_sold) → va_S A s.heap H locs → lv_has ls 7 [(1, .int v1), (2, .int v2), (3, .ref (ad 1)), (4, .int v4), (5, .int v5)] → lp_C_X7_sumOfLegs_14 LP legs g_weight g_place g_target g_sealed g_bad g_sold Q n v1 v2 v4 v5 → W p l e (headSpec wsX7_sumOfLegs rm_C_X7_sumOfLegs).room s m ([.ref (ad 0), .int p0] : List Value).toArray below meth c H locs 0 0 (MQ below (pq_C_X7_sumOfLegs dC dI ad cB cI cZ cL A LP today legCount legs hung warmth damp wopen tsize bytes rat rtold rwrong numbers asked ftold ffarm ffrom fwhat fon csize ctotal offered cws cwa g_number g_farm g_pig g_first g_begun g_weight g_salted g_heat g_place g_target g_feedAsked g_sealed g_bad g_sold Q) ([.ref (ad 0), .int p0] : List Value).toArray s 0 0 A) (F0 m 14 ls []) := by
    intro n
    induction n with
    | zero => intro v1 v2 v4 v5 H locs ls hP hD hS hl h; exact h.elim
    | succ n ih =>
      intro v1 v2 v4 v5 H locs ls hP hD hS hl h
      refine lv_iload hx hb dX7_sumOfLegs_14 (lv_at hl 4 rfl) ?_
      refine lv_iload hx hb dX7_sumOfLegs_16 (lv_at hl 3 rfl) ?_
      refine lv_icmp_ge (tgt := 47) hx hb dX7_sumOfLegs_18 (by decide) (fun c_1 => ?_) (fun c_1 => ?_)
      · have h := h.1 c_1
        refine lv_iload_n hx hb dX7_sumOfLegs_47 rfl (lv_at hl 1 rfl) ?_
        exact W.iret (v := v2) hx hb hr (fun t ht hW => ⟨⟨v2, (), rfl, h, kB_mk hP hK hD ht hW.alike⟩, hS.F ht⟩) hS.2.2 dX7_sumOfLegs_48
      · have h := h.2 c_1
        refine lv_aload_n hx hb dX7_sumOfLegs_21 rfl (lv_at hl 2 rfl) ?_
        refine lv_iload hx hb dX7_sumOfLegs_22 (lv_at hl 4 rfl) ?_
        have hi_2 := h.1
        have h := h.2
        refine va_aldq hx hb hK hP 1 3 wA_g1 rfl hi_2 dX7_sumOfLegs_24 ?_
        cases hr_4 : legs v5.toNatClampNeg with
        | none =>
          have h := h.1 hr_4
          refine lv_astoreN (lv' := [(6, .null), (1, .int v1), (2, .int v2), (3, .ref (ad 1)), (4, .int v4), (5, .int v5)]) hx hb dX7_sumOfLegs_25 hl (by decide) rfl (fun ls hl => ?_)
          refine lv_aloadN hx hb dX7_sumOfLegs_27 (lv_at hl 0 rfl) ?_
          refine lv_ifnullN (tgt := 41) hx hb dX7_sumOfLegs_29 (by decide) ?_
          exact hbk_C_X7_sumOfLegs_41 (lp_C_X7_sumOfLegs_14 LP legs g_weight g_place g_target g_sealed g_bad g_sold Q n) ih v1 v2 v4 v5 _ _ _ hP hD hS (lv_sub hl [1, 2, 3, 4, 5] rfl) h
        | some y_3 =>
          have hy_y_3 := (h.2 y_3 hr_4).1
          have h := (h.2 y_3 hr_4).2
          refine lv_astore (lv' := [(6, .ref y_3), (1, .int v1), (2, .int v2), (3, .ref (ad 1)), (4, .int v4), (5, .int v5)]) hx hb dX7_sumOfLegs_25 hl (by decide) rfl (fun ls hl => ?_)
          refine lv_aload hx hb dX7_sumOfLegs_27 (lv_at hl 0 rfl) ?_
          refine lv_ifnull hx hb dX7_sumOfLegs_29 ?_
          refine lv_iload_n hx hb dX7_sumOfLegs_32 rfl (lv_at hl 2 rfl) ?_
          refine lv_aload hx hb dX7_sumOfLegs_33 (lv_at hl 0 rfl) ?_
          refine lv_iload_n hx hb dX7_sumOfLegs_35 rfl (lv_at hl 1 rfl) ?_
          refine va_calli (va_runS (As := [.ref y_3, .int v1]) (rest := [.int v2]) ⟨hx, hb, hml, hown, hts⟩ (c_C_X7_shareOf l dC dI ad cB cI cZ cL A LP today legCount legs hung warmth damp wopen tsize bytes rat rtold rwrong numbers asked ftold ffarm ffrom fwhat fon csize ctotal offered cws cwa g_number g_farm g_pig g_first g_begun g_weight g_salted g_heat g_place g_target g_feedAsked g_sealed g_bad g_sold y_3 v1 hy_y_3 _ h) (va_cwS 2 hts gX7_sumOfLegs_X7_shareOf rfl rfl rfl (by decide +kernel) ⟨(Nat.le_of_ble_eq_true rfl), (Nat.le_of_ble_eq_true rfl)⟩) ⟨kC_blind, fun U hU hW => ⟨rfl, kC_go hA hS hP hK hD hE U hU hW⟩⟩ rfl rfl hl.1 rfl (lv_room (Nat.le_of_ble_eq_true rfl)) dX7_sumOfLegs_36 ⟨(Nat.le_of_ble_eq_true rfl), (Nat.le_of_ble_eq_true rfl)⟩) hS (fun q _ h => h) (fun q h => h) (fun r_6 u t H locs ht hvm hw hB hz1 hk1 hS => ?_)
          have h := hw
          try dsimp only at h
          have hP : va_P (dC, dI) vwCl (wA ad cB cI cZ cL LP today legCount legs hung warmth damp wopen tsize bytes rat rtold rwrong numbers asked ftold ffarm ffrom fwhat fon csize ctotal offered cws cwa g_number g_farm g_pig g_first g_begun g_weight g_salted g_heat g_place g_target g_feedAsked g_sealed g_bad g_sold) H := by rw [← ht]; exact hB.1
          have hD : va_D A (wA ad cB cI cZ cL LP today legCount legs hung warmth damp wopen tsize bytes rat rtold rwrong numbers asked ftold ffarm ffrom fwhat fon csize ctotal offered cws cwa g_number g_farm g_pig g_first g_begun g_weight g_salted g_heat g_place g_target g_feedAsked g_sealed g_bad g_sold) := hB.2.2
          refine lv_iadd hx hb dX7_sumOfLegs_39 ?_
          refine lv_istore_n (lv' := [(2, .int (v2 + r_6)), (6, .ref y_3), (1, .int v1), (3, .ref (ad 1)), (4, .int v4), (5, .int v5)]) hx hb dX7_sumOfLegs_40 rfl hl (by decide) rfl (fun ls hl => ?_)
          exact hbk_C_X7_sumOfLegs_41 (lp_C_X7_sumOfLegs_14 LP legs g_weight g_place g_target g_sealed g_bad g_sold Q n) ih v1 (v2 + r_6) v4 v5 _ _ _ hP hD hS (lv_sub hl [2, 0, 3, 4, 5] rfl) h
  have hl := lv_entry ([.ref (ad 0), .int p0]) (n := 7) (Nat.le_of_ble_eq_true rfl)
  rw [lg_entry_eq]
  generalize (lg_sl ([.ref (ad 0), .int p0]) ++ List.replicate (7 - (lg_sl ([.ref (ad 0), .int p0])).length) Slot.unset).toArray = ls at hl ⊢
  have hl : lv_has ls 7 [(0, .ref (ad 0)), (1, .int p0)] := hl
  unfold wp_C_X7_sumOfLegs at h
  refine lv_iconst (v := 0) hx hb dX7_sumOfLegs_0 (by decide) ?_
  refine lv_istore_n (lv' := [(2, .int 0), (0, .ref (ad 0)), (1, .int p0)]) hx hb dX7_sumOfLegs_1 rfl hl (by decide) rfl (fun ls hl => ?_)
  refine lv_aload_n hx hb dX7_sumOfLegs_2 rfl (lv_at hl 1 rfl) ?_
  refine va_get (D := (dC, dI)) (ci := 7) (v := .ref (ad 1)) (C := RX7) (T := TX7) (N := 10) hx hb hts hk_1 hown hK hP 0 wA_g0 rfl 2 (by decide) hk_0 (fun _ h9 => h9) rfl dX7_sumOfLegs_3 ?_
  refine lv_astore_n (lv' := [(3, .ref (ad 1)), (2, .int 0), (0, .ref (ad 0)), (1, .int p0)]) hx hb dX7_sumOfLegs_6 rfl hl (by decide) rfl (fun ls hl => ?_)
  refine lv_aload_n hx hb dX7_sumOfLegs_7 rfl (lv_at hl 0 rfl) ?_
  refine va_alen hx hb hK hP 1 3 wA_g1 rfl (v := 60) rfl dX7_sumOfLegs_8 ?_
  refine lv_istore (lv' := [(4, .int 60), (3, .ref (ad 1)), (2, .int 0), (0, .ref (ad 0)), (1, .int p0)]) hx hb dX7_sumOfLegs_9 hl (by decide) rfl (fun ls hl => ?_)
  refine lv_iconst (v := 0) hx hb dX7_sumOfLegs_11 (by decide) ?_
  refine lv_istore (lv' := [(5, .int 0), (4, .int 60), (3, .ref (ad 1)), (2, .int 0), (0, .ref (ad 0)), (1, .int p0)]) hx hb dX7_sumOfLegs_12 hl (by decide) rfl (fun ls hl => ?_)
  obtain ⟨n_7, h⟩ := h
  exact hlp_C_X7_sumOfLegs_14 n_7 p0 0 60 0 _ _ _ hP hD hS (lv_sub hl [5, 3, 2, 1, 0] rfl) h
def wp_C_X7_count (LP : List Nat) (today : Int32) (legCount : Int32) (legs : Nat → Option Nat) (ftold : Int32) (g_weight : Nat → Int32) (g_place : Nat → Int32) (g_target : Nat → Int32) (g_sealed : Nat → Int32) (g_bad : Nat → Int32) (g_sold : Nat → Int32) (Q : Int32 → Prop) (p0 : Int32) : Prop := ((p0 = 0 → Q today) ∧ (¬ p0 = 0 → ((p0 = 1 → Q legCount) ∧ (¬ p0 = 1 → ((p0 = 2 → wp_C_X7_sumOfLegs LP legs g_weight g_place g_target g_sealed g_bad g_sold (fun r_1 => Q r_1) p0) ∧ (¬ p0 = 2 → ((p0 = 3 → wp_C_X7_sumOfLegs LP legs g_weight g_place g_target g_sealed g_bad g_sold (fun r_2 => Q r_2) p0) ∧ (¬ p0 = 3 → ((p0 = 4 → wp_C_X7_sumOfLegs LP legs g_weight g_place g_target g_sealed g_bad g_sold (fun r_3 => Q r_3) p0) ∧ (¬ p0 = 4 → ((p0 = 5 → wp_C_X7_sumOfLegs LP legs g_weight g_place g_target g_sealed g_bad g_sold (fun r_4 => Q r_4) p0) ∧ (¬ p0 = 5 → ((p0 = 6 → wp_C_X7_sumOfLegs LP legs g_weight g_place g_target g_sealed g_bad g_sold (fun r_5 => Q r_5) p0) ∧ (¬ p0 = 6 → ((p0 = 7 → wp_C_X7_sumOfLegs LP legs g_weight g_place g_target g_sealed g_bad g_sold (fun r_6 => Q r_6) p0) ∧ (¬ p0 = 7 → ((p0 = 8 → Q ftold) ∧ (¬ p0 = 8 → ((p0 = 9 → wp_C_X7_sumOfLegs LP legs g_weight g_place g_target g_sealed g_bad g_sold (fun r_7 => Q r_7) p0) ∧ (¬ p0 = 9 → Q (-1)))))))))))))))))))))
def rm_C_X7_count : Room := { frames := 3, cells := 0, slots := 0, locals := 67 }
abbrev pq_C_X7_count (dC : Nat → ClassId) (dI : Nat → Nat → Nat) (ad : Nat → Nat) (cB cI cZ cL : ClassId) (A : Nat → Prop) (LP : List Nat) (today legCount : Int32) (legs hung : Nat → Option Nat) (warmth damp wopen : Nat → Int32) (tsize : Int32) (bytes : Nat → Int32) (rat rtold rwrong : Int32) (numbers asked : Nat → Int32) (ftold : Int32) (ffarm ffrom fwhat fon : Nat → Int32) (csize ctotal : Int32) (offered : Nat → Option Nat) (cws cwa g_number g_farm g_pig g_first g_begun g_weight g_salted g_heat g_place g_target g_feedAsked g_sealed g_bad g_sold : Nat → Int32) (Q : Int32 → Prop) : Array Value → State → Outcome → State → Prop := va_Qi (fun (r : Int32) (u : Unit) => Q r ) (fun u t => kB dC dI A (wA ad cB cI cZ cL LP today legCount legs hung warmth damp wopen tsize bytes rat rtold rwrong numbers asked ftold ffarm ffrom fwhat fon csize ctotal offered cws cwa g_number g_farm g_pig g_first g_begun g_weight g_salted g_heat g_place g_target g_feedAsked g_sealed g_bad g_sold) (kTy cB cI cZ cL) t) A
set_option maxHeartbeats 4000000 in
set_option maxRecDepth 100000 in
theorem c_C_X7_count (l : Launch) (dC : Nat → ClassId) (dI : Nat → Nat → Nat) (ad : Nat → Nat) (cB cI cZ cL : ClassId) (A : Nat → Prop) (LP : List Nat) (today legCount : Int32) (legs hung : Nat → Option Nat) (warmth damp wopen : Nat → Int32) (tsize : Int32) (bytes : Nat → Int32) (rat rtold rwrong : Int32) (numbers asked : Nat → Int32) (ftold : Int32) (ffarm ffrom fwhat fon : Nat → Int32) (csize ctotal : Int32) (offered : Nat → Option Nat) (cws cwa g_number g_farm g_pig g_first g_begun g_weight g_salted g_heat g_place g_target g_feedAsked g_sealed g_bad g_sold : Nat → Int32) (p0 : Int32)  (Q : Int32 → Prop) (h : wp_C_X7_count LP today legCount legs ftold g_weight g_place g_target g_sealed g_bad g_sold Q p0) : Met l yX7_count wsX7_count rm_C_X7_count (va_Pc [.ref (ad 0), .int p0] (kC dC dI ad A (wA ad cB cI cZ cL LP today legCount legs hung warmth damp wopen tsize bytes rat rtold rwrong numbers asked ftold ffarm ffrom fwhat fon csize ctotal offered cws cwa g_number g_farm g_pig g_first g_begun g_weight g_salted g_heat g_place g_target g_feedAsked g_sealed g_bad g_sold) (kTy cB cI cZ cL))) (pq_C_X7_count dC dI ad cB cI cZ cL A LP today legCount legs hung warmth damp wopen tsize bytes rat rtold rwrong numbers asked ftold ffarm ffrom fwhat fon csize ctotal offered cws cwa g_number g_farm g_pig g_first g_begun g_weight g_salted g_heat g_place g_target g_feedAsked g_sealed g_bad g_sold Q) 0 0 A := by
  refine Met.ofW (cc := cX7_count) (maxL := 2) (ret := (some .int)) (by decide) rfl ?_
  intro p e s m args below meth c s₁ B hml hv
  obtain ⟨rfl, hA, hP, hK, hD, hE⟩ := hv
  have hx := B.exec
  have hb := B.bytes
  have hr := B.returns
  have hts := atoms_spec (ws := wsX7_count) B.pre
  have hown : s.vm.findClass RX7 = some m.cls := findClass_of_methodNamed B.named
  have hlocks := B.notSynchronized
  have hS : va_S A s.heap s.heap [] := va_S.rf
  have hk_0 := hts (.fieldLink RX7 99 "HamCellar" "today" "I") (by decide +kernel)
  have hk_1 : ∀ w ∈ wsX70, w ∈ wsX7_count := by decide +kernel
  have hk_2 := hts (.fieldLink RX7 88 "HamCellar" "legCount" "I") (by decide +kernel)
  have hk_3 := hts (.fieldLink RX7 52 "HamCellar" "feeds" "LHamCellar$FeedBook;") (by decide +kernel)
  have hk_4n := hE.2.1.1 ("HamCellar", 251, "HamCellar$FeedBook", "told", "I", "HamCellar") (by decide +kernel)
  have hk_4 : (Cond.fieldLinkNest "HamCellar" 251 "HamCellar$FeedBook" "told" "I" "HamCellar").before ([.ref (ad 0), .int p0] : List Value).toArray s = true := va_Nw.use rfl hk_4n
  have hk_5 : ∀ w ∈ wsX10, w ∈ wsX7_count := by decide +kernel
  have hl := lv_entry ([.ref (ad 0), .int p0]) (n := 2) (Nat.le_of_ble_eq_true rfl)
  rw [lg_entry_eq]
  generalize (lg_sl ([.ref (ad 0), .int p0]) ++ List.replicate (2 - (lg_sl ([.ref (ad 0), .int p0])).length) Slot.unset).toArray = ls at hl ⊢
  have hl : lv_has ls 2 [(0, .ref (ad 0)), (1, .int p0)] := hl
  unfold wp_C_X7_count at h
  refine lv_iload_n hx hb dX7_count_0 rfl (lv_at hl 1 rfl) ?_
  by_cases hc_1_0 : p0 = 0
  · have h := h.1 hc_1_0
    refine lv_tableIn (off := 55) (tgt := 56) hx hb dX7_count_1 (by rw [hc_1_0]; decide) (by rw [hc_1_0]; decide) (by rw [hc_1_0]; rfl) (by decide) ?_
    refine lv_aload_n hx hb dX7_count_56 rfl (lv_at hl 0 rfl) ?_
    refine va_get (D := (dC, dI)) (ci := 7) (v := .int today) (C := RX7) (T := TX7) (N := 10) hx hb hts hk_1 hown hK hP 0 wA_g0 rfl 0 (by decide) hk_0 (fun _ h9 => h9) rfl dX7_count_57 ?_
    exact W.iret (v := today) hx hb hr (fun t ht hW => ⟨⟨today, (), rfl, h, kB_mk hP hK hD ht hW.alike⟩, hS.F ht⟩) hS.2.2 dX7_count_60
  · have h := h.2 hc_1_0
    by_cases hc_1_1 : p0 = 1
    · have h := h.1 hc_1_1
      refine lv_tableIn (off := 60) (tgt := 61) hx hb dX7_count_1 (by rw [hc_1_1]; decide) (by rw [hc_1_1]; decide) (by rw [hc_1_1]; rfl) (by decide) ?_
      refine lv_aload_n hx hb dX7_count_61 rfl (lv_at hl 0 rfl) ?_
      refine va_get (D := (dC, dI)) (ci := 7) (v := .int legCount) (C := RX7) (T := TX7) (N := 10) hx hb hts hk_1 hown hK hP 0 wA_g0 rfl 1 (by decide) hk_2 (fun _ h9 => h9) rfl dX7_count_62 ?_
      exact W.iret (v := legCount) hx hb hr (fun t ht hW => ⟨⟨legCount, (), rfl, h, kB_mk hP hK hD ht hW.alike⟩, hS.F ht⟩) hS.2.2 dX7_count_65
    · have h := h.2 hc_1_1
      by_cases hc_1_2 : p0 = 2
      · have h := h.1 hc_1_2
        refine lv_tableIn (off := 65) (tgt := 66) hx hb dX7_count_1 (by rw [hc_1_2]; decide) (by rw [hc_1_2]; decide) (by rw [hc_1_2]; rfl) (by decide) ?_
        refine lv_aload_n hx hb dX7_count_66 rfl (lv_at hl 0 rfl) ?_
        refine lv_iload_n hx hb dX7_count_67 rfl (lv_at hl 1 rfl) ?_
        refine va_calli (va_runV (As := [.int p0]) (rest := []) ⟨hx, hb, hml, hown, hts⟩ (c_C_X7_sumOfLegs l dC dI ad cB cI cZ cL A LP today legCount legs hung warmth damp wopen tsize bytes rat rtold rwrong numbers asked ftold ffarm ffrom fwhat fon csize ctotal offered cws cwa g_number g_farm g_pig g_first g_begun g_weight g_salted g_heat g_place g_target g_feedAsked g_sealed g_bad g_sold p0 _ h) (cwV 1 hts gX7_count_X7_sumOfLegs rfl rfl rfl (by decide +kernel) ⟨(Nat.le_of_ble_eq_true rfl), (Nat.le_of_ble_eq_true rfl)⟩) ⟨kC_blind, va_recv hK hP (ci := 7) (q0 := 0) rfl wA_g0, fun U hU hW => ⟨rfl, kC_go hA hS hP hK hD hE U hU hW⟩⟩ rfl rfl hl.1 rfl (lv_room (Nat.le_of_ble_eq_true rfl)) dX7_count_68 ⟨(Nat.le_of_ble_eq_true rfl), (Nat.le_of_ble_eq_true rfl)⟩) hS (fun q _ h => h) (fun q h => h) (fun r_1 u t H locs ht hvm hw hB hz1 hk1 hS => ?_)
        have h := hw
        try dsimp only at h
        have hP : va_P (dC, dI) vwCl (wA ad cB cI cZ cL LP today legCount legs hung warmth damp wopen tsize bytes rat rtold rwrong numbers asked ftold ffarm ffrom fwhat fon csize ctotal offered cws cwa g_number g_farm g_pig g_first g_begun g_weight g_salted g_heat g_place g_target g_feedAsked g_sealed g_bad g_sold) H := by rw [← ht]; exact hB.1
        have hD : va_D A (wA ad cB cI cZ cL LP today legCount legs hung warmth damp wopen tsize bytes rat rtold rwrong numbers asked ftold ffarm ffrom fwhat fon csize ctotal offered cws cwa g_number g_farm g_pig g_first g_begun g_weight g_salted g_heat g_place g_target g_feedAsked g_sealed g_bad g_sold) := hB.2.2
        exact W.iret (v := r_1) hx hb hr (fun t ht hW => ⟨⟨r_1, (), rfl, h, kB_mk hP hK hD ht hW.alike⟩, hS.F ht⟩) hS.2.2 dX7_count_71
      · have h := h.2 hc_1_2
        by_cases hc_1_3 : p0 = 3
        · have h := h.1 hc_1_3
          refine lv_tableIn (off := 65) (tgt := 66) hx hb dX7_count_1 (by rw [hc_1_3]; decide) (by rw [hc_1_3]; decide) (by rw [hc_1_3]; rfl) (by decide) ?_
          refine lv_aload_n hx hb dX7_count_66 rfl (lv_at hl 0 rfl) ?_
          refine lv_iload_n hx hb dX7_count_67 rfl (lv_at hl 1 rfl) ?_
          refine va_calli (va_runV (As := [.int p0]) (rest := []) ⟨hx, hb, hml, hown, hts⟩ (c_C_X7_sumOfLegs l dC dI ad cB cI cZ cL A LP today legCount legs hung warmth damp wopen tsize bytes rat rtold rwrong numbers asked ftold ffarm ffrom fwhat fon csize ctotal offered cws cwa g_number g_farm g_pig g_first g_begun g_weight g_salted g_heat g_place g_target g_feedAsked g_sealed g_bad g_sold p0 _ h) (cwV 1 hts gX7_count_X7_sumOfLegs rfl rfl rfl (by decide +kernel) ⟨(Nat.le_of_ble_eq_true rfl), (Nat.le_of_ble_eq_true rfl)⟩) ⟨kC_blind, va_recv hK hP (ci := 7) (q0 := 0) rfl wA_g0, fun U hU hW => ⟨rfl, kC_go hA hS hP hK hD hE U hU hW⟩⟩ rfl rfl hl.1 rfl (lv_room (Nat.le_of_ble_eq_true rfl)) dX7_count_68 ⟨(Nat.le_of_ble_eq_true rfl), (Nat.le_of_ble_eq_true rfl)⟩) hS (fun q _ h => h) (fun q h => h) (fun r_2 u t H locs ht hvm hw hB hz1 hk1 hS => ?_)
          have h := hw
          try dsimp only at h
          have hP : va_P (dC, dI) vwCl (wA ad cB cI cZ cL LP today legCount legs hung warmth damp wopen tsize bytes rat rtold rwrong numbers asked ftold ffarm ffrom fwhat fon csize ctotal offered cws cwa g_number g_farm g_pig g_first g_begun g_weight g_salted g_heat g_place g_target g_feedAsked g_sealed g_bad g_sold) H := by rw [← ht]; exact hB.1
          have hD : va_D A (wA ad cB cI cZ cL LP today legCount legs hung warmth damp wopen tsize bytes rat rtold rwrong numbers asked ftold ffarm ffrom fwhat fon csize ctotal offered cws cwa g_number g_farm g_pig g_first g_begun g_weight g_salted g_heat g_place g_target g_feedAsked g_sealed g_bad g_sold) := hB.2.2
          exact W.iret (v := r_2) hx hb hr (fun t ht hW => ⟨⟨r_2, (), rfl, h, kB_mk hP hK hD ht hW.alike⟩, hS.F ht⟩) hS.2.2 dX7_count_71
        · have h := h.2 hc_1_3
          by_cases hc_1_4 : p0 = 4
          · have h := h.1 hc_1_4
            refine lv_tableIn (off := 65) (tgt := 66) hx hb dX7_count_1 (by rw [hc_1_4]; decide) (by rw [hc_1_4]; decide) (by rw [hc_1_4]; rfl) (by decide) ?_
            refine lv_aload_n hx hb dX7_count_66 rfl (lv_at hl 0 rfl) ?_
            refine lv_iload_n hx hb dX7_count_67 rfl (lv_at hl 1 rfl) ?_
            refine va_calli (va_runV (As := [.int p0]) (rest := []) ⟨hx, hb, hml, hown, hts⟩ (c_C_X7_sumOfLegs l dC dI ad cB cI cZ cL A LP today legCount legs hung warmth damp wopen tsize bytes rat rtold rwrong numbers asked ftold ffarm ffrom fwhat fon csize ctotal offered cws cwa g_number g_farm g_pig g_first g_begun g_weight g_salted g_heat g_place g_target g_feedAsked g_sealed g_bad g_sold p0 _ h) (cwV 1 hts gX7_count_X7_sumOfLegs rfl rfl rfl (by decide +kernel) ⟨(Nat.le_of_ble_eq_true rfl), (Nat.le_of_ble_eq_true rfl)⟩) ⟨kC_blind, va_recv hK hP (ci := 7) (q0 := 0) rfl wA_g0, fun U hU hW => ⟨rfl, kC_go hA hS hP hK hD hE U hU hW⟩⟩ rfl rfl hl.1 rfl (lv_room (Nat.le_of_ble_eq_true rfl)) dX7_count_68 ⟨(Nat.le_of_ble_eq_true rfl), (Nat.le_of_ble_eq_true rfl)⟩) hS (fun q _ h => h) (fun q h => h) (fun r_3 u t H locs ht hvm hw hB hz1 hk1 hS => ?_)
            have h := hw
            try dsimp only at h
            have hP : va_P (dC, dI) vwCl (wA ad cB cI cZ cL LP today legCount legs hung warmth damp wopen tsize bytes rat rtold rwrong numbers asked ftold ffarm ffrom fwhat fon csize ctotal offered cws cwa g_number g_farm g_pig g_first g_begun g_weight g_salted g_heat g_place g_target g_feedAsked g_sealed g_bad g_sold) H := by rw [← ht]; exact hB.1
            have hD : va_D A (wA ad cB cI cZ cL LP today legCount legs hung warmth damp wopen tsize bytes rat rtold rwrong numbers asked ftold ffarm ffrom fwhat fon csize ctotal offered cws cwa g_number g_farm g_pig g_first g_begun g_weight g_salted g_heat g_place g_target g_feedAsked g_sealed g_bad g_sold) := hB.2.2
            exact W.iret (v := r_3) hx hb hr (fun t ht hW => ⟨⟨r_3, (), rfl, h, kB_mk hP hK hD ht hW.alike⟩, hS.F ht⟩) hS.2.2 dX7_count_71
          · have h := h.2 hc_1_4
            by_cases hc_1_5 : p0 = 5
            · have h := h.1 hc_1_5
              refine lv_tableIn (off := 65) (tgt := 66) hx hb dX7_count_1 (by rw [hc_1_5]; decide) (by rw [hc_1_5]; decide) (by rw [hc_1_5]; rfl) (by decide) ?_
              refine lv_aload_n hx hb dX7_count_66 rfl (lv_at hl 0 rfl) ?_
              refine lv_iload_n hx hb dX7_count_67 rfl (lv_at hl 1 rfl) ?_
              refine va_calli (va_runV (As := [.int p0]) (rest := []) ⟨hx, hb, hml, hown, hts⟩ (c_C_X7_sumOfLegs l dC dI ad cB cI cZ cL A LP today legCount legs hung warmth damp wopen tsize bytes rat rtold rwrong numbers asked ftold ffarm ffrom fwhat fon csize ctotal offered cws cwa g_number g_farm g_pig g_first g_begun g_weight g_salted g_heat g_place g_target g_feedAsked g_sealed g_bad g_sold p0 _ h) (cwV 1 hts gX7_count_X7_sumOfLegs rfl rfl rfl (by decide +kernel) ⟨(Nat.le_of_ble_eq_true rfl), (Nat.le_of_ble_eq_true rfl)⟩) ⟨kC_blind, va_recv hK hP (ci := 7) (q0 := 0) rfl wA_g0, fun U hU hW => ⟨rfl, kC_go hA hS hP hK hD hE U hU hW⟩⟩ rfl rfl hl.1 rfl (lv_room (Nat.le_of_ble_eq_true rfl)) dX7_count_68 ⟨(Nat.le_of_ble_eq_true rfl), (Nat.le_of_ble_eq_true rfl)⟩) hS (fun q _ h => h) (fun q h => h) (fun r_4 u t H locs ht hvm hw hB hz1 hk1 hS => ?_)
              have h := hw
              try dsimp only at h
              have hP : va_P (dC, dI) vwCl (wA ad cB cI cZ cL LP today legCount legs hung warmth damp wopen tsize bytes rat rtold rwrong numbers asked ftold ffarm ffrom fwhat fon csize ctotal offered cws cwa g_number g_farm g_pig g_first g_begun g_weight g_salted g_heat g_place g_target g_feedAsked g_sealed g_bad g_sold) H := by rw [← ht]; exact hB.1
              have hD : va_D A (wA ad cB cI cZ cL LP today legCount legs hung warmth damp wopen tsize bytes rat rtold rwrong numbers asked ftold ffarm ffrom fwhat fon csize ctotal offered cws cwa g_number g_farm g_pig g_first g_begun g_weight g_salted g_heat g_place g_target g_feedAsked g_sealed g_bad g_sold) := hB.2.2
              exact W.iret (v := r_4) hx hb hr (fun t ht hW => ⟨⟨r_4, (), rfl, h, kB_mk hP hK hD ht hW.alike⟩, hS.F ht⟩) hS.2.2 dX7_count_71
            · have h := h.2 hc_1_5
              by_cases hc_1_6 : p0 = 6
              · have h := h.1 hc_1_6
                refine lv_tableIn (off := 65) (tgt := 66) hx hb dX7_count_1 (by rw [hc_1_6]; decide) (by rw [hc_1_6]; decide) (by rw [hc_1_6]; rfl) (by decide) ?_
                refine lv_aload_n hx hb dX7_count_66 rfl (lv_at hl 0 rfl) ?_
                refine lv_iload_n hx hb dX7_count_67 rfl (lv_at hl 1 rfl) ?_
                refine va_calli (va_runV (As := [.int p0]) (rest := []) ⟨hx, hb, hml, hown, hts⟩ (c_C_X7_sumOfLegs l dC dI ad cB cI cZ cL A LP today legCount legs hung warmth damp wopen tsize bytes rat rtold rwrong numbers asked ftold ffarm ffrom fwhat fon csize ctotal offered cws cwa g_number g_farm g_pig g_first g_begun g_weight g_salted g_heat g_place g_target g_feedAsked g_sealed g_bad g_sold p0 _ h) (cwV 1 hts gX7_count_X7_sumOfLegs rfl rfl rfl (by decide +kernel) ⟨(Nat.le_of_ble_eq_true rfl), (Nat.le_of_ble_eq_true rfl)⟩) ⟨kC_blind, va_recv hK hP (ci := 7) (q0 := 0) rfl wA_g0, fun U hU hW => ⟨rfl, kC_go hA hS hP hK hD hE U hU hW⟩⟩ rfl rfl hl.1 rfl (lv_room (Nat.le_of_ble_eq_true rfl)) dX7_count_68 ⟨(Nat.le_of_ble_eq_true rfl), (Nat.le_of_ble_eq_true rfl)⟩) hS (fun q _ h => h) (fun q h => h) (fun r_5 u t H locs ht hvm hw hB hz1 hk1 hS => ?_)
                have h := hw
                try dsimp only at h
                have hP : va_P (dC, dI) vwCl (wA ad cB cI cZ cL LP today legCount legs hung warmth damp wopen tsize bytes rat rtold rwrong numbers asked ftold ffarm ffrom fwhat fon csize ctotal offered cws cwa g_number g_farm g_pig g_first g_begun g_weight g_salted g_heat g_place g_target g_feedAsked g_sealed g_bad g_sold) H := by rw [← ht]; exact hB.1
                have hD : va_D A (wA ad cB cI cZ cL LP today legCount legs hung warmth damp wopen tsize bytes rat rtold rwrong numbers asked ftold ffarm ffrom fwhat fon csize ctotal offered cws cwa g_number g_farm g_pig g_first g_begun g_weight g_salted g_heat g_place g_target g_feedAsked g_sealed g_bad g_sold) := hB.2.2
                exact W.iret (v := r_5) hx hb hr (fun t ht hW => ⟨⟨r_5, (), rfl, h, kB_mk hP hK hD ht hW.alike⟩, hS.F ht⟩) hS.2.2 dX7_count_71
              · have h := h.2 hc_1_6
                by_cases hc_1_7 : p0 = 7
                · have h := h.1 hc_1_7
                  refine lv_tableIn (off := 65) (tgt := 66) hx hb dX7_count_1 (by rw [hc_1_7]; decide) (by rw [hc_1_7]; decide) (by rw [hc_1_7]; rfl) (by decide) ?_
                  refine lv_aload_n hx hb dX7_count_66 rfl (lv_at hl 0 rfl) ?_
                  refine lv_iload_n hx hb dX7_count_67 rfl (lv_at hl 1 rfl) ?_
                  refine va_calli (va_runV (As := [.int p0]) (rest := []) ⟨hx, hb, hml, hown, hts⟩ (c_C_X7_sumOfLegs l dC dI ad cB cI cZ cL A LP today legCount legs hung warmth damp wopen tsize bytes rat rtold rwrong numbers asked ftold ffarm ffrom fwhat fon csize ctotal offered cws cwa g_number g_farm g_pig g_first g_begun g_weight g_salted g_heat g_place g_target g_feedAsked g_sealed g_bad g_sold p0 _ h) (cwV 1 hts gX7_count_X7_sumOfLegs rfl rfl rfl (by decide +kernel) ⟨(Nat.le_of_ble_eq_true rfl), (Nat.le_of_ble_eq_true rfl)⟩) ⟨kC_blind, va_recv hK hP (ci := 7) (q0 := 0) rfl wA_g0, fun U hU hW => ⟨rfl, kC_go hA hS hP hK hD hE U hU hW⟩⟩ rfl rfl hl.1 rfl (lv_room (Nat.le_of_ble_eq_true rfl)) dX7_count_68 ⟨(Nat.le_of_ble_eq_true rfl), (Nat.le_of_ble_eq_true rfl)⟩) hS (fun q _ h => h) (fun q h => h) (fun r_6 u t H locs ht hvm hw hB hz1 hk1 hS => ?_)
                  have h := hw
                  try dsimp only at h
                  have hP : va_P (dC, dI) vwCl (wA ad cB cI cZ cL LP today legCount legs hung warmth damp wopen tsize bytes rat rtold rwrong numbers asked ftold ffarm ffrom fwhat fon csize ctotal offered cws cwa g_number g_farm g_pig g_first g_begun g_weight g_salted g_heat g_place g_target g_feedAsked g_sealed g_bad g_sold) H := by rw [← ht]; exact hB.1
                  have hD : va_D A (wA ad cB cI cZ cL LP today legCount legs hung warmth damp wopen tsize bytes rat rtold rwrong numbers asked ftold ffarm ffrom fwhat fon csize ctotal offered cws cwa g_number g_farm g_pig g_first g_begun g_weight g_salted g_heat g_place g_target g_feedAsked g_sealed g_bad g_sold) := hB.2.2
                  exact W.iret (v := r_6) hx hb hr (fun t ht hW => ⟨⟨r_6, (), rfl, h, kB_mk hP hK hD ht hW.alike⟩, hS.F ht⟩) hS.2.2 dX7_count_71
                · have h := h.2 hc_1_7
                  by_cases hc_1_8 : p0 = 8
                  · have h := h.1 hc_1_8
                    refine lv_tableIn (off := 71) (tgt := 72) hx hb dX7_count_1 (by rw [hc_1_8]; decide) (by rw [hc_1_8]; decide) (by rw [hc_1_8]; rfl) (by decide) ?_
                    refine lv_aload_n hx hb dX7_count_72 rfl (lv_at hl 0 rfl) ?_
                    refine va_get (D := (dC, dI)) (ci := 7) (v := .ref (ad 13)) (C := RX7) (T := TX7) (N := 10) hx hb hts hk_1 hown hK hP 0 wA_g0 rfl 8 (by decide) hk_3 (fun _ h9 => h9) rfl dX7_count_73 ?_
                    refine va_getN (D := (dC, dI)) (ci := 1) (v := .int ftold) (C := RX1) (T := TX1) (N := 5) hx hb hts hk_5 hown hK hP 13 wA_g13 rfl 4 (by decide) hk_4 (fun _ h9 => h9) rfl dX7_count_76 ?_
                    exact W.iret (v := ftold) hx hb hr (fun t ht hW => ⟨⟨ftold, (), rfl, h, kB_mk hP hK hD ht hW.alike⟩, hS.F ht⟩) hS.2.2 dX7_count_79
                  · have h := h.2 hc_1_8
                    by_cases hc_1_9 : p0 = 9
                    · have h := h.1 hc_1_9
                      refine lv_tableIn (off := 65) (tgt := 66) hx hb dX7_count_1 (by rw [hc_1_9]; decide) (by rw [hc_1_9]; decide) (by rw [hc_1_9]; rfl) (by decide) ?_
                      refine lv_aload_n hx hb dX7_count_66 rfl (lv_at hl 0 rfl) ?_
                      refine lv_iload_n hx hb dX7_count_67 rfl (lv_at hl 1 rfl) ?_
                      refine va_calli (va_runV (As := [.int p0]) (rest := []) ⟨hx, hb, hml, hown, hts⟩ (c_C_X7_sumOfLegs l dC dI ad cB cI cZ cL A LP today legCount legs hung warmth damp wopen tsize bytes rat rtold rwrong numbers asked ftold ffarm ffrom fwhat fon csize ctotal offered cws cwa g_number g_farm g_pig g_first g_begun g_weight g_salted g_heat g_place g_target g_feedAsked g_sealed g_bad g_sold p0 _ h) (cwV 1 hts gX7_count_X7_sumOfLegs rfl rfl rfl (by decide +kernel) ⟨(Nat.le_of_ble_eq_true rfl), (Nat.le_of_ble_eq_true rfl)⟩) ⟨kC_blind, va_recv hK hP (ci := 7) (q0 := 0) rfl wA_g0, fun U hU hW => ⟨rfl, kC_go hA hS hP hK hD hE U hU hW⟩⟩ rfl rfl hl.1 rfl (lv_room (Nat.le_of_ble_eq_true rfl)) dX7_count_68 ⟨(Nat.le_of_ble_eq_true rfl), (Nat.le_of_ble_eq_true rfl)⟩) hS (fun q _ h => h) (fun q h => h) (fun r_7 u t H locs ht hvm hw hB hz1 hk1 hS => ?_)
                      have h := hw
                      try dsimp only at h
                      have hP : va_P (dC, dI) vwCl (wA ad cB cI cZ cL LP today legCount legs hung warmth damp wopen tsize bytes rat rtold rwrong numbers asked ftold ffarm ffrom fwhat fon csize ctotal offered cws cwa g_number g_farm g_pig g_first g_begun g_weight g_salted g_heat g_place g_target g_feedAsked g_sealed g_bad g_sold) H := by rw [← ht]; exact hB.1
                      have hD : va_D A (wA ad cB cI cZ cL LP today legCount legs hung warmth damp wopen tsize bytes rat rtold rwrong numbers asked ftold ffarm ffrom fwhat fon csize ctotal offered cws cwa g_number g_farm g_pig g_first g_begun g_weight g_salted g_heat g_place g_target g_feedAsked g_sealed g_bad g_sold) := hB.2.2
                      exact W.iret (v := r_7) hx hb hr (fun t ht hW => ⟨⟨r_7, (), rfl, h, kB_mk hP hK hD ht hW.alike⟩, hS.F ht⟩) hS.2.2 dX7_count_71
                    · have h := h.2 hc_1_9
                      have t_0 : ¬ p0.toInt = 0 := lv_neT hc_1_0 (by decide)
                      have t_1 : ¬ p0.toInt = 1 := lv_neT hc_1_1 (by decide)
                      have t_2 : ¬ p0.toInt = 2 := lv_neT hc_1_2 (by decide)
                      have t_3 : ¬ p0.toInt = 3 := lv_neT hc_1_3 (by decide)
                      have t_4 : ¬ p0.toInt = 4 := lv_neT hc_1_4 (by decide)
                      have t_5 : ¬ p0.toInt = 5 := lv_neT hc_1_5 (by decide)
                      have t_6 : ¬ p0.toInt = 6 := lv_neT hc_1_6 (by decide)
                      have t_7 : ¬ p0.toInt = 7 := lv_neT hc_1_7 (by decide)
                      have t_8 : ¬ p0.toInt = 8 := lv_neT hc_1_8 (by decide)
                      have t_9 : ¬ p0.toInt = 9 := lv_neT hc_1_9 (by decide)
                      refine lv_tableOut (tgt := 80) hx hb dX7_count_1 (by omega) (by decide) ?_
                      refine lv_iconst (v := (-1)) hx hb dX7_count_80 (by decide) ?_
                      exact W.iret (v := (-1)) hx hb hr (fun t ht hW => ⟨⟨(-1), (), rfl, h, kB_mk hP hK hD ht hW.alike⟩, hS.F ht⟩) hS.2.2 dX7_count_81
