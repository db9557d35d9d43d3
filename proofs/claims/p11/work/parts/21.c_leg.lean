def wp_C_X3_init (LP : List Nat) (Q : (Nat → Int32) → (Nat → Int32) → (Nat → Int32) → (Nat → Int32) → (Nat → Int32) → (Nat → Int32) → (Nat → Int32) → (Nat → Int32) → Prop) (g_number : Nat → Int32) (g_farm : Nat → Int32) (g_pig : Nat → Int32) (g_first : Nat → Int32) (g_begun : Nat → Int32) (g_weight : Nat → Int32) (g_place : Nat → Int32) (g_target : Nat → Int32) (y : Nat) (p0 : Int32) (p1 : Int32) (p2 : Int32) (p3 : Int32) (p4 : Int32) : Prop := Q (va_up g_number y p0) (va_up g_farm y p1) (va_up g_pig y p2) (va_up g_first y p3) (va_up g_begun y p4) (va_up g_weight y p3) (va_up g_place y (-1)) (va_up g_target y (-1))
def rm_C_X3_init : Room := { frames := 1, cells := 0, slots := 0, locals := 12 }
abbrev pq_C_X3_init (dC : Nat → ClassId) (dI : Nat → Nat → Nat) (ad : Nat → Nat) (cB cI cZ cL : ClassId) (A : Nat → Prop) (LP : List Nat) (today legCount : Int32) (legs hung : Nat → Option Nat) (warmth damp wopen : Nat → Int32) (tsize : Int32) (bytes : Nat → Int32) (rat rtold rwrong : Int32) (numbers asked : Nat → Int32) (ftold : Int32) (ffarm ffrom fwhat fon : Nat → Int32) (csize ctotal : Int32) (offered : Nat → Option Nat) (cws cwa g_number g_farm g_pig g_first g_begun g_weight g_salted g_heat g_place g_target g_feedAsked g_sealed g_bad g_sold : Nat → Int32) (Q : (Nat → Int32) → (Nat → Int32) → (Nat → Int32) → (Nat → Int32) → (Nat → Int32) → (Nat → Int32) → (Nat → Int32) → (Nat → Int32) → Prop) : Array Value → State → Outcome → State → Prop := va_Qv (fun u : (Nat → Int32) × (Nat → Int32) × (Nat → Int32) × (Nat → Int32) × (Nat → Int32) × (Nat → Int32) × (Nat → Int32) × (Nat → Int32) => Q u.1 u.2.1 u.2.2.1 u.2.2.2.1 u.2.2.2.2.1 u.2.2.2.2.2.1 u.2.2.2.2.2.2.1 u.2.2.2.2.2.2.2) (fun u t => kB dC dI A (wA ad cB cI cZ cL LP today legCount legs hung warmth damp wopen tsize bytes rat rtold rwrong numbers asked ftold ffarm ffrom fwhat fon csize ctotal offered cws cwa u.1 u.2.1 u.2.2.1 u.2.2.2.1 u.2.2.2.2.1 u.2.2.2.2.2.1 g_salted g_heat u.2.2.2.2.2.2.1 u.2.2.2.2.2.2.2 g_feedAsked g_sealed g_bad g_sold) (kTy cB cI cZ cL) t) A
set_option maxHeartbeats 4000000 in
set_option maxRecDepth 100000 in
theorem c_C_X3_init (l : Launch) (dC : Nat → ClassId) (dI : Nat → Nat → Nat) (ad : Nat → Nat) (cB cI cZ cL : ClassId) (A : Nat → Prop) (LP : List Nat) (today legCount : Int32) (legs hung : Nat → Option Nat) (warmth damp wopen : Nat → Int32) (tsize : Int32) (bytes : Nat → Int32) (rat rtold rwrong : Int32) (numbers asked : Nat → Int32) (ftold : Int32) (ffarm ffrom fwhat fon : Nat → Int32) (csize ctotal : Int32) (offered : Nat → Option Nat) (cws cwa g_number g_farm g_pig g_first g_begun g_weight g_salted g_heat g_place g_target g_feedAsked g_sealed g_bad g_sold : Nat → Int32) (y : Nat) (p0 : Int32) (p1 : Int32) (p2 : Int32) (p3 : Int32) (p4 : Int32) (hy_y : y ∈ LP) (Q : (Nat → Int32) → (Nat → Int32) → (Nat → Int32) → (Nat → Int32) → (Nat → Int32) → (Nat → Int32) → (Nat → Int32) → (Nat → Int32) → Prop) (h : wp_C_X3_init LP Q g_number g_farm g_pig g_first g_begun g_weight g_place g_target y p0 p1 p2 p3 p4) : Met l yX3_init wsX3_init rm_C_X3_init (va_Pc [.ref y, .int p0, .int p1, .int p2, .int p3, .int p4] (kC dC dI ad A (wA ad cB cI cZ cL LP today legCount legs hung warmth damp wopen tsize bytes rat rtold rwrong numbers asked ftold ffarm ffrom fwhat fon csize ctotal offered cws cwa g_number g_farm g_pig g_first g_begun g_weight g_salted g_heat g_place g_target g_feedAsked g_sealed g_bad g_sold) (kTy cB cI cZ cL))) (pq_C_X3_init dC dI ad cB cI cZ cL A LP today legCount legs hung warmth damp wopen tsize bytes rat rtold rwrong numbers asked ftold ffarm ffrom fwhat fon csize ctotal offered cws cwa g_number g_farm g_pig g_first g_begun g_weight g_salted g_heat g_place g_target g_feedAsked g_sealed g_bad g_sold Q) 0 0 A := by
  refine Met.ofW (cc := cX3_init) (maxL := 6) (ret := none) (by decide) rfl ?_
  intro p e s m args below meth c s₁ B hml hv
  obtain ⟨rfl, hA, hP, hK, hD, hE⟩ := hv
  have hx := B.exec
  have hb := B.bytes
  have hr := B.returns
  have hts := atoms_spec (ws := wsX3_init) B.pre
  have hown : s.vm.findClass RX3 = some m.cls := findClass_of_methodNamed B.named
  have hlocks := B.notSynchronized
  have hS : va_S A s.heap s.heap [] := va_S.rf
  have hin : meth.name = "<init>" := (name_of_methodNamed B.named B.method).1
  have hk_0 := hts (.methodLink RX3 3 objectInit) (by decide +kernel)
  have hk_1 := hts (.instanceMethod objectInit) (by decide +kernel)
  have hk_2 := hts (.code objectInit ⟨#[0xb1]⟩ 1 none) (by decide +kernel)
  have hk_3 := hts (.fieldLink RX3 9 "HamCellar$Leg" "place" "I") (by decide +kernel)
  have hk_4 : ∀ w ∈ wsX30, w ∈ wsX3_init := by decide +kernel
  have hk_5 := hts (.fieldLink RX3 15 "HamCellar$Leg" "target" "I") (by decide +kernel)
  have hk_6 := hts (.fieldLink RX3 18 "HamCellar$Leg" "number" "I") (by decide +kernel)
  have hk_7 := hts (.fieldLink RX3 21 "HamCellar$Leg" "farm" "I") (by decide +kernel)
  have hk_8 := hts (.fieldLink RX3 24 "HamCellar$Leg" "pig" "I") (by decide +kernel)
  have hk_9 := hts (.fieldLink RX3 27 "HamCellar$Leg" "first" "I") (by decide +kernel)
  have hk_10 := hts (.fieldLink RX3 30 "HamCellar$Leg" "begun" "I") (by decide +kernel)
  have hk_11 := hts (.fieldLink RX3 33 "HamCellar$Leg" "weight" "I") (by decide +kernel)
  have hl := lv_entry ([.ref y, .int p0, .int p1, .int p2, .int p3, .int p4]) (n := 6) (Nat.le_of_ble_eq_true rfl)
  rw [lg_entry_eq]
  generalize (lg_sl ([.ref y, .int p0, .int p1, .int p2, .int p3, .int p4]) ++ List.replicate (6 - (lg_sl ([.ref y, .int p0, .int p1, .int p2, .int p3, .int p4])).length) Slot.unset).toArray = ls at hl ⊢
  have hl : lv_has ls 6 [(0, .ref y), (1, .int p0), (2, .int p1), (3, .int p2), (4, .int p3), (5, .int p4)] := hl
  unfold wp_C_X3_init at h
  refine lv_aload_n hx hb dX3_init_0 rfl (lv_at hl 0 rfl) ?_
  refine W.objInit hx hb hown hk_0 hk_1 hk_2 rfl (by rw [hml]; exact hl.1) rfl dX3_init_1 (Nat.le_of_ble_eq_true rfl) (Nat.le_of_ble_eq_true rfl) ?_
  refine W.eq (g2 := F0 m 4 ls []) rfl ?_
  refine lv_aload_n hx hb dX3_init_4 rfl (lv_at hl 0 rfl) ?_
  refine lv_iconst (v := (-1)) hx hb dX3_init_5 (by decide) ?_
  obtain ⟨k_1, hg_k_1⟩ := wA_leg hy_y
  refine va_put (D := (dC, dI)) (ci := 3) (v := .int (-1)) (ty := .int) (C := RX3) (T := TX3) (N := 14) hx hb hts hk_4 tyX3 tyX3_ok nmX3 hown hK hP hD hS k_1 hg_k_1 rfl 8 (by decide) hk_3 (fun _ h9 => h9) rfl (by decide +kernel) rfl rfl (Nat.le_of_ble_eq_true rfl) dX3_init_6 (fun H locs hP2 hD2 hS => ?_)
  have hP : va_P (dC, dI) vwCl (wA ad cB cI cZ cL LP today legCount legs hung warmth damp wopen tsize bytes rat rtold rwrong numbers asked ftold ffarm ffrom fwhat fon csize ctotal offered cws cwa g_number g_farm g_pig g_first g_begun g_weight g_salted g_heat (va_up g_place y (-1)) g_target g_feedAsked g_sealed g_bad g_sold) H := hP_eq (wA_p_g_place hD hy_y hg_k_1) hP2
  have hD : va_D A (wA ad cB cI cZ cL LP today legCount legs hung warmth damp wopen tsize bytes rat rtold rwrong numbers asked ftold ffarm ffrom fwhat fon csize ctotal offered cws cwa g_number g_farm g_pig g_first g_begun g_weight g_salted g_heat (va_up g_place y (-1)) g_target g_feedAsked g_sealed g_bad g_sold) := hD_eq (wA_p_g_place hD hy_y hg_k_1) hD2
  refine lv_aload_n hx hb dX3_init_9 rfl (lv_at hl 0 rfl) ?_
  refine lv_iconst (v := (-1)) hx hb dX3_init_10 (by decide) ?_
  obtain ⟨k_2, hg_k_2⟩ := wA_leg hy_y
  refine va_put (D := (dC, dI)) (ci := 3) (v := .int (-1)) (ty := .int) (C := RX3) (T := TX3) (N := 14) hx hb hts hk_4 tyX3 tyX3_ok nmX3 hown hK hP hD hS k_2 hg_k_2 rfl 9 (by decide) hk_5 (fun _ h9 => h9) rfl (by decide +kernel) rfl rfl (Nat.le_of_ble_eq_true rfl) dX3_init_11 (fun H locs hP2 hD2 hS => ?_)
  have hP : va_P (dC, dI) vwCl (wA ad cB cI cZ cL LP today legCount legs hung warmth damp wopen tsize bytes rat rtold rwrong numbers asked ftold ffarm ffrom fwhat fon csize ctotal offered cws cwa g_number g_farm g_pig g_first g_begun g_weight g_salted g_heat (va_up g_place y (-1)) (va_up g_target y (-1)) g_feedAsked g_sealed g_bad g_sold) H := hP_eq (wA_p_g_target hD hy_y hg_k_2) hP2
  have hD : va_D A (wA ad cB cI cZ cL LP today legCount legs hung warmth damp wopen tsize bytes rat rtold rwrong numbers asked ftold ffarm ffrom fwhat fon csize ctotal offered cws cwa g_number g_farm g_pig g_first g_begun g_weight g_salted g_heat (va_up g_place y (-1)) (va_up g_target y (-1)) g_feedAsked g_sealed g_bad g_sold) := hD_eq (wA_p_g_target hD hy_y hg_k_2) hD2
  refine lv_aload_n hx hb dX3_init_14 rfl (lv_at hl 0 rfl) ?_
  refine lv_iload_n hx hb dX3_init_15 rfl (lv_at hl 1 rfl) ?_
  obtain ⟨k_3, hg_k_3⟩ := wA_leg hy_y
  refine va_putF (D := (dC, dI)) (ci := 3) (v := .int p0) (ty := .int) (C := RX3) (T := TX3) (N := 14) hx hb hts hk_4 tyX3 tyX3_ok nmX3 hown hK hP hD hS k_3 hg_k_3 rfl 0 (by decide) hk_6 (fun _ h9 => h9) (by decide +kernel) hin rfl (by decide +kernel) rfl rfl (Nat.le_of_ble_eq_true rfl) dX3_init_16 (fun H locs hP2 hD2 hS => ?_)
  have hP : va_P (dC, dI) vwCl (wA ad cB cI cZ cL LP today legCount legs hung warmth damp wopen tsize bytes rat rtold rwrong numbers asked ftold ffarm ffrom fwhat fon csize ctotal offered cws cwa (va_up g_number y p0) g_farm g_pig g_first g_begun g_weight g_salted g_heat (va_up g_place y (-1)) (va_up g_target y (-1)) g_feedAsked g_sealed g_bad g_sold) H := hP_eq (wA_p_g_number hD hy_y hg_k_3) hP2
  have hD : va_D A (wA ad cB cI cZ cL LP today legCount legs hung warmth damp wopen tsize bytes rat rtold rwrong numbers asked ftold ffarm ffrom fwhat fon csize ctotal offered cws cwa (va_up g_number y p0) g_farm g_pig g_first g_begun g_weight g_salted g_heat (va_up g_place y (-1)) (va_up g_target y (-1)) g_feedAsked g_sealed g_bad g_sold) := hD_eq (wA_p_g_number hD hy_y hg_k_3) hD2
  refine lv_aload_n hx hb dX3_init_19 rfl (lv_at hl 0 rfl) ?_
  refine lv_iload_n hx hb dX3_init_20 rfl (lv_at hl 2 rfl) ?_
  obtain ⟨k_4, hg_k_4⟩ := wA_leg hy_y
  refine va_putF (D := (dC, dI)) (ci := 3) (v := .int p1) (ty := .int) (C := RX3) (T := TX3) (N := 14) hx hb hts hk_4 tyX3 tyX3_ok nmX3 hown hK hP hD hS k_4 hg_k_4 rfl 1 (by decide) hk_7 (fun _ h9 => h9) (by decide +kernel) hin rfl (by decide +kernel) rfl rfl (Nat.le_of_ble_eq_true rfl) dX3_init_21 (fun H locs hP2 hD2 hS => ?_)
  have hP : va_P (dC, dI) vwCl (wA ad cB cI cZ cL LP today legCount legs hung warmth damp wopen tsize bytes rat rtold rwrong numbers asked ftold ffarm ffrom fwhat fon csize ctotal offered cws cwa (va_up g_number y p0) (va_up g_farm y p1) g_pig g_first g_begun g_weight g_salted g_heat (va_up g_place y (-1)) (va_up g_target y (-1)) g_feedAsked g_sealed g_bad g_sold) H := hP_eq (wA_p_g_farm hD hy_y hg_k_4) hP2
  have hD : va_D A (wA ad cB cI cZ cL LP today legCount legs hung warmth damp wopen tsize bytes rat rtold rwrong numbers asked ftold ffarm ffrom fwhat fon csize ctotal offered cws cwa (va_up g_number y p0) (va_up g_farm y p1) g_pig g_first g_begun g_weight g_salted g_heat (va_up g_place y (-1)) (va_up g_target y (-1)) g_feedAsked g_sealed g_bad g_sold) := hD_eq (wA_p_g_farm hD hy_y hg_k_4) hD2
  refine lv_aload_n hx hb dX3_init_24 rfl (lv_at hl 0 rfl) ?_
  refine lv_iload_n hx hb dX3_init_25 rfl (lv_at hl 3 rfl) ?_
  obtain ⟨k_5, hg_k_5⟩ := wA_leg hy_y
  refine va_putF (D := (dC, dI)) (ci := 3) (v := .int p2) (ty := .int) (C := RX3) (T := TX3) (N := 14) hx hb hts hk_4 tyX3 tyX3_ok nmX3 hown hK hP hD hS k_5 hg_k_5 rfl 2 (by decide) hk_8 (fun _ h9 => h9) (by decide +kernel) hin rfl (by decide +kernel) rfl rfl (Nat.le_of_ble_eq_true rfl) dX3_init_26 (fun H locs hP2 hD2 hS => ?_)
  have hP : va_P (dC, dI) vwCl (wA ad cB cI cZ cL LP today legCount legs hung warmth damp wopen tsize bytes rat rtold rwrong numbers asked ftold ffarm ffrom fwhat fon csize ctotal offered cws cwa (va_up g_number y p0) (va_up g_farm y p1) (va_up g_pig y p2) g_first g_begun g_weight g_salted g_heat (va_up g_place y (-1)) (va_up g_target y (-1)) g_feedAsked g_sealed g_bad g_sold) H := hP_eq (wA_p_g_pig hD hy_y hg_k_5) hP2
  have hD : va_D A (wA ad cB cI cZ cL LP today legCount legs hung warmth damp wopen tsize bytes rat rtold rwrong numbers asked ftold ffarm ffrom fwhat fon csize ctotal offered cws cwa (va_up g_number y p0) (va_up g_farm y p1) (va_up g_pig y p2) g_first g_begun g_weight g_salted g_heat (va_up g_place y (-1)) (va_up g_target y (-1)) g_feedAsked g_sealed g_bad g_sold) := hD_eq (wA_p_g_pig hD hy_y hg_k_5) hD2
  refine lv_aload_n hx hb dX3_init_29 rfl (lv_at hl 0 rfl) ?_
  refine lv_iload hx hb dX3_init_30 (lv_at hl 4 rfl) ?_
  obtain ⟨k_6, hg_k_6⟩ := wA_leg hy_y
  refine va_putF (D := (dC, dI)) (ci := 3) (v := .int p3) (ty := .int) (C := RX3) (T := TX3) (N := 14) hx hb hts hk_4 tyX3 tyX3_ok nmX3 hown hK hP hD hS k_6 hg_k_6 rfl 3 (by decide) hk_9 (fun _ h9 => h9) (by decide +kernel) hin rfl (by decide +kernel) rfl rfl (Nat.le_of_ble_eq_true rfl) dX3_init_32 (fun H locs hP2 hD2 hS => ?_)
  have hP : va_P (dC, dI) vwCl (wA ad cB cI cZ cL LP today legCount legs hung warmth damp wopen tsize bytes rat rtold rwrong numbers asked ftold ffarm ffrom fwhat fon csize ctotal offered cws cwa (va_up g_number y p0) (va_up g_farm y p1) (va_up g_pig y p2) (va_up g_first y p3) g_begun g_weight g_salted g_heat (va_up g_place y (-1)) (va_up g_target y (-1)) g_feedAsked g_sealed g_bad g_sold) H := hP_eq (wA_p_g_first hD hy_y hg_k_6) hP2
  have hD : va_D A (wA ad cB cI cZ cL LP today legCount legs hung warmth damp wopen tsize bytes rat rtold rwrong numbers asked ftold ffarm ffrom fwhat fon csize ctotal offered cws cwa (va_up g_number y p0) (va_up g_farm y p1) (va_up g_pig y p2) (va_up g_first y p3) g_begun g_weight g_salted g_heat (va_up g_place y (-1)) (va_up g_target y (-1)) g_feedAsked g_sealed g_bad g_sold) := hD_eq (wA_p_g_first hD hy_y hg_k_6) hD2
  refine lv_aload_n hx hb dX3_init_35 rfl (lv_at hl 0 rfl) ?_
  refine lv_iload hx hb dX3_init_36 (lv_at hl 5 rfl) ?_
  obtain ⟨k_7, hg_k_7⟩ := wA_leg hy_y
  refine va_putF (D := (dC, dI)) (ci := 3) (v := .int p4) (ty := .int) (C := RX3) (T := TX3) (N := 14) hx hb hts hk_4 tyX3 tyX3_ok nmX3 hown hK hP hD hS k_7 hg_k_7 rfl 4 (by decide) hk_10 (fun _ h9 => h9) (by decide +kernel) hin rfl (by decide +kernel) rfl rfl (Nat.le_of_ble_eq_true rfl) dX3_init_38 (fun H locs hP2 hD2 hS => ?_)
  have hP : va_P (dC, dI) vwCl (wA ad cB cI cZ cL LP today legCount legs hung warmth damp wopen tsize bytes rat rtold rwrong numbers asked ftold ffarm ffrom fwhat fon csize ctotal offered cws cwa (va_up g_number y p0) (va_up g_farm y p1) (va_up g_pig y p2) (va_up g_first y p3) (va_up g_begun y p4) g_weight g_salted g_heat (va_up g_place y (-1)) (va_up g_target y (-1)) g_feedAsked g_sealed g_bad g_sold) H := hP_eq (wA_p_g_begun hD hy_y hg_k_7) hP2
  have hD : va_D A (wA ad cB cI cZ cL LP today legCount legs hung warmth damp wopen tsize bytes rat rtold rwrong numbers asked ftold ffarm ffrom fwhat fon csize ctotal offered cws cwa (va_up g_number y p0) (va_up g_farm y p1) (va_up g_pig y p2) (va_up g_first y p3) (va_up g_begun y p4) g_weight g_salted g_heat (va_up g_place y (-1)) (va_up g_target y (-1)) g_feedAsked g_sealed g_bad g_sold) := hD_eq (wA_p_g_begun hD hy_y hg_k_7) hD2
  refine lv_aload_n hx hb dX3_init_41 rfl (lv_at hl 0 rfl) ?_
  refine lv_iload hx hb dX3_init_42 (lv_at hl 4 rfl) ?_
  obtain ⟨k_8, hg_k_8⟩ := wA_leg hy_y
  refine va_put (D := (dC, dI)) (ci := 3) (v := .int p3) (ty := .int) (C := RX3) (T := TX3) (N := 14) hx hb hts hk_4 tyX3 tyX3_ok nmX3 hown hK hP hD hS k_8 hg_k_8 rfl 5 (by decide) hk_11 (fun _ h9 => h9) rfl (by decide +kernel) rfl rfl (Nat.le_of_ble_eq_true rfl) dX3_init_44 (fun H locs hP2 hD2 hS => ?_)
  have hP : va_P (dC, dI) vwCl (wA ad cB cI cZ cL LP today legCount legs hung warmth damp wopen tsize bytes rat rtold rwrong numbers asked ftold ffarm ffrom fwhat fon csize ctotal offered cws cwa (va_up g_number y p0) (va_up g_farm y p1) (va_up g_pig y p2) (va_up g_first y p3) (va_up g_begun y p4) (va_up g_weight y p3) g_salted g_heat (va_up g_place y (-1)) (va_up g_target y (-1)) g_feedAsked g_sealed g_bad g_sold) H := hP_eq (wA_p_g_weight hD hy_y hg_k_8) hP2
  have hD : va_D A (wA ad cB cI cZ cL LP today legCount legs hung warmth damp wopen tsize bytes rat rtold rwrong numbers asked ftold ffarm ffrom fwhat fon csize ctotal offered cws cwa (va_up g_number y p0) (va_up g_farm y p1) (va_up g_pig y p2) (va_up g_first y p3) (va_up g_begun y p4) (va_up g_weight y p3) g_salted g_heat (va_up g_place y (-1)) (va_up g_target y (-1)) g_feedAsked g_sealed g_bad g_sold) := hD_eq (wA_p_g_weight hD hy_y hg_k_8) hD2
  exact W.vret hx hb hr (fun t ht hW => ⟨⟨(va_up g_number y p0, va_up g_farm y p1, va_up g_pig y p2, va_up g_first y p3, va_up g_begun y p4, va_up g_weight y p3, va_up g_place y (-1), va_up g_target y (-1)), rfl, h, kB_mk hP hK hD ht hW.alike⟩, hS.F ht⟩) hS.2.2 dX3_init_47
def wp_C_X3_hangs (LP : List Nat) (g_place : Nat → Int32) (Q : Int32 → Prop) (y : Nat) : Prop := (((g_place y) = (-1) → (o01 0 ∧ Q 0 )) ∧ (¬ ((g_place y) = (-1)) → (o01 1 ∧ Q 1 )))
def rm_C_X3_hangs : Room := { frames := 0, cells := 0, slots := 0, locals := 0 }
abbrev pq_C_X3_hangs (dC : Nat → ClassId) (dI : Nat → Nat → Nat) (ad : Nat → Nat) (cB cI cZ cL : ClassId) (A : Nat → Prop) (LP : List Nat) (today legCount : Int32) (legs hung : Nat → Option Nat) (warmth damp wopen : Nat → Int32) (tsize : Int32) (bytes : Nat → Int32) (rat rtold rwrong : Int32) (numbers asked : Nat → Int32) (ftold : Int32) (ffarm ffrom fwhat fon : Nat → Int32) (csize ctotal : Int32) (offered : Nat → Option Nat) (cws cwa g_number g_farm g_pig g_first g_begun g_weight g_salted g_heat g_place g_target g_feedAsked g_sealed g_bad g_sold : Nat → Int32) (Q : Int32 → Prop) : Array Value → State → Outcome → State → Prop := va_Qi (fun (r : Int32) (u : Unit) => Q r ) (fun u t => kB dC dI A (wA ad cB cI cZ cL LP today legCount legs hung warmth damp wopen tsize bytes rat rtold rwrong numbers asked ftold ffarm ffrom fwhat fon csize ctotal offered cws cwa g_number g_farm g_pig g_first g_begun g_weight g_salted g_heat g_place g_target g_feedAsked g_sealed g_bad g_sold) (kTy cB cI cZ cL) t) A
set_option maxHeartbeats 4000000 in
set_option maxRecDepth 100000 in
theorem c_C_X3_hangs (l : Launch) (dC : Nat → ClassId) (dI : Nat → Nat → Nat) (ad : Nat → Nat) (cB cI cZ cL : ClassId) (A : Nat → Prop) (LP : List Nat) (today legCount : Int32) (legs hung : Nat → Option Nat) (warmth damp wopen : Nat → Int32) (tsize : Int32) (bytes : Nat → Int32) (rat rtold rwrong : Int32) (numbers asked : Nat → Int32) (ftold : Int32) (ffarm ffrom fwhat fon : Nat → Int32) (csize ctotal : Int32) (offered : Nat → Option Nat) (cws cwa g_number g_farm g_pig g_first g_begun g_weight g_salted g_heat g_place g_target g_feedAsked g_sealed g_bad g_sold : Nat → Int32) (y : Nat) (hy_y : y ∈ LP) (Q : Int32 → Prop) (h : wp_C_X3_hangs LP g_place Q y) : Met l yX3_hangs wsX3_hangs rm_C_X3_hangs (va_Pc [.ref y] (kC dC dI ad A (wA ad cB cI cZ cL LP today legCount legs hung warmth damp wopen tsize bytes rat rtold rwrong numbers asked ftold ffarm ffrom fwhat fon csize ctotal offered cws cwa g_number g_farm g_pig g_first g_begun g_weight g_salted g_heat g_place g_target g_feedAsked g_sealed g_bad g_sold) (kTy cB cI cZ cL))) (pq_C_X3_hangs dC dI ad cB cI cZ cL A LP today legCount legs hung warmth damp wopen tsize bytes rat rtold rwrong numbers asked ftold ffarm ffrom fwhat fon csize ctotal offered cws cwa g_number g_farm g_pig g_first g_begun g_weight g_salted g_heat g_place g_target g_feedAsked g_sealed g_bad g_sold Q) 0 0 A := by
  refine Met.ofW (cc := cX3_hangs) (maxL := 1) (ret := (some .boolean)) (by decide) rfl ?_
  intro p e s m args below meth c s₁ B hml hv
  obtain ⟨rfl, hA, hP, hK, hD, hE⟩ := hv
  have hx := B.exec
  have hb := B.bytes
  have hr := B.returns
  have hts := atoms_spec (ws := wsX3_hangs) B.pre
  have hown : s.vm.findClass RX3 = some m.cls := findClass_of_methodNamed B.named
  have hlocks := B.notSynchronized
  have hS : va_S A s.heap s.heap [] := va_S.rf
  have hk_0 := hts (.fieldLink RX3 9 "HamCellar$Leg" "place" "I") (by decide +kernel)
  have hk_1 : ∀ w ∈ wsX30, w ∈ wsX3_hangs := by decide +kernel
  have hl := lv_entry ([.ref y]) (n := 1) (Nat.le_of_ble_eq_true rfl)
  rw [lg_entry_eq]
  generalize (lg_sl ([.ref y]) ++ List.replicate (1 - (lg_sl ([.ref y])).length) Slot.unset).toArray = ls at hl ⊢
  have hl : lv_has ls 1 [(0, .ref y)] := hl
  unfold wp_C_X3_hangs at h
  refine lv_aload_n hx hb dX3_hangs_0 rfl (lv_at hl 0 rfl) ?_
  obtain ⟨k_1, hg_k_1⟩ := wA_leg hy_y
  refine va_get (D := (dC, dI)) (ci := 3) (v := .int (g_place y)) (C := RX3) (T := TX3) (N := 14) hx hb hts hk_1 hown hK hP k_1 hg_k_1 rfl 8 (by decide) hk_0 (fun _ h9 => h9) rfl dX3_hangs_1 ?_
  refine lv_iconst (v := (-1)) hx hb dX3_hangs_4 (by decide) ?_
  refine lv_icmp_eq (tgt := 12) hx hb dX3_hangs_5 (by decide) (fun c_2 => ?_) (fun c_2 => ?_)
  · have h := h.1 c_2
    refine lv_iconst (v := 0) hx hb dX3_hangs_12 (by decide) ?_
    exact W.zret (v := 0) (ty := .boolean) hx hb hr (z01 h.1) (fun t ht hW => ⟨⟨0, (), rfl, h.2, kB_mk hP hK hD ht hW.alike⟩, hS.F ht⟩) hS.2.2 dX3_hangs_13
  · have h := h.2 c_2
    refine lv_iconst (v := 1) hx hb dX3_hangs_8 (by decide) ?_
    refine lv_goto (tgt := 13) hx hb dX3_hangs_9 (by decide) ?_
    exact W.zret (v := 1) (ty := .boolean) hx hb hr (z01 h.1) (fun t ht hW => ⟨⟨1, (), rfl, h.2, kB_mk hP hK hD ht hW.alike⟩, hS.F ht⟩) hS.2.2 dX3_hangs_13
def wp_C_X3_hangsInAir (LP : List Nat) (g_place : Nat → Int32) (Q : Int32 → Prop) (y : Nat) : Prop := (((g_place y) < 10 → (o01 0 ∧ Q 0 )) ∧ (¬ ((g_place y) < 10) → (o01 1 ∧ Q 1 )))
def rm_C_X3_hangsInAir : Room := { frames := 0, cells := 0, slots := 0, locals := 0 }
abbrev pq_C_X3_hangsInAir (dC : Nat → ClassId) (dI : Nat → Nat → Nat) (ad : Nat → Nat) (cB cI cZ cL : ClassId) (A : Nat → Prop) (LP : List Nat) (today legCount : Int32) (legs hung : Nat → Option Nat) (warmth damp wopen : Nat → Int32) (tsize : Int32) (bytes : Nat → Int32) (rat rtold rwrong : Int32) (numbers asked : Nat → Int32) (ftold : Int32) (ffarm ffrom fwhat fon : Nat → Int32) (csize ctotal : Int32) (offered : Nat → Option Nat) (cws cwa g_number g_farm g_pig g_first g_begun g_weight g_salted g_heat g_place g_target g_feedAsked g_sealed g_bad g_sold : Nat → Int32) (Q : Int32 → Prop) : Array Value → State → Outcome → State → Prop := va_Qi (fun (r : Int32) (u : Unit) => Q r ) (fun u t => kB dC dI A (wA ad cB cI cZ cL LP today legCount legs hung warmth damp wopen tsize bytes rat rtold rwrong numbers asked ftold ffarm ffrom fwhat fon csize ctotal offered cws cwa g_number g_farm g_pig g_first g_begun g_weight g_salted g_heat g_place g_target g_feedAsked g_sealed g_bad g_sold) (kTy cB cI cZ cL) t) A
set_option maxHeartbeats 4000000 in
set_option maxRecDepth 100000 in
theorem c_C_X3_hangsInAir (l : Launch) (dC : Nat → ClassId) (dI : Nat → Nat → Nat) (ad : Nat → Nat) (cB cI cZ cL : ClassId) (A : Nat → Prop) (LP : List Nat) (today legCount : Int32) (legs hung : Nat → Option Nat) (warmth damp wopen : Nat → Int32) (tsize : Int32) (bytes : Nat → Int32) (rat rtold rwrong : Int32) (numbers asked : Nat → Int32) (ftold : Int32) (ffarm ffrom fwhat fon : Nat → Int32) (csize ctotal : Int32) (offered : Nat → Option Nat) (cws cwa g_number g_farm g_pig g_first g_begun g_weight g_salted g_heat g_place g_target g_feedAsked g_sealed g_bad g_sold : Nat → Int32) (y : Nat) (hy_y : y ∈ LP) (Q : Int32 → Prop) (h : wp_C_X3_hangsInAir LP g_place Q y) : Met l yX3_hangsInAir wsX3_hangsInAir rm_C_X3_hangsInAir (va_Pc [.ref y] (kC dC dI ad A (wA ad cB cI cZ cL LP today legCount legs hung warmth damp wopen tsize bytes rat rtold rwrong numbers asked ftold ffarm ffrom fwhat fon csize ctotal offered cws cwa g_number g_farm g_pig g_first g_begun g_weight g_salted g_heat g_place g_target g_feedAsked g_sealed g_bad g_sold) (kTy cB cI cZ cL))) (pq_C_X3_hangsInAir dC dI ad cB cI cZ cL A LP today legCount legs hung warmth damp wopen tsize bytes rat rtold rwrong numbers asked ftold ffarm ffrom fwhat fon csize ctotal offered cws cwa g_number g_farm g_pig g_first g_begun g_weight g_salted g_heat g_place g_target g_feedAsked g_sealed g_bad g_sold Q) 0 0 A := by
  refine Met.ofW (cc := cX3_hangsInAir) (maxL := 1) (ret := (some .boolean)) (by decide) rfl ?_
  intro p e s m args below meth c s₁ B hml hv
  obtain ⟨rfl, hA, hP, hK, hD, hE⟩ := hv
  have hx := B.exec
  have hb := B.bytes
  have hr := B.returns
  have hts := atoms_spec (ws := wsX3_hangsInAir) B.pre
  have hown : s.vm.findClass RX3 = some m.cls := findClass_of_methodNamed B.named
  have hlocks := B.notSynchronized
  have hS : va_S A s.heap s.heap [] := va_S.rf
  have hk_0 := hts (.fieldLink RX3 9 "HamCellar$Leg" "place" "I") (by decide +kernel)
  have hk_1 : ∀ w ∈ wsX30, w ∈ wsX3_hangsInAir := by decide +kernel
  have hl := lv_entry ([.ref y]) (n := 1) (Nat.le_of_ble_eq_true rfl)
  rw [lg_entry_eq]
  generalize (lg_sl ([.ref y]) ++ List.replicate (1 - (lg_sl ([.ref y])).length) Slot.unset).toArray = ls at hl ⊢
  have hl : lv_has ls 1 [(0, .ref y)] := hl
  unfold wp_C_X3_hangsInAir at h
  refine lv_aload_n hx hb dX3_hangsInAir_0 rfl (lv_at hl 0 rfl) ?_
  obtain ⟨k_1, hg_k_1⟩ := wA_leg hy_y
  refine va_get (D := (dC, dI)) (ci := 3) (v := .int (g_place y)) (C := RX3) (T := TX3) (N := 14) hx hb hts hk_1 hown hK hP k_1 hg_k_1 rfl 8 (by decide) hk_0 (fun _ h9 => h9) rfl dX3_hangsInAir_1 ?_
  refine lv_bipush (v := 10) hx hb dX3_hangsInAir_4 (by decide) ?_
  refine lv_icmp_lt (tgt := 13) hx hb dX3_hangsInAir_6 (by decide) (fun c_2 => ?_) (fun c_2 => ?_)
  · have h := h.1 c_2
    refine lv_iconst (v := 0) hx hb dX3_hangsInAir_13 (by decide) ?_
    exact W.zret (v := 0) (ty := .boolean) hx hb hr (z01 h.1) (fun t ht hW => ⟨⟨0, (), rfl, h.2, kB_mk hP hK hD ht hW.alike⟩, hS.F ht⟩) hS.2.2 dX3_hangsInAir_14
  · have h := h.2 c_2
    refine lv_iconst (v := 1) hx hb dX3_hangsInAir_9 (by decide) ?_
    refine lv_goto (tgt := 14) hx hb dX3_hangsInAir_10 (by decide) ?_
    exact W.zret (v := 1) (ty := .boolean) hx hb hr (z01 h.1) (fun t ht hW => ⟨⟨1, (), rfl, h.2, kB_mk hP hK hD ht hW.alike⟩, hS.F ht⟩) hS.2.2 dX3_hangsInAir_14
def wp_C_X3_room (LP : List Nat) (g_place : Nat → Int32) (Q : Int32 → Prop) (y : Nat) : Prop := ((¬ (g_place y) = (-1) → Q ((g_place y) / 10)) ∧ ((g_place y) = (-1) → Q (-1)))
def rm_C_X3_room : Room := { frames := 0, cells := 0, slots := 0, locals := 0 }
abbrev pq_C_X3_room (dC : Nat → ClassId) (dI : Nat → Nat → Nat) (ad : Nat → Nat) (cB cI cZ cL : ClassId) (A : Nat → Prop) (LP : List Nat) (today legCount : Int32) (legs hung : Nat → Option Nat) (warmth damp wopen : Nat → Int32) (tsize : Int32) (bytes : Nat → Int32) (rat rtold rwrong : Int32) (numbers asked : Nat → Int32) (ftold : Int32) (ffarm ffrom fwhat fon : Nat → Int32) (csize ctotal : Int32) (offered : Nat → Option Nat) (cws cwa g_number g_farm g_pig g_first g_begun g_weight g_salted g_heat g_place g_target g_feedAsked g_sealed g_bad g_sold : Nat → Int32) (Q : Int32 → Prop) : Array Value → State → Outcome → State → Prop := va_Qi (fun (r : Int32) (u : Unit) => Q r ) (fun u t => kB dC dI A (wA ad cB cI cZ cL LP today legCount legs hung warmth damp wopen tsize bytes rat rtold rwrong numbers asked ftold ffarm ffrom fwhat fon csize ctotal offered cws cwa g_number g_farm g_pig g_first g_begun g_weight g_salted g_heat g_place g_target g_feedAsked g_sealed g_bad g_sold) (kTy cB cI cZ cL) t) A
set_option maxHeartbeats 4000000 in
set_option maxRecDepth 100000 in
theorem c_C_X3_room (l : Launch) (dC : Nat → ClassId) (dI : Nat → Nat → Nat) (ad : Nat → Nat) (cB cI cZ cL : ClassId) (A : Nat → Prop) (LP : List Nat) (today legCount : Int32) (legs hung : Nat → Option Nat) (warmth damp wopen : Nat → Int32) (tsize : Int32) (bytes : Nat → Int32) (rat rtold rwrong : Int32) (numbers asked : Nat → Int32) (ftold : Int32) (ffarm ffrom fwhat fon : Nat → Int32) (csize ctotal : Int32) (offered : Nat → Option Nat) (cws cwa g_number g_farm g_pig g_first g_begun g_weight g_salted g_heat g_place g_target g_feedAsked g_sealed g_bad g_sold : Nat → Int32) (y : Nat) (hy_y : y ∈ LP) (Q : Int32 → Prop) (h : wp_C_X3_room LP g_place Q y) : Met l yX3_room wsX3_room rm_C_X3_room (va_Pc [.ref y] (kC dC dI ad A (wA ad cB cI cZ cL LP today legCount legs hung warmth damp wopen tsize bytes rat rtold rwrong numbers asked ftold ffarm ffrom fwhat fon csize ctotal offered cws cwa g_number g_farm g_pig g_first g_begun g_weight g_salted g_heat g_place g_target g_feedAsked g_sealed g_bad g_sold) (kTy cB cI cZ cL))) (pq_C_X3_room dC dI ad cB cI cZ cL A LP today legCount legs hung warmth damp wopen tsize bytes rat rtold rwrong numbers asked ftold ffarm ffrom fwhat fon csize ctotal offered cws cwa g_number g_farm g_pig g_first g_begun g_weight g_salted g_heat g_place g_target g_feedAsked g_sealed g_bad g_sold Q) 0 0 A := by
  refine Met.ofW (cc := cX3_room) (maxL := 1) (ret := (some .int)) (by decide) rfl ?_
  intro p e s m args below meth c s₁ B hml hv
  obtain ⟨rfl, hA, hP, hK, hD, hE⟩ := hv
  have hx := B.exec
  have hb := B.bytes
  have hr := B.returns
  have hts := atoms_spec (ws := wsX3_room) B.pre
  have hown : s.vm.findClass RX3 = some m.cls := findClass_of_methodNamed B.named
  have hlocks := B.notSynchronized
  have hS : va_S A s.heap s.heap [] := va_S.rf
  have hk_0 := hts (.fieldLink RX3 9 "HamCellar$Leg" "place" "I") (by decide +kernel)
  have hk_1 : ∀ w ∈ wsX30, w ∈ wsX3_room := by decide +kernel
  have hl := lv_entry ([.ref y]) (n := 1) (Nat.le_of_ble_eq_true rfl)
  rw [lg_entry_eq]
  generalize (lg_sl ([.ref y]) ++ List.replicate (1 - (lg_sl ([.ref y])).length) Slot.unset).toArray = ls at hl ⊢
  have hl : lv_has ls 1 [(0, .ref y)] := hl
  unfold wp_C_X3_room at h
  refine lv_aload_n hx hb dX3_room_0 rfl (lv_at hl 0 rfl) ?_
  obtain ⟨k_1, hg_k_1⟩ := wA_leg hy_y
  refine va_get (D := (dC, dI)) (ci := 3) (v := .int (g_place y)) (C := RX3) (T := TX3) (N := 14) hx hb hts hk_1 hown hK hP k_1 hg_k_1 rfl 8 (by decide) hk_0 (fun _ h9 => h9) rfl dX3_room_1 ?_
  refine lv_iconst (v := (-1)) hx hb dX3_room_4 (by decide) ?_
  refine lv_icmp_ne (tgt := 12) hx hb dX3_room_5 (by decide) (fun c_2 => ?_) (fun c_2 => ?_)
  · have h := h.1 c_2
    refine lv_aload_n hx hb dX3_room_12 rfl (lv_at hl 0 rfl) ?_
    obtain ⟨k_3, hg_k_3⟩ := wA_leg hy_y
    refine va_get (D := (dC, dI)) (ci := 3) (v := .int (g_place y)) (C := RX3) (T := TX3) (N := 14) hx hb hts hk_1 hown hK hP k_3 hg_k_3 rfl 8 (by decide) hk_0 (fun _ h9 => h9) rfl dX3_room_13 ?_
    refine lv_bipush (v := 10) hx hb dX3_room_16 (by decide) ?_
    refine lv_idiv hx hb dX3_room_18 (by decide) ?_
    exact W.iret (v := (g_place y) / 10) hx hb hr (fun t ht hW => ⟨⟨(g_place y) / 10, (), rfl, h, kB_mk hP hK hD ht hW.alike⟩, hS.F ht⟩) hS.2.2 dX3_room_19
  · have h := h.2 c_2
    refine lv_iconst (v := (-1)) hx hb dX3_room_8 (by decide) ?_
    refine lv_goto (tgt := 19) hx hb dX3_room_9 (by decide) ?_
    exact W.iret (v := (-1)) hx hb hr (fun t ht hW => ⟨⟨(-1), (), rfl, h, kB_mk hP hK hD ht hW.alike⟩, hS.F ht⟩) hS.2.2 dX3_room_19
def wp_C_X3_hook (LP : List Nat) (g_place : Nat → Int32) (Q : Int32 → Prop) (y : Nat) : Prop := ((¬ (g_place y) = (-1) → Q ((g_place y) - (g_place y) / 10 * 10)) ∧ ((g_place y) = (-1) → Q (-1)))
def rm_C_X3_hook : Room := { frames := 0, cells := 0, slots := 0, locals := 0 }
abbrev pq_C_X3_hook (dC : Nat → ClassId) (dI : Nat → Nat → Nat) (ad : Nat → Nat) (cB cI cZ cL : ClassId) (A : Nat → Prop) (LP : List Nat) (today legCount : Int32) (legs hung : Nat → Option Nat) (warmth damp wopen : Nat → Int32) (tsize : Int32) (bytes : Nat → Int32) (rat rtold rwrong : Int32) (numbers asked : Nat → Int32) (ftold : Int32) (ffarm ffrom fwhat fon : Nat → Int32) (csize ctotal : Int32) (offered : Nat → Option Nat) (cws cwa g_number g_farm g_pig g_first g_begun g_weight g_salted g_heat g_place g_target g_feedAsked g_sealed g_bad g_sold : Nat → Int32) (Q : Int32 → Prop) : Array Value → State → Outcome → State → Prop := va_Qi (fun (r : Int32) (u : Unit) => Q r ) (fun u t => kB dC dI A (wA ad cB cI cZ cL LP today legCount legs hung warmth damp wopen tsize bytes rat rtold rwrong numbers asked ftold ffarm ffrom fwhat fon csize ctotal offered cws cwa g_number g_farm g_pig g_first g_begun g_weight g_salted g_heat g_place g_target g_feedAsked g_sealed g_bad g_sold) (kTy cB cI cZ cL) t) A
set_option maxHeartbeats 4000000 in
set_option maxRecDepth 100000 in
theorem c_C_X3_hook (l : Launch) (dC : Nat → ClassId) (dI : Nat → Nat → Nat) (ad : Nat → Nat) (cB cI cZ cL : ClassId) (A : Nat → Prop) (LP : List Nat) (today legCount : Int32) (legs hung : Nat → Option Nat) (warmth damp wopen : Nat → Int32) (tsize : Int32) (bytes : Nat → Int32) (rat rtold rwrong : Int32) (numbers asked : Nat → Int32) (ftold : Int32) (ffarm ffrom fwhat fon : Nat → Int32) (csize ctotal : Int32) (offered : Nat → Option Nat) (cws cwa g_number g_farm g_pig g_first g_begun g_weight g_salted g_heat g_place g_target g_feedAsked g_sealed g_bad g_sold : Nat → Int32) (y : Nat) (hy_y : y ∈ LP) (Q : Int32 → Prop) (h : wp_C_X3_hook LP g_place Q y) : Met l yX3_hook wsX3_hook rm_C_X3_hook (va_Pc [.ref y] (kC dC dI ad A (wA ad cB cI cZ cL LP today legCount legs hung warmth damp wopen tsize bytes rat rtold rwrong numbers asked ftold ffarm ffrom fwhat fon csize ctotal offered cws cwa g_number g_farm g_pig g_first g_begun g_weight g_salted g_heat g_place g_target g_feedAsked g_sealed g_bad g_sold) (kTy cB cI cZ cL))) (pq_C_X3_hook dC dI ad cB cI cZ cL A LP today legCount legs hung warmth damp wopen tsize bytes rat rtold rwrong numbers asked ftold ffarm ffrom fwhat fon csize ctotal offered cws cwa g_number g_farm g_pig g_first g_begun g_weight g_salted g_heat g_place g_target g_feedAsked g_sealed g_bad g_sold Q) 0 0 A := by
  refine Met.ofW (cc := cX3_hook) (maxL := 1) (ret := (some .int)) (by decide) rfl ?_
  intro p e s m args below meth c s₁ B hml hv
  obtain ⟨rfl, hA, hP, hK, hD, hE⟩ := hv
  have hx := B.exec
  have hb := B.bytes
  have hr := B.returns
  have hts := atoms_spec (ws := wsX3_hook) B.pre
  have hown : s.vm.findClass RX3 = some m.cls := findClass_of_methodNamed B.named
  have hlocks := B.notSynchronized
  have hS : va_S A s.heap s.heap [] := va_S.rf
  have hk_0 := hts (.fieldLink RX3 9 "HamCellar$Leg" "place" "I") (by decide +kernel)
  have hk_1 : ∀ w ∈ wsX30, w ∈ wsX3_hook := by decide +kernel
  have hl := lv_entry ([.ref y]) (n := 1) (Nat.le_of_ble_eq_true rfl)
  rw [lg_entry_eq]
  generalize (lg_sl ([.ref y]) ++ List.replicate (1 - (lg_sl ([.ref y])).length) Slot.unset).toArray = ls at hl ⊢
  have hl : lv_has ls 1 [(0, .ref y)] := hl
  unfold wp_C_X3_hook at h
  refine lv_aload_n hx hb dX3_hook_0 rfl (lv_at hl 0 rfl) ?_
  obtain ⟨k_1, hg_k_1⟩ := wA_leg hy_y
  refine va_get (D := (dC, dI)) (ci := 3) (v := .int (g_place y)) (C := RX3) (T := TX3) (N := 14) hx hb hts hk_1 hown hK hP k_1 hg_k_1 rfl 8 (by decide) hk_0 (fun _ h9 => h9) rfl dX3_hook_1 ?_
  refine lv_iconst (v := (-1)) hx hb dX3_hook_4 (by decide) ?_
  refine lv_icmp_ne (tgt := 12) hx hb dX3_hook_5 (by decide) (fun c_2 => ?_) (fun c_2 => ?_)
  · have h := h.1 c_2
    refine lv_aload_n hx hb dX3_hook_12 rfl (lv_at hl 0 rfl) ?_
    obtain ⟨k_3, hg_k_3⟩ := wA_leg hy_y
    refine va_get (D := (dC, dI)) (ci := 3) (v := .int (g_place y)) (C := RX3) (T := TX3) (N := 14) hx hb hts hk_1 hown hK hP k_3 hg_k_3 rfl 8 (by decide) hk_0 (fun _ h9 => h9) rfl dX3_hook_13 ?_
    refine lv_bipush (v := 10) hx hb dX3_hook_16 (by decide) ?_
    refine lv_irem hx hb dX3_hook_18 (by decide) ?_
    exact W.iret (v := (g_place y) - (g_place y) / 10 * 10) hx hb hr (fun t ht hW => ⟨⟨(g_place y) - (g_place y) / 10 * 10, (), rfl, h, kB_mk hP hK hD ht hW.alike⟩, hS.F ht⟩) hS.2.2 dX3_hook_19
  · have h := h.2 c_2
    refine lv_iconst (v := (-1)) hx hb dX3_hook_8 (by decide) ?_
    refine lv_goto (tgt := 19) hx hb dX3_hook_9 (by decide) ?_
    exact W.iret (v := (-1)) hx hb hr (fun t ht hW => ⟨⟨(-1), (), rfl, h, kB_mk hP hK hD ht hW.alike⟩, hS.F ht⟩) hS.2.2 dX3_hook_19
def wp_C_X3_lieInSalt (LP : List Nat) (Q : (Nat → Int32) → (Nat → Int32) → Prop) (g_weight : Nat → Int32) (g_salted : Nat → Int32) (y : Nat) : Prop := Q (va_up g_weight y ((g_weight y) - ((g_weight y) / 1000))) (va_up g_salted y ((g_salted y) + 1))
def rm_C_X3_lieInSalt : Room := { frames := 0, cells := 0, slots := 0, locals := 0 }
abbrev pq_C_X3_lieInSalt (dC : Nat → ClassId) (dI : Nat → Nat → Nat) (ad : Nat → Nat) (cB cI cZ cL : ClassId) (A : Nat → Prop) (LP : List Nat) (today legCount : Int32) (legs hung : Nat → Option Nat) (warmth damp wopen : Nat → Int32) (tsize : Int32) (bytes : Nat → Int32) (rat rtold rwrong : Int32) (numbers asked : Nat → Int32) (ftold : Int32) (ffarm ffrom fwhat fon : Nat → Int32) (csize ctotal : Int32) (offered : Nat → Option Nat) (cws cwa g_number g_farm g_pig g_first g_begun g_weight g_salted g_heat g_place g_target g_feedAsked g_sealed g_bad g_sold : Nat → Int32) (Q : (Nat → Int32) → (Nat → Int32) → Prop) : Array Value → State → Outcome → State → Prop := va_Qv (fun u : (Nat → Int32) × (Nat → Int32) => Q u.1 u.2) (fun u t => kB dC dI A (wA ad cB cI cZ cL LP today legCount legs hung warmth damp wopen tsize bytes rat rtold rwrong numbers asked ftold ffarm ffrom fwhat fon csize ctotal offered cws cwa g_number g_farm g_pig g_first g_begun u.1 u.2 g_heat g_place g_target g_feedAsked g_sealed g_bad g_sold) (kTy cB cI cZ cL) t) A
set_option maxHeartbeats 4000000 in
set_option maxRecDepth 100000 in
theorem c_C_X3_lieInSalt (l : Launch) (dC : Nat → ClassId) (dI : Nat → Nat → Nat) (ad : Nat → Nat) (cB cI cZ cL : ClassId) (A : Nat → Prop) (LP : List Nat) (today legCount : Int32) (legs hung : Nat → Option Nat) (warmth damp wopen : Nat → Int32) (tsize : Int32) (bytes : Nat → Int32) (rat rtold rwrong : Int32) (numbers asked : Nat → Int32) (ftold : Int32) (ffarm ffrom fwhat fon : Nat → Int32) (csize ctotal : Int32) (offered : Nat → Option Nat) (cws cwa g_number g_farm g_pig g_first g_begun g_weight g_salted g_heat g_place g_target g_feedAsked g_sealed g_bad g_sold : Nat → Int32) (y : Nat) (hy_y : y ∈ LP) (Q : (Nat → Int32) → (Nat → Int32) → Prop) (h : wp_C_X3_lieInSalt LP Q g_weight g_salted y) : Met l yX3_lieInSalt wsX3_lieInSalt rm_C_X3_lieInSalt (va_Pc [.ref y] (kC dC dI ad A (wA ad cB cI cZ cL LP today legCount legs hung warmth damp wopen tsize bytes rat rtold rwrong numbers asked ftold ffarm ffrom fwhat fon csize ctotal offered cws cwa g_number g_farm g_pig g_first g_begun g_weight g_salted g_heat g_place g_target g_feedAsked g_sealed g_bad g_sold) (kTy cB cI cZ cL))) (pq_C_X3_lieInSalt dC dI ad cB cI cZ cL A LP today legCount legs hung warmth damp wopen tsize bytes rat rtold rwrong numbers asked ftold ffarm ffrom fwhat fon csize ctotal offered cws cwa g_number g_farm g_pig g_first g_begun g_weight g_salted g_heat g_place g_target g_feedAsked g_sealed g_bad g_sold Q) 0 0 A := by
  refine Met.ofW (cc := cX3_lieInSalt) (maxL := 1) (ret := none) (by decide) rfl ?_
  intro p e s m args below meth c s₁ B hml hv
  obtain ⟨rfl, hA, hP, hK, hD, hE⟩ := hv
  have hx := B.exec
  have hb := B.bytes
  have hr := B.returns
  have hts := atoms_spec (ws := wsX3_lieInSalt) B.pre
  have hown : s.vm.findClass RX3 = some m.cls := findClass_of_methodNamed B.named
  have hlocks := B.notSynchronized
  have hS : va_S A s.heap s.heap [] := va_S.rf
  have hk_0 := hts (.fieldLink RX3 36 "HamCellar$Leg" "salted" "I") (by decide +kernel)
  have hk_1 : ∀ w ∈ wsX30, w ∈ wsX3_lieInSalt := by decide +kernel
  have hk_2 := hts (.fieldLink RX3 33 "HamCellar$Leg" "weight" "I") (by decide +kernel)
  have hl := lv_entry ([.ref y]) (n := 1) (Nat.le_of_ble_eq_true rfl)
  rw [lg_entry_eq]
  generalize (lg_sl ([.ref y]) ++ List.replicate (1 - (lg_sl ([.ref y])).length) Slot.unset).toArray = ls at hl ⊢
  have hl : lv_has ls 1 [(0, .ref y)] := hl
  unfold wp_C_X3_lieInSalt at h
  refine lv_aload_n hx hb dX3_lieInSalt_0 rfl (lv_at hl 0 rfl) ?_
  refine lv_dup hx hb dX3_lieInSalt_1 rfl ?_
  obtain ⟨k_1, hg_k_1⟩ := wA_leg hy_y
  refine va_get (D := (dC, dI)) (ci := 3) (v := .int (g_salted y)) (C := RX3) (T := TX3) (N := 14) hx hb hts hk_1 hown hK hP k_1 hg_k_1 rfl 6 (by decide) hk_0 (fun _ h9 => h9) rfl dX3_lieInSalt_2 ?_
  refine lv_iconst (v := 1) hx hb dX3_lieInSalt_5 (by decide) ?_
  refine lv_iadd hx hb dX3_lieInSalt_6 ?_
  obtain ⟨k_2, hg_k_2⟩ := wA_leg hy_y
  refine va_put (D := (dC, dI)) (ci := 3) (v := .int ((g_salted y) + 1)) (ty := .int) (C := RX3) (T := TX3) (N := 14) hx hb hts hk_1 tyX3 tyX3_ok nmX3 hown hK hP hD hS k_2 hg_k_2 rfl 6 (by decide) hk_0 (fun _ h9 => h9) rfl (by decide +kernel) rfl rfl (Nat.le_of_ble_eq_true rfl) dX3_lieInSalt_7 (fun H locs hP2 hD2 hS => ?_)
  have hP : va_P (dC, dI) vwCl (wA ad cB cI cZ cL LP today legCount legs hung warmth damp wopen tsize bytes rat rtold rwrong numbers asked ftold ffarm ffrom fwhat fon csize ctotal offered cws cwa g_number g_farm g_pig g_first g_begun g_weight (va_up g_salted y ((g_salted y) + 1)) g_heat g_place g_target g_feedAsked g_sealed g_bad g_sold) H := hP_eq (wA_p_g_salted hD hy_y hg_k_2) hP2
  have hD : va_D A (wA ad cB cI cZ cL LP today legCount legs hung warmth damp wopen tsize bytes rat rtold rwrong numbers asked ftold ffarm ffrom fwhat fon csize ctotal offered cws cwa g_number g_farm g_pig g_first g_begun g_weight (va_up g_salted y ((g_salted y) + 1)) g_heat g_place g_target g_feedAsked g_sealed g_bad g_sold) := hD_eq (wA_p_g_salted hD hy_y hg_k_2) hD2
  refine lv_aload_n hx hb dX3_lieInSalt_10 rfl (lv_at hl 0 rfl) ?_
  refine lv_dup hx hb dX3_lieInSalt_11 rfl ?_
  obtain ⟨k_3, hg_k_3⟩ := wA_leg hy_y
  refine va_get (D := (dC, dI)) (ci := 3) (v := .int (g_weight y)) (C := RX3) (T := TX3) (N := 14) hx hb hts hk_1 hown hK hP k_3 hg_k_3 rfl 5 (by decide) hk_2 (fun _ h9 => h9) rfl dX3_lieInSalt_12 ?_
  refine lv_aload_n hx hb dX3_lieInSalt_15 rfl (lv_at hl 0 rfl) ?_
  obtain ⟨k_4, hg_k_4⟩ := wA_leg hy_y
  refine va_get (D := (dC, dI)) (ci := 3) (v := .int (g_weight y)) (C := RX3) (T := TX3) (N := 14) hx hb hts hk_1 hown hK hP k_4 hg_k_4 rfl 5 (by decide) hk_2 (fun _ h9 => h9) rfl dX3_lieInSalt_16 ?_
  refine lv_sipush (v := 1000) hx hb dX3_lieInSalt_19 (by decide) ?_
  refine lv_idiv hx hb dX3_lieInSalt_22 (by decide) ?_
  refine lv_isub hx hb dX3_lieInSalt_23 ?_
  obtain ⟨k_5, hg_k_5⟩ := wA_leg hy_y
  refine va_put (D := (dC, dI)) (ci := 3) (v := .int ((g_weight y) - ((g_weight y) / 1000))) (ty := .int) (C := RX3) (T := TX3) (N := 14) hx hb hts hk_1 tyX3 tyX3_ok nmX3 hown hK hP hD hS k_5 hg_k_5 rfl 5 (by decide) hk_2 (fun _ h9 => h9) rfl (by decide +kernel) rfl rfl (Nat.le_of_ble_eq_true rfl) dX3_lieInSalt_24 (fun H locs hP2 hD2 hS => ?_)
  have hP : va_P (dC, dI) vwCl (wA ad cB cI cZ cL LP today legCount legs hung warmth damp wopen tsize bytes rat rtold rwrong numbers asked ftold ffarm ffrom fwhat fon csize ctotal offered cws cwa g_number g_farm g_pig g_first g_begun (va_up g_weight y ((g_weight y) - ((g_weight y) / 1000))) (va_up g_salted y ((g_salted y) + 1)) g_heat g_place g_target g_feedAsked g_sealed g_bad g_sold) H := hP_eq (wA_p_g_weight hD hy_y hg_k_5) hP2
  have hD : va_D A (wA ad cB cI cZ cL LP today legCount legs hung warmth damp wopen tsize bytes rat rtold rwrong numbers asked ftold ffarm ffrom fwhat fon csize ctotal offered cws cwa g_number g_farm g_pig g_first g_begun (va_up g_weight y ((g_weight y) - ((g_weight y) / 1000))) (va_up g_salted y ((g_salted y) + 1)) g_heat g_place g_target g_feedAsked g_sealed g_bad g_sold) := hD_eq (wA_p_g_weight hD hy_y hg_k_5) hD2
  exact W.vret hx hb hr (fun t ht hW => ⟨⟨(va_up g_weight y ((g_weight y) - ((g_weight y) / 1000)), va_up g_salted y ((g_salted y) + 1)), rfl, h, kB_mk hP hK hD ht hW.alike⟩, hS.F ht⟩) hS.2.2 dX3_lieInSalt_27
def wp_C_X3_dry (LP : List Nat) (Q : (Nat → Int32) → Prop) (g_weight : Nat → Int32) (y : Nat) (p0 : Int32) (p1 : Int32) : Prop := Q (va_up g_weight y ((g_weight y) - (((g_weight y) * (((100 - p1) * (5 + (if p0 < 0 then 0 else p0))) / 10)) / 100000)))
def rm_C_X3_dry : Room := { frames := 1, cells := 0, slots := 0, locals := 17 }
abbrev pq_C_X3_dry (dC : Nat → ClassId) (dI : Nat → Nat → Nat) (ad : Nat → Nat) (cB cI cZ cL : ClassId) (A : Nat → Prop) (LP : List Nat) (today legCount : Int32) (legs hung : Nat → Option Nat) (warmth damp wopen : Nat → Int32) (tsize : Int32) (bytes : Nat → Int32) (rat rtold rwrong : Int32) (numbers asked : Nat → Int32) (ftold : Int32) (ffarm ffrom fwhat fon : Nat → Int32) (csize ctotal : Int32) (offered : Nat → Option Nat) (cws cwa g_number g_farm g_pig g_first g_begun g_weight g_salted g_heat g_place g_target g_feedAsked g_sealed g_bad g_sold : Nat → Int32) (Q : (Nat → Int32) → Prop) : Array Value → State → Outcome → State → Prop := va_Qv (fun u : (Nat → Int32) => Q u) (fun u t => kB dC dI A (wA ad cB cI cZ cL LP today legCount legs hung warmth damp wopen tsize bytes rat rtold rwrong numbers asked ftold ffarm ffrom fwhat fon csize ctotal offered cws cwa g_number g_farm g_pig g_first g_begun u g_salted g_heat g_place g_target g_feedAsked g_sealed g_bad g_sold) (kTy cB cI cZ cL) t) A
set_option maxHeartbeats 4000000 in
set_option maxRecDepth 100000 in
theorem c_C_X3_dry (l : Launch) (dC : Nat → ClassId) (dI : Nat → Nat → Nat) (ad : Nat → Nat) (cB cI cZ cL : ClassId) (A : Nat → Prop) (LP : List Nat) (today legCount : Int32) (legs hung : Nat → Option Nat) (warmth damp wopen : Nat → Int32) (tsize : Int32) (bytes : Nat → Int32) (rat rtold rwrong : Int32) (numbers asked : Nat → Int32) (ftold : Int32) (ffarm ffrom fwhat fon : Nat → Int32) (csize ctotal : Int32) (offered : Nat → Option Nat) (cws cwa g_number g_farm g_pig g_first g_begun g_weight g_salted g_heat g_place g_target g_feedAsked g_sealed g_bad g_sold : Nat → Int32) (y : Nat) (p0 : Int32) (p1 : Int32) (hy_y : y ∈ LP) (Q : (Nat → Int32) → Prop) (h : wp_C_X3_dry LP Q g_weight y p0 p1) : Met l yX3_dry wsX3_dry rm_C_X3_dry (va_Pc [.ref y, .int p0, .int p1] (kC dC dI ad A (wA ad cB cI cZ cL LP today legCount legs hung warmth damp wopen tsize bytes rat rtold rwrong numbers asked ftold ffarm ffrom fwhat fon csize ctotal offered cws cwa g_number g_farm g_pig g_first g_begun g_weight g_salted g_heat g_place g_target g_feedAsked g_sealed g_bad g_sold) (kTy cB cI cZ cL))) (pq_C_X3_dry dC dI ad cB cI cZ cL A LP today legCount legs hung warmth damp wopen tsize bytes rat rtold rwrong numbers asked ftold ffarm ffrom fwhat fon csize ctotal offered cws cwa g_number g_farm g_pig g_first g_begun g_weight g_salted g_heat g_place g_target g_feedAsked g_sealed g_bad g_sold Q) 0 0 A := by
  refine Met.ofW (cc := cX3_dry) (maxL := 4) (ret := none) (by decide) rfl ?_
  intro p e s m args below meth c s₁ B hml hv
  obtain ⟨rfl, hA, hP, hK, hD, hE⟩ := hv
  have hx := B.exec
  have hb := B.bytes
  have hr := B.returns
  have hts := atoms_spec (ws := wsX3_dry) B.pre
  have hown : s.vm.findClass RX3 = some m.cls := findClass_of_methodNamed B.named
  have hlocks := B.notSynchronized
  have hS : va_S A s.heap s.heap [] := va_S.rf
  have hk_0 := hts (.methodLink RX3 39 yJ9_max_7cf53) (by decide +kernel)
  have hk_1 := hts (.static yJ9_max_7cf53) (by decide +kernel)
  have hk_2 := hts (.initialized RJ9) (by decide +kernel)
  have hk_3 := hts (.code yJ9_max_7cf53 cJ9_max_7cf53 2 (some .int)) (by decide +kernel)
  have hk_4 := hts (.fieldLink RX3 33 "HamCellar$Leg" "weight" "I") (by decide +kernel)
  have hk_5 : ∀ w ∈ wsX30, w ∈ wsX3_dry := by decide +kernel
  have hk_6 := hts (.constant RX3 45 100000) (by decide +kernel)
  have hl := lv_entry ([.ref y, .int p0, .int p1]) (n := 4) (Nat.le_of_ble_eq_true rfl)
  rw [lg_entry_eq]
  generalize (lg_sl ([.ref y, .int p0, .int p1]) ++ List.replicate (4 - (lg_sl ([.ref y, .int p0, .int p1])).length) Slot.unset).toArray = ls at hl ⊢
  have hl : lv_has ls 4 [(0, .ref y), (1, .int p0), (2, .int p1)] := hl
  unfold wp_C_X3_dry at h
  refine lv_bipush (v := 100) hx hb dX3_dry_0 (by decide) ?_
  refine lv_iload_n hx hb dX3_dry_2 rfl (lv_at hl 2 rfl) ?_
  refine lv_isub hx hb dX3_dry_3 ?_
  refine lv_iconst (v := 5) hx hb dX3_dry_4 (by decide) ?_
  refine lv_iload_n hx hb dX3_dry_5 rfl (lv_at hl 1 rfl) ?_
  refine lv_iconst (v := 0) hx hb dX3_dry_6 (by decide) ?_
  refine va_mmax hx hb (hml.trans hl.1.symm) hown hk_0 hk_1 hk_2 hk_3 (Nat.le_of_ble_eq_true rfl) (Nat.le_of_ble_eq_true rfl) (Nat.le_of_ble_eq_true rfl) (Nat.le_of_ble_eq_true rfl) (x := p0) (y := 0) dX3_dry_7 ?_
  refine lv_iadd hx hb dX3_dry_10 ?_
  refine lv_imul hx hb dX3_dry_11 ?_
  refine lv_bipush (v := 10) hx hb dX3_dry_12 (by decide) ?_
  refine lv_idiv hx hb dX3_dry_14 (by decide) ?_
  refine lv_istore_n (lv' := [(3, .int (((100 - p1) * (5 + (if p0 < 0 then 0 else p0))) / 10)), (0, .ref y), (1, .int p0), (2, .int p1)]) hx hb dX3_dry_15 rfl hl (by decide) rfl (fun ls hl => ?_)
  refine lv_aload_n hx hb dX3_dry_16 rfl (lv_at hl 1 rfl) ?_
  refine lv_dup hx hb dX3_dry_17 rfl ?_
  obtain ⟨k_1, hg_k_1⟩ := wA_leg hy_y
  refine va_get (D := (dC, dI)) (ci := 3) (v := .int (g_weight y)) (C := RX3) (T := TX3) (N := 14) hx hb hts hk_5 hown hK hP k_1 hg_k_1 rfl 5 (by decide) hk_4 (fun _ h9 => h9) rfl dX3_dry_18 ?_
  refine lv_aload_n hx hb dX3_dry_21 rfl (lv_at hl 1 rfl) ?_
  obtain ⟨k_2, hg_k_2⟩ := wA_leg hy_y
  refine va_get (D := (dC, dI)) (ci := 3) (v := .int (g_weight y)) (C := RX3) (T := TX3) (N := 14) hx hb hts hk_5 hown hK hP k_2 hg_k_2 rfl 5 (by decide) hk_4 (fun _ h9 => h9) rfl dX3_dry_22 ?_
  refine lv_iload_n hx hb dX3_dry_25 rfl (lv_at hl 0 rfl) ?_
  refine lv_imul hx hb dX3_dry_26 ?_
  refine lv_ldc hx hb hown hk_6 dX3_dry_27 ?_
  refine lv_idiv hx hb dX3_dry_29 (by decide) ?_
  refine lv_isub hx hb dX3_dry_30 ?_
  obtain ⟨k_3, hg_k_3⟩ := wA_leg hy_y
  refine va_put (D := (dC, dI)) (ci := 3) (v := .int ((g_weight y) - (((g_weight y) * (((100 - p1) * (5 + (if p0 < 0 then 0 else p0))) / 10)) / 100000))) (ty := .int) (C := RX3) (T := TX3) (N := 14) hx hb hts hk_5 tyX3 tyX3_ok nmX3 hown hK hP hD hS k_3 hg_k_3 rfl 5 (by decide) hk_4 (fun _ h9 => h9) rfl (by decide +kernel) rfl rfl (Nat.le_of_ble_eq_true rfl) dX3_dry_31 (fun H locs hP2 hD2 hS => ?_)
  have hP : va_P (dC, dI) vwCl (wA ad cB cI cZ cL LP today legCount legs hung warmth damp wopen tsize bytes rat rtold rwrong numbers asked ftold ffarm ffrom fwhat fon csize ctotal offered cws cwa g_number g_farm g_pig g_first g_begun (va_up g_weight y ((g_weight y) - (((g_weight y) * (((100 - p1) * (5 + (if p0 < 0 then 0 else p0))) / 10)) / 100000))) g_salted g_heat g_place g_target g_feedAsked g_sealed g_bad g_sold) H := hP_eq (wA_p_g_weight hD hy_y hg_k_3) hP2
  have hD : va_D A (wA ad cB cI cZ cL LP today legCount legs hung warmth damp wopen tsize bytes rat rtold rwrong numbers asked ftold ffarm ffrom fwhat fon csize ctotal offered cws cwa g_number g_farm g_pig g_first g_begun (va_up g_weight y ((g_weight y) - (((g_weight y) * (((100 - p1) * (5 + (if p0 < 0 then 0 else p0))) / 10)) / 100000))) g_salted g_heat g_place g_target g_feedAsked g_sealed g_bad g_sold) := hD_eq (wA_p_g_weight hD hy_y hg_k_3) hD2
  exact W.vret hx hb hr (fun t ht hW => ⟨⟨(va_up g_weight y ((g_weight y) - (((g_weight y) * (((100 - p1) * (5 + (if p0 < 0 then 0 else p0))) / 10)) / 100000))), rfl, h, kB_mk hP hK hD ht hW.alike⟩, hS.F ht⟩) hS.2.2 dX3_dry_34
def wp_C_X3_gainHeat (LP : List Nat) (g_first : Nat → Int32) (g_salted : Nat → Int32) (Q : (Nat → Int32) → (Nat → Int32) → Prop) (g_heat : Nat → Int32) (g_bad : Nat → Int32) (y : Nat) (p0 : Int32) : Prop := ((((va_up g_heat y ((g_heat y) + (if p0 < 0 then 0 else p0))) y) ≤ (20 * (g_salted y)) → Q (va_up g_heat y ((g_heat y) + (if p0 < 0 then 0 else p0))) g_bad) ∧ (¬ (((va_up g_heat y ((g_heat y) + (if p0 < 0 then 0 else p0))) y) ≤ (20 * (g_salted y))) → ((((g_first y) / 1000) ≤ (g_salted y) → Q (va_up g_heat y ((g_heat y) + (if p0 < 0 then 0 else p0))) g_bad) ∧ (¬ (((g_first y) / 1000) ≤ (g_salted y)) → Q (va_up g_heat y ((g_heat y) + (if p0 < 0 then 0 else p0))) (va_up g_bad y 1)))))
def rm_C_X3_gainHeat : Room := { frames := 1, cells := 0, slots := 0, locals := 17 }
abbrev pq_C_X3_gainHeat (dC : Nat → ClassId) (dI : Nat → Nat → Nat) (ad : Nat → Nat) (cB cI cZ cL : ClassId) (A : Nat → Prop) (LP : List Nat) (today legCount : Int32) (legs hung : Nat → Option Nat) (warmth damp wopen : Nat → Int32) (tsize : Int32) (bytes : Nat → Int32) (rat rtold rwrong : Int32) (numbers asked : Nat → Int32) (ftold : Int32) (ffarm ffrom fwhat fon : Nat → Int32) (csize ctotal : Int32) (offered : Nat → Option Nat) (cws cwa g_number g_farm g_pig g_first g_begun g_weight g_salted g_heat g_place g_target g_feedAsked g_sealed g_bad g_sold : Nat → Int32) (Q : (Nat → Int32) → (Nat → Int32) → Prop) : Array Value → State → Outcome → State → Prop := va_Qv (fun u : (Nat → Int32) × (Nat → Int32) => Q u.1 u.2) (fun u t => kB dC dI A (wA ad cB cI cZ cL LP today legCount legs hung warmth damp wopen tsize bytes rat rtold rwrong numbers asked ftold ffarm ffrom fwhat fon csize ctotal offered cws cwa g_number g_farm g_pig g_first g_begun g_weight g_salted u.1 g_place g_target g_feedAsked g_sealed u.2 g_sold) (kTy cB cI cZ cL) t) A
set_option maxHeartbeats 4000000 in
set_option maxRecDepth 100000 in
theorem c_C_X3_gainHeat (l : Launch) (dC : Nat → ClassId) (dI : Nat → Nat → Nat) (ad : Nat → Nat) (cB cI cZ cL : ClassId) (A : Nat → Prop) (LP : List Nat) (today legCount : Int32) (legs hung : Nat → Option Nat) (warmth damp wopen : Nat → Int32) (tsize : Int32) (bytes : Nat → Int32) (rat rtold rwrong : Int32) (numbers asked : Nat → Int32) (ftold : Int32) (ffarm ffrom fwhat fon : Nat → Int32) (csize ctotal : Int32) (offered : Nat → Option Nat) (cws cwa g_number g_farm g_pig g_first g_begun g_weight g_salted g_heat g_place g_target g_feedAsked g_sealed g_bad g_sold : Nat → Int32) (y : Nat) (p0 : Int32) (hy_y : y ∈ LP) (Q : (Nat → Int32) → (Nat → Int32) → Prop) (h : wp_C_X3_gainHeat LP g_first g_salted Q g_heat g_bad y p0) : Met l yX3_gainHeat wsX3_gainHeat rm_C_X3_gainHeat (va_Pc [.ref y, .int p0] (kC dC dI ad A (wA ad cB cI cZ cL LP today legCount legs hung warmth damp wopen tsize bytes rat rtold rwrong numbers asked ftold ffarm ffrom fwhat fon csize ctotal offered cws cwa g_number g_farm g_pig g_first g_begun g_weight g_salted g_heat g_place g_target g_feedAsked g_sealed g_bad g_sold) (kTy cB cI cZ cL))) (pq_C_X3_gainHeat dC dI ad cB cI cZ cL A LP today legCount legs hung warmth damp wopen tsize bytes rat rtold rwrong numbers asked ftold ffarm ffrom fwhat fon csize ctotal offered cws cwa g_number g_farm g_pig g_first g_begun g_weight g_salted g_heat g_place g_target g_feedAsked g_sealed g_bad g_sold Q) 0 0 A := by
  refine Met.ofW (cc := cX3_gainHeat) (maxL := 2) (ret := none) (by decide) rfl ?_
  intro p e s m args below meth c s₁ B hml hv
  obtain ⟨rfl, hA, hP, hK, hD, hE⟩ := hv
  have hx := B.exec
  have hb := B.bytes
  have hr := B.returns
  have hts := atoms_spec (ws := wsX3_gainHeat) B.pre
  have hown : s.vm.findClass RX3 = some m.cls := findClass_of_methodNamed B.named
  have hlocks := B.notSynchronized
  have hS : va_S A s.heap s.heap [] := va_S.rf
  have hk_0 := hts (.fieldLink RX3 46 "HamCellar$Leg" "heat" "I") (by decide +kernel)
  have hk_1 : ∀ w ∈ wsX30, w ∈ wsX3_gainHeat := by decide +kernel
  have hk_2 := hts (.methodLink RX3 39 yJ9_max_7cf53) (by decide +kernel)
  have hk_3 := hts (.static yJ9_max_7cf53) (by decide +kernel)
  have hk_4 := hts (.initialized RJ9) (by decide +kernel)
  have hk_5 := hts (.code yJ9_max_7cf53 cJ9_max_7cf53 2 (some .int)) (by decide +kernel)
  have hk_6 := hts (.fieldLink RX3 36 "HamCellar$Leg" "salted" "I") (by decide +kernel)
  have hk_7 := hts (.fieldLink RX3 27 "HamCellar$Leg" "first" "I") (by decide +kernel)
  have hk_8 := hts (.fieldLink RX3 49 "HamCellar$Leg" "bad" "Z") (by decide +kernel)
  have hl := lv_entry ([.ref y, .int p0]) (n := 2) (Nat.le_of_ble_eq_true rfl)
  rw [lg_entry_eq]
  generalize (lg_sl ([.ref y, .int p0]) ++ List.replicate (2 - (lg_sl ([.ref y, .int p0])).length) Slot.unset).toArray = ls at hl ⊢
  have hl : lv_has ls 2 [(0, .ref y), (1, .int p0)] := hl
  unfold wp_C_X3_gainHeat at h
  refine lv_aload_n hx hb dX3_gainHeat_0 rfl (lv_at hl 0 rfl) ?_
  refine lv_dup hx hb dX3_gainHeat_1 rfl ?_
  obtain ⟨k_1, hg_k_1⟩ := wA_leg hy_y
  refine va_get (D := (dC, dI)) (ci := 3) (v := .int (g_heat y)) (C := RX3) (T := TX3) (N := 14) hx hb hts hk_1 hown hK hP k_1 hg_k_1 rfl 7 (by decide) hk_0 (fun _ h9 => h9) rfl dX3_gainHeat_2 ?_
  refine lv_iload_n hx hb dX3_gainHeat_5 rfl (lv_at hl 1 rfl) ?_
  refine lv_iconst (v := 0) hx hb dX3_gainHeat_6 (by decide) ?_
  refine va_mmax hx hb (hml.trans hl.1.symm) hown hk_2 hk_3 hk_4 hk_5 (Nat.le_of_ble_eq_true rfl) (Nat.le_of_ble_eq_true rfl) (Nat.le_of_ble_eq_true rfl) (Nat.le_of_ble_eq_true rfl) (x := p0) (y := 0) dX3_gainHeat_7 ?_
  refine lv_iadd hx hb dX3_gainHeat_10 ?_
  obtain ⟨k_2, hg_k_2⟩ := wA_leg hy_y
  refine va_put (D := (dC, dI)) (ci := 3) (v := .int ((g_heat y) + (if p0 < 0 then 0 else p0))) (ty := .int) (C := RX3) (T := TX3) (N := 14) hx hb hts hk_1 tyX3 tyX3_ok nmX3 hown hK hP hD hS k_2 hg_k_2 rfl 7 (by decide) hk_0 (fun _ h9 => h9) rfl (by decide +kernel) rfl rfl (Nat.le_of_ble_eq_true rfl) dX3_gainHeat_11 (fun H locs hP2 hD2 hS => ?_)
  have hP : va_P (dC, dI) vwCl (wA ad cB cI cZ cL LP today legCount legs hung warmth damp wopen tsize bytes rat rtold rwrong numbers asked ftold ffarm ffrom fwhat fon csize ctotal offered cws cwa g_number g_farm g_pig g_first g_begun g_weight g_salted (va_up g_heat y ((g_heat y) + (if p0 < 0 then 0 else p0))) g_place g_target g_feedAsked g_sealed g_bad g_sold) H := hP_eq (wA_p_g_heat hD hy_y hg_k_2) hP2
  have hD : va_D A (wA ad cB cI cZ cL LP today legCount legs hung warmth damp wopen tsize bytes rat rtold rwrong numbers asked ftold ffarm ffrom fwhat fon csize ctotal offered cws cwa g_number g_farm g_pig g_first g_begun g_weight g_salted (va_up g_heat y ((g_heat y) + (if p0 < 0 then 0 else p0))) g_place g_target g_feedAsked g_sealed g_bad g_sold) := hD_eq (wA_p_g_heat hD hy_y hg_k_2) hD2
  refine lv_aload_n hx hb dX3_gainHeat_14 rfl (lv_at hl 0 rfl) ?_
  obtain ⟨k_3, hg_k_3⟩ := wA_leg hy_y
  refine va_get (D := (dC, dI)) (ci := 3) (v := .int ((va_up g_heat y ((g_heat y) + (if p0 < 0 then 0 else p0))) y)) (C := RX3) (T := TX3) (N := 14) hx hb hts hk_1 hown hK hP k_3 hg_k_3 rfl 7 (by decide) hk_0 (fun _ h9 => h9) rfl dX3_gainHeat_15 ?_
  refine lv_bipush (v := 20) hx hb dX3_gainHeat_18 (by decide) ?_
  refine lv_aload_n hx hb dX3_gainHeat_20 rfl (lv_at hl 0 rfl) ?_
  obtain ⟨k_4, hg_k_4⟩ := wA_leg hy_y
  refine va_get (D := (dC, dI)) (ci := 3) (v := .int (g_salted y)) (C := RX3) (T := TX3) (N := 14) hx hb hts hk_1 hown hK hP k_4 hg_k_4 rfl 6 (by decide) hk_6 (fun _ h9 => h9) rfl dX3_gainHeat_21 ?_
  refine lv_imul hx hb dX3_gainHeat_24 ?_
  refine lv_icmp_le (tgt := 48) hx hb dX3_gainHeat_25 (by decide) (fun c_5 => ?_) (fun c_5 => ?_)
  · have h := h.1 c_5
    exact W.vret hx hb hr (fun t ht hW => ⟨⟨(va_up g_heat y ((g_heat y) + (if p0 < 0 then 0 else p0)), g_bad), rfl, h, kB_mk hP hK hD ht hW.alike⟩, hS.F ht⟩) hS.2.2 dX3_gainHeat_48
  · have h := h.2 c_5
    refine lv_aload_n hx hb dX3_gainHeat_28 rfl (lv_at hl 0 rfl) ?_
    obtain ⟨k_6, hg_k_6⟩ := wA_leg hy_y
    refine va_get (D := (dC, dI)) (ci := 3) (v := .int (g_salted y)) (C := RX3) (T := TX3) (N := 14) hx hb hts hk_1 hown hK hP k_6 hg_k_6 rfl 6 (by decide) hk_6 (fun _ h9 => h9) rfl dX3_gainHeat_29 ?_
    refine lv_aload_n hx hb dX3_gainHeat_32 rfl (lv_at hl 0 rfl) ?_
    obtain ⟨k_7, hg_k_7⟩ := wA_leg hy_y
    refine va_get (D := (dC, dI)) (ci := 3) (v := .int (g_first y)) (C := RX3) (T := TX3) (N := 14) hx hb hts hk_1 hown hK hP k_7 hg_k_7 rfl 3 (by decide) hk_7 (fun _ h9 => h9) rfl dX3_gainHeat_33 ?_
    refine lv_sipush (v := 1000) hx hb dX3_gainHeat_36 (by decide) ?_
    refine lv_idiv hx hb dX3_gainHeat_39 (by decide) ?_
    refine lv_icmp_ge (tgt := 48) hx hb dX3_gainHeat_40 (by decide) (fun c_8 => ?_) (fun c_8 => ?_)
    · have h := h.1 c_8
      exact W.vret hx hb hr (fun t ht hW => ⟨⟨(va_up g_heat y ((g_heat y) + (if p0 < 0 then 0 else p0)), g_bad), rfl, h, kB_mk hP hK hD ht hW.alike⟩, hS.F ht⟩) hS.2.2 dX3_gainHeat_48
    · have h := h.2 c_8
      refine lv_aload_n hx hb dX3_gainHeat_43 rfl (lv_at hl 0 rfl) ?_
      refine lv_iconst (v := 1) hx hb dX3_gainHeat_44 (by decide) ?_
      obtain ⟨k_9, hg_k_9⟩ := wA_leg hy_y
      refine va_put (D := (dC, dI)) (ci := 3) (v := .int 1) (ty := .boolean) (C := RX3) (T := TX3) (N := 14) hx hb hts hk_1 tyX3 tyX3_ok nmX3 hown hK hP hD hS k_9 hg_k_9 rfl 12 (by decide) hk_8 (fun _ h9 => h9) rfl (by decide +kernel) rfl rfl (Nat.le_of_ble_eq_true rfl) dX3_gainHeat_45 (fun H locs hP2 hD2 hS => ?_)
      have hP : va_P (dC, dI) vwCl (wA ad cB cI cZ cL LP today legCount legs hung warmth damp wopen tsize bytes rat rtold rwrong numbers asked ftold ffarm ffrom fwhat fon csize ctotal offered cws cwa g_number g_farm g_pig g_first g_begun g_weight g_salted (va_up g_heat y ((g_heat y) + (if p0 < 0 then 0 else p0))) g_place g_target g_feedAsked g_sealed (va_up g_bad y 1) g_sold) H := hP_eq (wA_p_g_bad hD hy_y hg_k_9) hP2
      have hD : va_D A (wA ad cB cI cZ cL LP today legCount legs hung warmth damp wopen tsize bytes rat rtold rwrong numbers asked ftold ffarm ffrom fwhat fon csize ctotal offered cws cwa g_number g_farm g_pig g_first g_begun g_weight g_salted (va_up g_heat y ((g_heat y) + (if p0 < 0 then 0 else p0))) g_place g_target g_feedAsked g_sealed (va_up g_bad y 1) g_sold) := hD_eq (wA_p_g_bad hD hy_y hg_k_9) hD2
      exact W.vret hx hb hr (fun t ht hW => ⟨⟨(va_up g_heat y ((g_heat y) + (if p0 < 0 then 0 else p0)), va_up g_bad y 1), rfl, h, kB_mk hP hK hD ht hW.alike⟩, hS.F ht⟩) hS.2.2 dX3_gainHeat_48
def wp_C_X3_hasLost (LP : List Nat) (g_first : Nat → Int32) (g_weight : Nat → Int32) (Q : Int32 → Prop) (y : Nat) (p0 : Int32) : Prop := ((((g_first y) - (g_weight y)) < (p0 * ((g_first y) / 100)) → (o01 0 ∧ Q 0 )) ∧ (¬ (((g_first y) - (g_weight y)) < (p0 * ((g_first y) / 100))) → (o01 1 ∧ Q 1 )))
def rm_C_X3_hasLost : Room := { frames := 0, cells := 0, slots := 0, locals := 0 }
abbrev pq_C_X3_hasLost (dC : Nat → ClassId) (dI : Nat → Nat → Nat) (ad : Nat → Nat) (cB cI cZ cL : ClassId) (A : Nat → Prop) (LP : List Nat) (today legCount : Int32) (legs hung : Nat → Option Nat) (warmth damp wopen : Nat → Int32) (tsize : Int32) (bytes : Nat → Int32) (rat rtold rwrong : Int32) (numbers asked : Nat → Int32) (ftold : Int32) (ffarm ffrom fwhat fon : Nat → Int32) (csize ctotal : Int32) (offered : Nat → Option Nat) (cws cwa g_number g_farm g_pig g_first g_begun g_weight g_salted g_heat g_place g_target g_feedAsked g_sealed g_bad g_sold : Nat → Int32) (Q : Int32 → Prop) : Array Value → State → Outcome → State → Prop := va_Qi (fun (r : Int32) (u : Unit) => Q r ) (fun u t => kB dC dI A (wA ad cB cI cZ cL LP today legCount legs hung warmth damp wopen tsize bytes rat rtold rwrong numbers asked ftold ffarm ffrom fwhat fon csize ctotal offered cws cwa g_number g_farm g_pig g_first g_begun g_weight g_salted g_heat g_place g_target g_feedAsked g_sealed g_bad g_sold) (kTy cB cI cZ cL) t) A
set_option maxHeartbeats 4000000 in
set_option maxRecDepth 100000 in
theorem c_C_X3_hasLost (l : Launch) (dC : Nat → ClassId) (dI : Nat → Nat → Nat) (ad : Nat → Nat) (cB cI cZ cL : ClassId) (A : Nat → Prop) (LP : List Nat) (today legCount : Int32) (legs hung : Nat → Option Nat) (warmth damp wopen : Nat → Int32) (tsize : Int32) (bytes : Nat → Int32) (rat rtold rwrong : Int32) (numbers asked : Nat → Int32) (ftold : Int32) (ffarm ffrom fwhat fon : Nat → Int32) (csize ctotal : Int32) (offered : Nat → Option Nat) (cws cwa g_number g_farm g_pig g_first g_begun g_weight g_salted g_heat g_place g_target g_feedAsked g_sealed g_bad g_sold : Nat → Int32) (y : Nat) (p0 : Int32) (hy_y : y ∈ LP) (Q : Int32 → Prop) (h : wp_C_X3_hasLost LP g_first g_weight Q y p0) : Met l yX3_hasLost wsX3_hasLost rm_C_X3_hasLost (va_Pc [.ref y, .int p0] (kC dC dI ad A (wA ad cB cI cZ cL LP today legCount legs hung warmth damp wopen tsize bytes rat rtold rwrong numbers asked ftold ffarm ffrom fwhat fon csize ctotal offered cws cwa g_number g_farm g_pig g_first g_begun g_weight g_salted g_heat g_place g_target g_feedAsked g_sealed g_bad g_sold) (kTy cB cI cZ cL))) (pq_C_X3_hasLost dC dI ad cB cI cZ cL A LP today legCount legs hung warmth damp wopen tsize bytes rat rtold rwrong numbers asked ftold ffarm ffrom fwhat fon csize ctotal offered cws cwa g_number g_farm g_pig g_first g_begun g_weight g_salted g_heat g_place g_target g_feedAsked g_sealed g_bad g_sold Q) 0 0 A := by
  refine Met.ofW (cc := cX3_hasLost) (maxL := 2) (ret := (some .boolean)) (by decide) rfl ?_
  intro p e s m args below meth c s₁ B hml hv
  obtain ⟨rfl, hA, hP, hK, hD, hE⟩ := hv
  have hx := B.exec
  have hb := B.bytes
  have hr := B.returns
  have hts := atoms_spec (ws := wsX3_hasLost) B.pre
  have hown : s.vm.findClass RX3 = some m.cls := findClass_of_methodNamed B.named
  have hlocks := B.notSynchronized
  have hS : va_S A s.heap s.heap [] := va_S.rf
  have hk_0 := hts (.fieldLink RX3 27 "HamCellar$Leg" "first" "I") (by decide +kernel)
  have hk_1 : ∀ w ∈ wsX30, w ∈ wsX3_hasLost := by decide +kernel
  have hk_2 := hts (.fieldLink RX3 33 "HamCellar$Leg" "weight" "I") (by decide +kernel)
  have hl := lv_entry ([.ref y, .int p0]) (n := 2) (Nat.le_of_ble_eq_true rfl)
  rw [lg_entry_eq]
  generalize (lg_sl ([.ref y, .int p0]) ++ List.replicate (2 - (lg_sl ([.ref y, .int p0])).length) Slot.unset).toArray = ls at hl ⊢
  have hl : lv_has ls 2 [(0, .ref y), (1, .int p0)] := hl
  unfold wp_C_X3_hasLost at h
  refine lv_aload_n hx hb dX3_hasLost_0 rfl (lv_at hl 0 rfl) ?_
  obtain ⟨k_1, hg_k_1⟩ := wA_leg hy_y
  refine va_get (D := (dC, dI)) (ci := 3) (v := .int (g_first y)) (C := RX3) (T := TX3) (N := 14) hx hb hts hk_1 hown hK hP k_1 hg_k_1 rfl 3 (by decide) hk_0 (fun _ h9 => h9) rfl dX3_hasLost_1 ?_
  refine lv_aload_n hx hb dX3_hasLost_4 rfl (lv_at hl 0 rfl) ?_
  obtain ⟨k_2, hg_k_2⟩ := wA_leg hy_y
  refine va_get (D := (dC, dI)) (ci := 3) (v := .int (g_weight y)) (C := RX3) (T := TX3) (N := 14) hx hb hts hk_1 hown hK hP k_2 hg_k_2 rfl 5 (by decide) hk_2 (fun _ h9 => h9) rfl dX3_hasLost_5 ?_
  refine lv_isub hx hb dX3_hasLost_8 ?_
  refine lv_iload_n hx hb dX3_hasLost_9 rfl (lv_at hl 1 rfl) ?_
  refine lv_aload_n hx hb dX3_hasLost_10 rfl (lv_at hl 0 rfl) ?_
  obtain ⟨k_3, hg_k_3⟩ := wA_leg hy_y
  refine va_get (D := (dC, dI)) (ci := 3) (v := .int (g_first y)) (C := RX3) (T := TX3) (N := 14) hx hb hts hk_1 hown hK hP k_3 hg_k_3 rfl 3 (by decide) hk_0 (fun _ h9 => h9) rfl dX3_hasLost_11 ?_
  refine lv_bipush (v := 100) hx hb dX3_hasLost_14 (by decide) ?_
  refine lv_idiv hx hb dX3_hasLost_16 (by decide) ?_
  refine lv_imul hx hb dX3_hasLost_17 ?_
  refine lv_icmp_lt (tgt := 25) hx hb dX3_hasLost_18 (by decide) (fun c_4 => ?_) (fun c_4 => ?_)
  · have h := h.1 c_4
    refine lv_iconst (v := 0) hx hb dX3_hasLost_25 (by decide) ?_
    exact W.zret (v := 0) (ty := .boolean) hx hb hr (z01 h.1) (fun t ht hW => ⟨⟨0, (), rfl, h.2, kB_mk hP hK hD ht hW.alike⟩, hS.F ht⟩) hS.2.2 dX3_hasLost_26
  · have h := h.2 c_4
    refine lv_iconst (v := 1) hx hb dX3_hasLost_21 (by decide) ?_
    refine lv_goto (tgt := 26) hx hb dX3_hasLost_22 (by decide) ?_
    exact W.zret (v := 1) (ty := .boolean) hx hb hr (z01 h.1) (fun t ht hW => ⟨⟨1, (), rfl, h.2, kB_mk hP hK hD ht hW.alike⟩, hS.F ht⟩) hS.2.2 dX3_hasLost_26
