theorem kofWH {l : Launch} {y : MethodName} {ws ws' : List Cond} {rm : Room} {Pc : Array Value → State → Prop} {Qc : Array Value → State → Outcome → State → Prop} {mc ms : Nat} {free : Addr → Prop} {cc : ByteArray} {maxL : Nat} {ret : Option FieldType} {hh : List (Nat × Nat × Nat × Nat)}
    (hy : plainName y.cls = true) (hw : ws = Cond.codeWith y cc maxL ret hh :: ws')
    (body : ∀ p e s m args below meth c s₁, BodyLoose p l y (headSpec ws rm) cc maxL ret e s m args below meth c s₁ → c.maxLocals = maxL → Pc args s →
      W p l e (headSpec ws rm).room s m args below meth c s.heap [] 0 0 (MQ below Qc args s mc ms free) (entryFrame m args maxL)) : Met l y ws rm Pc Qc mc ms free := by
  refine MetFree.of_bodyS (code := cc) (maxLocals := maxL) (ret := ret) hy ?_ ?_
  · intro args s m h hn
    obtain ⟨m9, meth, c, hn9, h1, h2, h3, h4, -, h5, h6, -⟩ := Cond.codeWith_spec (atoms_spec (ws := ws) h _ (by rw [hw]; exact List.mem_cons_self))
    cases hn.symm.trans hn9
    exact ⟨meth, c, h1, h2, h3, h4, h5, h6⟩
  · intro p e s m args below meth c s₁ B hml hP _
    have hh0 : s₁.heap = s.heap := by rw [B.state]; rfl
    obtain ⟨t, a1, o, b1, b2, b3⟩ := body p e s m args below meth c s₁ B hml hP s₁ hh0 (Stand.of_body B)
    exact ⟨t, o, a1, b1, b2, ⟨b3.1, b3.2⟩⟩
abbrev kTyJ (cB cI cZ cL cJ : ClassId) : List (ClassId × FieldType) := [(cB, .byte), (cI, .int), (cZ, .boolean), (cL, .object RX3), (cJ, .long)]
def kN (U : State) : Prop := va_Nc (kEx 2) (kEx 1) U ∧ va_Nc (kEx 3) (kEx 1) U ∧ va_Nc (kEx 3) (kEx 2) U ∧ va_Nc (kEx 4) (kEx 1) U
theorem kN_moved {u U : State} (hvm : u.vm.Alike U.vm) (h : kN u) : kN U := ⟨va_Nc.moved hvm h.1, va_Nc.moved hvm h.2.1, va_Nc.moved hvm h.2.2.1, va_Nc.moved hvm h.2.2.2⟩
def kH (dC : Nat → ClassId) (dI : Nat → Nat → Nat) (ad : Nat → Nat) (A : Nat → Prop) (ws : va_W) (tys : List (ClassId × FieldType)) (U : State) : Prop := kC dC dI ad A ws tys U ∧ kN U
theorem kH_blind {dC : Nat → ClassId} {dI : Nat → Nat → Nat} {ad : Nat → Nat} {A : Nat → Prop} {ws : va_W} {tys : List (ClassId × FieldType)} {av : List Value} : FrameBlind (va_Pc av (kH dC dI ad A ws tys)) := by
  intro a U g mk q
  obtain ⟨q0, q1, q2⟩ := q
  exact ⟨q0, (kC_blind a U g mk (⟨q0, q1⟩ : va_Pc av (kC dC dI ad A ws tys) a U)).2, kN_moved (Vm.Alike.refl U.vm) q2⟩
theorem ks_back1 {A : Nat → Prop} {D : va_G} {cl : List vw_C} {w1 : va_W} {x : Nat × va_E} {H H1 : Heap} (hP2 : va_P D cl [x] H) (hk : ∀ q : Nat, q < H.size → ¬ kM A [x] q → H1[q]? = H[q]?) (hP1 : va_P D cl w1 H1) (hD1 : va_D (kM A [x]) w1) (hD2 : va_D A [x]) : va_P D cl (x :: w1) H1 ∧ va_D A (x :: w1) := by
  obtain ⟨a, b⟩ := ks_back hP2 hk hP1 hD1 hD2
  have b' : va_D A (([] ++ [x]) ++ w1) := va_D.swap (a := []) (b := w1) (c := [x]) b
  have a' : va_P D cl (([] ++ [x]) ++ w1) H1 := va_P.swap (a := []) (b := w1) (c := [x]) a
  exact ⟨a', b'⟩
theorem k_tl {D : va_G} {cl : List vw_C} {x : Nat × va_E} {w : va_W} {H : Heap} (h : va_P D cl (x :: w) H) : va_P D cl w H := fun k q hk => h (k + 1) q hk
theorem k_hd {D : va_G} {cl : List vw_C} {x : Nat × va_E} {w : va_W} {H : Heap} (h : va_P D cl (x :: w) H) : va_P D cl [x] H := fun k q hk => by
  match k, hk with
  | 0, hk => exact h 0 q hk
theorem k_D2 {A : Nat → Prop} {x : Nat × va_E} {w : va_W} (h : va_D A (x :: w)) : va_D A (w ++ [x]) := va_D.swap (a := []) (b := [x]) (c := w) h
theorem k_Dh {A : Nat → Prop} {x : Nat × va_E} {w : va_W} (h : va_D A (x :: w)) : va_D A [x] := h.sub (ws' := [x]) [0] (by decide) rfl
def wp_H_leg (today : Int32) (Q : Int32 → (Nat → Int64) → List Nat → Int32 → (Nat → Option Nat) → (Nat → Int32) → (Nat → Int32) → (Nat → Int32) → (Nat → Int32) → (Nat → Int32) → (Nat → Int32) → (Nat → Int32) → (Nat → Int32) → (Nat → Int32) → (Nat → Int32) → (Nat → Int32) → (Nat → Int32) → (Nat → Int32) → (Nat → Int32) → Prop) (of : Nat → Int64) (LP : List Nat) (legCount : Int32) (legs : Nat → Option Nat) (g_number : Nat → Int32) (g_farm : Nat → Int32) (g_pig : Nat → Int32) (g_first : Nat → Int32) (g_begun : Nat → Int32) (g_weight : Nat → Int32) (g_salted : Nat → Int32) (g_heat : Nat → Int32) (g_place : Nat → Int32) (g_target : Nat → Int32) (g_feedAsked : Nat → Int32) (g_sealed : Nat → Int32) (g_bad : Nat → Int32) (g_sold : Nat → Int32) (p0 : Int32) (p1 : Int32) (p2 : Int32) : Prop := wp_C_X7_leg today (fun r LP legCount legs g_number g_farm g_pig g_first g_begun g_weight g_salted g_heat g_place g_target g_feedAsked g_sealed g_bad g_sold => Q 0 (vp_updL of (0 : Int32).toNatClampNeg r.toInt64) LP legCount legs g_number g_farm g_pig g_first g_begun g_weight g_salted g_heat g_place g_target g_feedAsked g_sealed g_bad g_sold) (fun k LP legCount legs g_number g_farm g_pig g_first g_begun g_weight g_salted g_heat g_place g_target g_feedAsked g_sealed g_bad g_sold => (k = 1 ∧ Q 1 of LP legCount legs g_number g_farm g_pig g_first g_begun g_weight g_salted g_heat g_place g_target g_feedAsked g_sealed g_bad g_sold) ∨ (k = 2 ∧ Q 2 of LP legCount legs g_number g_farm g_pig g_first g_begun g_weight g_salted g_heat g_place g_target g_feedAsked g_sealed g_bad g_sold) ∨ (k = 3 ∧ Q 3 of LP legCount legs g_number g_farm g_pig g_first g_begun g_weight g_salted g_heat g_place g_target g_feedAsked g_sealed g_bad g_sold)) LP legCount legs g_number g_farm g_pig g_first g_begun g_weight g_salted g_heat g_place g_target g_feedAsked g_sealed g_bad g_sold p0 p1 p2
def rm_H_leg : Room := { frames := 8, cells := 2, slots := 20, locals := 125 }
set_option maxHeartbeats 4000000 in
set_option maxRecDepth 100000 in
theorem c_H_leg (l : Launch) (hl0 : l.stackTraces = false) (dC : Nat → ClassId) (dI : Nat → Nat → Nat) (ad : Nat → Nat) (cB cI cZ cL cJ : ClassId) (A : Nat → Prop) (ao : Nat) (of : Nat → Int64) (LP : List Nat) (today legCount : Int32) (legs hung : Nat → Option Nat) (warmth damp wopen : Nat → Int32) (tsize : Int32) (bytes : Nat → Int32) (rat rtold rwrong : Int32) (numbers asked : Nat → Int32) (ftold : Int32) (ffarm ffrom fwhat fon : Nat → Int32) (csize ctotal : Int32) (offered : Nat → Option Nat) (cws cwa g_number g_farm g_pig g_first g_begun g_weight g_salted g_heat g_place g_target g_feedAsked g_sealed g_bad g_sold : Nat → Int32)  (p0 : Int32) (p1 : Int32) (p2 : Int32) (Q : Int32 → (Nat → Int64) → List Nat → Int32 → (Nat → Option Nat) → (Nat → Int32) → (Nat → Int32) → (Nat → Int32) → (Nat → Int32) → (Nat → Int32) → (Nat → Int32) → (Nat → Int32) → (Nat → Int32) → (Nat → Int32) → (Nat → Int32) → (Nat → Int32) → (Nat → Int32) → (Nat → Int32) → (Nat → Int32) → Prop) (h : wp_H_leg today Q of LP legCount legs g_number g_farm g_pig g_first g_begun g_weight g_salted g_heat g_place g_target g_feedAsked g_sealed g_bad g_sold p0 p1 p2) : Met l yL_leg wsL_leg rm_H_leg (va_Pc [.ref (ad 0), .int p0, .int p1, .int p2, .ref ao] (kH dC dI ad A ((ao, .inl (cJ, 1, .inr (.inl of))) :: wA ad cB cI cZ cL LP today legCount legs hung warmth damp wopen tsize bytes rat rtold rwrong numbers asked ftold ffarm ffrom fwhat fon csize ctotal offered cws cwa g_number g_farm g_pig g_first g_begun g_weight g_salted g_heat g_place g_target g_feedAsked g_sealed g_bad g_sold) (kTyJ cB cI cZ cL cJ))) (va_Qi (fun (r : Int32) (u : (Nat → Int64) × List Nat × Int32 × (Nat → Option Nat) × (Nat → Int32) × (Nat → Int32) × (Nat → Int32) × (Nat → Int32) × (Nat → Int32) × (Nat → Int32) × (Nat → Int32) × (Nat → Int32) × (Nat → Int32) × (Nat → Int32) × (Nat → Int32) × (Nat → Int32) × (Nat → Int32) × (Nat → Int32)) => Q r u.1 u.2.1 u.2.2.1 u.2.2.2.1 u.2.2.2.2.1 u.2.2.2.2.2.1 u.2.2.2.2.2.2.1 u.2.2.2.2.2.2.2.1 u.2.2.2.2.2.2.2.2.1 u.2.2.2.2.2.2.2.2.2.1 u.2.2.2.2.2.2.2.2.2.2.1 u.2.2.2.2.2.2.2.2.2.2.2.1 u.2.2.2.2.2.2.2.2.2.2.2.2.1 u.2.2.2.2.2.2.2.2.2.2.2.2.2.1 u.2.2.2.2.2.2.2.2.2.2.2.2.2.2.1 u.2.2.2.2.2.2.2.2.2.2.2.2.2.2.2.1 u.2.2.2.2.2.2.2.2.2.2.2.2.2.2.2.2.1 u.2.2.2.2.2.2.2.2.2.2.2.2.2.2.2.2.2) (fun u t => kB dC dI A ((ao, .inl (cJ, 1, .inr (.inl u.1))) :: wA ad cB cI cZ cL u.2.1 today u.2.2.1 u.2.2.2.1 hung warmth damp wopen tsize bytes rat rtold rwrong numbers asked ftold ffarm ffrom fwhat fon csize ctotal offered cws cwa u.2.2.2.2.1 u.2.2.2.2.2.1 u.2.2.2.2.2.2.1 u.2.2.2.2.2.2.2.1 u.2.2.2.2.2.2.2.2.1 u.2.2.2.2.2.2.2.2.2.1 u.2.2.2.2.2.2.2.2.2.2.1 u.2.2.2.2.2.2.2.2.2.2.2.1 u.2.2.2.2.2.2.2.2.2.2.2.2.1 u.2.2.2.2.2.2.2.2.2.2.2.2.2.1 u.2.2.2.2.2.2.2.2.2.2.2.2.2.2.1 u.2.2.2.2.2.2.2.2.2.2.2.2.2.2.2.1 u.2.2.2.2.2.2.2.2.2.2.2.2.2.2.2.2.1 u.2.2.2.2.2.2.2.2.2.2.2.2.2.2.2.2.2) (kTyJ cB cI cZ cL cJ) t) A) 2 20 A := by
  refine kofWH (cc := cL_leg) (maxL := 6) (ret := (some .int)) (hh := [(0, 12, 15, 13), (0, 12, 19, 15), (0, 12, 23, 17)]) (by decide) rfl ?_
  intro p e s m args below meth c s₁ B hml hv
  obtain ⟨rfl, ⟨hA, hP, hK, hD, hE⟩, hN⟩ := hv
  have hx := B.exec
  have hb := B.bytes
  have hr := B.returns
  have hts := atoms_spec (ws := wsL_leg) B.pre
  have hown : s.vm.findClass RL = some m.cls := findClass_of_methodNamed B.named
  have hlocks := B.notSynchronized
  have hS : va_S A s.heap s.heap [] := va_S.rf
  have htab : c.exceptionTable.toList = [⟨0, 12, 15, 13⟩, ⟨0, 12, 19, 15⟩, ⟨0, 12, 23, 17⟩] := vx_table (x := yL_leg) B (hts (.codeWith yL_leg cL_leg 6 (some .int) [(0, 12, 15, 13), (0, 12, 19, 15), (0, 12, 23, 17)]) (by decide +kernel))
  unfold wp_H_leg at h
  have hk_0 := hts (.classLink RL 13 "java/lang/IndexOutOfBoundsException") (by decide +kernel)
  have hk_1 := hts (.classLink RL 15 "java/lang/IllegalArgumentException") (by decide +kernel)
  have hk_2 := hts (.classLink RL 17 "java/lang/UnsupportedOperationException") (by decide +kernel)
  have hl := lv_entry ([.ref (ad 0), .int p0, .int p1, .int p2, .ref ao]) (n := 6) (Nat.le_of_ble_eq_true rfl)
  rw [lg_entry_eq]
  generalize (lg_sl ([.ref (ad 0), .int p0, .int p1, .int p2, .ref ao]) ++ List.replicate (6 - (lg_sl ([.ref (ad 0), .int p0, .int p1, .int p2, .ref ao])).length) Slot.unset).toArray = ls at hl ⊢
  have hl : lv_has ls 6 [(0, .ref (ad 0)), (1, .int p0), (2, .int p1), (3, .int p2), (4, .ref ao)] := hl
  refine lv_aload hx hb dL_leg_0 (lv_at hl 4 rfl) ?_
  refine lv_iconst (v := 0) hx hb dL_leg_2 (by decide) ?_
  refine lv_aload_n hx hb dL_leg_3 rfl (lv_at hl 0 rfl) ?_
  refine lv_iload_n hx hb dL_leg_4 rfl (lv_at hl 1 rfl) ?_
  refine lv_iload_n hx hb dL_leg_5 rfl (lv_at hl 2 rfl) ?_
  refine lv_iload_n hx hb dL_leg_6 rfl (lv_at hl 3 rfl) ?_
  have hPo := k_hd hP
  have hPa := k_tl hP
  have hDa := k_D2 hD
  have hDo := k_Dh hD
  refine vx_calli (vx_runV (As := [.int p0, .int p1, .int p2]) (rest := [.int 0, .ref ao]) ⟨hx, hb, hml, hown, hts⟩ (c_C_X7_leg l hl0 dC dI ad cB cI cZ cL (kM A [(ao, .inl (cJ, 1, .inr (.inl of)))]) LP today legCount legs hung warmth damp wopen tsize bytes rat rtold rwrong numbers asked ftold ffarm ffrom fwhat fon csize ctotal offered cws cwa g_number g_farm g_pig g_first g_begun g_weight g_salted g_heat g_place g_target g_feedAsked g_sealed g_bad g_sold p0 p1 p2 _ _ h) (cwV 3 hts gL_leg_X7_leg rfl rfl rfl (by decide +kernel) ⟨(Nat.le_of_ble_eq_true rfl), (Nat.le_of_ble_eq_true rfl)⟩) ⟨kC_blind, va_recv (hK.sub (tys' := kTy cB cI cZ cL) [0, 1, 2, 3] rfl) hPa (ci := 7) (q0 := 0) rfl wA_g0, fun U hU hW => ⟨rfl, kC_go2 hA hS hPa hPo (hK.sub (tys' := kTy cB cI cZ cL) [0, 1, 2, 3] rfl) hDa hE U hU hW⟩⟩ rfl rfl hl.1 rfl (lv_room (Nat.le_of_ble_eq_true rfl)) dL_leg_7 ⟨(Nat.le_of_ble_eq_true rfl), (Nat.le_of_ble_eq_true rfl)⟩) hS (fun q _ h => h.1) (fun q h => h.1) (fun q _ h => h.1) (fun E9 ce9 q9 u t H locs ht hvm hw hB hz1 hk1 hS hce hcv hcl => ?_) (fun r u t H locs ht hvm hw hB hz1 hk1 hS => ?_)
  · obtain ⟨k9, LP_1, legCount_1, legs_1, g_number_1, g_farm_1, g_pig_1, g_first_1, g_begun_1, g_weight_1, g_salted_1, g_heat_1, g_place_1, g_target_1, g_feedAsked_1, g_sealed_1, g_bad_1, g_sold_1⟩ := u
    obtain ⟨rfl, hB⟩ := hB
    obtain ⟨hP, hD⟩ := ks_back1 (w1 := wA ad cB cI cZ cL LP_1 today legCount_1 legs_1 hung warmth damp wopen tsize bytes rat rtold rwrong numbers asked ftold ffarm ffrom fwhat fon csize ctotal offered cws cwa g_number_1 g_farm_1 g_pig_1 g_first_1 g_begun_1 g_weight_1 g_salted_1 g_heat_1 g_place_1 g_target_1 g_feedAsked_1 g_sealed_1 g_bad_1 g_sold_1) hPo hk1 (by rw [← ht]; exact hB.1) hB.2.2 hDo
    try dsimp only at hw
    rcases hw with ⟨rfl, h⟩ | ⟨rfl, h⟩ | ⟨rfl, h⟩
    · refine vx_catch (E := "java/lang/IndexOutOfBoundsException") (name := "java/lang/IndexOutOfBoundsException") hown [] ⟨0, 12, 15, 13⟩ [⟨0, 12, 19, 15⟩, ⟨0, 12, 23, 17⟩] htab (fun z hz => nomatch hz) (by decide) (by decide) hk_0 (va_Nw.use rfl (hE.2.1.2.2.1 "java/lang/IndexOutOfBoundsException" (by decide))) hce hcv hcl ?_
      refine lv_astore (lv' := [(5, .ref q9), (0, .ref (ad 0)), (1, .int p0), (2, .int p1), (3, .int p2), (4, .ref ao)]) hx hb dL_leg_15 hl (by decide) rfl (fun ls hl => ?_)
      refine lv_iconst (v := 1) hx hb dL_leg_17 (by decide) ?_
      exact W.iret (v := 1) hx hb hr (fun t ht hW => ⟨⟨1, (of, LP_1, legCount_1, legs_1, g_number_1, g_farm_1, g_pig_1, g_first_1, g_begun_1, g_weight_1, g_salted_1, g_heat_1, g_place_1, g_target_1, g_feedAsked_1, g_sealed_1, g_bad_1, g_sold_1), rfl, h, kB_mk hP hK hD ht hW.alike⟩, hS.F ht⟩) hS.2.2 dL_leg_18
    · refine vx_catch (E := "java/lang/IllegalArgumentException") (name := "java/lang/IllegalArgumentException") hown [⟨0, 12, 15, 13⟩] ⟨0, 12, 19, 15⟩ [⟨0, 12, 23, 17⟩] htab (fun z hz => by cases List.mem_singleton.mp hz; exact Or.inr ⟨by decide, "java/lang/IndexOutOfBoundsException", hk_0, hN.1⟩) (by decide) (by decide) hk_1 (va_Nw.use rfl (hE.2.1.2.2.1 "java/lang/IllegalArgumentException" (by decide))) hce hcv hcl ?_
      refine lv_astore (lv' := [(5, .ref q9), (0, .ref (ad 0)), (1, .int p0), (2, .int p1), (3, .int p2), (4, .ref ao)]) hx hb dL_leg_19 hl (by decide) rfl (fun ls hl => ?_)
      refine lv_iconst (v := 2) hx hb dL_leg_21 (by decide) ?_
      exact W.iret (v := 2) hx hb hr (fun t ht hW => ⟨⟨2, (of, LP_1, legCount_1, legs_1, g_number_1, g_farm_1, g_pig_1, g_first_1, g_begun_1, g_weight_1, g_salted_1, g_heat_1, g_place_1, g_target_1, g_feedAsked_1, g_sealed_1, g_bad_1, g_sold_1), rfl, h, kB_mk hP hK hD ht hW.alike⟩, hS.F ht⟩) hS.2.2 dL_leg_22
    · refine vx_catch (E := "java/lang/UnsupportedOperationException") (name := "java/lang/UnsupportedOperationException") hown [⟨0, 12, 15, 13⟩, ⟨0, 12, 19, 15⟩] ⟨0, 12, 23, 17⟩ [] htab (fun z hz => by rcases List.mem_cons.mp hz with rfl | hz; exact Or.inr ⟨by decide, "java/lang/IndexOutOfBoundsException", hk_0, hN.2.1⟩; cases List.mem_singleton.mp hz; exact Or.inr ⟨by decide, "java/lang/IllegalArgumentException", hk_1, hN.2.2.1⟩) (by decide) (by decide) hk_2 (va_Nw.use rfl (hE.2.1.2.2.1 "java/lang/UnsupportedOperationException" (by decide))) hce hcv hcl ?_
      refine lv_astore (lv' := [(5, .ref q9), (0, .ref (ad 0)), (1, .int p0), (2, .int p1), (3, .int p2), (4, .ref ao)]) hx hb dL_leg_23 hl (by decide) rfl (fun ls hl => ?_)
      refine lv_iconst (v := 3) hx hb dL_leg_25 (by decide) ?_
      exact W.iret (v := 3) hx hb hr (fun t ht hW => ⟨⟨3, (of, LP_1, legCount_1, legs_1, g_number_1, g_farm_1, g_pig_1, g_first_1, g_begun_1, g_weight_1, g_salted_1, g_heat_1, g_place_1, g_target_1, g_feedAsked_1, g_sealed_1, g_bad_1, g_sold_1), rfl, h, kB_mk hP hK hD ht hW.alike⟩, hS.F ht⟩) hS.2.2 dL_leg_26
  · obtain ⟨LP_1, legCount_1, legs_1, g_number_1, g_farm_1, g_pig_1, g_first_1, g_begun_1, g_weight_1, g_salted_1, g_heat_1, g_place_1, g_target_1, g_feedAsked_1, g_sealed_1, g_bad_1, g_sold_1⟩ := u
    have h := hw
    try dsimp only at h
    obtain ⟨hP, hD⟩ := ks_back1 (w1 := wA ad cB cI cZ cL LP_1 today legCount_1 legs_1 hung warmth damp wopen tsize bytes rat rtold rwrong numbers asked ftold ffarm ffrom fwhat fon csize ctotal offered cws cwa g_number_1 g_farm_1 g_pig_1 g_first_1 g_begun_1 g_weight_1 g_salted_1 g_heat_1 g_place_1 g_target_1 g_feedAsked_1 g_sealed_1 g_bad_1 g_sold_1) hPo hk1 (by rw [← ht]; exact hB.1) hB.2.2 hDo
    refine lv_i2l (v := r.toInt64) hx hb dL_leg_10 rfl ?_
    refine va_last hx hb hK hP hD hS 0 4 rfl rfl (by unfold vp_in; decide) dL_leg_11 (fun H locs hP2 hD2 hS => ?_)
    have hP : va_P (dC, dI) vwCl ((ao, .inl (cJ, 1, .inr (.inl (vp_updL of (0 : Int32).toNatClampNeg r.toInt64)))) :: wA ad cB cI cZ cL LP_1 today legCount_1 legs_1 hung warmth damp wopen tsize bytes rat rtold rwrong numbers asked ftold ffarm ffrom fwhat fon csize ctotal offered cws cwa g_number_1 g_farm_1 g_pig_1 g_first_1 g_begun_1 g_weight_1 g_salted_1 g_heat_1 g_place_1 g_target_1 g_feedAsked_1 g_sealed_1 g_bad_1 g_sold_1) H := hP2
    have hD : va_D A ((ao, .inl (cJ, 1, .inr (.inl (vp_updL of (0 : Int32).toNatClampNeg r.toInt64)))) :: wA ad cB cI cZ cL LP_1 today legCount_1 legs_1 hung warmth damp wopen tsize bytes rat rtold rwrong numbers asked ftold ffarm ffrom fwhat fon csize ctotal offered cws cwa g_number_1 g_farm_1 g_pig_1 g_first_1 g_begun_1 g_weight_1 g_salted_1 g_heat_1 g_place_1 g_target_1 g_feedAsked_1 g_sealed_1 g_bad_1 g_sold_1) := hD2
    refine lv_goto (tgt := 27) hx hb dL_leg_12 (by decide) ?_
    refine lv_iconst (v := 0) hx hb dL_leg_27 (by decide) ?_
    exact W.iret (v := 0) hx hb hr (fun t ht hW => ⟨⟨0, (vp_updL of (0 : Int32).toNatClampNeg r.toInt64, LP_1, legCount_1, legs_1, g_number_1, g_farm_1, g_pig_1, g_first_1, g_begun_1, g_weight_1, g_salted_1, g_heat_1, g_place_1, g_target_1, g_feedAsked_1, g_sealed_1, g_bad_1, g_sold_1), rfl, h, kB_mk hP hK hD ht hW.alike⟩, hS.F ht⟩) hS.2.2 dL_leg_28
def wp_H_hang (LP : List Nat) (legs : Nat → Option Nat) (g_sold : Nat → Int32) (Q : Int32 → (Nat → Int64) → (Nat → Option Nat) → (Nat → Int32) → Prop) (of : Nat → Int64) (hung : Nat → Option Nat) (g_place : Nat → Int32) (p0 : Int32) (p1 : Int32) (p2 : Int32) : Prop := wp_C_X7_hang LP legs g_sold (fun r hung g_place => ((r = 0 → Q 0 (vp_updL of (0 : Int32).toNatClampNeg 0) hung g_place) ∧ (¬ (r = 0) → Q 0 (vp_updL of (0 : Int32).toNatClampNeg 1) hung g_place))) (fun k hung g_place => (k = 1 ∧ Q 1 of hung g_place)) hung g_place p0 p1 p2
def rm_H_hang : Room := { frames := 8, cells := 2, slots := 12, locals := 128 }
set_option maxHeartbeats 4000000 in
set_option maxRecDepth 100000 in
theorem c_H_hang (l : Launch) (hl0 : l.stackTraces = false) (dC : Nat → ClassId) (dI : Nat → Nat → Nat) (ad : Nat → Nat) (cB cI cZ cL cJ : ClassId) (A : Nat → Prop) (ao : Nat) (of : Nat → Int64) (LP : List Nat) (today legCount : Int32) (legs hung : Nat → Option Nat) (warmth damp wopen : Nat → Int32) (tsize : Int32) (bytes : Nat → Int32) (rat rtold rwrong : Int32) (numbers asked : Nat → Int32) (ftold : Int32) (ffarm ffrom fwhat fon : Nat → Int32) (csize ctotal : Int32) (offered : Nat → Option Nat) (cws cwa g_number g_farm g_pig g_first g_begun g_weight g_salted g_heat g_place g_target g_feedAsked g_sealed g_bad g_sold : Nat → Int32)  (p0 : Int32) (p1 : Int32) (p2 : Int32) (Q : Int32 → (Nat → Int64) → (Nat → Option Nat) → (Nat → Int32) → Prop) (h : wp_H_hang LP legs g_sold Q of hung g_place p0 p1 p2) : Met l yL_hang wsL_hang rm_H_hang (va_Pc [.ref (ad 0), .int p0, .int p1, .int p2, .ref ao] (kH dC dI ad A ((ao, .inl (cJ, 1, .inr (.inl of))) :: wA ad cB cI cZ cL LP today legCount legs hung warmth damp wopen tsize bytes rat rtold rwrong numbers asked ftold ffarm ffrom fwhat fon csize ctotal offered cws cwa g_number g_farm g_pig g_first g_begun g_weight g_salted g_heat g_place g_target g_feedAsked g_sealed g_bad g_sold) (kTyJ cB cI cZ cL cJ))) (va_Qi (fun (r : Int32) (u : (Nat → Int64) × (Nat → Option Nat) × (Nat → Int32)) => Q r u.1 u.2.1 u.2.2) (fun u t => kB dC dI A ((ao, .inl (cJ, 1, .inr (.inl u.1))) :: wA ad cB cI cZ cL LP today legCount legs u.2.1 warmth damp wopen tsize bytes rat rtold rwrong numbers asked ftold ffarm ffrom fwhat fon csize ctotal offered cws cwa g_number g_farm g_pig g_first g_begun g_weight g_salted g_heat u.2.2 g_target g_feedAsked g_sealed g_bad g_sold) (kTyJ cB cI cZ cL cJ) t) A) 2 12 A := by
  refine kofWH (cc := cL_hang) (maxL := 6) (ret := (some .int)) (hh := [(0, 19, 22, 13)]) (by decide) rfl ?_
  intro p e s m args below meth c s₁ B hml hv
  obtain ⟨rfl, ⟨hA, hP, hK, hD, hE⟩, hN⟩ := hv
  have hx := B.exec
  have hb := B.bytes
  have hr := B.returns
  have hts := atoms_spec (ws := wsL_hang) B.pre
  have hown : s.vm.findClass RL = some m.cls := findClass_of_methodNamed B.named
  have hlocks := B.notSynchronized
  have hS : va_S A s.heap s.heap [] := va_S.rf
  have htab : c.exceptionTable.toList = [⟨0, 19, 22, 13⟩] := vx_table (x := yL_hang) B (hts (.codeWith yL_hang cL_hang 6 (some .int) [(0, 19, 22, 13)]) (by decide +kernel))
  unfold wp_H_hang at h
  have hk_0 := hts (.classLink RL 13 "java/lang/IndexOutOfBoundsException") (by decide +kernel)
  have hl := lv_entry ([.ref (ad 0), .int p0, .int p1, .int p2, .ref ao]) (n := 6) (Nat.le_of_ble_eq_true rfl)
  rw [lg_entry_eq]
  generalize (lg_sl ([.ref (ad 0), .int p0, .int p1, .int p2, .ref ao]) ++ List.replicate (6 - (lg_sl ([.ref (ad 0), .int p0, .int p1, .int p2, .ref ao])).length) Slot.unset).toArray = ls at hl ⊢
  have hl : lv_has ls 6 [(0, .ref (ad 0)), (1, .int p0), (2, .int p1), (3, .int p2), (4, .ref ao)] := hl
  refine lv_aload hx hb dL_hang_0 (lv_at hl 4 rfl) ?_
  refine lv_iconst (v := 0) hx hb dL_hang_2 (by decide) ?_
  refine lv_aload_n hx hb dL_hang_3 rfl (lv_at hl 0 rfl) ?_
  refine lv_iload_n hx hb dL_hang_4 rfl (lv_at hl 1 rfl) ?_
  refine lv_iload_n hx hb dL_hang_5 rfl (lv_at hl 2 rfl) ?_
  refine lv_iload_n hx hb dL_hang_6 rfl (lv_at hl 3 rfl) ?_
  have hPo := k_hd hP
  have hPa := k_tl hP
  have hDa := k_D2 hD
  have hDo := k_Dh hD
  refine vx_calli (vx_runV (As := [.int p0, .int p1, .int p2]) (rest := [.int 0, .ref ao]) ⟨hx, hb, hml, hown, hts⟩ (c_C_X7_hang l hl0 dC dI ad cB cI cZ cL (kM A [(ao, .inl (cJ, 1, .inr (.inl of)))]) LP today legCount legs hung warmth damp wopen tsize bytes rat rtold rwrong numbers asked ftold ffarm ffrom fwhat fon csize ctotal offered cws cwa g_number g_farm g_pig g_first g_begun g_weight g_salted g_heat g_place g_target g_feedAsked g_sealed g_bad g_sold p0 p1 p2 _ _ h) (cwV 3 hts gL_hang_X7_hang rfl rfl rfl (by decide +kernel) ⟨(Nat.le_of_ble_eq_true rfl), (Nat.le_of_ble_eq_true rfl)⟩) ⟨kC_blind, va_recv (hK.sub (tys' := kTy cB cI cZ cL) [0, 1, 2, 3] rfl) hPa (ci := 7) (q0 := 0) rfl wA_g0, fun U hU hW => ⟨rfl, kC_go2 hA hS hPa hPo (hK.sub (tys' := kTy cB cI cZ cL) [0, 1, 2, 3] rfl) hDa hE U hU hW⟩⟩ rfl rfl hl.1 rfl (lv_room (Nat.le_of_ble_eq_true rfl)) dL_hang_7 ⟨(Nat.le_of_ble_eq_true rfl), (Nat.le_of_ble_eq_true rfl)⟩) hS (fun q _ h => h.1) (fun q h => h.1) (fun q _ h => h.1) (fun E9 ce9 q9 u t H locs ht hvm hw hB hz1 hk1 hS hce hcv hcl => ?_) (fun r u t H locs ht hvm hw hB hz1 hk1 hS => ?_)
  · obtain ⟨k9, hung_1, g_place_1⟩ := u
    obtain ⟨rfl, hB⟩ := hB
    obtain ⟨hP, hD⟩ := ks_back1 (w1 := wA ad cB cI cZ cL LP today legCount legs hung_1 warmth damp wopen tsize bytes rat rtold rwrong numbers asked ftold ffarm ffrom fwhat fon csize ctotal offered cws cwa g_number g_farm g_pig g_first g_begun g_weight g_salted g_heat g_place_1 g_target g_feedAsked g_sealed g_bad g_sold) hPo hk1 (by rw [← ht]; exact hB.1) hB.2.2 hDo
    try dsimp only at hw
    obtain ⟨rfl, h⟩ := hw
    refine vx_catch (E := "java/lang/IndexOutOfBoundsException") (name := "java/lang/IndexOutOfBoundsException") hown [] ⟨0, 19, 22, 13⟩ [] htab (fun z hz => nomatch hz) (by decide) (by decide) hk_0 (va_Nw.use rfl (hE.2.1.2.2.1 "java/lang/IndexOutOfBoundsException" (by decide))) hce hcv hcl ?_
    refine lv_astore (lv' := [(5, .ref q9), (0, .ref (ad 0)), (1, .int p0), (2, .int p1), (3, .int p2), (4, .ref ao)]) hx hb dL_hang_22 hl (by decide) rfl (fun ls hl => ?_)
    refine lv_iconst (v := 1) hx hb dL_hang_24 (by decide) ?_
    exact W.iret (v := 1) hx hb hr (fun t ht hW => ⟨⟨1, (of, hung_1, g_place_1), rfl, h, kB_mk hP hK hD ht hW.alike⟩, hS.F ht⟩) hS.2.2 dL_hang_25
  · obtain ⟨hung_1, g_place_1⟩ := u
    have h := hw
    try dsimp only at h
    obtain ⟨hP, hD⟩ := ks_back1 (w1 := wA ad cB cI cZ cL LP today legCount legs hung_1 warmth damp wopen tsize bytes rat rtold rwrong numbers asked ftold ffarm ffrom fwhat fon csize ctotal offered cws cwa g_number g_farm g_pig g_first g_begun g_weight g_salted g_heat g_place_1 g_target g_feedAsked g_sealed g_bad g_sold) hPo hk1 (by rw [← ht]; exact hB.1) hB.2.2 hDo
    refine lv_if_eq (tgt := 17) hx hb dL_hang_10 (by decide) (fun c1 => ?_) (fun c1 => ?_)
    · have h := h.1 c1
      refine lv_lconst (v := 0) hx hb dL_hang_17 (by decide) ?_
      refine va_last hx hb hK hP hD hS 0 4 rfl rfl (by unfold vp_in; decide) dL_hang_18 (fun H locs hP2 hD2 hS => ?_)
      have hP : va_P (dC, dI) vwCl ((ao, .inl (cJ, 1, .inr (.inl (vp_updL of (0 : Int32).toNatClampNeg 0)))) :: wA ad cB cI cZ cL LP today legCount legs hung_1 warmth damp wopen tsize bytes rat rtold rwrong numbers asked ftold ffarm ffrom fwhat fon csize ctotal offered cws cwa g_number g_farm g_pig g_first g_begun g_weight g_salted g_heat g_place_1 g_target g_feedAsked g_sealed g_bad g_sold) H := hP2
      have hD : va_D A ((ao, .inl (cJ, 1, .inr (.inl (vp_updL of (0 : Int32).toNatClampNeg 0)))) :: wA ad cB cI cZ cL LP today legCount legs hung_1 warmth damp wopen tsize bytes rat rtold rwrong numbers asked ftold ffarm ffrom fwhat fon csize ctotal offered cws cwa g_number g_farm g_pig g_first g_begun g_weight g_salted g_heat g_place_1 g_target g_feedAsked g_sealed g_bad g_sold) := hD2
      refine lv_goto (tgt := 26) hx hb dL_hang_19 (by decide) ?_
      refine lv_iconst (v := 0) hx hb dL_hang_26 (by decide) ?_
      exact W.iret (v := 0) hx hb hr (fun t ht hW => ⟨⟨0, (vp_updL of (0 : Int32).toNatClampNeg 0, hung_1, g_place_1), rfl, h, kB_mk hP hK hD ht hW.alike⟩, hS.F ht⟩) hS.2.2 dL_hang_27
    · have h := h.2 c1
      refine lv_lconst (v := 1) hx hb dL_hang_13 (by decide) ?_
      refine lv_goto (tgt := 18) hx hb dL_hang_14 (by decide) ?_
      refine va_last hx hb hK hP hD hS 0 4 rfl rfl (by unfold vp_in; decide) dL_hang_18 (fun H locs hP2 hD2 hS => ?_)
      have hP : va_P (dC, dI) vwCl ((ao, .inl (cJ, 1, .inr (.inl (vp_updL of (0 : Int32).toNatClampNeg 1)))) :: wA ad cB cI cZ cL LP today legCount legs hung_1 warmth damp wopen tsize bytes rat rtold rwrong numbers asked ftold ffarm ffrom fwhat fon csize ctotal offered cws cwa g_number g_farm g_pig g_first g_begun g_weight g_salted g_heat g_place_1 g_target g_feedAsked g_sealed g_bad g_sold) H := hP2
      have hD : va_D A ((ao, .inl (cJ, 1, .inr (.inl (vp_updL of (0 : Int32).toNatClampNeg 1)))) :: wA ad cB cI cZ cL LP today legCount legs hung_1 warmth damp wopen tsize bytes rat rtold rwrong numbers asked ftold ffarm ffrom fwhat fon csize ctotal offered cws cwa g_number g_farm g_pig g_first g_begun g_weight g_salted g_heat g_place_1 g_target g_feedAsked g_sealed g_bad g_sold) := hD2
      refine lv_goto (tgt := 26) hx hb dL_hang_19 (by decide) ?_
      refine lv_iconst (v := 0) hx hb dL_hang_26 (by decide) ?_
      exact W.iret (v := 0) hx hb hr (fun t ht hW => ⟨⟨0, (vp_updL of (0 : Int32).toNatClampNeg 1, hung_1, g_place_1), rfl, h, kB_mk hP hK hD ht hW.alike⟩, hS.F ht⟩) hS.2.2 dL_hang_27
def wp_H_take (LP : List Nat) (legs : Nat → Option Nat) (Q : Int32 → (Nat → Int64) → (Nat → Option Nat) → (Nat → Int32) → Prop) (of : Nat → Int64) (hung : Nat → Option Nat) (g_place : Nat → Int32) (p0 : Int32) : Prop := wp_C_X7_take LP legs (fun r hung g_place => ((r = 0 → Q 0 (vp_updL of (0 : Int32).toNatClampNeg 0) hung g_place) ∧ (¬ (r = 0) → Q 0 (vp_updL of (0 : Int32).toNatClampNeg 1) hung g_place))) (fun k hung g_place => (k = 1 ∧ Q 1 of hung g_place)) hung g_place p0
def rm_H_take : Room := { frames := 8, cells := 1, slots := 6, locals := 126 }
set_option maxHeartbeats 4000000 in
set_option maxRecDepth 100000 in
theorem c_H_take (l : Launch) (hl0 : l.stackTraces = false) (dC : Nat → ClassId) (dI : Nat → Nat → Nat) (ad : Nat → Nat) (cB cI cZ cL cJ : ClassId) (A : Nat → Prop) (ao : Nat) (of : Nat → Int64) (LP : List Nat) (today legCount : Int32) (legs hung : Nat → Option Nat) (warmth damp wopen : Nat → Int32) (tsize : Int32) (bytes : Nat → Int32) (rat rtold rwrong : Int32) (numbers asked : Nat → Int32) (ftold : Int32) (ffarm ffrom fwhat fon : Nat → Int32) (csize ctotal : Int32) (offered : Nat → Option Nat) (cws cwa g_number g_farm g_pig g_first g_begun g_weight g_salted g_heat g_place g_target g_feedAsked g_sealed g_bad g_sold : Nat → Int32)  (p0 : Int32) (Q : Int32 → (Nat → Int64) → (Nat → Option Nat) → (Nat → Int32) → Prop) (h : wp_H_take LP legs Q of hung g_place p0) : Met l yL_take wsL_take rm_H_take (va_Pc [.ref (ad 0), .int p0, .ref ao] (kH dC dI ad A ((ao, .inl (cJ, 1, .inr (.inl of))) :: wA ad cB cI cZ cL LP today legCount legs hung warmth damp wopen tsize bytes rat rtold rwrong numbers asked ftold ffarm ffrom fwhat fon csize ctotal offered cws cwa g_number g_farm g_pig g_first g_begun g_weight g_salted g_heat g_place g_target g_feedAsked g_sealed g_bad g_sold) (kTyJ cB cI cZ cL cJ))) (va_Qi (fun (r : Int32) (u : (Nat → Int64) × (Nat → Option Nat) × (Nat → Int32)) => Q r u.1 u.2.1 u.2.2) (fun u t => kB dC dI A ((ao, .inl (cJ, 1, .inr (.inl u.1))) :: wA ad cB cI cZ cL LP today legCount legs u.2.1 warmth damp wopen tsize bytes rat rtold rwrong numbers asked ftold ffarm ffrom fwhat fon csize ctotal offered cws cwa g_number g_farm g_pig g_first g_begun g_weight g_salted g_heat u.2.2 g_target g_feedAsked g_sealed g_bad g_sold) (kTyJ cB cI cZ cL cJ) t) A) 1 6 A := by
  refine kofWH (cc := cL_take) (maxL := 4) (ret := (some .int)) (hh := [(0, 16, 19, 13)]) (by decide) rfl ?_
  intro p e s m args below meth c s₁ B hml hv
  obtain ⟨rfl, ⟨hA, hP, hK, hD, hE⟩, hN⟩ := hv
  have hx := B.exec
  have hb := B.bytes
  have hr := B.returns
  have hts := atoms_spec (ws := wsL_take) B.pre
  have hown : s.vm.findClass RL = some m.cls := findClass_of_methodNamed B.named
  have hlocks := B.notSynchronized
  have hS : va_S A s.heap s.heap [] := va_S.rf
  have htab : c.exceptionTable.toList = [⟨0, 16, 19, 13⟩] := vx_table (x := yL_take) B (hts (.codeWith yL_take cL_take 4 (some .int) [(0, 16, 19, 13)]) (by decide +kernel))
  unfold wp_H_take at h
  have hk_0 := hts (.classLink RL 13 "java/lang/IndexOutOfBoundsException") (by decide +kernel)
  have hl := lv_entry ([.ref (ad 0), .int p0, .ref ao]) (n := 4) (Nat.le_of_ble_eq_true rfl)
  rw [lg_entry_eq]
  generalize (lg_sl ([.ref (ad 0), .int p0, .ref ao]) ++ List.replicate (4 - (lg_sl ([.ref (ad 0), .int p0, .ref ao])).length) Slot.unset).toArray = ls at hl ⊢
  have hl : lv_has ls 4 [(0, .ref (ad 0)), (1, .int p0), (2, .ref ao)] := hl
  refine lv_aload_n hx hb dL_take_0 rfl (lv_at hl 2 rfl) ?_
  refine lv_iconst (v := 0) hx hb dL_take_1 (by decide) ?_
  refine lv_aload_n hx hb dL_take_2 rfl (lv_at hl 0 rfl) ?_
  refine lv_iload_n hx hb dL_take_3 rfl (lv_at hl 1 rfl) ?_
  have hPo := k_hd hP
  have hPa := k_tl hP
  have hDa := k_D2 hD
  have hDo := k_Dh hD
  refine vx_calli (vx_runV (As := [.int p0]) (rest := [.int 0, .ref ao]) ⟨hx, hb, hml, hown, hts⟩ (c_C_X7_take l hl0 dC dI ad cB cI cZ cL (kM A [(ao, .inl (cJ, 1, .inr (.inl of)))]) LP today legCount legs hung warmth damp wopen tsize bytes rat rtold rwrong numbers asked ftold ffarm ffrom fwhat fon csize ctotal offered cws cwa g_number g_farm g_pig g_first g_begun g_weight g_salted g_heat g_place g_target g_feedAsked g_sealed g_bad g_sold p0 _ _ h) (cwV 1 hts gL_take_X7_take rfl rfl rfl (by decide +kernel) ⟨(Nat.le_of_ble_eq_true rfl), (Nat.le_of_ble_eq_true rfl)⟩) ⟨kC_blind, va_recv (hK.sub (tys' := kTy cB cI cZ cL) [0, 1, 2, 3] rfl) hPa (ci := 7) (q0 := 0) rfl wA_g0, fun U hU hW => ⟨rfl, kC_go2 hA hS hPa hPo (hK.sub (tys' := kTy cB cI cZ cL) [0, 1, 2, 3] rfl) hDa hE U hU hW⟩⟩ rfl rfl hl.1 rfl (lv_room (Nat.le_of_ble_eq_true rfl)) dL_take_4 ⟨(Nat.le_of_ble_eq_true rfl), (Nat.le_of_ble_eq_true rfl)⟩) hS (fun q _ h => h.1) (fun q h => h.1) (fun q _ h => h.1) (fun E9 ce9 q9 u t H locs ht hvm hw hB hz1 hk1 hS hce hcv hcl => ?_) (fun r u t H locs ht hvm hw hB hz1 hk1 hS => ?_)
  · obtain ⟨k9, hung_1, g_place_1⟩ := u
    obtain ⟨rfl, hB⟩ := hB
    obtain ⟨hP, hD⟩ := ks_back1 (w1 := wA ad cB cI cZ cL LP today legCount legs hung_1 warmth damp wopen tsize bytes rat rtold rwrong numbers asked ftold ffarm ffrom fwhat fon csize ctotal offered cws cwa g_number g_farm g_pig g_first g_begun g_weight g_salted g_heat g_place_1 g_target g_feedAsked g_sealed g_bad g_sold) hPo hk1 (by rw [← ht]; exact hB.1) hB.2.2 hDo
    try dsimp only at hw
    obtain ⟨rfl, h⟩ := hw
    refine vx_catch (E := "java/lang/IndexOutOfBoundsException") (name := "java/lang/IndexOutOfBoundsException") hown [] ⟨0, 16, 19, 13⟩ [] htab (fun z hz => nomatch hz) (by decide) (by decide) hk_0 (va_Nw.use rfl (hE.2.1.2.2.1 "java/lang/IndexOutOfBoundsException" (by decide))) hce hcv hcl ?_
    refine lv_astore_n (lv' := [(3, .ref q9), (0, .ref (ad 0)), (1, .int p0), (2, .ref ao)]) hx hb dL_take_19 rfl hl (by decide) rfl (fun ls hl => ?_)
    refine lv_iconst (v := 1) hx hb dL_take_20 (by decide) ?_
    exact W.iret (v := 1) hx hb hr (fun t ht hW => ⟨⟨1, (of, hung_1, g_place_1), rfl, h, kB_mk hP hK hD ht hW.alike⟩, hS.F ht⟩) hS.2.2 dL_take_21
  · obtain ⟨hung_1, g_place_1⟩ := u
    have h := hw
    try dsimp only at h
    obtain ⟨hP, hD⟩ := ks_back1 (w1 := wA ad cB cI cZ cL LP today legCount legs hung_1 warmth damp wopen tsize bytes rat rtold rwrong numbers asked ftold ffarm ffrom fwhat fon csize ctotal offered cws cwa g_number g_farm g_pig g_first g_begun g_weight g_salted g_heat g_place_1 g_target g_feedAsked g_sealed g_bad g_sold) hPo hk1 (by rw [← ht]; exact hB.1) hB.2.2 hDo
    refine lv_if_eq (tgt := 14) hx hb dL_take_7 (by decide) (fun c1 => ?_) (fun c1 => ?_)
    · have h := h.1 c1
      refine lv_lconst (v := 0) hx hb dL_take_14 (by decide) ?_
      refine va_last hx hb hK hP hD hS 0 4 rfl rfl (by unfold vp_in; decide) dL_take_15 (fun H locs hP2 hD2 hS => ?_)
      have hP : va_P (dC, dI) vwCl ((ao, .inl (cJ, 1, .inr (.inl (vp_updL of (0 : Int32).toNatClampNeg 0)))) :: wA ad cB cI cZ cL LP today legCount legs hung_1 warmth damp wopen tsize bytes rat rtold rwrong numbers asked ftold ffarm ffrom fwhat fon csize ctotal offered cws cwa g_number g_farm g_pig g_first g_begun g_weight g_salted g_heat g_place_1 g_target g_feedAsked g_sealed g_bad g_sold) H := hP2
      have hD : va_D A ((ao, .inl (cJ, 1, .inr (.inl (vp_updL of (0 : Int32).toNatClampNeg 0)))) :: wA ad cB cI cZ cL LP today legCount legs hung_1 warmth damp wopen tsize bytes rat rtold rwrong numbers asked ftold ffarm ffrom fwhat fon csize ctotal offered cws cwa g_number g_farm g_pig g_first g_begun g_weight g_salted g_heat g_place_1 g_target g_feedAsked g_sealed g_bad g_sold) := hD2
      refine lv_goto (tgt := 22) hx hb dL_take_16 (by decide) ?_
      refine lv_iconst (v := 0) hx hb dL_take_22 (by decide) ?_
      exact W.iret (v := 0) hx hb hr (fun t ht hW => ⟨⟨0, (vp_updL of (0 : Int32).toNatClampNeg 0, hung_1, g_place_1), rfl, h, kB_mk hP hK hD ht hW.alike⟩, hS.F ht⟩) hS.2.2 dL_take_23
    · have h := h.2 c1
      refine lv_lconst (v := 1) hx hb dL_take_10 (by decide) ?_
      refine lv_goto (tgt := 15) hx hb dL_take_11 (by decide) ?_
      refine va_last hx hb hK hP hD hS 0 4 rfl rfl (by unfold vp_in; decide) dL_take_15 (fun H locs hP2 hD2 hS => ?_)
      have hP : va_P (dC, dI) vwCl ((ao, .inl (cJ, 1, .inr (.inl (vp_updL of (0 : Int32).toNatClampNeg 1)))) :: wA ad cB cI cZ cL LP today legCount legs hung_1 warmth damp wopen tsize bytes rat rtold rwrong numbers asked ftold ffarm ffrom fwhat fon csize ctotal offered cws cwa g_number g_farm g_pig g_first g_begun g_weight g_salted g_heat g_place_1 g_target g_feedAsked g_sealed g_bad g_sold) H := hP2
      have hD : va_D A ((ao, .inl (cJ, 1, .inr (.inl (vp_updL of (0 : Int32).toNatClampNeg 1)))) :: wA ad cB cI cZ cL LP today legCount legs hung_1 warmth damp wopen tsize bytes rat rtold rwrong numbers asked ftold ffarm ffrom fwhat fon csize ctotal offered cws cwa g_number g_farm g_pig g_first g_begun g_weight g_salted g_heat g_place_1 g_target g_feedAsked g_sealed g_bad g_sold) := hD2
      refine lv_goto (tgt := 22) hx hb dL_take_16 (by decide) ?_
      refine lv_iconst (v := 0) hx hb dL_take_22 (by decide) ?_
      exact W.iret (v := 0) hx hb hr (fun t ht hW => ⟨⟨0, (vp_updL of (0 : Int32).toNatClampNeg 1, hung_1, g_place_1), rfl, h, kB_mk hP hK hD ht hW.alike⟩, hS.F ht⟩) hS.2.2 dL_take_23
def wp_H_air (Q : Int32 → (Nat → Int32) → (Nat → Int32) → Prop) (warmth : Nat → Int32) (damp : Nat → Int32) (p0 : Int32) (p1 : Int32) (p2 : Int32) : Prop := wp_C_X7_air (fun warmth damp => Q 0 warmth damp) (fun k warmth damp => (k = 1 ∧ Q 1 warmth damp) ∨ (k = 2 ∧ Q 2 warmth damp)) warmth damp p0 p1 p2
def rm_H_air : Room := { frames := 7, cells := 1, slots := 6, locals := 104 }
set_option maxHeartbeats 4000000 in
set_option maxRecDepth 100000 in
theorem c_H_air (l : Launch) (hl0 : l.stackTraces = false) (dC : Nat → ClassId) (dI : Nat → Nat → Nat) (ad : Nat → Nat) (cB cI cZ cL cJ : ClassId) (A : Nat → Prop) (LP : List Nat) (today legCount : Int32) (legs hung : Nat → Option Nat) (warmth damp wopen : Nat → Int32) (tsize : Int32) (bytes : Nat → Int32) (rat rtold rwrong : Int32) (numbers asked : Nat → Int32) (ftold : Int32) (ffarm ffrom fwhat fon : Nat → Int32) (csize ctotal : Int32) (offered : Nat → Option Nat) (cws cwa g_number g_farm g_pig g_first g_begun g_weight g_salted g_heat g_place g_target g_feedAsked g_sealed g_bad g_sold : Nat → Int32)  (p0 : Int32) (p1 : Int32) (p2 : Int32) (Q : Int32 → (Nat → Int32) → (Nat → Int32) → Prop) (h : wp_H_air Q warmth damp p0 p1 p2) : Met l yL_air wsL_air rm_H_air (va_Pc [.ref (ad 0), .int p0, .int p1, .int p2] (kH dC dI ad A (wA ad cB cI cZ cL LP today legCount legs hung warmth damp wopen tsize bytes rat rtold rwrong numbers asked ftold ffarm ffrom fwhat fon csize ctotal offered cws cwa g_number g_farm g_pig g_first g_begun g_weight g_salted g_heat g_place g_target g_feedAsked g_sealed g_bad g_sold) (kTyJ cB cI cZ cL cJ))) (va_Qi (fun (r : Int32) (u : (Nat → Int32) × (Nat → Int32)) => Q r u.1 u.2) (fun u t => kB dC dI A (wA ad cB cI cZ cL LP today legCount legs hung u.1 u.2 wopen tsize bytes rat rtold rwrong numbers asked ftold ffarm ffrom fwhat fon csize ctotal offered cws cwa g_number g_farm g_pig g_first g_begun g_weight g_salted g_heat g_place g_target g_feedAsked g_sealed g_bad g_sold) (kTyJ cB cI cZ cL cJ) t) A) 1 6 A := by
  refine kofWH (cc := cL_air) (maxL := 5) (ret := (some .int)) (hh := [(0, 7, 10, 13), (0, 7, 14, 15)]) (by decide) rfl ?_
  intro p e s m args below meth c s₁ B hml hv
  obtain ⟨rfl, ⟨hA, hP, hK, hD, hE⟩, hN⟩ := hv
  have hx := B.exec
  have hb := B.bytes
  have hr := B.returns
  have hts := atoms_spec (ws := wsL_air) B.pre
  have hown : s.vm.findClass RL = some m.cls := findClass_of_methodNamed B.named
  have hlocks := B.notSynchronized
  have hS : va_S A s.heap s.heap [] := va_S.rf
  have htab : c.exceptionTable.toList = [⟨0, 7, 10, 13⟩, ⟨0, 7, 14, 15⟩] := vx_table (x := yL_air) B (hts (.codeWith yL_air cL_air 5 (some .int) [(0, 7, 10, 13), (0, 7, 14, 15)]) (by decide +kernel))
  unfold wp_H_air at h
  have hk_0 := hts (.classLink RL 13 "java/lang/IndexOutOfBoundsException") (by decide +kernel)
  have hk_1 := hts (.classLink RL 15 "java/lang/IllegalArgumentException") (by decide +kernel)
  have hl := lv_entry ([.ref (ad 0), .int p0, .int p1, .int p2]) (n := 5) (Nat.le_of_ble_eq_true rfl)
  rw [lg_entry_eq]
  generalize (lg_sl ([.ref (ad 0), .int p0, .int p1, .int p2]) ++ List.replicate (5 - (lg_sl ([.ref (ad 0), .int p0, .int p1, .int p2])).length) Slot.unset).toArray = ls at hl ⊢
  have hl : lv_has ls 5 [(0, .ref (ad 0)), (1, .int p0), (2, .int p1), (3, .int p2)] := hl
  refine lv_aload_n hx hb dL_air_0 rfl (lv_at hl 0 rfl) ?_
  refine lv_iload_n hx hb dL_air_1 rfl (lv_at hl 1 rfl) ?_
  refine lv_iload_n hx hb dL_air_2 rfl (lv_at hl 2 rfl) ?_
  refine lv_iload_n hx hb dL_air_3 rfl (lv_at hl 3 rfl) ?_
  refine vx_callv (vx_runV (As := [.int p0, .int p1, .int p2]) (rest := []) ⟨hx, hb, hml, hown, hts⟩ (c_C_X7_air l hl0 dC dI ad cB cI cZ cL A LP today legCount legs hung warmth damp wopen tsize bytes rat rtold rwrong numbers asked ftold ffarm ffrom fwhat fon csize ctotal offered cws cwa g_number g_farm g_pig g_first g_begun g_weight g_salted g_heat g_place g_target g_feedAsked g_sealed g_bad g_sold p0 p1 p2 _ _ h) (cwV 3 hts gL_air_X7_air rfl rfl rfl (by decide +kernel) ⟨(Nat.le_of_ble_eq_true rfl), (Nat.le_of_ble_eq_true rfl)⟩) ⟨kC_blind, va_recv (hK.sub (tys' := kTy cB cI cZ cL) [0, 1, 2, 3] rfl) hP (ci := 7) (q0 := 0) rfl wA_g0, fun U hU hW => ⟨rfl, kC_go hA hS hP (hK.sub (tys' := kTy cB cI cZ cL) [0, 1, 2, 3] rfl) hD hE U hU hW⟩⟩ rfl rfl hl.1 rfl (lv_room (Nat.le_of_ble_eq_true rfl)) dL_air_4 ⟨(Nat.le_of_ble_eq_true rfl), (Nat.le_of_ble_eq_true rfl)⟩) hS (fun q _ h => h) (fun q h => h) (fun q _ h => h) (fun E9 ce9 q9 u t H locs ht hvm hw hB hz1 hk1 hS hce hcv hcl => ?_) (fun u t H locs ht hvm hw hB hz1 hk1 hS => ?_)
  · obtain ⟨k9, warmth_1, damp_1⟩ := u
    obtain ⟨rfl, hB⟩ := hB
    have hP : va_P (dC, dI) vwCl (wA ad cB cI cZ cL LP today legCount legs hung warmth_1 damp_1 wopen tsize bytes rat rtold rwrong numbers asked ftold ffarm ffrom fwhat fon csize ctotal offered cws cwa g_number g_farm g_pig g_first g_begun g_weight g_salted g_heat g_place g_target g_feedAsked g_sealed g_bad g_sold) H := by rw [← ht]; exact hB.1
    have hD : va_D A (wA ad cB cI cZ cL LP today legCount legs hung warmth_1 damp_1 wopen tsize bytes rat rtold rwrong numbers asked ftold ffarm ffrom fwhat fon csize ctotal offered cws cwa g_number g_farm g_pig g_first g_begun g_weight g_salted g_heat g_place g_target g_feedAsked g_sealed g_bad g_sold) := hB.2.2
    try dsimp only at hw
    rcases hw with ⟨rfl, h⟩ | ⟨rfl, h⟩
    · refine vx_catch (E := "java/lang/IndexOutOfBoundsException") (name := "java/lang/IndexOutOfBoundsException") hown [] ⟨0, 7, 10, 13⟩ [⟨0, 7, 14, 15⟩] htab (fun z hz => nomatch hz) (by decide) (by decide) hk_0 (va_Nw.use rfl (hE.2.1.2.2.1 "java/lang/IndexOutOfBoundsException" (by decide))) hce hcv hcl ?_
      refine lv_astore (lv' := [(4, .ref q9), (0, .ref (ad 0)), (1, .int p0), (2, .int p1), (3, .int p2)]) hx hb dL_air_10 hl (by decide) rfl (fun ls hl => ?_)
      refine lv_iconst (v := 1) hx hb dL_air_12 (by decide) ?_
      exact W.iret (v := 1) hx hb hr (fun t ht hW => ⟨⟨1, (warmth_1, damp_1), rfl, h, kB_mk hP hK hD ht hW.alike⟩, hS.F ht⟩) hS.2.2 dL_air_13
    · refine vx_catch (E := "java/lang/IllegalArgumentException") (name := "java/lang/IllegalArgumentException") hown [⟨0, 7, 10, 13⟩] ⟨0, 7, 14, 15⟩ [] htab (fun z hz => by cases List.mem_singleton.mp hz; exact Or.inr ⟨by decide, "java/lang/IndexOutOfBoundsException", hk_0, hN.1⟩) (by decide) (by decide) hk_1 (va_Nw.use rfl (hE.2.1.2.2.1 "java/lang/IllegalArgumentException" (by decide))) hce hcv hcl ?_
      refine lv_astore (lv' := [(4, .ref q9), (0, .ref (ad 0)), (1, .int p0), (2, .int p1), (3, .int p2)]) hx hb dL_air_14 hl (by decide) rfl (fun ls hl => ?_)
      refine lv_iconst (v := 2) hx hb dL_air_16 (by decide) ?_
      exact W.iret (v := 2) hx hb hr (fun t ht hW => ⟨⟨2, (warmth_1, damp_1), rfl, h, kB_mk hP hK hD ht hW.alike⟩, hS.F ht⟩) hS.2.2 dL_air_17
  · obtain ⟨warmth_1, damp_1⟩ := u
    have h := hw
    try dsimp only at h
    have hP : va_P (dC, dI) vwCl (wA ad cB cI cZ cL LP today legCount legs hung warmth_1 damp_1 wopen tsize bytes rat rtold rwrong numbers asked ftold ffarm ffrom fwhat fon csize ctotal offered cws cwa g_number g_farm g_pig g_first g_begun g_weight g_salted g_heat g_place g_target g_feedAsked g_sealed g_bad g_sold) H := by rw [← ht]; exact hB.1
    have hD : va_D A (wA ad cB cI cZ cL LP today legCount legs hung warmth_1 damp_1 wopen tsize bytes rat rtold rwrong numbers asked ftold ffarm ffrom fwhat fon csize ctotal offered cws cwa g_number g_farm g_pig g_first g_begun g_weight g_salted g_heat g_place g_target g_feedAsked g_sealed g_bad g_sold) := hB.2.2
    refine lv_goto (tgt := 18) hx hb dL_air_7 (by decide) ?_
    refine lv_iconst (v := 0) hx hb dL_air_18 (by decide) ?_
    exact W.iret (v := 0) hx hb hr (fun t ht hW => ⟨⟨0, (warmth_1, damp_1), rfl, h, kB_mk hP hK hD ht hW.alike⟩, hS.F ht⟩) hS.2.2 dL_air_19
def wp_H_open (Q : Int32 → (Nat → Int64) → (Nat → Int32) → Prop) (of : Nat → Int64) (wopen : Nat → Int32) (p0 : Int32) (p1 : Int32) : Prop := wp_C_X7_open (fun r wopen => ((r = 0 → Q 0 (vp_updL of (0 : Int32).toNatClampNeg 0) wopen) ∧ (¬ (r = 0) → Q 0 (vp_updL of (0 : Int32).toNatClampNeg 1) wopen))) (fun k wopen => (k = 1 ∧ Q 1 of wopen)) wopen p0 p1
def rm_H_open : Room := { frames := 7, cells := 1, slots := 6, locals := 103 }
set_option maxHeartbeats 4000000 in
set_option maxRecDepth 100000 in
theorem c_H_open (l : Launch) (hl0 : l.stackTraces = false) (dC : Nat → ClassId) (dI : Nat → Nat → Nat) (ad : Nat → Nat) (cB cI cZ cL cJ : ClassId) (A : Nat → Prop) (ao : Nat) (of : Nat → Int64) (LP : List Nat) (today legCount : Int32) (legs hung : Nat → Option Nat) (warmth damp wopen : Nat → Int32) (tsize : Int32) (bytes : Nat → Int32) (rat rtold rwrong : Int32) (numbers asked : Nat → Int32) (ftold : Int32) (ffarm ffrom fwhat fon : Nat → Int32) (csize ctotal : Int32) (offered : Nat → Option Nat) (cws cwa g_number g_farm g_pig g_first g_begun g_weight g_salted g_heat g_place g_target g_feedAsked g_sealed g_bad g_sold : Nat → Int32)  (p0 : Int32) (p1 : Int32) (Q : Int32 → (Nat → Int64) → (Nat → Int32) → Prop) (h : wp_H_open Q of wopen p0 p1) : Met l yL_open wsL_open rm_H_open (va_Pc [.ref (ad 0), .int p0, .int p1, .ref ao] (kH dC dI ad A ((ao, .inl (cJ, 1, .inr (.inl of))) :: wA ad cB cI cZ cL LP today legCount legs hung warmth damp wopen tsize bytes rat rtold rwrong numbers asked ftold ffarm ffrom fwhat fon csize ctotal offered cws cwa g_number g_farm g_pig g_first g_begun g_weight g_salted g_heat g_place g_target g_feedAsked g_sealed g_bad g_sold) (kTyJ cB cI cZ cL cJ))) (va_Qi (fun (r : Int32) (u : (Nat → Int64) × (Nat → Int32)) => Q r u.1 u.2) (fun u t => kB dC dI A ((ao, .inl (cJ, 1, .inr (.inl u.1))) :: wA ad cB cI cZ cL LP today legCount legs hung warmth damp u.2 tsize bytes rat rtold rwrong numbers asked ftold ffarm ffrom fwhat fon csize ctotal offered cws cwa g_number g_farm g_pig g_first g_begun g_weight g_salted g_heat g_place g_target g_feedAsked g_sealed g_bad g_sold) (kTyJ cB cI cZ cL cJ) t) A) 1 6 A := by
  refine kofWH (cc := cL_open) (maxL := 5) (ret := (some .int)) (hh := [(0, 17, 20, 13)]) (by decide) rfl ?_
  intro p e s m args below meth c s₁ B hml hv
  obtain ⟨rfl, ⟨hA, hP, hK, hD, hE⟩, hN⟩ := hv
  have hx := B.exec
  have hb := B.bytes
  have hr := B.returns
  have hts := atoms_spec (ws := wsL_open) B.pre
  have hown : s.vm.findClass RL = some m.cls := findClass_of_methodNamed B.named
  have hlocks := B.notSynchronized
  have hS : va_S A s.heap s.heap [] := va_S.rf
  have htab : c.exceptionTable.toList = [⟨0, 17, 20, 13⟩] := vx_table (x := yL_open) B (hts (.codeWith yL_open cL_open 5 (some .int) [(0, 17, 20, 13)]) (by decide +kernel))
  unfold wp_H_open at h
  have hk_0 := hts (.classLink RL 13 "java/lang/IndexOutOfBoundsException") (by decide +kernel)
  have hl := lv_entry ([.ref (ad 0), .int p0, .int p1, .ref ao]) (n := 5) (Nat.le_of_ble_eq_true rfl)
  rw [lg_entry_eq]
  generalize (lg_sl ([.ref (ad 0), .int p0, .int p1, .ref ao]) ++ List.replicate (5 - (lg_sl ([.ref (ad 0), .int p0, .int p1, .ref ao])).length) Slot.unset).toArray = ls at hl ⊢
  have hl : lv_has ls 5 [(0, .ref (ad 0)), (1, .int p0), (2, .int p1), (3, .ref ao)] := hl
  refine lv_aload_n hx hb dL_open_0 rfl (lv_at hl 3 rfl) ?_
  refine lv_iconst (v := 0) hx hb dL_open_1 (by decide) ?_
  refine lv_aload_n hx hb dL_open_2 rfl (lv_at hl 0 rfl) ?_
  refine lv_iload_n hx hb dL_open_3 rfl (lv_at hl 1 rfl) ?_
  refine lv_iload_n hx hb dL_open_4 rfl (lv_at hl 2 rfl) ?_
  have hPo := k_hd hP
  have hPa := k_tl hP
  have hDa := k_D2 hD
  have hDo := k_Dh hD
  refine vx_calli (vx_runV (As := [.int p0, .int p1]) (rest := [.int 0, .ref ao]) ⟨hx, hb, hml, hown, hts⟩ (c_C_X7_open l hl0 dC dI ad cB cI cZ cL (kM A [(ao, .inl (cJ, 1, .inr (.inl of)))]) LP today legCount legs hung warmth damp wopen tsize bytes rat rtold rwrong numbers asked ftold ffarm ffrom fwhat fon csize ctotal offered cws cwa g_number g_farm g_pig g_first g_begun g_weight g_salted g_heat g_place g_target g_feedAsked g_sealed g_bad g_sold p0 p1 _ _ h) (cwV 2 hts gL_open_X7_open rfl rfl rfl (by decide +kernel) ⟨(Nat.le_of_ble_eq_true rfl), (Nat.le_of_ble_eq_true rfl)⟩) ⟨kC_blind, va_recv (hK.sub (tys' := kTy cB cI cZ cL) [0, 1, 2, 3] rfl) hPa (ci := 7) (q0 := 0) rfl wA_g0, fun U hU hW => ⟨rfl, kC_go2 hA hS hPa hPo (hK.sub (tys' := kTy cB cI cZ cL) [0, 1, 2, 3] rfl) hDa hE U hU hW⟩⟩ rfl rfl hl.1 rfl (lv_room (Nat.le_of_ble_eq_true rfl)) dL_open_5 ⟨(Nat.le_of_ble_eq_true rfl), (Nat.le_of_ble_eq_true rfl)⟩) hS (fun q _ h => h.1) (fun q h => h.1) (fun q _ h => h.1) (fun E9 ce9 q9 u t H locs ht hvm hw hB hz1 hk1 hS hce hcv hcl => ?_) (fun r u t H locs ht hvm hw hB hz1 hk1 hS => ?_)
  · obtain ⟨k9, wopen_1⟩ := u
    obtain ⟨rfl, hB⟩ := hB
    obtain ⟨hP, hD⟩ := ks_back1 (w1 := wA ad cB cI cZ cL LP today legCount legs hung warmth damp wopen_1 tsize bytes rat rtold rwrong numbers asked ftold ffarm ffrom fwhat fon csize ctotal offered cws cwa g_number g_farm g_pig g_first g_begun g_weight g_salted g_heat g_place g_target g_feedAsked g_sealed g_bad g_sold) hPo hk1 (by rw [← ht]; exact hB.1) hB.2.2 hDo
    try dsimp only at hw
    obtain ⟨rfl, h⟩ := hw
    refine vx_catch (E := "java/lang/IndexOutOfBoundsException") (name := "java/lang/IndexOutOfBoundsException") hown [] ⟨0, 17, 20, 13⟩ [] htab (fun z hz => nomatch hz) (by decide) (by decide) hk_0 (va_Nw.use rfl (hE.2.1.2.2.1 "java/lang/IndexOutOfBoundsException" (by decide))) hce hcv hcl ?_
    refine lv_astore (lv' := [(4, .ref q9), (0, .ref (ad 0)), (1, .int p0), (2, .int p1), (3, .ref ao)]) hx hb dL_open_20 hl (by decide) rfl (fun ls hl => ?_)
    refine lv_iconst (v := 1) hx hb dL_open_22 (by decide) ?_
    exact W.iret (v := 1) hx hb hr (fun t ht hW => ⟨⟨1, (of, wopen_1), rfl, h, kB_mk hP hK hD ht hW.alike⟩, hS.F ht⟩) hS.2.2 dL_open_23
  · obtain ⟨wopen_1, rfl⟩ : ∃ z, z = u := ⟨_, rfl⟩
    have h := hw
    try dsimp only at h
    obtain ⟨hP, hD⟩ := ks_back1 (w1 := wA ad cB cI cZ cL LP today legCount legs hung warmth damp wopen_1 tsize bytes rat rtold rwrong numbers asked ftold ffarm ffrom fwhat fon csize ctotal offered cws cwa g_number g_farm g_pig g_first g_begun g_weight g_salted g_heat g_place g_target g_feedAsked g_sealed g_bad g_sold) hPo hk1 (by rw [← ht]; exact hB.1) hB.2.2 hDo
    refine lv_if_eq (tgt := 15) hx hb dL_open_8 (by decide) (fun c1 => ?_) (fun c1 => ?_)
    · have h := h.1 c1
      refine lv_lconst (v := 0) hx hb dL_open_15 (by decide) ?_
      refine va_last hx hb hK hP hD hS 0 4 rfl rfl (by unfold vp_in; decide) dL_open_16 (fun H locs hP2 hD2 hS => ?_)
      have hP : va_P (dC, dI) vwCl ((ao, .inl (cJ, 1, .inr (.inl (vp_updL of (0 : Int32).toNatClampNeg 0)))) :: wA ad cB cI cZ cL LP today legCount legs hung warmth damp wopen_1 tsize bytes rat rtold rwrong numbers asked ftold ffarm ffrom fwhat fon csize ctotal offered cws cwa g_number g_farm g_pig g_first g_begun g_weight g_salted g_heat g_place g_target g_feedAsked g_sealed g_bad g_sold) H := hP2
      have hD : va_D A ((ao, .inl (cJ, 1, .inr (.inl (vp_updL of (0 : Int32).toNatClampNeg 0)))) :: wA ad cB cI cZ cL LP today legCount legs hung warmth damp wopen_1 tsize bytes rat rtold rwrong numbers asked ftold ffarm ffrom fwhat fon csize ctotal offered cws cwa g_number g_farm g_pig g_first g_begun g_weight g_salted g_heat g_place g_target g_feedAsked g_sealed g_bad g_sold) := hD2
      refine lv_goto (tgt := 24) hx hb dL_open_17 (by decide) ?_
      refine lv_iconst (v := 0) hx hb dL_open_24 (by decide) ?_
      exact W.iret (v := 0) hx hb hr (fun t ht hW => ⟨⟨0, (vp_updL of (0 : Int32).toNatClampNeg 0, wopen_1), rfl, h, kB_mk hP hK hD ht hW.alike⟩, hS.F ht⟩) hS.2.2 dL_open_25
    · have h := h.2 c1
      refine lv_lconst (v := 1) hx hb dL_open_11 (by decide) ?_
      refine lv_goto (tgt := 16) hx hb dL_open_12 (by decide) ?_
      refine va_last hx hb hK hP hD hS 0 4 rfl rfl (by unfold vp_in; decide) dL_open_16 (fun H locs hP2 hD2 hS => ?_)
      have hP : va_P (dC, dI) vwCl ((ao, .inl (cJ, 1, .inr (.inl (vp_updL of (0 : Int32).toNatClampNeg 1)))) :: wA ad cB cI cZ cL LP today legCount legs hung warmth damp wopen_1 tsize bytes rat rtold rwrong numbers asked ftold ffarm ffrom fwhat fon csize ctotal offered cws cwa g_number g_farm g_pig g_first g_begun g_weight g_salted g_heat g_place g_target g_feedAsked g_sealed g_bad g_sold) H := hP2
      have hD : va_D A ((ao, .inl (cJ, 1, .inr (.inl (vp_updL of (0 : Int32).toNatClampNeg 1)))) :: wA ad cB cI cZ cL LP today legCount legs hung warmth damp wopen_1 tsize bytes rat rtold rwrong numbers asked ftold ffarm ffrom fwhat fon csize ctotal offered cws cwa g_number g_farm g_pig g_first g_begun g_weight g_salted g_heat g_place g_target g_feedAsked g_sealed g_bad g_sold) := hD2
      refine lv_goto (tgt := 24) hx hb dL_open_17 (by decide) ?_
      refine lv_iconst (v := 0) hx hb dL_open_24 (by decide) ?_
      exact W.iret (v := 0) hx hb hr (fun t ht hW => ⟨⟨0, (vp_updL of (0 : Int32).toNatClampNeg 1, wopen_1), rfl, h, kB_mk hP hK hD ht hW.alike⟩, hS.F ht⟩) hS.2.2 dL_open_25
def wp_H_days (LP : List Nat) (legs : Nat → Option Nat) (wopen : Nat → Int32) (g_first : Nat → Int32) (g_place : Nat → Int32) (g_sold : Nat → Int32) (Q : Int32 → (Nat → Int64) → Int32 → (Nat → Int32) → (Nat → Int32) → (Nat → Int32) → (Nat → Int32) → (Nat → Int32) → (Nat → Int32) → Prop) (of : Nat → Int64) (today : Int32) (warmth : Nat → Int32) (damp : Nat → Int32) (g_weight : Nat → Int32) (g_salted : Nat → Int32) (g_heat : Nat → Int32) (g_bad : Nat → Int32) (p0 : Int32) : Prop := wp_C_X7_days LP legs wopen g_first g_place g_sold (fun r today warmth damp g_weight g_salted g_heat g_bad => Q 0 (vp_updL of (0 : Int32).toNatClampNeg r.toInt64) today warmth damp g_weight g_salted g_heat g_bad) (fun k today warmth damp g_weight g_salted g_heat g_bad => (k = 2 ∧ Q 1 of today warmth damp g_weight g_salted g_heat g_bad)) today warmth damp g_weight g_salted g_heat g_bad p0
def rm_H_days : Room := { frames := 7, cells := 1, slots := 6, locals := 109 }
set_option maxHeartbeats 4000000 in
set_option maxRecDepth 100000 in
theorem c_H_days (l : Launch) (hl0 : l.stackTraces = false) (dC : Nat → ClassId) (dI : Nat → Nat → Nat) (ad : Nat → Nat) (cB cI cZ cL cJ : ClassId) (A : Nat → Prop) (ao : Nat) (of : Nat → Int64) (LP : List Nat) (today legCount : Int32) (legs hung : Nat → Option Nat) (warmth damp wopen : Nat → Int32) (tsize : Int32) (bytes : Nat → Int32) (rat rtold rwrong : Int32) (numbers asked : Nat → Int32) (ftold : Int32) (ffarm ffrom fwhat fon : Nat → Int32) (csize ctotal : Int32) (offered : Nat → Option Nat) (cws cwa g_number g_farm g_pig g_first g_begun g_weight g_salted g_heat g_place g_target g_feedAsked g_sealed g_bad g_sold : Nat → Int32)  (p0 : Int32) (Q : Int32 → (Nat → Int64) → Int32 → (Nat → Int32) → (Nat → Int32) → (Nat → Int32) → (Nat → Int32) → (Nat → Int32) → (Nat → Int32) → Prop) (h : wp_H_days LP legs wopen g_first g_place g_sold Q of today warmth damp g_weight g_salted g_heat g_bad p0) : Met l yL_days wsL_days rm_H_days (va_Pc [.ref (ad 0), .int p0, .ref ao] (kH dC dI ad A ((ao, .inl (cJ, 1, .inr (.inl of))) :: wA ad cB cI cZ cL LP today legCount legs hung warmth damp wopen tsize bytes rat rtold rwrong numbers asked ftold ffarm ffrom fwhat fon csize ctotal offered cws cwa g_number g_farm g_pig g_first g_begun g_weight g_salted g_heat g_place g_target g_feedAsked g_sealed g_bad g_sold) (kTyJ cB cI cZ cL cJ))) (va_Qi (fun (r : Int32) (u : (Nat → Int64) × Int32 × (Nat → Int32) × (Nat → Int32) × (Nat → Int32) × (Nat → Int32) × (Nat → Int32) × (Nat → Int32)) => Q r u.1 u.2.1 u.2.2.1 u.2.2.2.1 u.2.2.2.2.1 u.2.2.2.2.2.1 u.2.2.2.2.2.2.1 u.2.2.2.2.2.2.2) (fun u t => kB dC dI A ((ao, .inl (cJ, 1, .inr (.inl u.1))) :: wA ad cB cI cZ cL LP u.2.1 legCount legs hung u.2.2.1 u.2.2.2.1 wopen tsize bytes rat rtold rwrong numbers asked ftold ffarm ffrom fwhat fon csize ctotal offered cws cwa g_number g_farm g_pig g_first g_begun u.2.2.2.2.1 u.2.2.2.2.2.1 u.2.2.2.2.2.2.1 g_place g_target g_feedAsked g_sealed u.2.2.2.2.2.2.2 g_sold) (kTyJ cB cI cZ cL cJ) t) A) 1 6 A := by
  refine kofWH (cc := cL_days) (maxL := 4) (ret := (some .int)) (hh := [(0, 9, 12, 15)]) (by decide) rfl ?_
  intro p e s m args below meth c s₁ B hml hv
  obtain ⟨rfl, ⟨hA, hP, hK, hD, hE⟩, hN⟩ := hv
  have hx := B.exec
  have hb := B.bytes
  have hr := B.returns
  have hts := atoms_spec (ws := wsL_days) B.pre
  have hown : s.vm.findClass RL = some m.cls := findClass_of_methodNamed B.named
  have hlocks := B.notSynchronized
  have hS : va_S A s.heap s.heap [] := va_S.rf
  have htab : c.exceptionTable.toList = [⟨0, 9, 12, 15⟩] := vx_table (x := yL_days) B (hts (.codeWith yL_days cL_days 4 (some .int) [(0, 9, 12, 15)]) (by decide +kernel))
  unfold wp_H_days at h
  have hk_0 := hts (.classLink RL 15 "java/lang/IllegalArgumentException") (by decide +kernel)
  have hl := lv_entry ([.ref (ad 0), .int p0, .ref ao]) (n := 4) (Nat.le_of_ble_eq_true rfl)
  rw [lg_entry_eq]
  generalize (lg_sl ([.ref (ad 0), .int p0, .ref ao]) ++ List.replicate (4 - (lg_sl ([.ref (ad 0), .int p0, .ref ao])).length) Slot.unset).toArray = ls at hl ⊢
  have hl : lv_has ls 4 [(0, .ref (ad 0)), (1, .int p0), (2, .ref ao)] := hl
  refine lv_aload_n hx hb dL_days_0 rfl (lv_at hl 2 rfl) ?_
  refine lv_iconst (v := 0) hx hb dL_days_1 (by decide) ?_
  refine lv_aload_n hx hb dL_days_2 rfl (lv_at hl 0 rfl) ?_
  refine lv_iload_n hx hb dL_days_3 rfl (lv_at hl 1 rfl) ?_
  have hPo := k_hd hP
  have hPa := k_tl hP
  have hDa := k_D2 hD
  have hDo := k_Dh hD
  refine vx_calli (vx_runV (As := [.int p0]) (rest := [.int 0, .ref ao]) ⟨hx, hb, hml, hown, hts⟩ (c_C_X7_days l hl0 dC dI ad cB cI cZ cL (kM A [(ao, .inl (cJ, 1, .inr (.inl of)))]) LP today legCount legs hung warmth damp wopen tsize bytes rat rtold rwrong numbers asked ftold ffarm ffrom fwhat fon csize ctotal offered cws cwa g_number g_farm g_pig g_first g_begun g_weight g_salted g_heat g_place g_target g_feedAsked g_sealed g_bad g_sold p0 _ _ h) (cwV 1 hts gL_days_X7_days rfl rfl rfl (by decide +kernel) ⟨(Nat.le_of_ble_eq_true rfl), (Nat.le_of_ble_eq_true rfl)⟩) ⟨kC_blind, va_recv (hK.sub (tys' := kTy cB cI cZ cL) [0, 1, 2, 3] rfl) hPa (ci := 7) (q0 := 0) rfl wA_g0, fun U hU hW => ⟨rfl, kC_go2 hA hS hPa hPo (hK.sub (tys' := kTy cB cI cZ cL) [0, 1, 2, 3] rfl) hDa hE U hU hW⟩⟩ rfl rfl hl.1 rfl (lv_room (Nat.le_of_ble_eq_true rfl)) dL_days_4 ⟨(Nat.le_of_ble_eq_true rfl), (Nat.le_of_ble_eq_true rfl)⟩) hS (fun q _ h => h.1) (fun q h => h.1) (fun q _ h => h.1) (fun E9 ce9 q9 u t H locs ht hvm hw hB hz1 hk1 hS hce hcv hcl => ?_) (fun r u t H locs ht hvm hw hB hz1 hk1 hS => ?_)
  · obtain ⟨k9, today_1, warmth_1, damp_1, g_weight_1, g_salted_1, g_heat_1, g_bad_1⟩ := u
    obtain ⟨rfl, hB⟩ := hB
    obtain ⟨hP, hD⟩ := ks_back1 (w1 := wA ad cB cI cZ cL LP today_1 legCount legs hung warmth_1 damp_1 wopen tsize bytes rat rtold rwrong numbers asked ftold ffarm ffrom fwhat fon csize ctotal offered cws cwa g_number g_farm g_pig g_first g_begun g_weight_1 g_salted_1 g_heat_1 g_place g_target g_feedAsked g_sealed g_bad_1 g_sold) hPo hk1 (by rw [← ht]; exact hB.1) hB.2.2 hDo
    try dsimp only at hw
    obtain ⟨rfl, h⟩ := hw
    refine vx_catch (E := "java/lang/IllegalArgumentException") (name := "java/lang/IllegalArgumentException") hown [] ⟨0, 9, 12, 15⟩ [] htab (fun z hz => nomatch hz) (by decide) (by decide) hk_0 (va_Nw.use rfl (hE.2.1.2.2.1 "java/lang/IllegalArgumentException" (by decide))) hce hcv hcl ?_
    refine lv_astore_n (lv' := [(3, .ref q9), (0, .ref (ad 0)), (1, .int p0), (2, .ref ao)]) hx hb dL_days_12 rfl hl (by decide) rfl (fun ls hl => ?_)
    refine lv_iconst (v := 1) hx hb dL_days_13 (by decide) ?_
    exact W.iret (v := 1) hx hb hr (fun t ht hW => ⟨⟨1, (of, today_1, warmth_1, damp_1, g_weight_1, g_salted_1, g_heat_1, g_bad_1), rfl, h, kB_mk hP hK hD ht hW.alike⟩, hS.F ht⟩) hS.2.2 dL_days_14
  · obtain ⟨today_1, warmth_1, damp_1, g_weight_1, g_salted_1, g_heat_1, g_bad_1⟩ := u
    have h := hw
    try dsimp only at h
    obtain ⟨hP, hD⟩ := ks_back1 (w1 := wA ad cB cI cZ cL LP today_1 legCount legs hung warmth_1 damp_1 wopen tsize bytes rat rtold rwrong numbers asked ftold ffarm ffrom fwhat fon csize ctotal offered cws cwa g_number g_farm g_pig g_first g_begun g_weight_1 g_salted_1 g_heat_1 g_place g_target g_feedAsked g_sealed g_bad_1 g_sold) hPo hk1 (by rw [← ht]; exact hB.1) hB.2.2 hDo
    refine lv_i2l (v := r.toInt64) hx hb dL_days_7 rfl ?_
    refine va_last hx hb hK hP hD hS 0 4 rfl rfl (by unfold vp_in; decide) dL_days_8 (fun H locs hP2 hD2 hS => ?_)
    have hP : va_P (dC, dI) vwCl ((ao, .inl (cJ, 1, .inr (.inl (vp_updL of (0 : Int32).toNatClampNeg r.toInt64)))) :: wA ad cB cI cZ cL LP today_1 legCount legs hung warmth_1 damp_1 wopen tsize bytes rat rtold rwrong numbers asked ftold ffarm ffrom fwhat fon csize ctotal offered cws cwa g_number g_farm g_pig g_first g_begun g_weight_1 g_salted_1 g_heat_1 g_place g_target g_feedAsked g_sealed g_bad_1 g_sold) H := hP2
    have hD : va_D A ((ao, .inl (cJ, 1, .inr (.inl (vp_updL of (0 : Int32).toNatClampNeg r.toInt64)))) :: wA ad cB cI cZ cL LP today_1 legCount legs hung warmth_1 damp_1 wopen tsize bytes rat rtold rwrong numbers asked ftold ffarm ffrom fwhat fon csize ctotal offered cws cwa g_number g_farm g_pig g_first g_begun g_weight_1 g_salted_1 g_heat_1 g_place g_target g_feedAsked g_sealed g_bad_1 g_sold) := hD2
    refine lv_goto (tgt := 15) hx hb dL_days_9 (by decide) ?_
    refine lv_iconst (v := 0) hx hb dL_days_15 (by decide) ?_
    exact W.iret (v := 0) hx hb hr (fun t ht hW => ⟨⟨0, (vp_updL of (0 : Int32).toNatClampNeg r.toInt64, today_1, warmth_1, damp_1, g_weight_1, g_salted_1, g_heat_1, g_bad_1), rfl, h, kB_mk hP hK hD ht hW.alike⟩, hS.F ht⟩) hS.2.2 dL_days_16
def wp_H_rules (bytes : Nat → Int32) (Q : Int32 → (Nat → Int64) → Int32 → Int32 → Int32 → Int32 → (Nat → Int32) → (Nat → Int32) → Prop) (of : Nat → Int64) (tsize : Int32) (rat : Int32) (rtold : Int32) (rwrong : Int32) (numbers : Nat → Int32) (asked : Nat → Int32) : Prop := wp_C_X7_rules bytes (fun r tsize rat rtold rwrong numbers asked => Q 0 (vp_updL of (0 : Int32).toNatClampNeg r.toInt64) tsize rat rtold rwrong numbers asked) (fun k tsize rat rtold rwrong numbers asked => (k = 2 ∧ Q 1 of tsize rat rtold rwrong numbers asked)) tsize rat rtold rwrong numbers asked
def rm_H_rules : Room := { frames := 9, cells := 1, slots := 6, locals := 198 }
set_option maxHeartbeats 4000000 in
set_option maxRecDepth 100000 in
theorem c_H_rules (l : Launch) (hl0 : l.stackTraces = false) (dC : Nat → ClassId) (dI : Nat → Nat → Nat) (ad : Nat → Nat) (cB cI cZ cL cJ : ClassId) (A : Nat → Prop) (ao : Nat) (of : Nat → Int64) (LP : List Nat) (today legCount : Int32) (legs hung : Nat → Option Nat) (warmth damp wopen : Nat → Int32) (tsize : Int32) (bytes : Nat → Int32) (rat rtold rwrong : Int32) (numbers asked : Nat → Int32) (ftold : Int32) (ffarm ffrom fwhat fon : Nat → Int32) (csize ctotal : Int32) (offered : Nat → Option Nat) (cws cwa g_number g_farm g_pig g_first g_begun g_weight g_salted g_heat g_place g_target g_feedAsked g_sealed g_bad g_sold : Nat → Int32)   (Q : Int32 → (Nat → Int64) → Int32 → Int32 → Int32 → Int32 → (Nat → Int32) → (Nat → Int32) → Prop) (h : wp_H_rules bytes Q of tsize rat rtold rwrong numbers asked) : Met l yL_rules wsL_rules rm_H_rules (va_Pc [.ref (ad 0), .ref ao] (kH dC dI ad A ((ao, .inl (cJ, 1, .inr (.inl of))) :: wA ad cB cI cZ cL LP today legCount legs hung warmth damp wopen tsize bytes rat rtold rwrong numbers asked ftold ffarm ffrom fwhat fon csize ctotal offered cws cwa g_number g_farm g_pig g_first g_begun g_weight g_salted g_heat g_place g_target g_feedAsked g_sealed g_bad g_sold) (kTyJ cB cI cZ cL cJ))) (va_Qi (fun (r : Int32) (u : (Nat → Int64) × Int32 × Int32 × Int32 × Int32 × (Nat → Int32) × (Nat → Int32)) => Q r u.1 u.2.1 u.2.2.1 u.2.2.2.1 u.2.2.2.2.1 u.2.2.2.2.2.1 u.2.2.2.2.2.2) (fun u t => kB dC dI A ((ao, .inl (cJ, 1, .inr (.inl u.1))) :: wA ad cB cI cZ cL LP today legCount legs hung warmth damp wopen u.2.1 bytes u.2.2.1 u.2.2.2.1 u.2.2.2.2.1 u.2.2.2.2.2.1 u.2.2.2.2.2.2 ftold ffarm ffrom fwhat fon csize ctotal offered cws cwa g_number g_farm g_pig g_first g_begun g_weight g_salted g_heat g_place g_target g_feedAsked g_sealed g_bad g_sold) (kTyJ cB cI cZ cL cJ) t) A) 1 6 A := by
  refine kofWH (cc := cL_rules) (maxL := 3) (ret := (some .int)) (hh := [(0, 8, 11, 15)]) (by decide) rfl ?_
  intro p e s m args below meth c s₁ B hml hv
  obtain ⟨rfl, ⟨hA, hP, hK, hD, hE⟩, hN⟩ := hv
  have hx := B.exec
  have hb := B.bytes
  have hr := B.returns
  have hts := atoms_spec (ws := wsL_rules) B.pre
  have hown : s.vm.findClass RL = some m.cls := findClass_of_methodNamed B.named
  have hlocks := B.notSynchronized
  have hS : va_S A s.heap s.heap [] := va_S.rf
  have htab : c.exceptionTable.toList = [⟨0, 8, 11, 15⟩] := vx_table (x := yL_rules) B (hts (.codeWith yL_rules cL_rules 3 (some .int) [(0, 8, 11, 15)]) (by decide +kernel))
  unfold wp_H_rules at h
  have hk_0 := hts (.classLink RL 15 "java/lang/IllegalArgumentException") (by decide +kernel)
  have hl := lv_entry ([.ref (ad 0), .ref ao]) (n := 3) (Nat.le_of_ble_eq_true rfl)
  rw [lg_entry_eq]
  generalize (lg_sl ([.ref (ad 0), .ref ao]) ++ List.replicate (3 - (lg_sl ([.ref (ad 0), .ref ao])).length) Slot.unset).toArray = ls at hl ⊢
  have hl : lv_has ls 3 [(0, .ref (ad 0)), (1, .ref ao)] := hl
  refine lv_aload_n hx hb dL_rules_0 rfl (lv_at hl 1 rfl) ?_
  refine lv_iconst (v := 0) hx hb dL_rules_1 (by decide) ?_
  refine lv_aload_n hx hb dL_rules_2 rfl (lv_at hl 0 rfl) ?_
  have hPo := k_hd hP
  have hPa := k_tl hP
  have hDa := k_D2 hD
  have hDo := k_Dh hD
  refine vx_calli (vx_runV (As := []) (rest := [.int 0, .ref ao]) ⟨hx, hb, hml, hown, hts⟩ (c_C_X7_rules l hl0 dC dI ad cB cI cZ cL (kM A [(ao, .inl (cJ, 1, .inr (.inl of)))]) LP today legCount legs hung warmth damp wopen tsize bytes rat rtold rwrong numbers asked ftold ffarm ffrom fwhat fon csize ctotal offered cws cwa g_number g_farm g_pig g_first g_begun g_weight g_salted g_heat g_place g_target g_feedAsked g_sealed g_bad g_sold  _ _ h) (cwV 0 hts gL_rules_X7_rules rfl rfl rfl (by decide +kernel) ⟨(Nat.le_of_ble_eq_true rfl), (Nat.le_of_ble_eq_true rfl)⟩) ⟨kC_blind, va_recv (hK.sub (tys' := kTy cB cI cZ cL) [0, 1, 2, 3] rfl) hPa (ci := 7) (q0 := 0) rfl wA_g0, fun U hU hW => ⟨rfl, kC_go2 hA hS hPa hPo (hK.sub (tys' := kTy cB cI cZ cL) [0, 1, 2, 3] rfl) hDa hE U hU hW⟩⟩ rfl rfl hl.1 rfl (lv_room (Nat.le_of_ble_eq_true rfl)) dL_rules_3 ⟨(Nat.le_of_ble_eq_true rfl), (Nat.le_of_ble_eq_true rfl)⟩) hS (fun q _ h => h.1) (fun q h => h.1) (fun q _ h => h.1) (fun E9 ce9 q9 u t H locs ht hvm hw hB hz1 hk1 hS hce hcv hcl => ?_) (fun r u t H locs ht hvm hw hB hz1 hk1 hS => ?_)
  · obtain ⟨k9, tsize_1, rat_1, rtold_1, rwrong_1, numbers_1, asked_1⟩ := u
    obtain ⟨rfl, hB⟩ := hB
    obtain ⟨hP, hD⟩ := ks_back1 (w1 := wA ad cB cI cZ cL LP today legCount legs hung warmth damp wopen tsize_1 bytes rat_1 rtold_1 rwrong_1 numbers_1 asked_1 ftold ffarm ffrom fwhat fon csize ctotal offered cws cwa g_number g_farm g_pig g_first g_begun g_weight g_salted g_heat g_place g_target g_feedAsked g_sealed g_bad g_sold) hPo hk1 (by rw [← ht]; exact hB.1) hB.2.2 hDo
    try dsimp only at hw
    obtain ⟨rfl, h⟩ := hw
    refine vx_catch (E := "java/lang/IllegalArgumentException") (name := "java/lang/IllegalArgumentException") hown [] ⟨0, 8, 11, 15⟩ [] htab (fun z hz => nomatch hz) (by decide) (by decide) hk_0 (va_Nw.use rfl (hE.2.1.2.2.1 "java/lang/IllegalArgumentException" (by decide))) hce hcv hcl ?_
    refine lv_astore_n (lv' := [(2, .ref q9), (0, .ref (ad 0)), (1, .ref ao)]) hx hb dL_rules_11 rfl hl (by decide) rfl (fun ls hl => ?_)
    refine lv_iconst (v := 1) hx hb dL_rules_12 (by decide) ?_
    exact W.iret (v := 1) hx hb hr (fun t ht hW => ⟨⟨1, (of, tsize_1, rat_1, rtold_1, rwrong_1, numbers_1, asked_1), rfl, h, kB_mk hP hK hD ht hW.alike⟩, hS.F ht⟩) hS.2.2 dL_rules_13
  · obtain ⟨tsize_1, rat_1, rtold_1, rwrong_1, numbers_1, asked_1⟩ := u
    have h := hw
    try dsimp only at h
    obtain ⟨hP, hD⟩ := ks_back1 (w1 := wA ad cB cI cZ cL LP today legCount legs hung warmth damp wopen tsize_1 bytes rat_1 rtold_1 rwrong_1 numbers_1 asked_1 ftold ffarm ffrom fwhat fon csize ctotal offered cws cwa g_number g_farm g_pig g_first g_begun g_weight g_salted g_heat g_place g_target g_feedAsked g_sealed g_bad g_sold) hPo hk1 (by rw [← ht]; exact hB.1) hB.2.2 hDo
    refine lv_i2l (v := r.toInt64) hx hb dL_rules_6 rfl ?_
    refine va_last hx hb hK hP hD hS 0 4 rfl rfl (by unfold vp_in; decide) dL_rules_7 (fun H locs hP2 hD2 hS => ?_)
    have hP : va_P (dC, dI) vwCl ((ao, .inl (cJ, 1, .inr (.inl (vp_updL of (0 : Int32).toNatClampNeg r.toInt64)))) :: wA ad cB cI cZ cL LP today legCount legs hung warmth damp wopen tsize_1 bytes rat_1 rtold_1 rwrong_1 numbers_1 asked_1 ftold ffarm ffrom fwhat fon csize ctotal offered cws cwa g_number g_farm g_pig g_first g_begun g_weight g_salted g_heat g_place g_target g_feedAsked g_sealed g_bad g_sold) H := hP2
    have hD : va_D A ((ao, .inl (cJ, 1, .inr (.inl (vp_updL of (0 : Int32).toNatClampNeg r.toInt64)))) :: wA ad cB cI cZ cL LP today legCount legs hung warmth damp wopen tsize_1 bytes rat_1 rtold_1 rwrong_1 numbers_1 asked_1 ftold ffarm ffrom fwhat fon csize ctotal offered cws cwa g_number g_farm g_pig g_first g_begun g_weight g_salted g_heat g_place g_target g_feedAsked g_sealed g_bad g_sold) := hD2
    refine lv_goto (tgt := 14) hx hb dL_rules_8 (by decide) ?_
    refine lv_iconst (v := 0) hx hb dL_rules_14 (by decide) ?_
    exact W.iret (v := 0) hx hb hr (fun t ht hW => ⟨⟨0, (vp_updL of (0 : Int32).toNatClampNeg r.toInt64, tsize_1, rat_1, rtold_1, rwrong_1, numbers_1, asked_1), rfl, h, kB_mk hP hK hD ht hW.alike⟩, hS.F ht⟩) hS.2.2 dL_rules_15
def wp_H_fed (LP : List Nat) (today : Int32) (legs : Nat → Option Nat) (g_farm : Nat → Int32) (g_begun : Nat → Int32) (g_feedAsked : Nat → Int32) (g_sold : Nat → Int32) (Q : Int32 → (Nat → Int64) → Int32 → (Nat → Int32) → (Nat → Int32) → (Nat → Int32) → (Nat → Int32) → (Nat → Int32) → Prop) (of : Nat → Int64) (ftold : Int32) (ffarm : Nat → Int32) (ffrom : Nat → Int32) (fwhat : Nat → Int32) (fon : Nat → Int32) (g_sealed : Nat → Int32) (p0 : Int32) (p1 : Int32) (p2 : Int32) : Prop := wp_C_X7_fed LP today legs g_farm g_begun g_feedAsked g_sold (fun r ftold ffarm ffrom fwhat fon g_sealed => Q 0 (vp_updL of (0 : Int32).toNatClampNeg r.toInt64) ftold ffarm ffrom fwhat fon g_sealed) (fun k ftold ffarm ffrom fwhat fon g_sealed => (k = 1 ∧ Q 1 of ftold ffarm ffrom fwhat fon g_sealed) ∨ (k = 2 ∧ Q 2 of ftold ffarm ffrom fwhat fon g_sealed)) ftold ffarm ffrom fwhat fon g_sealed p0 p1 p2
def rm_H_fed : Room := { frames := 8, cells := 2, slots := 12, locals := 124 }
set_option maxHeartbeats 4000000 in
set_option maxRecDepth 100000 in
theorem c_H_fed (l : Launch) (hl0 : l.stackTraces = false) (dC : Nat → ClassId) (dI : Nat → Nat → Nat) (ad : Nat → Nat) (cB cI cZ cL cJ : ClassId) (A : Nat → Prop) (ao : Nat) (of : Nat → Int64) (LP : List Nat) (today legCount : Int32) (legs hung : Nat → Option Nat) (warmth damp wopen : Nat → Int32) (tsize : Int32) (bytes : Nat → Int32) (rat rtold rwrong : Int32) (numbers asked : Nat → Int32) (ftold : Int32) (ffarm ffrom fwhat fon : Nat → Int32) (csize ctotal : Int32) (offered : Nat → Option Nat) (cws cwa g_number g_farm g_pig g_first g_begun g_weight g_salted g_heat g_place g_target g_feedAsked g_sealed g_bad g_sold : Nat → Int32)  (p0 : Int32) (p1 : Int32) (p2 : Int32) (Q : Int32 → (Nat → Int64) → Int32 → (Nat → Int32) → (Nat → Int32) → (Nat → Int32) → (Nat → Int32) → (Nat → Int32) → Prop) (h : wp_H_fed LP today legs g_farm g_begun g_feedAsked g_sold Q of ftold ffarm ffrom fwhat fon g_sealed p0 p1 p2) : Met l yL_fed wsL_fed rm_H_fed (va_Pc [.ref (ad 0), .int p0, .int p1, .int p2, .ref ao] (kH dC dI ad A ((ao, .inl (cJ, 1, .inr (.inl of))) :: wA ad cB cI cZ cL LP today legCount legs hung warmth damp wopen tsize bytes rat rtold rwrong numbers asked ftold ffarm ffrom fwhat fon csize ctotal offered cws cwa g_number g_farm g_pig g_first g_begun g_weight g_salted g_heat g_place g_target g_feedAsked g_sealed g_bad g_sold) (kTyJ cB cI cZ cL cJ))) (va_Qi (fun (r : Int32) (u : (Nat → Int64) × Int32 × (Nat → Int32) × (Nat → Int32) × (Nat → Int32) × (Nat → Int32) × (Nat → Int32)) => Q r u.1 u.2.1 u.2.2.1 u.2.2.2.1 u.2.2.2.2.1 u.2.2.2.2.2.1 u.2.2.2.2.2.2) (fun u t => kB dC dI A ((ao, .inl (cJ, 1, .inr (.inl u.1))) :: wA ad cB cI cZ cL LP today legCount legs hung warmth damp wopen tsize bytes rat rtold rwrong numbers asked u.2.1 u.2.2.1 u.2.2.2.1 u.2.2.2.2.1 u.2.2.2.2.2.1 csize ctotal offered cws cwa g_number g_farm g_pig g_first g_begun g_weight g_salted g_heat g_place g_target g_feedAsked u.2.2.2.2.2.2 g_bad g_sold) (kTyJ cB cI cZ cL cJ) t) A) 2 12 A := by
  refine kofWH (cc := cL_fed) (maxL := 6) (ret := (some .int)) (hh := [(0, 12, 15, 13), (0, 12, 19, 15)]) (by decide) rfl ?_
  intro p e s m args below meth c s₁ B hml hv
  obtain ⟨rfl, ⟨hA, hP, hK, hD, hE⟩, hN⟩ := hv
  have hx := B.exec
  have hb := B.bytes
  have hr := B.returns
  have hts := atoms_spec (ws := wsL_fed) B.pre
  have hown : s.vm.findClass RL = some m.cls := findClass_of_methodNamed B.named
  have hlocks := B.notSynchronized
  have hS : va_S A s.heap s.heap [] := va_S.rf
  have htab : c.exceptionTable.toList = [⟨0, 12, 15, 13⟩, ⟨0, 12, 19, 15⟩] := vx_table (x := yL_fed) B (hts (.codeWith yL_fed cL_fed 6 (some .int) [(0, 12, 15, 13), (0, 12, 19, 15)]) (by decide +kernel))
  unfold wp_H_fed at h
  have hk_0 := hts (.classLink RL 13 "java/lang/IndexOutOfBoundsException") (by decide +kernel)
  have hk_1 := hts (.classLink RL 15 "java/lang/IllegalArgumentException") (by decide +kernel)
  have hl := lv_entry ([.ref (ad 0), .int p0, .int p1, .int p2, .ref ao]) (n := 6) (Nat.le_of_ble_eq_true rfl)
  rw [lg_entry_eq]
  generalize (lg_sl ([.ref (ad 0), .int p0, .int p1, .int p2, .ref ao]) ++ List.replicate (6 - (lg_sl ([.ref (ad 0), .int p0, .int p1, .int p2, .ref ao])).length) Slot.unset).toArray = ls at hl ⊢
  have hl : lv_has ls 6 [(0, .ref (ad 0)), (1, .int p0), (2, .int p1), (3, .int p2), (4, .ref ao)] := hl
  refine lv_aload hx hb dL_fed_0 (lv_at hl 4 rfl) ?_
  refine lv_iconst (v := 0) hx hb dL_fed_2 (by decide) ?_
  refine lv_aload_n hx hb dL_fed_3 rfl (lv_at hl 0 rfl) ?_
  refine lv_iload_n hx hb dL_fed_4 rfl (lv_at hl 1 rfl) ?_
  refine lv_iload_n hx hb dL_fed_5 rfl (lv_at hl 2 rfl) ?_
  refine lv_iload_n hx hb dL_fed_6 rfl (lv_at hl 3 rfl) ?_
  have hPo := k_hd hP
  have hPa := k_tl hP
  have hDa := k_D2 hD
  have hDo := k_Dh hD
  refine vx_calli (vx_runV (As := [.int p0, .int p1, .int p2]) (rest := [.int 0, .ref ao]) ⟨hx, hb, hml, hown, hts⟩ (c_C_X7_fed l hl0 dC dI ad cB cI cZ cL (kM A [(ao, .inl (cJ, 1, .inr (.inl of)))]) LP today legCount legs hung warmth damp wopen tsize bytes rat rtold rwrong numbers asked ftold ffarm ffrom fwhat fon csize ctotal offered cws cwa g_number g_farm g_pig g_first g_begun g_weight g_salted g_heat g_place g_target g_feedAsked g_sealed g_bad g_sold p0 p1 p2 _ _ h) (cwV 3 hts gL_fed_X7_fed rfl rfl rfl (by decide +kernel) ⟨(Nat.le_of_ble_eq_true rfl), (Nat.le_of_ble_eq_true rfl)⟩) ⟨kC_blind, va_recv (hK.sub (tys' := kTy cB cI cZ cL) [0, 1, 2, 3] rfl) hPa (ci := 7) (q0 := 0) rfl wA_g0, fun U hU hW => ⟨rfl, kC_go2 hA hS hPa hPo (hK.sub (tys' := kTy cB cI cZ cL) [0, 1, 2, 3] rfl) hDa hE U hU hW⟩⟩ rfl rfl hl.1 rfl (lv_room (Nat.le_of_ble_eq_true rfl)) dL_fed_7 ⟨(Nat.le_of_ble_eq_true rfl), (Nat.le_of_ble_eq_true rfl)⟩) hS (fun q _ h => h.1) (fun q h => h.1) (fun q _ h => h.1) (fun E9 ce9 q9 u t H locs ht hvm hw hB hz1 hk1 hS hce hcv hcl => ?_) (fun r u t H locs ht hvm hw hB hz1 hk1 hS => ?_)
  · obtain ⟨k9, ftold_1, ffarm_1, ffrom_1, fwhat_1, fon_1, g_sealed_1⟩ := u
    obtain ⟨rfl, hB⟩ := hB
    obtain ⟨hP, hD⟩ := ks_back1 (w1 := wA ad cB cI cZ cL LP today legCount legs hung warmth damp wopen tsize bytes rat rtold rwrong numbers asked ftold_1 ffarm_1 ffrom_1 fwhat_1 fon_1 csize ctotal offered cws cwa g_number g_farm g_pig g_first g_begun g_weight g_salted g_heat g_place g_target g_feedAsked g_sealed_1 g_bad g_sold) hPo hk1 (by rw [← ht]; exact hB.1) hB.2.2 hDo
    try dsimp only at hw
    rcases hw with ⟨rfl, h⟩ | ⟨rfl, h⟩
    · refine vx_catch (E := "java/lang/IndexOutOfBoundsException") (name := "java/lang/IndexOutOfBoundsException") hown [] ⟨0, 12, 15, 13⟩ [⟨0, 12, 19, 15⟩] htab (fun z hz => nomatch hz) (by decide) (by decide) hk_0 (va_Nw.use rfl (hE.2.1.2.2.1 "java/lang/IndexOutOfBoundsException" (by decide))) hce hcv hcl ?_
      refine lv_astore (lv' := [(5, .ref q9), (0, .ref (ad 0)), (1, .int p0), (2, .int p1), (3, .int p2), (4, .ref ao)]) hx hb dL_fed_15 hl (by decide) rfl (fun ls hl => ?_)
      refine lv_iconst (v := 1) hx hb dL_fed_17 (by decide) ?_
      exact W.iret (v := 1) hx hb hr (fun t ht hW => ⟨⟨1, (of, ftold_1, ffarm_1, ffrom_1, fwhat_1, fon_1, g_sealed_1), rfl, h, kB_mk hP hK hD ht hW.alike⟩, hS.F ht⟩) hS.2.2 dL_fed_18
    · refine vx_catch (E := "java/lang/IllegalArgumentException") (name := "java/lang/IllegalArgumentException") hown [⟨0, 12, 15, 13⟩] ⟨0, 12, 19, 15⟩ [] htab (fun z hz => by cases List.mem_singleton.mp hz; exact Or.inr ⟨by decide, "java/lang/IndexOutOfBoundsException", hk_0, hN.1⟩) (by decide) (by decide) hk_1 (va_Nw.use rfl (hE.2.1.2.2.1 "java/lang/IllegalArgumentException" (by decide))) hce hcv hcl ?_
      refine lv_astore (lv' := [(5, .ref q9), (0, .ref (ad 0)), (1, .int p0), (2, .int p1), (3, .int p2), (4, .ref ao)]) hx hb dL_fed_19 hl (by decide) rfl (fun ls hl => ?_)
      refine lv_iconst (v := 2) hx hb dL_fed_21 (by decide) ?_
      exact W.iret (v := 2) hx hb hr (fun t ht hW => ⟨⟨2, (of, ftold_1, ffarm_1, ffrom_1, fwhat_1, fon_1, g_sealed_1), rfl, h, kB_mk hP hK hD ht hW.alike⟩, hS.F ht⟩) hS.2.2 dL_fed_22
  · obtain ⟨ftold_1, ffarm_1, ffrom_1, fwhat_1, fon_1, g_sealed_1⟩ := u
    have h := hw
    try dsimp only at h
    obtain ⟨hP, hD⟩ := ks_back1 (w1 := wA ad cB cI cZ cL LP today legCount legs hung warmth damp wopen tsize bytes rat rtold rwrong numbers asked ftold_1 ffarm_1 ffrom_1 fwhat_1 fon_1 csize ctotal offered cws cwa g_number g_farm g_pig g_first g_begun g_weight g_salted g_heat g_place g_target g_feedAsked g_sealed_1 g_bad g_sold) hPo hk1 (by rw [← ht]; exact hB.1) hB.2.2 hDo
    refine lv_i2l (v := r.toInt64) hx hb dL_fed_10 rfl ?_
    refine va_last hx hb hK hP hD hS 0 4 rfl rfl (by unfold vp_in; decide) dL_fed_11 (fun H locs hP2 hD2 hS => ?_)
    have hP : va_P (dC, dI) vwCl ((ao, .inl (cJ, 1, .inr (.inl (vp_updL of (0 : Int32).toNatClampNeg r.toInt64)))) :: wA ad cB cI cZ cL LP today legCount legs hung warmth damp wopen tsize bytes rat rtold rwrong numbers asked ftold_1 ffarm_1 ffrom_1 fwhat_1 fon_1 csize ctotal offered cws cwa g_number g_farm g_pig g_first g_begun g_weight g_salted g_heat g_place g_target g_feedAsked g_sealed_1 g_bad g_sold) H := hP2
    have hD : va_D A ((ao, .inl (cJ, 1, .inr (.inl (vp_updL of (0 : Int32).toNatClampNeg r.toInt64)))) :: wA ad cB cI cZ cL LP today legCount legs hung warmth damp wopen tsize bytes rat rtold rwrong numbers asked ftold_1 ffarm_1 ffrom_1 fwhat_1 fon_1 csize ctotal offered cws cwa g_number g_farm g_pig g_first g_begun g_weight g_salted g_heat g_place g_target g_feedAsked g_sealed_1 g_bad g_sold) := hD2
    refine lv_goto (tgt := 23) hx hb dL_fed_12 (by decide) ?_
    refine lv_iconst (v := 0) hx hb dL_fed_23 (by decide) ?_
    exact W.iret (v := 0) hx hb hr (fun t ht hW => ⟨⟨0, (vp_updL of (0 : Int32).toNatClampNeg r.toInt64, ftold_1, ffarm_1, ffrom_1, fwhat_1, fon_1, g_sealed_1), rfl, h, kB_mk hP hK hD ht hW.alike⟩, hS.F ht⟩) hS.2.2 dL_fed_24
def wp_H_known (ftold : Int32) (ffarm : Nat → Int32) (ffrom : Nat → Int32) (fwhat : Nat → Int32) (fon : Nat → Int32) (Q : Int32 → (Nat → Int64) → Prop) (of : Nat → Int64) (p0 : Int32) (p1 : Int32) (p2 : Int32) : Prop := wp_C_X7_known ftold ffarm ffrom fwhat fon (fun r => Q 0 (vp_updL of (0 : Int32).toNatClampNeg r.toInt64)) (fun k => (k = 1 ∧ Q 1 of)) p0 p1 p2
def rm_H_known : Room := { frames := 8, cells := 1, slots := 6, locals := 124 }
set_option maxHeartbeats 4000000 in
set_option maxRecDepth 100000 in
theorem c_H_known (l : Launch) (hl0 : l.stackTraces = false) (dC : Nat → ClassId) (dI : Nat → Nat → Nat) (ad : Nat → Nat) (cB cI cZ cL cJ : ClassId) (A : Nat → Prop) (ao : Nat) (of : Nat → Int64) (LP : List Nat) (today legCount : Int32) (legs hung : Nat → Option Nat) (warmth damp wopen : Nat → Int32) (tsize : Int32) (bytes : Nat → Int32) (rat rtold rwrong : Int32) (numbers asked : Nat → Int32) (ftold : Int32) (ffarm ffrom fwhat fon : Nat → Int32) (csize ctotal : Int32) (offered : Nat → Option Nat) (cws cwa g_number g_farm g_pig g_first g_begun g_weight g_salted g_heat g_place g_target g_feedAsked g_sealed g_bad g_sold : Nat → Int32)  (p0 : Int32) (p1 : Int32) (p2 : Int32) (Q : Int32 → (Nat → Int64) → Prop) (h : wp_H_known ftold ffarm ffrom fwhat fon Q of p0 p1 p2) : Met l yL_known wsL_known rm_H_known (va_Pc [.ref (ad 0), .int p0, .int p1, .int p2, .ref ao] (kH dC dI ad A ((ao, .inl (cJ, 1, .inr (.inl of))) :: wA ad cB cI cZ cL LP today legCount legs hung warmth damp wopen tsize bytes rat rtold rwrong numbers asked ftold ffarm ffrom fwhat fon csize ctotal offered cws cwa g_number g_farm g_pig g_first g_begun g_weight g_salted g_heat g_place g_target g_feedAsked g_sealed g_bad g_sold) (kTyJ cB cI cZ cL cJ))) (va_Qi (fun (r : Int32) (u : (Nat → Int64)) => Q r u) (fun u t => kB dC dI A ((ao, .inl (cJ, 1, .inr (.inl u))) :: wA ad cB cI cZ cL LP today legCount legs hung warmth damp wopen tsize bytes rat rtold rwrong numbers asked ftold ffarm ffrom fwhat fon csize ctotal offered cws cwa g_number g_farm g_pig g_first g_begun g_weight g_salted g_heat g_place g_target g_feedAsked g_sealed g_bad g_sold) (kTyJ cB cI cZ cL cJ) t) A) 1 6 A := by
  refine kofWH (cc := cL_known) (maxL := 6) (ret := (some .int)) (hh := [(0, 12, 15, 13)]) (by decide) rfl ?_
  intro p e s m args below meth c s₁ B hml hv
  obtain ⟨rfl, ⟨hA, hP, hK, hD, hE⟩, hN⟩ := hv
  have hx := B.exec
  have hb := B.bytes
  have hr := B.returns
  have hts := atoms_spec (ws := wsL_known) B.pre
  have hown : s.vm.findClass RL = some m.cls := findClass_of_methodNamed B.named
  have hlocks := B.notSynchronized
  have hS : va_S A s.heap s.heap [] := va_S.rf
  have htab : c.exceptionTable.toList = [⟨0, 12, 15, 13⟩] := vx_table (x := yL_known) B (hts (.codeWith yL_known cL_known 6 (some .int) [(0, 12, 15, 13)]) (by decide +kernel))
  unfold wp_H_known at h
  have hk_0 := hts (.classLink RL 13 "java/lang/IndexOutOfBoundsException") (by decide +kernel)
  have hl := lv_entry ([.ref (ad 0), .int p0, .int p1, .int p2, .ref ao]) (n := 6) (Nat.le_of_ble_eq_true rfl)
  rw [lg_entry_eq]
  generalize (lg_sl ([.ref (ad 0), .int p0, .int p1, .int p2, .ref ao]) ++ List.replicate (6 - (lg_sl ([.ref (ad 0), .int p0, .int p1, .int p2, .ref ao])).length) Slot.unset).toArray = ls at hl ⊢
  have hl : lv_has ls 6 [(0, .ref (ad 0)), (1, .int p0), (2, .int p1), (3, .int p2), (4, .ref ao)] := hl
  refine lv_aload hx hb dL_known_0 (lv_at hl 4 rfl) ?_
  refine lv_iconst (v := 0) hx hb dL_known_2 (by decide) ?_
  refine lv_aload_n hx hb dL_known_3 rfl (lv_at hl 0 rfl) ?_
  refine lv_iload_n hx hb dL_known_4 rfl (lv_at hl 1 rfl) ?_
  refine lv_iload_n hx hb dL_known_5 rfl (lv_at hl 2 rfl) ?_
  refine lv_iload_n hx hb dL_known_6 rfl (lv_at hl 3 rfl) ?_
  have hPo := k_hd hP
  have hPa := k_tl hP
  have hDa := k_D2 hD
  have hDo := k_Dh hD
  refine vx_calli (vx_runV (As := [.int p0, .int p1, .int p2]) (rest := [.int 0, .ref ao]) ⟨hx, hb, hml, hown, hts⟩ (c_C_X7_known l hl0 dC dI ad cB cI cZ cL (kM A [(ao, .inl (cJ, 1, .inr (.inl of)))]) LP today legCount legs hung warmth damp wopen tsize bytes rat rtold rwrong numbers asked ftold ffarm ffrom fwhat fon csize ctotal offered cws cwa g_number g_farm g_pig g_first g_begun g_weight g_salted g_heat g_place g_target g_feedAsked g_sealed g_bad g_sold p0 p1 p2 _ _ h) (cwV 3 hts gL_known_X7_known rfl rfl rfl (by decide +kernel) ⟨(Nat.le_of_ble_eq_true rfl), (Nat.le_of_ble_eq_true rfl)⟩) ⟨kC_blind, va_recv (hK.sub (tys' := kTy cB cI cZ cL) [0, 1, 2, 3] rfl) hPa (ci := 7) (q0 := 0) rfl wA_g0, fun U hU hW => ⟨rfl, kC_go2 hA hS hPa hPo (hK.sub (tys' := kTy cB cI cZ cL) [0, 1, 2, 3] rfl) hDa hE U hU hW⟩⟩ rfl rfl hl.1 rfl (lv_room (Nat.le_of_ble_eq_true rfl)) dL_known_7 ⟨(Nat.le_of_ble_eq_true rfl), (Nat.le_of_ble_eq_true rfl)⟩) hS (fun q _ h => h.1) (fun q h => h.1) (fun q _ h => h.1) (fun E9 ce9 q9 u t H locs ht hvm hw hB hz1 hk1 hS hce hcv hcl => ?_) (fun r u t H locs ht hvm hw hB hz1 hk1 hS => ?_)
  · obtain ⟨k9, rfl⟩ : ∃ z, z = u := ⟨_, rfl⟩
    obtain ⟨rfl, hB⟩ := hB
    obtain ⟨hP, hD⟩ := ks_back1 (w1 := wA ad cB cI cZ cL LP today legCount legs hung warmth damp wopen tsize bytes rat rtold rwrong numbers asked ftold ffarm ffrom fwhat fon csize ctotal offered cws cwa g_number g_farm g_pig g_first g_begun g_weight g_salted g_heat g_place g_target g_feedAsked g_sealed g_bad g_sold) hPo hk1 (by rw [← ht]; exact hB.1) hB.2.2 hDo
    try dsimp only at hw
    obtain ⟨rfl, h⟩ := hw
    refine vx_catch (E := "java/lang/IndexOutOfBoundsException") (name := "java/lang/IndexOutOfBoundsException") hown [] ⟨0, 12, 15, 13⟩ [] htab (fun z hz => nomatch hz) (by decide) (by decide) hk_0 (va_Nw.use rfl (hE.2.1.2.2.1 "java/lang/IndexOutOfBoundsException" (by decide))) hce hcv hcl ?_
    refine lv_astore (lv' := [(5, .ref q9), (0, .ref (ad 0)), (1, .int p0), (2, .int p1), (3, .int p2), (4, .ref ao)]) hx hb dL_known_15 hl (by decide) rfl (fun ls hl => ?_)
    refine lv_iconst (v := 1) hx hb dL_known_17 (by decide) ?_
    exact W.iret (v := 1) hx hb hr (fun t ht hW => ⟨⟨1, (of), rfl, h, kB_mk hP hK hD ht hW.alike⟩, hS.F ht⟩) hS.2.2 dL_known_18
  · have h := hw
    try dsimp only at h
    obtain ⟨hP, hD⟩ := ks_back1 (w1 := wA ad cB cI cZ cL LP today legCount legs hung warmth damp wopen tsize bytes rat rtold rwrong numbers asked ftold ffarm ffrom fwhat fon csize ctotal offered cws cwa g_number g_farm g_pig g_first g_begun g_weight g_salted g_heat g_place g_target g_feedAsked g_sealed g_bad g_sold) hPo hk1 (by rw [← ht]; exact hB.1) hB.2.2 hDo
    refine lv_i2l (v := r.toInt64) hx hb dL_known_10 rfl ?_
    refine va_last hx hb hK hP hD hS 0 4 rfl rfl (by unfold vp_in; decide) dL_known_11 (fun H locs hP2 hD2 hS => ?_)
    have hP : va_P (dC, dI) vwCl ((ao, .inl (cJ, 1, .inr (.inl (vp_updL of (0 : Int32).toNatClampNeg r.toInt64)))) :: wA ad cB cI cZ cL LP today legCount legs hung warmth damp wopen tsize bytes rat rtold rwrong numbers asked ftold ffarm ffrom fwhat fon csize ctotal offered cws cwa g_number g_farm g_pig g_first g_begun g_weight g_salted g_heat g_place g_target g_feedAsked g_sealed g_bad g_sold) H := hP2
    have hD : va_D A ((ao, .inl (cJ, 1, .inr (.inl (vp_updL of (0 : Int32).toNatClampNeg r.toInt64)))) :: wA ad cB cI cZ cL LP today legCount legs hung warmth damp wopen tsize bytes rat rtold rwrong numbers asked ftold ffarm ffrom fwhat fon csize ctotal offered cws cwa g_number g_farm g_pig g_first g_begun g_weight g_salted g_heat g_place g_target g_feedAsked g_sealed g_bad g_sold) := hD2
    refine lv_goto (tgt := 19) hx hb dL_known_12 (by decide) ?_
    refine lv_iconst (v := 0) hx hb dL_known_19 (by decide) ?_
    exact W.iret (v := 0) hx hb hr (fun t ht hW => ⟨⟨0, (vp_updL of (0 : Int32).toNatClampNeg r.toInt64), rfl, h, kB_mk hP hK hD ht hW.alike⟩, hS.F ht⟩) hS.2.2 dL_known_20
def wp_H_seal (LP : List Nat) (today : Int32) (legs : Nat → Option Nat) (asked : Nat → Int32) (ftold : Int32) (ffarm : Nat → Int32) (ffrom : Nat → Int32) (fwhat : Nat → Int32) (fon : Nat → Int32) (g_farm : Nat → Int32) (g_first : Nat → Int32) (g_begun : Nat → Int32) (g_weight : Nat → Int32) (g_salted : Nat → Int32) (g_bad : Nat → Int32) (g_sold : Nat → Int32) (Q : Int32 → (Nat → Int64) → (Nat → Int32) → (Nat → Int32) → Prop) (of : Nat → Int64) (g_feedAsked : Nat → Int32) (g_sealed : Nat → Int32) (p0 : Int32) : Prop := wp_C_X7_seal LP today legs asked ftold ffarm ffrom fwhat fon g_farm g_first g_begun g_weight g_salted g_bad g_sold (fun r g_feedAsked g_sealed => Q 0 (vp_updL of (0 : Int32).toNatClampNeg r.toInt64) g_feedAsked g_sealed) (fun k g_feedAsked g_sealed => (k = 1 ∧ Q 1 of g_feedAsked g_sealed)) g_feedAsked g_sealed p0
def rm_H_seal : Room := { frames := 8, cells := 1, slots := 6, locals := 126 }
set_option maxHeartbeats 4000000 in
set_option maxRecDepth 100000 in
theorem c_H_seal (l : Launch) (hl0 : l.stackTraces = false) (dC : Nat → ClassId) (dI : Nat → Nat → Nat) (ad : Nat → Nat) (cB cI cZ cL cJ : ClassId) (A : Nat → Prop) (ao : Nat) (of : Nat → Int64) (LP : List Nat) (today legCount : Int32) (legs hung : Nat → Option Nat) (warmth damp wopen : Nat → Int32) (tsize : Int32) (bytes : Nat → Int32) (rat rtold rwrong : Int32) (numbers asked : Nat → Int32) (ftold : Int32) (ffarm ffrom fwhat fon : Nat → Int32) (csize ctotal : Int32) (offered : Nat → Option Nat) (cws cwa g_number g_farm g_pig g_first g_begun g_weight g_salted g_heat g_place g_target g_feedAsked g_sealed g_bad g_sold : Nat → Int32)  (p0 : Int32) (Q : Int32 → (Nat → Int64) → (Nat → Int32) → (Nat → Int32) → Prop) (h : wp_H_seal LP today legs asked ftold ffarm ffrom fwhat fon g_farm g_first g_begun g_weight g_salted g_bad g_sold Q of g_feedAsked g_sealed p0) : Met l yL_seal wsL_seal rm_H_seal (va_Pc [.ref (ad 0), .int p0, .ref ao] (kH dC dI ad A ((ao, .inl (cJ, 1, .inr (.inl of))) :: wA ad cB cI cZ cL LP today legCount legs hung warmth damp wopen tsize bytes rat rtold rwrong numbers asked ftold ffarm ffrom fwhat fon csize ctotal offered cws cwa g_number g_farm g_pig g_first g_begun g_weight g_salted g_heat g_place g_target g_feedAsked g_sealed g_bad g_sold) (kTyJ cB cI cZ cL cJ))) (va_Qi (fun (r : Int32) (u : (Nat → Int64) × (Nat → Int32) × (Nat → Int32)) => Q r u.1 u.2.1 u.2.2) (fun u t => kB dC dI A ((ao, .inl (cJ, 1, .inr (.inl u.1))) :: wA ad cB cI cZ cL LP today legCount legs hung warmth damp wopen tsize bytes rat rtold rwrong numbers asked ftold ffarm ffrom fwhat fon csize ctotal offered cws cwa g_number g_farm g_pig g_first g_begun g_weight g_salted g_heat g_place g_target u.2.1 u.2.2 g_bad g_sold) (kTyJ cB cI cZ cL cJ) t) A) 1 6 A := by
  refine kofWH (cc := cL_seal) (maxL := 4) (ret := (some .int)) (hh := [(0, 9, 12, 13)]) (by decide) rfl ?_
  intro p e s m args below meth c s₁ B hml hv
  obtain ⟨rfl, ⟨hA, hP, hK, hD, hE⟩, hN⟩ := hv
  have hx := B.exec
  have hb := B.bytes
  have hr := B.returns
  have hts := atoms_spec (ws := wsL_seal) B.pre
  have hown : s.vm.findClass RL = some m.cls := findClass_of_methodNamed B.named
  have hlocks := B.notSynchronized
  have hS : va_S A s.heap s.heap [] := va_S.rf
  have htab : c.exceptionTable.toList = [⟨0, 9, 12, 13⟩] := vx_table (x := yL_seal) B (hts (.codeWith yL_seal cL_seal 4 (some .int) [(0, 9, 12, 13)]) (by decide +kernel))
  unfold wp_H_seal at h
  have hk_0 := hts (.classLink RL 13 "java/lang/IndexOutOfBoundsException") (by decide +kernel)
  have hl := lv_entry ([.ref (ad 0), .int p0, .ref ao]) (n := 4) (Nat.le_of_ble_eq_true rfl)
  rw [lg_entry_eq]
  generalize (lg_sl ([.ref (ad 0), .int p0, .ref ao]) ++ List.replicate (4 - (lg_sl ([.ref (ad 0), .int p0, .ref ao])).length) Slot.unset).toArray = ls at hl ⊢
  have hl : lv_has ls 4 [(0, .ref (ad 0)), (1, .int p0), (2, .ref ao)] := hl
  refine lv_aload_n hx hb dL_seal_0 rfl (lv_at hl 2 rfl) ?_
  refine lv_iconst (v := 0) hx hb dL_seal_1 (by decide) ?_
  refine lv_aload_n hx hb dL_seal_2 rfl (lv_at hl 0 rfl) ?_
  refine lv_iload_n hx hb dL_seal_3 rfl (lv_at hl 1 rfl) ?_
  have hPo := k_hd hP
  have hPa := k_tl hP
  have hDa := k_D2 hD
  have hDo := k_Dh hD
  refine vx_calli (vx_runV (As := [.int p0]) (rest := [.int 0, .ref ao]) ⟨hx, hb, hml, hown, hts⟩ (c_C_X7_seal l hl0 dC dI ad cB cI cZ cL (kM A [(ao, .inl (cJ, 1, .inr (.inl of)))]) LP today legCount legs hung warmth damp wopen tsize bytes rat rtold rwrong numbers asked ftold ffarm ffrom fwhat fon csize ctotal offered cws cwa g_number g_farm g_pig g_first g_begun g_weight g_salted g_heat g_place g_target g_feedAsked g_sealed g_bad g_sold p0 _ _ h) (cwV 1 hts gL_seal_X7_seal rfl rfl rfl (by decide +kernel) ⟨(Nat.le_of_ble_eq_true rfl), (Nat.le_of_ble_eq_true rfl)⟩) ⟨kC_blind, va_recv (hK.sub (tys' := kTy cB cI cZ cL) [0, 1, 2, 3] rfl) hPa (ci := 7) (q0 := 0) rfl wA_g0, fun U hU hW => ⟨rfl, kC_go2 hA hS hPa hPo (hK.sub (tys' := kTy cB cI cZ cL) [0, 1, 2, 3] rfl) hDa hE U hU hW⟩⟩ rfl rfl hl.1 rfl (lv_room (Nat.le_of_ble_eq_true rfl)) dL_seal_4 ⟨(Nat.le_of_ble_eq_true rfl), (Nat.le_of_ble_eq_true rfl)⟩) hS (fun q _ h => h.1) (fun q h => h.1) (fun q _ h => h.1) (fun E9 ce9 q9 u t H locs ht hvm hw hB hz1 hk1 hS hce hcv hcl => ?_) (fun r u t H locs ht hvm hw hB hz1 hk1 hS => ?_)
  · obtain ⟨k9, g_feedAsked_1, g_sealed_1⟩ := u
    obtain ⟨rfl, hB⟩ := hB
    obtain ⟨hP, hD⟩ := ks_back1 (w1 := wA ad cB cI cZ cL LP today legCount legs hung warmth damp wopen tsize bytes rat rtold rwrong numbers asked ftold ffarm ffrom fwhat fon csize ctotal offered cws cwa g_number g_farm g_pig g_first g_begun g_weight g_salted g_heat g_place g_target g_feedAsked_1 g_sealed_1 g_bad g_sold) hPo hk1 (by rw [← ht]; exact hB.1) hB.2.2 hDo
    try dsimp only at hw
    obtain ⟨rfl, h⟩ := hw
    refine vx_catch (E := "java/lang/IndexOutOfBoundsException") (name := "java/lang/IndexOutOfBoundsException") hown [] ⟨0, 9, 12, 13⟩ [] htab (fun z hz => nomatch hz) (by decide) (by decide) hk_0 (va_Nw.use rfl (hE.2.1.2.2.1 "java/lang/IndexOutOfBoundsException" (by decide))) hce hcv hcl ?_
    refine lv_astore_n (lv' := [(3, .ref q9), (0, .ref (ad 0)), (1, .int p0), (2, .ref ao)]) hx hb dL_seal_12 rfl hl (by decide) rfl (fun ls hl => ?_)
    refine lv_iconst (v := 1) hx hb dL_seal_13 (by decide) ?_
    exact W.iret (v := 1) hx hb hr (fun t ht hW => ⟨⟨1, (of, g_feedAsked_1, g_sealed_1), rfl, h, kB_mk hP hK hD ht hW.alike⟩, hS.F ht⟩) hS.2.2 dL_seal_14
  · obtain ⟨g_feedAsked_1, g_sealed_1⟩ := u
    have h := hw
    try dsimp only at h
    obtain ⟨hP, hD⟩ := ks_back1 (w1 := wA ad cB cI cZ cL LP today legCount legs hung warmth damp wopen tsize bytes rat rtold rwrong numbers asked ftold ffarm ffrom fwhat fon csize ctotal offered cws cwa g_number g_farm g_pig g_first g_begun g_weight g_salted g_heat g_place g_target g_feedAsked_1 g_sealed_1 g_bad g_sold) hPo hk1 (by rw [← ht]; exact hB.1) hB.2.2 hDo
    refine lv_i2l (v := r.toInt64) hx hb dL_seal_7 rfl ?_
    refine va_last hx hb hK hP hD hS 0 4 rfl rfl (by unfold vp_in; decide) dL_seal_8 (fun H locs hP2 hD2 hS => ?_)
    have hP : va_P (dC, dI) vwCl ((ao, .inl (cJ, 1, .inr (.inl (vp_updL of (0 : Int32).toNatClampNeg r.toInt64)))) :: wA ad cB cI cZ cL LP today legCount legs hung warmth damp wopen tsize bytes rat rtold rwrong numbers asked ftold ffarm ffrom fwhat fon csize ctotal offered cws cwa g_number g_farm g_pig g_first g_begun g_weight g_salted g_heat g_place g_target g_feedAsked_1 g_sealed_1 g_bad g_sold) H := hP2
    have hD : va_D A ((ao, .inl (cJ, 1, .inr (.inl (vp_updL of (0 : Int32).toNatClampNeg r.toInt64)))) :: wA ad cB cI cZ cL LP today legCount legs hung warmth damp wopen tsize bytes rat rtold rwrong numbers asked ftold ffarm ffrom fwhat fon csize ctotal offered cws cwa g_number g_farm g_pig g_first g_begun g_weight g_salted g_heat g_place g_target g_feedAsked_1 g_sealed_1 g_bad g_sold) := hD2
    refine lv_goto (tgt := 15) hx hb dL_seal_9 (by decide) ?_
    refine lv_iconst (v := 0) hx hb dL_seal_15 (by decide) ?_
    exact W.iret (v := 0) hx hb hr (fun t ht hW => ⟨⟨0, (vp_updL of (0 : Int32).toNatClampNeg r.toInt64, g_feedAsked_1, g_sealed_1), rfl, h, kB_mk hP hK hD ht hW.alike⟩, hS.F ht⟩) hS.2.2 dL_seal_16
def wp_H_look (LP : List Nat) (legs : Nat → Option Nat) (g_farm : Nat → Int32) (g_pig : Nat → Int32) (g_first : Nat → Int32) (g_begun : Nat → Int32) (g_weight : Nat → Int32) (g_salted : Nat → Int32) (g_heat : Nat → Int32) (g_place : Nat → Int32) (g_sealed : Nat → Int32) (g_bad : Nat → Int32) (g_sold : Nat → Int32) (Q : Int32 → (Nat → Int64) → Prop) (of : Nat → Int64) (p0 : Int32) (p1 : Int32) : Prop := wp_C_X7_look LP legs g_farm g_pig g_first g_begun g_weight g_salted g_heat g_place g_sealed g_bad g_sold (fun r => Q 0 (vp_updL of (0 : Int32).toNatClampNeg r.toInt64)) (fun k => (k = 1 ∧ Q 1 of) ∨ (k = 4 ∧ Q 2 of)) p0 p1
def rm_H_look : Room := { frames := 8, cells := 2, slots := 12, locals := 126 }
set_option maxHeartbeats 4000000 in
set_option maxRecDepth 100000 in
theorem c_H_look (l : Launch) (hl0 : l.stackTraces = false) (dC : Nat → ClassId) (dI : Nat → Nat → Nat) (ad : Nat → Nat) (cB cI cZ cL cJ : ClassId) (A : Nat → Prop) (ao : Nat) (of : Nat → Int64) (LP : List Nat) (today legCount : Int32) (legs hung : Nat → Option Nat) (warmth damp wopen : Nat → Int32) (tsize : Int32) (bytes : Nat → Int32) (rat rtold rwrong : Int32) (numbers asked : Nat → Int32) (ftold : Int32) (ffarm ffrom fwhat fon : Nat → Int32) (csize ctotal : Int32) (offered : Nat → Option Nat) (cws cwa g_number g_farm g_pig g_first g_begun g_weight g_salted g_heat g_place g_target g_feedAsked g_sealed g_bad g_sold : Nat → Int32)  (p0 : Int32) (p1 : Int32) (Q : Int32 → (Nat → Int64) → Prop) (h : wp_H_look LP legs g_farm g_pig g_first g_begun g_weight g_salted g_heat g_place g_sealed g_bad g_sold Q of p0 p1) : Met l yL_look wsL_look rm_H_look (va_Pc [.ref (ad 0), .int p0, .int p1, .ref ao] (kH dC dI ad A ((ao, .inl (cJ, 1, .inr (.inl of))) :: wA ad cB cI cZ cL LP today legCount legs hung warmth damp wopen tsize bytes rat rtold rwrong numbers asked ftold ffarm ffrom fwhat fon csize ctotal offered cws cwa g_number g_farm g_pig g_first g_begun g_weight g_salted g_heat g_place g_target g_feedAsked g_sealed g_bad g_sold) (kTyJ cB cI cZ cL cJ))) (va_Qi (fun (r : Int32) (u : (Nat → Int64)) => Q r u) (fun u t => kB dC dI A ((ao, .inl (cJ, 1, .inr (.inl u))) :: wA ad cB cI cZ cL LP today legCount legs hung warmth damp wopen tsize bytes rat rtold rwrong numbers asked ftold ffarm ffrom fwhat fon csize ctotal offered cws cwa g_number g_farm g_pig g_first g_begun g_weight g_salted g_heat g_place g_target g_feedAsked g_sealed g_bad g_sold) (kTyJ cB cI cZ cL cJ) t) A) 2 12 A := by
  refine kofWH (cc := cL_look) (maxL := 5) (ret := (some .int)) (hh := [(0, 10, 13, 13), (0, 10, 17, 56)]) (by decide) rfl ?_
  intro p e s m args below meth c s₁ B hml hv
  obtain ⟨rfl, ⟨hA, hP, hK, hD, hE⟩, hN⟩ := hv
  have hx := B.exec
  have hb := B.bytes
  have hr := B.returns
  have hts := atoms_spec (ws := wsL_look) B.pre
  have hown : s.vm.findClass RL = some m.cls := findClass_of_methodNamed B.named
  have hlocks := B.notSynchronized
  have hS : va_S A s.heap s.heap [] := va_S.rf
  have htab : c.exceptionTable.toList = [⟨0, 10, 13, 13⟩, ⟨0, 10, 17, 56⟩] := vx_table (x := yL_look) B (hts (.codeWith yL_look cL_look 5 (some .int) [(0, 10, 13, 13), (0, 10, 17, 56)]) (by decide +kernel))
  unfold wp_H_look at h
  have hk_0 := hts (.classLink RL 13 "java/lang/IndexOutOfBoundsException") (by decide +kernel)
  have hk_1 := hts (.classLink RL 56 "java/util/NoSuchElementException") (by decide +kernel)
  have hl := lv_entry ([.ref (ad 0), .int p0, .int p1, .ref ao]) (n := 5) (Nat.le_of_ble_eq_true rfl)
  rw [lg_entry_eq]
  generalize (lg_sl ([.ref (ad 0), .int p0, .int p1, .ref ao]) ++ List.replicate (5 - (lg_sl ([.ref (ad 0), .int p0, .int p1, .ref ao])).length) Slot.unset).toArray = ls at hl ⊢
  have hl : lv_has ls 5 [(0, .ref (ad 0)), (1, .int p0), (2, .int p1), (3, .ref ao)] := hl
  refine lv_aload_n hx hb dL_look_0 rfl (lv_at hl 3 rfl) ?_
  refine lv_iconst (v := 0) hx hb dL_look_1 (by decide) ?_
  refine lv_aload_n hx hb dL_look_2 rfl (lv_at hl 0 rfl) ?_
  refine lv_iload_n hx hb dL_look_3 rfl (lv_at hl 1 rfl) ?_
  refine lv_iload_n hx hb dL_look_4 rfl (lv_at hl 2 rfl) ?_
  have hPo := k_hd hP
  have hPa := k_tl hP
  have hDa := k_D2 hD
  have hDo := k_Dh hD
  refine vx_calli (vx_runV (As := [.int p0, .int p1]) (rest := [.int 0, .ref ao]) ⟨hx, hb, hml, hown, hts⟩ (c_C_X7_look l hl0 dC dI ad cB cI cZ cL (kM A [(ao, .inl (cJ, 1, .inr (.inl of)))]) LP today legCount legs hung warmth damp wopen tsize bytes rat rtold rwrong numbers asked ftold ffarm ffrom fwhat fon csize ctotal offered cws cwa g_number g_farm g_pig g_first g_begun g_weight g_salted g_heat g_place g_target g_feedAsked g_sealed g_bad g_sold p0 p1 _ _ h) (cwV 2 hts gL_look_X7_look rfl rfl rfl (by decide +kernel) ⟨(Nat.le_of_ble_eq_true rfl), (Nat.le_of_ble_eq_true rfl)⟩) ⟨kC_blind, va_recv (hK.sub (tys' := kTy cB cI cZ cL) [0, 1, 2, 3] rfl) hPa (ci := 7) (q0 := 0) rfl wA_g0, fun U hU hW => ⟨rfl, kC_go2 hA hS hPa hPo (hK.sub (tys' := kTy cB cI cZ cL) [0, 1, 2, 3] rfl) hDa hE U hU hW⟩⟩ rfl rfl hl.1 rfl (lv_room (Nat.le_of_ble_eq_true rfl)) dL_look_5 ⟨(Nat.le_of_ble_eq_true rfl), (Nat.le_of_ble_eq_true rfl)⟩) hS (fun q _ h => h.1) (fun q h => h.1) (fun q _ h => h.1) (fun E9 ce9 q9 u t H locs ht hvm hw hB hz1 hk1 hS hce hcv hcl => ?_) (fun r u t H locs ht hvm hw hB hz1 hk1 hS => ?_)
  · obtain ⟨k9, rfl⟩ : ∃ z, z = u := ⟨_, rfl⟩
    obtain ⟨rfl, hB⟩ := hB
    obtain ⟨hP, hD⟩ := ks_back1 (w1 := wA ad cB cI cZ cL LP today legCount legs hung warmth damp wopen tsize bytes rat rtold rwrong numbers asked ftold ffarm ffrom fwhat fon csize ctotal offered cws cwa g_number g_farm g_pig g_first g_begun g_weight g_salted g_heat g_place g_target g_feedAsked g_sealed g_bad g_sold) hPo hk1 (by rw [← ht]; exact hB.1) hB.2.2 hDo
    try dsimp only at hw
    rcases hw with ⟨rfl, h⟩ | ⟨rfl, h⟩
    · refine vx_catch (E := "java/lang/IndexOutOfBoundsException") (name := "java/lang/IndexOutOfBoundsException") hown [] ⟨0, 10, 13, 13⟩ [⟨0, 10, 17, 56⟩] htab (fun z hz => nomatch hz) (by decide) (by decide) hk_0 (va_Nw.use rfl (hE.2.1.2.2.1 "java/lang/IndexOutOfBoundsException" (by decide))) hce hcv hcl ?_
      refine lv_astore (lv' := [(4, .ref q9), (0, .ref (ad 0)), (1, .int p0), (2, .int p1), (3, .ref ao)]) hx hb dL_look_13 hl (by decide) rfl (fun ls hl => ?_)
      refine lv_iconst (v := 1) hx hb dL_look_15 (by decide) ?_
      exact W.iret (v := 1) hx hb hr (fun t ht hW => ⟨⟨1, (of), rfl, h, kB_mk hP hK hD ht hW.alike⟩, hS.F ht⟩) hS.2.2 dL_look_16
    · refine vx_catch (E := "java/util/NoSuchElementException") (name := "java/util/NoSuchElementException") hown [⟨0, 10, 13, 13⟩] ⟨0, 10, 17, 56⟩ [] htab (fun z hz => by cases List.mem_singleton.mp hz; exact Or.inr ⟨by decide, "java/lang/IndexOutOfBoundsException", hk_0, hN.2.2.2⟩) (by decide) (by decide) hk_1 (va_Nw.use rfl (hE.2.1.2.2.1 "java/util/NoSuchElementException" (by decide))) hce hcv hcl ?_
      refine lv_astore (lv' := [(4, .ref q9), (0, .ref (ad 0)), (1, .int p0), (2, .int p1), (3, .ref ao)]) hx hb dL_look_17 hl (by decide) rfl (fun ls hl => ?_)
      refine lv_iconst (v := 2) hx hb dL_look_19 (by decide) ?_
      exact W.iret (v := 2) hx hb hr (fun t ht hW => ⟨⟨2, (of), rfl, h, kB_mk hP hK hD ht hW.alike⟩, hS.F ht⟩) hS.2.2 dL_look_20
  · have h := hw
    try dsimp only at h
    obtain ⟨hP, hD⟩ := ks_back1 (w1 := wA ad cB cI cZ cL LP today legCount legs hung warmth damp wopen tsize bytes rat rtold rwrong numbers asked ftold ffarm ffrom fwhat fon csize ctotal offered cws cwa g_number g_farm g_pig g_first g_begun g_weight g_salted g_heat g_place g_target g_feedAsked g_sealed g_bad g_sold) hPo hk1 (by rw [← ht]; exact hB.1) hB.2.2 hDo
    refine lv_i2l (v := r.toInt64) hx hb dL_look_8 rfl ?_
    refine va_last hx hb hK hP hD hS 0 4 rfl rfl (by unfold vp_in; decide) dL_look_9 (fun H locs hP2 hD2 hS => ?_)
    have hP : va_P (dC, dI) vwCl ((ao, .inl (cJ, 1, .inr (.inl (vp_updL of (0 : Int32).toNatClampNeg r.toInt64)))) :: wA ad cB cI cZ cL LP today legCount legs hung warmth damp wopen tsize bytes rat rtold rwrong numbers asked ftold ffarm ffrom fwhat fon csize ctotal offered cws cwa g_number g_farm g_pig g_first g_begun g_weight g_salted g_heat g_place g_target g_feedAsked g_sealed g_bad g_sold) H := hP2
    have hD : va_D A ((ao, .inl (cJ, 1, .inr (.inl (vp_updL of (0 : Int32).toNatClampNeg r.toInt64)))) :: wA ad cB cI cZ cL LP today legCount legs hung warmth damp wopen tsize bytes rat rtold rwrong numbers asked ftold ffarm ffrom fwhat fon csize ctotal offered cws cwa g_number g_farm g_pig g_first g_begun g_weight g_salted g_heat g_place g_target g_feedAsked g_sealed g_bad g_sold) := hD2
    refine lv_goto (tgt := 21) hx hb dL_look_10 (by decide) ?_
    refine lv_iconst (v := 0) hx hb dL_look_21 (by decide) ?_
    exact W.iret (v := 0) hx hb hr (fun t ht hW => ⟨⟨0, (vp_updL of (0 : Int32).toNatClampNeg r.toInt64), rfl, h, kB_mk hP hK hD ht hW.alike⟩, hS.F ht⟩) hS.2.2 dL_look_22
def wp_H_on (LP : List Nat) (hung : Nat → Option Nat) (g_number : Nat → Int32) (Q : Int32 → (Nat → Int64) → Prop) (of : Nat → Int64) (p0 : Int32) (p1 : Int32) : Prop := wp_C_X7_on LP hung g_number (fun r => Q 0 (vp_updL of (0 : Int32).toNatClampNeg r.toInt64)) (fun k => (k = 1 ∧ Q 1 of)) p0 p1
def rm_H_on : Room := { frames := 8, cells := 1, slots := 6, locals := 126 }
set_option maxHeartbeats 4000000 in
set_option maxRecDepth 100000 in
theorem c_H_on (l : Launch) (hl0 : l.stackTraces = false) (dC : Nat → ClassId) (dI : Nat → Nat → Nat) (ad : Nat → Nat) (cB cI cZ cL cJ : ClassId) (A : Nat → Prop) (ao : Nat) (of : Nat → Int64) (LP : List Nat) (today legCount : Int32) (legs hung : Nat → Option Nat) (warmth damp wopen : Nat → Int32) (tsize : Int32) (bytes : Nat → Int32) (rat rtold rwrong : Int32) (numbers asked : Nat → Int32) (ftold : Int32) (ffarm ffrom fwhat fon : Nat → Int32) (csize ctotal : Int32) (offered : Nat → Option Nat) (cws cwa g_number g_farm g_pig g_first g_begun g_weight g_salted g_heat g_place g_target g_feedAsked g_sealed g_bad g_sold : Nat → Int32)  (p0 : Int32) (p1 : Int32) (Q : Int32 → (Nat → Int64) → Prop) (h : wp_H_on LP hung g_number Q of p0 p1) : Met l yL_on wsL_on rm_H_on (va_Pc [.ref (ad 0), .int p0, .int p1, .ref ao] (kH dC dI ad A ((ao, .inl (cJ, 1, .inr (.inl of))) :: wA ad cB cI cZ cL LP today legCount legs hung warmth damp wopen tsize bytes rat rtold rwrong numbers asked ftold ffarm ffrom fwhat fon csize ctotal offered cws cwa g_number g_farm g_pig g_first g_begun g_weight g_salted g_heat g_place g_target g_feedAsked g_sealed g_bad g_sold) (kTyJ cB cI cZ cL cJ))) (va_Qi (fun (r : Int32) (u : (Nat → Int64)) => Q r u) (fun u t => kB dC dI A ((ao, .inl (cJ, 1, .inr (.inl u))) :: wA ad cB cI cZ cL LP today legCount legs hung warmth damp wopen tsize bytes rat rtold rwrong numbers asked ftold ffarm ffrom fwhat fon csize ctotal offered cws cwa g_number g_farm g_pig g_first g_begun g_weight g_salted g_heat g_place g_target g_feedAsked g_sealed g_bad g_sold) (kTyJ cB cI cZ cL cJ) t) A) 1 6 A := by
  refine kofWH (cc := cL_on) (maxL := 5) (ret := (some .int)) (hh := [(0, 10, 13, 13)]) (by decide) rfl ?_
  intro p e s m args below meth c s₁ B hml hv
  obtain ⟨rfl, ⟨hA, hP, hK, hD, hE⟩, hN⟩ := hv
  have hx := B.exec
  have hb := B.bytes
  have hr := B.returns
  have hts := atoms_spec (ws := wsL_on) B.pre
  have hown : s.vm.findClass RL = some m.cls := findClass_of_methodNamed B.named
  have hlocks := B.notSynchronized
  have hS : va_S A s.heap s.heap [] := va_S.rf
  have htab : c.exceptionTable.toList = [⟨0, 10, 13, 13⟩] := vx_table (x := yL_on) B (hts (.codeWith yL_on cL_on 5 (some .int) [(0, 10, 13, 13)]) (by decide +kernel))
  unfold wp_H_on at h
  have hk_0 := hts (.classLink RL 13 "java/lang/IndexOutOfBoundsException") (by decide +kernel)
  have hl := lv_entry ([.ref (ad 0), .int p0, .int p1, .ref ao]) (n := 5) (Nat.le_of_ble_eq_true rfl)
  rw [lg_entry_eq]
  generalize (lg_sl ([.ref (ad 0), .int p0, .int p1, .ref ao]) ++ List.replicate (5 - (lg_sl ([.ref (ad 0), .int p0, .int p1, .ref ao])).length) Slot.unset).toArray = ls at hl ⊢
  have hl : lv_has ls 5 [(0, .ref (ad 0)), (1, .int p0), (2, .int p1), (3, .ref ao)] := hl
  refine lv_aload_n hx hb dL_on_0 rfl (lv_at hl 3 rfl) ?_
  refine lv_iconst (v := 0) hx hb dL_on_1 (by decide) ?_
  refine lv_aload_n hx hb dL_on_2 rfl (lv_at hl 0 rfl) ?_
  refine lv_iload_n hx hb dL_on_3 rfl (lv_at hl 1 rfl) ?_
  refine lv_iload_n hx hb dL_on_4 rfl (lv_at hl 2 rfl) ?_
  have hPo := k_hd hP
  have hPa := k_tl hP
  have hDa := k_D2 hD
  have hDo := k_Dh hD
  refine vx_calli (vx_runV (As := [.int p0, .int p1]) (rest := [.int 0, .ref ao]) ⟨hx, hb, hml, hown, hts⟩ (c_C_X7_on l hl0 dC dI ad cB cI cZ cL (kM A [(ao, .inl (cJ, 1, .inr (.inl of)))]) LP today legCount legs hung warmth damp wopen tsize bytes rat rtold rwrong numbers asked ftold ffarm ffrom fwhat fon csize ctotal offered cws cwa g_number g_farm g_pig g_first g_begun g_weight g_salted g_heat g_place g_target g_feedAsked g_sealed g_bad g_sold p0 p1 _ _ h) (cwV 2 hts gL_on_X7_on rfl rfl rfl (by decide +kernel) ⟨(Nat.le_of_ble_eq_true rfl), (Nat.le_of_ble_eq_true rfl)⟩) ⟨kC_blind, va_recv (hK.sub (tys' := kTy cB cI cZ cL) [0, 1, 2, 3] rfl) hPa (ci := 7) (q0 := 0) rfl wA_g0, fun U hU hW => ⟨rfl, kC_go2 hA hS hPa hPo (hK.sub (tys' := kTy cB cI cZ cL) [0, 1, 2, 3] rfl) hDa hE U hU hW⟩⟩ rfl rfl hl.1 rfl (lv_room (Nat.le_of_ble_eq_true rfl)) dL_on_5 ⟨(Nat.le_of_ble_eq_true rfl), (Nat.le_of_ble_eq_true rfl)⟩) hS (fun q _ h => h.1) (fun q h => h.1) (fun q _ h => h.1) (fun E9 ce9 q9 u t H locs ht hvm hw hB hz1 hk1 hS hce hcv hcl => ?_) (fun r u t H locs ht hvm hw hB hz1 hk1 hS => ?_)
  · obtain ⟨k9, rfl⟩ : ∃ z, z = u := ⟨_, rfl⟩
    obtain ⟨rfl, hB⟩ := hB
    obtain ⟨hP, hD⟩ := ks_back1 (w1 := wA ad cB cI cZ cL LP today legCount legs hung warmth damp wopen tsize bytes rat rtold rwrong numbers asked ftold ffarm ffrom fwhat fon csize ctotal offered cws cwa g_number g_farm g_pig g_first g_begun g_weight g_salted g_heat g_place g_target g_feedAsked g_sealed g_bad g_sold) hPo hk1 (by rw [← ht]; exact hB.1) hB.2.2 hDo
    try dsimp only at hw
    obtain ⟨rfl, h⟩ := hw
    refine vx_catch (E := "java/lang/IndexOutOfBoundsException") (name := "java/lang/IndexOutOfBoundsException") hown [] ⟨0, 10, 13, 13⟩ [] htab (fun z hz => nomatch hz) (by decide) (by decide) hk_0 (va_Nw.use rfl (hE.2.1.2.2.1 "java/lang/IndexOutOfBoundsException" (by decide))) hce hcv hcl ?_
    refine lv_astore (lv' := [(4, .ref q9), (0, .ref (ad 0)), (1, .int p0), (2, .int p1), (3, .ref ao)]) hx hb dL_on_13 hl (by decide) rfl (fun ls hl => ?_)
    refine lv_iconst (v := 1) hx hb dL_on_15 (by decide) ?_
    exact W.iret (v := 1) hx hb hr (fun t ht hW => ⟨⟨1, (of), rfl, h, kB_mk hP hK hD ht hW.alike⟩, hS.F ht⟩) hS.2.2 dL_on_16
  · have h := hw
    try dsimp only at h
    obtain ⟨hP, hD⟩ := ks_back1 (w1 := wA ad cB cI cZ cL LP today legCount legs hung warmth damp wopen tsize bytes rat rtold rwrong numbers asked ftold ffarm ffrom fwhat fon csize ctotal offered cws cwa g_number g_farm g_pig g_first g_begun g_weight g_salted g_heat g_place g_target g_feedAsked g_sealed g_bad g_sold) hPo hk1 (by rw [← ht]; exact hB.1) hB.2.2 hDo
    refine lv_i2l (v := r.toInt64) hx hb dL_on_8 rfl ?_
    refine va_last hx hb hK hP hD hS 0 4 rfl rfl (by unfold vp_in; decide) dL_on_9 (fun H locs hP2 hD2 hS => ?_)
    have hP : va_P (dC, dI) vwCl ((ao, .inl (cJ, 1, .inr (.inl (vp_updL of (0 : Int32).toNatClampNeg r.toInt64)))) :: wA ad cB cI cZ cL LP today legCount legs hung warmth damp wopen tsize bytes rat rtold rwrong numbers asked ftold ffarm ffrom fwhat fon csize ctotal offered cws cwa g_number g_farm g_pig g_first g_begun g_weight g_salted g_heat g_place g_target g_feedAsked g_sealed g_bad g_sold) H := hP2
    have hD : va_D A ((ao, .inl (cJ, 1, .inr (.inl (vp_updL of (0 : Int32).toNatClampNeg r.toInt64)))) :: wA ad cB cI cZ cL LP today legCount legs hung warmth damp wopen tsize bytes rat rtold rwrong numbers asked ftold ffarm ffrom fwhat fon csize ctotal offered cws cwa g_number g_farm g_pig g_first g_begun g_weight g_salted g_heat g_place g_target g_feedAsked g_sealed g_bad g_sold) := hD2
    refine lv_goto (tgt := 17) hx hb dL_on_10 (by decide) ?_
    refine lv_iconst (v := 0) hx hb dL_on_17 (by decide) ?_
    exact W.iret (v := 0) hx hb hr (fun t ht hW => ⟨⟨0, (vp_updL of (0 : Int32).toNatClampNeg r.toInt64), rfl, h, kB_mk hP hK hD ht hW.alike⟩, hS.F ht⟩) hS.2.2 dL_on_18
def wp_H_should (LP : List Nat) (legs : Nat → Option Nat) (g_place : Nat → Int32) (Q : Int32 → (Nat → Int64) → (Nat → Int32) → Prop) (of : Nat → Int64) (g_target : Nat → Int32) (p0 : Int32) (p1 : Int32) (p2 : Int32) : Prop := wp_C_X7_should LP legs g_place (fun r g_target => ((r = 0 → Q 0 (vp_updL of (0 : Int32).toNatClampNeg 0) g_target) ∧ (¬ (r = 0) → Q 0 (vp_updL of (0 : Int32).toNatClampNeg 1) g_target))) (fun k g_target => (k = 1 ∧ Q 1 of g_target)) g_target p0 p1 p2
def rm_H_should : Room := { frames := 8, cells := 2, slots := 12, locals := 128 }
set_option maxHeartbeats 4000000 in
set_option maxRecDepth 100000 in
theorem c_H_should (l : Launch) (hl0 : l.stackTraces = false) (dC : Nat → ClassId) (dI : Nat → Nat → Nat) (ad : Nat → Nat) (cB cI cZ cL cJ : ClassId) (A : Nat → Prop) (ao : Nat) (of : Nat → Int64) (LP : List Nat) (today legCount : Int32) (legs hung : Nat → Option Nat) (warmth damp wopen : Nat → Int32) (tsize : Int32) (bytes : Nat → Int32) (rat rtold rwrong : Int32) (numbers asked : Nat → Int32) (ftold : Int32) (ffarm ffrom fwhat fon : Nat → Int32) (csize ctotal : Int32) (offered : Nat → Option Nat) (cws cwa g_number g_farm g_pig g_first g_begun g_weight g_salted g_heat g_place g_target g_feedAsked g_sealed g_bad g_sold : Nat → Int32)  (p0 : Int32) (p1 : Int32) (p2 : Int32) (Q : Int32 → (Nat → Int64) → (Nat → Int32) → Prop) (h : wp_H_should LP legs g_place Q of g_target p0 p1 p2) : Met l yL_should wsL_should rm_H_should (va_Pc [.ref (ad 0), .int p0, .int p1, .int p2, .ref ao] (kH dC dI ad A ((ao, .inl (cJ, 1, .inr (.inl of))) :: wA ad cB cI cZ cL LP today legCount legs hung warmth damp wopen tsize bytes rat rtold rwrong numbers asked ftold ffarm ffrom fwhat fon csize ctotal offered cws cwa g_number g_farm g_pig g_first g_begun g_weight g_salted g_heat g_place g_target g_feedAsked g_sealed g_bad g_sold) (kTyJ cB cI cZ cL cJ))) (va_Qi (fun (r : Int32) (u : (Nat → Int64) × (Nat → Int32)) => Q r u.1 u.2) (fun u t => kB dC dI A ((ao, .inl (cJ, 1, .inr (.inl u.1))) :: wA ad cB cI cZ cL LP today legCount legs hung warmth damp wopen tsize bytes rat rtold rwrong numbers asked ftold ffarm ffrom fwhat fon csize ctotal offered cws cwa g_number g_farm g_pig g_first g_begun g_weight g_salted g_heat g_place u.2 g_feedAsked g_sealed g_bad g_sold) (kTyJ cB cI cZ cL cJ) t) A) 2 12 A := by
  refine kofWH (cc := cL_should) (maxL := 6) (ret := (some .int)) (hh := [(0, 19, 22, 13)]) (by decide) rfl ?_
  intro p e s m args below meth c s₁ B hml hv
  obtain ⟨rfl, ⟨hA, hP, hK, hD, hE⟩, hN⟩ := hv
  have hx := B.exec
  have hb := B.bytes
  have hr := B.returns
  have hts := atoms_spec (ws := wsL_should) B.pre
  have hown : s.vm.findClass RL = some m.cls := findClass_of_methodNamed B.named
  have hlocks := B.notSynchronized
  have hS : va_S A s.heap s.heap [] := va_S.rf
  have htab : c.exceptionTable.toList = [⟨0, 19, 22, 13⟩] := vx_table (x := yL_should) B (hts (.codeWith yL_should cL_should 6 (some .int) [(0, 19, 22, 13)]) (by decide +kernel))
  unfold wp_H_should at h
  have hk_0 := hts (.classLink RL 13 "java/lang/IndexOutOfBoundsException") (by decide +kernel)
  have hl := lv_entry ([.ref (ad 0), .int p0, .int p1, .int p2, .ref ao]) (n := 6) (Nat.le_of_ble_eq_true rfl)
  rw [lg_entry_eq]
  generalize (lg_sl ([.ref (ad 0), .int p0, .int p1, .int p2, .ref ao]) ++ List.replicate (6 - (lg_sl ([.ref (ad 0), .int p0, .int p1, .int p2, .ref ao])).length) Slot.unset).toArray = ls at hl ⊢
  have hl : lv_has ls 6 [(0, .ref (ad 0)), (1, .int p0), (2, .int p1), (3, .int p2), (4, .ref ao)] := hl
  refine lv_aload hx hb dL_should_0 (lv_at hl 4 rfl) ?_
  refine lv_iconst (v := 0) hx hb dL_should_2 (by decide) ?_
  refine lv_aload_n hx hb dL_should_3 rfl (lv_at hl 0 rfl) ?_
  refine lv_iload_n hx hb dL_should_4 rfl (lv_at hl 1 rfl) ?_
  refine lv_iload_n hx hb dL_should_5 rfl (lv_at hl 2 rfl) ?_
  refine lv_iload_n hx hb dL_should_6 rfl (lv_at hl 3 rfl) ?_
  have hPo := k_hd hP
  have hPa := k_tl hP
  have hDa := k_D2 hD
  have hDo := k_Dh hD
  refine vx_calli (vx_runV (As := [.int p0, .int p1, .int p2]) (rest := [.int 0, .ref ao]) ⟨hx, hb, hml, hown, hts⟩ (c_C_X7_should l hl0 dC dI ad cB cI cZ cL (kM A [(ao, .inl (cJ, 1, .inr (.inl of)))]) LP today legCount legs hung warmth damp wopen tsize bytes rat rtold rwrong numbers asked ftold ffarm ffrom fwhat fon csize ctotal offered cws cwa g_number g_farm g_pig g_first g_begun g_weight g_salted g_heat g_place g_target g_feedAsked g_sealed g_bad g_sold p0 p1 p2 _ _ h) (cwV 3 hts gL_should_X7_should rfl rfl rfl (by decide +kernel) ⟨(Nat.le_of_ble_eq_true rfl), (Nat.le_of_ble_eq_true rfl)⟩) ⟨kC_blind, va_recv (hK.sub (tys' := kTy cB cI cZ cL) [0, 1, 2, 3] rfl) hPa (ci := 7) (q0 := 0) rfl wA_g0, fun U hU hW => ⟨rfl, kC_go2 hA hS hPa hPo (hK.sub (tys' := kTy cB cI cZ cL) [0, 1, 2, 3] rfl) hDa hE U hU hW⟩⟩ rfl rfl hl.1 rfl (lv_room (Nat.le_of_ble_eq_true rfl)) dL_should_7 ⟨(Nat.le_of_ble_eq_true rfl), (Nat.le_of_ble_eq_true rfl)⟩) hS (fun q _ h => h.1) (fun q h => h.1) (fun q _ h => h.1) (fun E9 ce9 q9 u t H locs ht hvm hw hB hz1 hk1 hS hce hcv hcl => ?_) (fun r u t H locs ht hvm hw hB hz1 hk1 hS => ?_)
  · obtain ⟨k9, g_target_1⟩ := u
    obtain ⟨rfl, hB⟩ := hB
    obtain ⟨hP, hD⟩ := ks_back1 (w1 := wA ad cB cI cZ cL LP today legCount legs hung warmth damp wopen tsize bytes rat rtold rwrong numbers asked ftold ffarm ffrom fwhat fon csize ctotal offered cws cwa g_number g_farm g_pig g_first g_begun g_weight g_salted g_heat g_place g_target_1 g_feedAsked g_sealed g_bad g_sold) hPo hk1 (by rw [← ht]; exact hB.1) hB.2.2 hDo
    try dsimp only at hw
    obtain ⟨rfl, h⟩ := hw
    refine vx_catch (E := "java/lang/IndexOutOfBoundsException") (name := "java/lang/IndexOutOfBoundsException") hown [] ⟨0, 19, 22, 13⟩ [] htab (fun z hz => nomatch hz) (by decide) (by decide) hk_0 (va_Nw.use rfl (hE.2.1.2.2.1 "java/lang/IndexOutOfBoundsException" (by decide))) hce hcv hcl ?_
    refine lv_astore (lv' := [(5, .ref q9), (0, .ref (ad 0)), (1, .int p0), (2, .int p1), (3, .int p2), (4, .ref ao)]) hx hb dL_should_22 hl (by decide) rfl (fun ls hl => ?_)
    refine lv_iconst (v := 1) hx hb dL_should_24 (by decide) ?_
    exact W.iret (v := 1) hx hb hr (fun t ht hW => ⟨⟨1, (of, g_target_1), rfl, h, kB_mk hP hK hD ht hW.alike⟩, hS.F ht⟩) hS.2.2 dL_should_25
  · obtain ⟨g_target_1, rfl⟩ : ∃ z, z = u := ⟨_, rfl⟩
    have h := hw
    try dsimp only at h
    obtain ⟨hP, hD⟩ := ks_back1 (w1 := wA ad cB cI cZ cL LP today legCount legs hung warmth damp wopen tsize bytes rat rtold rwrong numbers asked ftold ffarm ffrom fwhat fon csize ctotal offered cws cwa g_number g_farm g_pig g_first g_begun g_weight g_salted g_heat g_place g_target_1 g_feedAsked g_sealed g_bad g_sold) hPo hk1 (by rw [← ht]; exact hB.1) hB.2.2 hDo
    refine lv_if_eq (tgt := 17) hx hb dL_should_10 (by decide) (fun c1 => ?_) (fun c1 => ?_)
    · have h := h.1 c1
      refine lv_lconst (v := 0) hx hb dL_should_17 (by decide) ?_
      refine va_last hx hb hK hP hD hS 0 4 rfl rfl (by unfold vp_in; decide) dL_should_18 (fun H locs hP2 hD2 hS => ?_)
      have hP : va_P (dC, dI) vwCl ((ao, .inl (cJ, 1, .inr (.inl (vp_updL of (0 : Int32).toNatClampNeg 0)))) :: wA ad cB cI cZ cL LP today legCount legs hung warmth damp wopen tsize bytes rat rtold rwrong numbers asked ftold ffarm ffrom fwhat fon csize ctotal offered cws cwa g_number g_farm g_pig g_first g_begun g_weight g_salted g_heat g_place g_target_1 g_feedAsked g_sealed g_bad g_sold) H := hP2
      have hD : va_D A ((ao, .inl (cJ, 1, .inr (.inl (vp_updL of (0 : Int32).toNatClampNeg 0)))) :: wA ad cB cI cZ cL LP today legCount legs hung warmth damp wopen tsize bytes rat rtold rwrong numbers asked ftold ffarm ffrom fwhat fon csize ctotal offered cws cwa g_number g_farm g_pig g_first g_begun g_weight g_salted g_heat g_place g_target_1 g_feedAsked g_sealed g_bad g_sold) := hD2
      refine lv_goto (tgt := 26) hx hb dL_should_19 (by decide) ?_
      refine lv_iconst (v := 0) hx hb dL_should_26 (by decide) ?_
      exact W.iret (v := 0) hx hb hr (fun t ht hW => ⟨⟨0, (vp_updL of (0 : Int32).toNatClampNeg 0, g_target_1), rfl, h, kB_mk hP hK hD ht hW.alike⟩, hS.F ht⟩) hS.2.2 dL_should_27
    · have h := h.2 c1
      refine lv_lconst (v := 1) hx hb dL_should_13 (by decide) ?_
      refine lv_goto (tgt := 18) hx hb dL_should_14 (by decide) ?_
      refine va_last hx hb hK hP hD hS 0 4 rfl rfl (by unfold vp_in; decide) dL_should_18 (fun H locs hP2 hD2 hS => ?_)
      have hP : va_P (dC, dI) vwCl ((ao, .inl (cJ, 1, .inr (.inl (vp_updL of (0 : Int32).toNatClampNeg 1)))) :: wA ad cB cI cZ cL LP today legCount legs hung warmth damp wopen tsize bytes rat rtold rwrong numbers asked ftold ffarm ffrom fwhat fon csize ctotal offered cws cwa g_number g_farm g_pig g_first g_begun g_weight g_salted g_heat g_place g_target_1 g_feedAsked g_sealed g_bad g_sold) H := hP2
      have hD : va_D A ((ao, .inl (cJ, 1, .inr (.inl (vp_updL of (0 : Int32).toNatClampNeg 1)))) :: wA ad cB cI cZ cL LP today legCount legs hung warmth damp wopen tsize bytes rat rtold rwrong numbers asked ftold ffarm ffrom fwhat fon csize ctotal offered cws cwa g_number g_farm g_pig g_first g_begun g_weight g_salted g_heat g_place g_target_1 g_feedAsked g_sealed g_bad g_sold) := hD2
      refine lv_goto (tgt := 26) hx hb dL_should_19 (by decide) ?_
      refine lv_iconst (v := 0) hx hb dL_should_26 (by decide) ?_
      exact W.iret (v := 0) hx hb hr (fun t ht hW => ⟨⟨0, (vp_updL of (0 : Int32).toNatClampNeg 1, g_target_1), rfl, h, kB_mk hP hK hD ht hW.alike⟩, hS.F ht⟩) hS.2.2 dL_should_27
def wp_H_order (LP : List Nat) (legs : Nat → Option Nat) (g_weight : Nat → Int32) (g_sealed : Nat → Int32) (g_bad : Nat → Int32) (Q : Int32 → (Nat → Int64) → (Nat → Option Nat) → Int32 → Int32 → (Nat → Option Nat) → (Nat → Int32) → (Nat → Int32) → (Nat → Int32) → (Nat → Int32) → Prop) (of : Nat → Int64) (hung : Nat → Option Nat) (csize : Int32) (ctotal : Int32) (offered : Nat → Option Nat) (cws : Nat → Int32) (cwa : Nat → Int32) (g_place : Nat → Int32) (g_sold : Nat → Int32) (p0 : Int32) : Prop := wp_C_X7_order LP legs g_weight g_sealed g_bad (fun r hung csize ctotal offered cws cwa g_place g_sold => Q 0 (vp_updL of (0 : Int32).toNatClampNeg r.toInt64) hung csize ctotal offered cws cwa g_place g_sold) (fun k hung csize ctotal offered cws cwa g_place g_sold => (k = 2 ∧ Q 1 of hung csize ctotal offered cws cwa g_place g_sold)) hung csize ctotal offered cws cwa g_place g_sold p0
def rm_H_order : Room := { frames := 7, cells := 1, slots := 6, locals := 106 }
set_option maxHeartbeats 4000000 in
set_option maxRecDepth 100000 in
theorem c_H_order (l : Launch) (hl0 : l.stackTraces = false) (dC : Nat → ClassId) (dI : Nat → Nat → Nat) (ad : Nat → Nat) (cB cI cZ cL cJ : ClassId) (A : Nat → Prop) (ao : Nat) (of : Nat → Int64) (LP : List Nat) (today legCount : Int32) (legs hung : Nat → Option Nat) (warmth damp wopen : Nat → Int32) (tsize : Int32) (bytes : Nat → Int32) (rat rtold rwrong : Int32) (numbers asked : Nat → Int32) (ftold : Int32) (ffarm ffrom fwhat fon : Nat → Int32) (csize ctotal : Int32) (offered : Nat → Option Nat) (cws cwa g_number g_farm g_pig g_first g_begun g_weight g_salted g_heat g_place g_target g_feedAsked g_sealed g_bad g_sold : Nat → Int32)  (p0 : Int32) (Q : Int32 → (Nat → Int64) → (Nat → Option Nat) → Int32 → Int32 → (Nat → Option Nat) → (Nat → Int32) → (Nat → Int32) → (Nat → Int32) → (Nat → Int32) → Prop) (h : wp_H_order LP legs g_weight g_sealed g_bad Q of hung csize ctotal offered cws cwa g_place g_sold p0) : Met l yL_order wsL_order rm_H_order (va_Pc [.ref (ad 0), .int p0, .ref ao] (kH dC dI ad A ((ao, .inl (cJ, 1, .inr (.inl of))) :: wA ad cB cI cZ cL LP today legCount legs hung warmth damp wopen tsize bytes rat rtold rwrong numbers asked ftold ffarm ffrom fwhat fon csize ctotal offered cws cwa g_number g_farm g_pig g_first g_begun g_weight g_salted g_heat g_place g_target g_feedAsked g_sealed g_bad g_sold) (kTyJ cB cI cZ cL cJ))) (va_Qi (fun (r : Int32) (u : (Nat → Int64) × (Nat → Option Nat) × Int32 × Int32 × (Nat → Option Nat) × (Nat → Int32) × (Nat → Int32) × (Nat → Int32) × (Nat → Int32)) => Q r u.1 u.2.1 u.2.2.1 u.2.2.2.1 u.2.2.2.2.1 u.2.2.2.2.2.1 u.2.2.2.2.2.2.1 u.2.2.2.2.2.2.2.1 u.2.2.2.2.2.2.2.2) (fun u t => kB dC dI A ((ao, .inl (cJ, 1, .inr (.inl u.1))) :: wA ad cB cI cZ cL LP today legCount legs u.2.1 warmth damp wopen tsize bytes rat rtold rwrong numbers asked ftold ffarm ffrom fwhat fon u.2.2.1 u.2.2.2.1 u.2.2.2.2.1 u.2.2.2.2.2.1 u.2.2.2.2.2.2.1 g_number g_farm g_pig g_first g_begun g_weight g_salted g_heat u.2.2.2.2.2.2.2.1 g_target g_feedAsked g_sealed g_bad u.2.2.2.2.2.2.2.2) (kTyJ cB cI cZ cL cJ) t) A) 1 6 A := by
  refine kofWH (cc := cL_order) (maxL := 4) (ret := (some .int)) (hh := [(0, 9, 12, 15)]) (by decide) rfl ?_
  intro p e s m args below meth c s₁ B hml hv
  obtain ⟨rfl, ⟨hA, hP, hK, hD, hE⟩, hN⟩ := hv
  have hx := B.exec
  have hb := B.bytes
  have hr := B.returns
  have hts := atoms_spec (ws := wsL_order) B.pre
  have hown : s.vm.findClass RL = some m.cls := findClass_of_methodNamed B.named
  have hlocks := B.notSynchronized
  have hS : va_S A s.heap s.heap [] := va_S.rf
  have htab : c.exceptionTable.toList = [⟨0, 9, 12, 15⟩] := vx_table (x := yL_order) B (hts (.codeWith yL_order cL_order 4 (some .int) [(0, 9, 12, 15)]) (by decide +kernel))
  unfold wp_H_order at h
  have hk_0 := hts (.classLink RL 15 "java/lang/IllegalArgumentException") (by decide +kernel)
  have hl := lv_entry ([.ref (ad 0), .int p0, .ref ao]) (n := 4) (Nat.le_of_ble_eq_true rfl)
  rw [lg_entry_eq]
  generalize (lg_sl ([.ref (ad 0), .int p0, .ref ao]) ++ List.replicate (4 - (lg_sl ([.ref (ad 0), .int p0, .ref ao])).length) Slot.unset).toArray = ls at hl ⊢
  have hl : lv_has ls 4 [(0, .ref (ad 0)), (1, .int p0), (2, .ref ao)] := hl
  refine lv_aload_n hx hb dL_order_0 rfl (lv_at hl 2 rfl) ?_
  refine lv_iconst (v := 0) hx hb dL_order_1 (by decide) ?_
  refine lv_aload_n hx hb dL_order_2 rfl (lv_at hl 0 rfl) ?_
  refine lv_iload_n hx hb dL_order_3 rfl (lv_at hl 1 rfl) ?_
  have hPo := k_hd hP
  have hPa := k_tl hP
  have hDa := k_D2 hD
  have hDo := k_Dh hD
  refine vx_calli (vx_runV (As := [.int p0]) (rest := [.int 0, .ref ao]) ⟨hx, hb, hml, hown, hts⟩ (c_C_X7_order l hl0 dC dI ad cB cI cZ cL (kM A [(ao, .inl (cJ, 1, .inr (.inl of)))]) LP today legCount legs hung warmth damp wopen tsize bytes rat rtold rwrong numbers asked ftold ffarm ffrom fwhat fon csize ctotal offered cws cwa g_number g_farm g_pig g_first g_begun g_weight g_salted g_heat g_place g_target g_feedAsked g_sealed g_bad g_sold p0 _ _ h) (cwV 1 hts gL_order_X7_order rfl rfl rfl (by decide +kernel) ⟨(Nat.le_of_ble_eq_true rfl), (Nat.le_of_ble_eq_true rfl)⟩) ⟨kC_blind, va_recv (hK.sub (tys' := kTy cB cI cZ cL) [0, 1, 2, 3] rfl) hPa (ci := 7) (q0 := 0) rfl wA_g0, fun U hU hW => ⟨rfl, kC_go2 hA hS hPa hPo (hK.sub (tys' := kTy cB cI cZ cL) [0, 1, 2, 3] rfl) hDa hE U hU hW⟩⟩ rfl rfl hl.1 rfl (lv_room (Nat.le_of_ble_eq_true rfl)) dL_order_4 ⟨(Nat.le_of_ble_eq_true rfl), (Nat.le_of_ble_eq_true rfl)⟩) hS (fun q _ h => h.1) (fun q h => h.1) (fun q _ h => h.1) (fun E9 ce9 q9 u t H locs ht hvm hw hB hz1 hk1 hS hce hcv hcl => ?_) (fun r u t H locs ht hvm hw hB hz1 hk1 hS => ?_)
  · obtain ⟨k9, hung_1, csize_1, ctotal_1, offered_1, cws_1, cwa_1, g_place_1, g_sold_1⟩ := u
    obtain ⟨rfl, hB⟩ := hB
    obtain ⟨hP, hD⟩ := ks_back1 (w1 := wA ad cB cI cZ cL LP today legCount legs hung_1 warmth damp wopen tsize bytes rat rtold rwrong numbers asked ftold ffarm ffrom fwhat fon csize_1 ctotal_1 offered_1 cws_1 cwa_1 g_number g_farm g_pig g_first g_begun g_weight g_salted g_heat g_place_1 g_target g_feedAsked g_sealed g_bad g_sold_1) hPo hk1 (by rw [← ht]; exact hB.1) hB.2.2 hDo
    try dsimp only at hw
    obtain ⟨rfl, h⟩ := hw
    refine vx_catch (E := "java/lang/IllegalArgumentException") (name := "java/lang/IllegalArgumentException") hown [] ⟨0, 9, 12, 15⟩ [] htab (fun z hz => nomatch hz) (by decide) (by decide) hk_0 (va_Nw.use rfl (hE.2.1.2.2.1 "java/lang/IllegalArgumentException" (by decide))) hce hcv hcl ?_
    refine lv_astore_n (lv' := [(3, .ref q9), (0, .ref (ad 0)), (1, .int p0), (2, .ref ao)]) hx hb dL_order_12 rfl hl (by decide) rfl (fun ls hl => ?_)
    refine lv_iconst (v := 1) hx hb dL_order_13 (by decide) ?_
    exact W.iret (v := 1) hx hb hr (fun t ht hW => ⟨⟨1, (of, hung_1, csize_1, ctotal_1, offered_1, cws_1, cwa_1, g_place_1, g_sold_1), rfl, h, kB_mk hP hK hD ht hW.alike⟩, hS.F ht⟩) hS.2.2 dL_order_14
  · obtain ⟨hung_1, csize_1, ctotal_1, offered_1, cws_1, cwa_1, g_place_1, g_sold_1⟩ := u
    have h := hw
    try dsimp only at h
    obtain ⟨hP, hD⟩ := ks_back1 (w1 := wA ad cB cI cZ cL LP today legCount legs hung_1 warmth damp wopen tsize bytes rat rtold rwrong numbers asked ftold ffarm ffrom fwhat fon csize_1 ctotal_1 offered_1 cws_1 cwa_1 g_number g_farm g_pig g_first g_begun g_weight g_salted g_heat g_place_1 g_target g_feedAsked g_sealed g_bad g_sold_1) hPo hk1 (by rw [← ht]; exact hB.1) hB.2.2 hDo
    refine lv_i2l (v := r.toInt64) hx hb dL_order_7 rfl ?_
    refine va_last hx hb hK hP hD hS 0 4 rfl rfl (by unfold vp_in; decide) dL_order_8 (fun H locs hP2 hD2 hS => ?_)
    have hP : va_P (dC, dI) vwCl ((ao, .inl (cJ, 1, .inr (.inl (vp_updL of (0 : Int32).toNatClampNeg r.toInt64)))) :: wA ad cB cI cZ cL LP today legCount legs hung_1 warmth damp wopen tsize bytes rat rtold rwrong numbers asked ftold ffarm ffrom fwhat fon csize_1 ctotal_1 offered_1 cws_1 cwa_1 g_number g_farm g_pig g_first g_begun g_weight g_salted g_heat g_place_1 g_target g_feedAsked g_sealed g_bad g_sold_1) H := hP2
    have hD : va_D A ((ao, .inl (cJ, 1, .inr (.inl (vp_updL of (0 : Int32).toNatClampNeg r.toInt64)))) :: wA ad cB cI cZ cL LP today legCount legs hung_1 warmth damp wopen tsize bytes rat rtold rwrong numbers asked ftold ffarm ffrom fwhat fon csize_1 ctotal_1 offered_1 cws_1 cwa_1 g_number g_farm g_pig g_first g_begun g_weight g_salted g_heat g_place_1 g_target g_feedAsked g_sealed g_bad g_sold_1) := hD2
    refine lv_goto (tgt := 15) hx hb dL_order_9 (by decide) ?_
    refine lv_iconst (v := 0) hx hb dL_order_15 (by decide) ?_
    exact W.iret (v := 0) hx hb hr (fun t ht hW => ⟨⟨0, (vp_updL of (0 : Int32).toNatClampNeg r.toInt64, hung_1, csize_1, ctotal_1, offered_1, cws_1, cwa_1, g_place_1, g_sold_1), rfl, h, kB_mk hP hK hD ht hW.alike⟩, hS.F ht⟩) hS.2.2 dL_order_16
