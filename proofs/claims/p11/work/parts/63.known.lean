theorem arr_known {args : Array Value} {s : State} {ty : FieldType} (hp : ∀ C, ty ≠ .object C) (h : (Cond.arrayClass ty).before args s = true) : ∃ cA : ClassId, ArrOfT s cA ty ∧ va_RA s cA ty := by
  obtain ⟨cA, kA, comp, h1, h2, h3⟩ := Cond.arrayClass_spec h
  refine ⟨cA, fun n z => ⟨fun k h => (by cases h), kA, h2, comp, h3⟩, ?_⟩
  cases ty with
  | object C => exact absurd rfl (hp C)
  | _ => exact h1
theorem arr_knownO {s : State} {C : String} (h : va_AO C s) : ∃ cA : ClassId, ArrOfT s cA (.object C) ∧ va_RA s cA (.object C) := by
  obtain ⟨comp, c, k, h1, -, h3, h4, h5⟩ := Cond.arrayOver_spec h
  exact ⟨c, fun n z => ⟨fun k h => (by cases h), k, h3, comp, h4⟩, k, comp, h3, h4, h1, h5⟩
theorem vk_Scongr {N : Nat} {len : List Nat} {byt : List (List Int32)} {aK aV bK bV : Nat → Nat} {A : Nat → Prop} {U : State} {H : Heap} (h : vk_S N len byt aK aV A U H) (hk : ∀ i, i < N → bK i = aK i) (hv : ∀ i, i < N → bV i = aV i) : vk_S N len byt bK bV A U H :=
  ⟨fun i hi => by rw [hk i hi, hv i hi]; exact h.1 i hi, fun i j hi hj e => h.2 i j hi hj (by rw [← hk i hi, ← hk j hj]; exact e)⟩
def kTm (i : Nat) : Term := .string "HamCellar$RuleReader" (([86, 88, 90, 92, 94] : List Nat).getD i 0)
def kTn (i : Nat) : Term := .string "HamCellarModel" (([159, 168, 170, 172, 174] : List Nat).getD i 0)
def kFl : List Cond := flatC (Jvm.Cond.and given_1 narrow_1)
theorem kf_ex : ∀ i, i < 5 → Cond.exactly (kTm i) "java/lang/String" ∈ kFl := by decide +kernel
theorem kf_co : ∀ i, i < 5 → Cond.eq (.field (kTm i) "java/lang/String" "coder" "B") (.int 0) ∈ kFl := by decide +kernel
theorem kf_ar : ∀ i, i < 5 → Cond.arrayOf (.field (kTm i) "java/lang/String" "value" "[B") .byte ∈ kFl := by decide +kernel
theorem kf_le : ∀ i, i < 5 → Cond.eq (.length (.field (kTm i) "java/lang/String" "value" "[B")) (.int (Int32.ofNat (kLen.getD i 0))) ∈ kFl := by decide +kernel
theorem kf_el : ∀ i, i < 5 → ∀ j, j < kLen.getD i 0 → Cond.eq (.elem (.field (kTm i) "java/lang/String" "value" "[B") (.int (Int32.ofNat j))) (.int ((kByt.getD i []).getD j 0)) ∈ kFl := by decide +kernel
theorem kf_ne : ∀ i, i < 5 → ∀ j, j < 5 → i ≠ j → (Cond.not (Cond.eq (kTm i) (kTm j)) ∈ kFl ∨ Cond.not (Cond.eq (kTm j) (kTm i)) ∈ kFl) := by decide +kernel
theorem kf_mn : ∀ i, i < 5 → (Cond.eq (kTm i) (kTn i) ∈ kFl ∨ Cond.eq (kTn i) (kTm i) ∈ kFl) := by decide +kernel
theorem kf_mo : ∀ j, j < 5 → ∃ z : Int32, kMost j = .int z ∧ Cond.eq (.elem (.static RX7 "MOST_OF_KIND" "[I") (.int (Int32.ofNat j))) (.int z) ∈ kFl := by
  intro j hj
  refine ⟨([2000, 100, 99, 3, 15000] : List Int32).getD j 0, rfl, ?_⟩
  exact (by decide +kernel : ∀ j, j < 5 → Cond.eq (.elem (.static RX7 "MOST_OF_KIND" "[I") (.int (Int32.ofNat j))) (.int (([2000, 100, 99, 3, 15000] : List Int32).getD j 0)) ∈ kFl) j hj
theorem kt_nf : ∀ q ∈ kNF, Cond.fieldLinkNest q.1 q.2.1 q.2.2.1 q.2.2.2.1 q.2.2.2.2.1 q.2.2.2.2.2 ∈ lw_tbl := by decide +kernel
theorem kt_nm : ∀ q ∈ kNM, Cond.methodLinkNest q.1 q.2.1 q.2.2.1 q.2.2.2 ∈ lw_tbl := by decide +kernel
theorem kt_xs : ∀ q ∈ kXs, Cond.castable q q ∈ lw_tbl := by decide +kernel
theorem kt_ds : ∀ q ∈ kDs, Cond.declares ⟨q, "<init>", "()V"⟩ ∈ lw_tbl := by decide +kernel
theorem kt_sr : ∀ q ∈ kSR, Cond.stringRef q.1 q.2.1 q.2.2.1 ∈ lw_tbl := by decide +kernel
theorem kt_st : ∀ q ∈ kSR, q.2.2.2 < 5 ∧ (Term.string q.1 q.2.1 = kTm q.2.2.2 ∨ Term.string q.1 q.2.1 = kTn q.2.2.2) := by decide +kernel
theorem eq_ref {args : Array Value} {s : State} {t u : Term} {a : Nat} (h : (Cond.eq t u).before args s = true) (ht : t.eval args s none [] s = some (.ref a)) : u.eval args s none [] s = some (.ref a) := by
  obtain ⟨w, h1, h2⟩ := Cond.eq_one (show (Cond.eq t u).holds args s none s [] = true from h)
  rw [ht] at h1
  rw [h2, ← h1]
theorem eq_ref' {args : Array Value} {s : State} {t u : Term} {a : Nat} (h : (Cond.eq u t).before args s = true) (ht : t.eval args s none [] s = some (.ref a)) : u.eval args s none [] s = some (.ref a) := by
  obtain ⟨w, h1, h2⟩ := Cond.eq_one (show (Cond.eq u t).holds args s none s [] = true from h)
  rw [ht] at h2
  rw [h1, ← h2]
def kAd (t : Nat) (aK aV : Nat → Nat) : Nat → Nat := fun k => if k = 30 then t else if k < 60 then aK (k - 40) else aV (k - 60)
set_option maxHeartbeats 4000000 in
set_option maxRecDepth 100000 in
theorem at_known {p : Program} {s : State} {m : MethodId} {meth : Method} {c : Code} {b L : Nat} {xs : Nat → Int32} (C0 : lw_At p s m meth c b L xs) : ∃ (dC : Nat → ClassId) (dI : Nat → Nat → Nat) (ad : Nat → Nat) (cB cI cZ cL cJ : ClassId), va_K (dC, dI) vwCl (kTyJ cB cI cZ cL cJ) s ∧ kE ad (fun q => s.heap.size ≤ q) s ∧ kN s ∧ va_AO RX3 s := by
  obtain ⟨hx, hb, hr, hml, hown, hts, hX, hbl, hlocks, hgv⟩ := C0
  have hA : ∀ a : Nat, a < s.heap.size → ¬ (fun q : Nat => s.heap.size ≤ q) a := fun a h => Nat.not_le.mpr h
  have hf : ∀ w ∈ kFl, w.before #[Value.ref b] s = true := flat_of_before _ hgv
  obtain ⟨c0, i0, h0⟩ := u_known (C := RX0) (T := TX0) (N := 5) (n := 5) hts inX0 (hts (.instantiable RX0 5) (by decide +kernel))
  obtain ⟨c1, i1, h1⟩ := u_known (C := RX1) (T := TX1) (N := 5) (n := 5) hts inX1 (hts (.instantiable RX1 5) (by decide +kernel))
  obtain ⟨c2, i2, h2⟩ := u_known (C := RX2) (T := TX2) (N := 1) (n := 1) hts inX2 (hts (.instantiable RX2 1) (by decide +kernel))
  obtain ⟨c3, i3, h3⟩ := u_known (C := RX3) (T := TX3) (N := 14) (n := 14) hts inX3 (hts (.instantiable RX3 14) (by decide +kernel))
  obtain ⟨c4, i4, h4⟩ := u_known (C := RX4) (T := TX4) (N := 3) (n := 3) hts inX4 (hts (.instantiable RX4 3) (by decide +kernel))
  obtain ⟨c5, i5, h5⟩ := u_known (C := RX5) (T := TX5) (N := 5) (n := 5) hts inX5 (hts (.instantiable RX5 5) (by decide +kernel))
  obtain ⟨c6, i6, h6⟩ := u_known (C := RX6) (T := TX6) (N := 2) (n := 2) hts inX6 (hts (.instantiable RX6 2) (by decide +kernel))
  obtain ⟨c7, i7, h7⟩ := u_known (C := RX7) (T := TX7) (N := 10) (n := 10) hts inX7 (hts (.instantiable RX7 10) (by decide +kernel))
  obtain ⟨c8, i8, h8⟩ := u_known (C := RX8) (T := TX8) (N := 34) (n := 34) hts inX8 (hts (.instantiable RX8 34) (by decide +kernel))
  obtain ⟨dC, dI, hKc⟩ : ∃ (dC : Nat → ClassId) (dI : Nat → Nat → Nat), ∀ (k : Nat) (q : vw_C), vwCl[k]? = some q → u_Kn s q.1 q.2.1 q.2.2 (dC k) (dI k) := by
    refine ⟨fun k => match k with | 0 => c0 | 1 => c1 | 2 => c2 | 3 => c3 | 4 => c4 | 5 => c5 | 6 => c6 | 7 => c7 | _ => c8, fun k => match k with | 0 => i0 | 1 => i1 | 2 => i2 | 3 => i3 | 4 => i4 | 5 => i5 | 6 => i6 | 7 => i7 | _ => i8, ?_⟩
    intro k q hq
    match k, hq with
    | 0, hq => cases hq; exact h0
    | 1, hq => cases hq; exact h1
    | 2, hq => cases hq; exact h2
    | 3, hq => cases hq; exact h3
    | 4, hq => cases hq; exact h4
    | 5, hq => cases hq; exact h5
    | 6, hq => cases hq; exact h6
    | 7, hq => cases hq; exact h7
    | 8, hq => cases hq; exact h8
    | k + 9, hq => cases hq
  obtain ⟨cB, aB⟩ := arr_known (fun C h => by cases h) (hts (.arrayClass .byte) (by decide +kernel))
  obtain ⟨cI, aI⟩ := arr_known (fun C h => by cases h) (hts (.arrayClass .int) (by decide +kernel))
  obtain ⟨cZ, aZ⟩ := arr_known (fun C h => by cases h) (hts (.arrayClass .boolean) (by decide +kernel))
  obtain ⟨cJ, aJ⟩ := arr_known (fun C h => by cases h) (hts (.arrayClass .long) (by decide +kernel))
  have hAO : va_AO RX3 s := va_AO.of (hts (.arrayOver (.object RX3)) (by decide +kernel))
  obtain ⟨cL, aL⟩ := arr_knownO hAO
  obtain ⟨tM, hM1, hM2⟩ := va_Tof (args := #[Value.ref b]) (tm := .static RX7 "MOST_OF_KIND" "[I") (ty := .int) (N := 5) (f := kMost) (A := fun q => s.heap.size ≤ q) (by decide) (hf (.arrayOf (.static RX7 "MOST_OF_KIND" "[I") .int) (by decide +kernel)) (va_eqt (hf (.eq (.length (.static RX7 "MOST_OF_KIND" "[I")) (.int (Int32.ofNat 5))) (by decide +kernel))) (fun j hj => by
    obtain ⟨z, e1, e2⟩ := kf_mo j hj
    rw [e1]
    exact va_eqt (hf _ e2)) hA
  obtain ⟨aK, aV, hS5, hev⟩ := vk_Sof (args := #[Value.ref b]) (s := s) (N := 5) (tm := kTm) (len := kLen) (byt := kByt) (A := fun q => s.heap.size ≤ q) (by decide +kernel) (fun i hi => hf _ (kf_ex i hi)) (fun i hi => hf _ (kf_co i hi)) (fun i hi => hf _ (kf_ar i hi)) (fun i hi => hf _ (kf_le i hi)) (fun i hi j hj => hf _ (kf_el i hi j hj)) (fun i j hi hj hij => (kf_ne i hi j hj hij).imp (hf _) (hf _)) hA
  refine ⟨dC, dI, kAd tM aK aV, cB, cI, cZ, cL, cJ, ⟨hKc, fun k q hk => ?_⟩, ⟨⟨?_, ?_⟩, ⟨?_, ?_, ?_, ?_⟩, ⟨?_, ?_⟩, ⟨?_, ?_⟩, ⟨?_, ?_⟩⟩, ⟨?_, ?_, ?_, ?_⟩, hAO⟩
  · match k, hk with
    | 0, hk => cases hk; exact aB
    | 1, hk => cases hk; exact aI
    | 2, hk => cases hk; exact aZ
    | 3, hk => cases hk; exact aL
    | 4, hk => cases hk; exact aJ
    | k + 5, hk => cases hk
  · exact vx_Zqof (hts (.laysStatic Bundle.tN "UNASSIGNED_STACK" Bundle.steD) (by decide +kernel)) (hts (.initialized Bundle.tN) (by decide +kernel)) (hf (.isRef (.static Bundle.tN "UNASSIGNED_STACK" Bundle.steD)) (by decide +kernel)) hA
  · exact vx_Zqof (hts (.laysStatic Bundle.tN "SUPPRESSED_SENTINEL" Bundle.listD) (by decide +kernel)) (hts (.initialized Bundle.tN) (by decide +kernel)) (hf (.isRef (.static Bundle.tN "SUPPRESSED_SENTINEL" Bundle.listD)) (by decide +kernel)) hA
  · exact fun q hq => va_Nw.of rfl (hts _ (kt_nf q hq))
  · exact fun q hq => va_Nw.of rfl (hts _ (kt_nm q hq))
  · exact fun q hq => va_Nw.of rfl (hts _ (kt_xs q hq))
  · exact fun q hq => va_Nw.of rfl (hts _ (kt_ds q hq))
  · exact va_Zref (hts (.laysStatic RX7 "MOST_OF_KIND" "[I") (by decide +kernel)) (hts (.initialized RX7) (by decide +kernel)) hM1 hA
  · exact hM2
  · exact va_Zof (hts (.laysStatic RJ0 "COMPACT_STRINGS" "Z") (by decide +kernel)) (hts (.initialized RJ0) (by decide +kernel)) (va_eqi (hf (.eq (.static RJ0 "COMPACT_STRINGS" "Z") (.int 1)) (by decide +kernel))) hA
  · exact va_Zqof (hts (.laysStatic RJ3 "SIOOBE_FORMATTER" "Ljava/util/function/BiFunction;") (by decide +kernel)) (hts (.initialized RJ3) (by decide +kernel)) (hf (.isRef (.static RJ3 "SIOOBE_FORMATTER" "Ljava/util/function/BiFunction;")) (by decide +kernel)) hA
  · refine vk_Scongr hS5 (fun i hi => ?_) (fun i hi => ?_)
    · show (if 40 + i = 30 then tM else if 40 + i < 60 then aK (40 + i - 40) else aV (40 + i - 60)) = aK i
      rw [if_neg (by omega), if_pos (by omega), Nat.add_sub_cancel_left]
    · show (if 60 + i = 30 then tM else if 60 + i < 60 then aK (60 + i - 40) else aV (60 + i - 60)) = aV i
      rw [if_neg (by omega), if_neg (by omega), Nat.add_sub_cancel_left]
  · intro q hq
    obtain ⟨q5, qe⟩ := kt_st q hq
    have e1 : (if 40 + q.2.2.2 = 30 then tM else if 40 + q.2.2.2 < 60 then aK (40 + q.2.2.2 - 40) else aV (40 + q.2.2.2 - 60)) = aK q.2.2.2 := by
      rw [if_neg (by omega), if_pos (by omega), Nat.add_sub_cancel_left]
    refine vk_R.of (hts _ (kt_sr q hq)) ?_
    show (Term.string q.1 q.2.1).eval #[Value.ref b] s none [] s = some (.ref (if 40 + q.2.2.2 = 30 then tM else if 40 + q.2.2.2 < 60 then aK (40 + q.2.2.2 - 40) else aV (40 + q.2.2.2 - 60)))
    rw [e1]
    rcases qe with qe | qe
    · rw [qe]; exact hev _ q5
    · rw [qe]
      rcases kf_mn _ q5 with h | h
      · exact eq_ref (hf _ h) (hev _ q5)
      · exact eq_ref' (hf _ h) (hev _ q5)
  · exact va_Nc.of (hf (.not (.castable (kEx 2) (kEx 1))) (by decide +kernel))
  · exact va_Nc.of (hf (.not (.castable (kEx 3) (kEx 1))) (by decide +kernel))
  · exact va_Nc.of (hf (.not (.castable (kEx 3) (kEx 2))) (by decide +kernel))
  · exact va_Nc.of (hf (.not (.castable (kEx 4) (kEx 1))) (by decide +kernel))
