def wF (ad : Nat → Nat) (cB cI cZ cL : ClassId) (ff : Nat → Int32) : va_W := [(ad 0, .inl (cI, 6, .inl ff))]
theorem wF_g0 {ad : Nat → Nat} {cB cI cZ cL : ClassId} {ff : Nat → Int32} : (wF ad cB cI cZ cL ff)[0]? = some (ad 0, .inl (cI, 6, .inl ff)) := rfl
theorem wF_p_ff {ad : Nat → Nat} {cB cI cZ cL : ClassId} {ff : Nat → Int32} {vv : Nat → Int32} : (wF ad cB cI cZ cL ff).set 0 (ad 0, .inl (cI, 6, .inl vv)) = wF ad cB cI cZ cL vv := rfl
def lp_F0_J7_fill_53178_5   (Q : (Nat → Int32) → Prop) : Nat → (Nat → Int32) → Int32 → Int32 → Int32 → Prop
  | 0 => fun _ _ _ _ => False
  | n + 1 => fun ff v1 v2 v3 => ((v3 ≤ v2 → Q ff) ∧ (¬ (v3 ≤ v2) → (vp_in v2 6 ∧ lp_F0_J7_fill_53178_5 Q n (upd ff v2.toNatClampNeg v1) v1 (v2 + 1) v3)))
def wp_F0_J7_fill_53178 (Q : (Nat → Int32) → Prop) (ff : Nat → Int32) (p1 : Int32) : Prop := (∃ n_3, lp_F0_J7_fill_53178_5 Q n_3 ff p1 0 6)
def rm_F0_J7_fill_53178 : Room := { frames := 0, cells := 0, slots := 0, locals := 0 }
abbrev pq_F0_J7_fill_53178 (dC : Nat → ClassId) (dI : Nat → Nat → Nat) (ad : Nat → Nat) (cB cI cZ cL : ClassId) (A : Nat → Prop) (ff : Nat → Int32) (Q : (Nat → Int32) → Prop) : Array Value → State → Outcome → State → Prop := va_Qv (fun u : (Nat → Int32) => Q u) (fun u t => kB dC dI A (wF ad cB cI cZ cL u) (kTy cB cI cZ cL) t) A
set_option maxHeartbeats 4000000 in
set_option maxRecDepth 100000 in
theorem c_F0_J7_fill_53178 (l : Launch) (dC : Nat → ClassId) (dI : Nat → Nat → Nat) (ad : Nat → Nat) (cB cI cZ cL : ClassId) (A : Nat → Prop) (ff : Nat → Int32) (p1 : Int32)  (Q : (Nat → Int32) → Prop) (h : wp_F0_J7_fill_53178 Q ff p1) : Met l yJ7_fill_53178 wsJ7_fill_53178 rm_F0_J7_fill_53178 (va_Pc [.ref (ad 0), .int p1] (kC dC dI ad A (wF ad cB cI cZ cL ff) (kTy cB cI cZ cL))) (pq_F0_J7_fill_53178 dC dI ad cB cI cZ cL A ff Q) 0 0 A := by
  refine Met.ofW (cc := cJ7_fill_53178) (maxL := 4) (ret := none) (by decide) rfl ?_
  intro p e s m args below meth c s₁ B hml hv
  obtain ⟨rfl, hA, hP, hK, hD, hE⟩ := hv
  have hx := B.exec
  have hb := B.bytes
  have hr := B.returns
  have hts := atoms_spec (ws := wsJ7_fill_53178) B.pre
  have hown : s.vm.findClass RJ7 = some m.cls := findClass_of_methodNamed B.named
  have hlocks := B.notSynchronized
  have hS : va_S A s.heap s.heap [] := va_S.rf
  have hlp_F0_J7_fill_53178_5 : ∀ (n : Nat) (ff : Nat → Int32) (v1 : Int32) (v2 : Int32) (v3 : Int32) (H : Heap) (locs : List Loc) (ls : Array Slot), va_P (dC, dI) vwCl (wF ad cB cI cZ cL ff) H → va_D A (wF ad cB cI cZ cL ff) → va_S A s.heap H locs → lv_has ls 4 [(0, .ref (ad 0)), (1, .int v1), (2, .int v2), (3, .int v3)] → lp_F0_J7_fill_53178_5 Q n ff v1 v2 v3 → W p l e (headSpec wsJ7_fill_53178 rm_F0_J7_fill_53178).room s m ([.ref (ad 0), .int p1] : List Value).toArray below meth c H locs 0 0 (MQ below (pq_F0_J7_fill_53178 dC dI ad cB cI cZ cL A ff Q) ([.ref (ad 0), .int p1] : List Value).toArray s 0 0 A) (F0 m 5 ls []) := by
    intro n
    induction n with
    | zero => intro ff v1 v2 v3 H locs ls hP hD hS hl h; exact h.elim
    | succ n ih =>
      intro ff v1 v2 v3 H locs ls hP hD hS hl h
      refine lv_iload_n hx hb dJ7_fill_53178_5 rfl (lv_at hl 2 rfl) ?_
      refine lv_iload_n hx hb dJ7_fill_53178_6 rfl (lv_at hl 3 rfl) ?_
      refine lv_icmp_ge (tgt := 20) hx hb dJ7_fill_53178_7 (by decide) (fun c_1 => ?_) (fun c_1 => ?_)
      · have h := h.1 c_1
        exact W.vret hx hb hr (fun t ht hW => ⟨⟨(ff), rfl, h, kB_mk hP hK hD ht hW.alike⟩, hS.F ht⟩) hS.2.2 dJ7_fill_53178_20
      · have h := h.2 c_1
        refine lv_aload_n hx hb dJ7_fill_53178_10 rfl (lv_at hl 0 rfl) ?_
        refine lv_iload_n hx hb dJ7_fill_53178_11 rfl (lv_at hl 2 rfl) ?_
        refine lv_iload_n hx hb dJ7_fill_53178_12 rfl (lv_at hl 1 rfl) ?_
        have hi_2 := h.1
        have h := h.2
        refine va_iast hx hb hK hP hD hS 0 1 wF_g0 rfl hi_2 dJ7_fill_53178_13 (fun H locs hP2 hD2 hS => ?_)
        have hP : va_P (dC, dI) vwCl (wF ad cB cI cZ cL (upd ff v2.toNatClampNeg v1)) H := hP_eq (wF_p_ff) hP2
        have hD : va_D A (wF ad cB cI cZ cL (upd ff v2.toNatClampNeg v1)) := hD_eq (wF_p_ff) hD2
        refine lv_iinc (v := v2 + 1) (lv' := [(2, .int (v2 + 1)), (0, .ref (ad 0)), (1, .int v1), (3, .int v3)]) hx hb dJ7_fill_53178_14 hl (k := 2) rfl rfl (by decide) rfl (fun ls hl => ?_)
        refine lv_goto (tgt := 5) hx hb dJ7_fill_53178_17 (by decide) ?_
        exact ih (upd ff v2.toNatClampNeg v1) v1 (v2 + 1) v3 _ _ _ hP hD hS (lv_sub hl [1, 2, 0, 3] rfl) h
  have hl := lv_entry ([.ref (ad 0), .int p1]) (n := 4) (Nat.le_of_ble_eq_true rfl)
  rw [lg_entry_eq]
  generalize (lg_sl ([.ref (ad 0), .int p1]) ++ List.replicate (4 - (lg_sl ([.ref (ad 0), .int p1])).length) Slot.unset).toArray = ls at hl ⊢
  have hl : lv_has ls 4 [(0, .ref (ad 0)), (1, .int p1)] := hl
  unfold wp_F0_J7_fill_53178 at h
  refine lv_iconst (v := 0) hx hb dJ7_fill_53178_0 (by decide) ?_
  refine lv_istore_n (lv' := [(2, .int 0), (0, .ref (ad 0)), (1, .int p1)]) hx hb dJ7_fill_53178_1 rfl hl (by decide) rfl (fun ls hl => ?_)
  refine lv_aload_n hx hb dJ7_fill_53178_2 rfl (lv_at hl 1 rfl) ?_
  refine va_alen hx hb hK hP 0 1 wF_g0 rfl (v := 6) rfl dJ7_fill_53178_3 ?_
  refine lv_istore_n (lv' := [(3, .int 6), (2, .int 0), (0, .ref (ad 0)), (1, .int p1)]) hx hb dJ7_fill_53178_4 rfl hl (by decide) rfl (fun ls hl => ?_)
  obtain ⟨n_3, h⟩ := h
  exact hlp_F0_J7_fill_53178_5 n_3 ff p1 0 6 _ _ _ hP hD hS (lv_sub hl [2, 3, 1, 0] rfl) h
def kI (dC : Nat → ClassId) (dI : Nat → Nat → Nat) (ad : Nat → Nat) (A : Nat → Prop) (ws : va_W) (tys : List (ClassId × FieldType)) (U : State) : Prop := kC dC dI ad A ws tys U ∧ va_AO RX3 U
theorem ky_eq {D : va_G} {cl : List vw_C} {tys : List (ClassId × FieldType)} {U : State} (h : va_K D cl tys U) {i j : Nat} {c1 c2 : ClassId} {t : FieldType} (hi : tys[i]? = some (c1, t)) (hj : tys[j]? = some (c2, t)) : c1 = c2 := by
  have a := (h.2 i _ hi).2
  have b := (h.2 j _ hj).2
  cases t with
  | object C =>
    obtain ⟨_, _, -, -, -, a4⟩ := a
    obtain ⟨_, _, -, -, -, b4⟩ := b
    exact Option.some.inj (a4.symm.trans b4)
  | _ => exact Option.some.inj (Eq.trans (Eq.symm (show U.vm.findClass _ = some c1 from a)) (show U.vm.findClass _ = some c2 from b))
/-- A without the cells of w -/
def kM (A : Nat → Prop) (w : va_W) : Nat → Prop := fun q => A q ∧ ∀ (k : Nat) (e : va_E), w[k]? ≠ some (q, e)
theorem ks_D1 {A : Nat → Prop} {w1 w2 : va_W} (hD : va_D A (w1 ++ w2)) : va_D (kM A w2) w1 := by
  have h0 : ∀ (k : Nat) (q : Nat × va_E), w1[k]? = some q → (w1 ++ w2)[k]? = some q := fun k q h => by
    rw [List.getElem?_append_left (List.getElem?_eq_some_iff.mp h).1]; exact h
  refine ⟨fun i j x y hx hy e => hD.1 i j x y (h0 i x hx) (h0 j y hy) e, fun k q h => ⟨hD.2 k q (h0 k q h), fun j e hj => ?_⟩⟩
  have h1 : (w1 ++ w2)[w1.length + j]? = some (q.1, e) := by
    rw [List.getElem?_append_right (Nat.le_add_right _ _), Nat.add_sub_cancel_left]; exact hj
  have h2 := hD.1 k (w1.length + j) q (q.1, e) (h0 k q h) h1 rfl
  have h3 := (List.getElem?_eq_some_iff.mp h).1
  omega
theorem ks_A {A : Nat → Prop} {D : va_G} {cl : List vw_C} {w2 : va_W} {H0 H : Heap} {locs : List Loc} (hA : ∀ q, H0.size ≤ q → A q) (hS : va_S A H0 H locs) (hP2 : va_P D cl w2 H) : ∀ q, H.size ≤ q → kM A w2 q := fun q hq => ⟨hA q (Nat.le_trans hS.1 hq), fun k e hk => by
  have := (hP2 k (q, e) hk).lt
  omega⟩
theorem ks_back {A : Nat → Prop} {D : va_G} {cl : List vw_C} {w1 w2 : va_W} {H H1 : Heap} (hP2 : va_P D cl w2 H) (hk : ∀ q : Nat, q < H.size → ¬ kM A w2 q → H1[q]? = H[q]?) (hP1 : va_P D cl w1 H1) (hD1 : va_D (kM A w2) w1) (hD2 : va_D A w2) : va_P D cl (w1 ++ w2) H1 ∧ va_D A (w1 ++ w2) := by
  refine ⟨va_P.app hP1 (hP2.kept (fun k q h => hk q.1 (hP2 k q h).lt (fun z => z.2 k q.2 h))), va_D.app (hD1.weaken (fun _ _ _ h => h.1)) hD2 (fun i j x y hx hy e => ?_)⟩
  exact (hD1.2 i x hx).2 j y.2 (by rw [e]; exact hy)
theorem kE_narrow {ad : Nat → Nat} {A B : Nat → Prop} {U : State} (h : kE ad A U) (hAB : ∀ q, B q → A q) : kE ad B U := by
  obtain ⟨⟨a1, a2⟩, b, ⟨c1, c2⟩, ⟨d1, d2⟩, ⟨e1, e2⟩⟩ := h
  exact ⟨⟨a1.narrow hAB, a2.narrow hAB⟩, b, ⟨c1.narrow hAB, c2.narrow hAB⟩, ⟨d1.narrow hAB, d2.narrow hAB⟩, ⟨e1.narrow hAB, e2⟩⟩
theorem kE_ad {ad ad' : Nat → Nat} {A : Nat → Prop} {U : State} (h : kE ad A U) (he : ∀ k, 30 ≤ k → ad' k = ad k) : kE ad' A U := by
  obtain ⟨a, b, ⟨c1, c2⟩, d, ⟨e1, e2⟩⟩ := h
  refine ⟨a, b, ⟨by rw [he 30 (Nat.le_refl _)]; exact c1, by rw [he 30 (Nat.le_refl _)]; exact c2⟩, d, ⟨?_, fun q hq => by rw [he _ (by omega)]; exact e2 q hq⟩⟩
  rw [show (fun i => ad' (40 + i)) = (fun i => ad (40 + i)) from funext fun i => he _ (by omega), show (fun i => ad' (60 + i)) = (fun i => ad (60 + i)) from funext fun i => he _ (by omega)]
  exact e1
theorem kI_blind {dC : Nat → ClassId} {dI : Nat → Nat → Nat} {ad : Nat → Nat} {A : Nat → Prop} {ws : va_W} {tys : List (ClassId × FieldType)} {av : List Value} : FrameBlind (va_Pc av (kI dC dI ad A ws tys)) := by
  intro a U g mk q
  obtain ⟨q0, q1, q2⟩ := q
  exact ⟨q0, (kC_blind a U g mk (⟨q0, q1⟩ : va_Pc av (kC dC dI ad A ws tys) a U)).2, q2⟩
theorem kC_go2 {dC : Nat → ClassId} {dI : Nat → Nat → Nat} {ad : Nat → Nat} {A : Nat → Prop} {w1 w2 : va_W} {tys : List (ClassId × FieldType)} {s : State} {H : Heap} {locs : List Loc} (hA : ∀ q, s.heap.size ≤ q → A q) (hS : va_S A s.heap H locs) (hP1 : va_P (dC, dI) vwCl w1 H) (hP2 : va_P (dC, dI) vwCl w2 H) (hK : va_K (dC, dI) vwCl tys s) (hD : va_D A (w1 ++ w2)) (hE : kE ad A s) (U : State) (hU : U.heap = H) (hW : s.WarmedH U.vm) : kC dC dI ad (kM A w2) w1 tys U :=
  ⟨fun q hq => ks_A hA hS hP2 q (by rw [← hU]; exact hq), by rw [hU]; exact hP1, va_K.moved hW.alike hK, ks_D1 hD, kE_narrow (kE_at hE hS hU hW) (fun _ h => h.1)⟩
theorem kI_go {dC : Nat → ClassId} {dI : Nat → Nat → Nat} {ad : Nat → Nat} {A : Nat → Prop} {w1 w2 : va_W} {tys : List (ClassId × FieldType)} {s : State} {H : Heap} {locs : List Loc} (hA : ∀ q, s.heap.size ≤ q → A q) (hS : va_S A s.heap H locs) (hP1 : va_P (dC, dI) vwCl w1 H) (hP2 : va_P (dC, dI) vwCl w2 H) (hK : va_K (dC, dI) vwCl tys s) (hD : va_D A (w1 ++ w2)) (hE : kE ad A s) (hAO : va_AO RX3 s) (U : State) (hU : U.heap = H) (hW : s.WarmedH U.vm) : kI dC dI ad (kM A w2) w1 tys U :=
  ⟨kC_go2 hA hS hP1 hP2 hK hD hE U hU hW, va_AO.moved hW.alike hAO⟩
theorem kF_go {dC : Nat → ClassId} {dI : Nat → Nat → Nat} {ad : Nat → Nat} {cB cI cZ cL : ClassId} {A : Nat → Prop} {a : Nat} {f : Nat → Int32} {w2 : va_W} {tys : List (ClassId × FieldType)} {s : State} {H : Heap} {locs : List Loc} (hA : ∀ q, s.heap.size ≤ q → A q) (hS : va_S A s.heap H locs) (hP1 : va_P (dC, dI) vwCl [(a, .inl (cI, 6, .inl f))] H) (hP2 : va_P (dC, dI) vwCl w2 H) (hK : va_K (dC, dI) vwCl tys s) (hD : va_D A ([(a, .inl (cI, 6, .inl f))] ++ w2)) (hE : kE ad A s) (U : State) (hU : U.heap = H) (hW : s.WarmedH U.vm) : kC dC dI (fun k => if k = 0 then a else ad k) (kM A w2) (wF (fun k => if k = 0 then a else ad k) cB cI cZ cL f) tys U := by
  obtain ⟨g1, g2, g3, g4, g5⟩ := kC_go2 hA hS hP1 hP2 hK hD hE U hU hW
  exact ⟨g1, g2, g3, g4, kE_ad g5 (fun k hk => if_neg (by omega))⟩
theorem i_fill (v : Int32) : wp_F0_J7_fill_53178 (fun f => ∀ j, j < 6 → f j = v) (fun _ => 0) v := by
  refine ⟨7, ?_⟩
  have key : ∀ (n i : Nat) (f : Nat → Int32), i ≤ 6 → 6 - i < n → (∀ j, j < i → f j = v) → lp_F0_J7_fill_53178_5 (fun f => ∀ j, j < 6 → f j = v) n f v (nI i) 6 := by
    intro n
    induction n with
    | zero => intro i f h1 h2; omega
    | succ n ih =>
      intro i f h1 h2 h3
      refine ⟨fun h4 => ?_, fun h4 => ?_⟩
      · have : i = 6 := by
          rcases Nat.lt_or_ge i 6 with q | q
          · exact absurd h4 (nI_ge (b := 6) q (by omega))
          · omega
        subst this
        exact h3
      · have hi : i < 6 := by
          rcases Nat.lt_or_ge i 6 with q | q
          · exact q
          · exact absurd (nI_le (a := 6) q (by omega)) h4
        refine ⟨vp_in_nI hi (by omega), ?_⟩
        show lp_F0_J7_fill_53178_5 _ n _ v (nI i + 1) 6
        rw [nI_1]
        refine ih (i + 1) _ hi (by omega) (fun j hj => ?_)
        rw [nI_clamp (by omega)]
        by_cases hji : j = i
        · subst hji; exact pk_us
        · rw [pk_un hji]; exact h3 j (by omega)
  exact key 7 0 _ (by omega) (by omega) (fun j hj => absurd hj (by omega))
def ri_X6_init : Room := { frames := 1, cells := 1, slots := 400, locals := 12 }
set_option maxHeartbeats 4000000 in
set_option maxRecDepth 100000 in
theorem i_X6_init (l : Launch) (dC : Nat → ClassId) (dI : Nat → Nat → Nat) (ad : Nat → Nat) (cB cI cZ cL : ClassId) (A : Nat → Prop) (h0 : Nat) : Met l yX6_init wsX6_init ri_X6_init (va_Pc [.ref h0] (kI dC dI ad A [(h0, .inr (6, [.null, .int 0]))] (kTy cB cI cZ cL))) (va_Qv (fun u : Nat => True) (fun u t => kB dC dI A [(h0, .inr (6, [.ref u, .int 0])), (u, .inl (cB, 400, .inl (fun _ => 0)))] (kTy cB cI cZ cL) t) A) 1 400 A := by
  refine Met.ofW (cc := cX6_init) (maxL := 1) (ret := none) (by decide) rfl ?_
  intro p e s m args below meth c s₁ B hml hv
  obtain ⟨rfl, ⟨hA, hP, hK, hD, hE⟩, hAO⟩ := hv
  have hx := B.exec
  have hb := B.bytes
  have hr := B.returns
  have hts := atoms_spec (ws := wsX6_init) B.pre
  have hown : s.vm.findClass RX6 = some m.cls := findClass_of_methodNamed B.named
  have hlocks := B.notSynchronized
  have hin0 : meth.name = "<init>" := (name_of_methodNamed B.named B.method).1
  have hS : va_S A s.heap s.heap [] := va_S.rf
  have hk_0 := hts (.methodLink RX6 3 objectInit) (by decide +kernel)
  have hk_1 := hts (.instanceMethod objectInit) (by decide +kernel)
  have hk_2 := hts (.code objectInit ⟨#[0xb1]⟩ 1 none) (by decide +kernel)
  have hk_3 := hts (.arrayClass .byte) (by decide +kernel)
  have hk_4 := hts (.fieldLink RX6 9 "HamCellar$Tape" "bytes" "[B") (by decide +kernel)
  have hin_5 : ∀ w ∈ wsX60, w ∈ wsX6_init := by decide +kernel
  have hl := lv_entry ([.ref h0]) (n := 1) (Nat.le_of_ble_eq_true rfl)
  rw [lg_entry_eq]
  generalize (lg_sl ([.ref h0]) ++ List.replicate (1 - (lg_sl ([.ref h0])).length) Slot.unset).toArray = ls at hl ⊢
  have hl : lv_has ls 1 [(0, .ref h0)] := hl
  refine lv_aload_n hx hb dX6_init_0 rfl (lv_at hl 0 rfl) ?_
  refine W.objInit hx hb hown hk_0 hk_1 hk_2 rfl (by rw [hml]; exact hl.1) rfl dX6_init_1 (Nat.le_of_ble_eq_true rfl) (Nat.le_of_ble_eq_true rfl) ?_
  refine W.eq (g2 := F0 m 4 ls []) rfl ?_
  refine lv_aload_n hx hb dX6_init_4 rfl (lv_at hl 0 rfl) ?_
  refine lv_sipush (v := 400) hx hb dX6_init_5 (by decide) ?_
  refine va_newa (atype := .byte) (ty := .byte) (a0 := (400, .inl (fun _ => 0))) (N' := 400) hx hb hk_3 rfl hK hP hD hS hA (fun _ => rfl) (by decide) (by decide) (by decide) (Nat.le_of_ble_eq_true rfl) (Nat.le_of_ble_eq_true rfl) dX6_init_8 (fun q1 cA H hK2 hP hD hS => ?_)
  obtain rfl := ky_eq hK2 (i := 0) (j := 4) rfl rfl
  have hP : va_P (dC, dI) vwCl [(h0, .inr (6, [.null, .int 0])), (q1, .inl (cB, 400, .inl (fun _ => 0)))] H := hP
  have hD : va_D A [(h0, .inr (6, [.null, .int 0])), (q1, .inl (cB, 400, .inl (fun _ => 0)))] := hD
  refine va_putF (D := (dC, dI)) (ci := 6) (v := .ref q1) (ty := .array .byte) (C := RX6) (T := TX6) (N := 2) hx hb hts hin_5 tyX6 tyX6_ok nmX6 hown hK hP hD hS 0 rfl rfl 0 (by decide) hk_4 (fun _ h9 => h9) rfl hin0 rfl (by decide +kernel) rfl rfl (Nat.le_of_ble_eq_true rfl) dX6_init_10 (fun H locs hP hD hS => ?_)
  have hP : va_P (dC, dI) vwCl [(h0, .inr (6, [.ref q1, .int 0])), (q1, .inl (cB, 400, .inl (fun _ => 0)))] H := hP
  have hD : va_D A [(h0, .inr (6, [.ref q1, .int 0])), (q1, .inl (cB, 400, .inl (fun _ => 0)))] := hD
  exact W.vret hx hb hr (fun t ht hW => ⟨⟨(q1), rfl, trivial, kB_mk hP hK hD ht hW.alike⟩, hS.F ht⟩) hS.2.2 dX6_init_13
def ri_X2_init : Room := { frames := 1, cells := 1, slots := 60, locals := 12 }
set_option maxHeartbeats 4000000 in
set_option maxRecDepth 100000 in
theorem i_X2_init (l : Launch) (dC : Nat → ClassId) (dI : Nat → Nat → Nat) (ad : Nat → Nat) (cB cI cZ cL : ClassId) (A : Nat → Prop) (h0 : Nat) : Met l yX2_init wsX2_init ri_X2_init (va_Pc [.ref h0] (kI dC dI ad A [(h0, .inr (2, [.null]))] (kTy cB cI cZ cL))) (va_Qv (fun u : Nat => True) (fun u t => kB dC dI A [(h0, .inr (2, [.ref u])), (u, .inl (cL, 60, .inr (.inr (.inr (.inr (fun _ => none))))))] (kTy cB cI cZ cL) t) A) 1 60 A := by
  refine Met.ofW (cc := cX2_init) (maxL := 1) (ret := none) (by decide) rfl ?_
  intro p e s m args below meth c s₁ B hml hv
  obtain ⟨rfl, ⟨hA, hP, hK, hD, hE⟩, hAO⟩ := hv
  have hx := B.exec
  have hb := B.bytes
  have hr := B.returns
  have hts := atoms_spec (ws := wsX2_init) B.pre
  have hown : s.vm.findClass RX2 = some m.cls := findClass_of_methodNamed B.named
  have hlocks := B.notSynchronized
  have hin0 : meth.name = "<init>" := (name_of_methodNamed B.named B.method).1
  have hS : va_S A s.heap s.heap [] := va_S.rf
  have hk_0 := hts (.methodLink RX2 3 objectInit) (by decide +kernel)
  have hk_1 := hts (.instanceMethod objectInit) (by decide +kernel)
  have hk_2 := hts (.code objectInit ⟨#[0xb1]⟩ 1 none) (by decide +kernel)
  have hk_3 := hts (.classLink RX2 9 RX3) (by decide +kernel)
  have hk_4 := hts (.fieldLink RX2 11 "HamCellar$Hooks" "hung" "[LHamCellar$Leg;") (by decide +kernel)
  have hin_5 : ∀ w ∈ wsX20, w ∈ wsX2_init := by decide +kernel
  have hl := lv_entry ([.ref h0]) (n := 1) (Nat.le_of_ble_eq_true rfl)
  rw [lg_entry_eq]
  generalize (lg_sl ([.ref h0]) ++ List.replicate (1 - (lg_sl ([.ref h0])).length) Slot.unset).toArray = ls at hl ⊢
  have hl : lv_has ls 1 [(0, .ref h0)] := hl
  refine lv_aload_n hx hb dX2_init_0 rfl (lv_at hl 0 rfl) ?_
  refine W.objInit hx hb hown hk_0 hk_1 hk_2 rfl (by rw [hml]; exact hl.1) rfl dX2_init_1 (Nat.le_of_ble_eq_true rfl) (Nat.le_of_ble_eq_true rfl) ?_
  refine W.eq (g2 := F0 m 4 ls []) rfl ?_
  refine lv_aload_n hx hb dX2_init_4 rfl (lv_at hl 0 rfl) ?_
  refine lv_bipush (v := 60) hx hb dX2_init_5 (by decide) ?_
  refine va_newq (N' := 60) hx hb hown hk_3 hAO hK hP hD hS hA (by decide) (by decide) (by decide) (Nat.le_of_ble_eq_true rfl) (Nat.le_of_ble_eq_true rfl) dX2_init_7 (fun q1 cA H hK2 hP hD hS => ?_)
  obtain rfl := ky_eq hK2 (i := 3) (j := 4) rfl rfl
  have hP : va_P (dC, dI) vwCl [(h0, .inr (2, [.null])), (q1, .inl (cL, 60, .inr (.inr (.inr (.inr (fun _ => none))))))] H := hP
  have hD : va_D A [(h0, .inr (2, [.null])), (q1, .inl (cL, 60, .inr (.inr (.inr (.inr (fun _ => none))))))] := hD
  refine va_putF (D := (dC, dI)) (ci := 2) (v := .ref q1) (ty := .array (.object "HamCellar$Leg")) (C := RX2) (T := TX2) (N := 1) hx hb hts hin_5 tyX2 tyX2_ok nmX2 hown hK hP hD hS 0 rfl rfl 0 (by decide) hk_4 (fun _ h9 => h9) rfl hin0 rfl (by decide +kernel) rfl rfl (Nat.le_of_ble_eq_true rfl) dX2_init_10 (fun H locs hP hD hS => ?_)
  have hP : va_P (dC, dI) vwCl [(h0, .inr (2, [.ref q1])), (q1, .inl (cL, 60, .inr (.inr (.inr (.inr (fun _ => none))))))] H := hP
  have hD : va_D A [(h0, .inr (2, [.ref q1])), (q1, .inl (cL, 60, .inr (.inr (.inr (.inr (fun _ => none))))))] := hD
  exact W.vret hx hb hr (fun t ht hW => ⟨⟨(q1), rfl, trivial, kB_mk hP hK hD ht hW.alike⟩, hS.F ht⟩) hS.2.2 dX2_init_13
def ri_X4_init : Room := { frames := 1, cells := 3, slots := 18, locals := 23 }
set_option maxHeartbeats 4000000 in
set_option maxRecDepth 100000 in
theorem i_X4_init (l : Launch) (dC : Nat → ClassId) (dI : Nat → Nat → Nat) (ad : Nat → Nat) (cB cI cZ cL : ClassId) (A : Nat → Prop) (h0 : Nat) : Met l yX4_init wsX4_init ri_X4_init (va_Pc [.ref h0] (kI dC dI ad A [(h0, .inr (4, [.null, .null, .null]))] (kTy cB cI cZ cL))) (va_Qv (fun u : Nat × Nat × Nat × (Nat → Int32) × (Nat → Int32) => (∀ j, j < 6 → (u.2.2.2.1) j = 15) ∧ (∀ j, j < 6 → (u.2.2.2.2) j = 60)) (fun u t => kB dC dI A [(u.2.1, .inl (cI, 6, .inl u.2.2.2.2)), (u.1, .inl (cI, 6, .inl u.2.2.2.1)), (h0, .inr (4, [.ref u.1, .ref u.2.1, .ref u.2.2.1])), (u.2.2.1, .inl (cZ, 6, .inl (fun _ => 0)))] (kTy cB cI cZ cL) t) A) 3 18 A := by
  refine Met.ofW (cc := cX4_init) (maxL := 1) (ret := none) (by decide) rfl ?_
  intro p e s m args below meth c s₁ B hml hv
  obtain ⟨rfl, ⟨hA, hP, hK, hD, hE⟩, hAO⟩ := hv
  have hx := B.exec
  have hb := B.bytes
  have hr := B.returns
  have hts := atoms_spec (ws := wsX4_init) B.pre
  have hown : s.vm.findClass RX4 = some m.cls := findClass_of_methodNamed B.named
  have hlocks := B.notSynchronized
  have hin0 : meth.name = "<init>" := (name_of_methodNamed B.named B.method).1
  have hS : va_S A s.heap s.heap [] := va_S.rf
  have hk_0 := hts (.methodLink RX4 3 objectInit) (by decide +kernel)
  have hk_1 := hts (.instanceMethod objectInit) (by decide +kernel)
  have hk_2 := hts (.code objectInit ⟨#[0xb1]⟩ 1 none) (by decide +kernel)
  have hk_3 := hts (.arrayClass .int) (by decide +kernel)
  have hk_4 := hts (.fieldLink RX4 9 "HamCellar$Rooms" "warmth" "[I") (by decide +kernel)
  have hin_5 : ∀ w ∈ wsX40, w ∈ wsX4_init := by decide +kernel
  have hk_6 := hts (.fieldLink RX4 15 "HamCellar$Rooms" "damp" "[I") (by decide +kernel)
  have hk_7 := hts (.arrayClass .boolean) (by decide +kernel)
  have hk_8 := hts (.fieldLink RX4 18 "HamCellar$Rooms" "windowsOpen" "[Z") (by decide +kernel)
  have hl := lv_entry ([.ref h0]) (n := 1) (Nat.le_of_ble_eq_true rfl)
  rw [lg_entry_eq]
  generalize (lg_sl ([.ref h0]) ++ List.replicate (1 - (lg_sl ([.ref h0])).length) Slot.unset).toArray = ls at hl ⊢
  have hl : lv_has ls 1 [(0, .ref h0)] := hl
  refine lv_aload_n hx hb dX4_init_0 rfl (lv_at hl 0 rfl) ?_
  refine W.objInit hx hb hown hk_0 hk_1 hk_2 rfl (by rw [hml]; exact hl.1) rfl dX4_init_1 (Nat.le_of_ble_eq_true rfl) (Nat.le_of_ble_eq_true rfl) ?_
  refine W.eq (g2 := F0 m 4 ls []) rfl ?_
  refine lv_aload_n hx hb dX4_init_4 rfl (lv_at hl 0 rfl) ?_
  refine lv_bipush (v := 6) hx hb dX4_init_5 (by decide) ?_
  refine va_newa (atype := .int) (ty := .int) (a0 := (6, .inl (fun _ => 0))) (N' := 6) hx hb hk_3 rfl hK hP hD hS hA (fun _ => rfl) (by decide) (by decide) (by decide) (Nat.le_of_ble_eq_true rfl) (Nat.le_of_ble_eq_true rfl) dX4_init_7 (fun q1 cA H hK2 hP hD hS => ?_)
  obtain rfl := ky_eq hK2 (i := 1) (j := 4) rfl rfl
  have hP : va_P (dC, dI) vwCl [(h0, .inr (4, [.null, .null, .null])), (q1, .inl (cI, 6, .inl (fun _ => 0)))] H := hP
  have hD : va_D A [(h0, .inr (4, [.null, .null, .null])), (q1, .inl (cI, 6, .inl (fun _ => 0)))] := hD
  refine va_putF (D := (dC, dI)) (ci := 4) (v := .ref q1) (ty := .array .int) (C := RX4) (T := TX4) (N := 3) hx hb hts hin_5 tyX4 tyX4_ok nmX4 hown hK hP hD hS 0 rfl rfl 0 (by decide) hk_4 (fun _ h9 => h9) rfl hin0 rfl (by decide +kernel) rfl rfl (Nat.le_of_ble_eq_true rfl) dX4_init_9 (fun H locs hP hD hS => ?_)
  have hP : va_P (dC, dI) vwCl [(h0, .inr (4, [.ref q1, .null, .null])), (q1, .inl (cI, 6, .inl (fun _ => 0)))] H := hP
  have hD : va_D A [(h0, .inr (4, [.ref q1, .null, .null])), (q1, .inl (cI, 6, .inl (fun _ => 0)))] := hD
  refine lv_aload_n hx hb dX4_init_12 rfl (lv_at hl 0 rfl) ?_
  refine lv_bipush (v := 6) hx hb dX4_init_13 (by decide) ?_
  refine va_newa (atype := .int) (ty := .int) (a0 := (6, .inl (fun _ => 0))) (N' := 6) hx hb hk_3 rfl hK hP hD hS hA (fun _ => rfl) (by decide) (by decide) (by decide) (Nat.le_of_ble_eq_true rfl) (Nat.le_of_ble_eq_true rfl) dX4_init_15 (fun q2 cA H hK2 hP hD hS => ?_)
  obtain rfl := ky_eq hK2 (i := 1) (j := 4) rfl rfl
  have hP : va_P (dC, dI) vwCl [(h0, .inr (4, [.ref q1, .null, .null])), (q1, .inl (cI, 6, .inl (fun _ => 0))), (q2, .inl (cI, 6, .inl (fun _ => 0)))] H := hP
  have hD : va_D A [(h0, .inr (4, [.ref q1, .null, .null])), (q1, .inl (cI, 6, .inl (fun _ => 0))), (q2, .inl (cI, 6, .inl (fun _ => 0)))] := hD
  refine va_putF (D := (dC, dI)) (ci := 4) (v := .ref q2) (ty := .array .int) (C := RX4) (T := TX4) (N := 3) hx hb hts hin_5 tyX4 tyX4_ok nmX4 hown hK hP hD hS 0 rfl rfl 1 (by decide) hk_6 (fun _ h9 => h9) rfl hin0 rfl (by decide +kernel) rfl rfl (Nat.le_of_ble_eq_true rfl) dX4_init_17 (fun H locs hP hD hS => ?_)
  have hP : va_P (dC, dI) vwCl [(h0, .inr (4, [.ref q1, .ref q2, .null])), (q1, .inl (cI, 6, .inl (fun _ => 0))), (q2, .inl (cI, 6, .inl (fun _ => 0)))] H := hP
  have hD : va_D A [(h0, .inr (4, [.ref q1, .ref q2, .null])), (q1, .inl (cI, 6, .inl (fun _ => 0))), (q2, .inl (cI, 6, .inl (fun _ => 0)))] := hD
  refine lv_aload_n hx hb dX4_init_20 rfl (lv_at hl 0 rfl) ?_
  refine lv_bipush (v := 6) hx hb dX4_init_21 (by decide) ?_
  refine va_newa (atype := .boolean) (ty := .boolean) (a0 := (6, .inl (fun _ => 0))) (N' := 6) hx hb hk_7 rfl hK hP hD hS hA (fun _ => rfl) (by decide) (by decide) (by decide) (Nat.le_of_ble_eq_true rfl) (Nat.le_of_ble_eq_true rfl) dX4_init_23 (fun q3 cA H hK2 hP hD hS => ?_)
  obtain rfl := ky_eq hK2 (i := 2) (j := 4) rfl rfl
  have hP : va_P (dC, dI) vwCl [(h0, .inr (4, [.ref q1, .ref q2, .null])), (q1, .inl (cI, 6, .inl (fun _ => 0))), (q2, .inl (cI, 6, .inl (fun _ => 0))), (q3, .inl (cZ, 6, .inl (fun _ => 0)))] H := hP
  have hD : va_D A [(h0, .inr (4, [.ref q1, .ref q2, .null])), (q1, .inl (cI, 6, .inl (fun _ => 0))), (q2, .inl (cI, 6, .inl (fun _ => 0))), (q3, .inl (cZ, 6, .inl (fun _ => 0)))] := hD
  refine va_putF (D := (dC, dI)) (ci := 4) (v := .ref q3) (ty := .array .boolean) (C := RX4) (T := TX4) (N := 3) hx hb hts hin_5 tyX4 tyX4_ok nmX4 hown hK hP hD hS 0 rfl rfl 2 (by decide) hk_8 (fun _ h9 => h9) rfl hin0 rfl (by decide +kernel) rfl rfl (Nat.le_of_ble_eq_true rfl) dX4_init_25 (fun H locs hP hD hS => ?_)
  have hP : va_P (dC, dI) vwCl [(h0, .inr (4, [.ref q1, .ref q2, .ref q3])), (q1, .inl (cI, 6, .inl (fun _ => 0))), (q2, .inl (cI, 6, .inl (fun _ => 0))), (q3, .inl (cZ, 6, .inl (fun _ => 0)))] H := hP
  have hD : va_D A [(h0, .inr (4, [.ref q1, .ref q2, .ref q3])), (q1, .inl (cI, 6, .inl (fun _ => 0))), (q2, .inl (cI, 6, .inl (fun _ => 0))), (q3, .inl (cZ, 6, .inl (fun _ => 0)))] := hD
  refine lv_aload_n hx hb dX4_init_28 rfl (lv_at hl 0 rfl) ?_
  refine va_get (D := (dC, dI)) (ci := 4) (v := .ref q1) (C := RX4) (T := TX4) (N := 3) hx hb hts hin_5 hown hK hP 0 rfl rfl 0 (by decide) hk_4 (fun _ h9 => h9) rfl dX4_init_29 ?_
  refine lv_bipush (v := 15) hx hb dX4_init_32 (by decide) ?_
  have hP1 := hP.sub (ws' := [(q1, .inl (cI, 6, .inl (fun _ => 0)))]) [1] rfl
  have hP2 := hP.sub (ws' := [(h0, .inr (4, [.ref q1, .ref q2, .ref q3])), (q2, .inl (cI, 6, .inl (fun _ => 0))), (q3, .inl (cZ, 6, .inl (fun _ => 0)))]) [0, 2, 3] rfl
  have hD1 := hD.sub (ws' := [(q1, .inl (cI, 6, .inl (fun _ => 0)))] ++ [(h0, .inr (4, [.ref q1, .ref q2, .ref q3])), (q2, .inl (cI, 6, .inl (fun _ => 0))), (q3, .inl (cZ, 6, .inl (fun _ => 0)))]) [1, 0, 2, 3] (by decide) rfl
  have hD2 := hD.sub (ws' := [(h0, .inr (4, [.ref q1, .ref q2, .ref q3])), (q2, .inl (cI, 6, .inl (fun _ => 0))), (q3, .inl (cZ, 6, .inl (fun _ => 0)))]) [0, 2, 3] (by decide) rfl
  refine va_callv (va_runS (As := [.ref q1, .int 15]) (rest := []) ⟨hx, hb, hml, hown, hts⟩ (c_F0_J7_fill_53178 l dC dI (fun k => if k = 0 then q1 else ad k) cB cI cZ cL (kM A [(h0, .inr (4, [.ref q1, .ref q2, .ref q3])), (q2, .inl (cI, 6, .inl (fun _ => 0))), (q3, .inl (cZ, 6, .inl (fun _ => 0)))]) (fun _ => 0) 15 _ (i_fill 15)) (va_cwS 2 hts gX4_init_J7_fill_53178 rfl rfl rfl (by decide +kernel) ⟨(Nat.le_of_ble_eq_true rfl), (Nat.le_of_ble_eq_true rfl)⟩) ⟨kC_blind, fun U hU hW => ⟨rfl, kF_go hA hS hP1 hP2 hK hD1 hE U hU hW⟩⟩ rfl rfl hl.1 rfl (lv_room (Nat.le_of_ble_eq_true rfl)) dX4_init_34 ⟨(Nat.le_of_ble_eq_true rfl), (Nat.le_of_ble_eq_true rfl)⟩) hS (fun q _ h => h.1) (fun q h => h.1) (fun u t H locs ht hvm hw hB hz1 hk1 hS => ?_)
  obtain ⟨f4, rfl⟩ : ∃ z, z = u := ⟨_, rfl⟩
  have hf4 : ∀ j, j < 6 → f4 j = 15 := hw
  obtain ⟨hP, hD⟩ := ks_back (w1 := [(q1, .inl (cI, 6, .inl f4))]) (w2 := [(h0, .inr (4, [.ref q1, .ref q2, .ref q3])), (q2, .inl (cI, 6, .inl (fun _ => 0))), (q3, .inl (cZ, 6, .inl (fun _ => 0)))]) hP2 hk1 (by rw [← ht]; exact hB.1) hB.2.2 hD2
  have hP : va_P (dC, dI) vwCl [(q1, .inl (cI, 6, .inl f4)), (h0, .inr (4, [.ref q1, .ref q2, .ref q3])), (q2, .inl (cI, 6, .inl (fun _ => 0))), (q3, .inl (cZ, 6, .inl (fun _ => 0)))] H := hP
  have hD : va_D A [(q1, .inl (cI, 6, .inl f4)), (h0, .inr (4, [.ref q1, .ref q2, .ref q3])), (q2, .inl (cI, 6, .inl (fun _ => 0))), (q3, .inl (cZ, 6, .inl (fun _ => 0)))] := hD
  refine lv_aload_n hx hb dX4_init_37 rfl (lv_at hl 0 rfl) ?_
  refine va_get (D := (dC, dI)) (ci := 4) (v := .ref q2) (C := RX4) (T := TX4) (N := 3) hx hb hts hin_5 hown hK hP 1 rfl rfl 1 (by decide) hk_6 (fun _ h9 => h9) rfl dX4_init_38 ?_
  refine lv_bipush (v := 60) hx hb dX4_init_41 (by decide) ?_
  have hP1 := hP.sub (ws' := [(q2, .inl (cI, 6, .inl (fun _ => 0)))]) [2] rfl
  have hP2 := hP.sub (ws' := [(q1, .inl (cI, 6, .inl f4)), (h0, .inr (4, [.ref q1, .ref q2, .ref q3])), (q3, .inl (cZ, 6, .inl (fun _ => 0)))]) [0, 1, 3] rfl
  have hD1 := hD.sub (ws' := [(q2, .inl (cI, 6, .inl (fun _ => 0)))] ++ [(q1, .inl (cI, 6, .inl f4)), (h0, .inr (4, [.ref q1, .ref q2, .ref q3])), (q3, .inl (cZ, 6, .inl (fun _ => 0)))]) [2, 0, 1, 3] (by decide) rfl
  have hD2 := hD.sub (ws' := [(q1, .inl (cI, 6, .inl f4)), (h0, .inr (4, [.ref q1, .ref q2, .ref q3])), (q3, .inl (cZ, 6, .inl (fun _ => 0)))]) [0, 1, 3] (by decide) rfl
  refine va_callv (va_runS (As := [.ref q2, .int 60]) (rest := []) ⟨hx, hb, hml, hown, hts⟩ (c_F0_J7_fill_53178 l dC dI (fun k => if k = 0 then q2 else ad k) cB cI cZ cL (kM A [(q1, .inl (cI, 6, .inl f4)), (h0, .inr (4, [.ref q1, .ref q2, .ref q3])), (q3, .inl (cZ, 6, .inl (fun _ => 0)))]) (fun _ => 0) 60 _ (i_fill 60)) (va_cwS 2 hts gX4_init_J7_fill_53178 rfl rfl rfl (by decide +kernel) ⟨(Nat.le_of_ble_eq_true rfl), (Nat.le_of_ble_eq_true rfl)⟩) ⟨kC_blind, fun U hU hW => ⟨rfl, kF_go hA hS hP1 hP2 hK hD1 hE U hU hW⟩⟩ rfl rfl hl.1 rfl (lv_room (Nat.le_of_ble_eq_true rfl)) dX4_init_43 ⟨(Nat.le_of_ble_eq_true rfl), (Nat.le_of_ble_eq_true rfl)⟩) hS (fun q _ h => h.1) (fun q h => h.1) (fun u t H locs ht hvm hw hB hz1 hk1 hS => ?_)
  obtain ⟨f5, rfl⟩ : ∃ z, z = u := ⟨_, rfl⟩
  have hf5 : ∀ j, j < 6 → f5 j = 60 := hw
  obtain ⟨hP, hD⟩ := ks_back (w1 := [(q2, .inl (cI, 6, .inl f5))]) (w2 := [(q1, .inl (cI, 6, .inl f4)), (h0, .inr (4, [.ref q1, .ref q2, .ref q3])), (q3, .inl (cZ, 6, .inl (fun _ => 0)))]) hP2 hk1 (by rw [← ht]; exact hB.1) hB.2.2 hD2
  have hP : va_P (dC, dI) vwCl [(q2, .inl (cI, 6, .inl f5)), (q1, .inl (cI, 6, .inl f4)), (h0, .inr (4, [.ref q1, .ref q2, .ref q3])), (q3, .inl (cZ, 6, .inl (fun _ => 0)))] H := hP
  have hD : va_D A [(q2, .inl (cI, 6, .inl f5)), (q1, .inl (cI, 6, .inl f4)), (h0, .inr (4, [.ref q1, .ref q2, .ref q3])), (q3, .inl (cZ, 6, .inl (fun _ => 0)))] := hD
  exact W.vret hx hb hr (fun t ht hW => ⟨⟨(q1, q2, q3, f4, f5), rfl, ⟨hf4, hf5⟩, kB_mk hP hK hD ht hW.alike⟩, hS.F ht⟩) hS.2.2 dX4_init_46
def ri_X5_init : Room := { frames := 1, cells := 1, slots := 5, locals := 12 }
set_option maxHeartbeats 4000000 in
set_option maxRecDepth 100000 in
theorem i_X5_init (l : Launch) (dC : Nat → ClassId) (dI : Nat → Nat → Nat) (ad : Nat → Nat) (cB cI cZ cL : ClassId) (A : Nat → Prop) (h0 t0 : Nat) : Met l yX5_init wsX5_init ri_X5_init (va_Pc [.ref h0, .ref t0] (kI dC dI ad A [(h0, .inr (5, [.null, .null, .int 0, .int 0, .int 0]))] (kTy cB cI cZ cL))) (va_Qv (fun u : Nat => True) (fun u t => kB dC dI A [(h0, .inr (5, [.ref t0, .ref u, .int 0, .int 0, .int (-1)])), (u, .inl (cI, 5, .inl (fun _ => 0)))] (kTy cB cI cZ cL) t) A) 1 5 A := by
  refine Met.ofW (cc := cX5_init) (maxL := 2) (ret := none) (by decide) rfl ?_
  intro p e s m args below meth c s₁ B hml hv
  obtain ⟨rfl, ⟨hA, hP, hK, hD, hE⟩, hAO⟩ := hv
  have hx := B.exec
  have hb := B.bytes
  have hr := B.returns
  have hts := atoms_spec (ws := wsX5_init) B.pre
  have hown : s.vm.findClass RX5 = some m.cls := findClass_of_methodNamed B.named
  have hlocks := B.notSynchronized
  have hin0 : meth.name = "<init>" := (name_of_methodNamed B.named B.method).1
  have hS : va_S A s.heap s.heap [] := va_S.rf
  have hk_0 := hts (.methodLink RX5 3 objectInit) (by decide +kernel)
  have hk_1 := hts (.instanceMethod objectInit) (by decide +kernel)
  have hk_2 := hts (.code objectInit ⟨#[0xb1]⟩ 1 none) (by decide +kernel)
  have hk_3 := hts (.arrayClass .int) (by decide +kernel)
  have hk_4 := hts (.fieldLink RX5 9 "HamCellar$RuleReader" "numbers" "[I") (by decide +kernel)
  have hin_5 : ∀ w ∈ wsX50, w ∈ wsX5_init := by decide +kernel
  have hk_6 := hts (.fieldLink RX5 15 "HamCellar$RuleReader" "wrong" "I") (by decide +kernel)
  have hk_7 := hts (.fieldLink RX5 19 "HamCellar$RuleReader" "tape" "LHamCellar$Tape;") (by decide +kernel)
  have hl := lv_entry ([.ref h0, .ref t0]) (n := 2) (Nat.le_of_ble_eq_true rfl)
  rw [lg_entry_eq]
  generalize (lg_sl ([.ref h0, .ref t0]) ++ List.replicate (2 - (lg_sl ([.ref h0, .ref t0])).length) Slot.unset).toArray = ls at hl ⊢
  have hl : lv_has ls 2 [(0, .ref h0), (1, .ref t0)] := hl
  refine lv_aload_n hx hb dX5_init_0 rfl (lv_at hl 0 rfl) ?_
  refine W.objInit hx hb hown hk_0 hk_1 hk_2 rfl (by rw [hml]; exact hl.1) rfl dX5_init_1 (Nat.le_of_ble_eq_true rfl) (Nat.le_of_ble_eq_true rfl) ?_
  refine W.eq (g2 := F0 m 4 ls []) rfl ?_
  refine lv_aload_n hx hb dX5_init_4 rfl (lv_at hl 0 rfl) ?_
  refine lv_iconst (v := 5) hx hb dX5_init_5 (by decide) ?_
  refine va_newa (atype := .int) (ty := .int) (a0 := (5, .inl (fun _ => 0))) (N' := 5) hx hb hk_3 rfl hK hP hD hS hA (fun _ => rfl) (by decide) (by decide) (by decide) (Nat.le_of_ble_eq_true rfl) (Nat.le_of_ble_eq_true rfl) dX5_init_6 (fun q1 cA H hK2 hP hD hS => ?_)
  obtain rfl := ky_eq hK2 (i := 1) (j := 4) rfl rfl
  have hP : va_P (dC, dI) vwCl [(h0, .inr (5, [.null, .null, .int 0, .int 0, .int 0])), (q1, .inl (cI, 5, .inl (fun _ => 0)))] H := hP
  have hD : va_D A [(h0, .inr (5, [.null, .null, .int 0, .int 0, .int 0])), (q1, .inl (cI, 5, .inl (fun _ => 0)))] := hD
  refine va_putF (D := (dC, dI)) (ci := 5) (v := .ref q1) (ty := .array .int) (C := RX5) (T := TX5) (N := 5) hx hb hts hin_5 tyX5 tyX5_ok nmX5 hown hK hP hD hS 0 rfl rfl 1 (by decide) hk_4 (fun _ h9 => h9) rfl hin0 rfl (by decide +kernel) rfl rfl (Nat.le_of_ble_eq_true rfl) dX5_init_8 (fun H locs hP hD hS => ?_)
  have hP : va_P (dC, dI) vwCl [(h0, .inr (5, [.null, .ref q1, .int 0, .int 0, .int 0])), (q1, .inl (cI, 5, .inl (fun _ => 0)))] H := hP
  have hD : va_D A [(h0, .inr (5, [.null, .ref q1, .int 0, .int 0, .int 0])), (q1, .inl (cI, 5, .inl (fun _ => 0)))] := hD
  refine lv_aload_n hx hb dX5_init_11 rfl (lv_at hl 0 rfl) ?_
  refine lv_iconst (v := (-1)) hx hb dX5_init_12 (by decide) ?_
  refine va_put (D := (dC, dI)) (ci := 5) (v := .int (-1)) (ty := .int) (C := RX5) (T := TX5) (N := 5) hx hb hts hin_5 tyX5 tyX5_ok nmX5 hown hK hP hD hS 0 rfl rfl 4 (by decide) hk_6 (fun _ h9 => h9) rfl (by decide +kernel) rfl rfl (Nat.le_of_ble_eq_true rfl) dX5_init_13 (fun H locs hP hD hS => ?_)
  have hP : va_P (dC, dI) vwCl [(h0, .inr (5, [.null, .ref q1, .int 0, .int 0, .int (-1)])), (q1, .inl (cI, 5, .inl (fun _ => 0)))] H := hP
  have hD : va_D A [(h0, .inr (5, [.null, .ref q1, .int 0, .int 0, .int (-1)])), (q1, .inl (cI, 5, .inl (fun _ => 0)))] := hD
  refine lv_aload_n hx hb dX5_init_16 rfl (lv_at hl 0 rfl) ?_
  refine lv_aload_n hx hb dX5_init_17 rfl (lv_at hl 1 rfl) ?_
  refine va_putF (D := (dC, dI)) (ci := 5) (v := .ref t0) (ty := .object "HamCellar$Tape") (C := RX5) (T := TX5) (N := 5) hx hb hts hin_5 tyX5 tyX5_ok nmX5 hown hK hP hD hS 0 rfl rfl 0 (by decide) hk_7 (fun _ h9 => h9) rfl hin0 rfl (by decide +kernel) rfl rfl (Nat.le_of_ble_eq_true rfl) dX5_init_18 (fun H locs hP hD hS => ?_)
  have hP : va_P (dC, dI) vwCl [(h0, .inr (5, [.ref t0, .ref q1, .int 0, .int 0, .int (-1)])), (q1, .inl (cI, 5, .inl (fun _ => 0)))] H := hP
  have hD : va_D A [(h0, .inr (5, [.ref t0, .ref q1, .int 0, .int 0, .int (-1)])), (q1, .inl (cI, 5, .inl (fun _ => 0)))] := hD
  exact W.vret hx hb hr (fun t ht hW => ⟨⟨(q1), rfl, trivial, kB_mk hP hK hD ht hW.alike⟩, hS.F ht⟩) hS.2.2 dX5_init_21
def ri_X1_init : Room := { frames := 1, cells := 4, slots := 240, locals := 12 }
set_option maxHeartbeats 4000000 in
set_option maxRecDepth 100000 in
theorem i_X1_init (l : Launch) (dC : Nat → ClassId) (dI : Nat → Nat → Nat) (ad : Nat → Nat) (cB cI cZ cL : ClassId) (A : Nat → Prop) (h0 : Nat) : Met l yX1_init wsX1_init ri_X1_init (va_Pc [.ref h0] (kI dC dI ad A [(h0, .inr (1, [.null, .null, .null, .null, .int 0]))] (kTy cB cI cZ cL))) (va_Qv (fun u : Nat × Nat × Nat × Nat => True) (fun u t => kB dC dI A [(h0, .inr (1, [.ref u.1, .ref u.2.1, .ref u.2.2.1, .ref u.2.2.2, .int 0])), (u.1, .inl (cI, 60, .inl (fun _ => 0))), (u.2.1, .inl (cI, 60, .inl (fun _ => 0))), (u.2.2.1, .inl (cI, 60, .inl (fun _ => 0))), (u.2.2.2, .inl (cI, 60, .inl (fun _ => 0)))] (kTy cB cI cZ cL) t) A) 4 240 A := by
  refine Met.ofW (cc := cX1_init) (maxL := 1) (ret := none) (by decide) rfl ?_
  intro p e s m args below meth c s₁ B hml hv
  obtain ⟨rfl, ⟨hA, hP, hK, hD, hE⟩, hAO⟩ := hv
  have hx := B.exec
  have hb := B.bytes
  have hr := B.returns
  have hts := atoms_spec (ws := wsX1_init) B.pre
  have hown : s.vm.findClass RX1 = some m.cls := findClass_of_methodNamed B.named
  have hlocks := B.notSynchronized
  have hin0 : meth.name = "<init>" := (name_of_methodNamed B.named B.method).1
  have hS : va_S A s.heap s.heap [] := va_S.rf
  have hk_0 := hts (.methodLink RX1 3 objectInit) (by decide +kernel)
  have hk_1 := hts (.instanceMethod objectInit) (by decide +kernel)
  have hk_2 := hts (.code objectInit ⟨#[0xb1]⟩ 1 none) (by decide +kernel)
  have hk_3 := hts (.arrayClass .int) (by decide +kernel)
  have hk_4 := hts (.fieldLink RX1 9 "HamCellar$FeedBook" "farms" "[I") (by decide +kernel)
  have hin_5 : ∀ w ∈ wsX10, w ∈ wsX1_init := by decide +kernel
  have hk_6 := hts (.fieldLink RX1 15 "HamCellar$FeedBook" "froms" "[I") (by decide +kernel)
  have hk_7 := hts (.fieldLink RX1 18 "HamCellar$FeedBook" "whats" "[I") (by decide +kernel)
  have hk_8 := hts (.fieldLink RX1 21 "HamCellar$FeedBook" "toldOn" "[I") (by decide +kernel)
  have hl := lv_entry ([.ref h0]) (n := 1) (Nat.le_of_ble_eq_true rfl)
  rw [lg_entry_eq]
  generalize (lg_sl ([.ref h0]) ++ List.replicate (1 - (lg_sl ([.ref h0])).length) Slot.unset).toArray = ls at hl ⊢
  have hl : lv_has ls 1 [(0, .ref h0)] := hl
  refine lv_aload_n hx hb dX1_init_0 rfl (lv_at hl 0 rfl) ?_
  refine W.objInit hx hb hown hk_0 hk_1 hk_2 rfl (by rw [hml]; exact hl.1) rfl dX1_init_1 (Nat.le_of_ble_eq_true rfl) (Nat.le_of_ble_eq_true rfl) ?_
  refine W.eq (g2 := F0 m 4 ls []) rfl ?_
  refine lv_aload_n hx hb dX1_init_4 rfl (lv_at hl 0 rfl) ?_
  refine lv_bipush (v := 60) hx hb dX1_init_5 (by decide) ?_
  refine va_newa (atype := .int) (ty := .int) (a0 := (60, .inl (fun _ => 0))) (N' := 60) hx hb hk_3 rfl hK hP hD hS hA (fun _ => rfl) (by decide) (by decide) (by decide) (Nat.le_of_ble_eq_true rfl) (Nat.le_of_ble_eq_true rfl) dX1_init_7 (fun q1 cA H hK2 hP hD hS => ?_)
  obtain rfl := ky_eq hK2 (i := 1) (j := 4) rfl rfl
  have hP : va_P (dC, dI) vwCl [(h0, .inr (1, [.null, .null, .null, .null, .int 0])), (q1, .inl (cI, 60, .inl (fun _ => 0)))] H := hP
  have hD : va_D A [(h0, .inr (1, [.null, .null, .null, .null, .int 0])), (q1, .inl (cI, 60, .inl (fun _ => 0)))] := hD
  refine va_putF (D := (dC, dI)) (ci := 1) (v := .ref q1) (ty := .array .int) (C := RX1) (T := TX1) (N := 5) hx hb hts hin_5 tyX1 tyX1_ok nmX1 hown hK hP hD hS 0 rfl rfl 0 (by decide) hk_4 (fun _ h9 => h9) rfl hin0 rfl (by decide +kernel) rfl rfl (Nat.le_of_ble_eq_true rfl) dX1_init_9 (fun H locs hP hD hS => ?_)
  have hP : va_P (dC, dI) vwCl [(h0, .inr (1, [.ref q1, .null, .null, .null, .int 0])), (q1, .inl (cI, 60, .inl (fun _ => 0)))] H := hP
  have hD : va_D A [(h0, .inr (1, [.ref q1, .null, .null, .null, .int 0])), (q1, .inl (cI, 60, .inl (fun _ => 0)))] := hD
  refine lv_aload_n hx hb dX1_init_12 rfl (lv_at hl 0 rfl) ?_
  refine lv_bipush (v := 60) hx hb dX1_init_13 (by decide) ?_
  refine va_newa (atype := .int) (ty := .int) (a0 := (60, .inl (fun _ => 0))) (N' := 60) hx hb hk_3 rfl hK hP hD hS hA (fun _ => rfl) (by decide) (by decide) (by decide) (Nat.le_of_ble_eq_true rfl) (Nat.le_of_ble_eq_true rfl) dX1_init_15 (fun q2 cA H hK2 hP hD hS => ?_)
  obtain rfl := ky_eq hK2 (i := 1) (j := 4) rfl rfl
  have hP : va_P (dC, dI) vwCl [(h0, .inr (1, [.ref q1, .null, .null, .null, .int 0])), (q1, .inl (cI, 60, .inl (fun _ => 0))), (q2, .inl (cI, 60, .inl (fun _ => 0)))] H := hP
  have hD : va_D A [(h0, .inr (1, [.ref q1, .null, .null, .null, .int 0])), (q1, .inl (cI, 60, .inl (fun _ => 0))), (q2, .inl (cI, 60, .inl (fun _ => 0)))] := hD
  refine va_putF (D := (dC, dI)) (ci := 1) (v := .ref q2) (ty := .array .int) (C := RX1) (T := TX1) (N := 5) hx hb hts hin_5 tyX1 tyX1_ok nmX1 hown hK hP hD hS 0 rfl rfl 1 (by decide) hk_6 (fun _ h9 => h9) rfl hin0 rfl (by decide +kernel) rfl rfl (Nat.le_of_ble_eq_true rfl) dX1_init_17 (fun H locs hP hD hS => ?_)
  have hP : va_P (dC, dI) vwCl [(h0, .inr (1, [.ref q1, .ref q2, .null, .null, .int 0])), (q1, .inl (cI, 60, .inl (fun _ => 0))), (q2, .inl (cI, 60, .inl (fun _ => 0)))] H := hP
  have hD : va_D A [(h0, .inr (1, [.ref q1, .ref q2, .null, .null, .int 0])), (q1, .inl (cI, 60, .inl (fun _ => 0))), (q2, .inl (cI, 60, .inl (fun _ => 0)))] := hD
  refine lv_aload_n hx hb dX1_init_20 rfl (lv_at hl 0 rfl) ?_
  refine lv_bipush (v := 60) hx hb dX1_init_21 (by decide) ?_
  refine va_newa (atype := .int) (ty := .int) (a0 := (60, .inl (fun _ => 0))) (N' := 60) hx hb hk_3 rfl hK hP hD hS hA (fun _ => rfl) (by decide) (by decide) (by decide) (Nat.le_of_ble_eq_true rfl) (Nat.le_of_ble_eq_true rfl) dX1_init_23 (fun q3 cA H hK2 hP hD hS => ?_)
  obtain rfl := ky_eq hK2 (i := 1) (j := 4) rfl rfl
  have hP : va_P (dC, dI) vwCl [(h0, .inr (1, [.ref q1, .ref q2, .null, .null, .int 0])), (q1, .inl (cI, 60, .inl (fun _ => 0))), (q2, .inl (cI, 60, .inl (fun _ => 0))), (q3, .inl (cI, 60, .inl (fun _ => 0)))] H := hP
  have hD : va_D A [(h0, .inr (1, [.ref q1, .ref q2, .null, .null, .int 0])), (q1, .inl (cI, 60, .inl (fun _ => 0))), (q2, .inl (cI, 60, .inl (fun _ => 0))), (q3, .inl (cI, 60, .inl (fun _ => 0)))] := hD
  refine va_putF (D := (dC, dI)) (ci := 1) (v := .ref q3) (ty := .array .int) (C := RX1) (T := TX1) (N := 5) hx hb hts hin_5 tyX1 tyX1_ok nmX1 hown hK hP hD hS 0 rfl rfl 2 (by decide) hk_7 (fun _ h9 => h9) rfl hin0 rfl (by decide +kernel) rfl rfl (Nat.le_of_ble_eq_true rfl) dX1_init_25 (fun H locs hP hD hS => ?_)
  have hP : va_P (dC, dI) vwCl [(h0, .inr (1, [.ref q1, .ref q2, .ref q3, .null, .int 0])), (q1, .inl (cI, 60, .inl (fun _ => 0))), (q2, .inl (cI, 60, .inl (fun _ => 0))), (q3, .inl (cI, 60, .inl (fun _ => 0)))] H := hP
  have hD : va_D A [(h0, .inr (1, [.ref q1, .ref q2, .ref q3, .null, .int 0])), (q1, .inl (cI, 60, .inl (fun _ => 0))), (q2, .inl (cI, 60, .inl (fun _ => 0))), (q3, .inl (cI, 60, .inl (fun _ => 0)))] := hD
  refine lv_aload_n hx hb dX1_init_28 rfl (lv_at hl 0 rfl) ?_
  refine lv_bipush (v := 60) hx hb dX1_init_29 (by decide) ?_
  refine va_newa (atype := .int) (ty := .int) (a0 := (60, .inl (fun _ => 0))) (N' := 60) hx hb hk_3 rfl hK hP hD hS hA (fun _ => rfl) (by decide) (by decide) (by decide) (Nat.le_of_ble_eq_true rfl) (Nat.le_of_ble_eq_true rfl) dX1_init_31 (fun q4 cA H hK2 hP hD hS => ?_)
  obtain rfl := ky_eq hK2 (i := 1) (j := 4) rfl rfl
  have hP : va_P (dC, dI) vwCl [(h0, .inr (1, [.ref q1, .ref q2, .ref q3, .null, .int 0])), (q1, .inl (cI, 60, .inl (fun _ => 0))), (q2, .inl (cI, 60, .inl (fun _ => 0))), (q3, .inl (cI, 60, .inl (fun _ => 0))), (q4, .inl (cI, 60, .inl (fun _ => 0)))] H := hP
  have hD : va_D A [(h0, .inr (1, [.ref q1, .ref q2, .ref q3, .null, .int 0])), (q1, .inl (cI, 60, .inl (fun _ => 0))), (q2, .inl (cI, 60, .inl (fun _ => 0))), (q3, .inl (cI, 60, .inl (fun _ => 0))), (q4, .inl (cI, 60, .inl (fun _ => 0)))] := hD
  refine va_putF (D := (dC, dI)) (ci := 1) (v := .ref q4) (ty := .array .int) (C := RX1) (T := TX1) (N := 5) hx hb hts hin_5 tyX1 tyX1_ok nmX1 hown hK hP hD hS 0 rfl rfl 3 (by decide) hk_8 (fun _ h9 => h9) rfl hin0 rfl (by decide +kernel) rfl rfl (Nat.le_of_ble_eq_true rfl) dX1_init_33 (fun H locs hP hD hS => ?_)
  have hP : va_P (dC, dI) vwCl [(h0, .inr (1, [.ref q1, .ref q2, .ref q3, .ref q4, .int 0])), (q1, .inl (cI, 60, .inl (fun _ => 0))), (q2, .inl (cI, 60, .inl (fun _ => 0))), (q3, .inl (cI, 60, .inl (fun _ => 0))), (q4, .inl (cI, 60, .inl (fun _ => 0)))] H := hP
  have hD : va_D A [(h0, .inr (1, [.ref q1, .ref q2, .ref q3, .ref q4, .int 0])), (q1, .inl (cI, 60, .inl (fun _ => 0))), (q2, .inl (cI, 60, .inl (fun _ => 0))), (q3, .inl (cI, 60, .inl (fun _ => 0))), (q4, .inl (cI, 60, .inl (fun _ => 0)))] := hD
  exact W.vret hx hb hr (fun t ht hW => ⟨⟨(q1, q2, q3, q4), rfl, trivial, kB_mk hP hK hD ht hW.alike⟩, hS.F ht⟩) hS.2.2 dX1_init_36
def ri_X0_init : Room := { frames := 1, cells := 3, slots := 42, locals := 12 }
set_option maxHeartbeats 4000000 in
set_option maxRecDepth 100000 in
theorem i_X0_init (l : Launch) (dC : Nat → ClassId) (dI : Nat → Nat → Nat) (ad : Nat → Nat) (cB cI cZ cL : ClassId) (A : Nat → Prop) (h0 : Nat) : Met l yX0_init wsX0_init ri_X0_init (va_Pc [.ref h0] (kI dC dI ad A [(h0, .inr (0, [.null, .null, .null, .int 0, .int 0]))] (kTy cB cI cZ cL))) (va_Qv (fun u : Nat × Nat × Nat => True) (fun u t => kB dC dI A [(h0, .inr (0, [.ref u.1, .ref u.2.1, .ref u.2.2, .int 0, .int 0])), (u.1, .inl (cL, 14, .inr (.inr (.inr (.inr (fun _ => none)))))), (u.2.1, .inl (cI, 14, .inl (fun _ => 0))), (u.2.2, .inl (cI, 14, .inl (fun _ => 0)))] (kTy cB cI cZ cL) t) A) 3 42 A := by
  refine Met.ofW (cc := cX0_init) (maxL := 1) (ret := none) (by decide) rfl ?_
  intro p e s m args below meth c s₁ B hml hv
  obtain ⟨rfl, ⟨hA, hP, hK, hD, hE⟩, hAO⟩ := hv
  have hx := B.exec
  have hb := B.bytes
  have hr := B.returns
  have hts := atoms_spec (ws := wsX0_init) B.pre
  have hown : s.vm.findClass RX0 = some m.cls := findClass_of_methodNamed B.named
  have hlocks := B.notSynchronized
  have hin0 : meth.name = "<init>" := (name_of_methodNamed B.named B.method).1
  have hS : va_S A s.heap s.heap [] := va_S.rf
  have hk_0 := hts (.methodLink RX0 3 objectInit) (by decide +kernel)
  have hk_1 := hts (.instanceMethod objectInit) (by decide +kernel)
  have hk_2 := hts (.code objectInit ⟨#[0xb1]⟩ 1 none) (by decide +kernel)
  have hk_3 := hts (.classLink RX0 9 RX3) (by decide +kernel)
  have hk_4 := hts (.fieldLink RX0 11 "HamCellar$Choice" "offered" "[LHamCellar$Leg;") (by decide +kernel)
  have hin_5 : ∀ w ∈ wsX00, w ∈ wsX0_init := by decide +kernel
  have hk_6 := hts (.arrayClass .int) (by decide +kernel)
  have hk_7 := hts (.fieldLink RX0 17 "HamCellar$Choice" "weights" "[I") (by decide +kernel)
  have hk_8 := hts (.fieldLink RX0 21 "HamCellar$Choice" "weightsAhead" "[I") (by decide +kernel)
  have hl := lv_entry ([.ref h0]) (n := 1) (Nat.le_of_ble_eq_true rfl)
  rw [lg_entry_eq]
  generalize (lg_sl ([.ref h0]) ++ List.replicate (1 - (lg_sl ([.ref h0])).length) Slot.unset).toArray = ls at hl ⊢
  have hl : lv_has ls 1 [(0, .ref h0)] := hl
  refine lv_aload_n hx hb dX0_init_0 rfl (lv_at hl 0 rfl) ?_
  refine W.objInit hx hb hown hk_0 hk_1 hk_2 rfl (by rw [hml]; exact hl.1) rfl dX0_init_1 (Nat.le_of_ble_eq_true rfl) (Nat.le_of_ble_eq_true rfl) ?_
  refine W.eq (g2 := F0 m 4 ls []) rfl ?_
  refine lv_aload_n hx hb dX0_init_4 rfl (lv_at hl 0 rfl) ?_
  refine lv_bipush (v := 14) hx hb dX0_init_5 (by decide) ?_
  refine va_newq (N' := 14) hx hb hown hk_3 hAO hK hP hD hS hA (by decide) (by decide) (by decide) (Nat.le_of_ble_eq_true rfl) (Nat.le_of_ble_eq_true rfl) dX0_init_7 (fun q1 cA H hK2 hP hD hS => ?_)
  obtain rfl := ky_eq hK2 (i := 3) (j := 4) rfl rfl
  have hP : va_P (dC, dI) vwCl [(h0, .inr (0, [.null, .null, .null, .int 0, .int 0])), (q1, .inl (cL, 14, .inr (.inr (.inr (.inr (fun _ => none))))))] H := hP
  have hD : va_D A [(h0, .inr (0, [.null, .null, .null, .int 0, .int 0])), (q1, .inl (cL, 14, .inr (.inr (.inr (.inr (fun _ => none))))))] := hD
  refine va_putF (D := (dC, dI)) (ci := 0) (v := .ref q1) (ty := .array (.object "HamCellar$Leg")) (C := RX0) (T := TX0) (N := 5) hx hb hts hin_5 tyX0 tyX0_ok nmX0 hown hK hP hD hS 0 rfl rfl 0 (by decide) hk_4 (fun _ h9 => h9) rfl hin0 rfl (by decide +kernel) rfl rfl (Nat.le_of_ble_eq_true rfl) dX0_init_10 (fun H locs hP hD hS => ?_)
  have hP : va_P (dC, dI) vwCl [(h0, .inr (0, [.ref q1, .null, .null, .int 0, .int 0])), (q1, .inl (cL, 14, .inr (.inr (.inr (.inr (fun _ => none))))))] H := hP
  have hD : va_D A [(h0, .inr (0, [.ref q1, .null, .null, .int 0, .int 0])), (q1, .inl (cL, 14, .inr (.inr (.inr (.inr (fun _ => none))))))] := hD
  refine lv_aload_n hx hb dX0_init_13 rfl (lv_at hl 0 rfl) ?_
  refine lv_bipush (v := 14) hx hb dX0_init_14 (by decide) ?_
  refine va_newa (atype := .int) (ty := .int) (a0 := (14, .inl (fun _ => 0))) (N' := 14) hx hb hk_6 rfl hK hP hD hS hA (fun _ => rfl) (by decide) (by decide) (by decide) (Nat.le_of_ble_eq_true rfl) (Nat.le_of_ble_eq_true rfl) dX0_init_16 (fun q2 cA H hK2 hP hD hS => ?_)
  obtain rfl := ky_eq hK2 (i := 1) (j := 4) rfl rfl
  have hP : va_P (dC, dI) vwCl [(h0, .inr (0, [.ref q1, .null, .null, .int 0, .int 0])), (q1, .inl (cL, 14, .inr (.inr (.inr (.inr (fun _ => none)))))), (q2, .inl (cI, 14, .inl (fun _ => 0)))] H := hP
  have hD : va_D A [(h0, .inr (0, [.ref q1, .null, .null, .int 0, .int 0])), (q1, .inl (cL, 14, .inr (.inr (.inr (.inr (fun _ => none)))))), (q2, .inl (cI, 14, .inl (fun _ => 0)))] := hD
  refine va_putF (D := (dC, dI)) (ci := 0) (v := .ref q2) (ty := .array .int) (C := RX0) (T := TX0) (N := 5) hx hb hts hin_5 tyX0 tyX0_ok nmX0 hown hK hP hD hS 0 rfl rfl 1 (by decide) hk_7 (fun _ h9 => h9) rfl hin0 rfl (by decide +kernel) rfl rfl (Nat.le_of_ble_eq_true rfl) dX0_init_18 (fun H locs hP hD hS => ?_)
  have hP : va_P (dC, dI) vwCl [(h0, .inr (0, [.ref q1, .ref q2, .null, .int 0, .int 0])), (q1, .inl (cL, 14, .inr (.inr (.inr (.inr (fun _ => none)))))), (q2, .inl (cI, 14, .inl (fun _ => 0)))] H := hP
  have hD : va_D A [(h0, .inr (0, [.ref q1, .ref q2, .null, .int 0, .int 0])), (q1, .inl (cL, 14, .inr (.inr (.inr (.inr (fun _ => none)))))), (q2, .inl (cI, 14, .inl (fun _ => 0)))] := hD
  refine lv_aload_n hx hb dX0_init_21 rfl (lv_at hl 0 rfl) ?_
  refine lv_bipush (v := 14) hx hb dX0_init_22 (by decide) ?_
  refine va_newa (atype := .int) (ty := .int) (a0 := (14, .inl (fun _ => 0))) (N' := 14) hx hb hk_6 rfl hK hP hD hS hA (fun _ => rfl) (by decide) (by decide) (by decide) (Nat.le_of_ble_eq_true rfl) (Nat.le_of_ble_eq_true rfl) dX0_init_24 (fun q3 cA H hK2 hP hD hS => ?_)
  obtain rfl := ky_eq hK2 (i := 1) (j := 4) rfl rfl
  have hP : va_P (dC, dI) vwCl [(h0, .inr (0, [.ref q1, .ref q2, .null, .int 0, .int 0])), (q1, .inl (cL, 14, .inr (.inr (.inr (.inr (fun _ => none)))))), (q2, .inl (cI, 14, .inl (fun _ => 0))), (q3, .inl (cI, 14, .inl (fun _ => 0)))] H := hP
  have hD : va_D A [(h0, .inr (0, [.ref q1, .ref q2, .null, .int 0, .int 0])), (q1, .inl (cL, 14, .inr (.inr (.inr (.inr (fun _ => none)))))), (q2, .inl (cI, 14, .inl (fun _ => 0))), (q3, .inl (cI, 14, .inl (fun _ => 0)))] := hD
  refine va_putF (D := (dC, dI)) (ci := 0) (v := .ref q3) (ty := .array .int) (C := RX0) (T := TX0) (N := 5) hx hb hts hin_5 tyX0 tyX0_ok nmX0 hown hK hP hD hS 0 rfl rfl 2 (by decide) hk_8 (fun _ h9 => h9) rfl hin0 rfl (by decide +kernel) rfl rfl (Nat.le_of_ble_eq_true rfl) dX0_init_26 (fun H locs hP hD hS => ?_)
  have hP : va_P (dC, dI) vwCl [(h0, .inr (0, [.ref q1, .ref q2, .ref q3, .int 0, .int 0])), (q1, .inl (cL, 14, .inr (.inr (.inr (.inr (fun _ => none)))))), (q2, .inl (cI, 14, .inl (fun _ => 0))), (q3, .inl (cI, 14, .inl (fun _ => 0)))] H := hP
  have hD : va_D A [(h0, .inr (0, [.ref q1, .ref q2, .ref q3, .int 0, .int 0])), (q1, .inl (cL, 14, .inr (.inr (.inr (.inr (fun _ => none)))))), (q2, .inl (cI, 14, .inl (fun _ => 0))), (q3, .inl (cI, 14, .inl (fun _ => 0)))] := hD
  exact W.vret hx hb hr (fun t ht hW => ⟨⟨(q1, q2, q3), rfl, trivial, kB_mk hP hK hD ht hW.alike⟩, hS.F ht⟩) hS.2.2 dX0_init_29
