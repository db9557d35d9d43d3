theorem v6_0 : vp_in (0 : Int32) 6 := by unfold vp_in; decide
theorem v6_1 : vp_in (0 + 1 : Int32) 6 := by unfold vp_in; decide
theorem v6_2 : vp_in (0 + 2 : Int32) 6 := by unfold vp_in; decide
theorem v6_3 : vp_in (0 + 3 : Int32) 6 := by unfold vp_in; decide
theorem v6_4 : vp_in (0 + 4 : Int32) 6 := by unfold vp_in; decide
theorem v6_5 : vp_in (0 + 5 : Int32) 6 := by unfold vp_in; decide
theorem vv1 {A : Prop} (h : A) : vp_in (0 + 1 : Int32) 6 ∧ A := ⟨v6_1, h⟩
theorem vv2 {A : Prop} (h : A) : vp_in (0 + 1 : Int32) 6 ∧ (vp_in (0 + 2 : Int32) 6 ∧ A) := ⟨v6_1, v6_2, h⟩
theorem vv3 {A : Prop} (h : A) : vp_in (0 + 1 : Int32) 6 ∧ (vp_in (0 + 2 : Int32) 6 ∧ (vp_in (0 + 3 : Int32) 6 ∧ A)) := ⟨v6_1, v6_2, v6_3, h⟩
theorem vv5 {A : Prop} (h : A) : vp_in (0 + 1 : Int32) 6 ∧ (vp_in (0 + 2 : Int32) 6 ∧ (vp_in (0 + 3 : Int32) 6 ∧ (vp_in (0 + 4 : Int32) 6 ∧ (vp_in (0 + 5 : Int32) 6 ∧ A)))) := ⟨v6_1, v6_2, v6_3, v6_4, v6_5, h⟩
theorem fin_ {e : Int32} {A : Prop} (h : e = 0 → A) : (e = e → ((¬ e = 0 → True) ∧ (e = 0 → A))) ∧ (¬ (e = e) → False) := ⟨fun _ => ⟨fun _ => trivial, h⟩, fun c => c rfl⟩
theorem finr {e : Int32} : (e = e → True) ∧ (¬ (e = e) → False) := ⟨fun _ => trivial, fun c => c rfl⟩
theorem fne {e : Int32} {A : Prop} (h : ¬ e = 0) : (e = e → ((¬ e = 0 → True) ∧ (e = 0 → A))) ∧ (¬ (e = e) → False) := fin_ (fun c => absurd c h)
theorem cmp_r (x : Int64) : lg_cmp x x = 0 := by unfold lg_cmp; rw [if_neg (show ¬ x > x from Int64.lt_irrefl), if_pos rfl]
theorem cmpT {x y : Int64} (h : x = y) : ((lg_cmp x y = 0 → True) ∧ (¬ (lg_cmp x y = 0) → False)) := by
  subst h
  exact ⟨fun _ => trivial, fun c => c (cmp_r x)⟩
theorem app_step {Q : Int32 → (Nat → Int32) → Prop} {n k : Nat} {bytes : Nat → Int32} {p v : Int32} (hv : ¬ v < 0) (hk : k < 400) (h : ∀ b, lp_C_X6_append_3 Q n (nI (k + 1)) b p (v + -8)) : lp_C_X6_append_3 Q (n + 1) (nI k) bytes p v := by
  refine ⟨fun c => absurd c hv, fun _ => ⟨fun c => absurd c ?_, fun _ => ⟨fun c => absurd c ?_, fun _ => ⟨vp_in_nI hk (by omega), ?_⟩⟩⟩⟩
  · exact i_nlt.mpr (nI_le (a := 0) (Nat.zero_le _) (by omega))
  · exact nI_ge (b := 400) hk (by omega)
  · delta bk_C_X6_append_49
    rw [nI_1]
    exact h _
theorem f_append {Q : Int32 → (Nat → Int32) → Prop} {k : Nat} {bytes : Nat → Int32} {p : Int32} (hk : k + 4 ≤ 400) (h : ∀ b, Q (nI (k + 4)) b) : wp_C_X6_append Q (nI k) bytes p :=
  ⟨5, app_step (by decide) (by omega) (fun b => app_step (by decide) (by omega) (fun b => app_step (by decide) (by omega) (fun b => app_step (by decide) (by omega) (fun b => ⟨fun _ => h b, fun c => absurd (by decide) c⟩))))⟩
theorem f_feedC {Q : Int32 → Int32 → (Nat → Int32) → Prop} {bytes : Nat → Int32} {a b c d e : Int32} (h : ∀ x, Q 20 20 x) : wp_C_X7_feed Q 0 bytes a b c d e :=
  ⟨fun c => absurd c (by decide), fun _ => ⟨Or.inr rfl, n_1 (f_append (k := 0) (by omega) (fun b1 => f_append (k := 4) (by omega) (fun b1 => f_append (k := 8) (by omega) (fun b1 => f_append (k := 12) (by omega) (fun b1 => f_append (k := 16) (by omega) (fun b1 => h b1))))))⟩⟩
theorem f20a : ∀ i, i < 20 → vp_in (nI i / 4) 5 := by unfold vp_in; decide +kernel
theorem f20b : ∀ i, i < 20 → vp_in (0 + nI i) 400 := by unfold vp_in; decide +kernel
theorem f_feedM {Q : Int32 → Int32 → Int32 → (Nat → Int32) → (Nat → Int32) → Prop} {th : Int32} {tape five : Nat → Int32} {a b c d e : Int32} (h : ∀ x y, Q 20 0 20 x y) : wp_M_X8_feed Q th 0 tape five a b c d e := by
  refine ⟨fun _ => ⟨21, ?_⟩, fun c => absurd (by decide) c⟩
  have key : ∀ (n i : Nat) (tp fv : Nat → Int32), i ≤ 20 → 20 - i < n → lp_M_X8_feed_60 Q n 0 0 tp fv (nI i) := by
    intro n
    induction n with
    | zero => intro i tp fv h1 h2; omega
    | succ n ih =>
      intro i tp fv h1 h2
      refine ⟨fun _ => h _ _, fun c => ?_⟩
      have hi : i < 20 := by
        rcases Nat.lt_or_ge i 20 with q | q
        · exact q
        · exact absurd (nI_le (a := 20) q (by omega)) c
      refine ⟨f20a i hi, f20b i hi, ?_⟩
      rw [nI_1]
      exact ih (i + 1) _ _ hi (by omega)
  exact key 21 0 _ _ (by omega) (by omega)
theorem v60_0 : vp_in (0 : Int32) 60 := by unfold vp_in; decide
theorem u0 {f : Nat → Int64} {k : Nat} {v : Int64} : vp_updL f k v k = v := if_pos rfl
theorem f_noLegT {Q : Int32 → Int32 → Prop} {p c : Int32} (h : Q 1 c) : wp_M_X8_noLeg 0 (fun r => wp_M_X8_throwsIf Q 0 r c) p := f_noLeg (i_throwsIf1 h)
theorem j_legF {Q : Int32 → Int32 → Int32 → (Nat → Int32) → (Nat → Int32) → (Nat → Int32) → (Nat → Int32) → (Nat → Int32) → (Nat → Int32) → (Nat → Int32) → (Nat → Int32) → Prop} {th td a b c : Int32} {z1 z2 z3 z4 z5 z6 z7 z8 : Nat → Int32} (h1 : ¬ (0 ≤ a ∧ a ≤ 9) → ∀ x1 x2 x3 x4 x5 x6 x7 x8, Q 0 1 0 x1 x2 x3 x4 x5 x6 x7 x8) (h2 : (0 ≤ a ∧ a ≤ 9) → ¬ ((0 ≤ b ∧ b ≤ 9999) ∧ (5000 ≤ c ∧ c ≤ 15000)) → ∀ x1 x2 x3 x4 x5 x6 x7 x8, Q 0 2 0 x1 x2 x3 x4 x5 x6 x7 x8) (h3 : (0 ≤ a ∧ a ≤ 9) → ((0 ≤ b ∧ b ≤ 9999) ∧ (5000 ≤ c ∧ c ≤ 15000)) → ∀ x1 x2 x3 x4 x5 x6 x7 x8, Q ((0 + 1) - 1) 0 (0 + 1) x1 x2 x3 x4 x5 x6 x7 x8) : wp_M_X8_leg td Q th 0 z1 z2 z3 z4 z5 z6 z7 z8 a b c := by
  delta wp_M_X8_leg bk_M_X8_leg_21 bk_M_X8_leg_53 bk_M_X8_leg_58 bk_M_X8_leg_80
  exact i_in (fun c1 => n_1 (i_throwsIf0 (n_0 (i_in (fun c2 => t_1 (i_in (fun c3 => n_1 (i_throwsIf0 (n_0 ⟨fun _ => i_throwsIf0 (t_0 ⟨1, fun _ => ⟨fun _ => ⟨v60_0, v60_0, v60_0, v60_0, v60_0, v60_0, v60_0, v60_0, h3 c1 ⟨c2, c3⟩ _ _ _ _ _ _ _ _⟩, fun c => absurd c (by decide)⟩, fun c => absurd (by decide) c⟩), fun c => absurd c (by decide)⟩))) (fun c3 => n_0 (i_throwsIf1 (n_1 (h2 c1 (fun z => c3 z.2) _ _ _ _ _ _ _ _)))))) (fun c2 => t_0 (i_throwsIf1 (n_1 (h2 c1 (fun z => c2 z.1) _ _ _ _ _ _ _ _)))))))) (fun c1 => n_0 (i_throwsIf1 (n_1 (h1 c1 _ _ _ _ _ _ _ _))))
theorem j_fedF {Q : Int32 → Int32 → Int32 → (Nat → Int32) → (Nat → Int32) → (Nat → Int32) → (Nat → Int32) → (Nat → Int32) → Prop} {th td a b c : Int32} {y1 y2 y3 z1 z2 z3 z4 z5 : Nat → Int32} (h1 : ¬ (0 ≤ a ∧ a ≤ 9) → ∀ k x1 x2 x3 x4 x5, Q 0 1 k x1 x2 x3 x4 x5) (h2 : (0 ≤ a ∧ a ≤ 9) → ¬ ((0 ≤ b ∧ b ≤ 2000) ∧ (0 ≤ c ∧ c ≤ 3)) → ∀ k x1 x2 x3 x4 x5, Q 0 2 k x1 x2 x3 x4 x5) (h3 : (0 ≤ a ∧ a ≤ 9) → ((0 ≤ b ∧ b ≤ 2000) ∧ (0 ≤ c ∧ c ≤ 3)) → ∀ k x1 x2 x3 x4 x5, Q 0 0 k x1 x2 x3 x4 x5) : wp_M_X8_fed td 0 y1 y2 y3 Q th 0 z1 z2 z3 z4 z5 a b c := by
  delta wp_M_X8_fed bk_M_X8_fed_21 bk_M_X8_fed_49 bk_M_X8_fed_54
  exact i_in (fun c1 => n_1 (i_throwsIf0 (n_0 (i_in (fun c2 => t_1 (i_in (fun c3 => n_1 (i_throwsIf0 (t_0 ⟨fun _ => ⟨v60_0, v60_0, v60_0, v60_0, 1, fun _ => h3 c1 ⟨c2, c3⟩ _ _ _ _ _ _, fun c => absurd (by decide) c⟩, fun c => absurd c (by decide)⟩))) (fun c3 => n_0 (i_throwsIf1 (t_1 (h2 c1 (fun z => c3 z.2) _ _ _ _ _ _)))))) (fun c2 => t_0 (i_throwsIf1 (t_1 (h2 c1 (fun z => c2 z.1) _ _ _ _ _ _)))))))) (fun c1 => n_0 (i_throwsIf1 (n_1 (h1 c1 _ _ _ _ _ _))))
theorem j_knownF {Q : Int32 → Int32 → Prop} {th a b c : Int32} {z1 z2 z3 z4 : Nat → Int32} (h1 : ¬ (0 ≤ a ∧ a ≤ 9) → Q 0 1) (h3 : (0 ≤ a ∧ a ≤ 9) → Q 0 0) : wp_M_X8_known 0 z1 z2 z3 z4 Q th a b c := by
  delta wp_M_X8_known bk_M_X8_known_21
  exact i_in (fun c1 => n_1 (i_throwsIf0 (t_0 ⟨1, fun _ => ⟨fun c => absurd c (by decide), fun _ => h3 c1⟩, fun c => absurd (by decide) c⟩))) (fun c1 => n_0 (i_throwsIf1 (t_1 (h1 c1))))
theorem pl_in {r k : Int32} (h1 : 0 ≤ r ∧ r ≤ 5) (h2 : 0 ≤ k ∧ k ≤ 9) : vp_in ((10 * r) + k) 60 := by
  obtain ⟨i, hi, rfl⟩ := nI_of2 (M := 5) (n := 5) (by decide) (i_nlt.mpr h1.1) h1.2
  obtain ⟨j, hj, rfl⟩ := nI_of2 (M := 9) (n := 9) (by decide) (i_nlt.mpr h2.1) h2.2
  have h9 : ∀ i, i < 6 → ∀ j, j < 10 → vp_in ((10 * nI i) + nI j) 60 := by unfold vp_in; decide +kernel
  exact h9 i (by omega) j (by omega)
theorem vp_lt {x : Int32} {N : Nat} (h : vp_in x N) : x.toNatClampNeg < N := Nat.lt_of_not_le (fun z => h (Or.inr z))
theorem j_onF {Q : Int32 → Int32 → Prop} {th r k : Int32} {on : Nat → Int32} (ho : ∀ j, j < 60 → on j = -1) (h1 : ¬ ((0 ≤ r ∧ r ≤ 5) ∧ (0 ≤ k ∧ k ≤ 9)) → Q 0 1) (h3 : ((0 ≤ r ∧ r ≤ 5) ∧ (0 ≤ k ∧ k ≤ 9)) → Q (-1) 0) : wp_M_X8_on on Q th r k := by
  delta wp_M_X8_on
  refine i_noHook (fun c => i_throwsIf0 (t_0 ⟨pl_in c.1 c.2, ?_⟩)) (fun c => i_throwsIf1 (t_1 (h1 c)))
  rw [ho _ (vp_lt (pl_in c.1 c.2))]
  exact h3 c
theorem j_movesF {Q : Int32 → Int32 → (Nat → Int32) → Prop} {th : Int32} {hook sh on : Nat → Int32} (ho : ∀ j, j < 60 → on j = -1) (h : Q 0 0 sh) : wp_M_X8_moves 0 hook on Q th sh := by
  refine ⟨51, ?_⟩
  have key : ∀ (n i : Nat) (v : Int32), i ≤ 60 → 60 - i < n → lp_M_X8_leastMoves_7 0 hook sh on (fun r_1 => (∃ n_4, lp_M_X8_moves_12 0 hook on Q n_4 0 sh r_1 0)) n 0 v (nI i) := by
    intro n
    induction n with
    | zero => intro i v h1 h2; omega
    | succ n ih =>
      intro i v h1 h2
      refine ⟨fun _ => ⟨1, fun _ => ⟨1, fun _ => h, fun c => absurd (by decide) c⟩, fun c => absurd (by decide) c⟩, fun c => ?_⟩
      have hi : i < 60 := by
        rcases Nat.lt_or_ge i 60 with q | q
        · exact q
        · exact absurd (nI_le (a := 60) q (by omega)) c
      refine ⟨vp_in_nI hi (by omega), fun c => ?_, fun _ => ?_⟩
      · rw [nI_clamp (by omega), ho i hi] at c
        exact absurd c (by decide)
      · delta bk_M_X8_leastMoves_28
        rw [nI_1]
        exact ih (i + 1) _ hi (by omega)
  exact key 51 10 0 (by omega) (by omega)
theorem f_coderC {Q : Int32 → Prop} {y : Nat} (h : Q 0) : wp_C_J0_coder_7d493 Q y := ⟨fun c => absurd c (by decide), fun _ => ⟨rfl, h⟩⟩
theorem f_coderM {Q : Int32 → Prop} {y : Nat} (h : Q 0) : wp_M_J0_coder_7d493 Q y := ⟨fun c => absurd c (by decide), fun _ => ⟨rfl, h⟩⟩
theorem f_len : ∀ y, y < 5 → (nI (kLen.getD y 0)) >>> ((0 : Int32) &&& 31) = nI (kLen.getD y 0) := by decide +kernel
theorem f_lenne : ∀ y, y < 5 → ¬ ((0 : Int32) - 0) = nI (kLen.getD y 0) := by decide +kernel
theorem f_isWordC {Q : Int32 → Prop} {ts : Int32} {bytes : Nat → Int32} {y : Nat} (hy : y < 5) (h : Q 0) : wp_C_X5_isWord ts bytes Q 0 0 y := by
  delta wp_C_X5_isWord wp_C_J0_length_8abf5
  refine f_coderC ⟨fun c => absurd c ?_, fun _ => ⟨Or.inl rfl, h⟩⟩
  rw [f_len y hy]
  exact f_lenne y hy
theorem f_isWordM {Q : Int32 → Prop} {tape : Nat → Int32} {y : Nat} (hy : y < 5) (h : Q 0) : wp_M_X8_isWord 0 0 tape Q y := by
  delta wp_M_X8_isWord wp_M_J0_length_8abf5
  refine f_coderM ⟨fun _ => ⟨1, fun _ => ⟨Or.inl rfl, h⟩, fun c => absurd rfl c⟩, fun c => absurd c ?_⟩
  rw [f_len y hy]
  exact f_lenne y hy
theorem f_wordOf {Q : Nat → Prop} : ∀ k, k < 5 → Q k → wp_C_X5_wordOf Q (nI k)
  | 0, _, h => ⟨fun _ => h, fun c => absurd (by decide) c⟩
  | 1, _, h => ⟨fun c => absurd c (by decide), fun _ => ⟨fun _ => h, fun c => absurd (by decide) c⟩⟩
  | 2, _, h => ⟨fun c => absurd c (by decide), fun _ => ⟨fun c => absurd c (by decide), fun _ => ⟨fun _ => h, fun c => absurd (by decide) c⟩⟩⟩
  | 3, _, h => ⟨fun c => absurd c (by decide), fun _ => ⟨fun c => absurd c (by decide), fun _ => ⟨fun c => absurd c (by decide), fun _ => ⟨fun _ => h, fun c => absurd (by decide) c⟩⟩⟩⟩
  | 4, _, h => ⟨fun c => absurd c (by decide), fun _ => ⟨fun c => absurd c (by decide), fun _ => ⟨fun c => absurd c (by decide), fun _ => ⟨fun c => absurd c (by decide), fun _ => h⟩⟩⟩⟩
  | k + 5, h, _ => absurd h (by omega)
theorem f_readKind {Q : Int32 → Int32 → Prop} {bytes : Nat → Int32} (h : Q (-1) 0) : wp_C_X5_readKind 0 bytes Q 0 := by
  refine ⟨1, fun _ => ⟨6, ?_⟩, fun c => absurd (by decide) c⟩
  have key : ∀ (n i : Nat), i ≤ 5 → 5 - i < n → lp_C_X5_readKind_55 0 bytes Q n 0 0 (nI i) := by
    intro n
    induction n with
    | zero => intro i h1 h2; omega
    | succ n ih =>
      intro i h1 h2
      refine ⟨fun _ => h, fun c => ?_⟩
      have hi : i < 5 := by
        rcases Nat.lt_or_ge i 5 with q | q
        · exact q
        · exact absurd (nI_le (a := 5) q (by omega)) c
      refine f_wordOf i hi ⟨hi, f_isWordC hi (t_0 ?_)⟩
      rw [nI_1]
      exact ih (i + 1) hi (by omega)
  exact key 6 0 (by omega) (by omega)
theorem f_skip {Q : Int32 → Prop} {bytes : Nat → Int32} (h : Q 0) : wp_C_X5_skipBlanks 0 bytes Q 0 := ⟨1, fun _ => h, fun c => absurd (by decide) c⟩
theorem f_readRule {Q : Int32 → Int32 → Int32 → Int32 → (Nat → Int32) → Prop} {bytes : Nat → Int32} {b c : Int32} {num : Nat → Int32} (h : Q 0 0 b 0 num) : wp_C_X5_readRule 0 bytes Q 0 b c num := by
  delta wp_C_X5_readRule bk_C_X5_readRule_23 wp_C_X5_fail
  exact f_skip (f_readKind ⟨fun _ => ⟨Or.inl rfl, Or.inl rfl, h⟩, fun c => absurd (by decide) c⟩)
theorem f_fill5 {Q : (Nat → Int32) → Prop} {num : Nat → Int32} (h : ∀ x, Q x) : wp_C11_J7_fill_53178 Q num 0 := by
  refine ⟨6, ?_⟩
  have key : ∀ (n i : Nat) (x : Nat → Int32), i ≤ 5 → 5 - i < n → lp_C11_J7_fill_53178_5 Q n x 0 (nI i) 5 := by
    intro n
    induction n with
    | zero => intro i x h1 h2; omega
    | succ n ih =>
      intro i x h1 h2
      refine ⟨fun _ => h _, fun c => ?_⟩
      have hi : i < 5 := by
        rcases Nat.lt_or_ge i 5 with q | q
        · exact q
        · exact absurd (nI_le (a := 5) q (by omega)) c
      refine ⟨vp_in_nI hi (by omega), ?_⟩
      rw [nI_1]
      exact ih (i + 1) _ hi (by omega)
  exact key 6 0 _ (by omega) (by omega)
theorem f_rulesC {Q : Int32 → Int32 → Int32 → Int32 → Int32 → (Nat → Int32) → (Nat → Int32) → Prop} {X : Nat → Int32 → Int32 → Int32 → Int32 → (Nat → Int32) → (Nat → Int32) → Prop} {bytes num ask : Nat → Int32} {a b c : Int32} (h : ∀ x y z w n m, X 2 x y z w n m) : wp_C_X7_rules bytes Q X 0 a b c num ask :=
  f_fill5 (fun x => ⟨1, fun c => absurd c (by decide), fun _ => f_readRule (n_0 ⟨Or.inl rfl, n_0 (h _ _ _ _ _ _)⟩)⟩)
theorem f_isAt {Q : Int32 → Prop} {tape : Nat → Int32} {a b : Int32} (h : Q 0) : wp_M_X8_isAt 0 0 tape Q a b := ⟨fun _ => ⟨Or.inl rfl, h⟩, fun c => absurd (by decide) c⟩
theorem f_blanks {Q : Int32 → Int32 → Prop} {tape : Nat → Int32} {b : Int32} (h : Q 0 0) : wp_M_X8_blanks 0 tape Q 0 b := ⟨1, ⟨fun _ => ⟨Or.inl rfl, t_0 h⟩, fun c => absurd (by decide) c⟩⟩
theorem f_readRuleM {Q : Int32 → Int32 → Int32 → (Nat → Int32) → Prop} {tape dr : Nat → Int32} {b : Int32} (h : Q 0 0 0 dr) : wp_M_X8_readRule 0 tape Q 0 b dr :=
  f_blanks ⟨1, ⟨fun _ => ⟨Or.inl rfl, t_0 (f_isWordM (y := 0) (by decide) (t_0 (f_isWordM (y := 1) (by decide) (t_0 (f_isWordM (y := 2) (by decide) (t_0 (f_isWordM (y := 3) (by decide) (t_0 (f_isWordM (y := 4) (by decide) (t_0 ⟨Or.inl rfl, h⟩))))))))))⟩, fun c => absurd (by decide) c⟩⟩
theorem f_rulesM {Q : Int32 → Int32 → Int32 → Int32 → Int32 → Int32 → Int32 → (Nat → Int32) → (Nat → Int32) → Prop} {tape rl dr : Nat → Int32} {a b c d e : Int32} (h : ∀ t p q r s x y, Q 0 1 t p q r s x y) : wp_M_X8_rules tape Q a 0 b c d e rl dr := by
  refine ⟨6, ?_⟩
  have key : ∀ (n i : Nat) (x : Nat → Int32), i ≤ 5 → 5 - i < n → lp_M_X8_rules_25 tape Q n 0 0 0 0 d e rl x (nI i) := by
    intro n
    induction n with
    | zero => intro i x h1 h2; omega
    | succ n ih =>
      intro i x h1 h2
      refine ⟨fun _ => f_readRuleM ⟨1, fun _ => ?_, fun c => absurd rfl c⟩, fun c => ?_⟩
      · delta bk_M_X8_rules_109 bk_M_X8_rules_122 bk_M_X8_rules_135
        exact ⟨fun _ => ⟨fun c => absurd rfl c, fun _ => i_throwsIf1 (t_1 (h _ _ _ _ _ _ _))⟩, fun c => absurd rfl c⟩
      have hi : i < 5 := by
        rcases Nat.lt_or_ge i 5 with q | q
        · exact q
        · exact absurd (nI_le (a := 5) q (by omega)) c
      refine ⟨vp_in_nI hi (by omega), ?_⟩
      rw [nI_1]
      exact ih (i + 1) _ hi (by omega)
  exact key 6 0 _ (by omega) (by omega)
theorem f_sell0 {Q : Int32 → Prop} {cws cwa : Nat → Int32} {p : Int32} (hp : 0 < p) (h : Q 0) : wp_C_X0_leastSet 0 0 cws cwa Q p :=
  ⟨1, fun _ => h, fun c => absurd (by decide) c⟩
theorem f_orderC {LP : List Nat} {gw gs gb : Nat → Int32} {Q : Int32 → (Nat → Option Nat) → Int32 → Int32 → (Nat → Option Nat) → (Nat → Int32) → (Nat → Int32) → (Nat → Int32) → (Nat → Int32) → Prop} {X : Nat → (Nat → Option Nat) → Int32 → Int32 → (Nat → Option Nat) → (Nat → Int32) → (Nat → Int32) → (Nat → Int32) → (Nat → Int32) → Prop} {hung off : Nat → Option Nat} {a b p : Int32} {w1 w2 w3 w4 : Nat → Int32} (h1 : (1 ≤ p ∧ p ≤ 200000) → ∀ x1 x2 x3 x4 x5 x6 x7 x8, Q (-1) x1 x2 x3 x4 x5 x6 x7 x8) (h0 : ¬ (1 ≤ p ∧ p ≤ 200000) → ∀ x1 x2 x3 x4 x5 x6 x7 x8, X 2 x1 x2 x3 x4 x5 x6 x7 x8) : wp_C_X7_order LP (fun _ => none) gw gs gb Q X hung a b off w1 w2 w3 w4 p := by
  delta wp_C_X7_order wp_C_X0_clear
  refine i_isWithin (fun c => n_1 ⟨61, ?_⟩) (fun c => n_0 (h0 c _ _ _ _ _ _ _ _))
  have key : ∀ (n i : Nat), i ≤ 60 → 60 - i < n → lp_C_X7_order_36 LP (fun _ => none) gw gs gb Q X n hung 0 0 off w1 w2 w3 w4 p 60 (nI i) := by
    intro n
    induction n with
    | zero => intro i h1 h2; omega
    | succ n ih =>
      intro i h1' h2
      refine ⟨fun _ => f_sell0 (Int32.lt_of_lt_of_le (by decide) c.1) (n_0 (h1 c _ _ _ _ _ _ _ _)), fun c => ?_⟩
      have hi : i < 60 := by
        rcases Nat.lt_or_ge i 60 with q | q
        · exact q
        · exact absurd (nI_le (a := 60) q (by omega)) c
      refine ⟨vp_in_nI hi (by omega), fun _ => ?_, fun y hy => by cases hy⟩
      delta bk_C_X7_order_86
      rw [nI_1]
      exact ih (i + 1) hi (by omega)
  exact key 61 0 (by omega) (by omega)
theorem f_orderM {Q : Int32 → Int32 → (Nat → Int32) → (Nat → Int32) → (Nat → Int32) → (Nat → Int32) → Prop} {th p : Int32} {y1 y2 y3 z1 z2 z3 z4 : Nat → Int32} (h1 : (1 ≤ p ∧ p ≤ 200000) → Q (-1) 0 z1 z2 z3 z4) (h0 : ¬ (1 ≤ p ∧ p ≤ 200000) → Q 0 1 z1 z2 z3 z4) : wp_M_X8_order 0 y1 y2 y3 Q th z1 z2 z3 z4 p := by
  delta wp_M_X8_order bk_M_X8_order_21
  refine i_in (fun c => n_1 (i_throwsIf0 (t_0 ⟨1, fun _ => ?_, fun c => absurd (by decide) c⟩))) (fun c => n_0 (i_throwsIf1 (t_1 (h0 c))))
  exact ⟨1, fun _ => ⟨fun c => absurd c (by decide), fun _ => h1 c⟩, fun c => absurd (by decide) c⟩
theorem j_daysF {Q : Int32 → Int32 → Int32 → (Nat → Int32) → (Nat → Int32) → (Nat → Int32) → (Nat → Int32) → (Nat → Int32) → (Nat → Int32) → Prop} {th p : Int32} {y1 y2 y3 z1 z2 z3 z4 z5 z6 : Nat → Int32} (h1 : ∀ k, k ≤ 200 → p = nI k → Q (nI k) 0 (nI k) z1 z2 z3 z4 z5 z6) (h0 : ¬ (0 ≤ p ∧ p ≤ 200) → Q 0 1 0 z1 z2 z3 z4 z5 z6) : wp_M_X8_days 0 y1 y2 y3 (fun _ => 0) Q th 0 z1 z2 z3 z4 z5 z6 p := by
  delta wp_M_X8_days bk_M_X8_days_22
  refine i_in (fun c => n_1 (i_throwsIf0 (t_0 ?_))) (fun c => n_0 (i_throwsIf1 (t_1 (h0 c))))
  obtain ⟨k, hk, rfl⟩ := nI_of2 (M := 200) (n := 200) (by decide) (i_nlt.mpr c.1) c.2
  refine ⟨k + 1, ?_⟩
  have rm : ∀ (K : Int32 → Int32 → (Nat → Int32) → (Nat → Int32) → (Nat → Int32) → (Nat → Int32) → (Nat → Int32) → (Nat → Int32) → Int32 → Int32 → Prop) (td v1 v2 : Int32), K 0 td z1 z2 z3 z4 z5 z6 v1 (v2 + 1) → ∀ (n i : Nat), i ≤ 6 → 6 - i < n → lp_M_X8_days_60 0 y1 y2 y3 (fun _ => 0) Q K n 0 td z1 z2 z3 z4 z5 z6 v1 v2 (nI i) := by
    intro K td v1 v2 hK n
    induction n with
    | zero => intro i h1 h2; omega
    | succ n ih =>
      intro i h1' h2
      refine ⟨fun _ => ⟨1, fun _ => hK, fun c => absurd (by decide) c⟩, fun c => ?_⟩
      have hi : i < 6 := by
        rcases Nat.lt_or_ge i 6 with q | q
        · exact q
        · exact absurd (nI_le (a := 6) q (by omega)) c
      refine ⟨vp_in_nI hi (by omega), fun c => absurd rfl c, fun _ => ?_⟩
      delta bk_M_X8_days_102
      rw [nI_1]
      exact ih (i + 1) hi (by omega)
  have key : ∀ (n i : Nat), i ≤ k → k - i < n → lp_M_X8_days_33 0 y1 y2 y3 (fun _ => 0) Q n 0 (nI i) z1 z2 z3 z4 z5 z6 (nI k) (nI i) := by
    intro n
    induction n with
    | zero => intro i h1 h2; omega
    | succ n ih =>
      intro i h1' h2
      refine ⟨fun c1 => ?_, fun c1 => ⟨fun c2 => absurd c2 (nI_ge (b := 2000) (by omega) (by omega)), fun _ => ⟨6, rm _ _ _ _ ?_ 6 1 (by omega) (by omega)⟩⟩⟩
      · have hi : i = k := by
          rcases Nat.lt_or_ge i k with q | q
          · exact absurd c1 (nI_ge q (by omega))
          · omega
        subst hi
        exact h1 i hk rfl
      · have hi : i < k := by
          rcases Nat.lt_or_ge i k with q | q
          · exact q
          · exact absurd (nI_le q (by omega)) c1
        rw [nI_1]
        exact ih (i + 1) hi (by omega)
  exact key (k + 1) 0 (by omega) (by omega)
theorem f_countM {Q : Int32 → Int32 → Prop} {th p : Int32} {y1 y2 y3 y4 y5 y6 : Nat → Int32} (h1 : p = 0 ∨ p = 1 ∨ p = 8 ∨ (2 ≤ p ∧ p ≤ 9) → Q 0 0) (h0 : ¬ (p = 0 ∨ p = 1 ∨ p = 8 ∨ (2 ≤ p ∧ p ≤ 9)) → Q (-1) 0) : wp_M_X8_count 0 0 0 y1 y2 y3 y4 y5 y6 Q th p := by
  refine ⟨fun c0 => ⟨fun c1 => ⟨fun c8 => ⟨1, fun _ => i_in (fun c => t_1 (h1 (Or.inr (Or.inr (Or.inr c))))) (fun c => t_0 (h0 ?_)), fun c => absurd (by decide) c⟩, fun c => h1 (Or.inr (Or.inr (Or.inl c)))⟩, fun c => h1 (Or.inr (Or.inl c))⟩, fun c => h1 (Or.inl c)⟩
  rintro (z | z | z | z)
  · exact c0 z
  · exact c1 z
  · exact c8 z
  · exact c z
theorem in29 {p : Int32} (h : p = 2 ∨ p = 3 ∨ p = 4 ∨ p = 5 ∨ p = 6 ∨ p = 7 ∨ p = 9) : 2 ≤ p ∧ p ≤ 9 := by
  rcases h with rfl | rfl | rfl | rfl | rfl | rfl | rfl <;> decide
theorem in29' {p : Int32} (h : 2 ≤ p ∧ p ≤ 9) : p = 2 ∨ p = 3 ∨ p = 4 ∨ p = 5 ∨ p = 6 ∨ p = 7 ∨ p = 8 ∨ p = 9 := by
  obtain ⟨k, hk, rfl⟩ := nI_of2 (x := p) (M := 9) (n := 9) (by decide) (i_nlt.mpr (Int32.le_trans (by decide) h.1)) h.2
  have h9 : ∀ k, k < 10 → 2 ≤ nI k → nI k = 2 ∨ nI k = 3 ∨ nI k = 4 ∨ nI k = 5 ∨ nI k = 6 ∨ nI k = 7 ∨ nI k = 8 ∨ nI k = 9 := by decide +kernel
  exact h9 k (by omega) h.1
theorem f_countC {LP : List Nat} {g1 g2 g3 g4 g5 g6 : Nat → Int32} {Q : Int32 → Prop} {p : Int32} (h1 : p = 0 ∨ p = 1 ∨ p = 8 ∨ (2 ≤ p ∧ p ≤ 9) → Q 0) (h0 : ¬ (p = 0 ∨ p = 1 ∨ p = 8 ∨ (2 ≤ p ∧ p ≤ 9)) → Q (-1)) : wp_C_X7_count LP 0 0 (fun _ => none) 0 g1 g2 g3 g4 g5 g6 Q p := by
  refine ⟨fun c => h1 (Or.inl c), fun n0 => ⟨fun c => h1 (Or.inr (Or.inl c)), fun n1 => ⟨fun c => f_sumOfLegs (h1 (Or.inr (Or.inr (Or.inr (in29 (by simp [c])))))), fun n2 => ⟨fun c => f_sumOfLegs (h1 (Or.inr (Or.inr (Or.inr (in29 (by simp [c])))))), fun n3 => ⟨fun c => f_sumOfLegs (h1 (Or.inr (Or.inr (Or.inr (in29 (by simp [c])))))), fun n4 => ⟨fun c => f_sumOfLegs (h1 (Or.inr (Or.inr (Or.inr (in29 (by simp [c])))))), fun n5 => ⟨fun c => f_sumOfLegs (h1 (Or.inr (Or.inr (Or.inr (in29 (by simp [c])))))), fun n6 => ⟨fun c => f_sumOfLegs (h1 (Or.inr (Or.inr (Or.inr (in29 (by simp [c])))))), fun n7 => ⟨fun c => h1 (Or.inr (Or.inr (Or.inl c))), fun n8 => ⟨fun c => f_sumOfLegs (h1 (Or.inr (Or.inr (Or.inr (in29 (by simp [c])))))), fun n9 => h0 ?_⟩⟩⟩⟩⟩⟩⟩⟩⟩⟩
  rintro (z | z | z | z)
  · exact n0 z
  · exact n1 z
  · exact n8 z
  · rcases in29' z with z | z | z | z | z | z | z | z
    · exact n2 z
    · exact n3 z
    · exact n4 z
    · exact n5 z
    · exact n6 z
    · exact n7 z
    · exact n8 z
    · exact n9 z
