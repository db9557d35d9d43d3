/-! the class's methods at any state, second half -/
def wb (p s : Int32) : Int32 := vp_nar .byte ((p >>> (s &&& 31)).toInt8.toInt32)
def ap4 (f : Nat → Int32) (k : Nat) (p : Int32) : Nat → Int32 := upd (upd (upd (upd f k (wb p 24)) (k + 1) (wb p 16)) (k + 2) (wb p 8)) (k + 3) (wb p 0)
theorem s_app {Q : Int32 → (Nat → Int32) → Prop} {n k : Nat} {bytes : Nat → Int32} {p v w : Int32} (hv : ¬ v < 0) (hk : k < 400) (hw : v + -8 = w) (h : lp_C_X6_append_3 Q n (nI (k + 1)) (upd bytes k (wb p v)) p w) : lp_C_X6_append_3 Q (n + 1) (nI k) bytes p v := by
  refine ⟨fun c => absurd c hv, fun _ => ⟨fun c => absurd c ?_, fun _ => ⟨fun c => absurd c ?_, fun _ => ⟨vp_in_nI hk (by omega), ?_⟩⟩⟩⟩
  · exact i_nlt.mpr (nI_le (a := 0) (Nat.zero_le _) (by omega))
  · exact nI_ge (b := 400) hk (by omega)
  · delta bk_C_X6_append_49
    rw [nI_1, nI_clamp (by omega), hw]
    exact h
theorem s_append {Q : Int32 → (Nat → Int32) → Prop} {k : Nat} {bytes : Nat → Int32} {p : Int32} (hk : k + 4 ≤ 400) (h : Q (nI (k + 4)) (ap4 bytes k p)) : wp_C_X6_append Q (nI k) bytes p :=
  ⟨5, s_app (by decide) (by omega) (w := 16) (by decide) (s_app (by decide) (by omega) (w := 8) (by decide) (s_app (by decide) (by omega) (w := 0) (by decide) (s_app (by decide) (by omega) (w := -8) (by decide) ⟨fun _ => h, fun c => absurd (by decide) c⟩)))⟩
def ap20 (f : Nat → Int32) (n : Nat) (a b c d e : Int32) : Nat → Int32 := ap4 (ap4 (ap4 (ap4 (ap4 f n a) (n + 4) b) (n + 8) c) (n + 12) d) (n + 16) e
theorem s_feed {Q : Int32 → Int32 → (Nat → Int32) → Prop} {n : Nat} {bytes : Nat → Int32} {a b c d e : Int32} (hn : n ≤ 400) (h1 : n + 20 ≤ 400 → Q (nI (n + 20)) (nI (n + 20)) (ap20 bytes n a b c d e)) (h0 : ¬ n + 20 ≤ 400 → Q (-1) (nI n) bytes) : wp_C_X7_feed Q (nI n) bytes a b c d e := by
  have e0 : nI n + 20 = nI (n + 20) := nI_add n 20
  refine ⟨fun z => ⟨Or.inl rfl, n_0 (h0 (fun q => ?_))⟩, fun z => ⟨Or.inr rfl, n_1 ?_⟩⟩
  · rw [e0] at z
    exact i_nlt.mpr (nI_le (b := 400) q (by omega)) z
  · rw [e0] at z
    have q : n + 20 ≤ 400 := by
      rcases Nat.lt_or_ge 400 (n + 20) with q | q
      · exact absurd (nI_lt (a := 400) q (by omega)) z
      · exact q
    exact s_append (by omega) (s_append (k := n + 4) (by omega) (s_append (k := n + 8) (by omega) (s_append (k := n + 12) (by omega) (s_append (k := n + 16) (by omega) (h1 q)))))
theorem s_leg {LP : List Nat} {td p0 p1 p2 : Int32} {n : Nat} {legs : Nat → Option Nat} {g1 g2 pg g3 g4 g5 g6 g7 g8 g9 g10 g11 g12 g13 pig : Nat → Int32} {Q : Int32 → List Nat → Int32 → (Nat → Option Nat) → (Nat → Int32) → (Nat → Int32) → (Nat → Int32) → (Nat → Int32) → (Nat → Int32) → (Nat → Int32) → (Nat → Int32) → (Nat → Int32) → (Nat → Int32) → (Nat → Int32) → (Nat → Int32) → (Nat → Int32) → (Nat → Int32) → (Nat → Int32) → Prop} {X : Nat → List Nat → Int32 → (Nat → Option Nat) → (Nat → Int32) → (Nat → Int32) → (Nat → Int32) → (Nat → Int32) → (Nat → Int32) → (Nat → Int32) → (Nat → Int32) → (Nat → Int32) → (Nat → Int32) → (Nat → Int32) → (Nat → Int32) → (Nat → Int32) → (Nat → Int32) → (Nat → Int32) → Prop}
    (hL : hLs LP legs) (hG : hLg LP legs pg pig n) (hn : n ≤ 60)
    (h1 : ¬ (0 ≤ p0 ∧ p0 ≤ 9) → X 1 LP (nI n) legs g1 g2 pg g3 g4 g5 g6 g7 g8 g9 g10 g11 g12 g13)
    (h2 : (0 ≤ p0 ∧ p0 ≤ 9) → ¬ ((0 ≤ p1 ∧ p1 ≤ 9999) ∧ (5000 ≤ p2 ∧ p2 ≤ 15000)) → X 2 LP (nI n) legs g1 g2 pg g3 g4 g5 g6 g7 g8 g9 g10 g11 g12 g13)
    (h3 : (0 ≤ p0 ∧ p0 ≤ 9) → ((0 ≤ p1 ∧ p1 ≤ 9999) ∧ (5000 ≤ p2 ∧ p2 ≤ 15000)) → n = 60 → X 3 LP (nI n) legs g1 g2 pg g3 g4 g5 g6 g7 g8 g9 g10 g11 g12 g13)
    (h4 : (0 ≤ p0 ∧ p0 ≤ 9) → ((0 ≤ p1 ∧ p1 ≤ 9999) ∧ (5000 ≤ p2 ∧ p2 ≤ 15000)) → n < 60 → 2 ≤ cnt pig p1 n → Q (-1) LP (nI n) legs g1 g2 pg g3 g4 g5 g6 g7 g8 g9 g10 g11 g12 g13)
    (h5 : (0 ≤ p0 ∧ p0 ≤ 9) → ((0 ≤ p1 ∧ p1 ≤ 9999) ∧ (5000 ≤ p2 ∧ p2 ≤ 15000)) → n < 60 → cnt pig p1 n < 2 → ∀ q, ¬ q ∈ LP → ∀ x1 x2 x3 x4 x5 x6 x7 x8 x9 x10 x11 x12 x13, Q (nI n) (LP ++ [q]) (nI (n + 1)) (va_up legs n (some q)) x1 x2 (va_up (va_up pg q 0) q p1) x3 x4 x5 x6 x7 x8 x9 x10 x11 x12 x13) :
    wp_C_X7_leg td Q X LP (nI n) legs g1 g2 pg g3 g4 g5 g6 g7 g8 g9 g10 g11 g12 g13 p0 p1 p2 := by
  refine i_needFarm (fun c1 => i_isWithin (fun c2 => t_1 (i_isWithin (fun c3 => n_1 ⟨fun c => absurd c (nI_pos (by omega)), fun _ => ⟨fun c4 => ?_, fun c4 => ?_⟩⟩) (fun c3 => n_0 (h2 c1 (fun z => c3 z.2))))) (fun c2 => t_0 (h2 c1 (fun z => c2 z.1)))) h1
  · have q : n < 60 := by
      rcases Nat.lt_or_ge n 60 with q | q
      · exact q
      · exact absurd c4 (nI_nlt (b := 60) q (by omega))
    have hc := cnt_le pig p1 n
    refine s_legsOfPig hL hG hn ⟨fun c5 => fun y hy => ⟨vp_in_nI q (by omega), ?_⟩, fun c5 => h4 c1 ⟨c2, c3⟩ q ?_⟩
    · rw [nI_1, nI_clamp (by omega)]
      exact h5 c1 ⟨c2, c3⟩ q ((nI_ltI (b := 2) (by omega) (by omega)).mp c5) y hy _ _ _ _ _ _ _ _ _ _ _ _ _
    · rcases Nat.lt_or_ge (cnt pig p1 n) 2 with z | z
      · exact absurd (nI_lt (b := 2) z (by omega)) c5
      · exact z
  · refine h3 c1 ⟨c2, c3⟩ ?_
    rcases Nat.lt_or_ge n 60 with q | q
    · exact absurd (nI_lt (b := 60) q (by omega)) c4
    · omega
theorem s_against {LP : List Nat} {td : Int32} {n : Nat} {fa ff fw fo g1 g2 : Nat → Int32} {Q : Int32 → Prop} {a : Nat} {p : Int32} (hn : n ≤ 60) (h : ∀ r, Q r) : wp_C_X7_isFeedAgainst LP td (nI n) fa ff fw fo g1 g2 Q a p :=
  s_find hn ⟨fun _ => ⟨Or.inl rfl, h _⟩, fun _ => ⟨Or.inr rfl, h _⟩⟩
theorem s_undo {LP : List Nat} {td : Int32} {n : Nat} {legs : Nat → Option Nat} {fa ff fw fo ga gb gf gs g : Nat → Int32} {Q : Int32 → (Nat → Int32) → Prop} (hL : hLs LP legs) (hn : n ≤ 60) (h : ∀ a b, Q a b) : wp_C_X7_undoSeals LP td legs (nI n) fa ff fw fo ga gb gf gs Q g := by
  refine ⟨61, ?_⟩
  have key : ∀ (m i : Nat) (a : Nat → Int32) (v : Int32), i ≤ 60 → 60 - i < m → lp_C_X7_undoSeals_13 LP td legs (nI n) fa ff fw fo ga gb gf gs Q m a v 60 (nI i) := by
    intro m
    induction m with
    | zero => intro i a v h1 h2; omega
    | succ m ih =>
      intro i a v h1 h2
      refine ⟨fun _ => h _ _, fun c0 => ?_⟩
      have hi : i < 60 := lt_of (by omega) c0
      have st : ∀ x y, bk_C_X7_undoSeals_69 LP td legs (nI n) fa ff fw fo ga gb gf gs Q (lp_C_X7_undoSeals_13 LP td legs (nI n) fa ff fw fo ga gb gf gs Q m) x y 60 (nI i) := by
        intro x y
        delta bk_C_X7_undoSeals_69
        rw [nI_1]
        exact ih (i + 1) x y hi (by omega)
      exact ⟨vp_in_nI hi (by omega), fun _ => st _ _, fun y hy => ⟨hL _ _ hy, fun _ => st _ _, fun _ => ⟨fun _ => st _ _, fun _ => s_against hn (fun _ => ⟨fun _ => st _ _, fun _ => st _ _⟩)⟩⟩⟩
  exact key 61 0 _ _ (by omega) (by omega)
theorem s_fed {LP : List Nat} {td p0 p1 p2 : Int32} {n : Nat} {legs : Nat → Option Nat} {fa ff fw fo ga gb gf gs g : Nat → Int32} {Q : Int32 → Int32 → (Nat → Int32) → (Nat → Int32) → (Nat → Int32) → (Nat → Int32) → (Nat → Int32) → Prop} {X : Nat → Int32 → (Nat → Int32) → (Nat → Int32) → (Nat → Int32) → (Nat → Int32) → (Nat → Int32) → Prop} (hL : hLs LP legs) (hn : n ≤ 60)
    (h1 : ¬ (0 ≤ p0 ∧ p0 ≤ 9) → X 1 (nI n) fa ff fw fo g)
    (h2 : (0 ≤ p0 ∧ p0 ≤ 9) → ¬ ((0 ≤ p1 ∧ p1 ≤ 2000) ∧ (0 ≤ p2 ∧ p2 ≤ 3)) → X 2 (nI n) fa ff fw fo g)
    (h3 : (0 ≤ p0 ∧ p0 ≤ 9) → ((0 ≤ p1 ∧ p1 ≤ 2000) ∧ (0 ≤ p2 ∧ p2 ≤ 3)) → n = 60 → Q (-1) (nI n) fa ff fw fo g)
    (h4 : (0 ≤ p0 ∧ p0 ≤ 9) → ((0 ≤ p1 ∧ p1 ≤ 2000) ∧ (0 ≤ p2 ∧ p2 ≤ 3)) → n < 60 → ∀ r x, Q r (nI (n + 1)) (upd fa n p0) (upd ff n p1) (upd fw n p2) (upd fo n td) x) :
    wp_C_X7_fed LP td legs ga gb gf gs Q X (nI n) fa ff fw fo g p0 p1 p2 := by
  refine i_needFarm (fun c1 => i_isWithin (fun c2 => t_1 (i_isWithin (fun c3 => n_1 ⟨fun c => absurd c (nI_pos (by omega)), fun _ => ⟨fun c4 => ?_, fun c4 => ⟨Or.inl rfl, n_0 ?_⟩⟩⟩) (fun c3 => n_0 (h2 c1 (fun z => c3 z.1))))) (fun c2 => t_0 (h2 c1 (fun z => c2 z.2)))) h1
  · have q : n < 60 := by
      rcases Nat.lt_or_ge n 60 with q | q
      · exact q
      · exact absurd c4 (nI_nlt (b := 60) q (by omega))
    have hv : vp_in (nI n) 60 := vp_in_nI q (by omega)
    refine ⟨hv, hv, hv, hv, Or.inr rfl, n_1 ?_⟩
    rw [nI_1, nI_clamp (by omega)]
    exact s_undo hL (by omega) (fun r x => h4 c1 ⟨c3, c2⟩ q r x)
  · refine h3 c1 ⟨c3, c2⟩ ?_
    rcases Nat.lt_or_ge n 60 with q | q
    · exact absurd (nI_lt (b := 60) q (by omega)) c4
    · omega
theorem s_asked {ak : Nat → Int32} {Q : Int32 → Prop} {p : Int32} (h : ∀ r, Q r) : wp_C_X7_askedOf ak Q p := ⟨fun _ => h _, fun c => ⟨fun _ => h _, fun c2 => ⟨vin (N := 5) (by decide) c c2, h _⟩⟩⟩
theorem s_lost {LP : List Nat} {gf gw : Nat → Int32} {Q : Int32 → Prop} {y : Nat} {p : Int32} (h : ∀ r, Q r) : wp_C_X3_hasLost LP gf gw Q y p := ⟨fun _ => ⟨Or.inl rfl, h _⟩, fun _ => ⟨Or.inr rfl, h _⟩⟩
theorem s_what {LP : List Nat} {td : Int32} {n : Nat} {ak fa ff fw fo g1 g2 g3 g4 g5 g6 g7 g8 : Nat → Int32} {Q : Int32 → Prop} {y : Nat} (hn : n ≤ 60) (h : ∀ r, Q r) : wp_C_X7_whatIsAgainst LP td ak (nI n) fa ff fw fo g1 g2 g3 g4 g5 g6 g7 g8 Q y :=
  ⟨fun _ => ⟨fun _ => ⟨fun _ => s_asked (fun _ => ⟨fun _ => s_asked (fun _ => s_lost (fun _ => ⟨fun _ => s_asked (fun _ => ⟨fun _ => s_asked (fun _ => s_against hn (fun _ => ⟨fun _ => s_asked (fun _ => ⟨fun _ => h _, fun _ => h _⟩), fun _ => h _⟩)), fun _ => h _⟩), fun _ => h _⟩)), fun _ => h _⟩), fun _ => h _⟩, fun _ => h _⟩, fun _ => h _⟩
theorem s_seal {LP : List Nat} {td p : Int32} {n : Nat} {legs : Nat → Option Nat} {ak fa ff fw fo g1 g2 g3 g4 g5 g6 g7 a b : Nat → Int32} {Q : Int32 → (Nat → Int32) → (Nat → Int32) → Prop} {X : Nat → (Nat → Int32) → (Nat → Int32) → Prop} (hL : hLs LP legs) (hn : n ≤ 60) (hX : X 1 a b) (h : ∀ r x y, Q r x y) : wp_C_X7_seal LP td legs ak (nI n) fa ff fw fo g1 g2 g3 g4 g5 g6 g7 Q X a b p := by
  refine s_needLeg hL hX (fun y hy => ⟨fun z => (nomatch z), fun w hw => ?_⟩)
  cases hw
  exact ⟨hy, s_what hn (fun _ => ⟨fun _ => h _ _ _, fun _ => s_asked (fun _ => h _ _ _)⟩)⟩
theorem s_look {LP : List Nat} {p q : Int32} {legs : Nat → Option Nat} {g1 g2 g3 g4 g5 g6 g7 g8 g9 g10 g11 : Nat → Int32} {Q : Int32 → Prop} {X : Nat → Prop} (hL : hLs LP legs) (hX : X 1) (hX4 : X 4) (h : ∀ r, Q r) : wp_C_X7_look LP legs g1 g2 g3 g4 g5 g6 g7 g8 g9 g10 g11 Q X p q := by
  refine s_needLeg hL hX (fun y hy => ⟨fun z => (nomatch z), fun w hw => ?_⟩)
  cases hw
  refine ⟨hy, ?_⟩
  exact ⟨fun _ => h _, fun _ => ⟨fun _ => h _, fun _ => ⟨fun _ => h _, fun _ => ⟨fun _ => h _, fun _ => ⟨fun _ => ⟨fun _ => s_hangs (fun _ => s_oneIf (fun _ => h _)), fun _ => h _⟩, fun _ => ⟨fun _ => s_room (fun _ => h _), fun _ => ⟨fun _ => s_hook (fun _ => h _), fun _ => ⟨fun _ => s_oneIf (fun _ => h _), fun _ => ⟨fun _ => s_oneIf (fun _ => h _), fun _ => ⟨fun _ => h _, fun _ => ⟨fun _ => h _, fun _ => ⟨fun _ => h _, fun _ => hX4⟩⟩⟩⟩⟩⟩⟩⟩⟩⟩⟩⟩
theorem s_kept {LP : List Nat} {hung : Nat → Option Nat} {tg : Nat → Int32} {Q : Int32 → Prop} {y : Nat} (hH : hLs LP hung) (h : ∀ r, Q r) : wp_C_X2_isTargetKept LP hung tg Q y :=
  s_legAt hH ⟨fun _ => ⟨Or.inl rfl, h _⟩, fun y hy => by cases hy⟩ (fun a ha => ⟨fun z => (nomatch z), fun y hy => by cases hy; exact ⟨ha, fun _ => ⟨Or.inl rfl, h _⟩, fun _ => ⟨Or.inr rfl, h _⟩⟩⟩)
theorem s_ring {LP : List Nat} {hung : Nat → Option Nat} {pl tg : Nat → Int32} {Q : Int32 → Prop} {a : Nat} (hH : hLs LP hung) (h : ∀ r, Q r) : wp_C_X2_leadsRing LP hung pl tg Q a := by
  have e1 : bk_C_X2_leadsRing_54 LP hung pl tg Q a := ⟨fun _ => ⟨Or.inl rfl, h _⟩, fun _ => ⟨Or.inr rfl, h _⟩⟩
  have e2 : ∀ b, bk_C_X2_leadsRing_54_1 LP hung pl tg Q a b := fun b => ⟨fun _ => ⟨Or.inl rfl, h _⟩, fun _ => ⟨Or.inr rfl, h _⟩⟩
  have key : ∀ (m i : Nat) (o : Option Nat), i ≤ 60 → 60 - i < m → lp_C_X2_leadsRing_11 LP hung pl tg Q m a o (nI i) := by
    intro m
    induction m with
    | zero => intro i o h1 h2; omega
    | succ m ih =>
      intro i o h1 h2
      refine ⟨fun _ => ⟨fun _ => e1, fun _ => e1⟩, fun y hy => ⟨fun _ => e2 y, fun c => ⟨fun _ => e2 y, fun _ => ⟨fun _ => ?_, fun _ => ⟨Or.inl rfl, h _⟩⟩⟩⟩⟩
      have hi : i < 60 := lt_of (by omega) c
      rw [nI_1]
      exact s_legAt hH ⟨fun _ => ih (i + 1) _ hi (by omega), fun y hy => by cases hy⟩ (fun b hb => ⟨fun z => (nomatch z), fun y hy => by cases hy; exact ⟨hb, ih (i + 1) _ hi (by omega)⟩⟩)
  exact s_legAt hH ⟨fun _ => ⟨61, key 61 0 _ (by omega) (by omega)⟩, fun y hy => by cases hy⟩ (fun b hb => ⟨fun z => (nomatch z), fun y hy => by cases hy; exact ⟨hb, 61, key 61 0 _ (by omega) (by omega)⟩⟩)
theorem s_least {LP : List Nat} {hung : Nat → Option Nat} {pl tg : Nat → Int32} {Q : Int32 → Prop} (hH : hLs LP hung) (h : ∀ r, Q r) : wp_C_X2_leastMoves LP hung pl tg Q := by
  refine ⟨51, ?_⟩
  have key : ∀ (m i : Nat) (x y z : Int32), i ≤ 60 → 60 - i < m → lp_C_X2_leastMoves_10 LP hung pl tg Q m x y z (nI i) := by
    intro m
    induction m with
    | zero => intro i x y z h1 h2; omega
    | succ m ih =>
      intro i x y z h1 h2
      refine ⟨fun _ => ⟨fun _ => h _, fun _ => ⟨fun _ => h _, fun _ => h _⟩⟩, fun c => ?_⟩
      have hi : i < 60 := lt_of (by omega) c
      have st : ∀ x y z, bk_C_X2_leastMoves_90 LP hung pl tg Q (lp_C_X2_leastMoves_10 LP hung pl tg Q m) x y z (nI i) := by
        intro x y z
        delta bk_C_X2_leastMoves_90
        rw [nI_1]
        exact ih (i + 1) x y z hi (by omega)
      exact ⟨vp_in_nI hi (by omega), fun _ => st _ _ _, fun a ha => ⟨hH _ _ ha, fun _ => st _ _ _, fun _ => ⟨fun _ => st _ _ _, fun _ => s_kept hH (fun _ => ⟨fun _ => s_ring hH (fun _ => ⟨fun _ => st _ _ _, fun _ => st _ _ _⟩), fun _ => h _⟩)⟩⟩⟩
  exact key 51 10 _ _ _ (by omega) (by omega)
theorem s_moves {LP : List Nat} {legs hung : Nat → Option Nat} {pl tg : Nat → Int32} {Q : Int32 → (Nat → Int32) → Prop} (hL : hLs LP legs) (hH : hLs LP hung) (h : ∀ r x, Q r x) : wp_C_X7_moves LP legs hung pl Q tg := by
  refine s_least hH (fun r => ⟨61, ?_⟩)
  have key : ∀ (m i : Nat) (x : Nat → Int32), i ≤ 60 → 60 - i < m → lp_C_X7_moves_19 LP legs hung pl Q m x r 60 (nI i) := by
    intro m
    induction m with
    | zero => intro i x h1 h2; omega
    | succ m ih =>
      intro i x h1 h2
      refine ⟨fun _ => h _ _, fun c => ?_⟩
      have hi : i < 60 := lt_of (by omega) c
      have st : ∀ x, bk_C_X7_moves_42 LP legs hung pl Q (lp_C_X7_moves_19 LP legs hung pl Q m) x r 60 (nI i) := by
        intro x
        delta bk_C_X7_moves_42
        rw [nI_1]
        exact ih (i + 1) x hi (by omega)
      exact ⟨vp_in_nI hi (by omega), fun _ => st _, fun a ha => ⟨hL _ _ ha, st _⟩⟩
  exact key 61 0 _ (by omega) (by omega)
theorem s_change {cw ca : Nat → Int32} {Q : Int32 → Prop} {p : Int32} (h : ∀ r, Q r) : wp_C_X0_changeOfWeight cw ca Q p := by
  refine ⟨14, ?_⟩
  have key : ∀ (m i : Nat), i ≤ 13 → 13 - i < m → lp_C_X0_changeOfWeight_2 cw ca Q m p (nI i) := by
    intro m
    induction m with
    | zero => intro i h1 h2; omega
    | succ m ih =>
      intro i h1 h2
      have hv : vp_in (nI i) 14 := vp_in_nI (by omega) (by omega)
      have st : bk_C_X0_changeOfWeight_22 cw ca Q (nI i) := ⟨hv, hv, h _⟩
      refine ⟨fun _ => st, fun c => ⟨fun _ => st, fun _ => ?_⟩⟩
      have hi : i < 13 := lt_of (by omega) c
      rw [nI_1]
      exact ih (i + 1) (by omega) (by omega)
  exact key 14 0 (by omega) (by omega)
theorem sh_le : ∀ n, n ≤ 14 → ((1 : Int32) <<< (nI n &&& 31)) ≤ 16384 := by decide +kernel
theorem s_leastSet {n : Nat} {ct : Int32} {cw ca : Nat → Int32} {Q : Int32 → Prop} {p : Int32} (hn : n ≤ 14) (h : ∀ r, Q r) : wp_C_X0_leastSet (nI n) ct cw ca Q p := by
  refine ⟨16385, ?_⟩
  have key : ∀ (m i : Nat) (x y z : Int32), i ≤ 16384 → 16384 - i < m → lp_C_X0_leastSet_10 (nI n) ct cw ca Q m p x y z (nI i) := by
    intro m
    induction m with
    | zero => intro i x y z h1 h2; omega
    | succ m ih =>
      intro i x y z h1 h2
      refine ⟨fun _ => h _, fun c => ⟨fun _ => h _, fun _ => s_change (fun r => ?_)⟩⟩
      have hi : i < 16384 := by
        rcases Nat.lt_or_ge i 16384 with q | q
        · exact q
        · exact absurd (Int32.le_trans (sh_le n hn) (nI_le (a := 16384) q (by omega))) c
      have st : ∀ x y z, bk_C_X0_leastSet_92 (nI n) ct cw ca Q (lp_C_X0_leastSet_10 (nI n) ct cw ca Q m) p x y z (nI i) := by
        intro x y z
        delta bk_C_X0_leastSet_92
        rw [nI_1]
        exact ih (i + 1) x y z (by omega) (by omega)
      have s8 : ∀ x y z, bk_C_X0_leastSet_68 (nI n) ct cw ca Q (lp_C_X0_leastSet_10 (nI n) ct cw ca Q m) p x y z (nI i) := fun x y z => ⟨fun _ => st _ _ _, fun _ => ⟨fun _ => st _ _ _, fun _ => st _ _ _⟩⟩
      have s2 : ∀ x y z, bk_C_X0_leastSet_72 (nI n) ct cw ca Q (lp_C_X0_leastSet_10 (nI n) ct cw ca Q m) p x y z (nI i) := fun x y z => ⟨fun _ => st _ _ _, fun _ => ⟨fun _ => st _ _ _, fun _ => st _ _ _⟩⟩
      exact ⟨fun _ => s8 _ _ _, fun _ => ⟨fun _ => s8 _ _ _, fun _ => ⟨fun _ => s2 _ _ _, fun _ => ⟨fun _ => s2 _ _ _, fun _ => s8 _ _ _⟩⟩⟩⟩
  exact key 16385 1 _ _ _ (by omega) (by omega)
theorem s_legAtC {LP : List Nat} {n : Nat} {off : Nat → Option Nat} {Q : Option Nat → Prop} {p : Int32} (hO : hLs LP off) (h0 : Q none) (h1 : ∀ a, a ∈ LP → Q (some a)) : wp_C_X0_legAt LP (nI n) off Q p :=
  ⟨fun _ => h0, fun c => ⟨fun _ => h0, fun _ => ⟨fun _ => h0, fun c2 => ⟨vin (N := 14) (by decide) c c2, fun _ => h0, fun y hy => ⟨hO _ _ hy, h1 y (hO _ _ hy)⟩⟩⟩⟩⟩
theorem s_sell {LP : List Nat} {n : Nat} {off hung : Nat → Option Nat} {pl sd : Nat → Int32} {Q : Int32 → (Nat → Option Nat) → (Nat → Int32) → (Nat → Int32) → Prop} {p : Int32} (hO : hLs LP off) (hH : hLs LP hung) (h : ∀ r f a b, hLs LP f → Q r f a b) : wp_C_X7_sell LP (nI n) off Q hung pl sd p := by
  refine ⟨15, ?_⟩
  have key : ∀ (m i : Nat) (f : Nat → Option Nat) (x y : Nat → Int32) (v : Int32), hLs LP f → i ≤ 14 → 14 - i < m → lp_C_X7_sell_4 LP (nI n) off Q m f x y p v (nI i) := by
    intro m
    induction m with
    | zero => intro i f x y v hf h1 h2; omega
    | succ m ih =>
      intro i f x y v hf h1 h2
      refine ⟨fun _ => h _ _ _ _ hf, fun c => ?_⟩
      have hi : i < 14 := lt_of (by omega) c
      have st : ∀ f x y v, hLs LP f → bk_C_X7_sell_56 LP (nI n) off Q (lp_C_X7_sell_4 LP (nI n) off Q m) f x y p v (nI i) := by
        intro f x y v hf
        delta bk_C_X7_sell_56
        rw [nI_1]
        exact ih (i + 1) f x y v hf hi (by omega)
      refine ⟨fun _ => st _ _ _ _ hf, fun _ => s_legAtC hO ⟨fun _ => st _ _ _ _ hf, fun y hy => by cases hy⟩ (fun a ha => ⟨fun z => (nomatch z), fun y hy => ?_⟩)⟩
      cases hy
      exact ⟨ha, s_takeOff hf (fun f g hf => st _ _ _ _ hf)⟩
  exact key 15 0 _ _ _ _ hH (by omega) (by omega)
theorem s_order {LP : List Nat} {legs hung off : Nat → Option Nat} {gw gs gb cw ca pl sd : Nat → Int32} {cz ct p : Int32} {Q : Int32 → (Nat → Option Nat) → Int32 → Int32 → (Nat → Option Nat) → (Nat → Int32) → (Nat → Int32) → (Nat → Int32) → (Nat → Int32) → Prop} {X : Nat → (Nat → Option Nat) → Int32 → Int32 → (Nat → Option Nat) → (Nat → Int32) → (Nat → Int32) → (Nat → Int32) → (Nat → Int32) → Prop} (hL : hLs LP legs) (hH : hLs LP hung) (hO : hLs LP off) (hX : X 2 hung cz ct off cw ca pl sd) (h : ∀ r f a b o x y z w, hLs LP f → hLs LP o → Q r f a b o x y z w) : wp_C_X7_order LP legs gw gs gb Q X hung cz ct off cw ca pl sd p := by
  refine i_isWithin (fun _ => n_1 ⟨61, ?_⟩) (fun _ => n_0 hX)
  have key : ∀ (m i n : Nat) (b : Int32) (o : Nat → Option Nat) (x y : Nat → Int32), hLs LP o → n ≤ 14 → i ≤ 60 → 60 - i < m → lp_C_X7_order_36 LP legs gw gs gb Q X m hung (nI n) b o x y pl sd p 60 (nI i) := by
    intro m
    induction m with
    | zero => intro i n b o x y ho hn h1 h2; omega
    | succ m ih =>
      intro i n b o x y ho hn h1 h2
      refine ⟨fun _ => s_leastSet hn (fun r => ⟨fun _ => s_sell ho hH (fun r f a b hf => h _ _ _ _ _ _ _ _ _ hf ho), fun _ => h _ _ _ _ _ _ _ _ _ hH ho⟩), fun c => ?_⟩
      have hi : i < 60 := lt_of (by omega) c
      have st : ∀ n b o x y, hLs LP o → n ≤ 14 → bk_C_X7_order_86 LP legs gw gs gb Q X (lp_C_X7_order_36 LP legs gw gs gb Q X m) hung (nI n) b o x y pl sd p 60 (nI i) := by
        intro n b o x y ho hn
        delta bk_C_X7_order_86
        rw [nI_1]
        exact ih (i + 1) n b o x y ho hn hi (by omega)
      refine ⟨vp_in_nI hi (by omega), fun _ => st _ _ _ _ _ ho hn, fun a ha => ⟨hL _ _ ha, fun _ => st _ _ _ _ _ ho hn, fun _ => s_hangs (fun r => ⟨fun _ => st _ _ _ _ _ ho hn, fun _ => ⟨fun _ => st _ _ _ _ _ ho hn, fun _ => ?_⟩⟩)⟩⟩
      refine ⟨fun _ => st _ _ _ _ _ ho hn, fun _ => ⟨fun _ => st _ _ _ _ _ ho hn, fun c5 => ?_⟩⟩
      have h5 : n < 14 := lt_of (by omega) c5
      have hv : vp_in (nI n) 14 := vp_in_nI h5 (by omega)
      refine ⟨hv, hv, hv, ?_⟩
      rw [nI_1]
      exact st (n + 1) _ _ _ _ (hLs_up ho (hL _ _ ha)) (by omega)
  exact key 61 0 0 _ _ _ _ hO (by omega) (by omega) (by omega)
theorem s_share {LP : List Nat} {g1 g2 g3 g4 g5 g6 : Nat → Int32} {Q : Int32 → Prop} {y : Nat} {p : Int32} (h : ∀ r, Q r) : wp_C_X7_shareOf LP g1 g2 g3 g4 g5 g6 Q y p :=
  ⟨fun _ => s_hangs (fun _ => s_oneIf (fun _ => h _)), fun _ => ⟨fun _ => s_oneIf (fun _ => h _), fun _ => ⟨fun _ => s_oneIf (fun _ => h _), fun _ => ⟨fun _ => s_oneIf (fun _ => h _), fun _ => ⟨fun _ => ⟨fun _ => h _, fun _ => h _⟩, fun _ => ⟨fun _ => ⟨fun _ => h _, fun _ => h _⟩, fun _ => ⟨fun _ => h _, fun _ => ⟨fun _ => ⟨fun _ => s_oneIf (fun _ => h _), fun _ => s_oneIf (fun _ => h _)⟩, fun _ => h _⟩⟩⟩⟩⟩⟩⟩⟩
theorem s_sum {LP : List Nat} {legs : Nat → Option Nat} {g1 g2 g3 g4 g5 g6 : Nat → Int32} {Q : Int32 → Prop} {p : Int32} (hL : hLs LP legs) (h : ∀ r, Q r) : wp_C_X7_sumOfLegs LP legs g1 g2 g3 g4 g5 g6 Q p := by
  refine ⟨61, ?_⟩
  have key : ∀ (m i : Nat) (v : Int32), i ≤ 60 → 60 - i < m → lp_C_X7_sumOfLegs_14 LP legs g1 g2 g3 g4 g5 g6 Q m p v 60 (nI i) := by
    intro m
    induction m with
    | zero => intro i v h1 h2; omega
    | succ m ih =>
      intro i v h1 h2
      refine ⟨fun _ => h _, fun c => ?_⟩
      have hi : i < 60 := lt_of (by omega) c
      have st : ∀ v, bk_C_X7_sumOfLegs_41 LP legs g1 g2 g3 g4 g5 g6 Q (lp_C_X7_sumOfLegs_14 LP legs g1 g2 g3 g4 g5 g6 Q m) p v 60 (nI i) := by
        intro v
        delta bk_C_X7_sumOfLegs_41
        rw [nI_1]
        exact ih (i + 1) v hi (by omega)
      exact ⟨vp_in_nI hi (by omega), fun _ => st _, fun a ha => ⟨hL _ _ ha, s_share (fun _ => st _)⟩⟩
  exact key 61 0 _ (by omega) (by omega)
theorem s_count {LP : List Nat} {td lc ft p : Int32} {legs : Nat → Option Nat} {g1 g2 g3 g4 g5 g6 : Nat → Int32} {Q : Int32 → Prop} (hL : hLs LP legs) (h : ∀ r, Q r) : wp_C_X7_count LP td lc legs ft g1 g2 g3 g4 g5 g6 Q p :=
  ⟨fun _ => h _, fun _ => ⟨fun _ => h _, fun _ => ⟨fun _ => s_sum hL h, fun _ => ⟨fun _ => s_sum hL h, fun _ => ⟨fun _ => s_sum hL h, fun _ => ⟨fun _ => s_sum hL h, fun _ => ⟨fun _ => s_sum hL h, fun _ => ⟨fun _ => s_sum hL h, fun _ => ⟨fun _ => h _, fun _ => ⟨fun _ => s_sum hL h, fun _ => h _⟩⟩⟩⟩⟩⟩⟩⟩⟩⟩
