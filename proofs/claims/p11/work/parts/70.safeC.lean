/-! the class's methods at any state whose legs lie in the pool -/
theorem lt_of {N i : Nat} (hi : i < 2 ^ 31) (c : ¬ nI N ≤ nI i) : i < N := by
  rcases Nat.lt_or_ge i N with q | q
  · exact q
  · exact absurd (nI_le q hi) c
theorem ge_of {N i : Nat} (hN : N < 2 ^ 31) (hi : i < 2 ^ 31) (c : nI N ≤ nI i) : N ≤ i := (nI_leI hN hi).mp c
theorem vin {N : Nat} {p : Int32} (hN : N < 2 ^ 31) (c : ¬ p < 0) (c2 : ¬ nI N ≤ p) : vp_in p N := by
  obtain ⟨j, hj, rfl⟩ := nI_of c
  exact vp_in_nI (lt_of hj c2) hN
theorem in_of {x : Int32} {N : Nat} (h1 : ¬ x < 0) (h2 : ¬ nI N ≤ x) : ∃ j, j < N ∧ x = nI j := by
  obtain ⟨j, hj, rfl⟩ := nI_of h1
  exact ⟨j, lt_of hj h2, rfl⟩
def hLs (LP : List Nat) (f : Nat → Option Nat) : Prop := ∀ j a, f j = some a → a ∈ LP
theorem hLs_up {LP : List Nat} {f : Nat → Option Nat} {k a : Nat} (h : hLs LP f) (ha : a ∈ LP) : hLs LP (va_up f k (some a)) := by
  intro j b hb
  unfold va_up at hb
  split at hb
  · cases hb; exact ha
  · exact h j b hb
theorem hLs_no {LP : List Nat} {f : Nat → Option Nat} {k : Nat} (h : hLs LP f) : hLs LP (va_up f k none) := by
  intro j b hb
  unfold va_up at hb
  split at hb
  · cases hb
  · exact h j b hb
theorem hLs_app {LP : List Nat} {f : Nat → Option Nat} {q : Nat} (h : hLs LP f) : hLs (LP ++ [q]) f := fun j a e => List.mem_append_left _ (h j a e)
theorem s_needLeg {LP : List Nat} {legs : Nat → Option Nat} {Q : Option Nat → Prop} {X : Nat → Prop} {p : Int32} (hL : hLs LP legs) (h1 : X 1) (h0 : ∀ a, a ∈ LP → Q (some a)) : wp_C_X7_needLeg LP legs Q X p := by
  refine ⟨fun _ => h1, fun c => ⟨fun _ => h1, fun c2 => ?_⟩⟩
  exact ⟨vin (N := 60) (by decide) c c2, fun _ => h1, fun y hy => ⟨hL _ _ hy, h0 y (hL _ _ hy)⟩⟩
theorem s_legAt {LP : List Nat} {hung : Nat → Option Nat} {Q : Option Nat → Prop} {p : Int32} (hH : hLs LP hung) (h0 : Q none) (h1 : ∀ a, a ∈ LP → Q (some a)) : wp_C_X2_legAt LP hung Q p := by
  refine ⟨fun _ => h0, fun c => ⟨fun _ => h0, fun c2 => ?_⟩⟩
  exact ⟨vin (N := 60) (by decide) c c2, fun _ => h0, fun y hy => ⟨hH _ _ hy, h1 y (hH _ _ hy)⟩⟩
theorem s_takeOff {LP : List Nat} {hung : Nat → Option Nat} {pl : Nat → Int32} {a : Nat} {Q : (Nat → Option Nat) → (Nat → Int32) → Prop} (hH : hLs LP hung) (h : ∀ f g, hLs LP f → Q f g) : wp_C_X2_takeOff LP Q hung pl a :=
  ⟨fun _ => h _ _ hH, fun c => ⟨fun _ => h _ _ hH, fun c2 => ⟨vin (N := 60) (by decide) c c2, h _ _ (hLs_no hH)⟩⟩⟩
theorem s_put {LP : List Nat} {hung : Nat → Option Nat} {pl : Nat → Int32} {a : Nat} {p : Int32} {Q : (Nat → Option Nat) → (Nat → Int32) → Prop} (hH : hLs LP hung) (ha : a ∈ LP) (h : ∀ f g, hLs LP f → Q f g) : wp_C_X2_put LP Q hung pl a p :=
  ⟨fun _ => h _ _ hH, fun c => ⟨fun _ => h _ _ hH, fun c2 => ⟨vin (N := 60) (by decide) c c2, h _ _ (hLs_up hH ha)⟩⟩⟩
theorem s_hang {LP : List Nat} {legs hung : Nat → Option Nat} {sold pl : Nat → Int32} {p r k : Int32} {Q : Int32 → (Nat → Option Nat) → (Nat → Int32) → Prop} {X : Nat → (Nat → Option Nat) → (Nat → Int32) → Prop} (hL : hLs LP legs) (hH : hLs LP hung) (hX : X 1 hung pl) (h : ∀ b f g, hLs LP f → Q b f g) : wp_C_X7_hang LP legs sold Q X hung pl p r k := by
  refine s_needLeg hL hX (fun a ha => ⟨fun z => (nomatch z), fun y hy => ?_⟩)
  cases hy
  refine ⟨ha, i_needPlace (fun c => ⟨fun _ => ⟨Or.inl rfl, h _ _ _ hH⟩, fun _ => ?_⟩) (fun _ => hX)⟩
  refine s_legAt hH ⟨fun _ => s_takeOff hH (fun f g hf => s_put hf ha (fun f g hf => ⟨Or.inr rfl, h _ _ _ hf⟩)), fun y hy => by cases hy⟩ (fun b hb => ⟨fun z => (nomatch z), fun y hy => ?_⟩)
  cases hy
  exact ⟨hb, Or.inl rfl, h _ _ _ hH⟩
theorem s_take {LP : List Nat} {legs hung : Nat → Option Nat} {pl : Nat → Int32} {p : Int32} {Q : Int32 → (Nat → Option Nat) → (Nat → Int32) → Prop} {X : Nat → (Nat → Option Nat) → (Nat → Int32) → Prop} (hL : hLs LP legs) (hH : hLs LP hung) (hX : X 1 hung pl) (h : ∀ b f g, hLs LP f → Q b f g) : wp_C_X7_take LP legs Q X hung pl p := by
  refine s_needLeg hL hX (fun a ha => ⟨fun z => (nomatch z), fun y hy => ?_⟩)
  cases hy
  exact ⟨ha, ⟨fun _ => ⟨Or.inl rfl, s_takeOff hH (fun f g hf => ⟨Or.inl rfl, h _ _ _ hf⟩)⟩, fun _ => ⟨Or.inr rfl, s_takeOff hH (fun f g hf => ⟨Or.inr rfl, h _ _ _ hf⟩)⟩⟩⟩
theorem s_on {LP : List Nat} {hung : Nat → Option Nat} {num : Nat → Int32} {r k : Int32} {Q : Int32 → Prop} {X : Nat → Prop} (hH : hLs LP hung) (hX : X 1) (h : ∀ b, Q b) : wp_C_X7_on LP hung num Q X r k := by
  refine i_needPlace (fun _ => s_legAt hH ⟨fun _ => h _, fun y hy => by cases hy⟩ (fun a ha => ⟨fun z => (nomatch z), fun y hy => ?_⟩)) (fun _ => hX)
  cases hy
  exact ⟨ha, h _⟩
/-- what find answers: of the first i rows, the latest day and what was told of it -/
def fnS (fa ff fw fo : Nat → Int32) (a b c : Int32) : Nat → Int32 × Int32
  | 0 => (0, 0)
  | i + 1 => if fa i = a ∧ fo i ≤ c ∧ ff i ≤ b ∧ (fnS fa ff fw fo a b c i).1 ≤ ff i then (ff i, fw i) else fnS fa ff fw fo a b c i
theorem s_find {n : Nat} {fa ff fw fo : Nat → Int32} {Q : Int32 → Prop} {a b c : Int32} (hn : n ≤ 60) (h : Q (fnS fa ff fw fo a b c n).2) : wp_C_X1_find (nI n) fa ff fw fo Q a b c := by
  refine ⟨61, ?_⟩
  have key : ∀ (m i : Nat), i ≤ n → 60 - i < m → lp_C_X1_find_9 (nI n) fa ff fw fo Q m a b c (fnS fa ff fw fo a b c i).1 (fnS fa ff fw fo a b c i).2 (nI i) := by
    intro m
    induction m with
    | zero => intro i h1 h2; omega
    | succ m ih =>
      intro i h1 h2
      refine ⟨fun z => ?_, fun c1 => ⟨fun z => absurd (ge_of (N := 60) (i := i) (by omega) (by omega) z) (by have := lt_of (N := n) (i := i) (by omega) c1; omega), fun c2 => ?_⟩⟩
      · have := ge_of (N := n) (i := i) (by omega) (by omega) z
        have e : i = n := by omega
        subst e; exact h
      have hi : i < n := lt_of (by omega) c1
      have hv : vp_in (nI i) 60 := vp_in_nI (by omega) (by omega)
      have ec : (nI i).toNatClampNeg = i := nI_clamp (by omega)
      have st : ∀ x, x = fnS fa ff fw fo a b c (i + 1) → bk_C_X1_find_100 (nI n) fa ff fw fo Q (lp_C_X1_find_9 (nI n) fa ff fw fo Q m) a b c x.1 x.2 (nI i) := by
        intro x hx
        delta bk_C_X1_find_100
        rw [nI_1, hx]
        exact ih (i + 1) hi (by omega)
      have s0 : ¬ (fa i = a ∧ fo i ≤ c ∧ ff i ≤ b ∧ (fnS fa ff fw fo a b c i).1 ≤ ff i) → bk_C_X1_find_100 (nI n) fa ff fw fo Q (lp_C_X1_find_9 (nI n) fa ff fw fo Q m) a b c (fnS fa ff fw fo a b c i).1 (fnS fa ff fw fo a b c i).2 (nI i) := fun z => st _ (by rw [fnS, if_neg z])
      have s1 : (fa i = a ∧ fo i ≤ c ∧ ff i ≤ b ∧ (fnS fa ff fw fo a b c i).1 ≤ ff i) → bk_C_X1_find_100 (nI n) fa ff fw fo Q (lp_C_X1_find_9 (nI n) fa ff fw fo Q m) a b c (ff i) (fw i) (nI i) := fun z => st (ff i, fw i) (by rw [fnS, if_pos z])
      have s2 : ¬ (fa i = a ∧ fo i ≤ c ∧ ff i ≤ b ∧ (fnS fa ff fw fo a b c i).1 ≤ ff i) → bk_C_X1_find_62 (nI n) fa ff fw fo Q (lp_C_X1_find_9 (nI n) fa ff fw fo Q m) a b c (fnS fa ff fw fo a b c i).1 (fnS fa ff fw fo a b c i).2 (nI i) := fun z => ⟨fun _ => s0 z, fun z => absurd rfl z⟩
      rw [ec]
      refine ⟨hv, fun d1 => s2 (fun z => d1 z.1), fun d1 => ⟨hv, fun d2 => s2 (fun z => i_nle.mpr d2 z.2.1), fun d2 => ⟨hv, fun d3 => s2 (fun z => i_nle.mpr d3 z.2.2.1), fun d3 => ?_⟩⟩⟩
      refine ⟨fun z => absurd z (by decide), fun _ => ⟨hv, ?_⟩⟩
      rw [ec]
      exact ⟨fun d4 => s0 (fun z => i_nle.mpr d4 z.2.2.2), fun d4 => ⟨hv, hv, s1 ⟨d1, i_nlt.mp d2, i_nlt.mp d3, i_nlt.mp d4⟩⟩⟩
  exact key 61 0 (by omega) (by omega)
/-- how many of the first i legs have the pig p -/
def cnt (g : Nat → Int32) (p : Int32) : Nat → Nat
  | 0 => 0
  | i + 1 => if g i = p then cnt g p i + 1 else cnt g p i
theorem cnt_le (g : Nat → Int32) (p : Int32) : ∀ i, cnt g p i ≤ i
  | 0 => Nat.le_refl _
  | i + 1 => by
    have := cnt_le g p i
    rw [cnt]
    split <;> omega
/-- the legs by numbers: the first n are there, each in the pool, none beyond -/
def hLg (LP : List Nat) (legs : Nat → Option Nat) (g pig : Nat → Int32) (n : Nat) : Prop := (∀ j, j < n → ∃ a, legs j = some a ∧ g a = pig j) ∧ (∀ j, n ≤ j → j < 60 → legs j = none)
theorem s_legsOfPig {LP : List Nat} {legs : Nat → Option Nat} {g pig : Nat → Int32} {n : Nat} {Q : Int32 → Prop} {p : Int32} (hL : hLs LP legs) (hG : hLg LP legs g pig n) (hn : n ≤ 60) (h : Q (nI (cnt pig p n))) : wp_C_X7_legsOfPig LP legs g Q p := by
  refine ⟨61, ?_⟩
  have key : ∀ (m i : Nat), i ≤ 60 → 60 - i < m → lp_C_X7_legsOfPig_14 LP legs g Q m p (nI (cnt pig p (min i n))) 60 (nI i) := by
    intro m
    induction m with
    | zero => intro i h1 h2; omega
    | succ m ih =>
      intro i h1 h2
      refine ⟨fun z => ?_, fun c => ?_⟩
      · have := ge_of (N := 60) (by omega) (by omega) z
        rw [Nat.min_eq_right (by omega)]; exact h
      have hi : i < 60 := lt_of (by omega) c
      have ec : (nI i).toNatClampNeg = i := nI_clamp (by omega)
      have st : ∀ x, x = nI (cnt pig p (min (i + 1) n)) → bk_C_X7_legsOfPig_44 LP legs g Q (lp_C_X7_legsOfPig_14 LP legs g Q m) p x 60 (nI i) := by
        intro x hx
        delta bk_C_X7_legsOfPig_44
        rw [nI_1, hx]
        exact ih (i + 1) hi (by omega)
      rw [ec]
      refine ⟨vp_in_nI hi (by omega), fun z => st _ ?_, fun y hy => ⟨hL _ _ hy, fun z => st _ ?_, fun z => st _ ?_⟩⟩
      · have : ¬ i < n := fun q => by obtain ⟨a, e, -⟩ := hG.1 i q; rw [z] at e; cases e
        rw [Nat.min_eq_right (by omega), Nat.min_eq_right (by omega)]
      · have q : i < n := by
          rcases Nat.lt_or_ge i n with q | q
          · exact q
          · rw [hG.2 i q hi] at hy; cases hy
        obtain ⟨a, e, e2⟩ := hG.1 i q
        rw [hy] at e; cases e
        rw [Nat.min_eq_left (by omega), Nat.min_eq_left (by omega), cnt, if_neg (by rw [← e2]; exact z)]
      · have q : i < n := by
          rcases Nat.lt_or_ge i n with q | q
          · exact q
          · rw [hG.2 i q hi] at hy; cases hy
        obtain ⟨a, e, e2⟩ := hG.1 i q
        rw [hy] at e; cases e
        rw [Nat.min_eq_left (by omega), Nat.min_eq_left (by omega), cnt, if_pos (by rw [← e2]; exact z), nI_1]
  have := key 61 0 (by omega) (by omega)
  rw [Nat.zero_min] at this
  exact this
theorem s_isTold {LP : List Nat} {legs : Nat → Option Nat} {g : Nat → Int32} {Q : Int32 → Prop} {a : Nat} {p : Int32} (hL : hLs LP legs) (h : ∀ r, Q r) : wp_C_X7_isToldForAnother LP legs g Q a p := by
  refine ⟨61, ?_⟩
  have key : ∀ (m i : Nat), i ≤ 60 → 60 - i < m → lp_C_X7_isToldForAnother_12 LP legs g Q m a p 60 (nI i) := by
    intro m
    induction m with
    | zero => intro i h1 h2; omega
    | succ m ih =>
      intro i h1 h2
      refine ⟨fun _ => ⟨Or.inl rfl, h _⟩, fun c => ?_⟩
      have hi : i < 60 := lt_of (by omega) c
      have st : bk_C_X7_isToldForAnother_47 LP legs g Q (lp_C_X7_isToldForAnother_12 LP legs g Q m) a p 60 (nI i) := by
        delta bk_C_X7_isToldForAnother_47
        rw [nI_1]
        exact ih (i + 1) hi (by omega)
      exact ⟨vp_in_nI hi (by omega), fun _ => st, fun y hy => ⟨hL _ _ hy, fun _ => st, fun _ => ⟨fun _ => st, fun _ => ⟨Or.inr rfl, h _⟩⟩⟩⟩
  exact key 61 0 (by omega) (by omega)
theorem s_should {LP : List Nat} {legs : Nat → Option Nat} {pl tg : Nat → Int32} {Q : Int32 → (Nat → Int32) → Prop} {X : Nat → (Nat → Int32) → Prop} {p r k : Int32} (hL : hLs LP legs) (hX : X 1 tg) (h : ∀ b g, Q b g) : wp_C_X7_should LP legs pl Q X tg p r k := by
  refine s_needLeg hL hX (fun a ha => ⟨fun z => (nomatch z), fun y hy => ?_⟩)
  cases hy
  refine ⟨ha, i_needPlace (fun c => ⟨fun _ => ⟨Or.inl rfl, t_0 ⟨Or.inl rfl, h _ _⟩⟩, fun _ => ⟨Or.inr rfl, t_1 ?_⟩⟩) (fun _ => hX)⟩
  exact s_isTold hL (fun r => ⟨fun _ => ⟨Or.inr rfl, h _ _⟩, fun _ => ⟨Or.inl rfl, h _ _⟩⟩)
theorem s_letOut {wo w d : Nat → Int32} {Q : (Nat → Int32) → (Nat → Int32) → Prop} (h : ∀ a b, Q a b) : wp_C_X4_letOutsideIn wo Q w d := by
  refine ⟨7, ?_⟩
  have key : ∀ (m i : Nat) (a b : Nat → Int32), i ≤ 6 → 6 - i < m → lp_C_X4_letOutsideIn_2 wo Q m a b (nI i) := by
    intro m
    induction m with
    | zero => intro i a b h1 h2; omega
    | succ m ih =>
      intro i a b h1 h2
      refine ⟨fun _ => h _ _, fun c => ?_⟩
      have hi : i < 6 := lt_of (by omega) c
      have hv : vp_in (nI i) 6 := vp_in_nI hi (by omega)
      have st : ∀ x y, bk_C_X4_letOutsideIn_41 wo Q (lp_C_X4_letOutsideIn_2 wo Q m) x y (nI i) := by
        intro x y
        delta bk_C_X4_letOutsideIn_41
        rw [nI_1]
        exact ih (i + 1) x y hi (by omega)
      exact ⟨hv, fun _ => st _ _, fun _ => ⟨hv, hv, st _ _⟩⟩
  exact key 7 1 w d (by omega) (by omega)
theorem s_room {LP : List Nat} {pl : Nat → Int32} {Q : Int32 → Prop} {y : Nat} (h : ∀ r, Q r) : wp_C_X3_room LP pl Q y := ⟨fun _ => h _, fun _ => h _⟩
theorem s_hook {LP : List Nat} {pl : Nat → Int32} {Q : Int32 → Prop} {y : Nat} (h : ∀ r, Q r) : wp_C_X3_hook LP pl Q y := ⟨fun _ => h _, fun _ => h _⟩
theorem s_hangs {LP : List Nat} {pl : Nat → Int32} {Q : Int32 → Prop} {y : Nat} (h : ∀ r, Q r) : wp_C_X3_hangs LP pl Q y := ⟨fun _ => ⟨Or.inl rfl, h _⟩, fun _ => ⟨Or.inr rfl, h _⟩⟩
theorem s_oneIf {Q : Int32 → Prop} {p : Int32} (h : ∀ r, Q r) : wp_C_X7_oneIf Q p := ⟨fun _ => h _, fun _ => h _⟩
theorem s_dry {LP : List Nat} {Q : (Nat → Int32) → Prop} {gw : Nat → Int32} {y : Nat} {p q : Int32} (h : ∀ a, Q a) : wp_C_X3_dry LP Q gw y p q := h _
theorem s_salt {LP : List Nat} {Q : (Nat → Int32) → (Nat → Int32) → Prop} {gw gs : Nat → Int32} {y : Nat} (h : ∀ a b, Q a b) : wp_C_X3_lieInSalt LP Q gw gs y := h _ _
theorem s_gain {LP : List Nat} {gf gs gh gb : Nat → Int32} {Q : (Nat → Int32) → (Nat → Int32) → Prop} {y : Nat} {p : Int32} (h : ∀ a b, Q a b) : wp_C_X3_gainHeat LP gf gs Q gh gb y p := ⟨fun _ => h _ _, fun _ => ⟨fun _ => h _ _, fun _ => h _ _⟩⟩
theorem s_warmthOf {w : Nat → Int32} {Q : Int32 → Prop} {p : Int32} (h : ∀ r, Q r) : wp_C_X4_warmthOf w Q p := ⟨fun _ => h _, fun c => ⟨fun _ => h _, fun c2 => ⟨vin (N := 6) (by decide) c c2, h _⟩⟩⟩
theorem s_dampOf {w : Nat → Int32} {Q : Int32 → Prop} {p : Int32} (h : ∀ r, Q r) : wp_C_X4_dampOf w Q p := ⟨fun _ => h _, fun c => ⟨fun _ => h _, fun c2 => ⟨vin (N := 6) (by decide) c c2, h _⟩⟩⟩
theorem s_keep {LP : List Nat} {w d gf gp gw gs gh gb : Nat → Int32} {Q : (Nat → Int32) → (Nat → Int32) → (Nat → Int32) → (Nat → Int32) → Prop} {y : Nat} (h : ∀ a b c d, Q a b c d) : wp_C_X7_keepForADay LP w d gf gp Q gw gs gh gb y :=
  s_room (fun _ => ⟨fun _ => ⟨fun _ => s_warmthOf (fun _ => s_dampOf (fun _ => s_dry (fun _ => s_gain (fun _ _ => h _ _ _ _)))), fun _ => s_gain (fun _ _ => h _ _ _ _)⟩, fun _ => s_salt (fun _ _ => h _ _ _ _)⟩)
theorem s_passDay {LP : List Nat} {legs : Nat → Option Nat} {wo gf gp gd w d gw gs gh gb : Nat → Int32} {td : Int32} {Q : Int32 → (Nat → Int32) → (Nat → Int32) → (Nat → Int32) → (Nat → Int32) → (Nat → Int32) → (Nat → Int32) → Prop} (hL : hLs LP legs) (h : ∀ a b c d e f, Q (td + 1) a b c d e f) : wp_C_X7_passDay LP legs wo gf gp gd Q td w d gw gs gh gb := by
  refine s_letOut (fun w1 d1 => ⟨61, ?_⟩)
  have key : ∀ (m i : Nat) (a b c e : Nat → Int32), i ≤ 60 → 60 - i < m → lp_C_X7_passDay_27 LP legs wo gf gp gd Q m (td + 1) w1 d1 a b c e 60 (nI i) := by
    intro m
    induction m with
    | zero => intro i a b c e h1 h2; omega
    | succ m ih =>
      intro i a b c e h1 h2
      refine ⟨fun _ => h _ _ _ _ _ _, fun c0 => ?_⟩
      have hi : i < 60 := lt_of (by omega) c0
      have st : ∀ x y z u, bk_C_X7_passDay_56 LP legs wo gf gp gd Q (lp_C_X7_passDay_27 LP legs wo gf gp gd Q m) (td + 1) w1 d1 x y z u 60 (nI i) := by
        intro x y z u
        delta bk_C_X7_passDay_56
        rw [nI_1]
        exact ih (i + 1) x y z u hi (by omega)
      exact ⟨vp_in_nI hi (by omega), fun _ => st _ _ _ _, fun y hy => ⟨hL _ _ hy, fun _ => st _ _ _ _, fun _ => s_keep (fun _ _ _ _ => st _ _ _ _)⟩⟩
  exact key 61 0 _ _ _ _ (by omega) (by omega)
/-- TODAY after n more days, 2000 at last -/
def dY : Nat → Int32 → Int32
  | 0, t => t
  | n + 1, t => if 2000 ≤ t then t else dY n (t + 1)
theorem s_days {LP : List Nat} {legs : Nat → Option Nat} {wo gf gp gd w d gw gs gh gb : Nat → Int32} {td p : Int32} {Q : Int32 → Int32 → (Nat → Int32) → (Nat → Int32) → (Nat → Int32) → (Nat → Int32) → (Nat → Int32) → (Nat → Int32) → Prop} {X : Nat → Int32 → (Nat → Int32) → (Nat → Int32) → (Nat → Int32) → (Nat → Int32) → (Nat → Int32) → (Nat → Int32) → Prop} (hL : hLs LP legs) (hX : ¬ (0 ≤ p ∧ p ≤ 200) → X 2 td w d gw gs gh gb) (h : ∀ k, k ≤ 200 → p = nI k → ∀ a b c d e f, Q (dY k td) (dY k td) a b c d e f) : wp_C_X7_days LP legs wo gf gp gd Q X td w d gw gs gh gb p := by
  refine i_isWithin (fun c => n_1 ?_) (fun c => n_0 (hX c))
  obtain ⟨k, hk, rfl⟩ := nI_of2 (M := 200) (n := 200) (by decide) (fun z => i_nlt.mpr c.1 z) c.2
  refine ⟨k + 1, ?_⟩
  have key : ∀ (m i : Nat) (t : Int32) (a b c e f g : Nat → Int32), i ≤ k → k - i < m → dY (k - i) t = dY k td → lp_C_X7_days_21 LP legs wo gf gp gd Q X m t a b c e f g (nI k) (nI i) := by
    intro m
    induction m with
    | zero => intro i t a b c e f g h1 h2; omega
    | succ m ih =>
      intro i t a b c e f g h1 h2 h3
      refine ⟨fun z => ?_, fun c0 => ⟨fun z => ?_, fun c2 => ?_⟩⟩
      · have q := ge_of (by omega) (by omega) z
        rw [show k - i = 0 by omega, dY] at h3
        rw [h3]
        exact h k hk rfl _ _ _ _ _ _
      · have hi : i < k := lt_of (by omega) c0
        rw [show k - i = (k - (i + 1)) + 1 by omega, dY, if_pos z] at h3
        rw [h3]
        exact h k hk rfl _ _ _ _ _ _
      · have hi : i < k := lt_of (by omega) c0
        rw [show k - i = (k - (i + 1)) + 1 by omega, dY, if_neg c2] at h3
        refine s_passDay hL (fun a b c d e f => ?_)
        rw [nI_1]
        exact ih (i + 1) _ _ _ _ _ _ _ hi (by omega) h3
  exact key (k + 1) 0 td w d gw gs gh gb (by omega) (by omega) rfl
