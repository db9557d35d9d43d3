theorem f_legsOfPig {LP : List Nat} {g : Nat → Int32} {Q : Int32 → Prop} {p : Int32} (h : Q 0) : wp_C_X7_legsOfPig LP (fun _ => none) g Q p := by
  refine ⟨61, ?_⟩
  have key : ∀ (n i : Nat), i ≤ 60 → 60 - i < n → lp_C_X7_legsOfPig_14 LP (fun _ => none) g Q n p 0 60 (nI i) := by
    intro n
    induction n with
    | zero => intro i h1 h2; omega
    | succ n ih =>
      intro i h1 h2
      refine ⟨fun _ => h, fun c => ?_⟩
      have hi : i < 60 := by
        rcases Nat.lt_or_ge i 60 with q | q
        · exact q
        · exact absurd (nI_le (a := 60) q (by omega)) c
      refine ⟨vp_in_nI hi (by omega), fun _ => ?_, fun y hy => by cases hy⟩
      show lp_C_X7_legsOfPig_14 LP (fun _ => none) g Q n p 0 60 (nI i + 1)
      rw [nI_1]
      exact ih (i + 1) hi (by omega)
  exact key 61 0 (by omega) (by omega)
theorem f_undoSeals {LP : List Nat} {td ft : Int32} {fa ff fw fo ga gb gf gs g : Nat → Int32} {Q : Int32 → (Nat → Int32) → Prop} (h : Q 0 g) : wp_C_X7_undoSeals LP td (fun _ => none) ft fa ff fw fo ga gb gf gs Q g := by
  refine ⟨61, ?_⟩
  have key : ∀ (n i : Nat), i ≤ 60 → 60 - i < n → lp_C_X7_undoSeals_13 LP td (fun _ => none) ft fa ff fw fo ga gb gf gs Q n g 0 60 (nI i) := by
    intro n
    induction n with
    | zero => intro i h1 h2; omega
    | succ n ih =>
      intro i h1 h2
      refine ⟨fun _ => h, fun c => ?_⟩
      have hi : i < 60 := by
        rcases Nat.lt_or_ge i 60 with q | q
        · exact q
        · exact absurd (nI_le (a := 60) q (by omega)) c
      refine ⟨vp_in_nI hi (by omega), fun _ => ?_, fun y hy => by cases hy⟩
      show lp_C_X7_undoSeals_13 LP td (fun _ => none) ft fa ff fw fo ga gb gf gs Q n g 0 60 (nI i + 1)
      rw [nI_1]
      exact ih (i + 1) hi (by omega)
  exact key 61 0 (by omega) (by omega)
theorem f_sumOfLegs {LP : List Nat} {gw gp gt gs gb gd : Nat → Int32} {Q : Int32 → Prop} {p : Int32} (h : Q 0) : wp_C_X7_sumOfLegs LP (fun _ => none) gw gp gt gs gb gd Q p := by
  refine ⟨61, ?_⟩
  have key : ∀ (n i : Nat), i ≤ 60 → 60 - i < n → lp_C_X7_sumOfLegs_14 LP (fun _ => none) gw gp gt gs gb gd Q n p 0 60 (nI i) := by
    intro n
    induction n with
    | zero => intro i h1 h2; omega
    | succ n ih =>
      intro i h1 h2
      refine ⟨fun _ => h, fun c => ?_⟩
      have hi : i < 60 := by
        rcases Nat.lt_or_ge i 60 with q | q
        · exact q
        · exact absurd (nI_le (a := 60) q (by omega)) c
      refine ⟨vp_in_nI hi (by omega), fun _ => ?_, fun y hy => by cases hy⟩
      show lp_C_X7_sumOfLegs_14 LP (fun _ => none) gw gp gt gs gb gd Q n p 0 60 (nI i + 1)
      rw [nI_1]
      exact ih (i + 1) hi (by omega)
  exact key 61 0 (by omega) (by omega)
theorem f_movesLoop {LP : List Nat} {hung : Nat → Option Nat} {gp g : Nat → Int32} {Q : Int32 → (Nat → Int32) → Prop} {v : Int32} (h : Q v g) : ∃ n, lp_C_X7_moves_19 LP (fun _ => none) hung gp Q n g v 60 0 := by
  refine ⟨61, ?_⟩
  have key : ∀ (n i : Nat), i ≤ 60 → 60 - i < n → lp_C_X7_moves_19 LP (fun _ => none) hung gp Q n g v 60 (nI i) := by
    intro n
    induction n with
    | zero => intro i h1 h2; omega
    | succ n ih =>
      intro i h1 h2
      refine ⟨fun _ => h, fun c => ?_⟩
      have hi : i < 60 := by
        rcases Nat.lt_or_ge i 60 with q | q
        · exact q
        · exact absurd (nI_le (a := 60) q (by omega)) c
      refine ⟨vp_in_nI hi (by omega), fun _ => ?_, fun y hy => by cases hy⟩
      show lp_C_X7_moves_19 LP (fun _ => none) hung gp Q n g v 60 (nI i + 1)
      rw [nI_1]
      exact ih (i + 1) hi (by omega)
  exact key 61 0 (by omega) (by omega)
theorem f_leastMoves {LP : List Nat} {gp gt : Nat → Int32} {Q : Int32 → Prop} (h : Q 0) : wp_C_X2_leastMoves LP (fun _ => none) gp gt Q := by
  refine ⟨51, ?_⟩
  have key : ∀ (n i : Nat) (v : Int32), i ≤ 60 → 60 - i < n → lp_C_X2_leastMoves_10 LP (fun _ => none) gp gt Q n 0 0 v (nI i) := by
    intro n
    induction n with
    | zero => intro i v h1 h2; omega
    | succ n ih =>
      intro i v h1 h2
      refine ⟨fun _ => ⟨fun _ => h, fun c => absurd (by decide) c⟩, fun c => ?_⟩
      have hi : i < 60 := by
        rcases Nat.lt_or_ge i 60 with q | q
        · exact q
        · exact absurd (nI_le (a := 60) q (by omega)) c
      refine ⟨vp_in_nI hi (by omega), fun _ => ?_, fun y hy => by cases hy⟩
      show lp_C_X2_leastMoves_10 LP (fun _ => none) gp gt Q n 0 0 (v + 1) (nI i + 1)
      rw [nI_1]
      exact ih (i + 1) (v + 1) hi (by omega)
  exact key 51 10 0 (by omega) (by omega)
theorem f_moves {LP : List Nat} {gp g : Nat → Int32} {Q : Int32 → (Nat → Int32) → Prop} (h : Q 0 g) : wp_C_X7_moves LP (fun _ => none) (fun _ => none) gp Q g := f_leastMoves (f_movesLoop h)
theorem f_letOut {Q : (Nat → Int32) → (Nat → Int32) → Prop} {w d : Nat → Int32} (h : Q w d) : wp_C_X4_letOutsideIn (fun _ => 0) Q w d := by
  refine ⟨6, ?_⟩
  have key : ∀ (n i : Nat), i ≤ 6 → 6 - i < n → lp_C_X4_letOutsideIn_2 (fun _ => 0) Q n w d (nI i) := by
    intro n
    induction n with
    | zero => intro i h1 h2; omega
    | succ n ih =>
      intro i h1 h2
      refine ⟨fun _ => h, fun c => ?_⟩
      have hi : i < 6 := by
        rcases Nat.lt_or_ge i 6 with q | q
        · exact q
        · exact absurd (nI_le (a := 6) q (by omega)) c
      refine ⟨vp_in_nI hi (by omega), fun _ => ?_, fun c => absurd rfl c⟩
      show lp_C_X4_letOutsideIn_2 (fun _ => 0) Q n w d (nI i + 1)
      rw [nI_1]
      exact ih (i + 1) hi (by omega)
  exact key 6 1 (by omega) (by omega)
theorem f_find {fa ff fw fo : Nat → Int32} {Q : Int32 → Prop} {a b c : Int32} (h : Q 0) : wp_C_X1_find 0 fa ff fw fo Q a b c := ⟨1, fun _ => h, fun z => absurd (by decide) z⟩
theorem f_legAt {LP : List Nat} {Q : Option Nat → Prop} {p : Int32} (h : Q none) : wp_C_X2_legAt LP (fun _ => none) Q p := by
  refine ⟨fun _ => h, fun c => ⟨fun _ => h, fun c2 => ⟨?_, fun _ => h, fun y hy => by cases hy⟩⟩⟩
  intro z
  rcases z with z | z
  · exact c z
  · obtain ⟨j, hj, rfl⟩ := nI_of c
    rw [nI_clamp hj] at z
    exact c2 (nI_le z (by omega))
theorem f_passDay {LP : List Nat} {gf gp gs gw ga gh gb w d : Nat → Int32} {Q : Int32 → (Nat → Int32) → (Nat → Int32) → (Nat → Int32) → (Nat → Int32) → (Nat → Int32) → (Nat → Int32) → Prop} {td : Int32} (h : Q (td + 1) w d gw ga gh gb) : wp_C_X7_passDay LP (fun _ => none) (fun _ => 0) gf gp gs Q td w d gw ga gh gb := by
  refine f_letOut ⟨61, ?_⟩
  have key : ∀ (n i : Nat), i ≤ 60 → 60 - i < n → lp_C_X7_passDay_27 LP (fun _ => none) (fun _ => 0) gf gp gs Q n (td + 1) w d gw ga gh gb 60 (nI i) := by
    intro n
    induction n with
    | zero => intro i h1 h2; omega
    | succ n ih =>
      intro i h1 h2
      refine ⟨fun _ => h, fun c => ?_⟩
      have hi : i < 60 := by
        rcases Nat.lt_or_ge i 60 with q | q
        · exact q
        · exact absurd (nI_le (a := 60) q (by omega)) c
      refine ⟨vp_in_nI hi (by omega), fun _ => ?_, fun y hy => by cases hy⟩
      show lp_C_X7_passDay_27 LP (fun _ => none) (fun _ => 0) gf gp gs Q n (td + 1) w d gw ga gh gb 60 (nI i + 1)
      rw [nI_1]
      exact ih (i + 1) hi (by omega)
  exact key 61 0 (by omega) (by omega)
theorem f_days {LP : List Nat} {gf gp gs gw ga gh gb w d : Nat → Int32} {Q : Int32 → Int32 → (Nat → Int32) → (Nat → Int32) → (Nat → Int32) → (Nat → Int32) → (Nat → Int32) → (Nat → Int32) → Prop} {X : Nat → Int32 → (Nat → Int32) → (Nat → Int32) → (Nat → Int32) → (Nat → Int32) → (Nat → Int32) → (Nat → Int32) → Prop} {n : Int32} (h1 : ∀ k : Nat, k ≤ 200 → n = nI k → Q (nI k) (nI k) w d gw ga gh gb) (h0 : ¬ (0 ≤ n ∧ n ≤ 200) → X 2 0 w d gw ga gh gb) : wp_C_X7_days LP (fun _ => none) (fun _ => 0) gf gp gs Q X 0 w d gw ga gh gb n := by
  refine i_isWithin (fun c => n_1 ?_) (fun c => n_0 (h0 c))
  obtain ⟨k, hk, rfl⟩ := nI_of2 (M := 200) (n := 200) (by decide) (i_nlt.mpr c.1) c.2
  refine ⟨k + 1, ?_⟩
  have key : ∀ (n i : Nat), i ≤ k → k - i < n → lp_C_X7_days_21 LP (fun _ => none) (fun _ => 0) gf gp gs Q X n (nI i) w d gw ga gh gb (nI k) (nI i) := by
    intro n
    induction n with
    | zero => intro i h1 h2; omega
    | succ n ih =>
      intro i h1' h2
      refine ⟨fun c1 => ?_, fun c1 => ⟨fun c2 => absurd c2 (nI_ge (b := 2000) (by omega) (by omega)), fun _ => f_passDay ?_⟩⟩
      · have hi : i = k := by
          rcases Nat.lt_or_ge i k with q | q
          · exact absurd c1 (nI_ge q (by omega))
          · omega
        subst hi
        exact h1 i hk rfl
      · have hi : i < k := by
          rcases Nat.lt_or_ge i k with q | q
          · exact q
          · exact absurd (nI_le q (by omega)) c1
        show lp_C_X7_days_21 LP (fun _ => none) (fun _ => 0) gf gp gs Q X n (nI i + 1) w d gw ga gh gb (nI k) (nI i + 1)
        rw [nI_1]
        exact ih (i + 1) hi (by omega)
  exact key (k + 1) 0 (by omega) (by omega)
