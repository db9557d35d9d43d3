/-! one rule, and the whole text of rules -/
def aS (c : Nat → Nat) (n i : Nat) : Nat := rn pB c n 400 i
def aE (c : Nat → Nat) (n i : Nat) : Nat := rn pL c n 400 (aS c n i)
def aK (c : Nat → Nat) (n i : Nat) : Nat := kdF c (aS c n i) (aE c n i) 5 0
def aN (c : Nat → Nat) (n i : Nat) : Nat := rn pB c n 400 (aE c n i)
def aV (c : Nat → Nat) (n i : Nat) : Nat × Nat := nmF c n (aN c n i) 400 (aN c n i) 0
def mst (k : Nat) : Nat := ([2000, 100, 99, 3, 15000] : List Nat).getD k 0
/-- a rule read from i on: is it good, where it ends, what is at fault if not -/
def rl (c : Nat → Nat) (n i : Nat) : Bool × Nat × Nat :=
  if aK c n i = 5 then (false, aE c n i, aS c n i)
  else if 1 ≤ (aV c n i).1 - aN c n i ∧ (aV c n i).1 - aN c n i ≤ 5 ∧ (aV c n i).2 ≤ mst (aK c n i) then (true, (aV c n i).1, aN c n i) else (false, (aV c n i).1, aN c n i)
theorem rl_bd {c : Nat → Nat} {n i : Nat} (hi : i ≤ n) : i ≤ aS c n i ∧ aS c n i ≤ aE c n i ∧ aE c n i ≤ aN c n i ∧ aN c n i ≤ (aV c n i).1 ∧ (aV c n i).1 ≤ n := by
  have h1 := rn_bd (P := pB) (c := c) 400 i hi
  have h2 := rn_bd (P := pL) (c := c) 400 (aS c n i) h1.2
  have h3 := rn_bd (P := pB) (c := c) 400 (aE c n i) h2.2
  have h4 := nm_bd (c := c) (s := aN c n i) 400 (aN c n i) 0 h3.2
  exact ⟨h1.1, h2.1, h3.1, h4.1, h4.2⟩
theorem rl_adv {c : Nat → Nat} {n i : Nat} (hi : i ≤ n) (h : (rl c n i).1 = true) : i < (rl c n i).2.1 ∧ (rl c n i).2.1 ≤ n := by
  have hb := rl_bd (c := c) hi
  unfold rl at h ⊢
  split
  · rename_i q
    rw [if_pos q] at h
    exact absurd h Bool.false_ne_true
  · rename_i q
    rw [if_neg q] at h
    split
    · rename_i q2
      constructor
      · show i < (aV c n i).1
        omega
      · exact hb.2.2.2.2
    · rename_i q2
      rw [if_neg q2] at h
      exact absurd h Bool.false_ne_true
theorem rl_le {c : Nat → Nat} {n i : Nat} (hi : i ≤ n) : (rl c n i).2.1 ≤ n := by
  have hb := rl_bd (c := c) hi
  unfold rl
  split
  · show aE c n i ≤ n
    omega
  · split
    · exact hb.2.2.2.2
    · exact hb.2.2.2.2
theorem mst_ok : ∀ k, k < 5 → (([2000, 100, 99, 3, 15000] : List Int32).getD k 0) = nI (mst k) := by decide +kernel
theorem mst_bd : ∀ k, k < 5 → mst k ≤ 99999 := by decide +kernel
theorem s_readRule {n i : Nat} {b num : Nat → Int32} {t w : Int32} {c : Nat → Nat} {Q : Int32 → Int32 → Int32 → Int32 → (Nat → Int32) → Prop} (hn : n ≤ 400) (hi : i ≤ n) (hC : ∀ j, j < 400 → okc (c j) (b j &&& 255)) (h1 : (rl c n i).1 = true → ∀ x, Q 1 (nI (rl c n i).2.1) (t + 1) w x) (h0 : (rl c n i).1 = false → ∀ x, Q 0 (nI (rl c n i).2.1) t (nI (rl c n i).2.2) x) : wp_C_X5_readRule (nI n) b Q (nI i) t w num := by
  have hb := rl_bd (c := c) hi
  have f60 : (rl c n i) = (false, (aV c n i).1, aN c n i) → bk_C_X5_readRule_60 (nI n) b Q (nI (aV c n i).1) t w num (nI (aN c n i)) := by
    intro e
    rw [e] at h0
    exact ⟨Or.inl rfl, Or.inl rfl, h0 rfl _⟩
  delta wp_C_X5_readRule
  refine s_skip hn hi hC (s_readKind hn (by show aS c n i ≤ n; omega) hC (fun e => ⟨fun _ => ?_, fun z => absurd (by decide) z⟩) (fun k hk e => ⟨fun z => absurd z (nI_pos (by omega)), fun _ => ⟨fun _ => ?_, fun z => absurd (nI_lt (b := 5) hk (by omega)) z⟩⟩))
  · have e2 : rl c n i = (false, aE c n i, aS c n i) := if_pos e
    rw [e2] at h0
    exact ⟨Or.inl rfl, Or.inl rfl, h0 rfl _⟩
  · have ek : aK c n i = k := e
    have n5 : ¬ aK c n i = 5 := by omega
    refine s_skip hn (by show aE c n i ≤ n; omega) hC (s_number hn (by show aN c n i ≤ n; omega) hC (fun e v ee g g2 => ?_) (fun e v ee g => ⟨fun _ => ?_, fun z => absurd rfl z⟩))
    · have ev : aV c n i = (e, v) := ee
      have mb := mst_bd k hk
      refine ⟨fun z => absurd z (fun z => nI_m1 (k := v) (by omega) z.symm), fun _ => ⟨vp_in_nI hk (by omega), ?_⟩⟩
      rw [nI_clamp (n := k) (by omega), mst_ok k hk]
      refine ⟨fun z => ⟨vp_in_nI hk (by omega), Or.inr rfl, ?_⟩, fun z => ?_⟩
      · have q := (nI_leI (by omega) (by omega)).mp z
        have e2 : rl c n i = (true, (aV c n i).1, aN c n i) := (if_neg n5).trans (if_pos (by rw [ev, ek]; exact ⟨g.1, g.2, q⟩))
        rw [e2, ev] at h1
        exact h1 rfl _
      · have e2 : rl c n i = (false, (aV c n i).1, aN c n i) := (if_neg n5).trans (if_neg (by rw [ev, ek]; exact fun q => z (nI_le q.2.2 (by omega))))
        have f := f60 e2
        rw [ev] at f
        exact f
    · have ev : aV c n i = (e, v) := ee
      have e2 : rl c n i = (false, (aV c n i).1, aN c n i) := (if_neg n5).trans (if_neg (by rw [ev]; exact fun q => g ⟨q.1, q.2.1⟩))
      have f := f60 e2
      rw [ev] at f
      exact f
/-- the text from i on, t rules told before: is it good, how many rules, what is at fault if not -/
def rd (c : Nat → Nat) (n : Nat) : Nat → Nat → Nat → Bool × Nat × Nat
  | 0, i, t => (false, t, i)
  | m + 1, i, t => if (rl c n i).1 = true then (if rn pB c n 400 (rl c n i).2.1 < n then (if c (rn pB c n 400 (rl c n i).2.1) = 59 then rd c n m (rn pB c n 400 (rl c n i).2.1 + 1) (t + 1) else (false, t + 1, rn pB c n 400 (rl c n i).2.1)) else (true, t + 1, rn pB c n 400 (rl c n i).2.1)) else (false, t, (rl c n i).2.2)
def rdA (c : Nat → Nat) (n : Nat) : Bool × Nat × Nat := rd c n 401 0 0
theorem s_fill5 {Q : (Nat → Int32) → Prop} {num : Nat → Int32} (h : ∀ x, Q x) : wp_C11_J7_fill_53178 Q num 0 := by
  refine ⟨6, ?_⟩
  have key : ∀ (n i : Nat) (x : Nat → Int32), i ≤ 5 → 5 - i < n → lp_C11_J7_fill_53178_5 Q n x 0 (nI i) 5 := by
    intro n
    induction n with
    | zero => intro i x h1 h2; omega
    | succ n ih =>
      intro i x h1 h2
      refine ⟨fun _ => h _, fun c => ?_⟩
      have hi : i < 5 := lt_of (by omega) c
      refine ⟨vp_in_nI hi (by omega), ?_⟩
      rw [nI_1]
      exact ih (i + 1) _ hi (by omega)
  exact key 6 0 _ (by omega) (by omega)
theorem s_read {n : Nat} {b num : Nat → Int32} {a t w : Int32} {c : Nat → Nat} {Q : Int32 → Int32 → Int32 → Int32 → (Nat → Int32) → Prop} (hn : n ≤ 400) (hC : ∀ j, j < 400 → okc (c j) (b j &&& 255)) (h1 : (rdA c n).1 = true → ∀ x y, Q 1 x (nI (rdA c n).2.1) (-1) y) (h0 : (rdA c n).1 = false → ∀ x u y, Q 0 x u (nI (rdA c n).2.2) y) : wp_C_X5_read (nI n) b Q a t w num := by
  refine s_fill5 (fun num => ⟨401, ?_⟩)
  have key : ∀ (m i t v : Nat) (num : Nat → Int32), i ≤ n → n - i < m → v ≤ i → rd c n m i t = rdA c n → lp_C_X5_read_25 (nI n) b Q m (nI i) (nI t) (-1) num (nI v) := by
    intro m
    induction m with
    | zero => intro i t v num g1 g2; omega
    | succ m ih =>
      intro i t v num g1 g2 g3 hq
      rw [rd] at hq
      refine ⟨fun z => absurd z (nI_nlt (a := 400) (by omega) (by omega)), fun _ => s_readRule hn g1 hC (fun e x => n_1 ?_) (fun e x => n_0 ?_)⟩
      · have ha := rl_adv g1 e
        rw [if_pos e] at hq
        have hb := rn_bd (P := pB) (c := c) 400 _ ha.2
        refine s_skip hn ha.2 hC ⟨fun z => ?_, fun z => ⟨Or.inr rfl, ?_⟩⟩
        · have hlt := (nI_ltI (by omega) (by omega)).mp z
          rw [if_pos hlt] at hq
          have ho := okc_eq (k := 59) (hC (rn pB c n 400 (rl c n i).2.1) (by omega)) (by omega) (by omega)
          refine s_byteAt hn hlt ⟨fun w => ?_, fun w => ⟨Or.inl rfl, Or.inl rfl, ?_⟩⟩
          · rw [if_pos (ho.mp w)] at hq
            rw [nI_1, nI_1, nI_1]
            exact ih _ (t + 1) (v + 1) _ (by omega) (by omega) (by omega) hq
          · rw [if_neg (fun q => w (ho.mpr q))] at hq
            rw [← hq] at h0
            exact h0 rfl _ _ _
        · rw [if_neg (fun q => z (nI_lt q (by omega)))] at hq
          rw [← hq] at h1
          rw [nI_1]
          exact h1 rfl _ _
      · rw [if_neg (by rw [e]; decide)] at hq
        rw [← hq] at h0
        exact ⟨Or.inl rfl, h0 rfl _ _ _⟩
  exact key 401 0 0 0 num (Nat.zero_le _) (by omega) (Nat.le_refl _) rfl
theorem s_numberOf {Q : Int32 → Prop} {num : Nat → Int32} {p : Int32} (h : ∀ r, Q r) : wp_C_X5_numberOf num Q p := ⟨fun _ => h _, fun c => ⟨fun _ => h _, fun c2 => ⟨vin (N := 5) (by decide) c c2, h _⟩⟩⟩
theorem s_rules {n : Nat} {b num ask : Nat → Int32} {a t w : Int32} {c : Nat → Nat} {Q : Int32 → Int32 → Int32 → Int32 → Int32 → (Nat → Int32) → (Nat → Int32) → Prop} {X : Nat → Int32 → Int32 → Int32 → Int32 → (Nat → Int32) → (Nat → Int32) → Prop} (hn : n ≤ 400) (hC : ∀ j, j < 400 → okc (c j) (b j &&& 255)) (h1 : (rdA c n).1 = true → ∀ x y z, Q (nI (rdA c n).2.1) 0 x (nI (rdA c n).2.1) (-1) y z) (h0 : (rdA c n).1 = false → ∀ x u y, X 2 0 x u (nI (rdA c n).2.2) y ask) : wp_C_X7_rules b Q X (nI n) a t w num ask := by
  delta wp_C_X7_rules
  refine s_read hn hC (fun e x y => n_1 ⟨6, ?_⟩) (fun e x u y => n_0 (h0 e _ _ _))
  have key : ∀ (m i : Nat) (z : Nat → Int32), i ≤ 5 → 5 - i < m → lp_C_X7_rules_29 b Q X m 0 x (nI (rdA c n).2.1) (-1) y z (nI i) := by
    intro m
    induction m with
    | zero => intro i z g1 g2; omega
    | succ m ih =>
      intro i z g1 g2
      refine ⟨fun _ => h1 e _ _ _, fun q => s_numberOf (fun r => ?_)⟩
      have hi : i < 5 := lt_of (by omega) q
      refine ⟨vp_in_nI hi (by omega), ?_⟩
      rw [nI_1]
      exact ih (i + 1) _ hi (by omega)
  exact key 6 0 _ (by omega) (by omega)
theorem m_readRule {n i : Nat} {t dr : Nat → Int32} {bg : Int32} {c : Nat → Nat} {Q : Int32 → Int32 → Int32 → (Nat → Int32) → Prop} (hn : n ≤ 400) (hi : i ≤ n) (hC : ∀ j, j < 400 → okc (c j) (t j)) (h1 : (rl c n i).1 = true → ∀ x, Q 1 (nI (rl c n i).2.1) (nI (rl c n i).2.2) x) (h0 : (rl c n i).1 = false → ∀ x, Q 0 (nI (rl c n i).2.1) (nI (rl c n i).2.2) x) : wp_M_X8_readRule (nI n) t Q (nI i) bg dr := by
  have hb := rl_bd (c := c) hi
  have num : ∀ k, aK c n i = k → k < 5 → wp_M_X8_number (nI n) t (fun r p b d => o01 r ∧ Q r p b d) (nI (aE c n i)) (nI (aS c n i)) dr (nI k) (nI (mst k)) := by
    intro k ek hk
    have n5 : ¬ aK c n i = 5 := by omega
    refine m_number hn (by omega) hk (mst_bd k hk) hC (fun s e v es ee g d => ⟨Or.inr rfl, ?_⟩) (fun s e v es ee g d => ⟨Or.inl rfl, ?_⟩)
    · have es2 : aN c n i = s := es
      rw [← es2] at ee g ⊢
      have ev : aV c n i = (e, v) := ee
      have e2 : rl c n i = (true, (aV c n i).1, aN c n i) := (if_neg n5).trans (if_pos (by rw [ev, ek]; exact g))
      rw [e2, ev] at h1
      exact h1 rfl _
    · have es2 : aN c n i = s := es
      rw [← es2] at ee g ⊢
      have ev : aV c n i = (e, v) := ee
      have e2 : rl c n i = (false, (aV c n i).1, aN c n i) := (if_neg n5).trans (if_neg (by rw [ev, ek]; exact g))
      rw [e2, ev] at h0
      exact h0 rfl _
  delta wp_M_X8_readRule
  refine m_blanks hn hi hC ⟨401, ?_⟩
  have hS : aS c n i ≤ n := by omega
  have kE : wp_M_X8_isWord (nI (aE c n i)) (nI (aS c n i)) t (fun r_4 => ((r_4 = 0 → wp_M_X8_isWord (nI (aE c n i)) (nI (aS c n i)) t (fun r_6 => ((r_6 = 0 → wp_M_X8_isWord (nI (aE c n i)) (nI (aS c n i)) t (fun r_8 => ((r_8 = 0 → wp_M_X8_isWord (nI (aE c n i)) (nI (aS c n i)) t (fun r_10 => ((r_10 = 0 → wp_M_X8_isWord (nI (aE c n i)) (nI (aS c n i)) t (fun r_12 => ((r_12 = 0 → (o01 0 ∧ Q 0 (nI (aE c n i)) (nI (aS c n i)) dr)) ∧ (¬ (r_12 = 0) → wp_M_X8_number (nI n) t (fun r p b d => ((r = 0 → (o01 0 ∧ Q 0 p b d)) ∧ (¬ (r = 0) → (o01 1 ∧ Q 1 p b d)))) (nI (aE c n i)) (nI (aS c n i)) dr 4 15000))) 4) ∧ (¬ (r_10 = 0) → wp_M_X8_number (nI n) t (fun r p b d => (o01 r ∧ Q r p b d)) (nI (aE c n i)) (nI (aS c n i)) dr 3 3))) 3) ∧ (¬ (r_8 = 0) → wp_M_X8_number (nI n) t (fun r p b d => (o01 r ∧ Q r p b d)) (nI (aE c n i)) (nI (aS c n i)) dr 2 99))) 2) ∧ (¬ (r_6 = 0) → wp_M_X8_number (nI n) t (fun r p b d => (o01 r ∧ Q r p b d)) (nI (aE c n i)) (nI (aS c n i)) dr 1 100))) 1) ∧ (¬ (r_4 = 0) → wp_M_X8_number (nI n) t (fun r p b d => (o01 r ∧ Q r p b d)) (nI (aE c n i)) (nI (aS c n i)) dr 0 2000))) 0 := by
    have ek : aK c n i = kdF c (aS c n i) (aE c n i) 5 0 := rfl
    rw [kdF] at ek
    refine m_isWord (by omega) (by decide) (by omega) hC (fun w => t_1 ?_) (fun w => t_0 ?_)
    · rw [if_pos w] at ek
      exact num 0 ek (by decide)
    rw [if_neg (by rw [w]; decide), kdF] at ek
    refine m_isWord (by omega) (by decide) (by omega) hC (fun w => t_1 ?_) (fun w => t_0 ?_)
    · rw [if_pos w] at ek
      exact num 1 ek (by decide)
    rw [if_neg (by rw [w]; decide), kdF] at ek
    refine m_isWord (by omega) (by decide) (by omega) hC (fun w => t_1 ?_) (fun w => t_0 ?_)
    · rw [if_pos w] at ek
      exact num 2 ek (by decide)
    rw [if_neg (by rw [w]; decide), kdF] at ek
    refine m_isWord (by omega) (by decide) (by omega) hC (fun w => t_1 ?_) (fun w => t_0 ?_)
    · rw [if_pos w] at ek
      exact num 3 ek (by decide)
    rw [if_neg (by rw [w]; decide), kdF] at ek
    refine m_isWord (by omega) (by decide) (by omega) hC (fun w => t_1 ?_) (fun w => t_0 ⟨Or.inl rfl, ?_⟩)
    · rw [if_pos w] at ek
      have n5 : ¬ aK c n i = 5 := by omega
      refine m_number (k := 4) (M := 15000) hn (by omega) (by decide) (by decide) hC (fun s e v es ee g d => t_1 ⟨Or.inr rfl, ?_⟩) (fun s e v es ee g d => t_0 ⟨Or.inl rfl, ?_⟩)
      · have es2 : aN c n i = s := es
        rw [← es2] at ee g ⊢
        have ev : aV c n i = (e, v) := ee
        have e2 : rl c n i = (true, (aV c n i).1, aN c n i) := (if_neg n5).trans (if_pos (by rw [ev, ek]; exact g))
        rw [e2, ev] at h1
        exact h1 rfl _
      · have es2 : aN c n i = s := es
        rw [← es2] at ee g ⊢
        have ev : aV c n i = (e, v) := ee
        have e2 : rl c n i = (false, (aV c n i).1, aN c n i) := (if_neg n5).trans (if_neg (by rw [ev, ek]; exact g))
        rw [e2, ev] at h0
        exact h0 rfl _
    · rw [if_neg (by rw [w]; decide), kdF] at ek
      have e2 : rl c n i = (false, aE c n i, aS c n i) := if_pos ek
      rw [e2] at h0
      exact h0 rfl _
  have key : ∀ (m e : Nat), aS c n i ≤ e → e ≤ n → n - e ≤ m → rn pL c n m e = aE c n i → lp_M_X8_readRule_4 (nI n) t Q (m + 1) (nI e) (nI (aS c n i)) dr := by
    intro m
    induction m with
    | zero =>
      intro e g0 g1 g2 hq
      rw [lp_M_X8_readRule_4]
      refine m_isAt (lo := 97) (hi := 122) hn g1 hC (by omega) (by omega) (by omega) (fun z _ => absurd z (by omega)) (fun _ => t_0 ?_)
      have e2 : e = aE c n i := hq
      rw [e2]
      exact kE
    | succ m ih =>
      intro e g0 g1 g2 hq
      rw [lp_M_X8_readRule_4]
      refine m_isAt (lo := 97) (hi := 122) hn g1 hC (by omega) (by omega) (by omega) (fun hi hd => t_1 ?_) (fun z => t_0 ?_)
      · rw [rn_in hi (decide_eq_true hd)] at hq
        rw [nI_1]
        exact ih (e + 1) (by omega) hi (by omega) hq
      · rw [rn_out (fun w => z ⟨w.1, of_decide_eq_true w.2⟩)] at hq
        rw [hq]
        exact kE
  exact key 400 (aS c n i) (Nat.le_refl _) hS (by omega) rfl
theorem m_rules {n : Nat} {t rr dr : Nat → Int32} {th pt en bg fa : Int32} {c : Nat → Nat} {Q : Int32 → Int32 → Int32 → Int32 → Int32 → Int32 → Int32 → (Nat → Int32) → (Nat → Int32) → Prop} (hn : n ≤ 400) (hC : ∀ j, j < 400 → okc (c j) (t j)) (h1 : (rdA c n).1 = true → ∀ a b d x y, Q (nI (rdA c n).2.1) 0 0 a b d (-1) x y) (h0 : (rdA c n).1 = false → ∀ a b d x y, Q 0 1 0 a b d (nI (rdA c n).2.2) x y) : wp_M_X8_rules t Q th (nI n) pt en bg fa rr dr := by
  have kC : ∀ (m i : Nat) (pt bg : Int32) (x y : Nat → Int32), i ≤ 5 → 5 - i < m → (rdA c n).1 = true → lp_M_X8_rules_146 t Q m 0 0 pt (nI n) bg (-1) x y (nI (rdA c n).2.1) (nI i) := by
    intro m
    induction m with
    | zero => intro i pt bg x y g1 g2; omega
    | succ m ih =>
      intro i pt bg x y g1 g2 e
      refine ⟨fun _ => h1 e _ _ _ _ _, fun q => ?_⟩
      have hi : i < 5 := lt_of (by omega) q
      refine ⟨vp_in_nI hi (by omega), vp_in_nI hi (by omega), ?_⟩
      rw [nI_1]
      exact ih (i + 1) _ _ _ _ hi (by omega) e
  have good : ∀ (pt bg fa : Int32) (x y : Nat → Int32), (rdA c n).1 = true → bk_M_X8_rules_109 t Q 0 0 pt (nI n) bg fa x y (nI (rdA c n).2.1) 1 := by
    intro pt bg fa x y e
    delta bk_M_X8_rules_109 bk_M_X8_rules_122 bk_M_X8_rules_135
    exact t_1 (n_1 (i_throwsIf0 (t_0 ⟨6, kC 6 0 _ _ _ _ (by omega) (by omega) e⟩)))
  have bad : ∀ (pt fa v : Int32) (x y : Nat → Int32), (rdA c n).1 = false → bk_M_X8_rules_109 t Q 0 0 pt (nI n) (nI (rdA c n).2.2) fa x y v 0 := by
    intro pt fa v x y e
    delta bk_M_X8_rules_109 bk_M_X8_rules_122 bk_M_X8_rules_135
    exact t_0 (n_0 (i_throwsIf1 (t_1 (h0 e _ _ _ _ _))))
  have key : ∀ (m i t9 : Nat) (fa : Int32) (x y : Nat → Int32), i ≤ n → n - i < m → rd c n m i t9 = rdA c n → ∀ r : Int32, ((rl c n i).1 = true ∧ r = 1) ∨ ((rl c n i).1 = false ∧ r = 0) → lp_M_X8_rules_50 t Q m 0 0 (nI (rl c n i).2.1) (nI n) (nI (rl c n i).2.2) fa x y (nI t9) r := by
    intro m
    induction m with
    | zero => intro i t9 fa x y g1 g2; omega
    | succ m ih =>
      intro i t9 fa x y g1 g2 hq r hr
      rw [rd] at hq
      rcases hr with ⟨e, rfl⟩ | ⟨e, rfl⟩
      · have ha := rl_adv g1 e
        rw [if_pos e] at hq
        have hb := rn_bd (P := pB) (c := c) 400 _ ha.2
        refine ⟨fun z => absurd z (by decide), fun _ => m_blanks hn ha.2 hC ⟨fun z => ?_, fun z => ?_⟩⟩
        · have hlt : rn pB c n 400 (rl c n i).2.1 < n := by
            rcases Nat.lt_or_ge (rn pB c n 400 (rl c n i).2.1) n with q | q
            · exact q
            · exact absurd (show nI (rn pB c n 400 (rl c n i).2.1) = nI n by rw [show rn pB c n 400 (rl c n i).2.1 = n by omega]) z
          rw [if_pos hlt] at hq
          refine m_isAt (lo := 59) (hi := 59) hn hb.2 hC (by omega) (by omega) (by omega) (fun z w => n_1 ?_) (fun z => n_0 ?_)
          · rw [if_pos (show c (rn pB c n 400 (rl c n i).2.1) = 59 by omega)] at hq
            rw [nI_1, nI_1]
            exact m_readRule hn hlt hC (fun e2 x => ih _ (t9 + 1) _ _ _ hlt (by omega) hq _ (Or.inl ⟨e2, rfl⟩)) (fun e2 x => ih _ (t9 + 1) _ _ _ hlt (by omega) hq _ (Or.inr ⟨e2, rfl⟩))
          · rw [if_neg (fun w => z ⟨hlt, by omega⟩)] at hq
            have hB := bad (nI (rn pB c n 400 (rl c n i).2.1)) fa (nI t9 + 1) x y
            rw [← hq] at hB
            exact hB rfl
        · have hge : ¬ rn pB c n 400 (rl c n i).2.1 < n := by
            have := (nI_eq (by omega) (by omega)).mp z
            omega
          rw [if_neg hge] at hq
          have hG := good (nI (rn pB c n 400 (rl c n i).2.1)) (nI (rn pB c n 400 (rl c n i).2.1)) fa x y
          rw [← hq] at hG
          rw [nI_1]
          exact hG rfl
      · rw [if_neg (by rw [e]; decide)] at hq
        have hB := bad (nI (rl c n i).2.1) fa (nI t9) x y
        rw [← hq] at hB
        exact ⟨fun _ => hB rfl, fun z => absurd rfl z⟩
  delta wp_M_X8_rules
  refine ⟨6, ?_⟩
  have k25 : ∀ (m i : Nat) (x : Nat → Int32), i ≤ 5 → 5 - i < m → lp_M_X8_rules_25 t Q m 0 0 0 (nI n) bg fa rr x (nI i) := by
    intro m
    induction m with
    | zero => intro i x g1 g2; omega
    | succ m ih =>
      intro i x g1 g2
      refine ⟨fun _ => m_readRule (i := 0) hn (Nat.zero_le _) hC (fun e x => ⟨401, key 401 0 0 _ _ _ (Nat.zero_le _) (by omega) rfl _ (Or.inl ⟨e, rfl⟩)⟩) (fun e x => ⟨401, key 401 0 0 _ _ _ (Nat.zero_le _) (by omega) rfl _ (Or.inr ⟨e, rfl⟩)⟩), fun q => ?_⟩
      have hi : i < 5 := lt_of (by omega) q
      refine ⟨vp_in_nI hi (by omega), ?_⟩
      rw [nI_1]
      exact ih (i + 1) _ hi (by omega)
  exact k25 6 0 _ (by omega) (by omega)
/-- the two sides' bytes of one tape -/
def isB (x : Int32) : Prop := ∃ z : Int8, x = z.toInt32
theorem okc_both : ∀ z : Int8, ∀ c, okc c z.toInt32 → okc c (z.toInt32 &&& 255) := by
  have h : ∀ j, j < 256 → ((Int8.ofNat j).toInt32 ≤ 0 ∨ 127 < (Int8.ofNat j).toInt32) → ((Int8.ofNat j).toInt32 &&& 255) ≤ 0 ∨ 127 < ((Int8.ofNat j).toInt32 &&& 255) := by decide +kernel
  have h2 : ∀ j, 1 ≤ j → j ≤ 127 → nI j &&& 255 = nI j := by
    have : ∀ j, j < 128 → nI j &&& 255 = nI j := by decide +kernel
    exact fun j _ q => this j (by omega)
  intro z c hc
  have hz : ∃ j, j < 256 ∧ z = Int8.ofNat j := by
    rcases z with ⟨⟨bv⟩⟩
    refine ⟨bv.toNat, bv.isLt, ?_⟩
    show (⟨⟨bv⟩⟩ : Int8) = ⟨⟨BitVec.ofNat 8 bv.toNat⟩⟩
    rw [BitVec.ofNat_toNat, BitVec.setWidth_eq]
  obtain ⟨j, hj, rfl⟩ := hz
  rcases hc with ⟨g1, g2, g3⟩ | ⟨g1, g2⟩
  · exact Or.inl ⟨g1, g2, by rw [g3]; exact h2 c g1 g2⟩
  · exact Or.inr ⟨g1, h j hj g2⟩
theorem okc_fn (b : Nat → Int32) : ∃ c : Nat → Nat, ∀ j, j < 400 → okc (c j) (b j) := ⟨fun j => Classical.choose (okc_any (b j)), fun j _ => Classical.choose_spec (okc_any (b j))⟩
