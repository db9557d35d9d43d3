/-! the two readers of rules: both find what the text says -/
/-- c is the plain character's code, 0 where the byte is none -/
def okc (c : Nat) (x : Int32) : Prop := (1 ≤ c ∧ c ≤ 127 ∧ x = nI c) ∨ (c = 0 ∧ (x ≤ 0 ∨ 127 < x))
theorem okc_int {c : Nat} {x : Int32} (h : okc c x) : (1 ≤ c ∧ c ≤ 127 ∧ x.toInt = c) ∨ (c = 0 ∧ (x.toInt ≤ 0 ∨ 127 < x.toInt)) := by
  rcases h with ⟨h1, h2, rfl⟩ | ⟨h1, h2⟩
  · exact Or.inl ⟨h1, h2, nI_toInt (by omega)⟩
  · refine Or.inr ⟨h1, ?_⟩
    rcases h2 with h2 | h2
    · have q0 : (0 : Int32).toInt = 0 := by decide
      have := Int32.le_iff_toInt_le.mp h2
      rw [q0] at this
      exact Or.inl this
    · have q0 : (127 : Int32).toInt = 127 := by decide
      have := Int32.lt_iff_toInt_lt.mp h2
      rw [q0] at this
      exact Or.inr this
theorem okc_eq {c k : Nat} {x : Int32} (h : okc c x) (h1 : 1 ≤ k) (h2 : k ≤ 127) : x = nI k ↔ c = k := by
  have e := okc_int h
  have ek : (nI k).toInt = k := nI_toInt (by omega)
  constructor
  · intro z
    rw [z, ek] at e
    omega
  · intro z
    apply Int32.toInt_inj.mp
    rw [ek]
    omega
theorem okc_in {c lo hi : Nat} {x : Int32} (h : okc c x) (h1 : 1 ≤ lo) (h2 : hi ≤ 127) (h3 : lo ≤ hi) : (nI lo ≤ x ∧ x ≤ nI hi) ↔ (lo ≤ c ∧ c ≤ hi) := by
  have e := okc_int h
  have e1 : (nI lo).toInt = lo := nI_toInt (by omega)
  have e2 : (nI hi).toInt = hi := nI_toInt (by omega)
  rw [Int32.le_iff_toInt_le, Int32.le_iff_toInt_le, e1, e2]
  omega
theorem okc_any (x : Int32) : ∃ c, okc c x := by
  by_cases h : x ≤ 0
  · exact ⟨0, Or.inr ⟨rfl, Or.inl h⟩⟩
  · by_cases h2 : x ≤ 127
    · obtain ⟨j, hj, rfl⟩ := nI_of2 (x := x) (M := 127) (n := 127) (by decide) (fun z => h (Int32.le_of_lt z)) h2
      refine ⟨j, Or.inl ⟨?_, hj, rfl⟩⟩
      rcases Nat.eq_zero_or_pos j with q | q
      · rw [q] at h; exact absurd (by decide) h
      · exact q
    · exact ⟨0, Or.inr ⟨rfl, Or.inr (i_nle.mp h2)⟩⟩
/-- on from i while P -/
def rn (P : Nat → Bool) (c : Nat → Nat) (n : Nat) : Nat → Nat → Nat
  | 0, i => i
  | m + 1, i => if i < n ∧ P (c i) = true then rn P c n m (i + 1) else i
theorem rn_out {P : Nat → Bool} {c : Nat → Nat} {n i : Nat} (h : ¬ (i < n ∧ P (c i) = true)) : ∀ m, rn P c n m i = i
  | 0 => rfl
  | m + 1 => if_neg h
theorem rn_in {P : Nat → Bool} {c : Nat → Nat} {n i m : Nat} (h : i < n) (h2 : P (c i) = true) : rn P c n (m + 1) i = rn P c n m (i + 1) := if_pos ⟨h, h2⟩
theorem rn_bd {P : Nat → Bool} {c : Nat → Nat} {n : Nat} : ∀ m i, i ≤ n → i ≤ rn P c n m i ∧ rn P c n m i ≤ n
  | 0, i, h => ⟨Nat.le_refl _, h⟩
  | m + 1, i, h => by
    rw [rn]
    split
    · rename_i q
      have := rn_bd (P := P) (c := c) m (i + 1) q.1
      omega
    · exact ⟨Nat.le_refl _, h⟩
def pB (x : Nat) : Bool := decide (x = 32)
def pL (x : Nat) : Bool := decide (97 ≤ x ∧ x ≤ 122)
def pD (x : Nat) : Bool := decide (48 ≤ x ∧ x ≤ 57)
theorem s_byteAt {n i : Nat} {b : Nat → Int32} {Q : Int32 → Prop} (hn : n ≤ 400) (hi : i < n) (h : Q (b i &&& 255)) : wp_C_X6_byteAt (nI n) b Q (nI i) :=
  ⟨fun c => absurd c (nI_pos (by omega)), fun _ => ⟨fun c => absurd c (nI_ge hi (by omega)), fun _ => ⟨fun c => absurd c (nI_ge (b := 400) (by omega) (by omega)), fun _ => ⟨vp_in_nI (by omega) (by omega), by rw [nI_clamp (n := i) (by omega)]; exact h⟩⟩⟩⟩
theorem s_skip {n i : Nat} {b : Nat → Int32} {c : Nat → Nat} {Q : Int32 → Prop} (hn : n ≤ 400) (hi : i ≤ n) (hC : ∀ j, j < 400 → okc (c j) (b j &&& 255)) (h : Q (nI (rn pB c n 400 i))) : wp_C_X5_skipBlanks (nI n) b Q (nI i) := by
  refine ⟨401, ?_⟩
  have key : ∀ (m i : Nat), i ≤ n → n - i ≤ m → Q (nI (rn pB c n m i)) → lp_C_X5_skipBlanks_0 (nI n) b Q (m + 1) (nI i) := by
    intro m
    induction m with
    | zero =>
      intro i h1 h2 hq
      exact ⟨fun _ => hq, fun z => absurd (nI_le (a := n) (b := i) (by omega) (by omega)) z⟩
    | succ m ih =>
      intro i h1 h2 hq
      refine ⟨fun z => ?_, fun z => ?_⟩
      · have := ge_of (N := n) (i := i) (by omega) (by omega) z
        rw [rn_out (fun z => by omega)] at hq
        exact hq
      · have hi : i < n := lt_of (by omega) z
        have ho := okc_eq (k := 32) (hC i (by omega)) (by omega) (by omega)
        refine s_byteAt hn hi ⟨fun e => ?_, fun e => ?_⟩
        · rw [rn_out (fun z => e (ho.mpr (of_decide_eq_true z.2)))] at hq
          exact hq
        · rw [nI_1]
          rw [rn_in hi (decide_eq_true (ho.mp e))] at hq
          exact ih (i + 1) hi (by omega) hq
  exact key 400 i hi (by omega) h
theorem m_isAt {n i lo hi : Nat} {t : Nat → Int32} {c : Nat → Nat} {Q : Int32 → Prop} (hn : n ≤ 400) (hi9 : i ≤ n) (hC : ∀ j, j < 400 → okc (c j) (t j)) (h1 : 1 ≤ lo) (h2 : hi ≤ 127) (h3 : lo ≤ hi) (hy : i < n → lo ≤ c i ∧ c i ≤ hi → Q 1) (hz : ¬ (i < n ∧ (lo ≤ c i ∧ c i ≤ hi)) → Q 0) : wp_M_X8_isAt (nI i) (nI n) t Q (nI lo) (nI hi) := by
  refine ⟨fun z => ⟨Or.inl rfl, hz (fun q => nI_ge q.1 (by omega) z)⟩, fun z => ?_⟩
  have hi : i < n := lt_of (by omega) z
  have hv : vp_in (nI i) 400 := vp_in_nI (by omega) (by omega)
  have ho := okc_in (hC i (by omega)) h1 h2 h3
  rw [nI_clamp (n := i) (by omega)]
  exact ⟨hv, fun q => ⟨Or.inl rfl, hz (fun w => i_nlt.mpr (ho.mpr w.2).1 q)⟩, fun q => ⟨hv, fun q2 => ⟨Or.inl rfl, hz (fun w => i_nlt.mpr (ho.mpr w.2).2 q2)⟩, fun q2 => ⟨Or.inr rfl, hy hi (ho.mp ⟨i_nlt.mp q, i_nlt.mp q2⟩)⟩⟩⟩
theorem m_blanks {n i : Nat} {t : Nat → Int32} {c : Nat → Nat} {bg : Int32} {Q : Int32 → Int32 → Prop} (hn : n ≤ 400) (hi : i ≤ n) (hC : ∀ j, j < 400 → okc (c j) (t j)) (h : Q (nI (rn pB c n 400 i)) (nI (rn pB c n 400 i))) : wp_M_X8_blanks (nI n) t Q (nI i) bg := by
  refine ⟨401, ?_⟩
  have key : ∀ (m i : Nat), i ≤ n → n - i ≤ m → Q (nI (rn pB c n m i)) (nI (rn pB c n m i)) → lp_M_X8_blanks_0 (nI n) t Q (m + 1) (nI i) bg := by
    intro m
    induction m with
    | zero =>
      intro i h1 h2 hq
      rw [lp_M_X8_blanks_0]
      exact m_isAt (lo := 32) (hi := 32) hn h1 hC (by omega) (by omega) (by omega) (fun z _ => absurd z (by omega)) (fun _ => t_0 hq)
    | succ m ih =>
      intro i h1 h2 hq
      rw [lp_M_X8_blanks_0]
      refine m_isAt (lo := 32) (hi := 32) hn h1 hC (by omega) (by omega) (by omega) (fun z w => t_1 ?_) (fun z => t_0 ?_)
      · rw [nI_1]
        rw [rn_in z (decide_eq_true (show c i = 32 by omega))] at hq
        exact ih (i + 1) z (by omega) hq
      · rw [rn_out (fun w => z ⟨w.1, by have := of_decide_eq_true w.2; omega⟩)] at hq
        exact hq
  exact key 400 i hi (by omega) h
theorem nI_sub {a b : Nat} (h : b ≤ a) : nI a - nI b = nI (a - b) := (Int32.ofNat_sub a b h).symm
def kch (y j : Nat) : Nat := (([[100, 97, 121, 115], [108, 111, 115, 115], [115, 97, 108, 116], [102, 101, 101, 100], [119, 101, 105, 103, 104, 116]] : List (List Nat)).getD y []).getD j 0
theorem kch_bd : ∀ y, y < 5 → ∀ j, j < kLen.getD y 0 → 1 ≤ kch y j ∧ kch y j ≤ 127 := by decide +kernel
theorem kch_ok : ∀ y, y < 5 → ∀ j, j < kLen.getD y 0 → ((((kByt.getD y []).getD j 0) &&& 255).toUInt32 % 65536).toInt32 = nI (kch y j) := by decide +kernel
theorem kch_nr : ∀ y, y < 5 → ∀ j, j < kLen.getD y 0 → (nI (kch y j)).toUInt32.toUInt16.toUInt32.toInt32 = nI (kch y j) := by decide +kernel
theorem kl_bd : ∀ y, y < 5 → 1 ≤ kLen.getD y 0 ∧ kLen.getD y 0 ≤ 6 := by decide +kernel
theorem kl_sh : ∀ y, y < 5 → (nI (kLen.getD y 0)) >>> ((0 : Int32) &&& 31) = nI (kLen.getD y 0) := by decide +kernel
theorem s_len {Q : Int32 → Prop} {y : Nat} (hy : y < 5) (h : Q (nI (kLen.getD y 0))) : wp_C_J0_length_8abf5 Q y :=
  ⟨fun z => absurd z (by decide), fun _ => ⟨rfl, show Q ((nI (kLen.getD y 0)) >>> ((0 : Int32) &&& 31)) from by rw [kl_sh y hy]; exact h⟩⟩
theorem m_len {Q : Int32 → Prop} {y : Nat} (hy : y < 5) (h : Q (nI (kLen.getD y 0))) : wp_M_J0_length_8abf5 Q y :=
  ⟨fun z => absurd z (by decide), fun _ => ⟨rfl, show Q ((nI (kLen.getD y 0)) >>> ((0 : Int32) &&& 31)) from by rw [kl_sh y hy]; exact h⟩⟩
theorem s_charAt {Q : Int32 → Prop} {y j : Nat} (hy : y < 5) (hj : j < kLen.getD y 0) (h : Q (nI (kch y j))) : wp_C_J0_charAt_5068e Q y (nI j) := by
  have hb := kl_bd y hy
  have ec : (nI j).toNatClampNeg = j := nI_clamp (by omega)
  have en : narrow .char (.int (nI (kch y j))) = .int (nI (kch y j)) := congrArg Value.int (kch_nr y hy j hj)
  refine ⟨fun z => absurd z (by decide), fun _ => ⟨fun z => absurd rfl z, fun _ => ⟨Or.inr rfl, t_1 ?_⟩⟩⟩
  refine ⟨fun z => absurd z (nI_pos (by omega)), fun _ => ⟨fun _ => ⟨vp_in_nI hj (by omega), ?_⟩, fun z => absurd (nI_lt hj (by omega)) z⟩⟩
  rw [ec, kch_ok y hy j hj]
  exact ⟨en, en, h⟩
theorem m_charAt {Q : Int32 → Prop} {y j : Nat} (hy : y < 5) (hj : j < kLen.getD y 0) (h : Q (nI (kch y j))) : wp_M_J0_charAt_5068e Q y (nI j) := by
  have hb := kl_bd y hy
  have ec : (nI j).toNatClampNeg = j := nI_clamp (by omega)
  have en : narrow .char (.int (nI (kch y j))) = .int (nI (kch y j)) := congrArg Value.int (kch_nr y hy j hj)
  refine ⟨fun z => absurd z (by decide), fun _ => ⟨fun z => absurd rfl z, fun _ => ⟨Or.inr rfl, t_1 ?_⟩⟩⟩
  refine ⟨fun z => absurd z (nI_pos (by omega)), fun _ => ⟨fun _ => ⟨vp_in_nI hj (by omega), ?_⟩, fun z => absurd (nI_lt hj (by omega)) z⟩⟩
  rw [ec, kch_ok y hy j hj]
  exact ⟨en, en, h⟩
/-- the first j characters from s on are those of the word k -/
def wl (c : Nat → Nat) (s k : Nat) : Nat → Bool
  | 0 => true
  | j + 1 => wl c s k j && decide (c (s + j) = kch k j)
theorem wl_no {c : Nat → Nat} {s k i : Nat} (h : wl c s k i = false) : ∀ d, wl c s k (i + d) = false
  | 0 => h
  | d + 1 => by
    show (wl c s k (i + d) && decide (c (s + (i + d)) = kch k (i + d))) = false
    rw [wl_no h d]; rfl
def wq (c : Nat → Nat) (s e k : Nat) : Bool := decide (e = s + kLen.getD k 0) && wl c s k (kLen.getD k 0)
theorem wq_no {c : Nat → Nat} {s e k i : Nat} (h : wl c s k i = false) (hi : i ≤ kLen.getD k 0) : wq c s e k = false := by
  have := wl_no h (kLen.getD k 0 - i)
  rw [show i + (kLen.getD k 0 - i) = kLen.getD k 0 by omega] at this
  unfold wq
  rw [this, Bool.and_false]
theorem wl_yes {c : Nat → Nat} {s k i : Nat} (h : wl c s k i = true) (h2 : c (s + i) = kch k i) : wl c s k (i + 1) = true := by
  show (wl c s k i && decide (c (s + i) = kch k i)) = true
  rw [h, decide_eq_true h2]; rfl
theorem wl_not {c : Nat → Nat} {s k i : Nat} (h2 : ¬ c (s + i) = kch k i) : wl c s k (i + 1) = false := by
  show (wl c s k i && decide (c (s + i) = kch k i)) = false
  rw [decide_eq_false h2, Bool.and_false]
theorem s_isWord {n s e k : Nat} {b : Nat → Int32} {c : Nat → Nat} {Q : Int32 → Prop} (hn : n ≤ 400) (hk : k < 5) (hs : s ≤ e) (he : e ≤ n) (hC : ∀ j, j < 400 → okc (c j) (b j &&& 255)) (h1 : wq c s e k = true → Q 1) (h0 : wq c s e k = false → Q 0) : wp_C_X5_isWord (nI n) b Q (nI s) (nI e) k := by
  have hb := kl_bd k hk
  delta wp_C_X5_isWord
  rw [nI_sub hs]
  refine s_len hk ⟨fun z => ⟨7, ?_⟩, fun z => ⟨Or.inl rfl, h0 ?_⟩⟩
  · have ez : e - s = kLen.getD k 0 := (nI_eq (by omega) (by omega)).mp z
    have key : ∀ (m i : Nat), i ≤ kLen.getD k 0 → kLen.getD k 0 - i < m → wl c s k i = true → lp_C_X5_isWord_15 (nI n) b Q m (nI s) k (nI i) := by
      intro m
      induction m with
      | zero => intro i g1 g2; omega
      | succ m ih =>
        intro i g1 g2 hw
        rw [lp_C_X5_isWord_15]
        refine s_len hk ⟨fun z => ⟨Or.inr rfl, h1 ?_⟩, fun z => ?_⟩
        · have := ge_of (N := kLen.getD k 0) (i := i) (by omega) (by omega) z
          have e2 : i = kLen.getD k 0 := by omega
          rw [e2] at hw
          unfold wq
          rw [hw, decide_eq_true (show e = s + kLen.getD k 0 by omega)]; rfl
        · have hi : i < kLen.getD k 0 := lt_of (by omega) z
          have kb := kch_bd k hk i hi
          rw [nI_add, nI_1]
          have ho := okc_eq (k := kch k i) (hC (s + i) (by omega)) kb.1 kb.2
          refine s_byteAt hn (by omega) (s_charAt hk hi ⟨fun q => ih (i + 1) hi (by omega) (wl_yes hw (ho.mp q)), fun q => ⟨Or.inl rfl, h0 (wq_no (i := i + 1) (wl_not (fun w => q (ho.mpr w))) hi)⟩⟩)
    exact key 7 0 (by omega) (by omega) rfl
  · unfold wq
    rw [decide_eq_false (fun w => z (by rw [show e - s = kLen.getD k 0 by omega]))]; rfl
theorem m_isWord {s e k : Nat} {t : Nat → Int32} {c : Nat → Nat} {Q : Int32 → Prop} (hn : e ≤ 400) (hk : k < 5) (hs : s ≤ e) (hC : ∀ j, j < 400 → okc (c j) (t j)) (h1 : wq c s e k = true → Q 1) (h0 : wq c s e k = false → Q 0) : wp_M_X8_isWord (nI e) (nI s) t Q k := by
  have hb := kl_bd k hk
  delta wp_M_X8_isWord bk_M_X8_isWord_21
  rw [nI_sub hs]
  refine m_len hk ⟨fun z => ⟨1, fun _ => ⟨Or.inl rfl, h0 ?_⟩, fun z => absurd rfl z⟩, fun z => ⟨8, ?_⟩⟩
  · unfold wq
    rw [decide_eq_false (fun w => z (by rw [show e - s = kLen.getD k 0 by omega]))]; rfl
  · have ez : e - s = kLen.getD k 0 := (nI_eq (by omega) (by omega)).mp z
    have out : ∀ m i, wl c s k i = false → i ≤ kLen.getD k 0 → lp_M_X8_isWord_24 (nI e) (nI s) t Q (m + 1) k 0 (nI i) := fun m i hw hi => ⟨fun _ => ⟨Or.inl rfl, h0 (wq_no hw hi)⟩, fun z => absurd rfl z⟩
    have key : ∀ (m i : Nat), i ≤ kLen.getD k 0 → kLen.getD k 0 - i < m → wl c s k i = true → lp_M_X8_isWord_24 (nI e) (nI s) t Q (m + 1) k 1 (nI i) := by
      intro m
      induction m with
      | zero => intro i g1 g2; omega
      | succ m ih =>
        intro i g1 g2 hw
        refine ⟨fun z => absurd z (by decide), fun _ => m_len hk ⟨fun z => ⟨Or.inr rfl, h1 ?_⟩, fun z => ?_⟩⟩
        · have := ge_of (N := kLen.getD k 0) (i := i) (by omega) (by omega) z
          have e2 : i = kLen.getD k 0 := by omega
          rw [e2] at hw
          unfold wq
          rw [hw, decide_eq_true (show e = s + kLen.getD k 0 by omega)]; rfl
        · have hi : i < kLen.getD k 0 := lt_of (by omega) z
          have kb := kch_bd k hk i hi
          have ho := okc_eq (k := kch k i) (hC (s + i) (by omega)) kb.1 kb.2
          delta bk_M_X8_isWord_60
          rw [nI_add, nI_1, nI_clamp (n := s + i) (by omega)]
          exact ⟨vp_in_nI (by omega) (by omega), m_charAt hk hi ⟨fun q => out m (i + 1) (wl_not (fun w => q (ho.mpr w))) hi, fun q => ih (i + 1) hi (by omega) (wl_yes hw (ho.mp q))⟩⟩
    exact key 7 0 (by omega) (by omega) rfl
/-- the first word, from k on, that stands there: 5 if none -/
def kdF (c : Nat → Nat) (s e : Nat) : Nat → Nat → Nat
  | 0, _ => 5
  | m + 1, k => if wq c s e k = true then k else kdF c s e m (k + 1)
theorem kdF_le {c : Nat → Nat} {s e : Nat} : ∀ m k, k + m = 5 → kdF c s e m k ≤ 5
  | 0, k, _ => Nat.le_refl _
  | m + 1, k, h => by
    rw [kdF]
    split
    · omega
    · exact kdF_le m (k + 1) (by omega)
theorem s_wordOf {Q : Nat → Prop} : ∀ k, k < 5 → Q k → wp_C_X5_wordOf Q (nI k)
  | 0, _, h => ⟨fun _ => h, fun c => absurd (by decide) c⟩
  | 1, _, h => ⟨fun c => absurd c (by decide), fun _ => ⟨fun _ => h, fun c => absurd (by decide) c⟩⟩
  | 2, _, h => ⟨fun c => absurd c (by decide), fun _ => ⟨fun c => absurd c (by decide), fun _ => ⟨fun _ => h, fun c => absurd (by decide) c⟩⟩⟩
  | 3, _, h => ⟨fun c => absurd c (by decide), fun _ => ⟨fun c => absurd c (by decide), fun _ => ⟨fun c => absurd c (by decide), fun _ => ⟨fun _ => h, fun c => absurd (by decide) c⟩⟩⟩⟩
  | 4, _, h => ⟨fun c => absurd c (by decide), fun _ => ⟨fun c => absurd c (by decide), fun _ => ⟨fun c => absurd c (by decide), fun _ => ⟨fun c => absurd c (by decide), fun _ => h⟩⟩⟩⟩
  | k + 5, h, _ => absurd h (by omega)
theorem s_readKind {n i : Nat} {b : Nat → Int32} {c : Nat → Nat} {Q : Int32 → Int32 → Prop} (hn : n ≤ 400) (hi : i ≤ n) (hC : ∀ j, j < 400 → okc (c j) (b j &&& 255)) (h5 : kdF c i (rn pL c n 400 i) 5 0 = 5 → Q (-1) (nI (rn pL c n 400 i))) (hK : ∀ k, k < 5 → kdF c i (rn pL c n 400 i) 5 0 = k → Q (nI k) (nI (rn pL c n 400 i))) : wp_C_X5_readKind (nI n) b Q (nI i) := by
  refine ⟨401, ?_⟩
  have k53 : ∀ e, i ≤ e → e ≤ n → rn pL c n 400 i = e → bk_C_X5_readKind_53 (nI n) b Q (nI e) (nI i) := by
    intro e g1 g2 ee
    rw [ee] at h5 hK
    refine ⟨6, ?_⟩
    have key : ∀ (m k : Nat), k + m = 5 → kdF c i e m k = kdF c i e 5 0 → lp_C_X5_readKind_55 (nI n) b Q (m + 1) (nI e) (nI i) (nI k) := by
      intro m
      induction m with
      | zero =>
        intro k g3 g4
        exact ⟨fun _ => h5 g4.symm, fun z => absurd (nI_le (a := 5) (b := k) (by omega) (by omega)) z⟩
      | succ m ih =>
        intro k g3 g4
        have hk : k < 5 := by omega
        refine ⟨fun z => absurd z (nI_ge (b := 5) hk (by omega)), fun _ => s_wordOf k hk ⟨hk, s_isWord hn hk g1 g2 hC (fun w => t_1 ?_) (fun w => t_0 ?_)⟩⟩
        · rw [kdF, if_pos w] at g4
          exact hK k hk g4.symm
        · rw [kdF, if_neg (by rw [w]; decide)] at g4
          rw [nI_1]
          exact ih (k + 1) (by omega) g4
    exact key 5 0 rfl rfl
  have key : ∀ (m e : Nat), i ≤ e → e ≤ n → n - e ≤ m → rn pL c n m e = rn pL c n 400 i → lp_C_X5_readKind_5 (nI n) b Q (m + 1) (nI e) (nI i) := by
    intro m
    induction m with
    | zero =>
      intro e g0 g1 g2 hq
      exact ⟨fun _ => k53 e g0 g1 hq.symm, fun z => absurd (nI_le (a := n) (b := e) (by omega) (by omega)) z⟩
    | succ m ih =>
      intro e g0 g1 g2 hq
      refine ⟨fun z => ?_, fun z => ?_⟩
      · have := ge_of (N := n) (i := e) (by omega) (by omega) z
        rw [rn_out (fun z => by omega)] at hq
        exact k53 e g0 g1 hq.symm
      · have hi : e < n := lt_of (by omega) z
        have ho := okc_in (lo := 97) (hi := 122) (hC e (by omega)) (by omega) (by omega) (by omega)
        refine s_byteAt hn hi (i_isWithin (fun q => t_1 ?_) (fun q => t_0 ?_))
        · rw [nI_1]
          rw [rn_in hi (decide_eq_true (ho.mp q))] at hq
          exact ih (e + 1) (by omega) hi (by omega) hq
        · rw [rn_out (fun w => q (ho.mpr (of_decide_eq_true w.2)))] at hq
          exact k53 e g0 g1 hq.symm
  exact key 400 i (Nat.le_refl _) hi (by omega) rfl
/-- the number that begins at s, read on from i with v so far -/
def nmF (c : Nat → Nat) (n s : Nat) : Nat → Nat → Nat → Nat × Nat
  | 0, i, v => (i, v)
  | m + 1, i, v => if i < n ∧ pD (c i) = true then nmF c n s m (i + 1) (if i - s < 5 then 10 * v + (c i - 48) else v) else (i, v)
theorem nm_out {c : Nat → Nat} {n s i v : Nat} (h : ¬ (i < n ∧ pD (c i) = true)) : ∀ m, nmF c n s m i v = (i, v)
  | 0 => rfl
  | m + 1 => if_neg h
theorem nm_in {c : Nat → Nat} {n s i v m : Nat} (h : i < n) (h2 : pD (c i) = true) : nmF c n s (m + 1) i v = nmF c n s m (i + 1) (if i - s < 5 then 10 * v + (c i - 48) else v) := if_pos ⟨h, h2⟩
theorem nm_bd {c : Nat → Nat} {n s : Nat} : ∀ m i v, i ≤ n → i ≤ (nmF c n s m i v).1 ∧ (nmF c n s m i v).1 ≤ n
  | 0, i, v, h => ⟨Nat.le_refl _, h⟩
  | m + 1, i, v, h => by
    rw [nmF]
    split
    · rename_i q
      have := nm_bd (c := c) (s := s) m (i + 1) (if i - s < 5 then 10 * v + (c i - 48) else v) q.1
      omega
    · exact ⟨Nat.le_refl _, h⟩
theorem pw_step {c : Nat → Nat} {s i v : Nat} (hs : s ≤ i) (hd : 48 ≤ c i ∧ c i ≤ 57) (hv : v < 10 ^ (min (i - s) 5)) : (if i - s < 5 then 10 * v + (c i - 48) else v) < 10 ^ (min (i + 1 - s) 5) := by
  split
  · rename_i q
    rw [show min (i + 1 - s) 5 = (i - s) + 1 by omega, Nat.pow_succ]
    rw [show min (i - s) 5 = i - s by omega] at hv
    omega
  · rename_i q
    rw [show min (i + 1 - s) 5 = 5 by omega]
    rw [show min (i - s) 5 = 5 by omega] at hv
    exact hv
theorem pw_end {k v : Nat} (hv : v < 10 ^ (min k 5)) : v ≤ 99999 := by
  have h := Nat.lt_of_lt_of_le hv (Nat.pow_le_pow_right (by decide : 0 < 10) (Nat.min_le_right k 5))
  have e : 10 ^ 5 = 100000 := by decide
  rw [e] at h
  omega
theorem dg_up {x : Int32} {cc v : Nat} (h : x = nI cc) (h1 : 48 ≤ cc) : ((nI v * 10) + x) - 48 = nI (10 * v + (cc - 48)) := by
  have e : nI v * 10 = nI (v * 10) := (Int32.ofNat_mul v 10).symm
  rw [h, e, nI_add, show (48 : Int32) = nI 48 from rfl, nI_sub (by omega), show v * 10 + cc - 48 = 10 * v + (cc - 48) by omega]
theorem s_number {n s : Nat} {b : Nat → Int32} {c : Nat → Nat} {Q : Int32 → Int32 → Prop} (hn : n ≤ 400) (hs : s ≤ n) (hC : ∀ j, j < 400 → okc (c j) (b j &&& 255)) (h1 : ∀ e v, nmF c n s 400 s 0 = (e, v) → 1 ≤ e - s ∧ e - s ≤ 5 → v ≤ 99999 → Q (nI v) (nI e)) (h0 : ∀ e v, nmF c n s 400 s 0 = (e, v) → ¬ (1 ≤ e - s ∧ e - s ≤ 5) → Q (-1) (nI e)) : wp_C_X5_readNumber (nI n) b Q (nI s) := by
  refine ⟨401, ?_⟩
  have k85 : ∀ e v, s ≤ e → e ≤ n → v ≤ 99999 → nmF c n s 400 s 0 = (e, v) → bk_C_X5_readNumber_85 (nI n) b Q (nI e) (nI s) (nI v) := by
    intro e v g1 g2 g3 ee
    delta bk_C_X5_readNumber_85
    rw [nI_sub g1]
    refine i_isWithin (fun q => t_1 (h1 e v ee ⟨(nI_leI (a := 1) (by omega) (by omega)).mp q.1, (nI_leI (b := 5) (by omega) (by omega)).mp q.2⟩ g3)) (fun q => t_0 (h0 e v ee (fun w => q ⟨nI_le (a := 1) w.1 (by omega), nI_le (b := 5) w.2 (by omega)⟩)))
  have key : ∀ (m e v : Nat), s ≤ e → e ≤ n → n - e ≤ m → v < 10 ^ (min (e - s) 5) → nmF c n s m e v = nmF c n s 400 s 0 → lp_C_X5_readNumber_7 (nI n) b Q (m + 1) (nI e) (nI s) (nI v) := by
    intro m
    induction m with
    | zero =>
      intro e v g0 g1 g2 gv hq
      exact ⟨fun _ => k85 e v g0 g1 (pw_end gv) hq.symm, fun z => absurd (nI_le (a := n) (b := e) (by omega) (by omega)) z⟩
    | succ m ih =>
      intro e v g0 g1 g2 gv hq
      refine ⟨fun z => ?_, fun z => ?_⟩
      · have := ge_of (N := n) (i := e) (by omega) (by omega) z
        rw [nm_out (fun z => by omega)] at hq
        exact k85 e v g0 g1 (pw_end gv) hq.symm
      · have hi : e < n := lt_of (by omega) z
        have hc := hC e (by omega)
        have ho := okc_in (lo := 48) (hi := 57) hc (by omega) (by omega) (by omega)
        refine s_byteAt hn hi (i_isWithin (fun q => t_1 ?_) (fun q => t_0 ?_))
        · have hd := ho.mp q
          rw [nm_in hi (decide_eq_true hd)] at hq
          have gv2 := pw_step (c := c) g0 hd gv
          delta bk_C_X5_readNumber_72
          rw [nI_sub g0, nI_1]
          refine ⟨fun w => ?_, fun w => s_byteAt hn hi ?_⟩
          · have w2 := (nI_leI (a := 5) (by omega) (by omega)).mp w
            rw [if_neg (by omega)] at hq gv2
            exact ih (e + 1) v (by omega) hi (by omega) gv2 hq
          · have w2 : e - s < 5 := lt_of (N := 5) (by omega) w
            rw [if_pos w2] at hq gv2
            rw [dg_up ((okc_eq (k := c e) hc (by omega) (by omega)).mpr rfl) hd.1]
            exact ih (e + 1) _ (by omega) hi (by omega) gv2 hq
        · rw [nm_out (fun w => q (ho.mpr (of_decide_eq_true w.2)))] at hq
          exact k85 e v g0 g1 (pw_end gv) hq.symm
  exact key 400 s 0 (Nat.le_refl _) hs (by omega) (by rw [Nat.sub_self]; decide) rfl
theorem m_number {n i k M : Nat} {t dr : Nat → Int32} {bg : Int32} {c : Nat → Nat} {Q : Int32 → Int32 → Int32 → (Nat → Int32) → Prop} (hn : n ≤ 400) (hi : i ≤ n) (hk : k < 5) (hM : M ≤ 99999) (hC : ∀ j, j < 400 → okc (c j) (t j)) (h1 : ∀ s e v, rn pB c n 400 i = s → nmF c n s 400 s 0 = (e, v) → (1 ≤ e - s ∧ e - s ≤ 5 ∧ v ≤ M) → ∀ d, Q 1 (nI e) (nI s) d) (h0 : ∀ s e v, rn pB c n 400 i = s → nmF c n s 400 s 0 = (e, v) → ¬ (1 ≤ e - s ∧ e - s ≤ 5 ∧ v ≤ M) → ∀ d, Q 0 (nI e) (nI s) d) : wp_M_X8_number (nI n) t Q (nI i) bg dr (nI k) (nI M) := by
  refine m_blanks hn hi hC ⟨401, ?_⟩
  have hsb := rn_bd (P := pB) (c := c) 400 i hi
  generalize hs : rn pB c n 400 i = s at *
  have hs0 : s ≤ n := hsb.2
  have kE : ∀ e v, s ≤ e → e ≤ n → v ≤ 99999 → nmF c n s 400 s 0 = (e, v) → (vp_in (nI k) 5 ∧ ((nI e ≤ nI s → (o01 0 ∧ Q 0 (nI e) (nI s) (upd dr (nI k).toNatClampNeg (nI v)))) ∧ (¬ (nI e ≤ nI s) → ((6 ≤ (nI e - nI s) → (o01 0 ∧ Q 0 (nI e) (nI s) (upd dr (nI k).toNatClampNeg (nI v)))) ∧ (¬ (6 ≤ (nI e - nI s)) → ((nI M < nI v → (o01 0 ∧ Q 0 (nI e) (nI s) (upd dr (nI k).toNatClampNeg (nI v)))) ∧ (¬ (nI M < nI v) → (o01 1 ∧ Q 1 (nI e) (nI s) (upd dr (nI k).toNatClampNeg (nI v)))))))))) := by
    intro e v g1 g2 g3 ee
    rw [nI_sub g1]
    refine ⟨vp_in_nI hk (by omega), fun z => ⟨Or.inl rfl, h0 s e v rfl ee (fun w => ?_) _⟩, fun z => ⟨fun z2 => ⟨Or.inl rfl, h0 s e v rfl ee (fun w => ?_) _⟩, fun z2 => ⟨fun z3 => ⟨Or.inl rfl, h0 s e v rfl ee (fun w => ?_) _⟩, fun z3 => ⟨Or.inr rfl, h1 s e v rfl ee ⟨?_, ?_, ?_⟩ _⟩⟩⟩⟩
    · have := (nI_leI (by omega) (by omega)).mp z
      omega
    · have := (nI_leI (a := 6) (by omega) (by omega)).mp z2
      omega
    · have := (nI_ltI (by omega) (by omega)).mp z3
      omega
    · have := lt_of (N := e) (i := s) (by omega) z
      omega
    · have := lt_of (N := 6) (i := e - s) (by omega) z2
      omega
    · have := (nI_leI (a := v) (b := M) (by omega) (by omega)).mp (i_nlt.mp z3)
      omega
  have key : ∀ (m e v : Nat), s ≤ e → e ≤ n → n - e ≤ m → v < 10 ^ (min (e - s) 5) → nmF c n s m e v = nmF c n s 400 s 0 → lp_M_X8_number_6 (nI n) t Q (m + 1) (nI e) (nI s) dr (nI k) (nI M) (nI v) := by
    intro m
    induction m with
    | zero =>
      intro e v g0 g1 g2 gv hq
      rw [lp_M_X8_number_6]
      exact m_isAt (lo := 48) (hi := 57) hn g1 hC (by omega) (by omega) (by omega) (fun z _ => absurd z (by omega)) (fun _ => t_0 (kE e v g0 g1 (pw_end gv) hq.symm))
    | succ m ih =>
      intro e v g0 g1 g2 gv hq
      rw [lp_M_X8_number_6]
      refine m_isAt (lo := 48) (hi := 57) hn g1 hC (by omega) (by omega) (by omega) (fun hi hd => t_1 ?_) (fun z => t_0 ?_)
      · have hc := hC e (by omega)
        rw [nm_in hi (decide_eq_true hd)] at hq
        have gv2 := pw_step (c := c) g0 hd gv
        delta bk_M_X8_number_51
        rw [nI_sub g0, nI_1]
        refine ⟨fun w => ?_, fun w => ⟨vp_in_nI (by omega) (by omega), ?_⟩⟩
        · have w2 := (nI_leI (a := 5) (by omega) (by omega)).mp w
          rw [if_neg (by omega)] at hq gv2
          exact ih (e + 1) v (by omega) hi (by omega) gv2 hq
        · have w2 : e - s < 5 := lt_of (N := 5) (by omega) w
          rw [if_pos w2] at hq gv2
          rw [nI_clamp (n := e) (by omega), Int32.mul_comm 10 (nI v), dg_up ((okc_eq (k := c e) hc (by omega) (by omega)).mpr rfl) hd.1]
          exact ih (e + 1) _ (by omega) hi (by omega) gv2 hq
      · rw [nm_out (fun w => z ⟨w.1, of_decide_eq_true w.2⟩)] at hq
        exact kE e v g0 g1 (pw_end gv) hq.symm
  exact key 400 s 0 (Nat.le_refl _) hs0 (by omega) (by rw [Nat.sub_self]; decide) rfl
