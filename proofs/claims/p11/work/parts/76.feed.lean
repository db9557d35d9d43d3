/-! the twenty bytes of a feed, on the other side -/
def shv : Nat → Int32
  | 0 => 24
  | 1 => 16
  | 2 => 8
  | _ => 0
def tp (f : Nat → Int32) (n : Nat) (q : Nat → Int32) : Nat → Nat → Int32
  | 0 => f
  | i + 1 => upd (tp f n q i) (n + i) (wb (q (i / 4)) (shv (i % 4)))
theorem shv_ok : ∀ i, i < 20 → (24 - (8 * (nI i - nI i / 4 * 4))) = shv (i % 4) := by decide +kernel
theorem q4_ok : ∀ i, i < 20 → (nI i / 4).toNatClampNeg = i / 4 := by decide +kernel
theorem five_at (f : Nat → Int32) (a b c d e : Int32) : (upd (upd (upd (upd (upd f (0 : Int32).toNatClampNeg a) (1 : Int32).toNatClampNeg b) (2 : Int32).toNatClampNeg c) (3 : Int32).toNatClampNeg d) (4 : Int32).toNatClampNeg e) 0 = a ∧ (upd (upd (upd (upd (upd f (0 : Int32).toNatClampNeg a) (1 : Int32).toNatClampNeg b) (2 : Int32).toNatClampNeg c) (3 : Int32).toNatClampNeg d) (4 : Int32).toNatClampNeg e) 1 = b ∧ (upd (upd (upd (upd (upd f (0 : Int32).toNatClampNeg a) (1 : Int32).toNatClampNeg b) (2 : Int32).toNatClampNeg c) (3 : Int32).toNatClampNeg d) (4 : Int32).toNatClampNeg e) 2 = c ∧ (upd (upd (upd (upd (upd f (0 : Int32).toNatClampNeg a) (1 : Int32).toNatClampNeg b) (2 : Int32).toNatClampNeg c) (3 : Int32).toNatClampNeg d) (4 : Int32).toNatClampNeg e) 3 = d ∧ (upd (upd (upd (upd (upd f (0 : Int32).toNatClampNeg a) (1 : Int32).toNatClampNeg b) (2 : Int32).toNatClampNeg c) (3 : Int32).toNatClampNeg d) (4 : Int32).toNatClampNeg e) 4 = e := by
  have c0 : (0 : Int32).toNatClampNeg = 0 := by decide
  have c1 : (1 : Int32).toNatClampNeg = 1 := by decide
  have c2 : (2 : Int32).toNatClampNeg = 2 := by decide
  have c3 : (3 : Int32).toNatClampNeg = 3 := by decide
  have c4 : (4 : Int32).toNatClampNeg = 4 := by decide
  rw [c0, c1, c2, c3, c4]
  exact ⟨rfl, rfl, rfl, rfl, rfl⟩
theorem tp_20 {f q : Nat → Int32} {n : Nat} {a b c d e : Int32} (h : q 0 = a ∧ q 1 = b ∧ q 2 = c ∧ q 3 = d ∧ q 4 = e) : tp f n q 20 = ap20 f n a b c d e := by
  obtain ⟨rfl, rfl, rfl, rfl, rfl⟩ := h
  rfl
theorem m_feedX {n : Nat} {th a b c d e : Int32} {tape five : Nat → Int32} {Q : Int32 → Int32 → Int32 → (Nat → Int32) → (Nat → Int32) → Prop} (hn : n ≤ 400) (h1 : n + 20 ≤ 400 → ∀ f, Q (nI (n + 20)) 0 (nI (n + 20)) (ap20 tape n a b c d e) f) (h0 : ¬ n + 20 ≤ 400 → Q (-1) 0 (nI n) tape five) : wp_M_X8_feed Q th (nI n) tape five a b c d e := by
  have e0 : nI n + 20 = nI (n + 20) := nI_add n 20
  delta wp_M_X8_feed
  rw [e0]
  refine ⟨fun z => ⟨21, ?_⟩, fun z => h0 (fun q => z (nI_le (b := 400) q (by omega)))⟩
  have q : n + 20 ≤ 400 := (nI_leI (b := 400) (by omega) (by omega)).mp z
  have h5 := five_at five a b c d e
  revert h5
  generalize (upd (upd (upd (upd (upd five (0 : Int32).toNatClampNeg a) (1 : Int32).toNatClampNeg b) (2 : Int32).toNatClampNeg c) (3 : Int32).toNatClampNeg d) (4 : Int32).toNatClampNeg e) = fv
  intro h5
  have key : ∀ (m i : Nat), i ≤ 20 → 20 - i < m → lp_M_X8_feed_60 Q m 0 (nI n) (tp tape n fv i) fv (nI i) := by
    intro m
    induction m with
    | zero => intro i h1 h2; omega
    | succ m ih =>
      intro i g1 g2
      refine ⟨fun z => ?_, fun z => ?_⟩
      · have := ge_of (N := 20) (i := i) (by omega) (by omega) z
        have e2 : i = 20 := by omega
        rw [e0, e2, tp_20 h5]
        exact h1 q _
      · have hi : i < 20 := lt_of (by omega) z
        refine ⟨f20m i hi, by rw [nI_add]; exact vp_in_nI (by omega) (by omega), ?_⟩
        rw [nI_1, nI_add, nI_clamp (n := n + i) (by omega), shv_ok i hi, q4_ok i hi]
        exact ih (i + 1) hi (by omega)
  exact key 21 0 (by omega) (by omega)
theorem isB_wb (p s : Int32) : isB (wb p s) := ⟨_, rfl⟩
theorem isB_upd {f : Nat → Int32} {k : Nat} {v : Int32} (h : ∀ j, isB (f j)) (hv : isB v) : ∀ j, isB (upd f k v j) := by
  intro j
  by_cases e : j = k
  · rw [show upd f k v j = v from if_pos e]; exact hv
  · rw [show upd f k v j = f j from if_neg e]; exact h j
theorem isB_ap4 {f : Nat → Int32} {k : Nat} {p : Int32} (h : ∀ j, isB (f j)) : ∀ j, isB (ap4 f k p j) :=
  isB_upd (isB_upd (isB_upd (isB_upd h (isB_wb _ _)) (isB_wb _ _)) (isB_wb _ _)) (isB_wb _ _)
theorem isB_ap20 {f : Nat → Int32} {k : Nat} {a b c d e : Int32} (h : ∀ j, isB (f j)) : ∀ j, isB (ap20 f k a b c d e j) :=
  isB_ap4 (isB_ap4 (isB_ap4 (isB_ap4 (isB_ap4 h))))
/-- one code for the bytes of both sides -/
theorem okc_2 {b : Nat → Int32} (h : ∀ j, isB (b j)) : ∃ c : Nat → Nat, (∀ j, j < 400 → okc (c j) (b j &&& 255)) ∧ (∀ j, j < 400 → okc (c j) (b j)) := by
  obtain ⟨c, hc⟩ := okc_fn b
  refine ⟨c, fun j hj => ?_, hc⟩
  obtain ⟨z, e⟩ := h j
  have := hc j hj
  rw [e] at this ⊢
  exact okc_both z _ this
