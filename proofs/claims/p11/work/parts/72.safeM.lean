/-! the other side's methods at any state -/
theorem legs_in {n : Nat} {p : Int32} (hn : n ≤ 60) (c : 0 ≤ p ∧ p ≤ nI n - 1) : ∃ j, j < n ∧ p = nI j := by
  cases n with
  | zero =>
    have h1 := Int32.le_iff_toInt_le.mp c.1
    have h2 := Int32.le_iff_toInt_le.mp c.2
    exact absurd (Int.le_trans h1 h2) (by decide)
  | succ n =>
    have h2 := c.2
    rw [nI_pred] at h2
    obtain ⟨j, hj, rfl⟩ := nI_of (i_nlt.mpr c.1)
    exact ⟨j, by have := (nI_leI hj (by omega)).mp h2; omega, rfl⟩
theorem pl_eq : ∀ a, a < 6 → ∀ b, b < 10 → (10 : Int32) * nI a + nI b = nI (10 * a + b) := by decide +kernel
theorem pl_of {r k : Int32} (h : (0 ≤ r ∧ r ≤ 5) ∧ (0 ≤ k ∧ k ≤ 9)) : ∃ q, q < 60 ∧ 10 * r + k = nI q := by
  obtain ⟨a, ha, rfl⟩ := nI_of2 (M := 5) (n := 5) (by decide) (i_nlt.mpr h.1.1) h.1.2
  obtain ⟨b, hb, rfl⟩ := nI_of2 (M := 9) (n := 9) (by decide) (i_nlt.mpr h.2.1) h.2.2
  exact ⟨10 * a + b, by omega, pl_eq a (by omega) b (by omega)⟩
theorem nI_m1 {k : Nat} (h : k < 2 ^ 31) : ¬ (-1 : Int32) = nI k := fun e => absurd (show nI k < 0 by rw [← e]; decide) (nI_pos h)
/-- hooks and what hangs there, by numbers -/
def gM (n : Nat) (hook on : Nat → Int32) : Prop := (∀ j, j < n → hook j = -1 ∨ ∃ k, k < 60 ∧ hook j = nI k) ∧ (∀ k, k < 60 → on k = -1 ∨ ∃ j, j < n ∧ on k = nI j ∧ hook j = nI k)
/-- the hooks told: each for one leg -/
def gS (n : Nat) (sh : Nat → Int32) : Prop := (∀ j, j < n → sh j = -1 ∨ ∃ k, k < 60 ∧ sh j = nI k) ∧ (∀ i j, i < n → j < n → i ≠ j → sh i = sh j → sh i = -1)
theorem gM_leave {n j : Nat} {hook on : Nat → Int32} (hG : gM n hook on) (hj : j < n) {x : Int32} (hx : hook j = -1 ∨ ∃ k, k < 60 ∧ hook j = nI k ∧ x = nI k) : gM n (upd hook j (-1)) (fun k => if hook j = -1 then on k else upd on x.toNatClampNeg (-1) k) := by
  refine ⟨fun i hi => ?_, fun k hk => ?_⟩
  · by_cases e : i = j
    · exact Or.inl (if_pos e)
    · rw [show upd hook j (-1) i = hook i from if_neg e]; exact hG.1 i hi
  · dsimp only
    rcases hx with hx | ⟨q, hq, hx, rfl⟩
    · rw [if_pos hx]
      rcases hG.2 k hk with h | ⟨i, hi, h1, h2⟩
      · exact Or.inl h
      · have e : i ≠ j := fun e => by subst e; rw [hx] at h2; exact nI_m1 (by omega) h2
        exact Or.inr ⟨i, hi, h1, by rw [show upd hook j (-1) i = hook i from if_neg e]; exact h2⟩
    · rw [if_neg (fun e => nI_m1 (k := q) (by omega) (by rw [← hx]; exact e.symm)), nI_clamp (by omega)]
      by_cases e : k = q
      · exact Or.inl (if_pos e)
      · rw [show upd on q (-1) k = on k from if_neg e]
        rcases hG.2 k hk with h | ⟨i, hi, h1, h2⟩
        · exact Or.inl h
        · have e3 : i ≠ j := fun e4 => by
            subst e4; rw [hx] at h2
            exact e ((nI_eq (by omega) (by omega)).mp h2).symm
          exact Or.inr ⟨i, hi, h1, by rw [show upd hook j (-1) i = hook i from if_neg e3]; exact h2⟩
theorem gM_put {n j q : Nat} {hook on : Nat → Int32} (hG : gM n hook on) (hj : j < n) (hq : q < 60) (hx : hook j = -1) : gM n (upd hook j (nI q)) (upd on q (nI j)) := by
  refine ⟨fun i hi => ?_, fun k hk => ?_⟩
  · by_cases e : i = j
    · exact Or.inr ⟨q, hq, if_pos e⟩
    · rw [show upd hook j (nI q) i = hook i from if_neg e]; exact hG.1 i hi
  · by_cases e : k = q
    · exact Or.inr ⟨j, hj, if_pos e, by rw [e]; exact if_pos rfl⟩
    · rw [show upd on q (nI j) k = on k from if_neg e]
      rcases hG.2 k hk with h | ⟨i, hi, h1, h2⟩
      · exact Or.inl h
      · have e3 : i ≠ j := fun e4 => by subst e4; rw [hx] at h2; exact nI_m1 (by omega) h2
        exact Or.inr ⟨i, hi, h1, by rw [show upd hook j (nI q) i = hook i from if_neg e3]; exact h2⟩
theorem m_leaves {n j : Nat} {hook on : Nat → Int32} {Q : (Nat → Int32) → (Nat → Int32) → Prop} (hn : n ≤ 60) (hj : j < n) (hG : gM n hook on) (h : ∀ a b, gM n a b → a j = -1 → Q a b) : wp_M_X8_leaves Q hook on (nI j) := by
  have hv : vp_in (nI j) 60 := vp_in_nI (by omega) (by omega)
  have ec : (nI j).toNatClampNeg = j := nI_clamp (by omega)
  delta wp_M_X8_leaves bk_M_X8_leaves_21
  rw [ec]
  refine ⟨hv, fun c => ⟨hv, ?_⟩, fun c => ⟨hv, ?_, hv, ?_⟩⟩
  · have e : hook j = -1 := by
      rcases hG.1 j hj with e | ⟨k, hk, e⟩
      · exact e
      · rw [e] at c; exact absurd c (nI_pos (by omega))
    have h9 := gM_leave hG hj (x := 0) (Or.inl e)
    exact h _ _ ⟨h9.1, fun k hk => by have := h9.2 k hk; dsimp only at this; rw [if_pos e] at this; exact this⟩ (if_pos rfl)
  · rcases hG.1 j hj with e | ⟨k, hk, e⟩
    · rw [e] at c; exact absurd (by decide) c
    · rw [e]; exact vp_in_nI hk (by omega)
  · rcases hG.1 j hj with e | ⟨k, hk, e⟩
    · rw [e] at c; exact absurd (by decide) c
    · have h9 := gM_leave hG hj (x := hook j) (Or.inr ⟨k, hk, e, e⟩)
      have e5 : ¬ hook j = -1 := fun z => nI_m1 (k := k) (by omega) (by rw [← e]; exact z.symm)
      exact h _ _ ⟨h9.1, fun k hk => by have := h9.2 k hk; dsimp only at this; rw [if_neg e5] at this; exact this⟩ (if_pos rfl)
theorem m_noLeg {n : Nat} {Q : Int32 → Prop} {p : Int32} (hn : n ≤ 60) (h1 : ∀ j, j < n → p = nI j → Q 0) (h0 : Q 1) : wp_M_X8_noLeg (nI n) Q p :=
  i_noLeg (fun c => by obtain ⟨j, hj, e⟩ := legs_in hn c; exact h1 j hj e) (fun _ => h0)
theorem m_hang {n : Nat} {sd hook on : Nat → Int32} {th p r k : Int32} {Q : Int32 → Int32 → (Nat → Int32) → (Nat → Int32) → Prop} (hn : n ≤ 60) (hG : gM n hook on) (h : ∀ r t a b, gM n a b → Q r t a b) : wp_M_X8_hang (nI n) sd Q th hook on p r k := by
  delta wp_M_X8_hang bk_M_X8_hang_22 bk_M_X8_hang_27
  refine m_noLeg hn (fun j hj e => n_0 ?_) (n_1 (i_throwsIf1 (n_1 ⟨Or.inl rfl, h _ _ _ _ hG⟩)))
  subst e
  refine i_noHook (fun c => t_0 (i_throwsIf0 (n_0 ⟨vp_in_nI (by omega) (by omega), ?_⟩))) (fun _ => t_1 (i_throwsIf1 (n_1 ⟨Or.inl rfl, h _ _ _ _ hG⟩)))
  obtain ⟨q, hq, e⟩ := pl_of c
  rw [e, nI_clamp (n := j) (by omega), nI_clamp (n := q) (by omega)]
  refine ⟨fun _ => ⟨Or.inl rfl, h _ _ _ _ hG⟩, fun _ => ⟨vp_in_nI hq (by omega), fun _ => m_leaves hn hj hG (fun a b hg ha => ?_), fun _ => ⟨Or.inl rfl, h _ _ _ _ hG⟩⟩⟩
  have e2 : upd a j (nI q) j = nI q := if_pos rfl
  rw [e2, nI_clamp (n := q) (by omega)]
  exact ⟨vp_in_nI (by omega) (by omega), vp_in_nI (by omega) (by omega), vp_in_nI hq (by omega), Or.inr rfl, h _ _ _ _ (gM_put hg hj hq ha)⟩
theorem m_take {n : Nat} {hook on : Nat → Int32} {th p : Int32} {Q : Int32 → Int32 → (Nat → Int32) → (Nat → Int32) → Prop} (hn : n ≤ 60) (hG : gM n hook on) (h : ∀ r t a b, gM n a b → Q r t a b) : wp_M_X8_take (nI n) Q th hook on p := by
  refine m_noLeg hn (fun j hj e => i_throwsIf0 (n_0 ?_)) (i_throwsIf1 (n_1 ⟨Or.inl rfl, h _ _ _ _ hG⟩))
  subst e
  exact ⟨vp_in_nI (by omega) (by omega), fun _ => m_leaves hn hj hG (fun a b hg _ => ⟨Or.inr rfl, h _ _ _ _ hg⟩), fun _ => ⟨Or.inl rfl, h _ _ _ _ hG⟩⟩
theorem m_on {on : Nat → Int32} {th r k : Int32} {Q : Int32 → Int32 → Prop} (h : ∀ a b, Q a b) : wp_M_X8_on on Q th r k := by
  refine i_noHook (fun c => i_throwsIf0 (t_0 ⟨?_, h _ _⟩)) (fun _ => i_throwsIf1 (t_1 (h _ _)))
  obtain ⟨q, hq, e⟩ := pl_of c
  rw [e]; exact vp_in_nI hq (by omega)
theorem m_look {n : Nat} {g1 g2 g3 g4 g5 g6 g7 g8 g9 g10 g11 : Nat → Int32} {th p q : Int32} {Q : Int32 → Int32 → Prop} (hn : n ≤ 60) (h : ∀ a b, Q a b) : wp_M_X8_look (nI n) g1 g2 g3 g4 g5 g6 g7 g8 g9 g10 g11 Q th p q := by
  refine m_noLeg hn (fun j hj e => i_throwsIf0 (t_0 ?_)) (i_throwsIf1 (t_1 (h _ _)))
  subst e
  have hv : vp_in (nI j) 60 := vp_in_nI (by omega) (by omega)
  exact ⟨fun _ => ⟨hv, h _ _⟩, fun _ => ⟨fun _ => ⟨hv, h _ _⟩, fun _ => ⟨fun _ => ⟨hv, h _ _⟩, fun _ => ⟨fun _ => ⟨hv, h _ _⟩, fun _ => ⟨fun _ => ⟨hv, fun _ => ⟨hv, fun _ => h _ _, fun _ => h _ _⟩, fun _ => h _ _⟩, fun _ => ⟨fun _ => ⟨hv, fun _ => ⟨hv, h _ _⟩, fun _ => h _ _⟩, fun _ => ⟨fun _ => ⟨hv, fun _ => ⟨hv, h _ _⟩, fun _ => h _ _⟩, fun _ => ⟨fun _ => ⟨hv, fun _ => h _ _, fun _ => h _ _⟩, fun _ => ⟨fun _ => ⟨hv, fun _ => h _ _, fun _ => h _ _⟩, fun _ => ⟨fun _ => ⟨hv, h _ _⟩, fun _ => ⟨fun _ => ⟨hv, h _ _⟩, fun _ => ⟨fun _ => ⟨hv, h _ _⟩, fun _ => h _ _⟩⟩⟩⟩⟩⟩⟩⟩⟩⟩⟩⟩
theorem m_knownOf {n : Nat} {fa ff fw fo : Nat → Int32} {Q : Int32 → Prop} {a b c : Int32} (hn : n ≤ 60) (hf : ∀ k, k < n → 0 ≤ ff k) (h : Q (fnS fa ff fw fo a b c n).2) : wp_M_X8_knownOf (nI n) fa ff fw fo Q a b c := by
  refine ⟨61, ?_⟩
  have key : ∀ (m i : Nat) (v : Int32), i ≤ n → 60 - i < m → ((v = -1 ∧ fnS fa ff fw fo a b c i = (0, 0)) ∨ ∃ q, q < i ∧ v = nI q ∧ fnS fa ff fw fo a b c i = (ff q, fw q)) → lp_M_X8_knownOf_6 (nI n) fa ff fw fo Q m a b c v (nI i) := by
    intro m
    induction m with
    | zero => intro i v h1 h2; omega
    | succ m ih =>
      intro i v h1 h2 hR
      refine ⟨fun z => ?_, fun c1 => ?_⟩
      · have := ge_of (N := n) (i := i) (by omega) (by omega) z
        have e : i = n := by omega
        subst e
        rcases hR with ⟨rfl, e⟩ | ⟨q, hq, rfl, e⟩
        · rw [e] at h; exact ⟨fun z => absurd z (by decide), fun _ => h⟩
        · rw [e] at h
          exact ⟨fun _ => ⟨vp_in_nI (by omega) (by omega), by rw [nI_clamp (by omega)]; exact h⟩, fun z => absurd (nI_pos' (by omega)) z⟩
      have hi : i < n := lt_of (by omega) c1
      have hv : vp_in (nI i) 60 := vp_in_nI (by omega) (by omega)
      have ec : (nI i).toNatClampNeg = i := nI_clamp (by omega)
      have s0 : ¬ (fa i = a ∧ fo i ≤ c ∧ ff i ≤ b ∧ (fnS fa ff fw fo a b c i).1 ≤ ff i) → bk_M_X8_knownOf_74 (nI n) fa ff fw fo Q (lp_M_X8_knownOf_6 (nI n) fa ff fw fo Q m) a b c v (nI i) := by
        intro z
        delta bk_M_X8_knownOf_74
        rw [nI_1]
        refine ih (i + 1) v hi (by omega) ?_
        rw [fnS, if_neg z]
        rcases hR with hR | ⟨q, hq, e⟩
        · exact Or.inl hR
        · exact Or.inr ⟨q, by omega, e⟩
      have s1 : (fa i = a ∧ fo i ≤ c ∧ ff i ≤ b ∧ (fnS fa ff fw fo a b c i).1 ≤ ff i) → bk_M_X8_knownOf_70 (nI n) fa ff fw fo Q (lp_M_X8_knownOf_6 (nI n) fa ff fw fo Q m) a b c (nI i) := by
        intro z
        delta bk_M_X8_knownOf_70 bk_M_X8_knownOf_74
        rw [nI_1]
        refine ih (i + 1) (nI i) hi (by omega) (Or.inr ⟨i, by omega, rfl, ?_⟩)
        rw [fnS, if_pos z]
      rw [ec]
      refine ⟨hv, fun d1 => s0 (fun z => d1 z.1), fun d1 => ⟨hv, fun d2 => s0 (fun z => i_nle.mpr d2 z.2.1), fun d2 => ⟨hv, fun d3 => s0 (fun z => i_nle.mpr d3 z.2.2.1), fun d3 => ?_⟩⟩⟩
      refine ⟨fun d4 => s1 ⟨d1, i_nlt.mp d2, i_nlt.mp d3, ?_⟩, fun d4 => ?_⟩
      · rcases hR with ⟨rfl, e⟩ | ⟨q, hq, rfl, e⟩
        · rw [e]; exact hf i hi
        · exact absurd d4 (nI_pos (by omega))
      · rcases hR with ⟨rfl, e⟩ | ⟨q, hq, rfl, e⟩
        · exact absurd (by decide) d4
        · have eq : (nI q).toNatClampNeg = q := nI_clamp (by omega)
          rw [eq]
          refine ⟨hv, vp_in_nI (by omega) (by omega), fun d5 => s0 (fun z => ?_), fun d5 => s1 ⟨d1, i_nlt.mp d2, i_nlt.mp d3, ?_⟩⟩
          · have := z.2.2.2
            rw [e] at this
            exact i_nle.mpr d5 this
          · rw [e]; exact i_nlt.mp d5
  exact key 61 0 _ (by omega) (by omega) (Or.inl ⟨rfl, rfl⟩)
theorem m_known {n : Nat} {fa ff fw fo : Nat → Int32} {Q : Int32 → Int32 → Prop} {th a b c : Int32} (hn : n ≤ 60) (hf : ∀ k, k < n → 0 ≤ ff k) (h1 : ¬ (0 ≤ a ∧ a ≤ 9) → Q 0 1) (h : (0 ≤ a ∧ a ≤ 9) → Q (fnS fa ff fw fo a b c n).2 0) : wp_M_X8_known (nI n) fa ff fw fo Q th a b c := by
  delta wp_M_X8_known bk_M_X8_known_21
  exact i_in (fun c1 => n_1 (i_throwsIf0 (t_0 (m_knownOf hn hf (h c1))))) (fun c1 => n_0 (i_throwsIf1 (t_1 (h1 c1))))
theorem m_fed {n nf : Nat} {td th p0 p1 p2 : Int32} {gf gb sd sf fa ff fw fo : Nat → Int32} {Q : Int32 → Int32 → Int32 → (Nat → Int32) → (Nat → Int32) → (Nat → Int32) → (Nat → Int32) → (Nat → Int32) → Prop} (hn : n ≤ 60) (hnf : nf ≤ 60) (hf : ∀ k, k < nf → 0 ≤ ff k)
    (h1 : ¬ (0 ≤ p0 ∧ p0 ≤ 9) → Q 0 1 (nI nf) sf fa ff fw fo)
    (h2 : (0 ≤ p0 ∧ p0 ≤ 9) → ¬ ((0 ≤ p1 ∧ p1 ≤ 2000) ∧ (0 ≤ p2 ∧ p2 ≤ 3)) → Q 0 2 (nI nf) sf fa ff fw fo)
    (h3 : (0 ≤ p0 ∧ p0 ≤ 9) → ((0 ≤ p1 ∧ p1 ≤ 2000) ∧ (0 ≤ p2 ∧ p2 ≤ 3)) → nf = 60 → Q (-1) 0 (nI nf) sf fa ff fw fo)
    (h4 : (0 ≤ p0 ∧ p0 ≤ 9) → ((0 ≤ p1 ∧ p1 ≤ 2000) ∧ (0 ≤ p2 ∧ p2 ≤ 3)) → nf < 60 → ∀ r x, Q r 0 (nI (nf + 1)) x (upd fa nf p0) (upd ff nf p1) (upd fw nf p2) (upd fo nf td)) :
    wp_M_X8_fed td (nI n) gf gb sd Q th (nI nf) sf fa ff fw fo p0 p1 p2 := by
  delta wp_M_X8_fed bk_M_X8_fed_21 bk_M_X8_fed_49 bk_M_X8_fed_54
  refine i_in (fun c1 => n_1 (i_throwsIf0 (n_0 (i_in (fun c2 => t_1 (i_in (fun c3 => n_1 (i_throwsIf0 (t_0 ⟨fun c4 => ?_, fun c4 => h3 c1 ⟨c2, c3⟩ ((nI_eq (b := 60) (by omega) (by omega)).mp c4)⟩))) (fun c3 => n_0 (i_throwsIf1 (t_1 (h2 c1 (fun z => c3 z.2))))))) (fun c2 => t_0 (i_throwsIf1 (t_1 (h2 c1 (fun z => c2 z.1))))))))) (fun c1 => n_0 (i_throwsIf1 (n_1 (h1 c1))))
  have q : nf < 60 := by
    rcases Nat.lt_or_ge nf 60 with q | q
    · exact q
    · exact absurd (show nI nf = nI 60 by rw [show nf = 60 by omega]) c4
  have hv : vp_in (nI nf) 60 := vp_in_nI q (by omega)
  refine ⟨hv, hv, hv, hv, 61, ?_⟩
  rw [nI_1, nI_clamp (n := nf) (by omega)]
  have hf2 : ∀ k, k < nf + 1 → 0 ≤ upd ff nf p1 k := by
    intro k hk
    by_cases e : k = nf
    · rw [show upd ff nf p1 k = p1 from if_pos e]; exact c2.1
    · rw [show upd ff nf p1 k = ff k from if_neg e]; exact hf k (by omega)
  have key : ∀ (m i : Nat) (x : Nat → Int32) (v : Int32), i ≤ n → 60 - i < m → lp_M_X8_fed_133 td (nI n) gf gb sd Q m 0 (nI (nf + 1)) x (upd fa nf p0) (upd ff nf p1) (upd fw nf p2) (upd fo nf td) v (nI i) := by
    intro m
    induction m with
    | zero => intro i x v hi1 hi2; omega
    | succ m ih =>
      intro i x v hi1 hi2
      refine ⟨fun _ => h4 c1 ⟨c2, c3⟩ q _ _, fun c5 => ?_⟩
      have hi : i < n := lt_of (by omega) c5
      have hw : vp_in (nI i) 60 := vp_in_nI (by omega) (by omega)
      have st : ∀ x v, bk_M_X8_fed_208 td (nI n) gf gb sd Q (lp_M_X8_fed_133 td (nI n) gf gb sd Q m) 0 (nI (nf + 1)) x (upd fa nf p0) (upd ff nf p1) (upd fw nf p2) (upd fo nf td) v (nI i) := by
        intro x v
        delta bk_M_X8_fed_208
        rw [nI_1]
        exact ih (i + 1) x v hi (by omega)
      exact ⟨hw, fun _ => st _ _, fun _ => ⟨hw, fun _ => st _ _, fun _ => ⟨hw, hw, m_knownOf (by omega) hf2 ⟨hw, fun _ => ⟨hw, st _ _⟩, fun _ => st _ _⟩⟩⟩⟩
  exact key 61 0 _ _ (by omega) (by omega)
theorem m_against {n nf j : Nat} {td : Int32} {g1 g2 gf g4 g5 g6 g7 g8 fa ff fw fo rl : Nat → Int32} {Q : Int32 → Prop} (hn : n ≤ 60) (hj : j < n) (hnf : nf ≤ 60) (hf : ∀ k, k < nf → 0 ≤ ff k) (h0 : ¬ gf j = 0) (h : ∀ r, Q r) : wp_M_X8_against td (nI nf) g1 g2 gf g4 g5 g6 g7 g8 fa ff fw fo rl Q (nI j) := by
  have hv : vp_in (nI j) 60 := vp_in_nI (by omega) (by omega)
  delta wp_M_X8_against
  rw [nI_clamp (n := j) (by omega)]
  exact ⟨hv, fun _ => ⟨hv, fun _ => ⟨hv, fun _ => ⟨hv, fun _ => ⟨hv, hv, hv, h0, fun _ => ⟨hv, fun _ => ⟨hv, hv, m_knownOf hnf hf ⟨fun _ => ⟨hv, fun _ => h _, fun _ => h _⟩, fun _ => h _⟩⟩, fun _ => h _⟩, fun _ => h _⟩, fun _ => h _⟩, fun _ => h _⟩, fun _ => h _⟩, fun _ => h _⟩
theorem m_seal {n nf : Nat} {td th p : Int32} {g1 g2 gf g4 g5 g6 g7 fa ff fw fo rl sf : Nat → Int32} {Q : Int32 → Int32 → (Nat → Int32) → Prop} (hn : n ≤ 60) (hnf : nf ≤ 60) (hf : ∀ k, k < nf → 0 ≤ ff k) (h0 : ∀ j, j < n → ¬ gf j = 0) (h : ∀ a b c, Q a b c) : wp_M_X8_seal td (nI n) (nI nf) g1 g2 gf g4 g5 g6 g7 fa ff fw fo rl Q th sf p := by
  refine m_noLeg hn (fun j hj e => i_throwsIf0 (t_0 ?_)) (i_throwsIf1 (t_1 (h _ _ _)))
  subst e
  exact m_against hn hj hnf hf (h0 j hj) (fun r => ⟨fun _ => h _ _ _, fun _ => ⟨vp_in_nI (by omega) (by omega), h _ _ _⟩⟩)
theorem m_leg {n : Nat} {td th p0 p1 p2 : Int32} {g1 pig g3 g4 g5 g6 g7 g8 : Nat → Int32} {Q : Int32 → Int32 → Int32 → (Nat → Int32) → (Nat → Int32) → (Nat → Int32) → (Nat → Int32) → (Nat → Int32) → (Nat → Int32) → (Nat → Int32) → (Nat → Int32) → Prop} (hn : n ≤ 60)
    (h1 : ¬ (0 ≤ p0 ∧ p0 ≤ 9) → Q 0 1 (nI n) g1 pig g3 g4 g5 g6 g7 g8)
    (h2 : (0 ≤ p0 ∧ p0 ≤ 9) → ¬ ((0 ≤ p1 ∧ p1 ≤ 9999) ∧ (5000 ≤ p2 ∧ p2 ≤ 15000)) → Q 0 2 (nI n) g1 pig g3 g4 g5 g6 g7 g8)
    (h3 : (0 ≤ p0 ∧ p0 ≤ 9) → ((0 ≤ p1 ∧ p1 ≤ 9999) ∧ (5000 ≤ p2 ∧ p2 ≤ 15000)) → n = 60 → Q 0 3 (nI n) g1 pig g3 g4 g5 g6 g7 g8)
    (h4 : (0 ≤ p0 ∧ p0 ≤ 9) → ((0 ≤ p1 ∧ p1 ≤ 9999) ∧ (5000 ≤ p2 ∧ p2 ≤ 15000)) → n < 60 → cnt pig p1 n = 2 → Q (-1) 0 (nI n) g1 pig g3 g4 g5 g6 g7 g8)
    (h5 : (0 ≤ p0 ∧ p0 ≤ 9) → ((0 ≤ p1 ∧ p1 ≤ 9999) ∧ (5000 ≤ p2 ∧ p2 ≤ 15000)) → n < 60 → ¬ cnt pig p1 n = 2 → ∀ x1, Q (nI n) 0 (nI (n + 1)) x1 (upd pig n p1) (upd g3 n td) (upd g4 n p2) (upd g5 n p2) (upd g6 n (-1)) (upd g7 n (-1)) (upd g8 n (-1))) :
    wp_M_X8_leg td Q th (nI n) g1 pig g3 g4 g5 g6 g7 g8 p0 p1 p2 := by
  delta wp_M_X8_leg bk_M_X8_leg_21 bk_M_X8_leg_53 bk_M_X8_leg_58 bk_M_X8_leg_80
  refine i_in (fun c1 => n_1 (i_throwsIf0 (n_0 (i_in (fun c2 => t_1 (i_in (fun c3 => n_1 (i_throwsIf0 (n_0 ⟨fun c4 => i_throwsIf0 (t_0 ⟨61, ?_⟩), fun c4 => i_throwsIf1 (t_1 (h3 c1 ⟨c2, c3⟩ ((nI_eq (b := 60) (by omega) (by omega)).mp c4)))⟩))) (fun c3 => n_0 (i_throwsIf1 (n_1 (h2 c1 (fun z => c3 z.2))))))) (fun c2 => t_0 (i_throwsIf1 (n_1 (h2 c1 (fun z => c2 z.1))))))))) (fun c1 => n_0 (i_throwsIf1 (n_1 (h1 c1))))
  have q : n < 60 := by
    rcases Nat.lt_or_ge n 60 with q | q
    · exact q
    · exact absurd (show nI n = nI 60 by rw [show n = 60 by omega]) c4
  have hv : vp_in (nI n) 60 := vp_in_nI q (by omega)
  have key : ∀ (m i : Nat) (v : Int32), i ≤ n → 60 - i < m → v = nI (cnt pig p1 i) → lp_M_X8_leg_95 td Q m 0 (nI n) g1 pig g3 g4 g5 g6 g7 g8 p0 p1 p2 v (nI i) := by
    intro m
    induction m with
    | zero => intro i v hi1 hi2; omega
    | succ m ih =>
      intro i v hi1 hi2 ev
      refine ⟨fun z => ?_, fun c5 => ?_⟩
      · have := ge_of (N := n) (i := i) (by omega) (by omega) z
        have e : i = n := by omega
        subst e
        have hc := cnt_le pig p1 i
        refine ⟨fun c6 => ⟨hv, hv, hv, hv, hv, hv, hv, hv, ?_⟩, fun c6 => h4 c1 ⟨c2, c3⟩ q ?_⟩
        · rw [nI_1, nI_pred, nI_clamp (n := i) (by omega)]
          exact h5 c1 ⟨c2, c3⟩ q (fun z => c6 (by rw [ev, z]; rfl)) _
        · rw [ev] at c6
          exact (nI_eq (b := 2) (by omega) (by omega)).mp c6
      have hi : i < n := lt_of (by omega) c5
      have st : ∀ x y, x + y = nI (cnt pig p1 (i + 1)) → bk_M_X8_leg_122 td Q (lp_M_X8_leg_95 td Q m) 0 (nI n) g1 pig g3 g4 g5 g6 g7 g8 p0 p1 p2 (nI i) y x := by
        intro x y e
        delta bk_M_X8_leg_122
        rw [nI_1]
        exact ih (i + 1) _ hi (by omega) e
      refine ⟨vp_in_nI (by omega) (by omega), fun z => st _ _ ?_, fun z => st _ _ ?_⟩
      · rw [nI_clamp (n := i) (by omega)] at z
        rw [cnt, if_neg z, ev, Int32.add_zero]
      · rw [nI_clamp (n := i) (by omega)] at z
        rw [cnt, if_pos z, ev, nI_1]
  exact key 61 0 0 (by omega) (by omega) rfl
theorem d10 : ∀ k, k < 60 → vp_in (nI k / 10) 6 := by unfold vp_in; decide +kernel
theorem m_legDay {j : Nat} {gf hk w d gw gs gh gb : Nat → Int32} {Q : (Nat → Int32) → (Nat → Int32) → (Nat → Int32) → (Nat → Int32) → Prop} (hj : j < 60) (hh : hk j = -1 ∨ ∃ k, k < 60 ∧ hk j = nI k) (h : ∀ a b c d, Q a b c d) : wp_M_X8_legDay gf hk w d Q gw gs gh gb (nI j) := by
  have hv : vp_in (nI j) 60 := vp_in_nI hj (by omega)
  have s138 : ∀ gw gs gh gb k0 k1, bk_M_X8_legDay_138 gf hk w d Q gw gs gh gb (nI j) k0 k1 (nI j) := fun gw gs gh gb k0 k1 => ⟨hv, hv, hv, fun _ => h _ _ _ _, fun _ => ⟨hv, hv, fun _ => h _ _ _ _, fun _ => ⟨hv, h _ _ _ _⟩⟩⟩
  have s109 : ∀ gw gs gh gb v, (¬ v ≤ 0 → vp_in v 6) → bk_M_X8_legDay_109 gf hk w d Q gw gs gh gb (nI j) v := fun gw gs gh gb v hz => ⟨hv, fun _ => s138 _ _ _ _ _ _, fun c => ⟨hz c, s138 _ _ _ _ _ _⟩⟩
  have s22 : ∀ gw gs gh gb v, (¬ v ≤ 0 → vp_in v 6) → bk_M_X8_legDay_22 gf hk w d Q gw gs gh gb (nI j) v := fun gw gs gh gb v hz => ⟨fun _ => ⟨fun _ => s109 _ _ _ _ _ hz, fun c => ⟨hv, hv, hz c, hz c, hv, s109 _ _ _ _ _ hz⟩⟩, fun _ => ⟨hv, hv, hv, hv, hv, h _ _ _ _⟩⟩
  refine ⟨hv, fun c => ⟨hv, s22 _ _ _ _ _ (fun _ => ?_)⟩, fun _ => s22 _ _ _ _ _ (fun z => absurd (by decide) z)⟩
  rw [nI_clamp (n := j) (by omega)] at c ⊢
  rcases hh with e | ⟨k, hk, e⟩
  · rw [e] at c; exact absurd c (by decide)
  · rw [e]; exact d10 k hk
theorem m_days {n : Nat} {gf sd hk io : Nat → Int32} {gw gs gh gb w d : Nat → Int32} {th td p : Int32} {Q : Int32 → Int32 → Int32 → (Nat → Int32) → (Nat → Int32) → (Nat → Int32) → (Nat → Int32) → (Nat → Int32) → (Nat → Int32) → Prop} (hn : n ≤ 60) (hG : ∀ j, j < n → hk j = -1 ∨ ∃ k, k < 60 ∧ hk j = nI k) (h0 : ¬ (0 ≤ p ∧ p ≤ 200) → Q 0 1 td gw gs gh gb w d) (h : ∀ k, k ≤ 200 → p = nI k → ∀ a b c d e f, Q (dY k td) 0 (dY k td) a b c d e f) : wp_M_X8_days (nI n) gf sd hk io Q th td gw gs gh gb w d p := by
  delta wp_M_X8_days bk_M_X8_days_22
  refine i_in (fun c => n_1 (i_throwsIf0 (t_0 ?_))) (fun c => n_0 (i_throwsIf1 (t_1 (h0 c))))
  obtain ⟨k, hk9, rfl⟩ := nI_of2 (M := 200) (n := 200) (by decide) (fun z => i_nlt.mpr c.1 z) c.2
  refine ⟨k + 1, ?_⟩
  have key : ∀ (m i : Nat) (t : Int32) (a b c e f g : Nat → Int32), i ≤ k → k - i < m → dY (k - i) t = dY k td → lp_M_X8_days_33 (nI n) gf sd hk io Q m 0 t a b c e f g (nI k) (nI i) := by
    intro m
    induction m with
    | zero => intro i t a b c e f g h1 h2; omega
    | succ m ih =>
      intro i t a b c e f g h1 h2 h3
      refine ⟨fun z => ?_, fun c0 => ⟨fun z => ?_, fun c2 => ?_⟩⟩
      · have q := ge_of (N := k) (i := i) (by omega) (by omega) z
        rw [show k - i = 0 by omega, dY] at h3
        rw [h3]
        exact h k hk9 rfl _ _ _ _ _ _
      · have hi : i < k := lt_of (by omega) c0
        rw [show k - i = (k - (i + 1)) + 1 by omega, dY, if_pos z] at h3
        rw [h3]
        exact h k hk9 rfl _ _ _ _ _ _
      · have hi : i < k := lt_of (by omega) c0
        rw [show k - i = (k - (i + 1)) + 1 by omega, dY, if_neg c2] at h3
        have hK : ∀ a b c e f g, lp_M_X8_days_33 (nI n) gf sd hk io Q m 0 (t + 1) a b c e f g (nI k) (nI i + 1) := by
          intro a b c e f g
          rw [nI_1]
          exact ih (i + 1) _ _ _ _ _ _ _ hi (by omega) h3
        have kL : ∀ (m9 q : Nat) (a b c e f g : Nat → Int32), q ≤ n → 60 - q < m9 → lp_M_X8_days_110 (nI n) gf sd hk io Q (lp_M_X8_days_33 (nI n) gf sd hk io Q m) m9 0 (t + 1) a b c e f g (nI k) (nI i) (nI q) := by
          intro m9
          induction m9 with
          | zero => intro q a b c e f g q1 q2; omega
          | succ m9 ih9 =>
            intro q a b c e f g q1 q2
            refine ⟨fun _ => hK _ _ _ _ _ _, fun c5 => ?_⟩
            have hq : q < n := lt_of (by omega) c5
            have st : ∀ a b c e f g, bk_M_X8_days_132 (nI n) gf sd hk io Q (lp_M_X8_days_33 (nI n) gf sd hk io Q m) (lp_M_X8_days_110 (nI n) gf sd hk io Q (lp_M_X8_days_33 (nI n) gf sd hk io Q m) m9) 0 (t + 1) a b c e f g (nI k) (nI i) (nI q) := by
              intro a b c e f g
              delta bk_M_X8_days_132
              rw [nI_1 q]
              exact ih9 (q + 1) _ _ _ _ _ _ hq (by omega)
            exact ⟨vp_in_nI (by omega) (by omega), fun _ => st _ _ _ _ _ _, fun _ => m_legDay (by omega) (hG q hq) (fun _ _ _ _ => st _ _ _ _ _ _)⟩
        have kR : ∀ (m9 q : Nat) (a b c e f g : Nat → Int32), q ≤ 6 → 6 - q < m9 → lp_M_X8_days_60 (nI n) gf sd hk io Q (lp_M_X8_days_33 (nI n) gf sd hk io Q m) m9 0 (t + 1) a b c e f g (nI k) (nI i) (nI q) := by
          intro m9
          induction m9 with
          | zero => intro q a b c e f g q1 q2; omega
          | succ m9 ih9 =>
            intro q a b c e f g q1 q2
            refine ⟨fun _ => ⟨61, kL 61 0 _ _ _ _ _ _ (by omega) (by omega)⟩, fun c5 => ?_⟩
            have hq : q < 6 := lt_of (by omega) c5
            have hv : vp_in (nI q) 6 := vp_in_nI hq (by omega)
            have st : ∀ a b c e f g, bk_M_X8_days_102 (nI n) gf sd hk io Q (lp_M_X8_days_33 (nI n) gf sd hk io Q m) (lp_M_X8_days_60 (nI n) gf sd hk io Q (lp_M_X8_days_33 (nI n) gf sd hk io Q m) m9) 0 (t + 1) a b c e f g (nI k) (nI i) (nI q) := by
              intro a b c e f g
              delta bk_M_X8_days_102
              rw [nI_1 q]
              exact ih9 (q + 1) _ _ _ _ _ _ hq (by omega)
            exact ⟨hv, fun _ => ⟨hv, hv, st _ _ _ _ _ _⟩, fun _ => st _ _ _ _ _ _⟩
        exact ⟨7, kR 7 1 _ _ _ _ _ _ (by omega) (by omega)⟩
  exact key (k + 1) 0 td _ _ _ _ _ _ (by omega) (by omega) rfl
