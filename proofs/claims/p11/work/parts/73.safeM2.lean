/-! the other side's methods at any state, second half -/
theorem f20m : ∀ i, i < 20 → vp_in (nI i / 4) 5 := by unfold vp_in; decide +kernel
theorem m_feed {n : Nat} {th a b c d e : Int32} {tape five : Nat → Int32} {Q : Int32 → Int32 → Int32 → (Nat → Int32) → (Nat → Int32) → Prop} (hn : n ≤ 400) (h1 : n + 20 ≤ 400 → ∀ t f, Q (nI (n + 20)) 0 (nI (n + 20)) t f) (h0 : ¬ n + 20 ≤ 400 → Q (-1) 0 (nI n) tape five) : wp_M_X8_feed Q th (nI n) tape five a b c d e := by
  have e0 : nI n + 20 = nI (n + 20) := nI_add n 20
  delta wp_M_X8_feed
  rw [e0]
  refine ⟨fun c => ⟨21, ?_⟩, fun c => h0 (fun q => c (nI_le (b := 400) q (by omega)))⟩
  have q : n + 20 ≤ 400 := (nI_leI (b := 400) (by omega) (by omega)).mp c
  have key : ∀ (m i : Nat) (tp fv : Nat → Int32), i ≤ 20 → 20 - i < m → lp_M_X8_feed_60 Q m 0 (nI n) tp fv (nI i) := by
    intro m
    induction m with
    | zero => intro i tp fv h1 h2; omega
    | succ m ih =>
      intro i tp fv g1 g2
      refine ⟨fun _ => by rw [e0]; exact h1 q _ _, fun c => ?_⟩
      have hi : i < 20 := lt_of (by omega) c
      refine ⟨f20m i hi, by rw [nI_add]; exact vp_in_nI (by omega) (by omega), ?_⟩
      rw [nI_1]
      exact ih (i + 1) _ _ hi (by omega)
  exact key 21 0 _ _ (by omega) (by omega)
theorem m_isAsked {j : Nat} {hk sh : Nat → Int32} {Q : Int32 → Prop} (hj : j < 60) (h0 : Q 0) (h1 : ¬ sh j < 0 → Q 1) : wp_M_X8_isAsked hk sh Q (nI j) := by
  have hv : vp_in (nI j) 60 := vp_in_nI hj (by omega)
  delta wp_M_X8_isAsked
  rw [nI_clamp (n := j) (by omega)]
  exact ⟨hv, fun _ => ⟨Or.inl rfl, h0⟩, fun c => ⟨hv, fun _ => ⟨Or.inl rfl, h0⟩, fun _ => ⟨Or.inr rfl, h1 c⟩⟩⟩
/-- who hangs where another should -/
def lk (n : Nat) (sh hook : Nat → Int32) (a y : Nat) : Prop := a < n ∧ y < n ∧ ∃ k, k < 60 ∧ sh a = nI k ∧ hook y = nI k
theorem lk_inj {n : Nat} {sh hook : Nat → Int32} (hS : gS n sh) {a b y : Nat} (h1 : lk n sh hook a y) (h2 : lk n sh hook b y) : a = b := by
  obtain ⟨ha, hy, k, hk, e1, e2⟩ := h1
  obtain ⟨hb, -, k2, hk2, e3, e4⟩ := h2
  by_cases q : a = b
  · exact q
  · have e : sh a = sh b := e1.trans (e2.symm.trans (e4.trans e3.symm))
    have := hS.2 a b ha hb q e
    rw [e1] at this
    exact absurd this.symm (nI_m1 (by omega))
def chn (R : Nat → Nat → Prop) (l : Nat) : List Nat → Prop
  | [] => False
  | [y] => y = l
  | y :: z :: r => R z y ∧ chn R l (z :: r)
theorem chn_pred {R : Nat → Nat → Prop} {l : Nat} : ∀ (L : List Nat), chn R l L → ∀ y, y ∈ L → y ≠ l → ∃ a, a ∈ L.tail ∧ R a y
  | [], h, y, hy, hl => (show False from h).elim
  | [w], h, y, hy, hl => absurd ((List.mem_singleton.mp hy).trans h) hl
  | w :: z :: r, h, y, hy, hl => by
    rcases List.mem_cons.mp hy with e | e
    · exact ⟨z, List.mem_cons_self .., by rw [e]; exact h.1⟩
    · obtain ⟨a, ha, hr⟩ := chn_pred (z :: r) h.2 y e hl
      exact ⟨a, List.mem_cons_of_mem _ ha, hr⟩
theorem chn_new {R : Nat → Nat → Prop} {l z y : Nat} {r : List Nat} (hR : ∀ a b y, R a y → R b y → a = b) (h : chn R l (z :: r)) (hd : (z :: r).Nodup) (hy : R z y) (hl : y ≠ l) : ¬ y ∈ z :: r := by
  intro hm
  obtain ⟨a, ha, hr⟩ := chn_pred (z :: r) h y hm hl
  have e := hR a z y hr hy
  rw [e] at ha
  exact (List.nodup_cons.mp hd).1 ha
theorem nd_len : ∀ (n : Nat) (L : List Nat), L.Nodup → (∀ y, y ∈ L → y < n) → L.length ≤ n
  | 0, [], _, _ => Nat.le_refl _
  | 0, w :: r, _, h => absurd (h w (List.mem_cons_self ..)) (Nat.not_lt_zero _)
  | n + 1, L, hd, h => by
    by_cases q : n ∈ L
    · have h1 := nd_len n (L.erase n) (hd.erase n) (fun y hy => by
        obtain ⟨z1, z2⟩ := hd.mem_erase_iff.mp hy
        have := h y z2
        omega)
      rw [List.length_erase_of_mem q] at h1
      omega
    · have h1 := nd_len n L hd (fun y hy => by
        have := h y hy
        have : y ≠ n := fun e => q (by rw [← e]; exact hy)
        omega)
      omega
theorem m_walk {n l : Nat} {hook sh on : Nat → Int32} {Q : Int32 → Prop} {K : Int32 → Int32 → Int32 → Prop} {v2 : Int32} (hn : n ≤ 60) (hM : gM n hook on) (hS : gS n sh) (hQ : Q (-1)) (hK : ∀ a, K a v2 (nI (l + 1))) :
    ∀ (m z : Nat) (r : List Nat) (x v1 v5 : Int32), (z :: r).length + m = 61 → chn (lk n sh hook) l (z :: r) → (z :: r).Nodup → (∀ y, y ∈ z :: r → y < n) → (x = -1 ∨ ∃ i, x = nI i ∧ lk n sh hook z i) → lp_M_X8_leastMoves_91 (nI n) hook sh on Q K m v1 v2 (nI l) x v5 := by
  intro m
  induction m with
  | zero =>
    intro z r x v1 v5 hm hc hd hb hx
    have := nd_len n _ hd hb
    omega
  | succ m ih =>
    intro z r x v1 v5 hm hc hd hb hx
    have e156 : bk_M_X8_leastMoves_156 (nI n) hook sh on Q K v1 v2 (nI l) x v5 := by
      delta bk_M_X8_leastMoves_156 bk_M_X8_leastMoves_180
      rw [nI_1]
      exact ⟨fun _ => hK _, fun _ => ⟨fun _ => ⟨fun _ => hK _, fun _ => hQ⟩, fun _ => hK _⟩⟩
    refine ⟨fun _ => e156, fun c => ⟨fun _ => e156, fun c2 => ?_⟩⟩
    rcases hx with rfl | ⟨i, rfl, hi⟩
    · exact absurd (by decide) c
    have hin : i < n := hi.2.1
    have hv : vp_in (nI i) 60 := vp_in_nI (by omega) (by omega)
    have hl : i ≠ l := fun e => c2 (by rw [e])
    refine m_isAsked (by omega) (t_0 hQ) (fun c3 => t_1 ⟨hv, hv, fun _ => ?_, fun _ => hQ⟩)
    rw [nI_clamp (n := i) (by omega)]
    rcases hS.1 i hin with e | ⟨k, hk, e⟩
    · rw [e] at c3; exact absurd (by decide) c3
    rw [e]
    refine ⟨hv, vp_in_nI hk (by omega), ?_⟩
    rw [nI_clamp (n := k) (by omega)]
    have hne := chn_new (R := lk n sh hook) (fun a b y => lk_inj hS) hc hd hi hl
    refine ih i (z :: r) _ _ _ (by rw [List.length_cons]; omega) ⟨hi, hc⟩ (List.nodup_cons.mpr ⟨hne, hd⟩) (fun y hy => ?_) ?_
    · rcases List.mem_cons.mp hy with q | q
      · rw [q]; exact hin
      · exact hb y q
    · rcases hM.2 k hk with q | ⟨j, hj, q1, q2⟩
      · exact Or.inl q
      · exact Or.inr ⟨j, q1, hin, hj, k, hk, e, q2⟩
theorem m_least {n : Nat} {hook sh on : Nat → Int32} {Q : Int32 → Prop} (hn : n ≤ 60) (hM : gM n hook on) (hS : gS n sh) (h : ∀ r, Q r) : wp_M_X8_leastMoves (nI n) hook sh on Q := by
  refine ⟨51, ?_⟩
  have kL : ∀ (m i : Nat) (v1 v2 : Int32), i ≤ n → 60 - i < m → lp_M_X8_leastMoves_38 (nI n) hook sh on Q m v1 v2 (nI i) := by
    intro m
    induction m with
    | zero => intro i v1 v2 h1 h2; omega
    | succ m ih =>
      intro i v1 v2 h1 h2
      refine ⟨fun _ => h _, fun c => ?_⟩
      have hi : i < n := lt_of (by omega) c
      have hv : vp_in (nI i) 60 := vp_in_nI (by omega) (by omega)
      have st : ∀ v1 v2, bk_M_X8_leastMoves_180 (nI n) hook sh on Q (lp_M_X8_leastMoves_38 (nI n) hook sh on Q m) v1 v2 (nI i) := by
        intro v1 v2
        delta bk_M_X8_leastMoves_180
        rw [nI_1]
        exact ih (i + 1) _ _ hi (by omega)
      refine m_isAsked (by omega) (t_0 (st _ _)) (fun c3 => t_1 ⟨hv, hv, fun _ => ?_, fun _ => st _ _⟩)
      rw [nI_clamp (n := i) (by omega)]
      rcases hS.1 i hi with e | ⟨k, hk, e⟩
      · rw [e] at c3; exact absurd (by decide) c3
      rw [e]
      refine ⟨hv, vp_in_nI hk (by omega), 60, ?_⟩
      rw [nI_clamp (n := k) (by omega)]
      refine m_walk hn hM hS (h _) (fun a => ih (i + 1) _ _ hi (by omega)) 60 i [] _ _ _ rfl rfl (List.nodup_cons.mpr ⟨List.not_mem_nil, List.nodup_nil⟩) (fun y hy => by rw [List.mem_singleton.mp hy]; exact hi) ?_
      rcases hM.2 k hk with q | ⟨j, hj, q1, q2⟩
      · exact Or.inl q
      · exact Or.inr ⟨j, q1, hi, hj, k, hk, e, q2⟩
  have key : ∀ (m i : Nat) (v1 v2 : Int32), i ≤ 60 → 60 - i < m → lp_M_X8_leastMoves_7 (nI n) hook sh on Q m v1 v2 (nI i) := by
    intro m
    induction m with
    | zero => intro i v1 v2 h1 h2; omega
    | succ m ih =>
      intro i v1 v2 h1 h2
      refine ⟨fun _ => ⟨61, kL 61 0 _ _ (by omega) (by omega)⟩, fun c => ?_⟩
      have hi : i < 60 := lt_of (by omega) c
      have st : ∀ x y, bk_M_X8_leastMoves_28 (nI n) hook sh on Q (lp_M_X8_leastMoves_7 (nI n) hook sh on Q m) v1 (nI i) x y := by
        intro x y
        delta bk_M_X8_leastMoves_28
        rw [nI_1]
        exact ih (i + 1) _ _ hi (by omega)
      exact ⟨vp_in_nI hi (by omega), fun _ => st _ _, fun _ => st _ _⟩
  exact key 51 10 _ _ (by omega) (by omega)
theorem m_moves {n : Nat} {hook sh on : Nat → Int32} {th : Int32} {Q : Int32 → Int32 → (Nat → Int32) → Prop} (hn : n ≤ 60) (hM : gM n hook on) (hS : gS n sh) (h : ∀ r t x, gS n x → Q r t x) : wp_M_X8_moves (nI n) hook on Q th sh := by
  refine m_least hn hM hS (fun r => ⟨61, ?_⟩)
  have key : ∀ (m i : Nat) (x : Nat → Int32), i ≤ n → 60 - i < m → (∀ j, j < i → x j = -1) → lp_M_X8_moves_12 (nI n) hook on Q m 0 x r (nI i) := by
    intro m
    induction m with
    | zero => intro i x h1 h2; omega
    | succ m ih =>
      intro i x h1 h2 hx
      refine ⟨fun z => ?_, fun c => ?_⟩
      · have := ge_of (N := n) (i := i) (by omega) (by omega) z
        have e : i = n := by omega
        subst e
        exact h _ _ _ ⟨fun j hj => Or.inl (hx j hj), fun a b ha _ _ _ => hx a ha⟩
      · have hi : i < n := lt_of (by omega) c
        refine ⟨vp_in_nI (by omega) (by omega), ?_⟩
        rw [nI_1, nI_clamp (by omega)]
        refine ih (i + 1) _ hi (by omega) (fun j hj => ?_)
        by_cases e : j = i
        · exact if_pos e
        · rw [show upd x i (-1) j = x j from if_neg e]; exact hx j (by omega)
  exact key 61 0 sh (by omega) (by omega) (fun j hj => absurd hj (Nat.not_lt_zero _))
theorem gS_up {n j q : Nat} {sh : Nat → Int32} (hS : gS n sh) (hj : j < n) (hq : q < 60) (hne : ∀ i, i < n → i ≠ j → sh i ≠ nI q) : gS n (upd sh j (nI q)) := by
  refine ⟨fun i hi => ?_, fun a b ha hb hab e => ?_⟩
  · by_cases e : i = j
    · exact Or.inr ⟨q, hq, if_pos e⟩
    · rw [show upd sh j (nI q) i = sh i from if_neg e]; exact hS.1 i hi
  · by_cases ea : a = j
    · rw [show upd sh j (nI q) a = nI q from if_pos ea] at e
      have eb : b ≠ j := fun z => hab (ea.trans z.symm)
      rw [show upd sh j (nI q) b = sh b from if_neg eb] at e
      exact absurd e.symm (hne b hb eb)
    · rw [show upd sh j (nI q) a = sh a from if_neg ea] at e ⊢
      by_cases eb : b = j
      · rw [show upd sh j (nI q) b = nI q from if_pos eb] at e
        exact absurd e (hne a ha ea)
      · rw [show upd sh j (nI q) b = sh b from if_neg eb] at e
        exact hS.2 a b ha hb hab e
theorem m_should {n : Nat} {hook sh : Nat → Int32} {th p r k : Int32} {Q : Int32 → Int32 → (Nat → Int32) → Prop} (hn : n ≤ 60) (hS : gS n sh) (h : ∀ a t x, gS n x → Q a t x) : wp_M_X8_should (nI n) hook Q th sh p r k := by
  delta wp_M_X8_should bk_M_X8_should_26 bk_M_X8_should_31
  have hno : wp_M_X8_throwsIf (fun r_3 m_thrown_3 => ((¬ r_3 = 0 → (o01 0 ∧ Q 0 m_thrown_3 sh)) ∧ (r_3 = 0 → (vp_in p 60 ∧ ((10 ≤ (hook p.toNatClampNeg) → (∃ n_12, lp_M_X8_should_62 (nI n) hook Q n_12 m_thrown_3 sh p ((10 * r) + k) 0)) ∧ (¬ (10 ≤ (hook p.toNatClampNeg)) → (o01 0 ∧ Q 0 m_thrown_3 sh))))))) 0 1 1 := i_throwsIf1 (n_1 ⟨Or.inl rfl, h _ _ _ hS⟩)
  refine m_noLeg hn (fun j hj e => n_0 ⟨fun _ => hno, fun _ => i_noHook (fun c => t_0 (i_throwsIf0 (n_0 ?_))) (fun _ => t_1 hno)⟩) (n_1 hno)
  obtain ⟨q, hq, e2⟩ := pl_of c
  have hv : vp_in (nI j) 60 := vp_in_nI (by omega) (by omega)
  rw [e, e2]
  refine ⟨hv, fun _ => ⟨61, ?_⟩, fun _ => ⟨Or.inl rfl, h _ _ _ hS⟩⟩
  have key : ∀ (m i : Nat), i ≤ n → 60 - i < m → (∀ a, a < i → a ≠ j → sh a ≠ nI q) → lp_M_X8_should_62 (nI n) hook Q m 0 sh (nI j) (nI q) (nI i) := by
    intro m
    induction m with
    | zero => intro i h1 h2; omega
    | succ m ih =>
      intro i h1 h2 hx
      refine ⟨fun z => ?_, fun c => ?_⟩
      · have := ge_of (N := n) (i := i) (by omega) (by omega) z
        have e : i = n := by omega
        rw [e] at hx
        refine ⟨hv, Or.inr rfl, ?_⟩
        rw [nI_clamp (by omega)]
        exact h _ _ _ (gS_up hS hj hq hx)
      · have hi : i < n := lt_of (by omega) c
        have st : (i ≠ j → sh i ≠ nI q) → bk_M_X8_should_91 (nI n) hook Q (lp_M_X8_should_62 (nI n) hook Q m) 0 sh (nI j) (nI q) (nI i) := by
          intro hz
          delta bk_M_X8_should_91
          rw [nI_1]
          refine ih (i + 1) hi (by omega) (fun a ha hne => ?_)
          by_cases e : a = i
          · rw [e]; exact hz (by rw [← e]; exact hne)
          · exact hx a (by omega) hne
        refine ⟨fun z => st (fun z2 => absurd ((nI_eq (by omega) (by omega)).mp z) z2), fun _ => ⟨vp_in_nI (by omega) (by omega), fun z => st (fun _ => ?_), fun _ => ⟨Or.inl rfl, h _ _ _ hS⟩⟩⟩
        rw [nI_clamp (by omega)] at z
        exact z
  exact key 61 0 (by omega) (by omega) (fun a ha => absurd ha (Nat.not_lt_zero _))
theorem m_bit {Q : Int32 → Prop} {p : Int32} (h : ∀ r, Q r) : wp_M_J6_bitCount_0f7a4 Q p := h _
theorem m_order {n : Nat} {wt bd sf sd hook on th : Nat → Int32} {t p : Int32} {Q : Int32 → Int32 → (Nat → Int32) → (Nat → Int32) → (Nat → Int32) → (Nat → Int32) → Prop} (hn : n ≤ 60) (hM : gM n hook on) (h : ∀ r t a b c d, gM n b c → Q r t a b c d) : wp_M_X8_order (nI n) wt bd sf Q t sd hook on th p := by
  delta wp_M_X8_order bk_M_X8_order_21
  refine i_in (fun c => n_1 (i_throwsIf0 (t_0 ⟨61, ?_⟩))) (fun c => n_0 (i_throwsIf1 (t_1 (h _ _ _ _ _ _ hM))))
  -- the legs taken: q of them, each a leg's number
  have k221 : ∀ (q : Nat), q ≤ 14 → ∀ (th : Nat → Int32), (∀ a, a < q → ∃ j, j < n ∧ th a = nI j) → ∀ (v3 : Int32) (m i : Nat) (sd hook on : Nat → Int32), gM n hook on → i ≤ q → q - i < m → lp_M_X8_order_221 (nI n) wt bd sf Q m 0 sd hook on th (nI q) v3 (nI i) := by
    intro q hq th hth v3 m
    induction m with
    | zero => intro i sd hook on hM h1 h2; omega
    | succ m ih =>
      intro i sd hook on hM h1 h2
      refine ⟨fun _ => m_bit (fun _ => h _ _ _ _ _ _ hM), fun c => ?_⟩
      have hi : i < q := lt_of (by omega) c
      have hv : vp_in (nI i) 14 := vp_in_nI (by omega) (by omega)
      have st : ∀ sd hook on, gM n hook on → bk_M_X8_order_263 (nI n) wt bd sf Q (lp_M_X8_order_221 (nI n) wt bd sf Q m) 0 sd hook on th (nI q) v3 (nI i) := by
        intro sd hook on hM
        delta bk_M_X8_order_263
        rw [nI_1]
        exact ih (i + 1) _ _ _ hM hi (by omega)
      refine ⟨fun _ => ⟨hv, ?_⟩, fun _ => st _ _ _ hM⟩
      rw [nI_clamp (n := i) (by omega)]
      obtain ⟨j, hj, e⟩ := hth i hi
      rw [e]
      exact m_leaves hn hj hM (fun a b hg _ => ⟨hv, vp_in_nI (by omega) (by omega), st _ _ _ hg⟩)
  have k102 : ∀ (q : Nat), q ≤ 14 → ∀ (th : Nat → Int32), (∀ a, a < q → ∃ j, j < n ∧ th a = nI j) → ∀ (m i : Nat) (v3 v4 : Int32), i ≤ 16384 → 16384 - i < m → lp_M_X8_order_102 (nI n) wt bd sf Q m 0 sd hook on th p (nI q) v3 v4 (nI i) := by
    intro q hq th hth m
    induction m with
    | zero => intro i v3 v4 h1 h2; omega
    | succ m ih =>
      intro i v3 v4 h1 h2
      refine ⟨fun _ => ⟨fun _ => ⟨15, k221 q hq th hth _ 15 0 _ _ _ hM (by omega) (by omega)⟩, fun _ => h _ _ _ _ _ _ hM⟩, fun c => ⟨15, ?_⟩⟩
      have hi : i < 16384 := by
        rcases Nat.lt_or_ge i 16384 with z | z
        · exact z
        · exact absurd (Int32.le_trans (sh_le q hq) (nI_le (a := 16384) z (by omega))) c
      have s6 : ∀ v3 v4, bk_M_X8_order_206 (nI n) wt bd sf Q (lp_M_X8_order_102 (nI n) wt bd sf Q m) 0 sd hook on th p (nI q) v3 v4 (nI i) := by
        intro v3 v4
        delta bk_M_X8_order_206
        rw [nI_1]
        exact ih (i + 1) _ _ (by omega) (by omega)
      have s9 : ∀ v6, bk_M_X8_order_199 (nI n) wt bd sf Q (lp_M_X8_order_102 (nI n) wt bd sf Q m) 0 sd hook on th p (nI q) (nI i) v6 := fun v6 => s6 _ _
      have kI : ∀ (m9 u : Nat) (v6 : Int32), u ≤ q → q - u < m9 → lp_M_X8_order_116 (nI n) wt bd sf Q (lp_M_X8_order_102 (nI n) wt bd sf Q m) m9 0 sd hook on th p (nI q) v3 v4 (nI i) v6 (nI u) := by
        intro m9
        induction m9 with
        | zero => intro u v6 h1 h2; omega
        | succ m9 ih9 =>
          intro u v6 h1 h2
          refine ⟨fun _ => ⟨fun _ => s6 _ _, fun _ => ⟨fun _ => s9 _, fun _ => ⟨fun _ => s6 _ _, fun _ => ⟨fun _ => s9 _, fun _ => m_bit (fun _ => m_bit (fun _ => ⟨fun _ => s9 _, fun _ => s6 _ _⟩))⟩⟩⟩⟩, fun c => ?_⟩
          have hu : u < q := lt_of (by omega) c
          have hv : vp_in (nI u) 14 := vp_in_nI (by omega) (by omega)
          have st : ∀ a b, bk_M_X8_order_151 (nI n) wt bd sf Q (lp_M_X8_order_102 (nI n) wt bd sf Q m) (lp_M_X8_order_116 (nI n) wt bd sf Q (lp_M_X8_order_102 (nI n) wt bd sf Q m) m9) 0 sd hook on th p (nI q) v3 v4 (nI i) (nI u) a b := by
            intro a b
            delta bk_M_X8_order_151
            rw [nI_1 u]
            exact ih9 (u + 1) _ hu (by omega)
          refine ⟨fun _ => st _ _, fun _ => ⟨hv, ?_⟩⟩
          rw [nI_clamp (n := u) (by omega)]
          obtain ⟨j, hj, e⟩ := hth u hu
          rw [e]
          exact ⟨vp_in_nI (by omega) (by omega), st _ _⟩
      exact kI 15 0 _ (by omega) (by omega)
  have k94 : ∀ (q : Nat), q ≤ 14 → ∀ (th : Nat → Int32), (∀ a, a < q → ∃ j, j < n ∧ th a = nI j) → bk_M_X8_order_94 (nI n) wt bd sf Q 0 sd hook on th p (nI q) := fun q hq th hth => ⟨16385, k102 q hq th hth 16385 1 _ _ (by omega) (by omega)⟩
  have key : ∀ (m i q : Nat) (th : Nat → Int32), q ≤ 14 → (∀ a, a < q → ∃ j, j < n ∧ th a = nI j) → i ≤ n → 60 - i < m → lp_M_X8_order_34 (nI n) wt bd sf Q m 0 sd hook on th p (nI q) (nI i) := by
    intro m
    induction m with
    | zero => intro i q th hq hth h1 h2; omega
    | succ m ih =>
      intro i q th hq hth h1 h2
      refine ⟨fun _ => k94 q hq th hth, fun c => ⟨fun _ => k94 q hq th hth, fun c2 => ?_⟩⟩
      have hi : i < n := lt_of (by omega) c
      have hq2 : q < 14 := by
        rcases Nat.lt_or_ge q 14 with z | z
        · exact z
        · exact absurd (nI_le (a := 14) z (by omega)) c2
      have hv : vp_in (nI i) 60 := vp_in_nI (by omega) (by omega)
      have st : ∀ (q : Nat) (th : Nat → Int32), q ≤ 14 → (∀ a, a < q → ∃ j, j < n ∧ th a = nI j) → bk_M_X8_order_88 (nI n) wt bd sf Q (lp_M_X8_order_34 (nI n) wt bd sf Q m) 0 sd hook on th p (nI q) (nI i) := by
        intro q th hq hth
        delta bk_M_X8_order_88
        rw [nI_1]
        exact ih (i + 1) q th hq hth hi (by omega)
      refine ⟨hv, fun _ => st _ _ hq hth, fun _ => ⟨hv, fun _ => st _ _ hq hth, fun _ => ⟨hv, fun _ => ⟨vp_in_nI hq2 (by omega), ?_⟩, fun _ => st _ _ hq hth⟩⟩⟩
      rw [nI_1, nI_clamp (n := q) (by omega)]
      refine st (q + 1) _ (by omega) (fun a ha => ?_)
      by_cases e : a = q
      · exact ⟨i, hi, if_pos e⟩
      · rw [show upd th q (nI i) a = th a from if_neg e]; exact hth a (by omega)
  exact key 61 0 0 _ (by omega) (fun a ha => absurd ha (Nat.not_lt_zero _)) (by omega) (by omega)
theorem m_count {n : Nat} {td fe th p : Int32} {g1 g2 g3 g4 g5 g6 : Nat → Int32} {Q : Int32 → Int32 → Prop} (hn : n ≤ 60) (h : ∀ a b, Q a b) : wp_M_X8_count td (nI n) fe g1 g2 g3 g4 g5 g6 Q th p := by
  refine ⟨fun _ => ⟨fun _ => ⟨fun _ => ⟨61, ?_⟩, fun _ => h _ _⟩, fun _ => h _ _⟩, fun _ => h _ _⟩
  have key : ∀ (m i : Nat) (v : Int32), i ≤ n → 60 - i < m → lp_M_X8_count_39 td (nI n) fe g1 g2 g3 g4 g5 g6 Q m 0 p v (nI i) := by
    intro m
    induction m with
    | zero => intro i v h1 h2; omega
    | succ m ih =>
      intro i v h1 h2
      refine ⟨fun _ => i_in (fun _ => t_1 (h _ _)) (fun _ => t_0 (h _ _)), fun c => ?_⟩
      have hi : i < n := lt_of (by omega) c
      have hv : vp_in (nI i) 60 := vp_in_nI (by omega) (by omega)
      have st : ∀ v, lp_M_X8_count_39 td (nI n) fe g1 g2 g3 g4 g5 g6 Q m 0 p v (nI i + 1) := by
        intro v
        rw [nI_1]
        exact ih (i + 1) _ hi (by omega)
      exact ⟨fun _ => ⟨hv, fun _ => st _, fun _ => st _⟩, fun _ => ⟨fun _ => ⟨hv, fun _ => st _, fun _ => st _⟩, fun _ => ⟨fun _ => ⟨hv, fun _ => st _, fun _ => st _⟩, fun _ => ⟨fun _ => ⟨hv, fun _ => st _, fun _ => st _⟩, fun _ => ⟨fun _ => ⟨hv, fun _ => ⟨hv, st _⟩, fun _ => st _⟩, fun _ => ⟨fun _ => ⟨hv, fun _ => st _, fun _ => ⟨hv, st _⟩⟩, fun _ => ⟨fun _ => st _, fun _ => ⟨fun _ => ⟨hv, fun _ => st _, fun _ => st _⟩, fun _ => st _⟩⟩⟩⟩⟩⟩⟩⟩
  exact key 61 0 _ (by omega) (by omega)
