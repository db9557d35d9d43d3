/-! what holds of both sides after any calls -/
def Iv (LP : List Nat) (today legCount : Int32) (legs hung : Nat → Option Nat) (wopen : Nat → Int32) (tsize : Int32) (bytes : Nat → Int32) (rwrong ftold : Int32) (ffarm ffrom fwhat fon : Nat → Int32) (offered : Nat → Option Nat) (g_pig : Nat → Int32) (m_today m_legs m_feeds m_taped m_faultAt : Int32) (m_pig m_first m_hook m_should m_on m_isOpen m_fFarm m_fFrom m_fWhat m_fTold m_tape : Nat → Int32) : Prop :=
  today = m_today ∧ rwrong = m_faultAt ∧ bytes = m_tape ∧ (∀ k, isB (m_tape k)) ∧ (∃ n, n ≤ 400 ∧ tsize = nI n ∧ m_taped = nI n) ∧ (∃ n, n ≤ 60 ∧ legCount = nI n ∧ m_legs = nI n ∧ hLs LP legs ∧ hLg LP legs g_pig m_pig n ∧ (∀ j, j < n → ¬ m_first j = 0) ∧ (∀ p, cnt m_pig p n ≤ 2) ∧ hLs LP hung ∧ hLs LP offered ∧ gM n m_hook m_on ∧ gS n m_should) ∧ (∃ n, n ≤ 60 ∧ ftold = nI n ∧ m_feeds = nI n ∧ ffarm = m_fFarm ∧ ffrom = m_fFrom ∧ fwhat = m_fWhat ∧ fon = m_fTold ∧ (∀ k, k < n → 0 ≤ m_fFrom k)) ∧ wopen = m_isOpen
theorem end_in {n : Nat} {p : Int32} (hn : n ≤ 400) (c : 0 ≤ p ∧ p ≤ nI n) : ∃ m, m ≤ 400 ∧ p = nI m ∧ p = nI m := by
  obtain ⟨j, hj, rfl⟩ := nI_of (i_nlt.mpr c.1)
  exact ⟨j, by have := (nI_leI hj (by omega)).mp c.2; omega, rfl, rfl⟩
theorem day_in {k : Nat} {p : Int32} (hk : k ≤ 200) (e : p = nI k) : 0 ≤ p ∧ p ≤ 200 := by
  rw [e]
  exact ⟨nI_le (a := 0) (Nat.zero_le _) (by omega), nI_le (b := 200) hk (by omega)⟩
theorem day_eq {k k2 : Nat} {p : Int32} (hk : k ≤ 200) (hk2 : k2 ≤ 200) (e : p = nI k) (e2 : p = nI k2) : k = k2 := (nI_eq (by omega) (by omega)).mp (e.symm.trans e2)
theorem cnt_up {g : Nat → Int32} {w : Nat} {v p : Int32} : ∀ i, i ≤ w → cnt (upd g w v) p i = cnt g p i
  | 0, _ => rfl
  | i + 1, h => by
    rw [cnt, cnt, cnt_up i (by omega), show upd g w v i = g i from if_neg (by omega)]
theorem cnt_new {g : Nat → Int32} {w : Nat} {v : Int32} (h : ∀ p, cnt g p w ≤ 2) (h2 : cnt g v w < 2) : ∀ p, cnt (upd g w v) p (w + 1) ≤ 2 := by
  intro p
  rw [cnt, cnt_up w (Nat.le_refl _), show upd g w v w = v from if_pos rfl]
  have := h p
  by_cases e : v = p
  · rw [if_pos e, ← e]; omega
  · rw [if_neg e]; exact this
theorem hLs_new {LP : List Nat} {f : Nat → Option Nat} {k q : Nat} (h : hLs LP f) : hLs (LP ++ [q]) (va_up f k (some q)) := hLs_up (hLs_app h) (List.mem_append_right _ (List.mem_singleton.mpr rfl))
theorem hLg_new {LP : List Nat} {legs : Nat → Option Nat} {g pig : Nat → Int32} {n q : Nat} {v0 p : Int32} (hn : n < 60) (hL : hLs LP legs) (hG : hLg LP legs g pig n) (hq : ¬ q ∈ LP) : hLg (LP ++ [q]) (va_up legs n (some q)) (va_up (va_up g q v0) q p) (upd pig n p) (n + 1) := by
  refine ⟨fun j hj => ?_, fun j h1 h2 => ?_⟩
  · by_cases e : j = n
    · refine ⟨q, ?_, ?_⟩
      · rw [e]; unfold va_up; exact if_pos rfl
      · rw [e, show upd pig n p n = p from if_pos rfl]; unfold va_up; exact if_pos rfl
    · obtain ⟨a, e1, e2⟩ := hG.1 j (by omega)
      have ha : a ≠ q := fun z => hq (by rw [← z]; exact hL _ _ e1)
      refine ⟨a, ?_, ?_⟩
      · rw [← e1]; unfold va_up; exact if_neg e
      · rw [show upd pig n p j = pig j from if_neg e, ← e2]; unfold va_up; rw [if_neg ha, if_neg ha]
  · rw [← hG.2 j (by omega) h2]; unfold va_up; exact if_neg (by omega)
theorem ne5000 {x : Int32} (h : 5000 ≤ x) : ¬ x = 0 := fun e => absurd h (by rw [e]; decide)
theorem hF_new {f : Nat → Int32} {n : Nat} {v : Int32} (h : ∀ j, j < n → ¬ f j = 0) (hv : ¬ v = 0) : ∀ j, j < n + 1 → ¬ upd f n v j = 0 := by
  intro j hj
  by_cases e : j = n
  · rw [show upd f n v j = v from if_pos e]; exact hv
  · rw [show upd f n v j = f j from if_neg e]; exact h j (by omega)
theorem gM_new {n : Nat} {hook on : Nat → Int32} (h : gM n hook on) : gM (n + 1) (upd hook n (-1)) on := by
  refine ⟨fun j hj => ?_, fun k hk => ?_⟩
  · by_cases e : j = n
    · exact Or.inl (if_pos e)
    · rw [show upd hook n (-1) j = hook j from if_neg e]; exact h.1 j (by omega)
  · rcases h.2 k hk with q | ⟨j, hj, q1, q2⟩
    · exact Or.inl q
    · exact Or.inr ⟨j, by omega, q1, by rw [show upd hook n (-1) j = hook j from if_neg (by omega)]; exact q2⟩
theorem gS_new {n : Nat} {sh : Nat → Int32} (h : gS n sh) : gS (n + 1) (upd sh n (-1)) := by
  refine ⟨fun j hj => ?_, fun a b ha hb hab e => ?_⟩
  · by_cases q : j = n
    · exact Or.inl (if_pos q)
    · rw [show upd sh n (-1) j = sh j from if_neg q]; exact h.1 j (by omega)
  · by_cases ea : a = n
    · exact if_pos ea
    · rw [show upd sh n (-1) a = sh a from if_neg ea] at e ⊢
      by_cases eb : b = n
      · rw [show upd sh n (-1) b = -1 from if_pos eb] at e; exact e
      · rw [show upd sh n (-1) b = sh b from if_neg eb] at e
        exact h.2 a b (by omega) (by omega) hab e
theorem f_new {f : Nat → Int32} {n : Nat} {v : Int32} (h : ∀ k, k < n → 0 ≤ f k) (hv : 0 ≤ v) : ∀ k, k < n + 1 → 0 ≤ upd f n v k := by
  intro j hj
  by_cases e : j = n
  · rw [show upd f n v j = v from if_pos e]; exact hv
  · rw [show upd f n v j = f j from if_neg e]; exact h j (by omega)
theorem upd_same {f : Nat → Int32} {k : Nat} {v : Int32} (h : f k = v) : upd f k v = f := by
  funext j
  by_cases e : j = k
  · rw [show upd f k v j = v from if_pos e, e, h]
  · exact if_neg e
theorem nar0 : vp_nar .boolean 0 = 0 := by decide
theorem nar1 : vp_nar .boolean 1 = 1 := by decide
theorem op0 {f : Nat → Int32} {k : Nat} (h : f k = 0) : f = upd f k (vp_nar .boolean 0) := by rw [nar0]; exact (upd_same h).symm
theorem op1 {f : Nat → Int32} {k : Nat} (h : f k = 1) : f = upd f k (vp_nar .boolean 1) := by rw [nar1]; exact (upd_same h).symm
theorem vp_six {L t : Nat} (hL : L < 3073) (h : 6 * t + 6 ≤ L) : vp_in (nI (6 * t)) L ∧ vp_in (nI (6 * t) + 1) L ∧ vp_in (nI (6 * t) + 2) L ∧ vp_in (nI (6 * t) + 3) L ∧ vp_in (nI (6 * t) + 4) L ∧ vp_in (nI (6 * t) + 5) L := by
  refine ⟨vp_in_nI (by omega) (by omega), ?_, ?_, ?_, ?_, ?_⟩
  · exact (nI_add (6 * t) 1) ▸ vp_in_nI (by omega) (by omega)
  · exact (nI_add (6 * t) 2) ▸ vp_in_nI (by omega) (by omega)
  · exact (nI_add (6 * t) 3) ▸ vp_in_nI (by omega) (by omega)
  · exact (nI_add (6 * t) 4) ▸ vp_in_nI (by omega) (by omega)
  · exact (nI_add (6 * t) 5) ▸ vp_in_nI (by omega) (by omega)
theorem fin_ {e : Int32} {A : Prop} (h : e = 0 → A) : (e = e → ((¬ e = 0 → True) ∧ (e = 0 → A))) ∧ (¬ (e = e) → False) := ⟨fun _ => ⟨fun _ => trivial, h⟩, fun c => c rfl⟩
theorem cmp_r (x : Int64) : lg_cmp x x = 0 := by unfold lg_cmp; rw [if_neg (show ¬ x > x from Int64.lt_irrefl), if_pos rfl]
theorem u0 {f : Nat → Int64} {k : Nat} {v : Int64} : vp_updL f k v k = v := if_pos rfl
