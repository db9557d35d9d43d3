/-! ===== BEGIN .. of methods that hand back an object of the pool ===== -/
section
variable {p : Program} {l : Launch} {e : Env} {R : Room} {s : State} {m : MethodId} {args : Array Value} {below : List Frame} {meth : Method} {c : Code} {H : Heap} {locs : List Loc} {cells slots : Nat} {Q : State → Prop}
variable {mc ms : Nat} {free : Addr → Prop} {A0 A1 : Nat → Prop} {H0 : Heap} {a : Array Value} {pc : Nat} {ls : Array Slot} {st0 rest : List Value}
theorem vx_callq {S SX : Type} {post : Option Nat → S → Prop} {px : SX → Prop} {B : S → State → Prop} {BX : String → SX → State → Prop} {AX : Nat → Prop} (hr : vx_Run p l e R s m args below meth c H locs cells slots mc ms (F0 m pc ls st0) rest (va_Qq post B A1 a) (vx_X px BX AX) free) (hS : va_S A0 H0 H locs) (hA : ∀ q, q < H.size → A1 q → A0 q) (hf : ∀ q, free q → A0 q) (hAX : ∀ q, q < H.size → AX q → A0 q)
    (kx : ∀ (E : String) (ce : Cell) (q9 : Addr) (u : SX) (t : State) (H1 : Heap) (locs1 : List Loc), t.heap = H1 → s.vm.Alike t.vm → px u → BX E u t → H.size ≤ H1.size → (∀ q : Nat, q < H.size → ¬ AX q → H1[q]? = H[q]?) → va_S A0 H0 H1 locs1 → H1[q9]? = some ce → ce.vm = .none → s.vm.findClass E = some ce.cls → vx_W p l e R s m args below meth c H1 locs1 (cells + mc) (slots + ms) Q (F0 m pc ls rest) q9)
    (kk : ∀ (r : Option Nat) (u : S) (t : State) (H1 : Heap) (locs1 : List Loc), t.heap = H1 → s.vm.Alike t.vm → post r u → B u t → H.size ≤ H1.size → (∀ q : Nat, q < H.size → ¬ A1 q → H1[q]? = H[q]?) → va_S A0 H0 H1 locs1 → W p l e R s m args below meth c H1 locs1 (cells + mc) (slots + ms) Q (F0 m (pc + 3) ls (va_rf r :: rest))) : W p l e R s m args below meth c H locs cells slots Q (F0 m pc ls st0) := by
  intro T hT X
  rcases hr T hT X with ⟨v, st₀, t, T', L, h0, X', hL, e1, e2, ⟨⟨r, u, hv, hp, hb⟩, hF⟩, st⟩ | ⟨q, st₀, t, T', L, E, ce, h0, X', hL, e1, e2, ⟨u, hp, hb, hF⟩, hce, hcv, hcl, st⟩
  · cases hv
    obtain ⟨k1, k2, k3⟩ := vx_keep h0 e1 hS hA hf hL hF
    obtain ⟨t2, a1, b1⟩ := kk r u t T'.heap (locs ++ L) e1.symm (by rw [← e2]; exact X'.warmed.alike) hp hb k1 k2 k3 T' rfl X'
    exact ⟨t2, st t2 a1, b1⟩
  · obtain ⟨k1, k2, k3⟩ := vx_keep h0 e1 hS hAX hf hL hF
    obtain ⟨t2, a1, b1⟩ := kx E ce q u t T'.heap (locs ++ L) e1.symm (by rw [← e2]; exact X'.warmed.alike) hp hb k1 k2 k3 (by rw [e1]; exact hce) hcv hcl T' rfl X'
    exact ⟨t2, st.trans a1, b1⟩
end
/-! ===== END ===== -/
def o01 (r : Int32) : Prop := r = 0 ∨ r = 1
theorem kS_recv {ad : Nat → Nat} {A : Nat → Prop} {s : State} {H : Heap} {locs : List Loc} {i : Nat} (hE : kE ad A s) (hS : va_S A s.heap H locs) (hi : i < 5) : ∃ cell : Cell, H[ad (40 + i)]? = some cell ∧ cell.vm.isStatics = false ∧ s.vm.findClass RJ0 = some cell.cls := by
  obtain ⟨cell, h1, h2, h3, -⟩ := (hE.2.2.2.2.1.1 i hi).1.kept hS.2.1
  exact ⟨cell, h1, h2, h3⟩
theorem fs14 : ∀ j, j < 14 → defaultValue (tyX3 j) = vp_V [.int 0, .int 0, .int 0, .int 0, .int 0, .int 0, .int 0, .int 0, .int 0, .int 0, .int 0, .int 0, .int 0, .int 0] j := by
  intro j hj
  match j, hj with
  | 0, _ => rfl
  | 1, _ => rfl
  | 2, _ => rfl
  | 3, _ => rfl
  | 4, _ => rfl
  | 5, _ => rfl
  | 6, _ => rfl
  | 7, _ => rfl
  | 8, _ => rfl
  | 9, _ => rfl
  | 10, _ => rfl
  | 11, _ => rfl
  | 12, _ => rfl
  | 13, _ => rfl
  | n + 14, h => exact absurd h (by omega)
theorem lgN (g_number g_farm g_pig g_first g_begun g_weight g_salted g_heat g_place g_target g_feedAsked g_sealed g_bad g_sold : Nat → Int32) (q : Nat) : va_up (lgF g_number g_farm g_pig g_first g_begun g_weight g_salted g_heat g_place g_target g_feedAsked g_sealed g_bad g_sold) q (.inr (3, [.int 0, .int 0, .int 0, .int 0, .int 0, .int 0, .int 0, .int 0, .int 0, .int 0, .int 0, .int 0, .int 0, .int 0])) = lgF (va_up g_number q 0) (va_up g_farm q 0) (va_up g_pig q 0) (va_up g_first q 0) (va_up g_begun q 0) (va_up g_weight q 0) (va_up g_salted q 0) (va_up g_heat q 0) (va_up g_place q 0) (va_up g_target q 0) (va_up g_feedAsked q 0) (va_up g_sealed q 0) (va_up g_bad q 0) (va_up g_sold q 0) := by
  funext a
  by_cases h : a = q
  · subst h
    simp [va_up, lgF]
  · simp [va_up, lgF, h]
theorem wA_new {ad : Nat → Nat} {cB cI cZ cL : ClassId} {LP : List Nat} {today legCount : Int32} {legs hung : Nat → Option Nat} {warmth damp wopen : Nat → Int32} {tsize : Int32} {bytes : Nat → Int32} {rat rtold rwrong : Int32} {numbers asked : Nat → Int32} {ftold : Int32} {ffarm ffrom fwhat fon : Nat → Int32} {csize ctotal : Int32} {offered : Nat → Option Nat} {cws cwa g_number g_farm g_pig g_first g_begun g_weight g_salted g_heat g_place g_target g_feedAsked g_sealed g_bad g_sold : Nat → Int32} {q : Nat} (hq : ¬ q ∈ LP) : (wA ad cB cI cZ cL LP today legCount legs hung warmth damp wopen tsize bytes rat rtold rwrong numbers asked ftold ffarm ffrom fwhat fon csize ctotal offered cws cwa g_number g_farm g_pig g_first g_begun g_weight g_salted g_heat g_place g_target g_feedAsked g_sealed g_bad g_sold) ++ [(q, .inr (3, [.int 0, .int 0, .int 0, .int 0, .int 0, .int 0, .int 0, .int 0, .int 0, .int 0, .int 0, .int 0, .int 0, .int 0]))] = wA ad cB cI cZ cL (LP ++ [q]) today legCount legs hung warmth damp wopen tsize bytes rat rtold rwrong numbers asked ftold ffarm ffrom fwhat fon csize ctotal offered cws cwa (va_up g_number q 0) (va_up g_farm q 0) (va_up g_pig q 0) (va_up g_first q 0) (va_up g_begun q 0) (va_up g_weight q 0) (va_up g_salted q 0) (va_up g_heat q 0) (va_up g_place q 0) (va_up g_target q 0) (va_up g_feedAsked q 0) (va_up g_sealed q 0) (va_up g_bad q 0) (va_up g_sold q 0) := by
  unfold wA
  rw [← lgN, ← va_pl_push hq, List.append_assoc]
