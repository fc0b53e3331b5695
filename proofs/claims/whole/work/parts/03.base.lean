/-! what is given at every method's start; contracts by heap facts; calls -/
def gB (D : va_G) (cs : Nat → ClassId) (N0 : Nat) (U : State) : Prop := va_K D vwCl (tyl cs) U ∧ N0 ≤ U.heap.size ∧ gW U ∧ gH N0 (cs 9) (cs 8) U
theorem gB.moved {D : va_G} {cs : Nat → ClassId} {N0 : Nat} {u U : State} (hW : u.WarmedH U.vm) (hz : u.heap.size ≤ U.heap.size) (hh : ∀ q : Nat, q < N0 → U.heap[q]? = u.heap[q]?) (h : gB D cs N0 u) : gB D cs N0 U := ⟨va_K.moved hW.alike h.1, Nat.le_trans h.2.1 hz, h.2.2.1.moved hW, h.2.2.2.moved hW.alike hh⟩
abbrev hPre (D : va_G) (cs : Nat → ClassId) (N0 : Nat) (av : List Value) (H : Heap) : Array Value → State → Prop := va_Pc av (fun U => U.heap = H ∧ gB D cs N0 U)
abbrev hQi (post : Int32 → Heap → Prop) (A : Nat → Prop) : Array Value → State → Outcome → State → Prop := va_Qi (S := Heap) post (fun u t => t.heap = u) A
abbrev hQv (post : Heap → Prop) (A : Nat → Prop) : Array Value → State → Outcome → State → Prop := va_Qv (S := Heap) post (fun u t => t.heap = u) A
abbrev hQq (post : Option Nat → Heap → Prop) (A : Nat → Prop) : Array Value → State → Outcome → State → Prop := va_Qq (S := Heap) post (fun u t => t.heap = u) A
theorem hPre.blind {D : va_G} {cs : Nat → ClassId} {N0 : Nat} {av : List Value} {H : Heap} : FrameBlind (hPre D cs N0 av H) := fun _ U _ _ q => ⟨q.1, q.2.1, gB.moved (u := U) (State.WarmedH.refl U) (Nat.le_refl _) (fun _ _ => rfl) q.2.2⟩
theorem hPre.at {D : va_G} {cs : Nat → ClassId} {N0 : Nat} {av : List Value} {H : Heap} {s : State} {A : Nat → Prop} {locs : List Loc} (hB : gB D cs N0 s) (hS : va_S A s.heap H locs) (hA : ∀ q, A q → N0 ≤ q) : ∀ U : State, U.heap = H → s.WarmedH U.vm → hPre D cs N0 av H av.toArray U :=
  fun U hU hW => ⟨rfl, hU, gB.moved hW (by rw [hU]; exact hS.1) (fun q hq => by rw [hU]; exact hS.2.1 q (Nat.lt_of_lt_of_le hq hB.2.1) (fun h => absurd (hA q h) (Nat.not_le.mpr hq))) hB⟩
section HC
variable {p : Program} {l : Launch} {e : Env} {R : Room} {s : State} {m : MethodId} {args : Array Value} {below : List Frame} {meth : Method} {c : Code} {H : Heap} {locs : List Loc} {cells slots : Nat} {Q : State → Prop}
variable {cc : ByteArray} {pc mc ms : Nat} {ls : Array Slot} {rest st0 : List Value} {A0 A1 : Nat → Prop} {H0 : Heap} {av : Array Value}
theorem lv_eqi {x y : Int32} (h : x = y) (k : W p l e R s m args below meth c H locs cells slots Q (F0 m pc ls (.int y :: rest))) : W p l e R s m args below meth c H locs cells slots Q (F0 m pc ls (.int x :: rest)) := h ▸ k
theorem h_calli {post : Int32 → Heap → Prop} (hr : va_Run p l e R s m args below meth c H locs cells slots mc ms (F0 m pc ls st0) rest (hQi post A1 av) A1) (hS : va_S A0 H0 H locs) (hA : ∀ q, A1 q → A0 q)
    (kk : ∀ (r : Int32) (H1 : Heap) (locs1 : List Loc), post r H1 → H.size ≤ H1.size → (∀ q : Nat, q < H.size → ¬ A1 q → H1[q]? = H[q]?) → va_S A0 H0 H1 locs1 → W p l e R s m args below meth c H1 locs1 (cells + mc) (slots + ms) Q (F0 m (pc + 3) ls (.int r :: rest))) : W p l e R s m args below meth c H locs cells slots Q (F0 m pc ls st0) :=
  va_calli hr hS (fun q _ h => hA q h) hA (fun r u t H1 locs1 ht _ hp hb hz hk hS1 => by
    have hu : u = H1 := hb.symm.trans ht
    subst hu
    exact kk r u locs1 hp hz hk hS1)
theorem h_callv {post : Heap → Prop} (hr : va_Run p l e R s m args below meth c H locs cells slots mc ms (F0 m pc ls st0) rest (hQv post A1 av) A1) (hS : va_S A0 H0 H locs) (hA : ∀ q, A1 q → A0 q)
    (kk : ∀ (H1 : Heap) (locs1 : List Loc), post H1 → H.size ≤ H1.size → (∀ q : Nat, q < H.size → ¬ A1 q → H1[q]? = H[q]?) → va_S A0 H0 H1 locs1 → W p l e R s m args below meth c H1 locs1 (cells + mc) (slots + ms) Q (F0 m (pc + 3) ls rest)) : W p l e R s m args below meth c H locs cells slots Q (F0 m pc ls st0) :=
  va_callv hr hS (fun q _ h => hA q h) hA (fun u t H1 locs1 ht _ hp hb hz hk hS1 => by
    have hu : u = H1 := hb.symm.trans ht
    subst hu
    exact kk u locs1 hp hz hk hS1)
end HC
/-! the reference's state: int fields i (thrown, padded, names, merges, pairs, finds), arrays f at the addresses g -/
def md_fs (g : Nat → Nat) (i : Nat → Int32) : List Value := [.int (i 0), .int (i 1), .ref (g 0), .int (i 2), .ref (g 1), .ref (g 2), .ref (g 3), .ref (g 4), .ref (g 5), .ref (g 6), .ref (g 7), .ref (g 8), .ref (g 9), .ref (g 10), .ref (g 11), .ref (g 12), .int (i 3), .ref (g 13), .ref (g 14), .ref (g 15), .ref (g 16), .ref (g 17), .int (i 4), .ref (g 18), .ref (g 19), .int (i 5), .ref (g 20), .ref (g 21)]
def md_ty (k : Nat) : Nat := match k with
  | 10 => 1
  | 11 => 1
  | _ => 0
def md_len (k : Nat) : Nat := match k with
  | 0 => 12 | 1 => 24 | 2 => 96 | 3 => 1152 | 4 => 96 | 5 => 96 | 6 => 96 | 7 => 24 | 8 => 24 | 9 => 576 | 10 => 576 | 11 => 576 | 12 => 96 | 13 => 60 | 14 => 60 | 15 => 60 | 16 => 60 | 17 => 24 | 18 => 276 | 19 => 276 | 20 => 24
  | _ => 169
def md_I (D : va_G) (cs : Nat → ClassId) (H : Heap) (x : Nat) (g : Nat → Nat) (i : Nat → Int32) (f : Nat → Nat → Int32) : Prop := va_at D vwCl (x, .inr (0, md_fs g i)) H ∧ ∀ k, k < 22 → va_at D vwCl (g k, .inl (cs (md_ty k), (md_len k, .inl (f k)))) H
def md_sep (N0 x : Nat) (g : Nat → Nat) : Prop := N0 ≤ x ∧ (∀ k, k < 22 → g k ≠ x ∧ N0 ≤ g k) ∧ ∀ j k, j < 22 → k < 22 → g j = g k → j = k
def md_A (x : Nat) (g : Nat → Nat) : Nat → Prop := fun q => q = x ∨ ∃ k, k < 22 ∧ q = g k
def updA (f : Nat → Nat → Int32) (k j : Nat) (v : Int32) : Nat → Nat → Int32 := fun a => if a = k then upd (f k) j v else f a
theorem md_sep.A {N0 x : Nat} {g : Nat → Nat} (h : md_sep N0 x g) : ∀ q, md_A x g q → N0 ≤ q := fun q hq => by
  rcases hq with rfl | ⟨k, hk, rfl⟩
  · exact h.1
  · exact (h.2.1 k hk).2
theorem md_I.puti {D : va_G} {cs : Nat → ClassId} {N0 x : Nat} {g : Nat → Nat} {i i' : Nat → Int32} {f : Nat → Nat → Int32} {H H1 : Heap} {fs : List Value} (h : md_I D cs H x g i f) (hs : md_sep N0 x g) (hat : va_at D vwCl (x, .inr (0, fs)) H1) (ho : ∀ q : Nat, q ≠ x → H1[q]? = H[q]?) (hf : fs = md_fs g i') : md_I D cs H1 x g i' f :=
  ⟨hf ▸ hat, fun k hk => hx_keep (h.2 k hk) (ho _ (hs.2.1 k hk).1)⟩
theorem md_I.puta {D : va_G} {cs : Nat → ClassId} {N0 x k j : Nat} {v : Int32} {g : Nat → Nat} {i : Nat → Int32} {f : Nat → Nat → Int32} {H H1 : Heap} (h : md_I D cs H x g i f) (hs : md_sep N0 x g) (hk : k < 22) (hat : va_at D vwCl (g k, .inl (cs (md_ty k), (md_len k, .inl (upd (f k) j v)))) H1) (ho : ∀ q : Nat, q ≠ g k → H1[q]? = H[q]?) : md_I D cs H1 x g i (updA f k j v) := by
  refine ⟨hx_keep h.1 (ho _ (fun e => (hs.2.1 k hk).1 e.symm)), fun a ha => ?_⟩
  by_cases hak : a = k
  · subst hak
    rw [show updA f a j v a = upd (f a) j v from if_pos rfl]
    exact hat
  · rw [show updA f k j v a = f a from if_neg hak]
    exact hx_keep (h.2 a ha) (ho _ (fun e => hak (hs.2.2 a k ha hk e)))
theorem updA_self (f : Nat → Nat → Int32) (k j : Nat) (v : Int32) : updA f k j v k = upd (f k) j v := if_pos rfl
theorem updA_ne {f : Nat → Nat → Int32} {k j a : Nat} {v : Int32} (h : a ≠ k) : updA f k j v a = f a := if_neg h
theorem upd_ne {f : Nat → Int32} {k j : Nat} {v : Int32} (h : j ≠ k) : upd f k v j = f j := if_neg h
theorem upd_self {f : Nat → Int32} {k : Nat} {v : Int32} : upd f k v k = v := if_pos rfl
