/-! THE CLASS'S HEAP. Its objects have roles (k, n): o their addresses, z their sizes, K their ints; r says which role an address has (50: none). -/
def nmL (cs : Nat → ClassId) (sz : Nat) (ad : Nat) : Nat := if sz = 0 then cs 9 else ad
def nmE (cs : Nat → ClassId) (o z : Nat → Nat → Nat) (g : Nat → Int32) (k n : Nat) : va_E := match k with
  | 0 => .inr (1, [.ref (o 1 0), .ref (o 3 0), .ref (o 5 0), .ref (o 7 0), .ref (o 8 0), .int (nI (z 0 0)), .int (g 0), .ref (o 9 0)])
  | 1 => .inr (7, [.ref (o 2 0), .int 0, .int (g 0), .int (nI (z 1 0))])
  | 2 => .inl (cs 2, (16, .inl g))
  | 3 => .inr (6, [.ref (nmL cs (z 3 0) (o 4 0)), .int (nI (z 3 0)), .int (g 0)])
  | 4 => .inl (cs 4, (z 4 0, .inr (.inr (.inr (.inr (fun j => if j < z 3 0 then some (o 10 j) else none))))))
  | 5 => .inr (6, [.ref (nmL cs (z 5 0) (o 6 0)), .int (nI (z 5 0)), .int (g 0)])
  | 6 => .inl (cs 4, (z 6 0, .inr (.inr (.inr (.inr (fun j => if j < z 5 0 then some (o 19 j) else none))))))
  | 7 => .inl (cs 0, (576, .inl g))
  | 8 => .inl (cs 0, (276, .inl g))
  | 9 => .inl (cs 0, (13, .inl g))
  | 10 => .inr (2, [.ref (o 11 n), .ref (o 13 n), va_rf (if z 14 n = 0 then none else some (o 14 n)), .int (g 0), .int (g 1), .int (g 2), .int (g 3)])
  | 11 => .inr (6, [.ref (nmL cs (z 11 n) (o 12 n)), .int (nI (z 11 n)), .int (g 0)])
  | 12 => .inl (cs 4, (10, .inr (.inr (.inr (.inr (fun j => if j < z 11 n then some (o 15 (n * 4 + j)) else none))))))
  | 13 => .inl (cs 0, (4, .inl g))
  | 14 => .inr (4, [.int (g 0), .int (g 1)])
  | 15 => .inr (3, [.ref (o 16 n), .ref (o 18 n)])
  | 16 => .inr (8, [.ref (o 17 n), .int 0, .int (g 0), .int (g 1)])
  | 17 => .inl (cs 2, (z 17 n, .inl g))
  | 18 => .inr (4, [.int (g 0), .int (g 1)])
  | _ => .inr (5, [.int (g 0), .int (g 1), .int (g 2)])
/-- which roles there are -/
def nmv (z : Nat → Nat → Nat) (k n : Nat) : Prop := match k with
  | 0 => n = 0 | 1 => n = 0 | 2 => n = 0 | 3 => n = 0 | 5 => n = 0 | 7 => n = 0 | 8 => n = 0 | 9 => n = 0
  | 4 => n = 0 ∧ 0 < z 3 0
  | 6 => n = 0 ∧ 0 < z 5 0
  | 10 => n < z 3 0 | 11 => n < z 3 0 | 13 => n < z 3 0
  | 12 => n < z 3 0 ∧ 0 < z 11 n
  | 14 => n < z 3 0 ∧ 0 < z 14 n
  | 15 => n / 4 < z 3 0 ∧ n % 4 < z 11 (n / 4) | 16 => n / 4 < z 3 0 ∧ n % 4 < z 11 (n / 4) | 17 => n / 4 < z 3 0 ∧ n % 4 < z 11 (n / 4) | 18 => n / 4 < z 3 0 ∧ n % 4 < z 11 (n / 4)
  | 19 => n < z 5 0
  | _ => False
def sgN (x : Int32) : Prop := ∃ j : Nat, 97 ≤ j ∧ j ≤ 122 ∧ x = nI j
def nmB (z : Nat → Nat → Nat) : Prop := z 0 0 ≤ 276 ∧ z 1 0 ≤ 12 ∧ z 3 0 ≤ 24 ∧ z 5 0 ≤ 60 ∧ (z 3 0 ≤ z 4 0 ∧ 10 ≤ z 4 0 ∧ z 4 0 < 100) ∧ (z 5 0 ≤ z 6 0 ∧ 10 ≤ z 6 0 ∧ z 6 0 < 100) ∧ (∀ n, z 11 n ≤ 4) ∧ ∀ n, z 17 n ≤ 12
def nmK (z : Nat → Nat → Nat) (K : Nat → Nat → Nat → Int32) : Prop := (∀ j, j < z 1 0 → sgN (K 2 0 j)) ∧ ∀ n j, n / 4 < z 3 0 → n % 4 < z 11 (n / 4) → j < z 17 n → sgN (K 17 n j)
def nmP (D : va_G) (cs : Nat → ClassId) (N0 : Nat) (H : Heap) (o z : Nat → Nat → Nat) (K : Nat → Nat → Nat → Int32) (r : Nat → Nat × Nat) : Prop :=
  (∀ k n, nmv z k n → va_at D vwCl (o k n, nmE cs o z (K k n) k n) H ∧ r (o k n) = (k, n)) ∧ (∀ q, (r q).1 < 20 → N0 ≤ q) ∧ nmB z ∧ nmK z K
theorem nmv_lt {z : Nat → Nat → Nat} {k n : Nat} (h : nmv z k n) : k < 20 := by
  rcases Nat.lt_or_ge k 20 with h9 | h9
  · exact h9
  · obtain ⟨k', rfl⟩ : ∃ k', k = 20 + k' := ⟨k - 20, by omega⟩
    rw [Nat.add_comm] at h
    exact h.elim
abbrev nmA (r : Nat → Nat × Nat) (N : Nat) : Nat → Prop := fun q => (r q).1 < 20 ∨ N ≤ q
def upZ (z : Nat → Nat → Nat) (k n v : Nat) : Nat → Nat → Nat := fun a b => if a = k ∧ b = n then v else z a b
def upK (K : Nat → Nat → Nat → Int32) (k n : Nat) (g : Nat → Int32) : Nat → Nat → Nat → Int32 := fun a b => if a = k ∧ b = n then g else K a b
theorem upZ_s {z : Nat → Nat → Nat} {k n v : Nat} : upZ z k n v k n = v := if_pos ⟨rfl, rfl⟩
theorem upZ_n {z : Nat → Nat → Nat} {k n v a b : Nat} (h : ¬ (a = k ∧ b = n)) : upZ z k n v a b = z a b := if_neg h
theorem upK_s {K : Nat → Nat → Nat → Int32} {k n : Nat} {g : Nat → Int32} : upK K k n g k n = g := if_pos ⟨rfl, rfl⟩
theorem upK_n {K : Nat → Nat → Nat → Int32} {k n a b : Nat} {g : Nat → Int32} (h : ¬ (a = k ∧ b = n)) : upK K k n g a b = K a b := if_neg h
section NM
variable {D : va_G} {cs : Nat → ClassId} {N0 : Nat} {H H1 : Heap} {o z : Nat → Nat → Nat} {K : Nat → Nat → Nat → Int32} {r : Nat → Nat × Nat}
theorem nmP.at (hI : nmP D cs N0 H o z K r) {k n : Nat} (hv : nmv z k n) : va_at D vwCl (o k n, nmE cs o z (K k n) k n) H := (hI.1 k n hv).1
theorem nmP.lt (hI : nmP D cs N0 H o z K r) {k n : Nat} (hv : nmv z k n) : o k n < H.size := hx_lt (hI.1 k n hv).1
theorem nmP.ge (hI : nmP D cs N0 H o z K r) {k n : Nat} (hv : nmv z k n) : N0 ≤ o k n := hI.2.1 _ (by rw [(hI.1 k n hv).2]; exact nmv_lt hv)
theorem nmP.ne (hI : nmP D cs N0 H o z K r) {k n k' n' : Nat} (hv : nmv z k n) (hv' : nmv z k' n') (h : k ≠ k' ∨ n ≠ n') : o k n ≠ o k' n' := fun e => by
  have e2 := (hI.1 k n hv).2
  rw [e, (hI.1 k' n' hv').2] at e2
  injection e2 with e3 e4
  rcases h with h | h
  · exact h e3.symm
  · exact h e4.symm
theorem nmP.inA (hI : nmP D cs N0 H o z K r) {k n N : Nat} (hv : nmv z k n) : nmA r N (o k n) := Or.inl (by rw [(hI.1 k n hv).2]; exact nmv_lt hv)
theorem nmP.keep (hI : nmP D cs N0 H o z K r) (ho : ∀ k n, nmv z k n → H1[o k n]? = H[o k n]?) : nmP D cs N0 H1 o z K r :=
  ⟨fun k n hv => ⟨hx_keep (hI.1 k n hv).1 (ho k n hv), (hI.1 k n hv).2⟩, hI.2⟩
/-- ints of one object are written -/
theorem nmP.put (hI : nmP D cs N0 H o z K r) {k0 n0 : Nat} {g : Nat → Int32} (hv : nmv z k0 n0) (hk0 : k0 ≠ 2 ∧ k0 ≠ 17) (hat : va_at D vwCl (o k0 n0, nmE cs o z g k0 n0) H1) (ho : ∀ q : Nat, q < H.size → q ≠ o k0 n0 → H1[q]? = H[q]?) : nmP D cs N0 H1 o z (upK K k0 n0 g) r := by
  refine ⟨fun k n hv' => ?_, hI.2.1, hI.2.2.1, ?_, ?_⟩
  · by_cases h : k = k0 ∧ n = n0
    · obtain ⟨rfl, rfl⟩ := h
      rw [upK_s]
      exact ⟨hat, (hI.1 k n hv).2⟩
    · rw [upK_n h]
      exact ⟨hx_keep (hI.1 k n hv').1 (ho _ (hI.lt hv') (hI.ne hv' hv (by omega))), (hI.1 k n hv').2⟩
  · intro j hj
    rw [upK_n (by omega)]
    exact hI.2.2.2.1 j hj
  · intro n j h1 h2 hj
    rw [upK_n (by omega)]
    exact hI.2.2.2.2 n j h1 h2 hj
theorem upK_up {k n : Nat} {g g' : Nat → Int32} : upK (upK K k n g) k n g' = upK K k n g' := by
  funext a b
  unfold upK
  by_cases h : a = k ∧ b = n
  · rw [if_pos h, if_pos h]
  · rw [if_neg h, if_neg h, if_neg h]
theorem upK_self {k n : Nat} : upK K k n (K k n) = K := by
  funext a b
  unfold upK
  by_cases h : a = k ∧ b = n
  · rw [if_pos h, h.1, h.2]
  · rw [if_neg h]
/-- the room for the longest shared signs is written -/
theorem nmP.put9 {w g : Nat → Int32} (hI : nmP D cs N0 H o z (upK K 9 0 w) r) (hat : va_at D vwCl (o 9 0, .inl (cs 0, (13, .inl g))) H1) (ho : ∀ q : Nat, q < H.size → q ≠ o 9 0 → H1[q]? = H[q]?) : nmP D cs N0 H1 o z (upK K 9 0 g) r := by
  have h := hI.put (k0 := 9) (n0 := 0) (g := g) rfl (by decide) hat ho
  rw [upK_up] at h
  exact h
theorem nmP.to9 (hI : nmP D cs N0 H o z K r) : nmP D cs N0 H o z (upK K 9 0 (K 9 0)) r := by rw [upK_self]; exact hI
end NM
