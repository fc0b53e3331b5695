/-! sizes of the class's heap change -/
theorem upZ_up {z : Nat → Nat → Nat} {k n a b : Nat} : upZ (upZ z k n a) k n b = upZ z k n b := by
  funext x y
  unfold upZ
  by_cases h : x = k ∧ y = n
  · rw [if_pos h, if_pos h]
  · rw [if_neg h, if_neg h, if_neg h]
theorem upZ_self {z : Nat → Nat → Nat} {k n : Nat} : upZ z k n (z k n) = z := by
  funext x y
  unfold upZ
  by_cases h : x = k ∧ y = n
  · rw [if_pos h, h.1, h.2]
  · rw [if_neg h]
theorem upK_comm {K : Nat → Nat → Nat → Int32} {k n k' n' : Nat} {g g' : Nat → Int32} (h : k ≠ k') : upK (upK K k n g) k' n' g' = upK (upK K k' n' g') k n g := by
  funext a b
  unfold upK
  by_cases h1 : a = k ∧ b = n
  · have h2 : ¬ (a = k' ∧ b = n') := by omega
    rw [if_neg h2, if_pos h1, if_pos h1]
  · rw [if_neg h1, if_neg h1]
theorem upd_up {f : Nat → Int32} {k : Nat} {a b : Int32} : upd (upd f k a) k b = upd f k b := by
  funext x
  unfold upd
  by_cases h : x = k
  · rw [if_pos h, if_pos h]
  · rw [if_neg h, if_neg h, if_neg h]
theorem nmv_up0 {z : Nat → Nat → Nat} {m : Nat} : ∀ {k n : Nat}, nmv (upZ z 0 0 m) k n = nmv z k n
  | 0, _ => rfl | 1, _ => rfl | 2, _ => rfl | 3, _ => rfl | 4, _ => rfl | 5, _ => rfl | 6, _ => rfl | 7, _ => rfl | 8, _ => rfl | 9, _ => rfl | 10, _ => rfl | 11, _ => rfl | 12, _ => rfl | 13, _ => rfl | 14, _ => rfl | 15, _ => rfl | 16, _ => rfl | 17, _ => rfl | 18, _ => rfl | 19, _ => rfl | _ + 20, _ => rfl
theorem nmv_up1 {z : Nat → Nat → Nat} {m : Nat} : ∀ {k n : Nat}, nmv (upZ z 1 0 m) k n = nmv z k n
  | 0, _ => rfl | 1, _ => rfl | 2, _ => rfl | 3, _ => rfl | 4, _ => rfl | 5, _ => rfl | 6, _ => rfl | 7, _ => rfl | 8, _ => rfl | 9, _ => rfl | 10, _ => rfl | 11, _ => rfl | 12, _ => rfl | 13, _ => rfl | 14, _ => rfl | 15, _ => rfl | 16, _ => rfl | 17, _ => rfl | 18, _ => rfl | 19, _ => rfl | _ + 20, _ => rfl
theorem nmE_up0 {cs : Nat → ClassId} {o z : Nat → Nat → Nat} {m : Nat} {g : Nat → Int32} : ∀ {k n : Nat}, k ≠ 0 → nmE cs o (upZ z 0 0 m) g k n = nmE cs o z g k n
  | 0, _, h => absurd rfl h | 1, _, _ => rfl | 2, _, _ => rfl | 3, _, _ => rfl | 4, _, _ => rfl | 5, _, _ => rfl | 6, _, _ => rfl | 7, _, _ => rfl | 8, _, _ => rfl | 9, _, _ => rfl | 10, _, _ => rfl | 11, _, _ => rfl | 12, _, _ => rfl | 13, _, _ => rfl | 14, _, _ => rfl | 15, _, _ => rfl | 16, _, _ => rfl | 17, _, _ => rfl | 18, _, _ => rfl | 19, _, _ => rfl | _ + 20, _, _ => rfl
theorem nmE_up1 {cs : Nat → ClassId} {o z : Nat → Nat → Nat} {m : Nat} {g : Nat → Int32} : ∀ {k n : Nat}, k ≠ 1 → nmE cs o (upZ z 1 0 m) g k n = nmE cs o z g k n
  | 1, _, h => absurd rfl h | 0, _, _ => rfl | 2, _, _ => rfl | 3, _, _ => rfl | 4, _, _ => rfl | 5, _, _ => rfl | 6, _, _ => rfl | 7, _, _ => rfl | 8, _, _ => rfl | 9, _, _ => rfl | 10, _, _ => rfl | 11, _, _ => rfl | 12, _, _ => rfl | 13, _, _ => rfl | 14, _, _ => rfl | 15, _, _ => rfl | 16, _, _ => rfl | 17, _, _ => rfl | 18, _, _ => rfl | 19, _, _ => rfl | _ + 20, _, _ => rfl
section NMZ
variable {D : va_G} {cs : Nat → ClassId} {N0 : Nat} {H H1 : Heap} {o z : Nat → Nat → Nat} {K : Nat → Nat → Nat → Int32} {r : Nat → Nat × Nat}
theorem nmv_z {k : Nat} {n : Nat} (hk : k ≤ 3) (h : nmv z k n) : n = 0 := by
  match k, hk with
  | 0, _ => exact h
  | 1, _ => exact h
  | 2, _ => exact h
  | 3, _ => exact h
/-- the pad has other signs -/
theorem nmP.pad (hI : nmP D cs N0 H o z K r) {m : Nat} {ml : Int32} {g : Nat → Int32} (h1 : va_at D vwCl (o 1 0, .inr (7, [.ref (o 2 0), .int 0, .int ml, .int (nI m)])) H1) (h2 : va_at D vwCl (o 2 0, .inl (cs 2, (16, .inl g))) H1) (ho : ∀ q : Nat, q < H.size → q ≠ o 1 0 → q ≠ o 2 0 → H1[q]? = H[q]?) (hm : m ≤ 12) (hg : ∀ j, j < m → sgN (g j)) : nmP D cs N0 H1 o (upZ z 1 0 m) (upK (upK K 1 0 (fun _ => ml)) 2 0 g) r := by
  have hB := hI.2.2.1
  refine ⟨fun k n hv' => ?_, hI.2.1, ⟨hB.1, hm, hB.2.2⟩, fun j hj => hg j hj, fun n j a b c => hI.2.2.2.2 n j a b c⟩
  have hv : nmv z k n := nmv_up1 ▸ hv'
  refine ⟨?_, (hI.1 k n hv).2⟩
  by_cases hk1 : k = 1
  · subst hk1
    cases nmv_z (by decide) hv
    exact h1
  · by_cases hk2 : k = 2
    · subst hk2
      cases nmv_z (by decide) hv
      exact h2
    · rw [upK_n (by omega), upK_n (by omega), nmE_up1 hk1]
      exact hx_keep (hI.1 k n hv).1 (ho _ (hI.lt hv) (hI.ne hv (k' := 1) (n' := 0) rfl (Or.inl hk1)) (hI.ne hv (k' := 2) (n' := 0) rfl (Or.inl hk2)))
/-- the count of found pairs is another -/
theorem nmP.cnt (hI : nmP D cs N0 H o z K r) {m : Nat} (h1 : va_at D vwCl (o 0 0, nmE cs o (upZ z 0 0 m) (K 0 0) 0 0) H1) (ho : ∀ q : Nat, q < H.size → q ≠ o 0 0 → H1[q]? = H[q]?) (hm : m ≤ 276) : nmP D cs N0 H1 o (upZ z 0 0 m) K r := by
  have hB := hI.2.2.1
  refine ⟨fun k n hv' => ?_, hI.2.1, ⟨hm, hB.2⟩, hI.2.2.2.1, fun n j a b c => hI.2.2.2.2 n j a b c⟩
  have hv : nmv z k n := nmv_up0 ▸ hv'
  refine ⟨?_, (hI.1 k n hv).2⟩
  by_cases hk1 : k = 0
  · subst hk1
    cases nmv_z (by decide) hv
    exact h1
  · rw [nmE_up0 hk1]
    exact hx_keep (hI.1 k n hv).1 (ho _ (hI.lt hv) (hI.ne hv (k' := 0) (n' := 0) rfl (Or.inl hk1)))
theorem nmP.toc (hI : nmP D cs N0 H o z K r) : nmP D cs N0 H o (upZ z 0 0 (z 0 0)) K r := by rw [upZ_self]; exact hI
theorem nmP.keep2 (hI : nmP D cs N0 H o z K r) (h2 : va_at D vwCl (o 2 0, .inl (cs 2, (16, .inl (K 2 0)))) H1) (ho : ∀ q : Nat, q < H.size → q ≠ o 2 0 → H1[q]? = H[q]?) : nmP D cs N0 H1 o z K r := by
  refine ⟨fun k n hv => ⟨?_, (hI.1 k n hv).2⟩, hI.2⟩
  by_cases hk2 : k = 2
  · subst hk2
    cases nmv_z (by decide) hv
    exact h2
  · exact hx_keep (hI.1 k n hv).1 (ho _ (hI.lt hv) (hI.ne hv (k' := 2) (n' := 0) rfl (Or.inl hk2)))
theorem nmP.put0 {a v : Int32} (hI : nmP D cs N0 H o z (upK K 0 0 (upd (K 0 0) 0 a)) r) (hat : va_at D vwCl (o 0 0, nmE cs o z (upd (K 0 0) 0 v) 0 0) H1) (ho : ∀ q : Nat, q < H.size → q ≠ o 0 0 → H1[q]? = H[q]?) : nmP D cs N0 H1 o z (upK K 0 0 (upd (K 0 0) 0 v)) r := by
  have h := hI.put (k0 := 0) (n0 := 0) (g := upd (K 0 0) 0 v) rfl (by decide) hat ho
  rw [upK_up] at h
  exact h
/-- one more found pair -/
theorem nmP.pair {c : Nat} {g g' w : Nat → Int32} (hI : nmP D cs N0 H o (upZ (upZ z 0 0 c) 0 0 (c + 1)) (upK (upK (upK K 8 0 g) 9 0 w) 8 0 g') r) : nmP D cs N0 H o (upZ z 0 0 (c + 1)) (upK (upK K 8 0 g') 9 0 w) r := by
  rw [upZ_up, upK_comm (by decide), upK_up] at hI
  exact hI
end NMZ
theorem sgN_lt {x : Int32} (h : sgN x) : ∃ j : Nat, j < 128 ∧ x = nI j := h.imp fun j hj => ⟨by omega, hj.2.2⟩
theorem fit_byte : ∀ j : Nat, j < 128 → fits .byte (.int (nI j)) = true := by decide +kernel
theorem sgN_fit {x : Int32} (h : sgN x) : fits .byte (.int x) = true := by
  obtain ⟨j, hj, rfl⟩ := sgN_lt h
  exact fit_byte j hj
theorem x_i2c : ∀ j, j < 128 → ((nI j).toUInt32 % 65536).toInt32 = nI j := by decide +kernel
theorem sg_of {q : Int32} (h : isSg q = true) : ∃ j : Nat, (97 ≤ j ∧ j ≤ 122) ∧ q = nI j := by
  simp only [isSg, Bool.and_eq_true, Bool.not_eq_true', decide_eq_false_iff_not] at h
  have h0 : ¬ q < 0 := fun h9 => h.1 (Int32.lt_trans h9 (by decide))
  obtain ⟨j, hj, rfl⟩ := nI_of h0
  refine ⟨j, ⟨?_, ?_⟩, rfl⟩
  · exact Nat.le_of_not_lt (fun h9 => h.1 ((nI_ltI (b := 97) (by omega) (by omega)).mpr h9))
  · exact Nat.le_of_not_lt (fun h9 => h.2 ((nI_ltI (a := 122) (by omega) (by omega)).mpr h9))
