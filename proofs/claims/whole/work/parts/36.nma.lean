/-! new objects in the class's heap -/
def upR (r : Nat → Nat × Nat) (a k n : Nat) : Nat → Nat × Nat := fun q => if q = a then (k, n) else r q
theorem upR_s {r : Nat → Nat × Nat} {a k n : Nat} : upR r a k n a = (k, n) := if_pos rfl
theorem upR_n {r : Nat → Nat × Nat} {a k n q : Nat} (h : q ≠ a) : upR r a k n q = r q := if_neg h
section NMA
variable {D : va_G} {cs : Nat → ClassId} {N0 N : Nat} {H H1 : Heap} {o z o' z' : Nat → Nat → Nat} {K K' : Nat → Nat → Nat → Int32} {r r' : Nat → Nat × Nat}
theorem nmP.to (hI : nmP D cs N0 H o z K r) (hr : ∀ q, q < N → r' q = r q) (h20 : ∀ q, N ≤ q → (r' q).1 < 20 → N0 ≤ q) (hall : ∀ k n, nmv z' k n → va_at D vwCl (o' k n, nmE cs o' z' (K' k n) k n) H1 ∧ ((nmv z k n ∧ o' k n = o k n ∧ o k n < N) ∨ r' (o' k n) = (k, n))) (hB : nmB z') (hK : nmK z' K') : nmP D cs N0 H1 o' z' K' r' := by
  refine ⟨fun k n hv => ⟨(hall k n hv).1, ?_⟩, fun q hq => ?_, hB, hK⟩
  · rcases (hall k n hv).2 with ⟨h1, h2, h3⟩ | h
    · rw [h2, hr _ h3]
      exact (hI.1 k n h1).2
    · exact h
  · rcases Nat.lt_or_ge q N with h | h
    · rw [hr q h] at hq
      exact hI.2.1 q hq
    · exact h20 q h hq
theorem upR_old {a k n : Nat} (ha : N ≤ a) : ∀ q, q < N → upR r a k n q = r q := fun q hq => upR_n (by omega)

/-- dates are told -/
theorem nmP.dat (hI : nmP D cs N0 H o z K r) (hN9 : ∀ k n, nmv z k n → o k n < N) (hNN : N0 ≤ N) {j a : Nat} {u v : Int32} (hj : j < z 3 0) (ha : N ≤ a) (hd : va_at D vwCl (a, .inr (4, [.int u, .int v])) H1) (hn : va_at D vwCl (o 10 j, .inr (2, [.ref (o 11 j), .ref (o 13 j), .ref a, .int (K 10 j 0), .int (K 10 j 1), .int (K 10 j 2), .int (K 10 j 3)])) H1) (hF : ∀ k n, nmv z k n → ¬ (k = 10 ∧ n = j) → H1[o k n]? = H[o k n]?) : nmP D cs N0 H1 (upZ o 14 j a) (upZ z 14 j 1) (upK K 14 j (fun i => if i = 0 then u else v)) (upR r a 14 j) := by
  have hB := hI.2.2.1
  refine hI.to (upR_old ha) (fun q hq _ => by omega) (fun k n hv => ?_) ⟨hB.1, hB.2.1, hB.2.2.1, hB.2.2.2.1, hB.2.2.2.2.1, hB.2.2.2.2.2.1, hB.2.2.2.2.2.2.1, hB.2.2.2.2.2.2.2⟩ ⟨hI.2.2.2.1, fun n j a b c => hI.2.2.2.2 n j a b c⟩
  match k, n, hv with
    | 0, n, hv => exact ⟨hx_keep (hI.1 0 n hv).1 (hF 0 n hv (by omega)), Or.inl ⟨hv, rfl, hN9 0 n hv⟩⟩
    | 1, n, hv => exact ⟨hx_keep (hI.1 1 n hv).1 (hF 1 n hv (by omega)), Or.inl ⟨hv, rfl, hN9 1 n hv⟩⟩
    | 2, n, hv => exact ⟨hx_keep (hI.1 2 n hv).1 (hF 2 n hv (by omega)), Or.inl ⟨hv, rfl, hN9 2 n hv⟩⟩
    | 3, n, hv => exact ⟨hx_keep (hI.1 3 n hv).1 (hF 3 n hv (by omega)), Or.inl ⟨hv, rfl, hN9 3 n hv⟩⟩
    | 4, n, hv => exact ⟨hx_keep (hI.1 4 n hv).1 (hF 4 n hv (by omega)), Or.inl ⟨hv, rfl, hN9 4 n hv⟩⟩
    | 5, n, hv => exact ⟨hx_keep (hI.1 5 n hv).1 (hF 5 n hv (by omega)), Or.inl ⟨hv, rfl, hN9 5 n hv⟩⟩
    | 6, n, hv => exact ⟨hx_keep (hI.1 6 n hv).1 (hF 6 n hv (by omega)), Or.inl ⟨hv, rfl, hN9 6 n hv⟩⟩
    | 7, n, hv => exact ⟨hx_keep (hI.1 7 n hv).1 (hF 7 n hv (by omega)), Or.inl ⟨hv, rfl, hN9 7 n hv⟩⟩
    | 8, n, hv => exact ⟨hx_keep (hI.1 8 n hv).1 (hF 8 n hv (by omega)), Or.inl ⟨hv, rfl, hN9 8 n hv⟩⟩
    | 9, n, hv => exact ⟨hx_keep (hI.1 9 n hv).1 (hF 9 n hv (by omega)), Or.inl ⟨hv, rfl, hN9 9 n hv⟩⟩
    | 10, n, hv => 
      have hv0 : nmv z 10 n := hv
      refine ⟨?_, Or.inl ⟨hv0, rfl, hN9 10 n hv0⟩⟩
      show va_at D vwCl (o 10 n, .inr (2, [.ref (o 11 n), .ref (o 13 n), va_rf (if upZ z 14 j 1 14 n = 0 then none else some (upZ o 14 j a 14 n)), .int (K 10 n 0), .int (K 10 n 1), .int (K 10 n 2), .int (K 10 n 3)])) H1
      by_cases h : n = j
      · subst h
        rw [upZ_s, upZ_s]
        exact hn
      · rw [upZ_n (by omega), upZ_n (by omega)]
        exact hx_keep (hI.1 10 n hv0).1 (hF 10 n hv0 (by omega))
    | 11, n, hv => exact ⟨hx_keep (hI.1 11 n hv).1 (hF 11 n hv (by omega)), Or.inl ⟨hv, rfl, hN9 11 n hv⟩⟩
    | 12, n, hv => exact ⟨hx_keep (hI.1 12 n hv).1 (hF 12 n hv (by omega)), Or.inl ⟨hv, rfl, hN9 12 n hv⟩⟩
    | 13, n, hv => exact ⟨hx_keep (hI.1 13 n hv).1 (hF 13 n hv (by omega)), Or.inl ⟨hv, rfl, hN9 13 n hv⟩⟩
    | 14, n, hv => 
      by_cases h : n = j
      · subst h
        rw [upZ_s, upK_s]
        exact ⟨hd, Or.inr upR_s⟩
      · have hv0 : nmv z 14 n := ⟨hv.1, (upZ_n (z := z) (v := 1) (show ¬ (14 = 14 ∧ n = j) by omega)) ▸ hv.2⟩
        rw [upZ_n (by omega), upK_n (by omega)]
        exact ⟨hx_keep (hI.1 14 n hv0).1 (hF 14 n hv0 (by omega)), Or.inl ⟨hv0, rfl, hN9 14 n hv0⟩⟩
    | 15, n, hv => exact ⟨hx_keep (hI.1 15 n hv).1 (hF 15 n hv (by omega)), Or.inl ⟨hv, rfl, hN9 15 n hv⟩⟩
    | 16, n, hv => exact ⟨hx_keep (hI.1 16 n hv).1 (hF 16 n hv (by omega)), Or.inl ⟨hv, rfl, hN9 16 n hv⟩⟩
    | 17, n, hv => exact ⟨hx_keep (hI.1 17 n hv).1 (hF 17 n hv (by omega)), Or.inl ⟨hv, rfl, hN9 17 n hv⟩⟩
    | 18, n, hv => exact ⟨hx_keep (hI.1 18 n hv).1 (hF 18 n hv (by omega)), Or.inl ⟨hv, rfl, hN9 18 n hv⟩⟩
    | 19, n, hv => exact ⟨hx_keep (hI.1 19 n hv).1 (hF 19 n hv (by omega)), Or.inl ⟨hv, rfl, hN9 19 n hv⟩⟩
    | _ + 20, _, hv => exact hv.elim
/-- a merge is told -/
theorem nmP.mrg (hI : nmP D cs N0 H o z K r) (hN9 : ∀ k n, nmv z k n → o k n < N) (hNN : N0 ≤ N) {a ea cap : Nat} {b0 b1 b2 mc : Int32} (ha : N ≤ a) (hea : (ea = o 6 0 ∧ 0 < z 5 0) ∨ (N ≤ ea ∧ ea ≠ a)) (h60 : z 5 0 < 60) (hcap : z 5 0 + 1 ≤ cap ∧ 10 ≤ cap ∧ cap < 100)
    (hd : va_at D vwCl (a, .inr (5, [.int b0, .int b1, .int b2])) H1) (h5 : va_at D vwCl (o 5 0, .inr (6, [.ref ea, .int (nI (z 5 0 + 1)), .int mc])) H1) (h6 : va_at D vwCl (ea, .inl (cs 4, (cap, .inr (.inr (.inr (.inr (va_up (fun j => if j < z 5 0 then some (o 19 j) else none) (z 5 0) (some a)))))))) H1)
    (hF : ∀ k n, nmv z k n → ¬ (k = 5 ∨ k = 6) → H1[o k n]? = H[o k n]?) : ∃ r9 : Nat → Nat × Nat, nmP D cs N0 H1 (upZ (upZ o 19 (z 5 0) a) 6 0 ea) (upZ (upZ z 6 0 cap) 5 0 (z 5 0 + 1)) (upK (upK K 19 (z 5 0) (fun i => if i = 0 then b0 else if i = 1 then b1 else b2)) 5 0 (fun _ => mc)) r9 ∧ ∀ q, q < N → r9 q = r q := by
  have hB := hI.2.2.1
  have hold : ∀ q, q < N → upR (if ea = o 6 0 ∧ 0 < z 5 0 then r else upR r ea 6 0) a 19 (z 5 0) q = r q := fun q hq => by
    rw [upR_n (by omega)]
    by_cases h : ea = o 6 0 ∧ 0 < z 5 0
    · rw [if_pos h]
    · rw [if_neg h, upR_n (by omega)]
  refine ⟨upR (if ea = o 6 0 ∧ 0 < z 5 0 then r else upR r ea 6 0) a 19 (z 5 0), ?_, hold⟩
  refine hI.to hold (fun q hq _ => by omega) (fun k n hv => ?_) ⟨hB.1, hB.2.1, hB.2.2.1, show z 5 0 + 1 ≤ 60 by omega, hB.2.2.2.2.1, show z 5 0 + 1 ≤ cap ∧ 10 ≤ cap ∧ cap < 100 from hcap, hB.2.2.2.2.2.2.1, hB.2.2.2.2.2.2.2⟩ ⟨hI.2.2.2.1, fun n j a b c => hI.2.2.2.2 n j a b c⟩
  match k, n, hv with
    | 0, n, hv => exact ⟨hx_keep (hI.1 0 n hv).1 (hF 0 n hv (by omega)), Or.inl ⟨hv, rfl, hN9 0 n hv⟩⟩
    | 1, n, hv => exact ⟨hx_keep (hI.1 1 n hv).1 (hF 1 n hv (by omega)), Or.inl ⟨hv, rfl, hN9 1 n hv⟩⟩
    | 2, n, hv => exact ⟨hx_keep (hI.1 2 n hv).1 (hF 2 n hv (by omega)), Or.inl ⟨hv, rfl, hN9 2 n hv⟩⟩
    | 3, n, hv => exact ⟨hx_keep (hI.1 3 n hv).1 (hF 3 n hv (by omega)), Or.inl ⟨hv, rfl, hN9 3 n hv⟩⟩
    | 4, n, hv => exact ⟨hx_keep (hI.1 4 n hv).1 (hF 4 n hv (by omega)), Or.inl ⟨hv, rfl, hN9 4 n hv⟩⟩
    | 5, n, hv => 
      have hv0 : nmv z 5 n := hv
      cases (show n = 0 from hv)
      refine ⟨?_, Or.inl ⟨hv0, rfl, hN9 5 0 hv0⟩⟩
      show va_at D vwCl (o 5 0, .inr (6, [.ref (nmL cs (z 5 0 + 1) ea), .int (nI (z 5 0 + 1)), .int mc])) H1
      rw [show nmL cs (z 5 0 + 1) ea = ea from if_neg (by omega)]
      exact h5
    | 6, n, hv => 
      cases (show n = 0 from hv.1)
      refine ⟨?_, ?_⟩
      · show va_at D vwCl (ea, .inl (cs 4, (cap, .inr (.inr (.inr (.inr (fun j => if j < z 5 0 + 1 then some (upZ (upZ o 19 (z 5 0) a) 6 0 ea 19 j) else none))))))) H1
        have e : (fun j => if j < z 5 0 + 1 then some (upZ (upZ o 19 (z 5 0) a) 6 0 ea 19 j) else none) = va_up (fun j => if j < z 5 0 then some (o 19 j) else none) (z 5 0) (some a) := by
          funext j
          unfold va_up
          by_cases h : j = z 5 0
          · subst h
            rw [if_pos (Nat.lt_succ_self _), if_pos rfl, upZ_n (by omega), upZ_s]
          · rw [if_neg h]
            show _ = if j < z 5 0 then some (o 19 j) else none
            by_cases h2 : j < z 5 0
            · rw [if_pos (by omega), if_pos h2, upZ_n (by omega), upZ_n (by omega)]
            · rw [if_neg (by omega), if_neg h2]
        rw [e]
        exact h6
      · show (_ ∧ ea = o 6 0 ∧ _) ∨ upR (if ea = o 6 0 ∧ 0 < z 5 0 then r else upR r ea 6 0) a 19 (z 5 0) ea = (6, 0)
        rcases hea with h | h
        · exact Or.inl ⟨⟨rfl, h.2⟩, h.1, hN9 6 0 ⟨rfl, h.2⟩⟩
        · refine Or.inr ?_
          rw [upR_n h.2]
          by_cases h9 : ea = o 6 0 ∧ 0 < z 5 0
          · have := hN9 6 0 ⟨rfl, h9.2⟩
            omega
          · rw [if_neg h9]
            exact upR_s
    | 7, n, hv => exact ⟨hx_keep (hI.1 7 n hv).1 (hF 7 n hv (by omega)), Or.inl ⟨hv, rfl, hN9 7 n hv⟩⟩
    | 8, n, hv => exact ⟨hx_keep (hI.1 8 n hv).1 (hF 8 n hv (by omega)), Or.inl ⟨hv, rfl, hN9 8 n hv⟩⟩
    | 9, n, hv => exact ⟨hx_keep (hI.1 9 n hv).1 (hF 9 n hv (by omega)), Or.inl ⟨hv, rfl, hN9 9 n hv⟩⟩
    | 10, n, hv => exact ⟨hx_keep (hI.1 10 n hv).1 (hF 10 n hv (by omega)), Or.inl ⟨hv, rfl, hN9 10 n hv⟩⟩
    | 11, n, hv => exact ⟨hx_keep (hI.1 11 n hv).1 (hF 11 n hv (by omega)), Or.inl ⟨hv, rfl, hN9 11 n hv⟩⟩
    | 12, n, hv => exact ⟨hx_keep (hI.1 12 n hv).1 (hF 12 n hv (by omega)), Or.inl ⟨hv, rfl, hN9 12 n hv⟩⟩
    | 13, n, hv => exact ⟨hx_keep (hI.1 13 n hv).1 (hF 13 n hv (by omega)), Or.inl ⟨hv, rfl, hN9 13 n hv⟩⟩
    | 14, n, hv => exact ⟨hx_keep (hI.1 14 n hv).1 (hF 14 n hv (by omega)), Or.inl ⟨hv, rfl, hN9 14 n hv⟩⟩
    | 15, n, hv => exact ⟨hx_keep (hI.1 15 n hv).1 (hF 15 n hv (by omega)), Or.inl ⟨hv, rfl, hN9 15 n hv⟩⟩
    | 16, n, hv => exact ⟨hx_keep (hI.1 16 n hv).1 (hF 16 n hv (by omega)), Or.inl ⟨hv, rfl, hN9 16 n hv⟩⟩
    | 17, n, hv => exact ⟨hx_keep (hI.1 17 n hv).1 (hF 17 n hv (by omega)), Or.inl ⟨hv, rfl, hN9 17 n hv⟩⟩
    | 18, n, hv => exact ⟨hx_keep (hI.1 18 n hv).1 (hF 18 n hv (by omega)), Or.inl ⟨hv, rfl, hN9 18 n hv⟩⟩
    | 19, n, hv => 
      by_cases h : n = z 5 0
      · subst h
        refine ⟨?_, Or.inr ?_⟩
        · rw [upZ_n (by omega), upZ_s, upK_n (by omega), upK_s]
          exact hd
        · rw [upZ_n (by omega), upZ_s]
          exact upR_s
      · have hv0 : nmv z 19 n := by
          have h9 : n < z 5 0 + 1 := hv
          show n < z 5 0
          omega
        rw [upZ_n (by omega), upZ_n (by omega), upK_n (by omega), upK_n (by omega)]
        exact ⟨hx_keep (hI.1 19 n hv0).1 (hF 19 n hv0 (by omega)), Or.inl ⟨hv0, rfl, hN9 19 n hv0⟩⟩
    | _ + 20, _, hv => exact hv.elim
end NMA
