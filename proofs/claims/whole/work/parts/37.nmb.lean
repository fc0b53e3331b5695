section NMB
variable {D : va_G} {cs : Nat → ClassId} {N0 N : Nat} {H H1 : Heap} {o z : Nat → Nat → Nat} {K : Nat → Nat → Nat → Int32} {r : Nat → Nat × Nat}
/-- a new name -/
theorem nmP.nam (hI : nmP D cs N0 H o z K r) (hN9 : ∀ k n, nmv z k n → o k n < N) (hNN : N0 ≤ N) {a u v ea cap : Nat} {mc : Int32} (ha : N ≤ a) (hu : N ≤ u) (hv9 : N ≤ v) (hauv : a ≠ u ∧ a ≠ v ∧ u ≠ v) (hea : (ea = o 4 0 ∧ 0 < z 3 0) ∨ (N ≤ ea ∧ ea ≠ a ∧ ea ≠ u ∧ ea ≠ v)) (h24 : z 3 0 < 24) (hcap : z 3 0 + 1 ≤ cap ∧ 10 ≤ cap ∧ cap < 100)
    (hd : va_at D vwCl (a, .inr (2, [.ref u, .ref v, .null, .int 0, .int 0, .int 0, .int 0])) H1) (hl : va_at D vwCl (u, .inr (6, [.ref (cs 9), .int 0, .int 0])) H1) (hi : va_at D vwCl (v, .inl (cs 0, (4, .inl (fun _ => 0)))) H1) (h3 : va_at D vwCl (o 3 0, .inr (6, [.ref ea, .int (nI (z 3 0 + 1)), .int mc])) H1) (h4 : va_at D vwCl (ea, .inl (cs 4, (cap, .inr (.inr (.inr (.inr (va_up (fun j => if j < z 3 0 then some (o 10 j) else none) (z 3 0) (some a)))))))) H1)
    (hF : ∀ k n, nmv z k n → ¬ (k = 3 ∨ k = 4) → H1[o k n]? = H[o k n]?) : ∃ r9 : Nat → Nat × Nat, nmP D cs N0 H1 (upZ (upZ (upZ (upZ o 10 (z 3 0) a) 11 (z 3 0) u) 13 (z 3 0) v) 4 0 ea) (upZ (upZ (upZ (upZ z 11 (z 3 0) 0) 14 (z 3 0) 0) 4 0 cap) 3 0 (z 3 0 + 1)) (upK (upK (upK (upK K 10 (z 3 0) (fun _ => 0)) 11 (z 3 0) (fun _ => 0)) 13 (z 3 0) (fun _ => 0)) 3 0 (fun _ => mc)) r9 ∧ ∀ q, q < N → r9 q = r q := by
  have hB := hI.2.2.1
  have o10s : (upZ (upZ (upZ (upZ o 10 (z 3 0) a) 11 (z 3 0) u) 13 (z 3 0) v) 4 0 ea) 10 (z 3 0) = a := by show upZ o 10 (z 3 0) a 10 (z 3 0) = a; exact upZ_s
  have o11s : (upZ (upZ (upZ (upZ o 10 (z 3 0) a) 11 (z 3 0) u) 13 (z 3 0) v) 4 0 ea) 11 (z 3 0) = u := by show upZ (upZ o 10 (z 3 0) a) 11 (z 3 0) u 11 (z 3 0) = u; exact upZ_s
  have o13s : (upZ (upZ (upZ (upZ o 10 (z 3 0) a) 11 (z 3 0) u) 13 (z 3 0) v) 4 0 ea) 13 (z 3 0) = v := by show upZ (upZ (upZ o 10 (z 3 0) a) 11 (z 3 0) u) 13 (z 3 0) v 13 (z 3 0) = v; exact upZ_s
  have z11s : (upZ (upZ (upZ (upZ z 11 (z 3 0) 0) 14 (z 3 0) 0) 4 0 cap) 3 0 (z 3 0 + 1)) 11 (z 3 0) = 0 := by show upZ z 11 (z 3 0) 0 11 (z 3 0) = 0; exact upZ_s
  have z11n : ∀ n, n ≠ z 3 0 → (upZ (upZ (upZ (upZ z 11 (z 3 0) 0) 14 (z 3 0) 0) 4 0 cap) 3 0 (z 3 0 + 1)) 11 n = z 11 n := fun n h => by show upZ z 11 (z 3 0) 0 11 n = z 11 n; exact upZ_n (by omega)
  have z14s : (upZ (upZ (upZ (upZ z 11 (z 3 0) 0) 14 (z 3 0) 0) 4 0 cap) 3 0 (z 3 0 + 1)) 14 (z 3 0) = 0 := by show upZ (upZ z 11 (z 3 0) 0) 14 (z 3 0) 0 14 (z 3 0) = 0; exact upZ_s
  have k10s : (upK (upK (upK (upK K 10 (z 3 0) (fun _ => 0)) 11 (z 3 0) (fun _ => 0)) 13 (z 3 0) (fun _ => 0)) 3 0 (fun _ => mc)) 10 (z 3 0) = fun _ => 0 := by show upK K 10 (z 3 0) (fun _ => 0) 10 (z 3 0) = _; exact upK_s
  have k11s : (upK (upK (upK (upK K 10 (z 3 0) (fun _ => 0)) 11 (z 3 0) (fun _ => 0)) 13 (z 3 0) (fun _ => 0)) 3 0 (fun _ => mc)) 11 (z 3 0) = fun _ => 0 := by show upK (upK K 10 (z 3 0) (fun _ => 0)) 11 (z 3 0) (fun _ => 0) 11 (z 3 0) = _; exact upK_s
  have k13s : (upK (upK (upK (upK K 10 (z 3 0) (fun _ => 0)) 11 (z 3 0) (fun _ => 0)) 13 (z 3 0) (fun _ => 0)) 3 0 (fun _ => mc)) 13 (z 3 0) = fun _ => 0 := by show upK (upK (upK K 10 (z 3 0) (fun _ => 0)) 11 (z 3 0) (fun _ => 0)) 13 (z 3 0) (fun _ => 0) 13 (z 3 0) = _; exact upK_s
  have hold : ∀ q, q < N → (upR (upR (upR (if ea = o 4 0 ∧ 0 < z 3 0 then r else upR r ea 4 0) a 10 (z 3 0)) u 11 (z 3 0)) v 13 (z 3 0)) q = r q := fun q hq => by
    rw [upR_n (by omega), upR_n (by omega), upR_n (by omega)]
    by_cases h : ea = o 4 0 ∧ 0 < z 3 0
    · rw [if_pos h]
    · rw [if_neg h, upR_n (by omega)]
  refine ⟨(upR (upR (upR (if ea = o 4 0 ∧ 0 < z 3 0 then r else upR r ea 4 0) a 10 (z 3 0)) u 11 (z 3 0)) v 13 (z 3 0)), ?_, hold⟩
  refine hI.to hold (fun q hq _ => by omega) (fun k n hv => ?_) ⟨hB.1, hB.2.1, show z 3 0 + 1 ≤ 24 by omega, hB.2.2.2.1, show z 3 0 + 1 ≤ cap ∧ 10 ≤ cap ∧ cap < 100 from hcap, hB.2.2.2.2.2.1, fun n => ?_, hB.2.2.2.2.2.2.2⟩ ⟨hI.2.2.2.1, fun n j a b c => ?_⟩
  rotate_left
  · by_cases h : n = z 3 0
    · rw [h, z11s]; omega
    · rw [z11n n h]; exact hB.2.2.2.2.2.2.1 n
  · have hne : n / 4 ≠ z 3 0 := fun h => by
      rw [h, z11s] at b
      exact Nat.not_lt_zero _ b
    rw [z11n _ hne] at b
    exact hI.2.2.2.2 n j (by have a' : n / 4 < z 3 0 + 1 := a; omega) b c
  match k, n, hv with
    | 0, n, hv => exact ⟨hx_keep (hI.1 0 n hv).1 (hF 0 n hv (by omega)), Or.inl ⟨hv, rfl, hN9 0 n hv⟩⟩
    | 1, n, hv => exact ⟨hx_keep (hI.1 1 n hv).1 (hF 1 n hv (by omega)), Or.inl ⟨hv, rfl, hN9 1 n hv⟩⟩
    | 2, n, hv => exact ⟨hx_keep (hI.1 2 n hv).1 (hF 2 n hv (by omega)), Or.inl ⟨hv, rfl, hN9 2 n hv⟩⟩
    | 3, n, hv => 
      have hv0 : nmv z 3 n := hv
      cases (show n = 0 from hv)
      refine ⟨?_, Or.inl ⟨hv0, rfl, hN9 3 0 hv0⟩⟩
      show va_at D vwCl (o 3 0, .inr (6, [.ref (nmL cs (z 3 0 + 1) ea), .int (nI (z 3 0 + 1)), .int mc])) H1
      rw [show nmL cs (z 3 0 + 1) ea = ea from if_neg (by omega)]
      exact h3
    | 4, n, hv => 
      cases (show n = 0 from hv.1)
      refine ⟨?_, ?_⟩
      · show va_at D vwCl (ea, .inl (cs 4, (cap, .inr (.inr (.inr (.inr (fun j => if j < z 3 0 + 1 then some (upZ o 10 (z 3 0) a 10 j) else none))))))) H1
        have e : (fun j => if j < z 3 0 + 1 then some (upZ o 10 (z 3 0) a 10 j) else none) = va_up (fun j => if j < z 3 0 then some (o 10 j) else none) (z 3 0) (some a) := by
          funext j
          unfold va_up
          by_cases h : j = z 3 0
          · subst h
            rw [if_pos (Nat.lt_succ_self _), if_pos rfl, upZ_s]
          · rw [if_neg h]
            show _ = if j < z 3 0 then some (o 10 j) else none
            by_cases h2 : j < z 3 0
            · rw [if_pos (by omega), if_pos h2, upZ_n (by omega)]
            · rw [if_neg (by omega), if_neg h2]
        rw [e]
        exact h4
      · show (_ ∧ ea = o 4 0 ∧ _) ∨ (upR (upR (upR (if ea = o 4 0 ∧ 0 < z 3 0 then r else upR r ea 4 0) a 10 (z 3 0)) u 11 (z 3 0)) v 13 (z 3 0)) ea = (4, 0)
        rcases hea with h | h
        · exact Or.inl ⟨⟨rfl, h.2⟩, h.1, hN9 4 0 ⟨rfl, h.2⟩⟩
        · refine Or.inr ?_
          rw [upR_n h.2.2.2, upR_n h.2.2.1, upR_n h.2.1]
          by_cases h9 : ea = o 4 0 ∧ 0 < z 3 0
          · have := hN9 4 0 ⟨rfl, h9.2⟩
            omega
          · rw [if_neg h9]
            exact upR_s
    | 5, n, hv => exact ⟨hx_keep (hI.1 5 n hv).1 (hF 5 n hv (by omega)), Or.inl ⟨hv, rfl, hN9 5 n hv⟩⟩
    | 6, n, hv => exact ⟨hx_keep (hI.1 6 n hv).1 (hF 6 n hv (by omega)), Or.inl ⟨hv, rfl, hN9 6 n hv⟩⟩
    | 7, n, hv => exact ⟨hx_keep (hI.1 7 n hv).1 (hF 7 n hv (by omega)), Or.inl ⟨hv, rfl, hN9 7 n hv⟩⟩
    | 8, n, hv => exact ⟨hx_keep (hI.1 8 n hv).1 (hF 8 n hv (by omega)), Or.inl ⟨hv, rfl, hN9 8 n hv⟩⟩
    | 9, n, hv => exact ⟨hx_keep (hI.1 9 n hv).1 (hF 9 n hv (by omega)), Or.inl ⟨hv, rfl, hN9 9 n hv⟩⟩
    | 10, n, hv => 
      by_cases h : n = z 3 0
      · subst h
        refine ⟨?_, Or.inr ?_⟩
        · show va_at D vwCl ((upZ (upZ (upZ (upZ o 10 (z 3 0) a) 11 (z 3 0) u) 13 (z 3 0) v) 4 0 ea) 10 (z 3 0), .inr (2, [.ref ((upZ (upZ (upZ (upZ o 10 (z 3 0) a) 11 (z 3 0) u) 13 (z 3 0) v) 4 0 ea) 11 (z 3 0)), .ref ((upZ (upZ (upZ (upZ o 10 (z 3 0) a) 11 (z 3 0) u) 13 (z 3 0) v) 4 0 ea) 13 (z 3 0)), va_rf (if (upZ (upZ (upZ (upZ z 11 (z 3 0) 0) 14 (z 3 0) 0) 4 0 cap) 3 0 (z 3 0 + 1)) 14 (z 3 0) = 0 then none else some ((upZ (upZ (upZ (upZ o 10 (z 3 0) a) 11 (z 3 0) u) 13 (z 3 0) v) 4 0 ea) 14 (z 3 0))), .int ((upK (upK (upK (upK K 10 (z 3 0) (fun _ => 0)) 11 (z 3 0) (fun _ => 0)) 13 (z 3 0) (fun _ => 0)) 3 0 (fun _ => mc)) 10 (z 3 0) 0), .int ((upK (upK (upK (upK K 10 (z 3 0) (fun _ => 0)) 11 (z 3 0) (fun _ => 0)) 13 (z 3 0) (fun _ => 0)) 3 0 (fun _ => mc)) 10 (z 3 0) 1), .int ((upK (upK (upK (upK K 10 (z 3 0) (fun _ => 0)) 11 (z 3 0) (fun _ => 0)) 13 (z 3 0) (fun _ => 0)) 3 0 (fun _ => mc)) 10 (z 3 0) 2), .int ((upK (upK (upK (upK K 10 (z 3 0) (fun _ => 0)) 11 (z 3 0) (fun _ => 0)) 13 (z 3 0) (fun _ => 0)) 3 0 (fun _ => mc)) 10 (z 3 0) 3)])) H1
          rw [o10s, o11s, o13s, z14s, k10s, if_pos rfl]
          exact hd
        · rw [o10s, upR_n hauv.2.1, upR_n hauv.1]
          exact upR_s
      · have hv0 : nmv z 10 n := by
          have h9 : n < z 3 0 + 1 := hv
          show n < z 3 0
          omega
        refine ⟨?_, Or.inl ⟨hv0, (show upZ o 10 (z 3 0) a 10 n = o 10 n from upZ_n (by omega)), hN9 10 n hv0⟩⟩
        show va_at D vwCl (upZ o 10 (z 3 0) a 10 n, .inr (2, [.ref (upZ (upZ o 10 (z 3 0) a) 11 (z 3 0) u 11 n), .ref (upZ (upZ (upZ o 10 (z 3 0) a) 11 (z 3 0) u) 13 (z 3 0) v 13 n), va_rf (if upZ (upZ z 11 (z 3 0) 0) 14 (z 3 0) 0 14 n = 0 then none else some (o 14 n)), .int (upK K 10 (z 3 0) (fun _ => 0) 10 n 0), .int (upK K 10 (z 3 0) (fun _ => 0) 10 n 1), .int (upK K 10 (z 3 0) (fun _ => 0) 10 n 2), .int (upK K 10 (z 3 0) (fun _ => 0) 10 n 3)])) H1
        rw [upZ_n (by omega), upZ_n (z := upZ o 10 (z 3 0) a) (by omega), upZ_n (z := upZ (upZ o 10 (z 3 0) a) 11 (z 3 0) u) (by omega), upZ_n (z := upZ z 11 (z 3 0) 0) (by omega), upK_n (by omega)]
        exact hx_keep (hI.1 10 n hv0).1 (hF 10 n hv0 (by omega))
    | 11, n, hv => 
      by_cases h : n = z 3 0
      · subst h
        refine ⟨?_, Or.inr ?_⟩
        · show va_at D vwCl ((upZ (upZ (upZ (upZ o 10 (z 3 0) a) 11 (z 3 0) u) 13 (z 3 0) v) 4 0 ea) 11 (z 3 0), .inr (6, [.ref (nmL cs ((upZ (upZ (upZ (upZ z 11 (z 3 0) 0) 14 (z 3 0) 0) 4 0 cap) 3 0 (z 3 0 + 1)) 11 (z 3 0)) (o 12 (z 3 0))), .int (nI ((upZ (upZ (upZ (upZ z 11 (z 3 0) 0) 14 (z 3 0) 0) 4 0 cap) 3 0 (z 3 0 + 1)) 11 (z 3 0))), .int ((upK (upK (upK (upK K 10 (z 3 0) (fun _ => 0)) 11 (z 3 0) (fun _ => 0)) 13 (z 3 0) (fun _ => 0)) 3 0 (fun _ => mc)) 11 (z 3 0) 0)])) H1
          rw [o11s, z11s, k11s]
          exact hl
        · rw [o11s, upR_n hauv.2.2]
          exact upR_s
      · have hv0 : nmv z 11 n := by
          have h9 : n < z 3 0 + 1 := hv
          show n < z 3 0
          omega
        refine ⟨?_, Or.inl ⟨hv0, (show upZ (upZ o 10 (z 3 0) a) 11 (z 3 0) u 11 n = o 11 n from upZ_n (z := upZ o 10 (z 3 0) a) (by omega)), hN9 11 n hv0⟩⟩
        show va_at D vwCl (upZ (upZ o 10 (z 3 0) a) 11 (z 3 0) u 11 n, .inr (6, [.ref (nmL cs (upZ z 11 (z 3 0) 0 11 n) (o 12 n)), .int (nI (upZ z 11 (z 3 0) 0 11 n)), .int (upK (upK K 10 (z 3 0) (fun _ => 0)) 11 (z 3 0) (fun _ => 0) 11 n 0)])) H1
        rw [upZ_n (z := upZ o 10 (z 3 0) a) (by omega), upZ_n (z := z) (by omega), upK_n (by omega)]
        exact hx_keep (hI.1 11 n hv0).1 (hF 11 n hv0 (by omega))
    | 12, n, hv => 
      have hv1 : n < z 3 0 + 1 ∧ 0 < (upZ (upZ (upZ (upZ z 11 (z 3 0) 0) 14 (z 3 0) 0) 4 0 cap) 3 0 (z 3 0 + 1)) 11 n := hv
      have h : n ≠ z 3 0 := fun h => by
        have h9 := hv1.2
        rw [h, z11s] at h9
        exact Nat.not_lt_zero _ h9
      have hv0 : nmv z 12 n := ⟨by omega, by have h9 := hv1.2; rw [z11n n h] at h9; exact h9⟩
      refine ⟨?_, Or.inl ⟨hv0, rfl, hN9 12 n hv0⟩⟩
      show va_at D vwCl (o 12 n, .inl (cs 4, (10, .inr (.inr (.inr (.inr (fun j => if j < (upZ (upZ (upZ (upZ z 11 (z 3 0) 0) 14 (z 3 0) 0) 4 0 cap) 3 0 (z 3 0 + 1)) 11 n then some (o 15 (n * 4 + j)) else none))))))) H1
      rw [z11n n h]
      exact hx_keep (hI.1 12 n hv0).1 (hF 12 n hv0 (by omega))
    | 13, n, hv => 
      by_cases h : n = z 3 0
      · subst h
        refine ⟨?_, Or.inr ?_⟩
        · show va_at D vwCl ((upZ (upZ (upZ (upZ o 10 (z 3 0) a) 11 (z 3 0) u) 13 (z 3 0) v) 4 0 ea) 13 (z 3 0), .inl (cs 0, (4, .inl ((upK (upK (upK (upK K 10 (z 3 0) (fun _ => 0)) 11 (z 3 0) (fun _ => 0)) 13 (z 3 0) (fun _ => 0)) 3 0 (fun _ => mc)) 13 (z 3 0))))) H1
          rw [o13s, k13s]
          exact hi
        · rw [o13s]
          exact upR_s
      · have hv0 : nmv z 13 n := by
          have h9 : n < z 3 0 + 1 := hv
          show n < z 3 0
          omega
        refine ⟨?_, Or.inl ⟨hv0, (show upZ (upZ (upZ o 10 (z 3 0) a) 11 (z 3 0) u) 13 (z 3 0) v 13 n = o 13 n from upZ_n (z := upZ (upZ o 10 (z 3 0) a) 11 (z 3 0) u) (by omega)), hN9 13 n hv0⟩⟩
        show va_at D vwCl (upZ (upZ (upZ o 10 (z 3 0) a) 11 (z 3 0) u) 13 (z 3 0) v 13 n, .inl (cs 0, (4, .inl (upK (upK (upK K 10 (z 3 0) (fun _ => 0)) 11 (z 3 0) (fun _ => 0)) 13 (z 3 0) (fun _ => 0) 13 n)))) H1
        rw [upZ_n (z := upZ (upZ o 10 (z 3 0) a) 11 (z 3 0) u) (by omega), upK_n (by omega)]
        exact hx_keep (hI.1 13 n hv0).1 (hF 13 n hv0 (by omega))
    | 14, n, hv => 
      have hv1 : n < z 3 0 + 1 ∧ 0 < (upZ (upZ (upZ (upZ z 11 (z 3 0) 0) 14 (z 3 0) 0) 4 0 cap) 3 0 (z 3 0 + 1)) 14 n := hv
      have h : n ≠ z 3 0 := fun h => by
        have h9 := hv1.2
        rw [h, z14s] at h9
        exact Nat.not_lt_zero _ h9
      have hv0 : nmv z 14 n := ⟨by omega, by have h9 : 0 < upZ (upZ z 11 (z 3 0) 0) 14 (z 3 0) 0 14 n := hv1.2; rw [upZ_n (by omega)] at h9; exact h9⟩
      exact ⟨hx_keep (hI.1 14 n hv0).1 (hF 14 n hv0 (by omega)), Or.inl ⟨hv0, rfl, hN9 14 n hv0⟩⟩
    | 15, n, hv => 
      have hv1 : n / 4 < z 3 0 + 1 ∧ n % 4 < (upZ (upZ (upZ (upZ z 11 (z 3 0) 0) 14 (z 3 0) 0) 4 0 cap) 3 0 (z 3 0 + 1)) 11 (n / 4) := hv
      have hne : n / 4 ≠ z 3 0 := fun h => by
        have h9 := hv1.2
        rw [h, z11s] at h9
        exact Nat.not_lt_zero _ h9
      have hv0 : nmv z 15 n := ⟨by omega, by have h9 := hv1.2; rw [z11n _ hne] at h9; exact h9⟩
      exact ⟨hx_keep (hI.1 15 n hv0).1 (hF 15 n hv0 (by omega)), Or.inl ⟨hv0, rfl, hN9 15 n hv0⟩⟩
    | 16, n, hv => 
      have hv1 : n / 4 < z 3 0 + 1 ∧ n % 4 < (upZ (upZ (upZ (upZ z 11 (z 3 0) 0) 14 (z 3 0) 0) 4 0 cap) 3 0 (z 3 0 + 1)) 11 (n / 4) := hv
      have hne : n / 4 ≠ z 3 0 := fun h => by
        have h9 := hv1.2
        rw [h, z11s] at h9
        exact Nat.not_lt_zero _ h9
      have hv0 : nmv z 16 n := ⟨by omega, by have h9 := hv1.2; rw [z11n _ hne] at h9; exact h9⟩
      exact ⟨hx_keep (hI.1 16 n hv0).1 (hF 16 n hv0 (by omega)), Or.inl ⟨hv0, rfl, hN9 16 n hv0⟩⟩
    | 17, n, hv => 
      have hv1 : n / 4 < z 3 0 + 1 ∧ n % 4 < (upZ (upZ (upZ (upZ z 11 (z 3 0) 0) 14 (z 3 0) 0) 4 0 cap) 3 0 (z 3 0 + 1)) 11 (n / 4) := hv
      have hne : n / 4 ≠ z 3 0 := fun h => by
        have h9 := hv1.2
        rw [h, z11s] at h9
        exact Nat.not_lt_zero _ h9
      have hv0 : nmv z 17 n := ⟨by omega, by have h9 := hv1.2; rw [z11n _ hne] at h9; exact h9⟩
      exact ⟨hx_keep (hI.1 17 n hv0).1 (hF 17 n hv0 (by omega)), Or.inl ⟨hv0, rfl, hN9 17 n hv0⟩⟩
    | 18, n, hv => 
      have hv1 : n / 4 < z 3 0 + 1 ∧ n % 4 < (upZ (upZ (upZ (upZ z 11 (z 3 0) 0) 14 (z 3 0) 0) 4 0 cap) 3 0 (z 3 0 + 1)) 11 (n / 4) := hv
      have hne : n / 4 ≠ z 3 0 := fun h => by
        have h9 := hv1.2
        rw [h, z11s] at h9
        exact Nat.not_lt_zero _ h9
      have hv0 : nmv z 18 n := ⟨by omega, by have h9 := hv1.2; rw [z11n _ hne] at h9; exact h9⟩
      exact ⟨hx_keep (hI.1 18 n hv0).1 (hF 18 n hv0 (by omega)), Or.inl ⟨hv0, rfl, hN9 18 n hv0⟩⟩
    | 19, n, hv => exact ⟨hx_keep (hI.1 19 n hv).1 (hF 19 n hv (by omega)), Or.inl ⟨hv, rfl, hN9 19 n hv⟩⟩
    | _ + 20, _, hv => exact hv.elim
/-- a new variant; its signs leave the pad -/
theorem nmP.var (hI : nmP D cs N0 H o z K r) (hN9 : ∀ k n, nmv z k n → o k n < N) (hNN : N0 ≤ N) {j vr sg by9 dy ea ln : Nat} {u v mc ml : Int32} {fb g10 : Nat → Int32} (hj : j < z 3 0) (hc4 : z 11 j < 4) (hvr9 : N ≤ vr) (hsg9 : N ≤ sg) (hby9 : N ≤ by9) (hdy9 : N ≤ dy) (hdis : vr ≠ sg ∧ vr ≠ by9 ∧ vr ≠ dy ∧ sg ≠ by9 ∧ sg ≠ dy ∧ by9 ≠ dy) (hea : (ea = o 12 j ∧ 0 < z 11 j) ∨ (N ≤ ea ∧ ea ≠ vr ∧ ea ≠ sg ∧ ea ≠ by9 ∧ ea ≠ dy)) (hln : ln ≤ 12) (hfb : ∀ i, i < ln → sgN (fb i))
    (hvr : va_at D vwCl (vr, .inr (3, [.ref sg, .ref dy])) H1) (hsg : va_at D vwCl (sg, .inr (8, [.ref by9, .int 0, .int 0, .int 0])) H1) (hby : va_at D vwCl (by9, .inl (cs 2, (ln, .inl fb))) H1) (hdy : va_at D vwCl (dy, .inr (4, [.int u, .int v])) H1) (h11 : va_at D vwCl (o 11 j, .inr (6, [.ref ea, .int (nI (z 11 j + 1)), .int mc])) H1) (h12 : va_at D vwCl (ea, .inl (cs 4, (10, .inr (.inr (.inr (.inr (va_up (fun i => if i < z 11 j then some (o 15 (j * 4 + i)) else none) (z 11 j) (some vr)))))))) H1)
    (h10 : va_at D vwCl (o 10 j, .inr (2, [.ref (o 11 j), .ref (o 13 j), va_rf (if z 14 j = 0 then none else some (o 14 j)), .int (g10 0), .int (g10 1), .int (g10 2), .int (g10 3)])) H1) (h1 : va_at D vwCl (o 1 0, .inr (7, [.ref (o 2 0), .int 0, .int ml, .int 0])) H1) (h2 : va_at D vwCl (o 2 0, .inl (cs 2, (16, .inl (K 2 0)))) H1)
    (hF : ∀ k n, nmv z k n → ¬ (k = 1 ∨ k = 2 ∨ (n = j ∧ (k = 10 ∨ k = 11 ∨ k = 12))) → H1[o k n]? = H[o k n]?) : ∃ r9 : Nat → Nat × Nat, nmP D cs N0 H1 (upZ (upZ (upZ (upZ (upZ o 15 (j * 4 + z 11 j) vr) 16 (j * 4 + z 11 j) sg) 17 (j * 4 + z 11 j) by9) 18 (j * 4 + z 11 j) dy) 12 j ea) (upZ (upZ (upZ z 17 (j * 4 + z 11 j) ln) 11 j (z 11 j + 1)) 1 0 0) (upK (upK (upK (upK (upK (upK K 16 (j * 4 + z 11 j) (fun _ => 0)) 17 (j * 4 + z 11 j) fb) 18 (j * 4 + z 11 j) (fun i => if i = 0 then u else v)) 11 j (fun _ => mc)) 10 j g10) 1 0 (fun _ => ml)) r9 ∧ ∀ q, q < N → r9 q = r q := by
  have hB := hI.2.2.1
  have o15s : (upZ (upZ (upZ (upZ (upZ o 15 (j * 4 + z 11 j) vr) 16 (j * 4 + z 11 j) sg) 17 (j * 4 + z 11 j) by9) 18 (j * 4 + z 11 j) dy) 12 j ea) 15 (j * 4 + z 11 j) = vr := by show (upZ o 15 (j * 4 + z 11 j) vr) 15 (j * 4 + z 11 j) = vr; exact upZ_s
  have o16s : (upZ (upZ (upZ (upZ (upZ o 15 (j * 4 + z 11 j) vr) 16 (j * 4 + z 11 j) sg) 17 (j * 4 + z 11 j) by9) 18 (j * 4 + z 11 j) dy) 12 j ea) 16 (j * 4 + z 11 j) = sg := by show (upZ (upZ o 15 (j * 4 + z 11 j) vr) 16 (j * 4 + z 11 j) sg) 16 (j * 4 + z 11 j) = sg; exact upZ_s
  have o17s : (upZ (upZ (upZ (upZ (upZ o 15 (j * 4 + z 11 j) vr) 16 (j * 4 + z 11 j) sg) 17 (j * 4 + z 11 j) by9) 18 (j * 4 + z 11 j) dy) 12 j ea) 17 (j * 4 + z 11 j) = by9 := by show (upZ (upZ (upZ o 15 (j * 4 + z 11 j) vr) 16 (j * 4 + z 11 j) sg) 17 (j * 4 + z 11 j) by9) 17 (j * 4 + z 11 j) = by9; exact upZ_s
  have o18s : (upZ (upZ (upZ (upZ (upZ o 15 (j * 4 + z 11 j) vr) 16 (j * 4 + z 11 j) sg) 17 (j * 4 + z 11 j) by9) 18 (j * 4 + z 11 j) dy) 12 j ea) 18 (j * 4 + z 11 j) = dy := by show (upZ (upZ (upZ (upZ o 15 (j * 4 + z 11 j) vr) 16 (j * 4 + z 11 j) sg) 17 (j * 4 + z 11 j) by9) 18 (j * 4 + z 11 j) dy) 18 (j * 4 + z 11 j) = dy; exact upZ_s
  have o12s : (upZ (upZ (upZ (upZ (upZ o 15 (j * 4 + z 11 j) vr) 16 (j * 4 + z 11 j) sg) 17 (j * 4 + z 11 j) by9) 18 (j * 4 + z 11 j) dy) 12 j ea) 12 j = ea := upZ_s
  have o15n : ∀ n, ¬ n = (j * 4 + z 11 j) → (upZ (upZ (upZ (upZ (upZ o 15 (j * 4 + z 11 j) vr) 16 (j * 4 + z 11 j) sg) 17 (j * 4 + z 11 j) by9) 18 (j * 4 + z 11 j) dy) 12 j ea) 15 n = o 15 n := fun n h => by show (upZ o 15 (j * 4 + z 11 j) vr) 15 n = o 15 n; exact upZ_n (by omega)
  have o16n : ∀ n, ¬ n = (j * 4 + z 11 j) → (upZ (upZ (upZ (upZ (upZ o 15 (j * 4 + z 11 j) vr) 16 (j * 4 + z 11 j) sg) 17 (j * 4 + z 11 j) by9) 18 (j * 4 + z 11 j) dy) 12 j ea) 16 n = o 16 n := fun n h => by show (upZ (upZ o 15 (j * 4 + z 11 j) vr) 16 (j * 4 + z 11 j) sg) 16 n = o 16 n; rw [upZ_n (by omega)]; rfl
  have o17n : ∀ n, ¬ n = (j * 4 + z 11 j) → (upZ (upZ (upZ (upZ (upZ o 15 (j * 4 + z 11 j) vr) 16 (j * 4 + z 11 j) sg) 17 (j * 4 + z 11 j) by9) 18 (j * 4 + z 11 j) dy) 12 j ea) 17 n = o 17 n := fun n h => by show (upZ (upZ (upZ o 15 (j * 4 + z 11 j) vr) 16 (j * 4 + z 11 j) sg) 17 (j * 4 + z 11 j) by9) 17 n = o 17 n; rw [upZ_n (by omega)]; rfl
  have o18n : ∀ n, ¬ n = (j * 4 + z 11 j) → (upZ (upZ (upZ (upZ (upZ o 15 (j * 4 + z 11 j) vr) 16 (j * 4 + z 11 j) sg) 17 (j * 4 + z 11 j) by9) 18 (j * 4 + z 11 j) dy) 12 j ea) 18 n = o 18 n := fun n h => by show (upZ (upZ (upZ (upZ o 15 (j * 4 + z 11 j) vr) 16 (j * 4 + z 11 j) sg) 17 (j * 4 + z 11 j) by9) 18 (j * 4 + z 11 j) dy) 18 n = o 18 n; rw [upZ_n (by omega)]; rfl
  have o12n : ∀ n, ¬ n = j → (upZ (upZ (upZ (upZ (upZ o 15 (j * 4 + z 11 j) vr) 16 (j * 4 + z 11 j) sg) 17 (j * 4 + z 11 j) by9) 18 (j * 4 + z 11 j) dy) 12 j ea) 12 n = o 12 n := fun n h => by rw [upZ_n (by omega)]; rfl
  have z11s : (upZ (upZ (upZ z 17 (j * 4 + z 11 j) ln) 11 j (z 11 j + 1)) 1 0 0) 11 j = z 11 j + 1 := by show (upZ (upZ z 17 (j * 4 + z 11 j) ln) 11 j (z 11 j + 1)) 11 j = z 11 j + 1; exact upZ_s
  have z11n : ∀ n, ¬ n = j → (upZ (upZ (upZ z 17 (j * 4 + z 11 j) ln) 11 j (z 11 j + 1)) 1 0 0) 11 n = z 11 n := fun n h => by show (upZ (upZ z 17 (j * 4 + z 11 j) ln) 11 j (z 11 j + 1)) 11 n = z 11 n; rw [upZ_n (by omega)]; rfl
  have hvold : ∀ n, ¬ n = (j * 4 + z 11 j) → (n / 4 < z 3 0 ∧ n % 4 < (upZ (upZ (upZ z 17 (j * 4 + z 11 j) ln) 11 j (z 11 j + 1)) 1 0 0) 11 (n / 4)) → (n / 4 < z 3 0 ∧ n % 4 < z 11 (n / 4)) := fun n h hv => by
    refine ⟨hv.1, ?_⟩
    have h9 := hv.2
    by_cases hj9 : n / 4 = j
    · rw [hj9, z11s] at h9
      rw [hj9]
      omega
    · rw [z11n _ hj9] at h9
      exact h9
  have hold : ∀ q, q < N → (upR (upR (upR (upR (if ea = o 12 j ∧ 0 < z 11 j then r else upR r ea 12 j) vr 15 (j * 4 + z 11 j)) sg 16 (j * 4 + z 11 j)) by9 17 (j * 4 + z 11 j)) dy 18 (j * 4 + z 11 j)) q = r q := fun q hq => by
    rw [upR_n (by omega), upR_n (by omega), upR_n (by omega), upR_n (by omega)]
    by_cases h : ea = o 12 j ∧ 0 < z 11 j
    · rw [if_pos h]
    · rw [if_neg h, upR_n (by omega)]
  refine ⟨(upR (upR (upR (upR (if ea = o 12 j ∧ 0 < z 11 j then r else upR r ea 12 j) vr 15 (j * 4 + z 11 j)) sg 16 (j * 4 + z 11 j)) by9 17 (j * 4 + z 11 j)) dy 18 (j * 4 + z 11 j)), ?_, hold⟩
  refine hI.to hold (fun q hq _ => by omega) (fun k n hv => ?_) ⟨hB.1, Nat.zero_le _, hB.2.2.1, hB.2.2.2.1, hB.2.2.2.2.1, hB.2.2.2.2.2.1, fun n => ?_, fun n => ?_⟩ ⟨fun j9 h9 => absurd h9 (Nat.not_lt_zero _), fun n i a b c => ?_⟩
  rotate_left
  · by_cases h : n = j
    · rw [h, z11s]; omega
    · rw [z11n n h]; exact hB.2.2.2.2.2.2.1 n
  · show (upZ z 17 (j * 4 + z 11 j) ln) 17 n ≤ 12
    by_cases h : n = (j * 4 + z 11 j)
    · rw [h, upZ_s]; exact hln
    · rw [upZ_n (by omega)]; exact hB.2.2.2.2.2.2.2 n
  · have c' : i < (upZ z 17 (j * 4 + z 11 j) ln) 17 n := c
    show sgN ((upK (upK K 16 (j * 4 + z 11 j) (fun _ => 0)) 17 (j * 4 + z 11 j) fb) 17 n i)
    by_cases h : n = (j * 4 + z 11 j)
    · subst h
      rw [upZ_s] at c'
      rw [upK_s]
      exact hfb i c'
    · rw [upZ_n (by omega)] at c'
      rw [upK_n (by omega)]
      exact hI.2.2.2.2 n i (hvold n h ⟨a, b⟩).1 (hvold n h ⟨a, b⟩).2 c'
  match k, n, hv with
    | 0, n, hv => exact ⟨hx_keep (hI.1 0 n hv).1 (hF 0 n hv (by omega)), Or.inl ⟨hv, rfl, hN9 0 n hv⟩⟩
    | 1, n, hv => 
      cases (show n = 0 from hv)
      exact ⟨h1, Or.inl ⟨(show nmv z 1 0 from rfl), rfl, hN9 1 0 rfl⟩⟩
    | 2, n, hv => 
      cases (show n = 0 from hv)
      exact ⟨h2, Or.inl ⟨(show nmv z 2 0 from rfl), rfl, hN9 2 0 rfl⟩⟩
    | 3, n, hv => exact ⟨hx_keep (hI.1 3 n hv).1 (hF 3 n hv (by omega)), Or.inl ⟨hv, rfl, hN9 3 n hv⟩⟩
    | 4, n, hv => exact ⟨hx_keep (hI.1 4 n hv).1 (hF 4 n hv (by omega)), Or.inl ⟨hv, rfl, hN9 4 n hv⟩⟩
    | 5, n, hv => exact ⟨hx_keep (hI.1 5 n hv).1 (hF 5 n hv (by omega)), Or.inl ⟨hv, rfl, hN9 5 n hv⟩⟩
    | 6, n, hv => exact ⟨hx_keep (hI.1 6 n hv).1 (hF 6 n hv (by omega)), Or.inl ⟨hv, rfl, hN9 6 n hv⟩⟩
    | 7, n, hv => exact ⟨hx_keep (hI.1 7 n hv).1 (hF 7 n hv (by omega)), Or.inl ⟨hv, rfl, hN9 7 n hv⟩⟩
    | 8, n, hv => exact ⟨hx_keep (hI.1 8 n hv).1 (hF 8 n hv (by omega)), Or.inl ⟨hv, rfl, hN9 8 n hv⟩⟩
    | 9, n, hv => exact ⟨hx_keep (hI.1 9 n hv).1 (hF 9 n hv (by omega)), Or.inl ⟨hv, rfl, hN9 9 n hv⟩⟩
    | 10, n, hv => 
      have hv0 : nmv z 10 n := hv
      refine ⟨?_, Or.inl ⟨hv0, rfl, hN9 10 n hv0⟩⟩
      by_cases h : n = j
      · have h' := h.symm
        subst h'
        show va_at D vwCl (o 10 j, .inr (2, [.ref (o 11 j), .ref (o 13 j), va_rf (if z 14 j = 0 then none else some (o 14 j)), .int ((upK (upK (upK (upK (upK K 16 (j * 4 + z 11 j) (fun _ => 0)) 17 (j * 4 + z 11 j) fb) 18 (j * 4 + z 11 j) (fun i => if i = 0 then u else v)) 11 j (fun _ => mc)) 10 j g10) 10 j 0), .int ((upK (upK (upK (upK (upK K 16 (j * 4 + z 11 j) (fun _ => 0)) 17 (j * 4 + z 11 j) fb) 18 (j * 4 + z 11 j) (fun i => if i = 0 then u else v)) 11 j (fun _ => mc)) 10 j g10) 10 j 1), .int ((upK (upK (upK (upK (upK K 16 (j * 4 + z 11 j) (fun _ => 0)) 17 (j * 4 + z 11 j) fb) 18 (j * 4 + z 11 j) (fun i => if i = 0 then u else v)) 11 j (fun _ => mc)) 10 j g10) 10 j 2), .int ((upK (upK (upK (upK (upK K 16 (j * 4 + z 11 j) (fun _ => 0)) 17 (j * 4 + z 11 j) fb) 18 (j * 4 + z 11 j) (fun i => if i = 0 then u else v)) 11 j (fun _ => mc)) 10 j g10) 10 j 3)])) H1
        rw [upK_s]
        exact h10
      · show va_at D vwCl (o 10 n, .inr (2, [.ref (o 11 n), .ref (o 13 n), va_rf (if z 14 n = 0 then none else some (o 14 n)), .int ((upK (upK (upK (upK (upK K 16 (j * 4 + z 11 j) (fun _ => 0)) 17 (j * 4 + z 11 j) fb) 18 (j * 4 + z 11 j) (fun i => if i = 0 then u else v)) 11 j (fun _ => mc)) 10 j g10) 10 n 0), .int ((upK (upK (upK (upK (upK K 16 (j * 4 + z 11 j) (fun _ => 0)) 17 (j * 4 + z 11 j) fb) 18 (j * 4 + z 11 j) (fun i => if i = 0 then u else v)) 11 j (fun _ => mc)) 10 j g10) 10 n 1), .int ((upK (upK (upK (upK (upK K 16 (j * 4 + z 11 j) (fun _ => 0)) 17 (j * 4 + z 11 j) fb) 18 (j * 4 + z 11 j) (fun i => if i = 0 then u else v)) 11 j (fun _ => mc)) 10 j g10) 10 n 2), .int ((upK (upK (upK (upK (upK K 16 (j * 4 + z 11 j) (fun _ => 0)) 17 (j * 4 + z 11 j) fb) 18 (j * 4 + z 11 j) (fun i => if i = 0 then u else v)) 11 j (fun _ => mc)) 10 j g10) 10 n 3)])) H1
        rw [upK_n (by omega)]
        exact hx_keep (hI.1 10 n hv0).1 (hF 10 n hv0 (by omega))
    | 11, n, hv => 
      have hv0 : nmv z 11 n := hv
      refine ⟨?_, Or.inl ⟨hv0, rfl, hN9 11 n hv0⟩⟩
      show va_at D vwCl (o 11 n, .inr (6, [.ref (nmL cs ((upZ (upZ (upZ z 17 (j * 4 + z 11 j) ln) 11 j (z 11 j + 1)) 1 0 0) 11 n) ((upZ (upZ (upZ (upZ (upZ o 15 (j * 4 + z 11 j) vr) 16 (j * 4 + z 11 j) sg) 17 (j * 4 + z 11 j) by9) 18 (j * 4 + z 11 j) dy) 12 j ea) 12 n)), .int (nI ((upZ (upZ (upZ z 17 (j * 4 + z 11 j) ln) 11 j (z 11 j + 1)) 1 0 0) 11 n)), .int ((upK (upK (upK (upK K 16 (j * 4 + z 11 j) (fun _ => 0)) 17 (j * 4 + z 11 j) fb) 18 (j * 4 + z 11 j) (fun i => if i = 0 then u else v)) 11 j (fun _ => mc)) 11 n 0)])) H1
      by_cases h : n = j
      · have h' := h.symm
        subst h'
        rw [z11s, o12s, upK_s, show nmL cs (z 11 j + 1) ea = ea from if_neg (by omega)]
        exact h11
      · rw [z11n n h, o12n n h, upK_n (by omega)]
        exact hx_keep (hI.1 11 n hv0).1 (hF 11 n hv0 (by omega))
    | 12, n, hv => 
      have hv1 : n < z 3 0 ∧ 0 < (upZ (upZ (upZ z 17 (j * 4 + z 11 j) ln) 11 j (z 11 j + 1)) 1 0 0) 11 n := hv
      by_cases h : n = j
      · have h' := h.symm
        subst h'
        refine ⟨?_, ?_⟩
        · show va_at D vwCl ((upZ (upZ (upZ (upZ (upZ o 15 (j * 4 + z 11 j) vr) 16 (j * 4 + z 11 j) sg) 17 (j * 4 + z 11 j) by9) 18 (j * 4 + z 11 j) dy) 12 j ea) 12 j, .inl (cs 4, (10, .inr (.inr (.inr (.inr (fun i => if i < (upZ (upZ (upZ z 17 (j * 4 + z 11 j) ln) 11 j (z 11 j + 1)) 1 0 0) 11 j then some ((upZ o 15 (j * 4 + z 11 j) vr) 15 (j * 4 + i)) else none))))))) H1
          have e : (fun i => if i < (upZ (upZ (upZ z 17 (j * 4 + z 11 j) ln) 11 j (z 11 j + 1)) 1 0 0) 11 j then some ((upZ o 15 (j * 4 + z 11 j) vr) 15 (j * 4 + i)) else none) = va_up (fun i => if i < z 11 j then some (o 15 (j * 4 + i)) else none) (z 11 j) (some vr) := by
            funext i
            unfold va_up
            rw [z11s]
            by_cases hi : i = z 11 j
            · subst hi
              rw [if_pos (Nat.lt_succ_self _), if_pos rfl, upZ_s]
            · rw [if_neg hi]
              show _ = if i < z 11 j then some (o 15 (j * 4 + i)) else none
              by_cases h2 : i < z 11 j
              · rw [if_pos (by omega), if_pos h2, upZ_n (by omega)]
              · rw [if_neg (by omega), if_neg h2]
          rw [e, o12s]
          exact h12
        · show (_ ∧ (upZ (upZ (upZ (upZ (upZ o 15 (j * 4 + z 11 j) vr) 16 (j * 4 + z 11 j) sg) 17 (j * 4 + z 11 j) by9) 18 (j * 4 + z 11 j) dy) 12 j ea) 12 j = o 12 j ∧ _) ∨ (upR (upR (upR (upR (if ea = o 12 j ∧ 0 < z 11 j then r else upR r ea 12 j) vr 15 (j * 4 + z 11 j)) sg 16 (j * 4 + z 11 j)) by9 17 (j * 4 + z 11 j)) dy 18 (j * 4 + z 11 j)) ((upZ (upZ (upZ (upZ (upZ o 15 (j * 4 + z 11 j) vr) 16 (j * 4 + z 11 j) sg) 17 (j * 4 + z 11 j) by9) 18 (j * 4 + z 11 j) dy) 12 j ea) 12 j) = (12, j)
          rw [o12s]
          rcases hea with h | h
          · exact Or.inl ⟨⟨hv1.1, h.2⟩, h.1, hN9 12 j ⟨hv1.1, h.2⟩⟩
          · refine Or.inr ?_
            rw [upR_n h.2.2.2.2, upR_n h.2.2.2.1, upR_n h.2.2.1, upR_n h.2.1]
            by_cases h9 : ea = o 12 j ∧ 0 < z 11 j
            · have := hN9 12 j ⟨hv1.1, h9.2⟩
              omega
            · rw [if_neg h9]
              exact upR_s
      · have hv0 : nmv z 12 n := ⟨hv1.1, by have h9 := hv1.2; rw [z11n n h] at h9; exact h9⟩
        refine ⟨?_, Or.inl ⟨hv0, o12n n h, hN9 12 n hv0⟩⟩
        show va_at D vwCl ((upZ (upZ (upZ (upZ (upZ o 15 (j * 4 + z 11 j) vr) 16 (j * 4 + z 11 j) sg) 17 (j * 4 + z 11 j) by9) 18 (j * 4 + z 11 j) dy) 12 j ea) 12 n, .inl (cs 4, (10, .inr (.inr (.inr (.inr (fun i => if i < (upZ (upZ (upZ z 17 (j * 4 + z 11 j) ln) 11 j (z 11 j + 1)) 1 0 0) 11 n then some ((upZ o 15 (j * 4 + z 11 j) vr) 15 (n * 4 + i)) else none))))))) H1
        have e : (fun i => if i < (upZ (upZ (upZ z 17 (j * 4 + z 11 j) ln) 11 j (z 11 j + 1)) 1 0 0) 11 n then some ((upZ o 15 (j * 4 + z 11 j) vr) 15 (n * 4 + i)) else none) = (fun i => if i < z 11 n then some (o 15 (n * 4 + i)) else none) := by
          funext i
          rw [z11n n h]
          have h4n := hB.2.2.2.2.2.2.1 n
          by_cases h2 : i < z 11 n
          · rw [if_pos h2, if_pos h2, upZ_n (by omega)]
          · rw [if_neg h2, if_neg h2]
        rw [e, o12n n h]
        exact hx_keep (hI.1 12 n hv0).1 (hF 12 n hv0 (by omega))
    | 13, n, hv => exact ⟨hx_keep (hI.1 13 n hv).1 (hF 13 n hv (by omega)), Or.inl ⟨hv, rfl, hN9 13 n hv⟩⟩
    | 14, n, hv => exact ⟨hx_keep (hI.1 14 n hv).1 (hF 14 n hv (by omega)), Or.inl ⟨hv, rfl, hN9 14 n hv⟩⟩
    | 15, n, hv => 
      by_cases h : n = (j * 4 + z 11 j)
      · subst h
        refine ⟨?_, Or.inr ?_⟩
        · show va_at D vwCl ((upZ o 15 (j * 4 + z 11 j) vr) 15 (j * 4 + z 11 j), .inr (3, [.ref ((upZ (upZ o 15 (j * 4 + z 11 j) vr) 16 (j * 4 + z 11 j) sg) 16 (j * 4 + z 11 j)), .ref ((upZ (upZ (upZ (upZ o 15 (j * 4 + z 11 j) vr) 16 (j * 4 + z 11 j) sg) 17 (j * 4 + z 11 j) by9) 18 (j * 4 + z 11 j) dy) 18 (j * 4 + z 11 j))])) H1
          rw [upZ_s, upZ_s, upZ_s]
          exact hvr
        · rw [o15s, upR_n hdis.2.2.1, upR_n hdis.2.1, upR_n hdis.1]
          exact upR_s
      · have hv0 : nmv z 15 n := hvold n h hv
        refine ⟨?_, Or.inl ⟨hv0, o15n n h, hN9 15 n hv0⟩⟩
        show va_at D vwCl ((upZ o 15 (j * 4 + z 11 j) vr) 15 n, .inr (3, [.ref ((upZ (upZ o 15 (j * 4 + z 11 j) vr) 16 (j * 4 + z 11 j) sg) 16 n), .ref ((upZ (upZ (upZ (upZ o 15 (j * 4 + z 11 j) vr) 16 (j * 4 + z 11 j) sg) 17 (j * 4 + z 11 j) by9) 18 (j * 4 + z 11 j) dy) 18 n)])) H1
        rw [upZ_n (by omega), upZ_n (z := (upZ o 15 (j * 4 + z 11 j) vr)) (by omega), upZ_n (z := (upZ (upZ (upZ o 15 (j * 4 + z 11 j) vr) 16 (j * 4 + z 11 j) sg) 17 (j * 4 + z 11 j) by9)) (by omega)]
        exact hx_keep (hI.1 15 n hv0).1 (hF 15 n hv0 (by omega))
    | 16, n, hv => 
      by_cases h : n = (j * 4 + z 11 j)
      · subst h
        refine ⟨?_, Or.inr ?_⟩
        · show va_at D vwCl ((upZ (upZ o 15 (j * 4 + z 11 j) vr) 16 (j * 4 + z 11 j) sg) 16 (j * 4 + z 11 j), .inr (8, [.ref ((upZ (upZ (upZ o 15 (j * 4 + z 11 j) vr) 16 (j * 4 + z 11 j) sg) 17 (j * 4 + z 11 j) by9) 17 (j * 4 + z 11 j)), .int 0, .int ((upK K 16 (j * 4 + z 11 j) (fun _ => 0)) 16 (j * 4 + z 11 j) 0), .int ((upK K 16 (j * 4 + z 11 j) (fun _ => 0)) 16 (j * 4 + z 11 j) 1)])) H1
          rw [upZ_s, upZ_s, upK_s]
          exact hsg
        · rw [o16s, upR_n hdis.2.2.2.2.1, upR_n hdis.2.2.2.1]
          exact upR_s
      · have hv0 : nmv z 16 n := hvold n h hv
        refine ⟨?_, Or.inl ⟨hv0, o16n n h, hN9 16 n hv0⟩⟩
        show va_at D vwCl ((upZ (upZ o 15 (j * 4 + z 11 j) vr) 16 (j * 4 + z 11 j) sg) 16 n, .inr (8, [.ref ((upZ (upZ (upZ o 15 (j * 4 + z 11 j) vr) 16 (j * 4 + z 11 j) sg) 17 (j * 4 + z 11 j) by9) 17 n), .int 0, .int ((upK K 16 (j * 4 + z 11 j) (fun _ => 0)) 16 n 0), .int ((upK K 16 (j * 4 + z 11 j) (fun _ => 0)) 16 n 1)])) H1
        rw [upZ_n (z := (upZ o 15 (j * 4 + z 11 j) vr)) (by omega), upZ_n (z := (upZ (upZ o 15 (j * 4 + z 11 j) vr) 16 (j * 4 + z 11 j) sg)) (by omega), upK_n (by omega)]
        exact hx_keep (hI.1 16 n hv0).1 (hF 16 n hv0 (by omega))
    | 17, n, hv => 
      by_cases h : n = (j * 4 + z 11 j)
      · subst h
        refine ⟨?_, Or.inr ?_⟩
        · show va_at D vwCl ((upZ (upZ (upZ o 15 (j * 4 + z 11 j) vr) 16 (j * 4 + z 11 j) sg) 17 (j * 4 + z 11 j) by9) 17 (j * 4 + z 11 j), .inl (cs 2, ((upZ z 17 (j * 4 + z 11 j) ln) 17 (j * 4 + z 11 j), .inl ((upK (upK K 16 (j * 4 + z 11 j) (fun _ => 0)) 17 (j * 4 + z 11 j) fb) 17 (j * 4 + z 11 j))))) H1
          rw [upZ_s, upZ_s, upK_s]
          exact hby
        · rw [o17s, upR_n hdis.2.2.2.2.2]
          exact upR_s
      · have hv0 : nmv z 17 n := hvold n h hv
        refine ⟨?_, Or.inl ⟨hv0, o17n n h, hN9 17 n hv0⟩⟩
        show va_at D vwCl ((upZ (upZ (upZ o 15 (j * 4 + z 11 j) vr) 16 (j * 4 + z 11 j) sg) 17 (j * 4 + z 11 j) by9) 17 n, .inl (cs 2, ((upZ z 17 (j * 4 + z 11 j) ln) 17 n, .inl ((upK (upK K 16 (j * 4 + z 11 j) (fun _ => 0)) 17 (j * 4 + z 11 j) fb) 17 n)))) H1
        rw [upZ_n (z := (upZ (upZ o 15 (j * 4 + z 11 j) vr) 16 (j * 4 + z 11 j) sg)) (by omega), upZ_n (z := z) (by omega), upK_n (by omega)]
        exact hx_keep (hI.1 17 n hv0).1 (hF 17 n hv0 (by omega))
    | 18, n, hv => 
      by_cases h : n = (j * 4 + z 11 j)
      · subst h
        refine ⟨?_, Or.inr ?_⟩
        · show va_at D vwCl ((upZ (upZ (upZ (upZ o 15 (j * 4 + z 11 j) vr) 16 (j * 4 + z 11 j) sg) 17 (j * 4 + z 11 j) by9) 18 (j * 4 + z 11 j) dy) 18 (j * 4 + z 11 j), .inr (4, [.int ((upK (upK (upK K 16 (j * 4 + z 11 j) (fun _ => 0)) 17 (j * 4 + z 11 j) fb) 18 (j * 4 + z 11 j) (fun i => if i = 0 then u else v)) 18 (j * 4 + z 11 j) 0), .int ((upK (upK (upK K 16 (j * 4 + z 11 j) (fun _ => 0)) 17 (j * 4 + z 11 j) fb) 18 (j * 4 + z 11 j) (fun i => if i = 0 then u else v)) 18 (j * 4 + z 11 j) 1)])) H1
          rw [upZ_s, upK_s]
          exact hdy
        · rw [o18s]
          exact upR_s
      · have hv0 : nmv z 18 n := hvold n h hv
        refine ⟨?_, Or.inl ⟨hv0, o18n n h, hN9 18 n hv0⟩⟩
        show va_at D vwCl ((upZ (upZ (upZ (upZ o 15 (j * 4 + z 11 j) vr) 16 (j * 4 + z 11 j) sg) 17 (j * 4 + z 11 j) by9) 18 (j * 4 + z 11 j) dy) 18 n, .inr (4, [.int ((upK (upK (upK K 16 (j * 4 + z 11 j) (fun _ => 0)) 17 (j * 4 + z 11 j) fb) 18 (j * 4 + z 11 j) (fun i => if i = 0 then u else v)) 18 n 0), .int ((upK (upK (upK K 16 (j * 4 + z 11 j) (fun _ => 0)) 17 (j * 4 + z 11 j) fb) 18 (j * 4 + z 11 j) (fun i => if i = 0 then u else v)) 18 n 1)])) H1
        rw [upZ_n (z := (upZ (upZ (upZ o 15 (j * 4 + z 11 j) vr) 16 (j * 4 + z 11 j) sg) 17 (j * 4 + z 11 j) by9)) (by omega), upK_n (by omega)]
        exact hx_keep (hI.1 18 n hv0).1 (hF 18 n hv0 (by omega))
    | 19, n, hv => exact ⟨hx_keep (hI.1 19 n hv).1 (hF 19 n hv (by omega)), Or.inl ⟨hv, rfl, hN9 19 n hv⟩⟩
    | _ + 20, _, hv => exact hv.elim
end NMB
