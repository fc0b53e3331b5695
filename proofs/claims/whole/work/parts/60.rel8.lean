/-! a new variant: the same state -/
section R8
variable {z : zT} {K : kT} {i : Nat → Int32} {f : Nat → Nat → Int32}
theorem rel.vard {x lg fr tw mc ml : Int32} {j : Nat} {S3 : Nat → Int32} (h : rel z K i f) (hB : nmB (upZ (upZ (upZ z 17 (j * 4 + z 11 j) (z 1 0)) 11 j (z 11 j + 1)) 1 0 0)) (hK : nmK (upZ (upZ (upZ z 17 (j * 4 + z 11 j) (z 1 0)) 11 j (z 11 j + 1)) 1 0 0) (upK (upK (upK (upK (upK (upK K 16 (j * 4 + z 11 j) (fun _ => 0)) 17 (j * 4 + z 11 j) (padF z K)) 18 (j * 4 + z 11 j) (fun i => if i = 0 then fr else tw)) 11 j (fun _ => mc)) 10 j (fun i => if i = 0 then K 10 j 0 ||| (1 : Int32) <<< (lg &&& 31) else if i = 1 then K 10 j 1 ||| (1 : Int32) <<< ((chV (K 2 0 0) - 97) &&& 31) else K 10 j i)) 1 0 (fun _ => ml))) (hj : j < z 3 0) (hc : z 11 j < 4) (hp : 0 < z 1 0) {lq : Nat} (hlq : lq < 6) (elq : lg = nI lq) (hs1 : ∀ t, t < z 1 0 → S3 (12 * (4 * j + z 11 j) + t) = f 0 t) (hs2 : ∀ t, (t < 12 * (4 * j + z 11 j) ∨ 12 * (4 * j + z 11 j) + z 1 0 ≤ t) → S3 t = f 3 t) : rel (upZ (upZ (upZ z 17 (j * 4 + z 11 j) (z 1 0)) 11 j (z 11 j + 1)) 1 0 0) (upK (upK (upK (upK (upK (upK K 16 (j * 4 + z 11 j) (fun _ => 0)) 17 (j * 4 + z 11 j) (padF z K)) 18 (j * 4 + z 11 j) (fun i => if i = 0 then fr else tw)) 11 j (fun _ => mc)) 10 j (fun i => if i = 0 then K 10 j 0 ||| (1 : Int32) <<< (lg &&& 31) else if i = 1 then K 10 j 1 ||| (1 : Int32) <<< ((chV (K 2 0 0) - 97) &&& 31) else K 10 j i)) 1 0 (fun _ => ml)) (upd (upd i 0 x) 1 0) (updA (updA (updA (updA (setA (updA f 2 (4 * j + z 11 j) (nI (z 1 0))) 3 S3) 4 (4 * j + z 11 j) lg) 5 (4 * j + z 11 j) fr) 6 (4 * j + z 11 j) tw) 1 j (nI (z 11 j + 1))) := by
  have h24 : z 3 0 ≤ 24 := h.bnd.2.2.1
  have h12 : z 1 0 ≤ 12 := h.bnd.2.1
  have h4 := h.bnd.2.2.2.2.2.2.1
  have h17 := h.bnd.2.2.2.2.2.2.2
  obtain ⟨v1, v2, v3, v4, v5⟩ := h.var
  have hm : (4 * j + z 11 j) = (j * 4 + z 11 j) := by omega
  have z11s : (upZ (upZ (upZ z 17 (j * 4 + z 11 j) (z 1 0)) 11 j (z 11 j + 1)) 1 0 0) 11 j = z 11 j + 1 := by show (upZ (upZ z 17 (j * 4 + z 11 j) (z 1 0)) 11 j (z 11 j + 1)) 11 j = _; exact upZ_s
  have z11n : ∀ n, ¬ n = j → (upZ (upZ (upZ z 17 (j * 4 + z 11 j) (z 1 0)) 11 j (z 11 j + 1)) 1 0 0) 11 n = z 11 n := fun n hn => by show (upZ (upZ z 17 (j * 4 + z 11 j) (z 1 0)) 11 j (z 11 j + 1)) 11 n = _; rw [upZ_n (by omega)]; rfl
  have z17s : (upZ (upZ (upZ z 17 (j * 4 + z 11 j) (z 1 0)) 11 j (z 11 j + 1)) 1 0 0) 17 (j * 4 + z 11 j) = z 1 0 := by show (upZ z 17 (j * 4 + z 11 j) (z 1 0)) 17 (j * 4 + z 11 j) = _; exact upZ_s
  have z17n : ∀ n, ¬ n = (j * 4 + z 11 j) → (upZ (upZ (upZ z 17 (j * 4 + z 11 j) (z 1 0)) 11 j (z 11 j + 1)) 1 0 0) 17 n = z 17 n := fun n hn => by show (upZ z 17 (j * 4 + z 11 j) (z 1 0)) 17 n = _; exact upZ_n (by omega)
  have k17s : (upK (upK (upK (upK (upK (upK K 16 (j * 4 + z 11 j) (fun _ => 0)) 17 (j * 4 + z 11 j) (padF z K)) 18 (j * 4 + z 11 j) (fun i => if i = 0 then fr else tw)) 11 j (fun _ => mc)) 10 j (fun i => if i = 0 then K 10 j 0 ||| (1 : Int32) <<< (lg &&& 31) else if i = 1 then K 10 j 1 ||| (1 : Int32) <<< ((chV (K 2 0 0) - 97) &&& 31) else K 10 j i)) 1 0 (fun _ => ml)) 17 (j * 4 + z 11 j) = padF z K := by show (upK (upK K 16 (j * 4 + z 11 j) (fun _ => 0)) 17 (j * 4 + z 11 j) (padF z K)) 17 (j * 4 + z 11 j) = _; exact upK_s
  have k17n : ∀ n, ¬ n = (j * 4 + z 11 j) → (upK (upK (upK (upK (upK (upK K 16 (j * 4 + z 11 j) (fun _ => 0)) 17 (j * 4 + z 11 j) (padF z K)) 18 (j * 4 + z 11 j) (fun i => if i = 0 then fr else tw)) 11 j (fun _ => mc)) 10 j (fun i => if i = 0 then K 10 j 0 ||| (1 : Int32) <<< (lg &&& 31) else if i = 1 then K 10 j 1 ||| (1 : Int32) <<< ((chV (K 2 0 0) - 97) &&& 31) else K 10 j i)) 1 0 (fun _ => ml)) 17 n = K 17 n := fun n hn => by show (upK (upK K 16 (j * 4 + z 11 j) (fun _ => 0)) 17 (j * 4 + z 11 j) (padF z K)) 17 n = _; rw [upK_n (by omega)]; rfl
  have k18s : (upK (upK (upK (upK (upK (upK K 16 (j * 4 + z 11 j) (fun _ => 0)) 17 (j * 4 + z 11 j) (padF z K)) 18 (j * 4 + z 11 j) (fun i => if i = 0 then fr else tw)) 11 j (fun _ => mc)) 10 j (fun i => if i = 0 then K 10 j 0 ||| (1 : Int32) <<< (lg &&& 31) else if i = 1 then K 10 j 1 ||| (1 : Int32) <<< ((chV (K 2 0 0) - 97) &&& 31) else K 10 j i)) 1 0 (fun _ => ml)) 18 (j * 4 + z 11 j) = (fun i => if i = 0 then fr else tw) := by show (upK (upK (upK K 16 (j * 4 + z 11 j) (fun _ => 0)) 17 (j * 4 + z 11 j) (padF z K)) 18 (j * 4 + z 11 j) (fun i => if i = 0 then fr else tw)) 18 (j * 4 + z 11 j) = _; exact upK_s
  have k18n : ∀ n, ¬ n = (j * 4 + z 11 j) → (upK (upK (upK (upK (upK (upK K 16 (j * 4 + z 11 j) (fun _ => 0)) 17 (j * 4 + z 11 j) (padF z K)) 18 (j * 4 + z 11 j) (fun i => if i = 0 then fr else tw)) 11 j (fun _ => mc)) 10 j (fun i => if i = 0 then K 10 j 0 ||| (1 : Int32) <<< (lg &&& 31) else if i = 1 then K 10 j 1 ||| (1 : Int32) <<< ((chV (K 2 0 0) - 97) &&& 31) else K 10 j i)) 1 0 (fun _ => ml)) 18 n = K 18 n := fun n hn => by show (upK (upK (upK K 16 (j * 4 + z 11 j) (fun _ => 0)) 17 (j * 4 + z 11 j) (padF z K)) 18 (j * 4 + z 11 j) (fun i => if i = 0 then fr else tw)) 18 n = _; rw [upK_n (by omega)]; rfl
  have k10s : (upK (upK (upK (upK (upK (upK K 16 (j * 4 + z 11 j) (fun _ => 0)) 17 (j * 4 + z 11 j) (padF z K)) 18 (j * 4 + z 11 j) (fun i => if i = 0 then fr else tw)) 11 j (fun _ => mc)) 10 j (fun i => if i = 0 then K 10 j 0 ||| (1 : Int32) <<< (lg &&& 31) else if i = 1 then K 10 j 1 ||| (1 : Int32) <<< ((chV (K 2 0 0) - 97) &&& 31) else K 10 j i)) 1 0 (fun _ => ml)) 10 j = (fun i => if i = 0 then K 10 j 0 ||| (1 : Int32) <<< (lg &&& 31) else if i = 1 then K 10 j 1 ||| (1 : Int32) <<< ((chV (K 2 0 0) - 97) &&& 31) else K 10 j i) := by show (upK (upK (upK (upK (upK K 16 (j * 4 + z 11 j) (fun _ => 0)) 17 (j * 4 + z 11 j) (padF z K)) 18 (j * 4 + z 11 j) (fun i => if i = 0 then fr else tw)) 11 j (fun _ => mc)) 10 j (fun i => if i = 0 then K 10 j 0 ||| (1 : Int32) <<< (lg &&& 31) else if i = 1 then K 10 j 1 ||| (1 : Int32) <<< ((chV (K 2 0 0) - 97) &&& 31) else K 10 j i)) 10 j = _; exact upK_s
  have k10n : ∀ n, ¬ n = j → (upK (upK (upK (upK (upK (upK K 16 (j * 4 + z 11 j) (fun _ => 0)) 17 (j * 4 + z 11 j) (padF z K)) 18 (j * 4 + z 11 j) (fun i => if i = 0 then fr else tw)) 11 j (fun _ => mc)) 10 j (fun i => if i = 0 then K 10 j 0 ||| (1 : Int32) <<< (lg &&& 31) else if i = 1 then K 10 j 1 ||| (1 : Int32) <<< ((chV (K 2 0 0) - 97) &&& 31) else K 10 j i)) 1 0 (fun _ => ml)) 10 n = K 10 n := fun n hn => by show (upK (upK (upK (upK (upK K 16 (j * 4 + z 11 j) (fun _ => 0)) 17 (j * 4 + z 11 j) (padF z K)) 18 (j * 4 + z 11 j) (fun i => if i = 0 then fr else tw)) 11 j (fun _ => mc)) 10 j (fun i => if i = 0 then K 10 j 0 ||| (1 : Int32) <<< (lg &&& 31) else if i = 1 then K 10 j 1 ||| (1 : Int32) <<< ((chV (K 2 0 0) - 97) &&& 31) else K 10 j i)) 10 n = _; rw [upK_n (by omega)]; rfl
  have hvl : ∀ m, ¬ m = (j * 4 + z 11 j) → ((m / 4 < z 3 0 ∧ m % 4 < (upZ (upZ (upZ z 17 (j * 4 + z 11 j) (z 1 0)) 11 j (z 11 j + 1)) 1 0 0) 11 (m / 4)) ↔ (m / 4 < z 3 0 ∧ m % 4 < z 11 (m / 4))) := fun m hm9 => by
    by_cases e : m / 4 = j
    · rw [e, z11s]; omega
    · rw [z11n _ e]
  have hvM : (j * 4 + z 11 j) / 4 < z 3 0 ∧ (j * 4 + z 11 j) % 4 < (upZ (upZ (upZ z 17 (j * 4 + z 11 j) (z 1 0)) 11 j (z 11 j + 1)) 1 0 0) 11 ((j * 4 + z 11 j) / 4) := by
    rw [show (j * 4 + z 11 j) / 4 = j by omega, show (j * 4 + z 11 j) % 4 = z 11 j by omega, z11s]
    omega
  refine ⟨hB, hK, ⟨rfl, fun t ht => absurd ht (Nat.not_lt_zero _)⟩, h.nam, ⟨fun a ha => ?_, fun m hm9 => ?_, fun m a b => ?_, fun a ha l hl => ?_, fun a ha l hl => ?_⟩, h.dat, h.dec, ?_, h.num, h.mrg, h.pai, h.fnd⟩
  · show upd (f 1) j (nI (z 11 j + 1)) a = nI (if a < z 3 0 then (upZ (upZ (upZ z 17 (j * 4 + z 11 j) (z 1 0)) 11 j (z 11 j + 1)) 1 0 0) 11 a else 0)
    by_cases e : a = j
    · rw [e, upd_self, if_pos hj, z11s]
    · rw [upd_ne e, v1 a ha, z11n a e]
      rfl
  · show upd (f 2) (4 * j + z 11 j) (nI (z 1 0)) m = nI (if m / 4 < z 3 0 ∧ m % 4 < (upZ (upZ (upZ z 17 (j * 4 + z 11 j) (z 1 0)) 11 j (z 11 j + 1)) 1 0 0) 11 (m / 4) then (upZ (upZ (upZ z 17 (j * 4 + z 11 j) (z 1 0)) 11 j (z 11 j + 1)) 1 0 0) 17 m else 0)
    rw [hm]
    by_cases e : m = (j * 4 + z 11 j)
    · rw [e, upd_self, if_pos hvM, z17s]
    · rw [upd_ne e, v2 m hm9, z17n m e]
      unfold lnF
      by_cases q : m / 4 < z 3 0 ∧ m % 4 < z 11 (m / 4)
      · rw [if_pos q, if_pos ((hvl m e).mpr q)]
      · rw [if_neg q, if_neg (fun q9 => q ((hvl m e).mp q9))]
  · show 1 ≤ (upZ (upZ (upZ z 17 (j * 4 + z 11 j) (z 1 0)) 11 j (z 11 j + 1)) 1 0 0) 17 m ∧ (∀ t, t < (upZ (upZ (upZ z 17 (j * 4 + z 11 j) (z 1 0)) 11 j (z 11 j + 1)) 1 0 0) 17 m → S3 (12 * m + t) = (upK (upK (upK (upK (upK (upK K 16 (j * 4 + z 11 j) (fun _ => 0)) 17 (j * 4 + z 11 j) (padF z K)) 18 (j * 4 + z 11 j) (fun i => if i = 0 then fr else tw)) 11 j (fun _ => mc)) 10 j (fun i => if i = 0 then K 10 j 0 ||| (1 : Int32) <<< (lg &&& 31) else if i = 1 then K 10 j 1 ||| (1 : Int32) <<< ((chV (K 2 0 0) - 97) &&& 31) else K 10 j i)) 1 0 (fun _ => ml)) 17 m t) ∧ (∃ l, l < 6 ∧ upd (f 4) (4 * j + z 11 j) lg m = nI l) ∧ upd (f 5) (4 * j + z 11 j) fr m = (upK (upK (upK (upK (upK (upK K 16 (j * 4 + z 11 j) (fun _ => 0)) 17 (j * 4 + z 11 j) (padF z K)) 18 (j * 4 + z 11 j) (fun i => if i = 0 then fr else tw)) 11 j (fun _ => mc)) 10 j (fun i => if i = 0 then K 10 j 0 ||| (1 : Int32) <<< (lg &&& 31) else if i = 1 then K 10 j 1 ||| (1 : Int32) <<< ((chV (K 2 0 0) - 97) &&& 31) else K 10 j i)) 1 0 (fun _ => ml)) 18 m 0 ∧ upd (f 6) (4 * j + z 11 j) tw m = (upK (upK (upK (upK (upK (upK K 16 (j * 4 + z 11 j) (fun _ => 0)) 17 (j * 4 + z 11 j) (padF z K)) 18 (j * 4 + z 11 j) (fun i => if i = 0 then fr else tw)) 11 j (fun _ => mc)) 10 j (fun i => if i = 0 then K 10 j 0 ||| (1 : Int32) <<< (lg &&& 31) else if i = 1 then K 10 j 1 ||| (1 : Int32) <<< ((chV (K 2 0 0) - 97) &&& 31) else K 10 j i)) 1 0 (fun _ => ml)) 18 m 1
    by_cases e : m = (j * 4 + z 11 j)
    · rw [hm, e, upd_self, upd_self, upd_self, k18s, z17s, k17s]
      refine ⟨hp, fun t ht => ?_, ⟨lq, hlq, elq⟩, rfl, rfl⟩
      rw [show 12 * (j * 4 + z 11 j) + t = 12 * (4 * j + z 11 j) + t by omega, hs1 t ht, h.pad.2 t ht]
      unfold padF
      rw [pk_cpy_in (Nat.zero_le _) (by omega), Nat.zero_add, Nat.sub_zero]
    · have hv := (hvl m e).mp ⟨a, b⟩
      obtain ⟨w1, w2, w3, w4, w5⟩ := v3 m hv.1 hv.2
      rw [hm, upd_ne e, upd_ne e, upd_ne e, k18n m e, z17n m e, k17n m e]
      refine ⟨w1, fun t ht => ?_, w3, w4, w5⟩
      have := h17 m
      rw [hs2 _ (by omega)]
      exact w2 t ht
  · show bt ((upK (upK (upK (upK (upK (upK K 16 (j * 4 + z 11 j) (fun _ => 0)) 17 (j * 4 + z 11 j) (padF z K)) 18 (j * 4 + z 11 j) (fun i => if i = 0 then fr else tw)) 11 j (fun _ => mc)) 10 j (fun i => if i = 0 then K 10 j 0 ||| (1 : Int32) <<< (lg &&& 31) else if i = 1 then K 10 j 1 ||| (1 : Int32) <<< ((chV (K 2 0 0) - 97) &&& 31) else K 10 j i)) 1 0 (fun _ => ml)) 10 a 0) l = anyTo (fun t => decide (upd (f 4) (4 * j + z 11 j) lg (4 * a + t) = nI l)) ((upZ (upZ (upZ z 17 (j * 4 + z 11 j) (z 1 0)) 11 j (z 11 j + 1)) 1 0 0) 11 a)
    by_cases e : a = j
    · rw [e, k10s, z11s, anyTo, anyTo_congr (Q := fun t => decide (f 4 (4 * j + t) = nI l)) (z 11 j) (fun t ht => by rw [upd_ne (by omega)]), upd_self, ← v4 j hj l hl]
      show bt (K 10 j 0 ||| (1 : Int32) <<< (lg &&& 31)) l = _
      rw [bt_or, elq, bt_one (by omega)]
      congr 1
      rw [decide_eq_decide, nI_eq (by omega) (by omega)]
    · rw [k10n a e, z11n a e, v4 a ha l hl]
      have := h4 a
      exact anyTo_congr _ (fun t ht => by rw [upd_ne (by omega)])
  · show bt ((upK (upK (upK (upK (upK (upK K 16 (j * 4 + z 11 j) (fun _ => 0)) 17 (j * 4 + z 11 j) (padF z K)) 18 (j * 4 + z 11 j) (fun i => if i = 0 then fr else tw)) 11 j (fun _ => mc)) 10 j (fun i => if i = 0 then K 10 j 0 ||| (1 : Int32) <<< (lg &&& 31) else if i = 1 then K 10 j 1 ||| (1 : Int32) <<< ((chV (K 2 0 0) - 97) &&& 31) else K 10 j i)) 1 0 (fun _ => ml)) 10 a 1) l = anyTo (fun t => decide (S3 (12 * (4 * a + t)) = nI (97 + l))) ((upZ (upZ (upZ z 17 (j * 4 + z 11 j) (z 1 0)) 11 j (z 11 j + 1)) 1 0 0) 11 a)
    by_cases e : a = j
    · rw [e, k10s, z11s, anyTo, anyTo_congr (Q := fun t => decide (f 3 (12 * (4 * j + t)) = nI (97 + l))) (z 11 j) (fun t ht => by rw [hs2 _ (by omega)]), ← v5 j hj l hl]
      show bt (K 10 j 1 ||| (1 : Int32) <<< ((chV (K 2 0 0) - 97) &&& 31)) l = _
      obtain ⟨q, q1, q2, eq⟩ := h.ok.1 0 hp
      have eS : S3 (12 * (4 * j + z 11 j)) = nI q := by
        have := hs1 0 hp
        rw [Nat.add_zero] at this
        rw [this, h.pad.2 0 hp, eq]
      rw [eS, eq, x_chV q (by omega), show (97 : Int32) = nI 97 from rfl, pk_sub (by omega), bt_or, bt_one (by omega)]
      congr 1
      rw [decide_eq_decide, nI_eq (by omega) (by omega)]
      omega
    · rw [k10n a e, z11n a e, v5 a ha l hl]
      have := h4 a
      exact anyTo_congr _ (fun t ht => by rw [hs2 _ (by omega)])
  · obtain ⟨br, b1, b2, b3, b4, b5⟩ := h.brd
    refine ⟨br, b1, b2, fun a ha b hb => ?_, fun a ha b hb => ?_, b5⟩
    · by_cases e : a = j
      · rw [e, k10s]; exact b3 j hj b hb
      · rw [k10n a e]; exact b3 a ha b hb
    · by_cases e : a = j
      · rw [e, k10s]; exact b4 j hj b hb
      · rw [k10n a e]; exact b4 a ha b hb
end R8
