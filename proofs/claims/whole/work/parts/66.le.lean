theorem d_law_0 : decode code 0 = .ok (.new 8, 3) := by decide +kernel
theorem d_law_3 : decode code 3 = .ok (.dup, 1) := by decide +kernel
theorem d_law_4 : decode code 4 = .ok (.invokespecial 73, 3) := by decide +kernel
theorem d_law_7 : decode code 7 = .ok (.astore_n 1, 1) := by decide +kernel
theorem d_law_8 : decode code 8 = .ok (.new 74, 3) := by decide +kernel
theorem d_law_11 : decode code 11 = .ok (.dup, 1) := by decide +kernel
theorem d_law_12 : decode code 12 = .ok (.invokespecial 76, 3) := by decide +kernel
theorem d_law_15 : decode code 15 = .ok (.astore_n 2, 1) := by decide +kernel
theorem d_law_16 : decode code 16 = .ok (.iconst 1, 1) := by decide +kernel
theorem d_law_17 : decode code 17 = .ok (.newarray .long, 2) := by decide +kernel
theorem d_law_19 : decode code 19 = .ok (.astore_n 3, 1) := by decide +kernel
theorem d_law_20 : decode code 20 = .ok (.iconst 0, 1) := by decide +kernel
theorem d_law_21 : decode code 21 = .ok (.istore 4, 2) := by decide +kernel
/-! the law's first state -/
def z0 : zT
  | 4, _ => 10
  | 6, _ => 10
  | _, _ => 0
def o0 (x a1 bb a2 a3 a4 a5 a6 : Nat) : zT
  | 0, _ => x
  | 1, _ => a1
  | 2, _ => bb
  | 3, _ => a2
  | 5, _ => a3
  | 7, _ => a4
  | 8, _ => a5
  | _, _ => a6
def r0 (x a1 bb a2 a3 a4 a5 a6 : Nat) (q : Nat) : Nat × Nat := if q = x then (0, 0) else if q = a1 then (1, 0) else if q = bb then (2, 0) else if q = a2 then (3, 0) else if q = a3 then (5, 0) else if q = a4 then (7, 0) else if q = a5 then (8, 0) else if q = a6 then (9, 0) else (50, 0)
theorem r0_in {x a1 bb a2 a3 a4 a5 a6 q : Nat} (h0 : x < a1) (h1 : a1 < bb) (h2 : bb < a2) (h3 : a2 < a3) (h4 : a3 < a4) (h5 : a4 < a5) (h6 : a5 < a6) (h : (r0 x a1 bb a2 a3 a4 a5 a6 q).1 < 20) : x ≤ q ∧ q ≤ a6 := by
  unfold r0 at h
  by_cases c0 : q = x
  · omega
  by_cases c1 : q = a1
  · omega
  by_cases c2 : q = bb
  · omega
  by_cases c3 : q = a2
  · omega
  by_cases c4 : q = a3
  · omega
  by_cases c5 : q = a4
  · omega
  by_cases c6 : q = a5
  · omega
  by_cases c7 : q = a6
  · omega
  rw [if_neg c0, if_neg c1, if_neg c2, if_neg c3, if_neg c4, if_neg c5, if_neg c6, if_neg c7] at h
  exact absurd h (by decide)
theorem nmB0 : nmB z0 := ⟨by decide, by decide, by decide, by decide, by decide, by decide, fun _ => Nat.zero_le _, fun _ => Nat.zero_le _⟩
theorem nmK0 : nmK z0 (fun _ _ _ => 0) := ⟨fun j h => absurd h (Nat.not_lt_zero j), fun n j h => absurd h (Nat.not_lt_zero _)⟩
theorem nmP0 {D : va_G} {cs : Nat → ClassId} {N0 : Nat} {H : Heap} {x a1 bb a2 a3 a4 a5 a6 : Nat} (hx : N0 ≤ x) (h0 : x < a1) (h1 : a1 < bb) (h2 : bb < a2) (h3 : a2 < a3) (h4 : a3 < a4) (h5 : a4 < a5) (h6 : a5 < a6)
    (v0 : va_at D vwCl (x, .inr (1, [.ref a1, .ref a2, .ref a3, .ref a4, .ref a5, .int 0, .int 0, .ref a6])) H) (v1 : va_at D vwCl (a1, .inr (7, [.ref bb, .int 0, .int 0, .int 0])) H) (v2 : va_at D vwCl (bb, .inl (cs 2, (16, .inl (fun _ => 0)))) H) (v3 : va_at D vwCl (a2, .inr (6, [.ref (cs 9), .int 0, .int 0])) H) (v5 : va_at D vwCl (a3, .inr (6, [.ref (cs 9), .int 0, .int 0])) H) (v7 : va_at D vwCl (a4, .inl (cs 0, (576, .inl (fun _ => 0)))) H) (v8 : va_at D vwCl (a5, .inl (cs 0, (276, .inl (fun _ => 0)))) H) (v9 : va_at D vwCl (a6, .inl (cs 0, (13, .inl (fun _ => 0)))) H) :
    nmP D cs N0 H (o0 x a1 bb a2 a3 a4 a5 a6) z0 (fun _ _ _ => 0) (r0 x a1 bb a2 a3 a4 a5 a6) := by
  have n3 : ∀ n : Nat, ¬ n < z0 3 0 := fun n => Nat.not_lt_zero n
  have n5 : ∀ n : Nat, ¬ n < z0 5 0 := fun n => Nat.not_lt_zero n
  refine ⟨fun k n hv => ?_, fun q hq => Nat.le_trans hx (r0_in h0 h1 h2 h3 h4 h5 h6 hq).1, nmB0, nmK0⟩
  match k, hv with
  | 0, hv => have hv : n = 0 := hv; subst hv; exact ⟨v0, by show r0 x a1 bb a2 a3 a4 a5 a6 x = _; unfold r0; rw [if_pos rfl]⟩
  | 1, hv => have hv : n = 0 := hv; subst hv; exact ⟨v1, by show r0 x a1 bb a2 a3 a4 a5 a6 a1 = _; unfold r0; rw [if_neg (by omega), if_pos rfl]⟩
  | 2, hv => have hv : n = 0 := hv; subst hv; exact ⟨v2, by show r0 x a1 bb a2 a3 a4 a5 a6 bb = _; unfold r0; rw [if_neg (by omega), if_neg (by omega), if_pos rfl]⟩
  | 3, hv => have hv : n = 0 := hv; subst hv; exact ⟨v3, by show r0 x a1 bb a2 a3 a4 a5 a6 a2 = _; unfold r0; rw [if_neg (by omega), if_neg (by omega), if_neg (by omega), if_pos rfl]⟩
  | 5, hv => have hv : n = 0 := hv; subst hv; exact ⟨v5, by show r0 x a1 bb a2 a3 a4 a5 a6 a3 = _; unfold r0; rw [if_neg (by omega), if_neg (by omega), if_neg (by omega), if_neg (by omega), if_pos rfl]⟩
  | 7, hv => have hv : n = 0 := hv; subst hv; exact ⟨v7, by show r0 x a1 bb a2 a3 a4 a5 a6 a4 = _; unfold r0; rw [if_neg (by omega), if_neg (by omega), if_neg (by omega), if_neg (by omega), if_neg (by omega), if_pos rfl]⟩
  | 8, hv => have hv : n = 0 := hv; subst hv; exact ⟨v8, by show r0 x a1 bb a2 a3 a4 a5 a6 a5 = _; unfold r0; rw [if_neg (by omega), if_neg (by omega), if_neg (by omega), if_neg (by omega), if_neg (by omega), if_neg (by omega), if_pos rfl]⟩
  | 9, hv => have hv : n = 0 := hv; subst hv; exact ⟨v9, by show r0 x a1 bb a2 a3 a4 a5 a6 a6 = _; unfold r0; rw [if_neg (by omega), if_neg (by omega), if_neg (by omega), if_neg (by omega), if_neg (by omega), if_neg (by omega), if_neg (by omega), if_pos rfl]⟩
  | 4, hv => exact absurd hv.2 (n3 0)
  | 6, hv => exact absurd hv.2 (n5 0)
  | 10, hv => exact absurd hv (n3 _)
  | 11, hv => exact absurd hv (n3 _)
  | 13, hv => exact absurd hv (n3 _)
  | 12, hv => exact absurd hv.1 (n3 _)
  | 14, hv => exact absurd hv.1 (n3 _)
  | 15, hv => exact absurd hv.1 (n3 _)
  | 16, hv => exact absurd hv.1 (n3 _)
  | 17, hv => exact absurd hv.1 (n3 _)
  | 18, hv => exact absurd hv.1 (n3 _)
  | 19, hv => exact absurd hv (n5 _)
  | k + 20, hv => exact absurd (nmv_lt hv) (by omega)
theorem rel0 {f : Nat → Nat → Int32} (h8 : ∀ k, k < 24 → f 8 k = -1) (h0 : ∀ q, q ≠ 8 → f q = fun _ => 0) : rel z0 (fun _ _ _ => 0) (fun _ => 0) f := by
  have n3 : ∀ n : Nat, ¬ n < z0 3 0 := fun n => Nat.not_lt_zero n
  have n0 : ∀ n : Nat, ¬ n < 0 := Nat.not_lt_zero
  have e : ∀ q k, q ≠ 8 → f q k = 0 := fun q k h => by rw [h0 q h]
  have m0 : ∀ a, mnF z0 a = 0 := fun a => if_neg (n3 a)
  have l0 : ∀ a, lnF z0 a = 0 := fun a => if_neg (fun h => n3 _ h.1)
  have w0 : ∀ a, a < 24 → ∀ b, b < 24 → fwT (fun _ => false) 24 (24 * a + b) = false := fun a _ b hb => fw_row (fun _ _ => rfl) 24 (Nat.le_refl _) b hb
  refine ⟨nmB0, nmK0, ⟨rfl, fun j h => absurd h (n0 j)⟩, rfl, ⟨fun a _ => by rw [m0, e 1 a (by decide)]; rfl, fun a _ => by rw [l0, e 2 a (by decide)]; rfl, fun a h => absurd h (n3 _), fun a h => absurd h (n3 _), fun a h => absurd h (n3 _)⟩, ?_, ?_, ?_, ?_, ⟨rfl, fun _ => 0, fun _ => 0, fun k h => absurd h (n0 k)⟩, ⟨rfl, fun k h => absurd h (n0 k)⟩, ?_⟩
  · intro a ha
    rw [if_neg (fun h => n3 _ h.1)]
    exact h8 a ha
  · exact ⟨fun a b _ _ _ => e 9 _ (by decide), fun _ _ _ _ _ => rfl, fun _ _ => show ¬ (0 : Int32) < 0 by decide⟩
  · exact ⟨fun _ => false, fun k _ => e 10 k (by decide), fun _ _ _ _ _ => rfl, fun a h => absurd h (n3 _), fun a h => absurd h (n3 _), fun a ha => w0 a ha a ha⟩
  · intro a s _ _
    exact ⟨by rw [if_neg (n3 a)]; exact e 12 _ (by decide), Or.inl (e 12 _ (by decide))⟩
  · refine ⟨0, rfl, by decide, fun l _ => bt_0 l, ?_⟩
    have hs : ∀ m, selL (bt 0) m = [] := fun m => by
      induction m with
      | zero => rfl
      | succ m ih => rw [sel_miss (bt_0 m)]; exact ih
    refine ⟨by rw [hs]; rfl, fun k p h => ?_⟩
    rw [hs] at h
    cases h
set_option maxHeartbeats 4000000 in
set_option maxRecDepth 100000 in
theorem lw_go {p : Program} {l : Launch} {e : Env} {s : State} {m : MethodId} {below : List Frame} {meth : Method} {c : Code} {b L : Nat} {xs : Nat → Int32} {D : va_G} {cs : Nat → ClassId} {ls : Array Slot} {Q9 : State → Prop} (C : lawC p s m c b L xs D cs l) (hl : lv_has ls 7 [(0, .ref b)])
    (kend : ∀ (H3 : Heap) (locs3 : List Loc) (ls3 : Array Slot), va_S (lwA s.heap.size) s.heap H3 locs3 → W p l e room_1 s m #[Value.ref b] below meth c H3 locs3 601024 7293034 Q9 (F0 m 1397 ls3 [])) :
    W p l e room_1 s m #[Value.ref b] below meth c s.heap [] 0 0 Q9 (F0 m 0 ls []) := by
  have C0 := C
  obtain ⟨hx, hb, hml, hown, hts, hXb, hbl, hl9, hB, hL⟩ := C
  have htg : ∀ w ∈ gw, w.before #[Value.ref b] s = true := fun w h => hts w (List.mem_filter.mp h).1
  have hK := hB.1
  have hS : va_S (lwA s.heap.size) s.heap s.heap [] := va_S.rf
  have hAN : ∀ q, lwA s.heap.size q → s.heap.size ≤ q := fun _ h => h
  obtain ⟨x, hx0⟩ : ∃ z : Nat, z = s.heap.size := ⟨_, rfl⟩
  refine hx_new hx hb htg iNm tNm tNm_ok hown (htg _ (gw_mem (i := 59) (by decide +kernel) rfl)) (htg _ (gw_mem (i := 60) (by decide +kernel) rfl)) (htg _ (gw_mem (i := 30) (by decide +kernel) rfl)) hK hS (ci := 1) rfl (fs := [.null, .null, .null, .null, .null, .int 0, .int 0, .null]) (by decide +kernel) (Nat.le_of_ble_eq_true rfl) (Nat.le_of_ble_eq_true rfl) d_law_0 (fun H1 hat1 hz1 ho1 hS1 => ?_)
  rw [← hx0] at hat1 hz1
  rw [← hx0]
  refine lv_dup hx hb d_law_3 rfl ?_
  refine h_callv (va_runI (As := []) (rest := [.ref x]) ⟨hx, hb, hml, hown, htg⟩ (c_Nm_init l D cs s.heap.size H1 x H1.size hat1 rfl (Nat.le_of_eq hx0.symm)) ⟨x_cwB 0 htg (gw_mem (i := 63) (by decide +kernel) rfl) (gw_mem (i := 30) (by decide +kernel) rfl) (gw_mem (i := 61) (by decide +kernel) rfl) (by decide +kernel) ⟨Nat.le_of_ble_eq_true rfl, Nat.le_of_ble_eq_true rfl⟩, rfl, htg _ (gw_mem (i := 62) (by decide +kernel) rfl)⟩ ⟨hPre.blind, hPre.at hB hS1 hAN⟩ rfl rfl hl.1 rfl (lv_room (Nat.le_of_ble_eq_true rfl)) d_law_4 ⟨Nat.le_of_ble_eq_true rfl, Nat.le_of_ble_eq_true rfl⟩) hS1 (jA_sub1 (A := lwA s.heap.size) (Nat.le_of_eq hx0.symm) (fun q9 h9 => show s.heap.size ≤ q9 by omega)) (fun H2 locs2 hp2 hz2 hk2 hS2 => ?_)
  obtain ⟨a1, bb, a2, a3, a4, a5, a6, i1, i2, i3, i4, i5, i6, i7, v0, v1, v2, v3, v5, v7, v8, v9⟩ := hp2
  refine lv_astore_n (lv' := [(1, .ref x), (0, .ref b)]) hx hb d_law_7 rfl hl (by decide) rfl (fun ls hl => ?_)
  have b0 := hx_lt v0
  have b6 := hx_lt v9
  obtain ⟨xm, hxm⟩ : ∃ z : Nat, z = H2.size := ⟨_, rfl⟩
  refine hx_new hx hb htg iMd tMd tMd_ok hown (htg _ (gw_mem (i := 992) (by decide +kernel) rfl)) (htg _ (gw_mem (i := 993) (by decide +kernel) rfl)) (htg _ (gw_mem (i := 38) (by decide +kernel) rfl)) hK hS2 (ci := 0) rfl (fs := [.int 0, .int 0, .null, .int 0, .null, .null, .null, .null, .null, .null, .null, .null, .null, .null, .null, .null, .int 0, .null, .null, .null, .null, .null, .int 0, .null, .null, .int 0, .null, .null]) (by decide +kernel) (Nat.le_of_ble_eq_true rfl) (Nat.le_of_ble_eq_true rfl) d_law_8 (fun H3 hat3 hz3 ho3 hS3 => ?_)
  rw [← hxm] at hat3 hz3 ho3
  rw [← hxm]
  refine lv_dup hx hb d_law_11 rfl ?_
  have hge : s.heap.size ≤ xm := by have := hS2.1; omega
  refine h_callv (va_runI (As := []) (rest := [.ref xm]) ⟨hx, hb, hml, hown, htg⟩ (c_Md_init l D cs s.heap.size H3.size H3 xm rfl hat3) ⟨x_cwB 0 htg (gw_mem (i := 996) (by decide +kernel) rfl) (gw_mem (i := 38) (by decide +kernel) rfl) (gw_mem (i := 994) (by decide +kernel) rfl) (by decide +kernel) ⟨Nat.le_of_ble_eq_true rfl, Nat.le_of_ble_eq_true rfl⟩, rfl, htg _ (gw_mem (i := 995) (by decide +kernel) rfl)⟩ ⟨hPre.blind, hPre.at hB hS3 hAN⟩ rfl rfl hl.1 rfl (lv_room (Nat.le_of_ble_eq_true rfl)) d_law_12 ⟨Nat.le_of_ble_eq_true rfl, Nat.le_of_ble_eq_true rfl⟩) hS3 (fun q9 h9 => show s.heap.size ≤ q9 by omega) (fun H4 locs4 hp4 hz4 hk4 hS4 => ?_)
  obtain ⟨⟨f9, hMd, hf8, hf0⟩, hsz4⟩ := hp4
  refine lv_astore_n (lv' := [(2, .ref xm), (1, .ref x), (0, .ref b)]) hx hb d_law_15 rfl hl (by decide) rfl (fun ls hl => ?_)
  refine lv_iconst (v := 1) hx hb d_law_16 (by decide) ?_
  obtain ⟨out, hout⟩ : ∃ z : Nat, z = H4.size := ⟨_, rfl⟩
  refine hx_newa (atype := .long) (cA := cs 3) (N' := 1) (a0 := (1, .inr (.inl (fun _ => 0)))) hx hb (htg _ (gw_mem (i := 1220) (by decide +kernel) rfl)) hK hS4 3 rfl rfl (by decide) (by decide) (show 1 * 8 ≤ 536870912 by decide) (Nat.le_of_ble_eq_true rfl) (Nat.le_of_ble_eq_true rfl) d_law_17 (fun H5 hat5 hz5 ho5 hS5 => ?_)
  rw [← hout] at hat5 hz5 ho5
  rw [← hout]
  refine lv_astore_n (lv' := [(3, .ref out), (2, .ref xm), (1, .ref x), (0, .ref b)]) hx hb d_law_19 rfl hl (by decide) rfl (fun ls hl => ?_)
  refine lv_iconst (v := 0) hx hb d_law_20 (by decide) ?_
  refine lv_istore (lv' := [(4, .int (nI (5 * 0))), (3, .ref out), (2, .ref xm), (1, .ref x), (0, .ref b)]) hx hb d_law_21 hl (by decide) rfl (fun ls hl => ?_)
  have hkp : ∀ q : Nat, q < H2.size → H5[q]? = H2[q]? := fun q hq => by
    rw [ho5 q (by omega), hk4 q (by omega) (by omega), ho3 q (by omega)]
  have hI : nmP D cs s.heap.size H5 (o0 x a1 bb a2 a3 a4 a5 a6) z0 (fun _ _ _ => 0) (r0 x a1 bb a2 a3 a4 a5 a6) := by
    refine nmP0 (by omega) (by omega) i2 i3 i4 i5 i6 i7 (hx_keep v0 (hkp _ ?_)) (hx_keep v1 (hkp _ ?_)) (hx_keep v2 (hkp _ ?_)) (hx_keep v3 (hkp _ ?_)) (hx_keep v5 (hkp _ ?_)) (hx_keep v7 (hkp _ ?_)) (hx_keep v8 (hkp _ ?_)) (hx_keep v9 (hkp _ ?_)) <;> omega
  have hMd5 : md_I D cs H5 xm (fun k => H3.size + k) (fun _ => 0) f9 := hMd.keepA (fun q hq => ho5 q (by have := hMd.lt hq; omega))
  have hin : ∀ q : Nat, (r0 x a1 bb a2 a3 a4 a5 a6 q).1 < 20 → q ≤ a6 := fun q hq => (r0_in (by omega) i2 i3 i4 i5 i6 i7 hq).2
  have hsm : lsM s.heap.size xm (fun k => H3.size + k) (r0 x a1 bb a2 a3 a4 a5 a6) out := by
    refine ⟨⟨hge, fun k hk => ⟨?_, ?_⟩, fun j k _ _ h => ?_⟩, fun q hq h9 => ?_, fun h9 => ?_, fun h9 => ?_, ?_⟩
    · show H3.size + k ≠ xm
      omega
    · show s.heap.size ≤ H3.size + k
      omega
    · have h : H3.size + j = H3.size + k := h
      omega
    · have := hin q h9
      rcases hq with hq | ⟨k, hk, hq⟩
      · omega
      · have hq : q = H3.size + k := hq
        omega
    · have := hin out h9
      omega
    · rcases h9 with h9 | ⟨k, hk, h9⟩
      · omega
      · have h9 : out = H3.size + k := h9
        omega
    · omega
  have hLS : lwS D cs s.heap.size H5 xm (fun k => H3.size + k) out (o0 x a1 bb a2 a3 a4 a5 a6) z0 (fun _ _ _ => 0) (r0 x a1 bb a2 a3 a4 a5 a6) (fun _ => 0) f9 (fun _ => 0) := ⟨hI, hMd5, hsm, hat5, rel0 hf8 hf0⟩
  refine W.widen (k := 40 + 10 * 0) (n := 6000 + 300 * 0) (by omega) (by omega) ?_
  exact lw_loop C0 kend 513 0 H5 _ ls (by omega) (by omega) ⟨_, _, _, _, _, _, _, rfl, hLS⟩ hS5 (lv_sub hl [0, 4, 3, 2, 1] rfl)
