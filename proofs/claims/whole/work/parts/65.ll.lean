theorem d_law_23 : decode code 23 = .ok (.iload 4, 2) := by decide +kernel
theorem d_law_25 : decode code 25 = .ok (.aload_n 0, 1) := by decide +kernel
theorem d_law_26 : decode code 26 = .ok (.arraylength, 1) := by decide +kernel
theorem d_law_27 : decode code 27 = .ok (.iconst 5, 1) := by decide +kernel
theorem d_law_28 : decode code 28 = .ok (.isub, 1) := by decide +kernel
theorem d_law_29 : decode code 29 = .ok (.if_icmp .gt 1368, 3) := by decide +kernel
theorem d_law_32 : decode code 32 = .ok (.aload_n 0, 1) := by decide +kernel
theorem d_law_33 : decode code 33 = .ok (.iload 4, 2) := by decide +kernel
theorem d_law_35 : decode code 35 = .ok (.iaload, 1) := by decide +kernel
theorem d_law_36 : decode code 36 = .ok (.bipush 31, 2) := by decide +kernel
theorem d_law_38 : decode code 38 = .ok (.iand, 1) := by decide +kernel
theorem d_law_39 : decode code 39 = .ok (.tableswitch 1352 0 19 #[93, 149, 162, 206, 298, 385, 453, 478, 546, 571, 651, 731, 818, 886, 954, 1029, 1085, 1141, 1228, 1296], 93) := by decide +kernel
theorem d_law_1391 : decode code 1391 = .ok (.iinc 4 5, 3) := by decide +kernel
theorem d_law_1394 : decode code 1394 = .ok (.goto (-1371), 3) := by decide +kernel
theorem d_law_1397 : decode code 1397 = .ok (.iconst 1, 1) := by decide +kernel
theorem d_law_1398 : decode code 1398 = .ok (.ireturn, 1) := by decide +kernel
theorem x_tab19 {w : Int32} (h0 : ¬ w = 0) (h1 : ¬ w = 1) (h2 : ¬ w = 2) (h3 : ¬ w = 3) (h4 : ¬ w = 4) (h5 : ¬ w = 5) (h6 : ¬ w = 6) (h7 : ¬ w = 7) (h8 : ¬ w = 8) (h9 : ¬ w = 9) (h10 : ¬ w = 10) (h11 : ¬ w = 11) (h12 : ¬ w = 12) (h13 : ¬ w = 13) (h14 : ¬ w = 14) (h15 : ¬ w = 15) (h16 : ¬ w = 16) (h17 : ¬ w = 17) (h18 : ¬ w = 18) (h19 : ¬ w = 19) : w.toInt < 0 ∨ 19 < w.toInt := by
  have e : ∀ (k : Int32) (i : Int), k.toInt = i → ¬ w = k → w.toInt ≠ i := fun k i hk h h9 => h (Int32.toInt_inj.mp (h9.trans hk.symm))
  have a0 := e 0 0 rfl h0
  have a1 := e 1 1 rfl h1
  have a2 := e 2 2 rfl h2
  have a3 := e 3 3 rfl h3
  have a4 := e 4 4 rfl h4
  have a5 := e 5 5 rfl h5
  have a6 := e 6 6 rfl h6
  have a7 := e 7 7 rfl h7
  have a8 := e 8 8 rfl h8
  have a9 := e 9 9 rfl h9
  have a10 := e 10 10 rfl h10
  have a11 := e 11 11 rfl h11
  have a12 := e 12 12 rfl h12
  have a13 := e 13 13 rfl h13
  have a14 := e 14 14 rfl h14
  have a15 := e 15 15 rfl h15
  have a16 := e 16 16 rfl h16
  have a17 := e 17 17 rfl h17
  have a18 := e 18 18 rfl h18
  have a19 := e 19 19 rfl h19
  omega
theorem lw_more {L k : Nat} (hL : L ≤ 2560) (hk : 5 * k ≤ L) (h : ¬ Int32.ofNat L - 5 < nI (5 * k)) : 5 * k + 5 ≤ L := by
  have e : Int32.ofNat L - 5 = nI L - nI 5 := rfl
  rw [e, Int32.lt_iff_toInt_lt, pk_sub_toInt (by omega) (by omega), nI_toInt (by omega)] at h
  omega
set_option maxHeartbeats 4000000 in
set_option maxRecDepth 100000 in
theorem lw_loop {p : Program} {l : Launch} {e : Env} {s : State} {m : MethodId} {below : List Frame} {meth : Method} {c : Code} {b L : Nat} {xs : Nat → Int32} {D : va_G} {cs : Nat → ClassId} {x xm out : Nat} {gm : Nat → Nat} {Q9 : State → Prop} (C : lawC p s m c b L xs D cs l)
    (kend : ∀ (H3 : Heap) (locs3 : List Loc) (ls3 : Array Slot), va_S (lwA s.heap.size) s.heap H3 locs3 → W p l e room_1 s m #[Value.ref b] below meth c H3 locs3 601024 7293034 Q9 (F0 m 1397 ls3 [])) :
    ∀ (n k : Nat) (H : Heap) (locs : List Loc) (ls : Array Slot), 5 * k ≤ L → L < 5 * (k + n) + 5 → lwX D cs s.heap.size H x xm gm out → va_S (lwA s.heap.size) s.heap H locs → lv_has ls 7 [(4, .int (nI (5 * k))), (0, .ref b), (1, .ref x), (2, .ref xm), (3, .ref out)] → W p l e room_1 s m #[Value.ref b] below meth c H locs (40 + 10 * k) (6000 + 300 * k) Q9 (F0 m 23 ls []) := by
  intro n
  induction n with
  | zero =>
    intro k H locs ls hk hn hX hS hl
    obtain ⟨hx, hb, hml, hown, hts, hXb, hbl, hl9, hB, hL⟩ := C
    refine lv_iload hx hb d_law_23 (lv_at hl 0 rfl) ?_
    refine lv_aload_n hx hb d_law_25 rfl (lv_at hl 1 rfl) ?_
    refine va_slen hx hb hXb hbl (Nat.not_le.mpr hbl) hS d_law_26 ?_
    refine lv_iconst (v := 5) hx hb d_law_27 (by decide) ?_
    refine lv_isub (x := Int32.ofNat L) (y := 5) hx hb d_law_28 ?_
    refine lv_icmp_gt (tgt := 1397) hx hb d_law_29 (by decide) (fun _ => ?_) (fun h9 => ?_)
    · exact W.widen (k := 601024) (n := 7293034) (by omega) (by omega) (kend _ _ _ hS)
    · have := lw_more hL hk h9
      omega
  | succ n ih =>
    intro k H locs ls hk hn hX hS hl
    have C0 := C
    obtain ⟨hx, hb, hml, hown, hts, hXb, hbl, hl9, hB, hL⟩ := C
    refine lv_iload hx hb d_law_23 (lv_at hl 0 rfl) ?_
    refine lv_aload_n hx hb d_law_25 rfl (lv_at hl 1 rfl) ?_
    refine va_slen hx hb hXb hbl (Nat.not_le.mpr hbl) hS d_law_26 ?_
    refine lv_iconst (v := 5) hx hb d_law_27 (by decide) ?_
    refine lv_isub (x := Int32.ofNat L) (y := 5) hx hb d_law_28 ?_
    refine lv_icmp_gt (tgt := 1397) hx hb d_law_29 (by decide) (fun _ => ?_) (fun h9 => ?_)
    · exact W.widen (k := 601024) (n := 7293034) (by omega) (by omega) (kend _ _ _ hS)
    have hk9 := lw_more hL hk h9
    have kk : ∀ (H3 : Heap) (locs3 : List Loc) (ls3 : Array Slot), lwX D cs s.heap.size H3 x xm gm out → va_S (lwA s.heap.size) s.heap H3 locs3 → lv_has ls3 7 [(4, .int (nI (5 * k))), (0, .ref b), (1, .ref x), (2, .ref xm), (3, .ref out)] → W p l e room_1 s m #[Value.ref b] below meth c H3 locs3 (40 + 10 * (k + 1)) (6000 + 300 * (k + 1)) Q9 (F0 m 1391 ls3 []) := by
      intro H3 locs3 ls3 hX3 hS3 hl3
      refine lv_iinc (v := nI (5 * (k + 1))) (k := 0) hx hb d_law_1391 hl3 rfl (show nI (5 * k) + nI 5 = nI (5 * (k + 1)) from nI_add (5 * k) 5) (by decide) rfl (fun ls4 hl4 => ?_)
      refine lv_goto (tgt := 23) hx hb d_law_1394 (by decide) ?_
      exact ih (k + 1) H3 locs3 ls4 (by omega) (by omega) hX3 hS3 hl4
    refine lv_aload_n hx hb d_law_32 rfl (lv_at hl 1 rfl) ?_
    refine lv_iload hx hb d_law_33 (lv_at hl 0 rfl) ?_
    refine va_sld hx hb hXb hbl (Nat.not_le.mpr hbl) hS (show vp_in (nI (5 * k)) L from vp_in_nI (n := 5 * k) (by omega) (by omega)) d_law_35 ?_
    refine lv_bipush (v := 31) hx hb d_law_36 (by decide) ?_
    refine lv_iand hx hb d_law_38 ?_
    generalize (xs (nI (5 * k)).toNatClampNeg &&& 31) = w9
    by_cases q0 : w9 = 0
    · subst q0
      refine lv_tableIn (off := 93) (tgt := 132) hx hb d_law_39 (by decide) (by decide) (by decide) (by decide) ?_
      exact lc_unit C0 hk9 hX hS hl kk
    by_cases q1 : w9 = 1
    · subst q1
      refine lv_tableIn (off := 149) (tgt := 188) hx hb d_law_39 (by decide) (by decide) (by decide) (by decide) ?_
      exact lc_clear C0 hk9 hX hS hl kk
    by_cases q2 : w9 = 2
    · subst q2
      refine lv_tableIn (off := 162) (tgt := 201) hx hb d_law_39 (by decide) (by decide) (by decide) (by decide) ?_
      exact lc_name C0 hk9 hX hS hl kk
    by_cases q3 : w9 = 3
    · subst q3
      refine lv_tableIn (off := 206) (tgt := 245) hx hb d_law_39 (by decide) (by decide) (by decide) (by decide) ?_
      exact lc_variant C0 hk9 hX hS hl kk
    by_cases q4 : w9 = 4
    · subst q4
      refine lv_tableIn (off := 298) (tgt := 337) hx hb d_law_39 (by decide) (by decide) (by decide) (by decide) ?_
      exact lc_dates C0 hk9 hX hS hl kk
    by_cases q5 : w9 = 5
    · subst q5
      refine lv_tableIn (off := 385) (tgt := 424) hx hb d_law_39 (by decide) (by decide) (by decide) (by decide) ?_
      exact lc_score C0 hk9 hX hS hl kk
    by_cases q6 : w9 = 6
    · subst q6
      refine lv_tableIn (off := 453) (tgt := 492) hx hb d_law_39 (by decide) (by decide) (by decide) (by decide) ?_
      exact lc_candidates C0 hk9 hX hS hl kk
    by_cases q7 : w9 = 7
    · subst q7
      refine lv_tableIn (off := 478) (tgt := 517) hx hb d_law_39 (by decide) (by decide) (by decide) (by decide) ?_
      exact lc_candidate C0 hk9 hX hS hl kk
    by_cases q8 : w9 = 8
    · subst q8
      refine lv_tableIn (off := 546) (tgt := 585) hx hb d_law_39 (by decide) (by decide) (by decide) (by decide) ?_
      exact lc_lost C0 hk9 hX hS hl kk
    by_cases q9 : w9 = 9
    · subst q9
      refine lv_tableIn (off := 571) (tgt := 610) hx hb d_law_39 (by decide) (by decide) (by decide) (by decide) ?_
      exact lc_decide C0 hk9 hX hS hl kk
    by_cases q10 : w9 = 10
    · subst q10
      refine lv_tableIn (off := 651) (tgt := 690) hx hb d_law_39 (by decide) (by decide) (by decide) (by decide) ?_
      exact lc_merge C0 hk9 hX hS hl kk
    by_cases q11 : w9 = 11
    · subst q11
      refine lv_tableIn (off := 731) (tgt := 770) hx hb d_law_39 (by decide) (by decide) (by decide) (by decide) ?_
      exact lc_part C0 hk9 hX hS hl kk
    by_cases q12 : w9 = 12
    · subst q12
      refine lv_tableIn (off := 818) (tgt := 857) hx hb d_law_39 (by decide) (by decide) (by decide) (by decide) ?_
      exact lc_as C0 hk9 hX hS hl kk
    by_cases q13 : w9 = 13
    · subst q13
      refine lv_tableIn (off := 886) (tgt := 925) hx hb d_law_39 (by decide) (by decide) (by decide) (by decide) ?_
      exact lc_broader C0 hk9 hX hS hl kk
    by_cases q14 : w9 = 14
    · subst q14
      refine lv_tableIn (off := 954) (tgt := 993) hx hb d_law_39 (by decide) (by decide) (by decide) (by decide) ?_
      exact lc_covers C0 hk9 hX hS hl kk
    by_cases q15 : w9 = 15
    · subst q15
      refine lv_tableIn (off := 1029) (tgt := 1068) hx hb d_law_39 (by decide) (by decide) (by decide) (by decide) ?_
      exact lc_find C0 hk9 hX hS hl kk
    by_cases q16 : w9 = 16
    · subst q16
      refine lv_tableIn (off := 1085) (tgt := 1124) hx hb d_law_39 (by decide) (by decide) (by decide) (by decide) ?_
      exact lc_found C0 hk9 hX hS hl kk
    by_cases q17 : w9 = 17
    · subst q17
      refine lv_tableIn (off := 1141) (tgt := 1180) hx hb d_law_39 (by decide) (by decide) (by decide) (by decide) ?_
      exact lc_outside C0 hk9 hX hS hl kk
    by_cases q18 : w9 = 18
    · subst q18
      refine lv_tableIn (off := 1228) (tgt := 1267) hx hb d_law_39 (by decide) (by decide) (by decide) (by decide) ?_
      exact lc_whose C0 hk9 hX hS hl kk
    by_cases q19 : w9 = 19
    · subst q19
      refine lv_tableIn (off := 1296) (tgt := 1335) hx hb d_law_39 (by decide) (by decide) (by decide) (by decide) ?_
      exact lc_count C0 hk9 hX hS hl kk
    refine lv_tableOut (tgt := 1391) hx hb d_law_39 (x_tab19 q0 q1 q2 q3 q4 q5 q6 q7 q8 q9 q10 q11 q12 q13 q14 q15 q16 q17 q18 q19) (by decide) ?_
    exact W.widen (k := 40 + 10 * (k + 1)) (n := 6000 + 300 * (k + 1)) (by omega) (by omega) (kk _ _ _ hX hS hl)
