theorem d_law_188 : decode code 188 = .ok (.aload_n 1, 1) := by decide +kernel
theorem d_law_189 : decode code 189 = .ok (.invokevirtual 86, 3) := by decide +kernel
theorem d_law_192 : decode code 192 = .ok (.aload_n 2, 1) := by decide +kernel
theorem d_law_193 : decode code 193 = .ok (.invokevirtual 89, 3) := by decide +kernel
theorem d_law_196 : decode code 196 = .ok (.if_icmp .eq 1195, 3) := by decide +kernel
set_option maxHeartbeats 4000000 in
set_option maxRecDepth 100000 in
theorem lc_clear {p : Program} {l : Launch} {e : Env} {s : State} {m : MethodId} {below : List Frame} {meth : Method} {c : Code} {H : Heap} {locs : List Loc} {b L : Nat} {xs : Nat → Int32} {D : va_G} {cs : Nat → ClassId} {x xm out k : Nat} {gm : Nat → Nat} {ls : Array Slot} {Q9 : State → Prop} (C : lawC p s m c b L xs D cs l) (hk9 : 5 * k + 5 ≤ L) (hX : lwX D cs s.heap.size H x xm gm out) (hS : va_S (lwA s.heap.size) s.heap H locs) (hl : lv_has ls 7 [(4, .int (nI (5 * k))), (0, .ref b), (1, .ref x), (2, .ref xm), (3, .ref out)])
    (kk : ∀ (H3 : Heap) (locs3 : List Loc) (ls3 : Array Slot), lwX D cs s.heap.size H3 x xm gm out → va_S (lwA s.heap.size) s.heap H3 locs3 → lv_has ls3 7 [(4, .int (nI (5 * k))), (0, .ref b), (1, .ref x), (2, .ref xm), (3, .ref out)] → W p l e room_1 s m #[Value.ref b] below meth c H3 locs3 (40 + 10 * (k + 1)) (6000 + 300 * (k + 1)) Q9 (F0 m 1391 ls3 [])) :
    W p l e room_1 s m #[Value.ref b] below meth c H locs (40 + 10 * k) (6000 + 300 * k) Q9 (F0 m 188 ls []) := by
  obtain ⟨hx, hb, hml, hown, hts, hXb, hbl, hl9, hB, hL⟩ := C
  have htg : ∀ w ∈ gw, w.before #[Value.ref b] s = true := fun w h => hts w (List.mem_filter.mp h).1
  have hK := hB.1
  obtain ⟨o, z, K, r, i, f, gl, hox, hLS⟩ := hX
  subst hox
  have hLS0 := hLS
  obtain ⟨hI, hMd, hsm, hout, hrel⟩ := hLS
  have hz0 := hS.1
  refine lv_aload_n hx hb d_law_188 rfl (lv_at hl 2 rfl) ?_
  refine h_calli (va_runV (As := []) (rest := []) ⟨hx, hb, hml, hown, htg⟩ (c_Nm_clear l D cs s.heap.size H o z K r H.size  hI rfl) ⟨x_cwB 0 htg (gw_mem (i := 155) (by decide +kernel) rfl) (gw_mem (i := 30) (by decide +kernel) rfl) (gw_mem (i := 152) (by decide +kernel) rfl) (by decide +kernel) ⟨Nat.le_of_ble_eq_true rfl, Nat.le_of_ble_eq_true rfl⟩, htg _ (gw_mem (i := 153) (by decide +kernel) rfl), htg _ (gw_mem (i := 154) (by decide +kernel) rfl)⟩ ⟨hPre.blind, hx_recv hK (ci := 1) rfl (show va_at D vwCl (o 0 0, .inr (1, [.ref (o 1 0), .ref (o 3 0), .ref (o 5 0), .ref (o 7 0), .ref (o 8 0), .int (nI (z 0 0)), .int (K 0 0 0), .ref (o 9 0)])) H from hI.at (k := 0) (n := 0) rfl), hPre.at hB hS (fun _ h9 => h9)⟩ rfl rfl hl.1 rfl (lv_room (Nat.le_of_ble_eq_true rfl)) d_law_189 ⟨by show _ ≤ 601024; omega, by show _ ≤ 7293034; omega⟩) hS (fun q (h : nmA r H.size q) => lw_sub (out := out) hI hz0 hsm.2.2.2.2 (Or.inl h)) (fun w9 H1 locs1 hp9 hz9 hkk hS1 => ?_)
  have hz1 := hS1.1
  have hMd1 : md_I D cs H1 xm gm i f := hMd.keepA (fun q hq => hkk q (hMd.lt hq) (fun h9 => lw_not hsm hq (hMd.lt hq) (Or.inl h9)))
  have hout1 := hx_keep hout (hkk _ (hx_lt hout) (fun h9 => h9.elim hsm.2.2.1 (fun h9 => absurd (hx_lt hout) (Nat.not_lt.mpr h9))))
  obtain ⟨hw9, ml, hn⟩ := hp9
  clear hS
  have hS := hS1
  refine lv_aload_n hx hb d_law_192 rfl (lv_at hl 3 rfl) ?_
  refine h_calli (va_runV (As := []) (rest := [.int w9]) ⟨hx, hb, hml, hown, htg⟩ (c_Md_clear l D cs s.heap.size H1 xm gm i f  hsm.1 hMd1) ⟨x_cwB 0 htg (gw_mem (i := 1099) (by decide +kernel) rfl) (gw_mem (i := 38) (by decide +kernel) rfl) (gw_mem (i := 1096) (by decide +kernel) rfl) (by decide +kernel) ⟨Nat.le_of_ble_eq_true rfl, Nat.le_of_ble_eq_true rfl⟩, htg _ (gw_mem (i := 1097) (by decide +kernel) rfl), htg _ (gw_mem (i := 1098) (by decide +kernel) rfl)⟩ ⟨hPre.blind, hx_recv hK (ci := 0) rfl hMd1.1, hPre.at hB hS1 (fun _ h9 => h9)⟩ rfl rfl hl.1 rfl (lv_room (Nat.le_of_ble_eq_true rfl)) d_law_193 ⟨by show _ ≤ 601024; omega, by show _ ≤ 7293034; omega⟩) hS1 hsm.1.A (fun r9 H2 locs2 hm hz2 hk2 hS2 => ?_)
  obtain ⟨hmd, hr9⟩ := hm
  have hLS2 := lwS.mdl hn hsm hout1 hk2 hmd (hrel.clear (ml := ml) (x := 0))
  have e9 : w9 = r9 := hw9.trans (hrel.pad.1.symm.trans hr9.symm)
  subst e9
  refine lv_icmp_eq (tgt := 1391) hx hb d_law_196 (by decide) (fun _ => ?_) (fun h9 => absurd rfl h9)
  refine W.widen (k := 40 + 10 * (k + 1)) (n := 6000 + 300 * (k + 1)) (by omega) (by omega) ?_
  exact kk _ _ _ ⟨o, _, _, r, _, _, _, rfl, hLS2⟩ hS2 (lv_sub hl [0, 1, 2, 3, 4] rfl)
theorem d_law_492 : decode code 492 = .ok (.aload_n 1, 1) := by decide +kernel
theorem d_law_493 : decode code 493 = .ok (.aload_n 0, 1) := by decide +kernel
theorem d_law_494 : decode code 494 = .ok (.iload 4, 2) := by decide +kernel
theorem d_law_496 : decode code 496 = .ok (.iconst 1, 1) := by decide +kernel
theorem d_law_497 : decode code 497 = .ok (.iadd, 1) := by decide +kernel
theorem d_law_498 : decode code 498 = .ok (.iaload, 1) := by decide +kernel
theorem d_law_499 : decode code 499 = .ok (.invokevirtual 106, 3) := by decide +kernel
theorem d_law_502 : decode code 502 = .ok (.aload_n 2, 1) := by decide +kernel
theorem d_law_503 : decode code 503 = .ok (.aload_n 0, 1) := by decide +kernel
theorem d_law_504 : decode code 504 = .ok (.iload 4, 2) := by decide +kernel
theorem d_law_506 : decode code 506 = .ok (.iconst 1, 1) := by decide +kernel
theorem d_law_507 : decode code 507 = .ok (.iadd, 1) := by decide +kernel
theorem d_law_508 : decode code 508 = .ok (.iaload, 1) := by decide +kernel
theorem d_law_509 : decode code 509 = .ok (.invokevirtual 109, 3) := by decide +kernel
theorem d_law_512 : decode code 512 = .ok (.if_icmp .eq 879, 3) := by decide +kernel
set_option maxHeartbeats 4000000 in
set_option maxRecDepth 100000 in
theorem lc_candidates {p : Program} {l : Launch} {e : Env} {s : State} {m : MethodId} {below : List Frame} {meth : Method} {c : Code} {H : Heap} {locs : List Loc} {b L : Nat} {xs : Nat → Int32} {D : va_G} {cs : Nat → ClassId} {x xm out k : Nat} {gm : Nat → Nat} {ls : Array Slot} {Q9 : State → Prop} (C : lawC p s m c b L xs D cs l) (hk9 : 5 * k + 5 ≤ L) (hX : lwX D cs s.heap.size H x xm gm out) (hS : va_S (lwA s.heap.size) s.heap H locs) (hl : lv_has ls 7 [(4, .int (nI (5 * k))), (0, .ref b), (1, .ref x), (2, .ref xm), (3, .ref out)])
    (kk : ∀ (H3 : Heap) (locs3 : List Loc) (ls3 : Array Slot), lwX D cs s.heap.size H3 x xm gm out → va_S (lwA s.heap.size) s.heap H3 locs3 → lv_has ls3 7 [(4, .int (nI (5 * k))), (0, .ref b), (1, .ref x), (2, .ref xm), (3, .ref out)] → W p l e room_1 s m #[Value.ref b] below meth c H3 locs3 (40 + 10 * (k + 1)) (6000 + 300 * (k + 1)) Q9 (F0 m 1391 ls3 [])) :
    W p l e room_1 s m #[Value.ref b] below meth c H locs (40 + 10 * k) (6000 + 300 * k) Q9 (F0 m 492 ls []) := by
  obtain ⟨hx, hb, hml, hown, hts, hXb, hbl, hl9, hB, hL⟩ := C
  have htg : ∀ w ∈ gw, w.before #[Value.ref b] s = true := fun w h => hts w (List.mem_filter.mp h).1
  have hK := hB.1
  obtain ⟨o, z, K, r, i, f, gl, hox, hLS⟩ := hX
  subst hox
  have hLS0 := hLS
  obtain ⟨hI, hMd, hsm, hout, hrel⟩ := hLS
  have hz0 := hS.1
  obtain ⟨mo, mt, ho9, ht9, hmm, hgr⟩ := hrel.grp
  refine lv_aload_n hx hb d_law_492 rfl (lv_at hl 2 rfl) ?_
  refine lv_aload_n hx hb d_law_493 rfl (lv_at hl 1 rfl) ?_
  refine lv_iload hx hb d_law_494 (lv_at hl 0 rfl) ?_
  refine lv_iconst (v := 1) hx hb d_law_496 (by decide) ?_
  refine lv_iadd (x := (nI (5 * k))) (y := 1) hx hb d_law_497 ?_
  refine lv_eqi (y := (nI (5 * k + 1))) (nI_add (5 * k) 1) ?_
  refine va_sld hx hb hXb hbl (Nat.not_le.mpr hbl) hS (show vp_in (nI (5 * k + 1)) L from vp_in_nI (n := 5 * k + 1) (by omega) (by omega)) d_law_498 ?_
  refine lv_eqi (y := xs (5 * k + 1)) (by rw [nI_clamp (by omega)]) ?_
  refine h_calli (va_runV (As := [.int (xs (5 * k + 1))]) (rest := []) ⟨hx, hb, hml, hown, htg⟩ (c_Nm_candidates l D cs s.heap.size H o z K r H.size ((xs (5 * k + 1))) hI rfl) ⟨x_cwB 1 htg (gw_mem (i := 499) (by decide +kernel) rfl) (gw_mem (i := 30) (by decide +kernel) rfl) (gw_mem (i := 496) (by decide +kernel) rfl) (by decide +kernel) ⟨Nat.le_of_ble_eq_true rfl, Nat.le_of_ble_eq_true rfl⟩, htg _ (gw_mem (i := 497) (by decide +kernel) rfl), htg _ (gw_mem (i := 498) (by decide +kernel) rfl)⟩ ⟨hPre.blind, hx_recv hK (ci := 1) rfl (show va_at D vwCl (o 0 0, .inr (1, [.ref (o 1 0), .ref (o 3 0), .ref (o 5 0), .ref (o 7 0), .ref (o 8 0), .int (nI (z 0 0)), .int (K 0 0 0), .ref (o 9 0)])) H from hI.at (k := 0) (n := 0) rfl), hPre.at hB hS (fun _ h9 => h9)⟩ rfl rfl hl.1 rfl (lv_room (Nat.le_of_ble_eq_true rfl)) d_law_499 ⟨by show _ ≤ 601024; omega, by show _ ≤ 7293034; omega⟩) hS (fun q (h : nmA r H.size q) => lw_sub (out := out) hI hz0 hsm.2.2.2.2 (Or.inl h)) (fun w9 H1 locs1 hp9 hz9 hkk hS1 => ?_)
  have hz1 := hS1.1
  have hMd1 : md_I D cs H1 xm gm i f := hMd.keepA (fun q hq => hkk q (hMd.lt hq) (fun h9 => lw_not hsm hq (hMd.lt hq) (Or.inl h9)))
  have hout1 := hx_keep hout (hkk _ (hx_lt hout) (fun h9 => h9.elim hsm.2.2.1 (fun h9 => absurd (hx_lt hout) (Nat.not_lt.mpr h9))))
  obtain ⟨hw9, w2, hn⟩ := hp9
  clear hS
  have hS := hS1
  refine lv_aload_n hx hb d_law_502 rfl (lv_at hl 3 rfl) ?_
  refine lv_aload_n hx hb d_law_503 rfl (lv_at hl 1 rfl) ?_
  refine lv_iload hx hb d_law_504 (lv_at hl 0 rfl) ?_
  refine lv_iconst (v := 1) hx hb d_law_506 (by decide) ?_
  refine lv_iadd (x := (nI (5 * k))) (y := 1) hx hb d_law_507 ?_
  refine lv_eqi (y := (nI (5 * k + 1))) (nI_add (5 * k) 1) ?_
  refine va_sld hx hb hXb hbl (Nat.not_le.mpr hbl) hS (show vp_in (nI (5 * k + 1)) L from vp_in_nI (n := 5 * k + 1) (by omega) (by omega)) d_law_508 ?_
  refine lv_eqi (y := xs (5 * k + 1)) (by rw [nI_clamp (by omega)]) ?_
  refine h_calli (va_runV (As := [.int (xs (5 * k + 1))]) (rest := [.int w9]) ⟨hx, hb, hml, hown, htg⟩ (c_Md_candidates l D cs s.heap.size H1 xm gm i f ((xs (5 * k + 1))) hsm.1 hMd1 (z 3 0) hrel.nam hrel.bnd.2.2.1 (z 5 0) hrel.mrg.1 hrel.bnd.2.2.2.1 mo mt ho9 ht9 (mnF z) (lnF z) hrel.wf) ⟨x_cwB 1 htg (gw_mem (i := 1135) (by decide +kernel) rfl) (gw_mem (i := 38) (by decide +kernel) rfl) (gw_mem (i := 1132) (by decide +kernel) rfl) (by decide +kernel) ⟨Nat.le_of_ble_eq_true rfl, Nat.le_of_ble_eq_true rfl⟩, htg _ (gw_mem (i := 1133) (by decide +kernel) rfl), htg _ (gw_mem (i := 1134) (by decide +kernel) rfl)⟩ ⟨hPre.blind, hx_recv hK (ci := 0) rfl hMd1.1, hPre.at hB hS1 (fun _ h9 => h9)⟩ rfl rfl hl.1 rfl (lv_room (Nat.le_of_ble_eq_true rfl)) d_law_509 ⟨by show _ ≤ 601024; omega, by show _ ≤ 7293034; omega⟩) hS1 hsm.1.A (fun r9 H2 locs2 hm hz2 hk2 hS2 => ?_)
  obtain ⟨c9, F9, hmd, hr9, hcl, hF9⟩ := hm
  obtain ⟨e8, hrel2⟩ := hrel.candd (x := 0) (w := w2) (hrel.cans hgr (g0 := K 8 0)) hcl hF9 hn.2.2.1.1
  have hLS2 := lwS.mdl hn hsm hout1 hk2 hmd hrel2
  have e9 : w9 = r9 := hw9.trans (e8.trans hr9.symm)
  subst e9
  refine lv_icmp_eq (tgt := 1391) hx hb d_law_512 (by decide) (fun _ => ?_) (fun h9 => absurd rfl h9)
  refine W.widen (k := 40 + 10 * (k + 1)) (n := 6000 + 300 * (k + 1)) (by omega) (by omega) ?_
  exact kk _ _ _ ⟨o, _, _, r, _, _, _, rfl, hLS2⟩ hS2 (lv_sub hl [0, 1, 2, 3, 4] rfl)
theorem d_law_585 : decode code 585 = .ok (.aload_n 1, 1) := by decide +kernel
theorem d_law_586 : decode code 586 = .ok (.aload_n 0, 1) := by decide +kernel
theorem d_law_587 : decode code 587 = .ok (.iload 4, 2) := by decide +kernel
theorem d_law_589 : decode code 589 = .ok (.iconst 1, 1) := by decide +kernel
theorem d_law_590 : decode code 590 = .ok (.iadd, 1) := by decide +kernel
theorem d_law_591 : decode code 591 = .ok (.iaload, 1) := by decide +kernel
theorem d_law_592 : decode code 592 = .ok (.invokevirtual 113, 3) := by decide +kernel
theorem d_law_595 : decode code 595 = .ok (.aload_n 2, 1) := by decide +kernel
theorem d_law_596 : decode code 596 = .ok (.aload_n 0, 1) := by decide +kernel
theorem d_law_597 : decode code 597 = .ok (.iload 4, 2) := by decide +kernel
theorem d_law_599 : decode code 599 = .ok (.iconst 1, 1) := by decide +kernel
theorem d_law_600 : decode code 600 = .ok (.iadd, 1) := by decide +kernel
theorem d_law_601 : decode code 601 = .ok (.iaload, 1) := by decide +kernel
theorem d_law_602 : decode code 602 = .ok (.invokevirtual 117, 3) := by decide +kernel
theorem d_law_605 : decode code 605 = .ok (.if_icmp .eq 786, 3) := by decide +kernel
set_option maxHeartbeats 4000000 in
set_option maxRecDepth 100000 in
theorem lc_lost {p : Program} {l : Launch} {e : Env} {s : State} {m : MethodId} {below : List Frame} {meth : Method} {c : Code} {H : Heap} {locs : List Loc} {b L : Nat} {xs : Nat → Int32} {D : va_G} {cs : Nat → ClassId} {x xm out k : Nat} {gm : Nat → Nat} {ls : Array Slot} {Q9 : State → Prop} (C : lawC p s m c b L xs D cs l) (hk9 : 5 * k + 5 ≤ L) (hX : lwX D cs s.heap.size H x xm gm out) (hS : va_S (lwA s.heap.size) s.heap H locs) (hl : lv_has ls 7 [(4, .int (nI (5 * k))), (0, .ref b), (1, .ref x), (2, .ref xm), (3, .ref out)])
    (kk : ∀ (H3 : Heap) (locs3 : List Loc) (ls3 : Array Slot), lwX D cs s.heap.size H3 x xm gm out → va_S (lwA s.heap.size) s.heap H3 locs3 → lv_has ls3 7 [(4, .int (nI (5 * k))), (0, .ref b), (1, .ref x), (2, .ref xm), (3, .ref out)] → W p l e room_1 s m #[Value.ref b] below meth c H3 locs3 (40 + 10 * (k + 1)) (6000 + 300 * (k + 1)) Q9 (F0 m 1391 ls3 [])) :
    W p l e room_1 s m #[Value.ref b] below meth c H locs (40 + 10 * k) (6000 + 300 * k) Q9 (F0 m 585 ls []) := by
  obtain ⟨hx, hb, hml, hown, hts, hXb, hbl, hl9, hB, hL⟩ := C
  have htg : ∀ w ∈ gw, w.before #[Value.ref b] s = true := fun w h => hts w (List.mem_filter.mp h).1
  have hK := hB.1
  obtain ⟨o, z, K, r, i, f, gl, hox, hLS⟩ := hX
  subst hox
  have hLS0 := hLS
  obtain ⟨hI, hMd, hsm, hout, hrel⟩ := hLS
  have hz0 := hS.1
  refine lv_aload_n hx hb d_law_585 rfl (lv_at hl 2 rfl) ?_
  refine lv_aload_n hx hb d_law_586 rfl (lv_at hl 1 rfl) ?_
  refine lv_iload hx hb d_law_587 (lv_at hl 0 rfl) ?_
  refine lv_iconst (v := 1) hx hb d_law_589 (by decide) ?_
  refine lv_iadd (x := (nI (5 * k))) (y := 1) hx hb d_law_590 ?_
  refine lv_eqi (y := (nI (5 * k + 1))) (nI_add (5 * k) 1) ?_
  refine va_sld hx hb hXb hbl (Nat.not_le.mpr hbl) hS (show vp_in (nI (5 * k + 1)) L from vp_in_nI (n := 5 * k + 1) (by omega) (by omega)) d_law_591 ?_
  refine lv_eqi (y := xs (5 * k + 1)) (by rw [nI_clamp (by omega)]) ?_
  refine h_calli (va_runV (As := [.int (xs (5 * k + 1))]) (rest := []) ⟨hx, hb, hml, hown, htg⟩ (c_Nm_lost l D cs s.heap.size H o z K r H.size ((xs (5 * k + 1))) hI rfl) ⟨x_cwB 1 htg (gw_mem (i := 591) (by decide +kernel) rfl) (gw_mem (i := 30) (by decide +kernel) rfl) (gw_mem (i := 588) (by decide +kernel) rfl) (by decide +kernel) ⟨Nat.le_of_ble_eq_true rfl, Nat.le_of_ble_eq_true rfl⟩, htg _ (gw_mem (i := 589) (by decide +kernel) rfl), htg _ (gw_mem (i := 590) (by decide +kernel) rfl)⟩ ⟨hPre.blind, hx_recv hK (ci := 1) rfl (show va_at D vwCl (o 0 0, .inr (1, [.ref (o 1 0), .ref (o 3 0), .ref (o 5 0), .ref (o 7 0), .ref (o 8 0), .int (nI (z 0 0)), .int (K 0 0 0), .ref (o 9 0)])) H from hI.at (k := 0) (n := 0) rfl), hPre.at hB hS (fun _ h9 => h9)⟩ rfl rfl hl.1 rfl (lv_room (Nat.le_of_ble_eq_true rfl)) d_law_592 ⟨by show _ ≤ 601024; omega, by show _ ≤ 7293034; omega⟩) hS (jA_sub1 (A := lwA s.heap.size) (hI.ge (k := 9) (n := 0) rfl) (fun q h => Nat.le_trans hz0 h)) (fun w9 H1 locs1 hp9 hz9 hkk hS1 => ?_)
  have hz1 := hS1.1
  have hMd1 : md_I D cs H1 xm gm i f := hMd.keepA (fun q hq => hkk q (hMd.lt hq) (jA_not1 (fun h9 => hsm.2.1 q hq (by rw [h9, (hI.1 9 0 rfl).2]; decide)) (hMd.lt hq)))
  have hout1 := hx_keep hout (hkk _ (hx_lt hout) (jA_not1 (fun h9 => hsm.2.2.1 (by rw [h9, (hI.1 9 0 rfl).2]; decide)) (hx_lt hout)))
  obtain ⟨hw9, w2, hn⟩ := hp9
  clear hS
  have hS := hS1
  refine lv_aload_n hx hb d_law_595 rfl (lv_at hl 3 rfl) ?_
  refine lv_aload_n hx hb d_law_596 rfl (lv_at hl 1 rfl) ?_
  refine lv_iload hx hb d_law_597 (lv_at hl 0 rfl) ?_
  refine lv_iconst (v := 1) hx hb d_law_599 (by decide) ?_
  refine lv_iadd (x := (nI (5 * k))) (y := 1) hx hb d_law_600 ?_
  refine lv_eqi (y := (nI (5 * k + 1))) (nI_add (5 * k) 1) ?_
  refine va_sld hx hb hXb hbl (Nat.not_le.mpr hbl) hS (show vp_in (nI (5 * k + 1)) L from vp_in_nI (n := 5 * k + 1) (by omega) (by omega)) d_law_601 ?_
  refine lv_eqi (y := xs (5 * k + 1)) (by rw [nI_clamp (by omega)]) ?_
  refine h_calli (va_runV (As := [.int (xs (5 * k + 1))]) (rest := [.int w9]) ⟨hx, hb, hml, hown, htg⟩ (c_Md_lost l D cs s.heap.size H1 xm gm i f ((xs (5 * k + 1))) hsm.1 hMd1 (z 3 0) hrel.nam hrel.bnd.2.2.1 (mnF z) (lnF z) hrel.wf) ⟨x_cwB 1 htg (gw_mem (i := 1147) (by decide +kernel) rfl) (gw_mem (i := 38) (by decide +kernel) rfl) (gw_mem (i := 1144) (by decide +kernel) rfl) (by decide +kernel) ⟨Nat.le_of_ble_eq_true rfl, Nat.le_of_ble_eq_true rfl⟩, htg _ (gw_mem (i := 1145) (by decide +kernel) rfl), htg _ (gw_mem (i := 1146) (by decide +kernel) rfl)⟩ ⟨hPre.blind, hx_recv hK (ci := 0) rfl hMd1.1, hPre.at hB hS1 (fun _ h9 => h9)⟩ rfl rfl hl.1 rfl (lv_room (Nat.le_of_ble_eq_true rfl)) d_law_602 ⟨by show _ ≤ 601024; omega, by show _ ≤ 7293034; omega⟩) hS1 hsm.1.A (fun r9 H2 locs2 hm hz2 hk2 hS2 => ?_)
  obtain ⟨R9, hmd, hr9⟩ := hm
  have hLS2 := lwS.mdl hn hsm hout1 hk2 hmd hrel.k9.i0.f21
  have e9 : w9 = r9 := hw9.trans ((congrArg bI hrel.los).trans hr9.symm)
  subst e9
  refine lv_icmp_eq (tgt := 1391) hx hb d_law_605 (by decide) (fun _ => ?_) (fun h9 => absurd rfl h9)
  refine W.widen (k := 40 + 10 * (k + 1)) (n := 6000 + 300 * (k + 1)) (by omega) (by omega) ?_
  exact kk _ _ _ ⟨o, _, _, r, _, _, _, rfl, hLS2⟩ hS2 (lv_sub hl [0, 1, 2, 3, 4] rfl)
