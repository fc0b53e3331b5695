def lawC (p : Program) (s : State) (m : MethodId) (c : Code) (b L : Nat) (xs : Nat → Int32) (D : va_G) (cs : Nat → ClassId) (l : Launch) : Prop := p.tables.exec = Jvm.exec ∧ c.code = code ∧ c.maxLocals = 7 ∧ s.vm.findClass "NameMergesLaw" = some m.cls ∧ (∀ w ∈ lw_tbl, w.before #[Value.ref b] s = true) ∧ va_X b L xs s s.heap ∧ b < s.heap.size ∧ l.stackTraces = false ∧ gB D cs s.heap.size s ∧ L ≤ 2560
def lwX (D : va_G) (cs : Nat → ClassId) (N0 : Nat) (H : Heap) (x xm : Nat) (gm : Nat → Nat) (out : Nat) : Prop := ∃ (o z : zT) (K : kT) (r : Nat → Nat × Nat) (i : Nat → Int32) (f : Nat → Nat → Int32) (gl : Nat → Int64), o 0 0 = x ∧ lwS D cs N0 H xm gm out o z K r i f gl
abbrev lwA (N0 : Nat) : Nat → Prop := fun q => N0 ≤ q
theorem lw_ws {s : State} {args : Array Value} {w0 : Cond} (h0 : w0.before args s = true) (hg0 : (w0.onTables && w0.keeps) = true) (htg : ∀ w ∈ gw, w.before args s = true) : ∀ w ∈ w0 :: gw, ∀ (a' : Array Value) (U : State), s.WarmedH U.vm → w.before a' U = true := fun w hw a' U hW => (List.mem_cons.mp hw).elim (fun e => e ▸ word_at hW (Or.inl hg0) h0) (fun h => word_at hW (gw_good h) (htg w h))
theorem lw_sub {D : va_G} {cs : Nat → ClassId} {N0 : Nat} {H : Heap} {o z : zT} {K : kT} {r : Nat → Nat × Nat} {out : Nat} (hI : nmP D cs N0 H o z K r) (hz : N0 ≤ H.size) (ho : N0 ≤ out) {q : Nat} (h : nmA r H.size q ∨ q = out) : lwA N0 q := h.elim (fun h => h.elim (hI.2.1 q) (fun h => Nat.le_trans hz h)) (fun h => h ▸ ho)
theorem lw_not {N0 xm out : Nat} {gm : Nat → Nat} {r : Nat → Nat × Nat} {n q : Nat} (h : lsM N0 xm gm r out) (hq : md_A xm gm q) (hlt : q < n) : ¬ (nmA r n q ∨ q = out) := fun h9 => by
  rcases h9 with (h9 | h9) | h9
  · exact h.2.1 q hq h9
  · omega
  · exact h.2.2.2.1 (h9 ▸ hq)
theorem lcx (x : Int64) : lg_cmp x x = 0 := by
  unfold lg_cmp
  simp
theorem updL_self {g : Nat → Int64} {v : Int64} : vp_updL g 0 v 0 = v := if_pos rfl
theorem d_law_132 : decode code 132 = .ok (.aload_n 1, 1) := by decide +kernel
theorem d_law_133 : decode code 133 = .ok (.aload_n 0, 1) := by decide +kernel
theorem d_law_134 : decode code 134 = .ok (.iload 4, 2) := by decide +kernel
theorem d_law_136 : decode code 136 = .ok (.iconst 1, 1) := by decide +kernel
theorem d_law_137 : decode code 137 = .ok (.iadd, 1) := by decide +kernel
theorem d_law_138 : decode code 138 = .ok (.iaload, 1) := by decide +kernel
theorem d_law_139 : decode code 139 = .ok (.aload_n 3, 1) := by decide +kernel
theorem d_law_140 : decode code 140 = .ok (.invokestatic 77, 3) := by decide +kernel
theorem d_law_143 : decode code 143 = .ok (.istore 5, 2) := by decide +kernel
theorem d_law_145 : decode code 145 = .ok (.aload_n 2, 1) := by decide +kernel
theorem d_law_146 : decode code 146 = .ok (.aload_n 0, 1) := by decide +kernel
theorem d_law_147 : decode code 147 = .ok (.iload 4, 2) := by decide +kernel
theorem d_law_149 : decode code 149 = .ok (.iconst 1, 1) := by decide +kernel
theorem d_law_150 : decode code 150 = .ok (.iadd, 1) := by decide +kernel
theorem d_law_151 : decode code 151 = .ok (.iaload, 1) := by decide +kernel
theorem d_law_152 : decode code 152 = .ok (.invokevirtual 82, 3) := by decide +kernel
theorem d_law_155 : decode code 155 = .ok (.istore 6, 2) := by decide +kernel
theorem d_law_157 : decode code 157 = .ok (.aload_n 2, 1) := by decide +kernel
theorem d_law_158 : decode code 158 = .ok (.invokevirtual 83, 3) := by decide +kernel
theorem d_law_161 : decode code 161 = .ok (.iload 5, 2) := by decide +kernel
theorem d_law_163 : decode code 163 = .ok (.if_icmp .eq 5, 3) := by decide +kernel
theorem d_law_168 : decode code 168 = .ok (.iload 5, 2) := by decide +kernel
theorem d_law_170 : decode code 170 = .ok (.ifCond .ne 15, 3) := by decide +kernel
theorem d_law_173 : decode code 173 = .ok (.aload_n 3, 1) := by decide +kernel
theorem d_law_174 : decode code 174 = .ok (.iconst 0, 1) := by decide +kernel
theorem d_law_175 : decode code 175 = .ok (.laload, 1) := by decide +kernel
theorem d_law_176 : decode code 176 = .ok (.iload 6, 2) := by decide +kernel
theorem d_law_178 : decode code 178 = .ok (.i2l, 1) := by decide +kernel
theorem d_law_179 : decode code 179 = .ok (.lcmp, 1) := by decide +kernel
theorem d_law_180 : decode code 180 = .ok (.ifCond .eq 5, 3) := by decide +kernel
theorem d_law_185 : decode code 185 = .ok (.goto 1206, 3) := by decide +kernel
set_option maxHeartbeats 4000000 in
set_option maxRecDepth 100000 in
theorem lc_unit {p : Program} {l : Launch} {e : Env} {s : State} {m : MethodId} {below : List Frame} {meth : Method} {c : Code} {H : Heap} {locs : List Loc} {b L : Nat} {xs : Nat → Int32} {D : va_G} {cs : Nat → ClassId} {x xm out k : Nat} {gm : Nat → Nat} {ls : Array Slot} {Q9 : State → Prop} (C : lawC p s m c b L xs D cs l) (hk9 : 5 * k + 5 ≤ L) (hX : lwX D cs s.heap.size H x xm gm out) (hS : va_S (lwA s.heap.size) s.heap H locs) (hl : lv_has ls 7 [(4, .int (nI (5 * k))), (0, .ref b), (1, .ref x), (2, .ref xm), (3, .ref out)])
    (kk : ∀ (H3 : Heap) (locs3 : List Loc) (ls3 : Array Slot), lwX D cs s.heap.size H3 x xm gm out → va_S (lwA s.heap.size) s.heap H3 locs3 → lv_has ls3 7 [(4, .int (nI (5 * k))), (0, .ref b), (1, .ref x), (2, .ref xm), (3, .ref out)] → W p l e room_1 s m #[Value.ref b] below meth c H3 locs3 (40 + 10 * (k + 1)) (6000 + 300 * (k + 1)) Q9 (F0 m 1391 ls3 [])) :
    W p l e room_1 s m #[Value.ref b] below meth c H locs (40 + 10 * k) (6000 + 300 * k) Q9 (F0 m 132 ls []) := by
  obtain ⟨hx, hb, hml, hown, hts, hXb, hbl, hl9, hB, hL⟩ := C
  have htg : ∀ w ∈ gw, w.before #[Value.ref b] s = true := fun w h => hts w (List.mem_filter.mp h).1
  have hK := hB.1
  obtain ⟨o, z, K, r, i, f, gl, hox, hLS⟩ := hX
  subst hox
  have hLS0 := hLS
  obtain ⟨hI, hMd, hsm, hout, hrel⟩ := hLS
  have hz0 := hS.1
  refine lv_aload_n hx hb d_law_132 rfl (lv_at hl 2 rfl) ?_
  refine lv_aload_n hx hb d_law_133 rfl (lv_at hl 1 rfl) ?_
  refine lv_iload hx hb d_law_134 (lv_at hl 0 rfl) ?_
  refine lv_iconst (v := 1) hx hb d_law_136 (by decide) ?_
  refine lv_iadd (x := (nI (5 * k))) (y := 1) hx hb d_law_137 ?_
  refine lv_eqi (y := (nI (5 * k + 1))) (nI_add (5 * k) 1) ?_
  refine va_sld hx hb hXb hbl (Nat.not_le.mpr hbl) hS (show vp_in (nI (5 * k + 1)) L from vp_in_nI (n := 5 * k + 1) (by omega) (by omega)) d_law_138 ?_
  refine lv_eqi (y := xs (5 * k + 1)) (by rw [nI_clamp (by omega)]) ?_
  refine lv_aload_n hx hb d_law_139 rfl (lv_at hl 4 rfl) ?_
  refine t_SW (n := 3) (As := [.ref (o 0 0), .int (xs (5 * k + 1)), .ref out]) (rest := []) ⟨hx, hb, hml, hown, htg⟩ (c_Lw_unit l D cs s.heap.size H hl9 o z K r H.size out gl ((xs (5 * k + 1))) hI rfl hout hsm.2.2.1 hsm.2.2.2.2) (lw_ws (hts _ (List.mem_of_getElem? (i := 598) (by decide +kernel))) rfl htg) List.mem_cons_self (hts _ (List.mem_of_getElem? (i := 598) (by decide +kernel))) (htg _ (gw_mem (i := 29) (by decide +kernel) rfl)) (by decide +kernel) (htg _ (gw_mem (i := 596) (by decide +kernel) rfl)) (htg _ (gw_mem (i := 597) (by decide +kernel) rfl)) ⟨hPre.blind, hPre.at hB hS (fun _ h9 => h9)⟩ rfl hl.1 rfl (lv_room (Nat.le_of_ble_eq_true rfl)) d_law_140 ⟨by show _ ≤ 601024; omega, by show _ ≤ 7293034; omega⟩ rfl rfl ⟨Nat.le_of_ble_eq_true rfl, Nat.le_of_ble_eq_true rfl⟩ (fun v9 H1 L9 hL9 hp9 hz9 hkk => ?_)
  have hS1 : va_S (lwA s.heap.size) s.heap H1 (locs ++ L9) := x_app hS hz9 (fun q h1 h2 => hkk q h1 (fun h => h2 (lw_sub hI hz0 hsm.2.2.2.2 h))) (fun q hq => lw_sub hI hz0 hsm.2.2.2.2 (hL9 q hq))
  have hz1 := hS1.1
  rcases hp9 with ⟨hv, wv, Hc, hpc, hout1, hsz, hfr⟩ | ⟨hv, hG, hout1, hsz, hfr⟩
  · subst hv
    refine W.eq (g2 := F0 m 143 ls [.int 0]) rfl ?_
    have hMd1 : md_I D cs H1 xm gm i f := hMd.keepA (fun q hq => hkk q (hMd.lt hq) (lw_not hsm hq (hMd.lt hq)))
    clear hS
    have hS := hS1
    refine lv_istore (lv' := [(5, .int 0), (4, .int (nI (5 * k))), (0, .ref b), (1, .ref (o 0 0)), (2, .ref xm), (3, .ref out)]) hx hb d_law_143 hl (by decide) rfl (fun ls hl => ?_)
    refine lv_aload_n hx hb d_law_145 rfl (lv_at hl 4 rfl) ?_
    refine lv_aload_n hx hb d_law_146 rfl (lv_at hl 2 rfl) ?_
    refine lv_iload hx hb d_law_147 (lv_at hl 1 rfl) ?_
    refine lv_iconst (v := 1) hx hb d_law_149 (by decide) ?_
    refine lv_iadd (x := (nI (5 * k))) (y := 1) hx hb d_law_150 ?_
    refine lv_eqi (y := (nI (5 * k + 1))) (nI_add (5 * k) 1) ?_
    refine va_sld hx hb hXb hbl (Nat.not_le.mpr hbl) hS (show vp_in (nI (5 * k + 1)) L from vp_in_nI (n := 5 * k + 1) (by omega) (by omega)) d_law_151 ?_
    refine lv_eqi (y := xs (5 * k + 1)) (by rw [nI_clamp (by omega)]) ?_
    refine h_calli (va_runV (As := [.int (xs (5 * k + 1))]) (rest := []) ⟨hx, hb, hml, hown, htg⟩ (c_Md_unit l D cs s.heap.size H1 xm gm i f ((xs (5 * k + 1))) (z 1 0) hsm.1 hMd1 hrel.pad.1 hrel.bnd.2.1) ⟨x_cwB 1 htg (gw_mem (i := 1091) (by decide +kernel) rfl) (gw_mem (i := 38) (by decide +kernel) rfl) (gw_mem (i := 1088) (by decide +kernel) rfl) (by decide +kernel) ⟨Nat.le_of_ble_eq_true rfl, Nat.le_of_ble_eq_true rfl⟩, htg _ (gw_mem (i := 1089) (by decide +kernel) rfl), htg _ (gw_mem (i := 1090) (by decide +kernel) rfl)⟩ ⟨hPre.blind, hx_recv hK (ci := 0) rfl hMd1.1, hPre.at hB hS1 (fun _ h9 => h9)⟩ rfl rfl hl.1 rfl (lv_room (Nat.le_of_ble_eq_true rfl)) d_law_152 ⟨by show _ ≤ 601024; omega, by show _ ≤ 7293034; omega⟩) hS1 hsm.1.A (fun r9 H2 locs2 hm hz2 hk2 hS2 => ?_)
    have hS := hS2
    obtain ⟨hw, o', z', K', r', i', f', hn, hrr, hmd, hi0, hrel2, ho0⟩ := gl_unit (N := H.size) hI hrel hpc hm
    obtain ⟨c1, c2, c3⟩ := hLS0.cls hn hrr hkk hfr
    have hLS2 := lwS.mdl c1 c3 hout1 hk2 hmd hrel2
    refine lv_istore (lv' := [(6, .int r9), (5, .int 0), (4, .int (nI (5 * k))), (0, .ref b), (1, .ref (o 0 0)), (2, .ref xm), (3, .ref out)]) hx hb d_law_155 hl (by decide) rfl (fun ls hl => ?_)
    refine lv_aload_n hx hb d_law_157 rfl (lv_at hl 5 rfl) ?_
    refine h_calli (va_runV (As := []) (rest := []) ⟨hx, hb, hml, hown, htg⟩ (c_Md_thrown l D cs s.heap.size H2 xm gm i' f' hsm.1 hmd) ⟨x_cwB 0 htg (gw_mem (i := 1087) (by decide +kernel) rfl) (gw_mem (i := 38) (by decide +kernel) rfl) (gw_mem (i := 1084) (by decide +kernel) rfl) (by decide +kernel) ⟨Nat.le_of_ble_eq_true rfl, Nat.le_of_ble_eq_true rfl⟩, htg _ (gw_mem (i := 1085) (by decide +kernel) rfl), htg _ (gw_mem (i := 1086) (by decide +kernel) rfl)⟩ ⟨hPre.blind, hx_recv hK (ci := 0) rfl hmd.1, hPre.at hB hS2 (fun _ h9 => h9)⟩ rfl rfl hl.1 rfl (lv_room (Nat.le_of_ble_eq_true rfl)) d_law_158 ⟨by show _ ≤ 601024; omega, by show _ ≤ 7293034; omega⟩) hS2 hsm.1.A (fun r3 H3 locs3 hm3 hz3 hk3 hS3 => ?_)
    obtain ⟨hmd3, hr3⟩ := hm3
    have hLS3 := lwS.mdl hLS2.1 hLS2.2.2.1 hLS2.2.2.2.1 hk3 hmd3 hrel2
    rw [hi0] at hr3
    subst hr3
    refine lv_iload hx hb d_law_161 (lv_at hl 1 rfl) ?_
    refine lv_icmp_eq (tgt := 168) hx hb d_law_163 (by decide) (fun _ => ?_) (fun h9 => absurd rfl h9)
    refine lv_iload hx hb d_law_168 (lv_at hl 1 rfl) ?_
    refine lv_if_ne (tgt := 185) hx hb d_law_170 (by decide) (fun h9 => absurd rfl h9) (fun _ => ?_)
    refine lv_aload_n hx hb d_law_173 rfl (lv_at hl 6 rfl) ?_
    refine lv_iconst (v := 0) hx hb d_law_174 (by decide) ?_
    refine hx_lald hx hb hK 3 hLS3.2.2.2.1 rfl (show vp_in 0 1 from vp_in_nI (n := 0) (by decide) (by decide)) d_law_175 ?_
    refine lv_eqv (y := .long (wv.toInt64)) (show Value.long (vp_updL gl 0 wv.toInt64 0) = _ by rw [updL_self]) ?_
    subst hw
    refine lv_iload hx hb d_law_176 (lv_at hl 0 rfl) ?_
    refine lv_i2l (v := wv.toInt64) hx hb d_law_178 rfl ?_
    skip
    refine W.lcmp hx hb d_law_179 ?_
    refine lv_eqi (y := 0) (lcx _) ?_
    refine lv_if_eq (x := 0) (tgt := 185) hx hb d_law_180 (by decide) (fun _ => ?_) (fun h9 => absurd rfl h9)
    refine lv_goto (tgt := 1391) hx hb d_law_185 (by decide) ?_
    refine W.widen (k := 40 + 10 * (k + 1)) (n := 6000 + 300 * (k + 1)) (by omega) (by omega) ?_
    exact kk _ _ _ ⟨o', z', K', r', i', f', _, ho0, hLS3⟩ hS3 (lv_sub hl [2, 3, 4, 5, 6] rfl)
  · subst hv
    obtain ⟨G9, hG9⟩ : ∃ y, y = goV (decide (z 1 0 < 12)) (isSg ((xs (5 * k + 1)))) true := ⟨_, rfl⟩
    have hG0 := hG
    rw [← hG9] at hG ⊢
    refine W.eq (g2 := F0 m 143 ls [.int G9]) rfl ?_
    have hLS1 := hLS0.same hfr
    have hMd1 := hLS1.2.1
    clear hS
    have hS := hS1
    refine lv_istore (lv' := [(5, .int G9), (4, .int (nI (5 * k))), (0, .ref b), (1, .ref (o 0 0)), (2, .ref xm), (3, .ref out)]) hx hb d_law_143 hl (by decide) rfl (fun ls hl => ?_)
    refine lv_aload_n hx hb d_law_145 rfl (lv_at hl 4 rfl) ?_
    refine lv_aload_n hx hb d_law_146 rfl (lv_at hl 2 rfl) ?_
    refine lv_iload hx hb d_law_147 (lv_at hl 1 rfl) ?_
    refine lv_iconst (v := 1) hx hb d_law_149 (by decide) ?_
    refine lv_iadd (x := (nI (5 * k))) (y := 1) hx hb d_law_150 ?_
    refine lv_eqi (y := (nI (5 * k + 1))) (nI_add (5 * k) 1) ?_
    refine va_sld hx hb hXb hbl (Nat.not_le.mpr hbl) hS (show vp_in (nI (5 * k + 1)) L from vp_in_nI (n := 5 * k + 1) (by omega) (by omega)) d_law_151 ?_
    refine lv_eqi (y := xs (5 * k + 1)) (by rw [nI_clamp (by omega)]) ?_
    refine h_calli (va_runV (As := [.int (xs (5 * k + 1))]) (rest := []) ⟨hx, hb, hml, hown, htg⟩ (c_Md_unit l D cs s.heap.size H1 xm gm i f ((xs (5 * k + 1))) (z 1 0) hsm.1 hMd1 hrel.pad.1 hrel.bnd.2.1) ⟨x_cwB 1 htg (gw_mem (i := 1091) (by decide +kernel) rfl) (gw_mem (i := 38) (by decide +kernel) rfl) (gw_mem (i := 1088) (by decide +kernel) rfl) (by decide +kernel) ⟨Nat.le_of_ble_eq_true rfl, Nat.le_of_ble_eq_true rfl⟩, htg _ (gw_mem (i := 1089) (by decide +kernel) rfl), htg _ (gw_mem (i := 1090) (by decide +kernel) rfl)⟩ ⟨hPre.blind, hx_recv hK (ci := 0) rfl hMd1.1, hPre.at hB hS1 (fun _ h9 => h9)⟩ rfl rfl hl.1 rfl (lv_room (Nat.le_of_ble_eq_true rfl)) d_law_152 ⟨by show _ ≤ 601024; omega, by show _ ≤ 7293034; omega⟩) hS1 hsm.1.A (fun r9 H2 locs2 hm hz2 hk2 hS2 => ?_)
    have hS := hS2
    obtain ⟨i', f', hmd, hi0, hrel2⟩ := gx_unit hrel hG0 hm
    have hLS2 := lwS.mdl hLS1.1 hsm hout1 hk2 hmd hrel2
    refine lv_istore (lv' := [(6, .int r9), (5, .int G9), (4, .int (nI (5 * k))), (0, .ref b), (1, .ref (o 0 0)), (2, .ref xm), (3, .ref out)]) hx hb d_law_155 hl (by decide) rfl (fun ls hl => ?_)
    refine lv_aload_n hx hb d_law_157 rfl (lv_at hl 5 rfl) ?_
    refine h_calli (va_runV (As := []) (rest := []) ⟨hx, hb, hml, hown, htg⟩ (c_Md_thrown l D cs s.heap.size H2 xm gm i' f' hsm.1 hmd) ⟨x_cwB 0 htg (gw_mem (i := 1087) (by decide +kernel) rfl) (gw_mem (i := 38) (by decide +kernel) rfl) (gw_mem (i := 1084) (by decide +kernel) rfl) (by decide +kernel) ⟨Nat.le_of_ble_eq_true rfl, Nat.le_of_ble_eq_true rfl⟩, htg _ (gw_mem (i := 1085) (by decide +kernel) rfl), htg _ (gw_mem (i := 1086) (by decide +kernel) rfl)⟩ ⟨hPre.blind, hx_recv hK (ci := 0) rfl hmd.1, hPre.at hB hS2 (fun _ h9 => h9)⟩ rfl rfl hl.1 rfl (lv_room (Nat.le_of_ble_eq_true rfl)) d_law_158 ⟨by show _ ≤ 601024; omega, by show _ ≤ 7293034; omega⟩) hS2 hsm.1.A (fun r3 H3 locs3 hm3 hz3 hk3 hS3 => ?_)
    obtain ⟨hmd3, hr3⟩ := hm3
    have hLS3 := lwS.mdl hLS2.1 hLS2.2.2.1 hLS2.2.2.2.1 hk3 hmd3 hrel2
    rw [hi0, ← hG9] at hr3
    subst hr3
    refine lv_iload hx hb d_law_161 (lv_at hl 1 rfl) ?_
    refine lv_icmp_eq (tgt := 168) hx hb d_law_163 (by decide) (fun _ => ?_) (fun h9 => absurd rfl h9)
    refine lv_iload hx hb d_law_168 (lv_at hl 1 rfl) ?_
    refine lv_if_ne (tgt := 185) hx hb d_law_170 (by decide) (fun _ => ?_) (fun h9 => absurd h9 (by simpa using hG))
    refine lv_goto (tgt := 1391) hx hb d_law_185 (by decide) ?_
    refine W.widen (k := 40 + 10 * (k + 1)) (n := 6000 + 300 * (k + 1)) (by omega) (by omega) ?_
    exact kk _ _ _ ⟨o, z, K, r, i', f', _, rfl, hLS3⟩ hS3 (lv_sub hl [2, 3, 4, 5, 6] rfl)
theorem d_law_201 : decode code 201 = .ok (.aload_n 1, 1) := by decide +kernel
theorem d_law_202 : decode code 202 = .ok (.aload_n 3, 1) := by decide +kernel
theorem d_law_203 : decode code 203 = .ok (.invokestatic 90, 3) := by decide +kernel
theorem d_law_206 : decode code 206 = .ok (.istore 5, 2) := by decide +kernel
theorem d_law_208 : decode code 208 = .ok (.aload_n 2, 1) := by decide +kernel
theorem d_law_209 : decode code 209 = .ok (.invokevirtual 93, 3) := by decide +kernel
theorem d_law_212 : decode code 212 = .ok (.istore 6, 2) := by decide +kernel
theorem d_law_214 : decode code 214 = .ok (.aload_n 2, 1) := by decide +kernel
theorem d_law_215 : decode code 215 = .ok (.invokevirtual 83, 3) := by decide +kernel
theorem d_law_218 : decode code 218 = .ok (.iload 5, 2) := by decide +kernel
theorem d_law_220 : decode code 220 = .ok (.if_icmp .eq 5, 3) := by decide +kernel
theorem d_law_225 : decode code 225 = .ok (.iload 5, 2) := by decide +kernel
theorem d_law_227 : decode code 227 = .ok (.ifCond .ne 15, 3) := by decide +kernel
theorem d_law_230 : decode code 230 = .ok (.aload_n 3, 1) := by decide +kernel
theorem d_law_231 : decode code 231 = .ok (.iconst 0, 1) := by decide +kernel
theorem d_law_232 : decode code 232 = .ok (.laload, 1) := by decide +kernel
theorem d_law_233 : decode code 233 = .ok (.iload 6, 2) := by decide +kernel
theorem d_law_235 : decode code 235 = .ok (.i2l, 1) := by decide +kernel
theorem d_law_236 : decode code 236 = .ok (.lcmp, 1) := by decide +kernel
theorem d_law_237 : decode code 237 = .ok (.ifCond .eq 5, 3) := by decide +kernel
theorem d_law_242 : decode code 242 = .ok (.goto 1149, 3) := by decide +kernel
set_option maxHeartbeats 4000000 in
set_option maxRecDepth 100000 in
theorem lc_name {p : Program} {l : Launch} {e : Env} {s : State} {m : MethodId} {below : List Frame} {meth : Method} {c : Code} {H : Heap} {locs : List Loc} {b L : Nat} {xs : Nat → Int32} {D : va_G} {cs : Nat → ClassId} {x xm out k : Nat} {gm : Nat → Nat} {ls : Array Slot} {Q9 : State → Prop} (C : lawC p s m c b L xs D cs l) (hk9 : 5 * k + 5 ≤ L) (hX : lwX D cs s.heap.size H x xm gm out) (hS : va_S (lwA s.heap.size) s.heap H locs) (hl : lv_has ls 7 [(4, .int (nI (5 * k))), (0, .ref b), (1, .ref x), (2, .ref xm), (3, .ref out)])
    (kk : ∀ (H3 : Heap) (locs3 : List Loc) (ls3 : Array Slot), lwX D cs s.heap.size H3 x xm gm out → va_S (lwA s.heap.size) s.heap H3 locs3 → lv_has ls3 7 [(4, .int (nI (5 * k))), (0, .ref b), (1, .ref x), (2, .ref xm), (3, .ref out)] → W p l e room_1 s m #[Value.ref b] below meth c H3 locs3 (40 + 10 * (k + 1)) (6000 + 300 * (k + 1)) Q9 (F0 m 1391 ls3 [])) :
    W p l e room_1 s m #[Value.ref b] below meth c H locs (40 + 10 * k) (6000 + 300 * k) Q9 (F0 m 201 ls []) := by
  obtain ⟨hx, hb, hml, hown, hts, hXb, hbl, hl9, hB, hL⟩ := C
  have htg : ∀ w ∈ gw, w.before #[Value.ref b] s = true := fun w h => hts w (List.mem_filter.mp h).1
  have hK := hB.1
  obtain ⟨o, z, K, r, i, f, gl, hox, hLS⟩ := hX
  subst hox
  have hLS0 := hLS
  obtain ⟨hI, hMd, hsm, hout, hrel⟩ := hLS
  have hz0 := hS.1
  refine lv_aload_n hx hb d_law_201 rfl (lv_at hl 2 rfl) ?_
  refine lv_aload_n hx hb d_law_202 rfl (lv_at hl 4 rfl) ?_
  refine t_SW (n := 2) (As := [.ref (o 0 0), .ref out]) (rest := []) ⟨hx, hb, hml, hown, htg⟩ (c_Lw_name l D cs s.heap.size H hl9 o z K r H.size out gl  hI rfl hout hsm.2.2.1 hsm.2.2.2.2) (lw_ws (hts _ (List.mem_of_getElem? (i := 639) (by decide +kernel))) rfl htg) List.mem_cons_self (hts _ (List.mem_of_getElem? (i := 639) (by decide +kernel))) (htg _ (gw_mem (i := 29) (by decide +kernel) rfl)) (by decide +kernel) (htg _ (gw_mem (i := 637) (by decide +kernel) rfl)) (htg _ (gw_mem (i := 638) (by decide +kernel) rfl)) ⟨hPre.blind, hPre.at hB hS (fun _ h9 => h9)⟩ rfl hl.1 rfl (lv_room (Nat.le_of_ble_eq_true rfl)) d_law_203 ⟨by show _ ≤ 601024; omega, by show _ ≤ 7293034; omega⟩ rfl rfl ⟨Nat.le_of_ble_eq_true rfl, Nat.le_of_ble_eq_true rfl⟩ (fun v9 H1 L9 hL9 hp9 hz9 hkk => ?_)
  have hS1 : va_S (lwA s.heap.size) s.heap H1 (locs ++ L9) := x_app hS hz9 (fun q h1 h2 => hkk q h1 (fun h => h2 (lw_sub hI hz0 hsm.2.2.2.2 h))) (fun q hq => lw_sub hI hz0 hsm.2.2.2.2 (hL9 q hq))
  have hz1 := hS1.1
  rcases hp9 with ⟨hv, wv, Hc, hpc, hout1, hsz, hfr⟩ | ⟨hv, hG, hout1, hsz, hfr⟩
  · subst hv
    refine W.eq (g2 := F0 m 206 ls [.int 0]) rfl ?_
    have hMd1 : md_I D cs H1 xm gm i f := hMd.keepA (fun q hq => hkk q (hMd.lt hq) (lw_not hsm hq (hMd.lt hq)))
    clear hS
    have hS := hS1
    refine lv_istore (lv' := [(5, .int 0), (4, .int (nI (5 * k))), (0, .ref b), (1, .ref (o 0 0)), (2, .ref xm), (3, .ref out)]) hx hb d_law_206 hl (by decide) rfl (fun ls hl => ?_)
    refine lv_aload_n hx hb d_law_208 rfl (lv_at hl 4 rfl) ?_
    refine h_calli (va_runV (As := []) (rest := []) ⟨hx, hb, hml, hown, htg⟩ (c_Md_name l D cs s.heap.size H1 xm gm i f  (z 3 0) hsm.1 hMd1 hrel.nam hrel.bnd.2.2.1) ⟨x_cwB 0 htg (gw_mem (i := 1103) (by decide +kernel) rfl) (gw_mem (i := 38) (by decide +kernel) rfl) (gw_mem (i := 1100) (by decide +kernel) rfl) (by decide +kernel) ⟨Nat.le_of_ble_eq_true rfl, Nat.le_of_ble_eq_true rfl⟩, htg _ (gw_mem (i := 1101) (by decide +kernel) rfl), htg _ (gw_mem (i := 1102) (by decide +kernel) rfl)⟩ ⟨hPre.blind, hx_recv hK (ci := 0) rfl hMd1.1, hPre.at hB hS1 (fun _ h9 => h9)⟩ rfl rfl hl.1 rfl (lv_room (Nat.le_of_ble_eq_true rfl)) d_law_209 ⟨by show _ ≤ 601024; omega, by show _ ≤ 7293034; omega⟩) hS1 hsm.1.A (fun r9 H2 locs2 hm hz2 hk2 hS2 => ?_)
    have hS := hS2
    obtain ⟨hw, o', z', K', r', i', f', hn, hrr, hmd, hi0, hrel2, ho0⟩ := gl_name (N := H.size) hI hrel hpc hm
    obtain ⟨c1, c2, c3⟩ := hLS0.cls hn hrr hkk hfr
    have hLS2 := lwS.mdl c1 c3 hout1 hk2 hmd hrel2
    refine lv_istore (lv' := [(6, .int r9), (5, .int 0), (4, .int (nI (5 * k))), (0, .ref b), (1, .ref (o 0 0)), (2, .ref xm), (3, .ref out)]) hx hb d_law_212 hl (by decide) rfl (fun ls hl => ?_)
    refine lv_aload_n hx hb d_law_214 rfl (lv_at hl 5 rfl) ?_
    refine h_calli (va_runV (As := []) (rest := []) ⟨hx, hb, hml, hown, htg⟩ (c_Md_thrown l D cs s.heap.size H2 xm gm i' f' hsm.1 hmd) ⟨x_cwB 0 htg (gw_mem (i := 1087) (by decide +kernel) rfl) (gw_mem (i := 38) (by decide +kernel) rfl) (gw_mem (i := 1084) (by decide +kernel) rfl) (by decide +kernel) ⟨Nat.le_of_ble_eq_true rfl, Nat.le_of_ble_eq_true rfl⟩, htg _ (gw_mem (i := 1085) (by decide +kernel) rfl), htg _ (gw_mem (i := 1086) (by decide +kernel) rfl)⟩ ⟨hPre.blind, hx_recv hK (ci := 0) rfl hmd.1, hPre.at hB hS2 (fun _ h9 => h9)⟩ rfl rfl hl.1 rfl (lv_room (Nat.le_of_ble_eq_true rfl)) d_law_215 ⟨by show _ ≤ 601024; omega, by show _ ≤ 7293034; omega⟩) hS2 hsm.1.A (fun r3 H3 locs3 hm3 hz3 hk3 hS3 => ?_)
    obtain ⟨hmd3, hr3⟩ := hm3
    have hLS3 := lwS.mdl hLS2.1 hLS2.2.2.1 hLS2.2.2.2.1 hk3 hmd3 hrel2
    rw [hi0] at hr3
    subst hr3
    refine lv_iload hx hb d_law_218 (lv_at hl 1 rfl) ?_
    refine lv_icmp_eq (tgt := 225) hx hb d_law_220 (by decide) (fun _ => ?_) (fun h9 => absurd rfl h9)
    refine lv_iload hx hb d_law_225 (lv_at hl 1 rfl) ?_
    refine lv_if_ne (tgt := 242) hx hb d_law_227 (by decide) (fun h9 => absurd rfl h9) (fun _ => ?_)
    refine lv_aload_n hx hb d_law_230 rfl (lv_at hl 6 rfl) ?_
    refine lv_iconst (v := 0) hx hb d_law_231 (by decide) ?_
    refine hx_lald hx hb hK 3 hLS3.2.2.2.1 rfl (show vp_in 0 1 from vp_in_nI (n := 0) (by decide) (by decide)) d_law_232 ?_
    refine lv_eqv (y := .long (wv.toInt64)) (show Value.long (vp_updL gl 0 wv.toInt64 0) = _ by rw [updL_self]) ?_
    subst hw
    refine lv_iload hx hb d_law_233 (lv_at hl 0 rfl) ?_
    refine lv_i2l (v := wv.toInt64) hx hb d_law_235 rfl ?_
    skip
    refine W.lcmp hx hb d_law_236 ?_
    refine lv_eqi (y := 0) (lcx _) ?_
    refine lv_if_eq (x := 0) (tgt := 242) hx hb d_law_237 (by decide) (fun _ => ?_) (fun h9 => absurd rfl h9)
    refine lv_goto (tgt := 1391) hx hb d_law_242 (by decide) ?_
    refine W.widen (k := 40 + 10 * (k + 1)) (n := 6000 + 300 * (k + 1)) (by omega) (by omega) ?_
    exact kk _ _ _ ⟨o', z', K', r', i', f', _, ho0, hLS3⟩ hS3 (lv_sub hl [2, 3, 4, 5, 6] rfl)
  · subst hv
    obtain ⟨G9, hG9⟩ : ∃ y, y = goV (decide (z 3 0 < 24)) true true := ⟨_, rfl⟩
    have hG0 := hG
    rw [← hG9] at hG ⊢
    refine W.eq (g2 := F0 m 206 ls [.int G9]) rfl ?_
    have hLS1 := hLS0.same hfr
    have hMd1 := hLS1.2.1
    clear hS
    have hS := hS1
    refine lv_istore (lv' := [(5, .int G9), (4, .int (nI (5 * k))), (0, .ref b), (1, .ref (o 0 0)), (2, .ref xm), (3, .ref out)]) hx hb d_law_206 hl (by decide) rfl (fun ls hl => ?_)
    refine lv_aload_n hx hb d_law_208 rfl (lv_at hl 4 rfl) ?_
    refine h_calli (va_runV (As := []) (rest := []) ⟨hx, hb, hml, hown, htg⟩ (c_Md_name l D cs s.heap.size H1 xm gm i f  (z 3 0) hsm.1 hMd1 hrel.nam hrel.bnd.2.2.1) ⟨x_cwB 0 htg (gw_mem (i := 1103) (by decide +kernel) rfl) (gw_mem (i := 38) (by decide +kernel) rfl) (gw_mem (i := 1100) (by decide +kernel) rfl) (by decide +kernel) ⟨Nat.le_of_ble_eq_true rfl, Nat.le_of_ble_eq_true rfl⟩, htg _ (gw_mem (i := 1101) (by decide +kernel) rfl), htg _ (gw_mem (i := 1102) (by decide +kernel) rfl)⟩ ⟨hPre.blind, hx_recv hK (ci := 0) rfl hMd1.1, hPre.at hB hS1 (fun _ h9 => h9)⟩ rfl rfl hl.1 rfl (lv_room (Nat.le_of_ble_eq_true rfl)) d_law_209 ⟨by show _ ≤ 601024; omega, by show _ ≤ 7293034; omega⟩) hS1 hsm.1.A (fun r9 H2 locs2 hm hz2 hk2 hS2 => ?_)
    have hS := hS2
    obtain ⟨i', f', hmd, hi0, hrel2⟩ := gx_name hrel hG0 hm
    have hLS2 := lwS.mdl hLS1.1 hsm hout1 hk2 hmd hrel2
    refine lv_istore (lv' := [(6, .int r9), (5, .int G9), (4, .int (nI (5 * k))), (0, .ref b), (1, .ref (o 0 0)), (2, .ref xm), (3, .ref out)]) hx hb d_law_212 hl (by decide) rfl (fun ls hl => ?_)
    refine lv_aload_n hx hb d_law_214 rfl (lv_at hl 5 rfl) ?_
    refine h_calli (va_runV (As := []) (rest := []) ⟨hx, hb, hml, hown, htg⟩ (c_Md_thrown l D cs s.heap.size H2 xm gm i' f' hsm.1 hmd) ⟨x_cwB 0 htg (gw_mem (i := 1087) (by decide +kernel) rfl) (gw_mem (i := 38) (by decide +kernel) rfl) (gw_mem (i := 1084) (by decide +kernel) rfl) (by decide +kernel) ⟨Nat.le_of_ble_eq_true rfl, Nat.le_of_ble_eq_true rfl⟩, htg _ (gw_mem (i := 1085) (by decide +kernel) rfl), htg _ (gw_mem (i := 1086) (by decide +kernel) rfl)⟩ ⟨hPre.blind, hx_recv hK (ci := 0) rfl hmd.1, hPre.at hB hS2 (fun _ h9 => h9)⟩ rfl rfl hl.1 rfl (lv_room (Nat.le_of_ble_eq_true rfl)) d_law_215 ⟨by show _ ≤ 601024; omega, by show _ ≤ 7293034; omega⟩) hS2 hsm.1.A (fun r3 H3 locs3 hm3 hz3 hk3 hS3 => ?_)
    obtain ⟨hmd3, hr3⟩ := hm3
    have hLS3 := lwS.mdl hLS2.1 hLS2.2.2.1 hLS2.2.2.2.1 hk3 hmd3 hrel2
    rw [hi0, ← hG9] at hr3
    subst hr3
    refine lv_iload hx hb d_law_218 (lv_at hl 1 rfl) ?_
    refine lv_icmp_eq (tgt := 225) hx hb d_law_220 (by decide) (fun _ => ?_) (fun h9 => absurd rfl h9)
    refine lv_iload hx hb d_law_225 (lv_at hl 1 rfl) ?_
    refine lv_if_ne (tgt := 242) hx hb d_law_227 (by decide) (fun _ => ?_) (fun h9 => absurd h9 (by simpa using hG))
    refine lv_goto (tgt := 1391) hx hb d_law_242 (by decide) ?_
    refine W.widen (k := 40 + 10 * (k + 1)) (n := 6000 + 300 * (k + 1)) (by omega) (by omega) ?_
    exact kk _ _ _ ⟨o, z, K, r, i', f', _, rfl, hLS3⟩ hS3 (lv_sub hl [2, 3, 4, 5, 6] rfl)
theorem d_law_245 : decode code 245 = .ok (.aload_n 1, 1) := by decide +kernel
theorem d_law_246 : decode code 246 = .ok (.aload_n 0, 1) := by decide +kernel
theorem d_law_247 : decode code 247 = .ok (.iload 4, 2) := by decide +kernel
theorem d_law_249 : decode code 249 = .ok (.iconst 1, 1) := by decide +kernel
theorem d_law_250 : decode code 250 = .ok (.iadd, 1) := by decide +kernel
theorem d_law_251 : decode code 251 = .ok (.iaload, 1) := by decide +kernel
theorem d_law_252 : decode code 252 = .ok (.aload_n 0, 1) := by decide +kernel
theorem d_law_253 : decode code 253 = .ok (.iload 4, 2) := by decide +kernel
theorem d_law_255 : decode code 255 = .ok (.iconst 2, 1) := by decide +kernel
theorem d_law_256 : decode code 256 = .ok (.iadd, 1) := by decide +kernel
theorem d_law_257 : decode code 257 = .ok (.iaload, 1) := by decide +kernel
theorem d_law_258 : decode code 258 = .ok (.aload_n 0, 1) := by decide +kernel
theorem d_law_259 : decode code 259 = .ok (.iload 4, 2) := by decide +kernel
theorem d_law_261 : decode code 261 = .ok (.iconst 3, 1) := by decide +kernel
theorem d_law_262 : decode code 262 = .ok (.iadd, 1) := by decide +kernel
theorem d_law_263 : decode code 263 = .ok (.iaload, 1) := by decide +kernel
theorem d_law_264 : decode code 264 = .ok (.aload_n 0, 1) := by decide +kernel
theorem d_law_265 : decode code 265 = .ok (.iload 4, 2) := by decide +kernel
theorem d_law_267 : decode code 267 = .ok (.iconst 4, 1) := by decide +kernel
theorem d_law_268 : decode code 268 = .ok (.iadd, 1) := by decide +kernel
theorem d_law_269 : decode code 269 = .ok (.iaload, 1) := by decide +kernel
theorem d_law_270 : decode code 270 = .ok (.aload_n 3, 1) := by decide +kernel
theorem d_law_271 : decode code 271 = .ok (.invokestatic 94, 3) := by decide +kernel
theorem d_law_274 : decode code 274 = .ok (.istore 5, 2) := by decide +kernel
theorem d_law_276 : decode code 276 = .ok (.aload_n 2, 1) := by decide +kernel
theorem d_law_277 : decode code 277 = .ok (.aload_n 0, 1) := by decide +kernel
theorem d_law_278 : decode code 278 = .ok (.iload 4, 2) := by decide +kernel
theorem d_law_280 : decode code 280 = .ok (.iconst 1, 1) := by decide +kernel
theorem d_law_281 : decode code 281 = .ok (.iadd, 1) := by decide +kernel
theorem d_law_282 : decode code 282 = .ok (.iaload, 1) := by decide +kernel
theorem d_law_283 : decode code 283 = .ok (.aload_n 0, 1) := by decide +kernel
theorem d_law_284 : decode code 284 = .ok (.iload 4, 2) := by decide +kernel
theorem d_law_286 : decode code 286 = .ok (.iconst 2, 1) := by decide +kernel
theorem d_law_287 : decode code 287 = .ok (.iadd, 1) := by decide +kernel
theorem d_law_288 : decode code 288 = .ok (.iaload, 1) := by decide +kernel
theorem d_law_289 : decode code 289 = .ok (.aload_n 0, 1) := by decide +kernel
theorem d_law_290 : decode code 290 = .ok (.iload 4, 2) := by decide +kernel
theorem d_law_292 : decode code 292 = .ok (.iconst 3, 1) := by decide +kernel
theorem d_law_293 : decode code 293 = .ok (.iadd, 1) := by decide +kernel
theorem d_law_294 : decode code 294 = .ok (.iaload, 1) := by decide +kernel
theorem d_law_295 : decode code 295 = .ok (.aload_n 0, 1) := by decide +kernel
theorem d_law_296 : decode code 296 = .ok (.iload 4, 2) := by decide +kernel
theorem d_law_298 : decode code 298 = .ok (.iconst 4, 1) := by decide +kernel
theorem d_law_299 : decode code 299 = .ok (.iadd, 1) := by decide +kernel
theorem d_law_300 : decode code 300 = .ok (.iaload, 1) := by decide +kernel
theorem d_law_301 : decode code 301 = .ok (.invokevirtual 97, 3) := by decide +kernel
theorem d_law_304 : decode code 304 = .ok (.istore 6, 2) := by decide +kernel
theorem d_law_306 : decode code 306 = .ok (.aload_n 2, 1) := by decide +kernel
theorem d_law_307 : decode code 307 = .ok (.invokevirtual 83, 3) := by decide +kernel
theorem d_law_310 : decode code 310 = .ok (.iload 5, 2) := by decide +kernel
theorem d_law_312 : decode code 312 = .ok (.if_icmp .eq 5, 3) := by decide +kernel
theorem d_law_317 : decode code 317 = .ok (.iload 5, 2) := by decide +kernel
theorem d_law_319 : decode code 319 = .ok (.ifCond .ne 15, 3) := by decide +kernel
theorem d_law_322 : decode code 322 = .ok (.aload_n 3, 1) := by decide +kernel
theorem d_law_323 : decode code 323 = .ok (.iconst 0, 1) := by decide +kernel
theorem d_law_324 : decode code 324 = .ok (.laload, 1) := by decide +kernel
theorem d_law_325 : decode code 325 = .ok (.iload 6, 2) := by decide +kernel
theorem d_law_327 : decode code 327 = .ok (.i2l, 1) := by decide +kernel
theorem d_law_328 : decode code 328 = .ok (.lcmp, 1) := by decide +kernel
theorem d_law_329 : decode code 329 = .ok (.ifCond .eq 5, 3) := by decide +kernel
theorem d_law_334 : decode code 334 = .ok (.goto 1057, 3) := by decide +kernel
set_option maxHeartbeats 4000000 in
set_option maxRecDepth 100000 in
theorem lc_variant {p : Program} {l : Launch} {e : Env} {s : State} {m : MethodId} {below : List Frame} {meth : Method} {c : Code} {H : Heap} {locs : List Loc} {b L : Nat} {xs : Nat → Int32} {D : va_G} {cs : Nat → ClassId} {x xm out k : Nat} {gm : Nat → Nat} {ls : Array Slot} {Q9 : State → Prop} (C : lawC p s m c b L xs D cs l) (hk9 : 5 * k + 5 ≤ L) (hX : lwX D cs s.heap.size H x xm gm out) (hS : va_S (lwA s.heap.size) s.heap H locs) (hl : lv_has ls 7 [(4, .int (nI (5 * k))), (0, .ref b), (1, .ref x), (2, .ref xm), (3, .ref out)])
    (kk : ∀ (H3 : Heap) (locs3 : List Loc) (ls3 : Array Slot), lwX D cs s.heap.size H3 x xm gm out → va_S (lwA s.heap.size) s.heap H3 locs3 → lv_has ls3 7 [(4, .int (nI (5 * k))), (0, .ref b), (1, .ref x), (2, .ref xm), (3, .ref out)] → W p l e room_1 s m #[Value.ref b] below meth c H3 locs3 (40 + 10 * (k + 1)) (6000 + 300 * (k + 1)) Q9 (F0 m 1391 ls3 [])) :
    W p l e room_1 s m #[Value.ref b] below meth c H locs (40 + 10 * k) (6000 + 300 * k) Q9 (F0 m 245 ls []) := by
  obtain ⟨hx, hb, hml, hown, hts, hXb, hbl, hl9, hB, hL⟩ := C
  have htg : ∀ w ∈ gw, w.before #[Value.ref b] s = true := fun w h => hts w (List.mem_filter.mp h).1
  have hK := hB.1
  obtain ⟨o, z, K, r, i, f, gl, hox, hLS⟩ := hX
  subst hox
  have hLS0 := hLS
  obtain ⟨hI, hMd, hsm, hout, hrel⟩ := hLS
  have hz0 := hS.1
  refine lv_aload_n hx hb d_law_245 rfl (lv_at hl 2 rfl) ?_
  refine lv_aload_n hx hb d_law_246 rfl (lv_at hl 1 rfl) ?_
  refine lv_iload hx hb d_law_247 (lv_at hl 0 rfl) ?_
  refine lv_iconst (v := 1) hx hb d_law_249 (by decide) ?_
  refine lv_iadd (x := (nI (5 * k))) (y := 1) hx hb d_law_250 ?_
  refine lv_eqi (y := (nI (5 * k + 1))) (nI_add (5 * k) 1) ?_
  refine va_sld hx hb hXb hbl (Nat.not_le.mpr hbl) hS (show vp_in (nI (5 * k + 1)) L from vp_in_nI (n := 5 * k + 1) (by omega) (by omega)) d_law_251 ?_
  refine lv_eqi (y := xs (5 * k + 1)) (by rw [nI_clamp (by omega)]) ?_
  refine lv_aload_n hx hb d_law_252 rfl (lv_at hl 1 rfl) ?_
  refine lv_iload hx hb d_law_253 (lv_at hl 0 rfl) ?_
  refine lv_iconst (v := 2) hx hb d_law_255 (by decide) ?_
  refine lv_iadd (x := (nI (5 * k))) (y := 2) hx hb d_law_256 ?_
  refine lv_eqi (y := (nI (5 * k + 2))) (nI_add (5 * k) 2) ?_
  refine va_sld hx hb hXb hbl (Nat.not_le.mpr hbl) hS (show vp_in (nI (5 * k + 2)) L from vp_in_nI (n := 5 * k + 2) (by omega) (by omega)) d_law_257 ?_
  refine lv_eqi (y := xs (5 * k + 2)) (by rw [nI_clamp (by omega)]) ?_
  refine lv_aload_n hx hb d_law_258 rfl (lv_at hl 1 rfl) ?_
  refine lv_iload hx hb d_law_259 (lv_at hl 0 rfl) ?_
  refine lv_iconst (v := 3) hx hb d_law_261 (by decide) ?_
  refine lv_iadd (x := (nI (5 * k))) (y := 3) hx hb d_law_262 ?_
  refine lv_eqi (y := (nI (5 * k + 3))) (nI_add (5 * k) 3) ?_
  refine va_sld hx hb hXb hbl (Nat.not_le.mpr hbl) hS (show vp_in (nI (5 * k + 3)) L from vp_in_nI (n := 5 * k + 3) (by omega) (by omega)) d_law_263 ?_
  refine lv_eqi (y := xs (5 * k + 3)) (by rw [nI_clamp (by omega)]) ?_
  refine lv_aload_n hx hb d_law_264 rfl (lv_at hl 1 rfl) ?_
  refine lv_iload hx hb d_law_265 (lv_at hl 0 rfl) ?_
  refine lv_iconst (v := 4) hx hb d_law_267 (by decide) ?_
  refine lv_iadd (x := (nI (5 * k))) (y := 4) hx hb d_law_268 ?_
  refine lv_eqi (y := (nI (5 * k + 4))) (nI_add (5 * k) 4) ?_
  refine va_sld hx hb hXb hbl (Nat.not_le.mpr hbl) hS (show vp_in (nI (5 * k + 4)) L from vp_in_nI (n := 5 * k + 4) (by omega) (by omega)) d_law_269 ?_
  refine lv_eqi (y := xs (5 * k + 4)) (by rw [nI_clamp (by omega)]) ?_
  refine lv_aload_n hx hb d_law_270 rfl (lv_at hl 4 rfl) ?_
  refine t_SW (n := 6) (As := [.ref (o 0 0), .int (xs (5 * k + 1)), .int (xs (5 * k + 2)), .int (xs (5 * k + 3)), .int (xs (5 * k + 4)), .ref out]) (rest := []) ⟨hx, hb, hml, hown, htg⟩ (c_Lw_variant l D cs s.heap.size H hl9 o z K r H.size out gl ((xs (5 * k + 1))) ((xs (5 * k + 2))) ((xs (5 * k + 3))) ((xs (5 * k + 4))) hI rfl hout hsm.2.2.1 hsm.2.2.2.2) (lw_ws (hts _ (List.mem_of_getElem? (i := 729) (by decide +kernel))) rfl htg) List.mem_cons_self (hts _ (List.mem_of_getElem? (i := 729) (by decide +kernel))) (htg _ (gw_mem (i := 29) (by decide +kernel) rfl)) (by decide +kernel) (htg _ (gw_mem (i := 727) (by decide +kernel) rfl)) (htg _ (gw_mem (i := 728) (by decide +kernel) rfl)) ⟨hPre.blind, hPre.at hB hS (fun _ h9 => h9)⟩ rfl hl.1 rfl (lv_room (Nat.le_of_ble_eq_true rfl)) d_law_271 ⟨by show _ ≤ 601024; omega, by show _ ≤ 7293034; omega⟩ rfl rfl ⟨Nat.le_of_ble_eq_true rfl, Nat.le_of_ble_eq_true rfl⟩ (fun v9 H1 L9 hL9 hp9 hz9 hkk => ?_)
  have hS1 : va_S (lwA s.heap.size) s.heap H1 (locs ++ L9) := x_app hS hz9 (fun q h1 h2 => hkk q h1 (fun h => h2 (lw_sub hI hz0 hsm.2.2.2.2 h))) (fun q hq => lw_sub hI hz0 hsm.2.2.2.2 (hL9 q hq))
  have hz1 := hS1.1
  rcases hp9 with ⟨hv, wv, Hc, hpc, hout1, hsz, hfr⟩ | ⟨hv, hG, hout1, hsz, hfr⟩
  · subst hv
    refine W.eq (g2 := F0 m 274 ls [.int 0]) rfl ?_
    have hMd1 : md_I D cs H1 xm gm i f := hMd.keepA (fun q hq => hkk q (hMd.lt hq) (lw_not hsm hq (hMd.lt hq)))
    clear hS
    have hS := hS1
    refine lv_istore (lv' := [(5, .int 0), (4, .int (nI (5 * k))), (0, .ref b), (1, .ref (o 0 0)), (2, .ref xm), (3, .ref out)]) hx hb d_law_274 hl (by decide) rfl (fun ls hl => ?_)
    refine lv_aload_n hx hb d_law_276 rfl (lv_at hl 4 rfl) ?_
    refine lv_aload_n hx hb d_law_277 rfl (lv_at hl 2 rfl) ?_
    refine lv_iload hx hb d_law_278 (lv_at hl 1 rfl) ?_
    refine lv_iconst (v := 1) hx hb d_law_280 (by decide) ?_
    refine lv_iadd (x := (nI (5 * k))) (y := 1) hx hb d_law_281 ?_
    refine lv_eqi (y := (nI (5 * k + 1))) (nI_add (5 * k) 1) ?_
    refine va_sld hx hb hXb hbl (Nat.not_le.mpr hbl) hS (show vp_in (nI (5 * k + 1)) L from vp_in_nI (n := 5 * k + 1) (by omega) (by omega)) d_law_282 ?_
    refine lv_eqi (y := xs (5 * k + 1)) (by rw [nI_clamp (by omega)]) ?_
    refine lv_aload_n hx hb d_law_283 rfl (lv_at hl 2 rfl) ?_
    refine lv_iload hx hb d_law_284 (lv_at hl 1 rfl) ?_
    refine lv_iconst (v := 2) hx hb d_law_286 (by decide) ?_
    refine lv_iadd (x := (nI (5 * k))) (y := 2) hx hb d_law_287 ?_
    refine lv_eqi (y := (nI (5 * k + 2))) (nI_add (5 * k) 2) ?_
    refine va_sld hx hb hXb hbl (Nat.not_le.mpr hbl) hS (show vp_in (nI (5 * k + 2)) L from vp_in_nI (n := 5 * k + 2) (by omega) (by omega)) d_law_288 ?_
    refine lv_eqi (y := xs (5 * k + 2)) (by rw [nI_clamp (by omega)]) ?_
    refine lv_aload_n hx hb d_law_289 rfl (lv_at hl 2 rfl) ?_
    refine lv_iload hx hb d_law_290 (lv_at hl 1 rfl) ?_
    refine lv_iconst (v := 3) hx hb d_law_292 (by decide) ?_
    refine lv_iadd (x := (nI (5 * k))) (y := 3) hx hb d_law_293 ?_
    refine lv_eqi (y := (nI (5 * k + 3))) (nI_add (5 * k) 3) ?_
    refine va_sld hx hb hXb hbl (Nat.not_le.mpr hbl) hS (show vp_in (nI (5 * k + 3)) L from vp_in_nI (n := 5 * k + 3) (by omega) (by omega)) d_law_294 ?_
    refine lv_eqi (y := xs (5 * k + 3)) (by rw [nI_clamp (by omega)]) ?_
    refine lv_aload_n hx hb d_law_295 rfl (lv_at hl 2 rfl) ?_
    refine lv_iload hx hb d_law_296 (lv_at hl 1 rfl) ?_
    refine lv_iconst (v := 4) hx hb d_law_298 (by decide) ?_
    refine lv_iadd (x := (nI (5 * k))) (y := 4) hx hb d_law_299 ?_
    refine lv_eqi (y := (nI (5 * k + 4))) (nI_add (5 * k) 4) ?_
    refine va_sld hx hb hXb hbl (Nat.not_le.mpr hbl) hS (show vp_in (nI (5 * k + 4)) L from vp_in_nI (n := 5 * k + 4) (by omega) (by omega)) d_law_300 ?_
    refine lv_eqi (y := xs (5 * k + 4)) (by rw [nI_clamp (by omega)]) ?_
    refine h_calli (va_runV (As := [.int (xs (5 * k + 1)), .int (xs (5 * k + 2)), .int (xs (5 * k + 3)), .int (xs (5 * k + 4))]) (rest := []) ⟨hx, hb, hml, hown, htg⟩ (c_Md_variant l D cs s.heap.size H1 xm gm i f ((xs (5 * k + 1))) ((xs (5 * k + 2))) ((xs (5 * k + 3))) ((xs (5 * k + 4))) hsm.1 hMd1 (z 3 0) hrel.nam hrel.bnd.2.2.1 (z 1 0) hrel.pad.1 hrel.bnd.2.1 (mnF z) hrel.wf.1) ⟨x_cwB 4 htg (gw_mem (i := 1107) (by decide +kernel) rfl) (gw_mem (i := 38) (by decide +kernel) rfl) (gw_mem (i := 1104) (by decide +kernel) rfl) (by decide +kernel) ⟨Nat.le_of_ble_eq_true rfl, Nat.le_of_ble_eq_true rfl⟩, htg _ (gw_mem (i := 1105) (by decide +kernel) rfl), htg _ (gw_mem (i := 1106) (by decide +kernel) rfl)⟩ ⟨hPre.blind, hx_recv hK (ci := 0) rfl hMd1.1, hPre.at hB hS1 (fun _ h9 => h9)⟩ rfl rfl hl.1 rfl (lv_room (Nat.le_of_ble_eq_true rfl)) d_law_301 ⟨by show _ ≤ 601024; omega, by show _ ≤ 7293034; omega⟩) hS1 hsm.1.A (fun r9 H2 locs2 hm hz2 hk2 hS2 => ?_)
    have hS := hS2
    obtain ⟨hw, o', z', K', r', i', f', hn, hrr, hmd, hi0, hrel2, ho0⟩ := gl_variant (N := H.size) hI hrel hpc hm
    obtain ⟨c1, c2, c3⟩ := hLS0.cls hn hrr hkk hfr
    have hLS2 := lwS.mdl c1 c3 hout1 hk2 hmd hrel2
    refine lv_istore (lv' := [(6, .int r9), (5, .int 0), (4, .int (nI (5 * k))), (0, .ref b), (1, .ref (o 0 0)), (2, .ref xm), (3, .ref out)]) hx hb d_law_304 hl (by decide) rfl (fun ls hl => ?_)
    refine lv_aload_n hx hb d_law_306 rfl (lv_at hl 5 rfl) ?_
    refine h_calli (va_runV (As := []) (rest := []) ⟨hx, hb, hml, hown, htg⟩ (c_Md_thrown l D cs s.heap.size H2 xm gm i' f' hsm.1 hmd) ⟨x_cwB 0 htg (gw_mem (i := 1087) (by decide +kernel) rfl) (gw_mem (i := 38) (by decide +kernel) rfl) (gw_mem (i := 1084) (by decide +kernel) rfl) (by decide +kernel) ⟨Nat.le_of_ble_eq_true rfl, Nat.le_of_ble_eq_true rfl⟩, htg _ (gw_mem (i := 1085) (by decide +kernel) rfl), htg _ (gw_mem (i := 1086) (by decide +kernel) rfl)⟩ ⟨hPre.blind, hx_recv hK (ci := 0) rfl hmd.1, hPre.at hB hS2 (fun _ h9 => h9)⟩ rfl rfl hl.1 rfl (lv_room (Nat.le_of_ble_eq_true rfl)) d_law_307 ⟨by show _ ≤ 601024; omega, by show _ ≤ 7293034; omega⟩) hS2 hsm.1.A (fun r3 H3 locs3 hm3 hz3 hk3 hS3 => ?_)
    obtain ⟨hmd3, hr3⟩ := hm3
    have hLS3 := lwS.mdl hLS2.1 hLS2.2.2.1 hLS2.2.2.2.1 hk3 hmd3 hrel2
    rw [hi0] at hr3
    subst hr3
    refine lv_iload hx hb d_law_310 (lv_at hl 1 rfl) ?_
    refine lv_icmp_eq (tgt := 317) hx hb d_law_312 (by decide) (fun _ => ?_) (fun h9 => absurd rfl h9)
    refine lv_iload hx hb d_law_317 (lv_at hl 1 rfl) ?_
    refine lv_if_ne (tgt := 334) hx hb d_law_319 (by decide) (fun h9 => absurd rfl h9) (fun _ => ?_)
    refine lv_aload_n hx hb d_law_322 rfl (lv_at hl 6 rfl) ?_
    refine lv_iconst (v := 0) hx hb d_law_323 (by decide) ?_
    refine hx_lald hx hb hK 3 hLS3.2.2.2.1 rfl (show vp_in 0 1 from vp_in_nI (n := 0) (by decide) (by decide)) d_law_324 ?_
    refine lv_eqv (y := .long (wv.toInt64)) (show Value.long (vp_updL gl 0 wv.toInt64 0) = _ by rw [updL_self]) ?_
    subst hw
    refine lv_iload hx hb d_law_325 (lv_at hl 0 rfl) ?_
    refine lv_i2l (v := wv.toInt64) hx hb d_law_327 rfl ?_
    skip
    refine W.lcmp hx hb d_law_328 ?_
    refine lv_eqi (y := 0) (lcx _) ?_
    refine lv_if_eq (x := 0) (tgt := 334) hx hb d_law_329 (by decide) (fun _ => ?_) (fun h9 => absurd rfl h9)
    refine lv_goto (tgt := 1391) hx hb d_law_334 (by decide) ?_
    refine W.widen (k := 40 + 10 * (k + 1)) (n := 6000 + 300 * (k + 1)) (by omega) (by omega) ?_
    exact kk _ _ _ ⟨o', z', K', r', i', f', _, ho0, hLS3⟩ hS3 (lv_sub hl [2, 3, 4, 5, 6] rfl)
  · subst hv
    obtain ⟨G9, hG9⟩ : ∃ y, y = goV (isN (z 3 0) ((xs (5 * k + 1)))) (isN (z 3 0) ((xs (5 * k + 1))) && !decide (4 ≤ z 11 (tn ((xs (5 * k + 1))))) && !decide (z 1 0 ≤ 0)) (!decide (((xs (5 * k + 2))) < 0) && !decide (6 ≤ ((xs (5 * k + 2)))) && daysB ((xs (5 * k + 3))) ((xs (5 * k + 4)))) := ⟨_, rfl⟩
    have hG0 := hG
    rw [← hG9] at hG ⊢
    refine W.eq (g2 := F0 m 274 ls [.int G9]) rfl ?_
    have hLS1 := hLS0.same hfr
    have hMd1 := hLS1.2.1
    clear hS
    have hS := hS1
    refine lv_istore (lv' := [(5, .int G9), (4, .int (nI (5 * k))), (0, .ref b), (1, .ref (o 0 0)), (2, .ref xm), (3, .ref out)]) hx hb d_law_274 hl (by decide) rfl (fun ls hl => ?_)
    refine lv_aload_n hx hb d_law_276 rfl (lv_at hl 4 rfl) ?_
    refine lv_aload_n hx hb d_law_277 rfl (lv_at hl 2 rfl) ?_
    refine lv_iload hx hb d_law_278 (lv_at hl 1 rfl) ?_
    refine lv_iconst (v := 1) hx hb d_law_280 (by decide) ?_
    refine lv_iadd (x := (nI (5 * k))) (y := 1) hx hb d_law_281 ?_
    refine lv_eqi (y := (nI (5 * k + 1))) (nI_add (5 * k) 1) ?_
    refine va_sld hx hb hXb hbl (Nat.not_le.mpr hbl) hS (show vp_in (nI (5 * k + 1)) L from vp_in_nI (n := 5 * k + 1) (by omega) (by omega)) d_law_282 ?_
    refine lv_eqi (y := xs (5 * k + 1)) (by rw [nI_clamp (by omega)]) ?_
    refine lv_aload_n hx hb d_law_283 rfl (lv_at hl 2 rfl) ?_
    refine lv_iload hx hb d_law_284 (lv_at hl 1 rfl) ?_
    refine lv_iconst (v := 2) hx hb d_law_286 (by decide) ?_
    refine lv_iadd (x := (nI (5 * k))) (y := 2) hx hb d_law_287 ?_
    refine lv_eqi (y := (nI (5 * k + 2))) (nI_add (5 * k) 2) ?_
    refine va_sld hx hb hXb hbl (Nat.not_le.mpr hbl) hS (show vp_in (nI (5 * k + 2)) L from vp_in_nI (n := 5 * k + 2) (by omega) (by omega)) d_law_288 ?_
    refine lv_eqi (y := xs (5 * k + 2)) (by rw [nI_clamp (by omega)]) ?_
    refine lv_aload_n hx hb d_law_289 rfl (lv_at hl 2 rfl) ?_
    refine lv_iload hx hb d_law_290 (lv_at hl 1 rfl) ?_
    refine lv_iconst (v := 3) hx hb d_law_292 (by decide) ?_
    refine lv_iadd (x := (nI (5 * k))) (y := 3) hx hb d_law_293 ?_
    refine lv_eqi (y := (nI (5 * k + 3))) (nI_add (5 * k) 3) ?_
    refine va_sld hx hb hXb hbl (Nat.not_le.mpr hbl) hS (show vp_in (nI (5 * k + 3)) L from vp_in_nI (n := 5 * k + 3) (by omega) (by omega)) d_law_294 ?_
    refine lv_eqi (y := xs (5 * k + 3)) (by rw [nI_clamp (by omega)]) ?_
    refine lv_aload_n hx hb d_law_295 rfl (lv_at hl 2 rfl) ?_
    refine lv_iload hx hb d_law_296 (lv_at hl 1 rfl) ?_
    refine lv_iconst (v := 4) hx hb d_law_298 (by decide) ?_
    refine lv_iadd (x := (nI (5 * k))) (y := 4) hx hb d_law_299 ?_
    refine lv_eqi (y := (nI (5 * k + 4))) (nI_add (5 * k) 4) ?_
    refine va_sld hx hb hXb hbl (Nat.not_le.mpr hbl) hS (show vp_in (nI (5 * k + 4)) L from vp_in_nI (n := 5 * k + 4) (by omega) (by omega)) d_law_300 ?_
    refine lv_eqi (y := xs (5 * k + 4)) (by rw [nI_clamp (by omega)]) ?_
    refine h_calli (va_runV (As := [.int (xs (5 * k + 1)), .int (xs (5 * k + 2)), .int (xs (5 * k + 3)), .int (xs (5 * k + 4))]) (rest := []) ⟨hx, hb, hml, hown, htg⟩ (c_Md_variant l D cs s.heap.size H1 xm gm i f ((xs (5 * k + 1))) ((xs (5 * k + 2))) ((xs (5 * k + 3))) ((xs (5 * k + 4))) hsm.1 hMd1 (z 3 0) hrel.nam hrel.bnd.2.2.1 (z 1 0) hrel.pad.1 hrel.bnd.2.1 (mnF z) hrel.wf.1) ⟨x_cwB 4 htg (gw_mem (i := 1107) (by decide +kernel) rfl) (gw_mem (i := 38) (by decide +kernel) rfl) (gw_mem (i := 1104) (by decide +kernel) rfl) (by decide +kernel) ⟨Nat.le_of_ble_eq_true rfl, Nat.le_of_ble_eq_true rfl⟩, htg _ (gw_mem (i := 1105) (by decide +kernel) rfl), htg _ (gw_mem (i := 1106) (by decide +kernel) rfl)⟩ ⟨hPre.blind, hx_recv hK (ci := 0) rfl hMd1.1, hPre.at hB hS1 (fun _ h9 => h9)⟩ rfl rfl hl.1 rfl (lv_room (Nat.le_of_ble_eq_true rfl)) d_law_301 ⟨by show _ ≤ 601024; omega, by show _ ≤ 7293034; omega⟩) hS1 hsm.1.A (fun r9 H2 locs2 hm hz2 hk2 hS2 => ?_)
    have hS := hS2
    obtain ⟨i', f', hmd, hi0, hrel2⟩ := gx_variant hrel hG0 hm
    have hLS2 := lwS.mdl hLS1.1 hsm hout1 hk2 hmd hrel2
    refine lv_istore (lv' := [(6, .int r9), (5, .int G9), (4, .int (nI (5 * k))), (0, .ref b), (1, .ref (o 0 0)), (2, .ref xm), (3, .ref out)]) hx hb d_law_304 hl (by decide) rfl (fun ls hl => ?_)
    refine lv_aload_n hx hb d_law_306 rfl (lv_at hl 5 rfl) ?_
    refine h_calli (va_runV (As := []) (rest := []) ⟨hx, hb, hml, hown, htg⟩ (c_Md_thrown l D cs s.heap.size H2 xm gm i' f' hsm.1 hmd) ⟨x_cwB 0 htg (gw_mem (i := 1087) (by decide +kernel) rfl) (gw_mem (i := 38) (by decide +kernel) rfl) (gw_mem (i := 1084) (by decide +kernel) rfl) (by decide +kernel) ⟨Nat.le_of_ble_eq_true rfl, Nat.le_of_ble_eq_true rfl⟩, htg _ (gw_mem (i := 1085) (by decide +kernel) rfl), htg _ (gw_mem (i := 1086) (by decide +kernel) rfl)⟩ ⟨hPre.blind, hx_recv hK (ci := 0) rfl hmd.1, hPre.at hB hS2 (fun _ h9 => h9)⟩ rfl rfl hl.1 rfl (lv_room (Nat.le_of_ble_eq_true rfl)) d_law_307 ⟨by show _ ≤ 601024; omega, by show _ ≤ 7293034; omega⟩) hS2 hsm.1.A (fun r3 H3 locs3 hm3 hz3 hk3 hS3 => ?_)
    obtain ⟨hmd3, hr3⟩ := hm3
    have hLS3 := lwS.mdl hLS2.1 hLS2.2.2.1 hLS2.2.2.2.1 hk3 hmd3 hrel2
    rw [hi0, ← hG9] at hr3
    subst hr3
    refine lv_iload hx hb d_law_310 (lv_at hl 1 rfl) ?_
    refine lv_icmp_eq (tgt := 317) hx hb d_law_312 (by decide) (fun _ => ?_) (fun h9 => absurd rfl h9)
    refine lv_iload hx hb d_law_317 (lv_at hl 1 rfl) ?_
    refine lv_if_ne (tgt := 334) hx hb d_law_319 (by decide) (fun _ => ?_) (fun h9 => absurd h9 (by simpa using hG))
    refine lv_goto (tgt := 1391) hx hb d_law_334 (by decide) ?_
    refine W.widen (k := 40 + 10 * (k + 1)) (n := 6000 + 300 * (k + 1)) (by omega) (by omega) ?_
    exact kk _ _ _ ⟨o, z, K, r, i', f', _, rfl, hLS3⟩ hS3 (lv_sub hl [2, 3, 4, 5, 6] rfl)
theorem d_law_337 : decode code 337 = .ok (.aload_n 1, 1) := by decide +kernel
theorem d_law_338 : decode code 338 = .ok (.aload_n 0, 1) := by decide +kernel
theorem d_law_339 : decode code 339 = .ok (.iload 4, 2) := by decide +kernel
theorem d_law_341 : decode code 341 = .ok (.iconst 1, 1) := by decide +kernel
theorem d_law_342 : decode code 342 = .ok (.iadd, 1) := by decide +kernel
theorem d_law_343 : decode code 343 = .ok (.iaload, 1) := by decide +kernel
theorem d_law_344 : decode code 344 = .ok (.aload_n 0, 1) := by decide +kernel
theorem d_law_345 : decode code 345 = .ok (.iload 4, 2) := by decide +kernel
theorem d_law_347 : decode code 347 = .ok (.iconst 2, 1) := by decide +kernel
theorem d_law_348 : decode code 348 = .ok (.iadd, 1) := by decide +kernel
theorem d_law_349 : decode code 349 = .ok (.iaload, 1) := by decide +kernel
theorem d_law_350 : decode code 350 = .ok (.aload_n 0, 1) := by decide +kernel
theorem d_law_351 : decode code 351 = .ok (.iload 4, 2) := by decide +kernel
theorem d_law_353 : decode code 353 = .ok (.iconst 3, 1) := by decide +kernel
theorem d_law_354 : decode code 354 = .ok (.iadd, 1) := by decide +kernel
theorem d_law_355 : decode code 355 = .ok (.iaload, 1) := by decide +kernel
theorem d_law_356 : decode code 356 = .ok (.aload_n 3, 1) := by decide +kernel
theorem d_law_357 : decode code 357 = .ok (.invokestatic 98, 3) := by decide +kernel
theorem d_law_360 : decode code 360 = .ok (.istore 5, 2) := by decide +kernel
theorem d_law_362 : decode code 362 = .ok (.aload_n 2, 1) := by decide +kernel
theorem d_law_363 : decode code 363 = .ok (.aload_n 0, 1) := by decide +kernel
theorem d_law_364 : decode code 364 = .ok (.iload 4, 2) := by decide +kernel
theorem d_law_366 : decode code 366 = .ok (.iconst 1, 1) := by decide +kernel
theorem d_law_367 : decode code 367 = .ok (.iadd, 1) := by decide +kernel
theorem d_law_368 : decode code 368 = .ok (.iaload, 1) := by decide +kernel
theorem d_law_369 : decode code 369 = .ok (.aload_n 0, 1) := by decide +kernel
theorem d_law_370 : decode code 370 = .ok (.iload 4, 2) := by decide +kernel
theorem d_law_372 : decode code 372 = .ok (.iconst 2, 1) := by decide +kernel
theorem d_law_373 : decode code 373 = .ok (.iadd, 1) := by decide +kernel
theorem d_law_374 : decode code 374 = .ok (.iaload, 1) := by decide +kernel
theorem d_law_375 : decode code 375 = .ok (.aload_n 0, 1) := by decide +kernel
theorem d_law_376 : decode code 376 = .ok (.iload 4, 2) := by decide +kernel
theorem d_law_378 : decode code 378 = .ok (.iconst 3, 1) := by decide +kernel
theorem d_law_379 : decode code 379 = .ok (.iadd, 1) := by decide +kernel
theorem d_law_380 : decode code 380 = .ok (.iaload, 1) := by decide +kernel
theorem d_law_381 : decode code 381 = .ok (.invokevirtual 101, 3) := by decide +kernel
theorem d_law_384 : decode code 384 = .ok (.istore 6, 2) := by decide +kernel
theorem d_law_386 : decode code 386 = .ok (.aload_n 2, 1) := by decide +kernel
theorem d_law_387 : decode code 387 = .ok (.invokevirtual 83, 3) := by decide +kernel
theorem d_law_390 : decode code 390 = .ok (.iload 5, 2) := by decide +kernel
theorem d_law_392 : decode code 392 = .ok (.if_icmp .eq 5, 3) := by decide +kernel
theorem d_law_397 : decode code 397 = .ok (.iload 5, 2) := by decide +kernel
theorem d_law_399 : decode code 399 = .ok (.ifCond .ne 22, 3) := by decide +kernel
theorem d_law_402 : decode code 402 = .ok (.aload_n 3, 1) := by decide +kernel
theorem d_law_403 : decode code 403 = .ok (.iconst 0, 1) := by decide +kernel
theorem d_law_404 : decode code 404 = .ok (.laload, 1) := by decide +kernel
theorem d_law_405 : decode code 405 = .ok (.iload 6, 2) := by decide +kernel
theorem d_law_407 : decode code 407 = .ok (.ifCond .eq 7, 3) := by decide +kernel
theorem d_law_410 : decode code 410 = .ok (.lconst 1, 1) := by decide +kernel
theorem d_law_411 : decode code 411 = .ok (.goto 4, 3) := by decide +kernel
theorem d_law_414 : decode code 414 = .ok (.lconst 0, 1) := by decide +kernel
theorem d_law_415 : decode code 415 = .ok (.lcmp, 1) := by decide +kernel
theorem d_law_416 : decode code 416 = .ok (.ifCond .eq 5, 3) := by decide +kernel
theorem d_law_421 : decode code 421 = .ok (.goto 970, 3) := by decide +kernel
set_option maxHeartbeats 4000000 in
set_option maxRecDepth 100000 in
theorem lc_dates {p : Program} {l : Launch} {e : Env} {s : State} {m : MethodId} {below : List Frame} {meth : Method} {c : Code} {H : Heap} {locs : List Loc} {b L : Nat} {xs : Nat → Int32} {D : va_G} {cs : Nat → ClassId} {x xm out k : Nat} {gm : Nat → Nat} {ls : Array Slot} {Q9 : State → Prop} (C : lawC p s m c b L xs D cs l) (hk9 : 5 * k + 5 ≤ L) (hX : lwX D cs s.heap.size H x xm gm out) (hS : va_S (lwA s.heap.size) s.heap H locs) (hl : lv_has ls 7 [(4, .int (nI (5 * k))), (0, .ref b), (1, .ref x), (2, .ref xm), (3, .ref out)])
    (kk : ∀ (H3 : Heap) (locs3 : List Loc) (ls3 : Array Slot), lwX D cs s.heap.size H3 x xm gm out → va_S (lwA s.heap.size) s.heap H3 locs3 → lv_has ls3 7 [(4, .int (nI (5 * k))), (0, .ref b), (1, .ref x), (2, .ref xm), (3, .ref out)] → W p l e room_1 s m #[Value.ref b] below meth c H3 locs3 (40 + 10 * (k + 1)) (6000 + 300 * (k + 1)) Q9 (F0 m 1391 ls3 [])) :
    W p l e room_1 s m #[Value.ref b] below meth c H locs (40 + 10 * k) (6000 + 300 * k) Q9 (F0 m 337 ls []) := by
  obtain ⟨hx, hb, hml, hown, hts, hXb, hbl, hl9, hB, hL⟩ := C
  have htg : ∀ w ∈ gw, w.before #[Value.ref b] s = true := fun w h => hts w (List.mem_filter.mp h).1
  have hK := hB.1
  obtain ⟨o, z, K, r, i, f, gl, hox, hLS⟩ := hX
  subst hox
  have hLS0 := hLS
  obtain ⟨hI, hMd, hsm, hout, hrel⟩ := hLS
  have hz0 := hS.1
  refine lv_aload_n hx hb d_law_337 rfl (lv_at hl 2 rfl) ?_
  refine lv_aload_n hx hb d_law_338 rfl (lv_at hl 1 rfl) ?_
  refine lv_iload hx hb d_law_339 (lv_at hl 0 rfl) ?_
  refine lv_iconst (v := 1) hx hb d_law_341 (by decide) ?_
  refine lv_iadd (x := (nI (5 * k))) (y := 1) hx hb d_law_342 ?_
  refine lv_eqi (y := (nI (5 * k + 1))) (nI_add (5 * k) 1) ?_
  refine va_sld hx hb hXb hbl (Nat.not_le.mpr hbl) hS (show vp_in (nI (5 * k + 1)) L from vp_in_nI (n := 5 * k + 1) (by omega) (by omega)) d_law_343 ?_
  refine lv_eqi (y := xs (5 * k + 1)) (by rw [nI_clamp (by omega)]) ?_
  refine lv_aload_n hx hb d_law_344 rfl (lv_at hl 1 rfl) ?_
  refine lv_iload hx hb d_law_345 (lv_at hl 0 rfl) ?_
  refine lv_iconst (v := 2) hx hb d_law_347 (by decide) ?_
  refine lv_iadd (x := (nI (5 * k))) (y := 2) hx hb d_law_348 ?_
  refine lv_eqi (y := (nI (5 * k + 2))) (nI_add (5 * k) 2) ?_
  refine va_sld hx hb hXb hbl (Nat.not_le.mpr hbl) hS (show vp_in (nI (5 * k + 2)) L from vp_in_nI (n := 5 * k + 2) (by omega) (by omega)) d_law_349 ?_
  refine lv_eqi (y := xs (5 * k + 2)) (by rw [nI_clamp (by omega)]) ?_
  refine lv_aload_n hx hb d_law_350 rfl (lv_at hl 1 rfl) ?_
  refine lv_iload hx hb d_law_351 (lv_at hl 0 rfl) ?_
  refine lv_iconst (v := 3) hx hb d_law_353 (by decide) ?_
  refine lv_iadd (x := (nI (5 * k))) (y := 3) hx hb d_law_354 ?_
  refine lv_eqi (y := (nI (5 * k + 3))) (nI_add (5 * k) 3) ?_
  refine va_sld hx hb hXb hbl (Nat.not_le.mpr hbl) hS (show vp_in (nI (5 * k + 3)) L from vp_in_nI (n := 5 * k + 3) (by omega) (by omega)) d_law_355 ?_
  refine lv_eqi (y := xs (5 * k + 3)) (by rw [nI_clamp (by omega)]) ?_
  refine lv_aload_n hx hb d_law_356 rfl (lv_at hl 4 rfl) ?_
  refine t_SW (n := 5) (As := [.ref (o 0 0), .int (xs (5 * k + 1)), .int (xs (5 * k + 2)), .int (xs (5 * k + 3)), .ref out]) (rest := []) ⟨hx, hb, hml, hown, htg⟩ (c_Lw_dates l D cs s.heap.size H hl9 o z K r H.size out gl ((xs (5 * k + 1))) ((xs (5 * k + 2))) ((xs (5 * k + 3))) hI rfl hout hsm.2.2.1 hsm.2.2.2.2) (lw_ws (hts _ (List.mem_of_getElem? (i := 805) (by decide +kernel))) rfl htg) List.mem_cons_self (hts _ (List.mem_of_getElem? (i := 805) (by decide +kernel))) (htg _ (gw_mem (i := 29) (by decide +kernel) rfl)) (by decide +kernel) (htg _ (gw_mem (i := 803) (by decide +kernel) rfl)) (htg _ (gw_mem (i := 804) (by decide +kernel) rfl)) ⟨hPre.blind, hPre.at hB hS (fun _ h9 => h9)⟩ rfl hl.1 rfl (lv_room (Nat.le_of_ble_eq_true rfl)) d_law_357 ⟨by show _ ≤ 601024; omega, by show _ ≤ 7293034; omega⟩ rfl rfl ⟨Nat.le_of_ble_eq_true rfl, Nat.le_of_ble_eq_true rfl⟩ (fun v9 H1 L9 hL9 hp9 hz9 hkk => ?_)
  have hS1 : va_S (lwA s.heap.size) s.heap H1 (locs ++ L9) := x_app hS hz9 (fun q h1 h2 => hkk q h1 (fun h => h2 (lw_sub hI hz0 hsm.2.2.2.2 h))) (fun q hq => lw_sub hI hz0 hsm.2.2.2.2 (hL9 q hq))
  have hz1 := hS1.1
  rcases hp9 with ⟨hv, wv, Hc, hpc, hout1, hsz, hfr⟩ | ⟨hv, hG, hout1, hsz, hfr⟩
  · subst hv
    refine W.eq (g2 := F0 m 360 ls [.int 0]) rfl ?_
    have hMd1 : md_I D cs H1 xm gm i f := hMd.keepA (fun q hq => hkk q (hMd.lt hq) (lw_not hsm hq (hMd.lt hq)))
    clear hS
    have hS := hS1
    refine lv_istore (lv' := [(5, .int 0), (4, .int (nI (5 * k))), (0, .ref b), (1, .ref (o 0 0)), (2, .ref xm), (3, .ref out)]) hx hb d_law_360 hl (by decide) rfl (fun ls hl => ?_)
    refine lv_aload_n hx hb d_law_362 rfl (lv_at hl 4 rfl) ?_
    refine lv_aload_n hx hb d_law_363 rfl (lv_at hl 2 rfl) ?_
    refine lv_iload hx hb d_law_364 (lv_at hl 1 rfl) ?_
    refine lv_iconst (v := 1) hx hb d_law_366 (by decide) ?_
    refine lv_iadd (x := (nI (5 * k))) (y := 1) hx hb d_law_367 ?_
    refine lv_eqi (y := (nI (5 * k + 1))) (nI_add (5 * k) 1) ?_
    refine va_sld hx hb hXb hbl (Nat.not_le.mpr hbl) hS (show vp_in (nI (5 * k + 1)) L from vp_in_nI (n := 5 * k + 1) (by omega) (by omega)) d_law_368 ?_
    refine lv_eqi (y := xs (5 * k + 1)) (by rw [nI_clamp (by omega)]) ?_
    refine lv_aload_n hx hb d_law_369 rfl (lv_at hl 2 rfl) ?_
    refine lv_iload hx hb d_law_370 (lv_at hl 1 rfl) ?_
    refine lv_iconst (v := 2) hx hb d_law_372 (by decide) ?_
    refine lv_iadd (x := (nI (5 * k))) (y := 2) hx hb d_law_373 ?_
    refine lv_eqi (y := (nI (5 * k + 2))) (nI_add (5 * k) 2) ?_
    refine va_sld hx hb hXb hbl (Nat.not_le.mpr hbl) hS (show vp_in (nI (5 * k + 2)) L from vp_in_nI (n := 5 * k + 2) (by omega) (by omega)) d_law_374 ?_
    refine lv_eqi (y := xs (5 * k + 2)) (by rw [nI_clamp (by omega)]) ?_
    refine lv_aload_n hx hb d_law_375 rfl (lv_at hl 2 rfl) ?_
    refine lv_iload hx hb d_law_376 (lv_at hl 1 rfl) ?_
    refine lv_iconst (v := 3) hx hb d_law_378 (by decide) ?_
    refine lv_iadd (x := (nI (5 * k))) (y := 3) hx hb d_law_379 ?_
    refine lv_eqi (y := (nI (5 * k + 3))) (nI_add (5 * k) 3) ?_
    refine va_sld hx hb hXb hbl (Nat.not_le.mpr hbl) hS (show vp_in (nI (5 * k + 3)) L from vp_in_nI (n := 5 * k + 3) (by omega) (by omega)) d_law_380 ?_
    refine lv_eqi (y := xs (5 * k + 3)) (by rw [nI_clamp (by omega)]) ?_
    refine h_calli (va_runV (As := [.int (xs (5 * k + 1)), .int (xs (5 * k + 2)), .int (xs (5 * k + 3))]) (rest := []) ⟨hx, hb, hml, hown, htg⟩ (c_Md_dates l D cs s.heap.size H1 xm gm i f ((xs (5 * k + 1))) ((xs (5 * k + 2))) ((xs (5 * k + 3))) hsm.1 hMd1 (z 3 0) hrel.nam hrel.bnd.2.2.1) ⟨x_cwB 3 htg (gw_mem (i := 1119) (by decide +kernel) rfl) (gw_mem (i := 38) (by decide +kernel) rfl) (gw_mem (i := 1116) (by decide +kernel) rfl) (by decide +kernel) ⟨Nat.le_of_ble_eq_true rfl, Nat.le_of_ble_eq_true rfl⟩, htg _ (gw_mem (i := 1117) (by decide +kernel) rfl), htg _ (gw_mem (i := 1118) (by decide +kernel) rfl)⟩ ⟨hPre.blind, hx_recv hK (ci := 0) rfl hMd1.1, hPre.at hB hS1 (fun _ h9 => h9)⟩ rfl rfl hl.1 rfl (lv_room (Nat.le_of_ble_eq_true rfl)) d_law_381 ⟨by show _ ≤ 601024; omega, by show _ ≤ 7293034; omega⟩) hS1 hsm.1.A (fun r9 H2 locs2 hm hz2 hk2 hS2 => ?_)
    have hS := hS2
    obtain ⟨hw, o', z', K', r', i', f', hn, hrr, hmd, hi0, hrel2, ho0⟩ := gl_dates (N := H.size) hI hrel hpc hm
    obtain ⟨c1, c2, c3⟩ := hLS0.cls hn hrr hkk hfr
    have hLS2 := lwS.mdl c1 c3 hout1 hk2 hmd hrel2
    refine lv_istore (lv' := [(6, .int r9), (5, .int 0), (4, .int (nI (5 * k))), (0, .ref b), (1, .ref (o 0 0)), (2, .ref xm), (3, .ref out)]) hx hb d_law_384 hl (by decide) rfl (fun ls hl => ?_)
    refine lv_aload_n hx hb d_law_386 rfl (lv_at hl 5 rfl) ?_
    refine h_calli (va_runV (As := []) (rest := []) ⟨hx, hb, hml, hown, htg⟩ (c_Md_thrown l D cs s.heap.size H2 xm gm i' f' hsm.1 hmd) ⟨x_cwB 0 htg (gw_mem (i := 1087) (by decide +kernel) rfl) (gw_mem (i := 38) (by decide +kernel) rfl) (gw_mem (i := 1084) (by decide +kernel) rfl) (by decide +kernel) ⟨Nat.le_of_ble_eq_true rfl, Nat.le_of_ble_eq_true rfl⟩, htg _ (gw_mem (i := 1085) (by decide +kernel) rfl), htg _ (gw_mem (i := 1086) (by decide +kernel) rfl)⟩ ⟨hPre.blind, hx_recv hK (ci := 0) rfl hmd.1, hPre.at hB hS2 (fun _ h9 => h9)⟩ rfl rfl hl.1 rfl (lv_room (Nat.le_of_ble_eq_true rfl)) d_law_387 ⟨by show _ ≤ 601024; omega, by show _ ≤ 7293034; omega⟩) hS2 hsm.1.A (fun r3 H3 locs3 hm3 hz3 hk3 hS3 => ?_)
    obtain ⟨hmd3, hr3⟩ := hm3
    have hLS3 := lwS.mdl hLS2.1 hLS2.2.2.1 hLS2.2.2.2.1 hk3 hmd3 hrel2
    rw [hi0] at hr3
    subst hr3
    refine lv_iload hx hb d_law_390 (lv_at hl 1 rfl) ?_
    refine lv_icmp_eq (tgt := 397) hx hb d_law_392 (by decide) (fun _ => ?_) (fun h9 => absurd rfl h9)
    refine lv_iload hx hb d_law_397 (lv_at hl 1 rfl) ?_
    refine lv_if_ne (tgt := 421) hx hb d_law_399 (by decide) (fun h9 => absurd rfl h9) (fun _ => ?_)
    refine lv_aload_n hx hb d_law_402 rfl (lv_at hl 6 rfl) ?_
    refine lv_iconst (v := 0) hx hb d_law_403 (by decide) ?_
    refine hx_lald hx hb hK 3 hLS3.2.2.2.1 rfl (show vp_in 0 1 from vp_in_nI (n := 0) (by decide) (by decide)) d_law_404 ?_
    refine lv_eqv (y := .long (if wv = 0 then 0 else 1)) (show Value.long (vp_updL gl 0 (if wv = 0 then 0 else 1) 0) = _ by rw [updL_self]) ?_
    subst hw
    refine lv_iload hx hb d_law_405 (lv_at hl 0 rfl) ?_
    refine lv_if_eq (x := wv) (tgt := 414) hx hb d_law_407 (by decide) (fun hc0 => ?_) (fun hc0 => ?_)
    · rw [if_pos hc0]
      refine lv_lconst (v := 0) hx hb d_law_414 rfl ?_
      refine W.lcmp hx hb d_law_415 ?_
      refine lv_eqi (y := 0) (lcx _) ?_
      refine lv_if_eq (x := 0) (tgt := 421) hx hb d_law_416 (by decide) (fun _ => ?_) (fun h9 => absurd rfl h9)
      refine lv_goto (tgt := 1391) hx hb d_law_421 (by decide) ?_
      refine W.widen (k := 40 + 10 * (k + 1)) (n := 6000 + 300 * (k + 1)) (by omega) (by omega) ?_
      exact kk _ _ _ ⟨o', z', K', r', i', f', _, ho0, hLS3⟩ hS3 (lv_sub hl [2, 3, 4, 5, 6] rfl)
    · rw [if_neg hc0]
      refine lv_lconst (v := 1) hx hb d_law_410 rfl ?_
      refine lv_goto (tgt := 415) hx hb d_law_411 (by decide) ?_
      refine W.lcmp hx hb d_law_415 ?_
      refine lv_eqi (y := 0) (lcx _) ?_
      refine lv_if_eq (x := 0) (tgt := 421) hx hb d_law_416 (by decide) (fun _ => ?_) (fun h9 => absurd rfl h9)
      refine lv_goto (tgt := 1391) hx hb d_law_421 (by decide) ?_
      refine W.widen (k := 40 + 10 * (k + 1)) (n := 6000 + 300 * (k + 1)) (by omega) (by omega) ?_
      exact kk _ _ _ ⟨o', z', K', r', i', f', _, ho0, hLS3⟩ hS3 (lv_sub hl [2, 3, 4, 5, 6] rfl)
  · subst hv
    obtain ⟨G9, hG9⟩ : ∃ y, y = goV (isN (z 3 0) ((xs (5 * k + 1)))) (daysB ((xs (5 * k + 2))) ((xs (5 * k + 3)))) true := ⟨_, rfl⟩
    have hG0 := hG
    rw [← hG9] at hG ⊢
    refine W.eq (g2 := F0 m 360 ls [.int G9]) rfl ?_
    have hLS1 := hLS0.same hfr
    have hMd1 := hLS1.2.1
    clear hS
    have hS := hS1
    refine lv_istore (lv' := [(5, .int G9), (4, .int (nI (5 * k))), (0, .ref b), (1, .ref (o 0 0)), (2, .ref xm), (3, .ref out)]) hx hb d_law_360 hl (by decide) rfl (fun ls hl => ?_)
    refine lv_aload_n hx hb d_law_362 rfl (lv_at hl 4 rfl) ?_
    refine lv_aload_n hx hb d_law_363 rfl (lv_at hl 2 rfl) ?_
    refine lv_iload hx hb d_law_364 (lv_at hl 1 rfl) ?_
    refine lv_iconst (v := 1) hx hb d_law_366 (by decide) ?_
    refine lv_iadd (x := (nI (5 * k))) (y := 1) hx hb d_law_367 ?_
    refine lv_eqi (y := (nI (5 * k + 1))) (nI_add (5 * k) 1) ?_
    refine va_sld hx hb hXb hbl (Nat.not_le.mpr hbl) hS (show vp_in (nI (5 * k + 1)) L from vp_in_nI (n := 5 * k + 1) (by omega) (by omega)) d_law_368 ?_
    refine lv_eqi (y := xs (5 * k + 1)) (by rw [nI_clamp (by omega)]) ?_
    refine lv_aload_n hx hb d_law_369 rfl (lv_at hl 2 rfl) ?_
    refine lv_iload hx hb d_law_370 (lv_at hl 1 rfl) ?_
    refine lv_iconst (v := 2) hx hb d_law_372 (by decide) ?_
    refine lv_iadd (x := (nI (5 * k))) (y := 2) hx hb d_law_373 ?_
    refine lv_eqi (y := (nI (5 * k + 2))) (nI_add (5 * k) 2) ?_
    refine va_sld hx hb hXb hbl (Nat.not_le.mpr hbl) hS (show vp_in (nI (5 * k + 2)) L from vp_in_nI (n := 5 * k + 2) (by omega) (by omega)) d_law_374 ?_
    refine lv_eqi (y := xs (5 * k + 2)) (by rw [nI_clamp (by omega)]) ?_
    refine lv_aload_n hx hb d_law_375 rfl (lv_at hl 2 rfl) ?_
    refine lv_iload hx hb d_law_376 (lv_at hl 1 rfl) ?_
    refine lv_iconst (v := 3) hx hb d_law_378 (by decide) ?_
    refine lv_iadd (x := (nI (5 * k))) (y := 3) hx hb d_law_379 ?_
    refine lv_eqi (y := (nI (5 * k + 3))) (nI_add (5 * k) 3) ?_
    refine va_sld hx hb hXb hbl (Nat.not_le.mpr hbl) hS (show vp_in (nI (5 * k + 3)) L from vp_in_nI (n := 5 * k + 3) (by omega) (by omega)) d_law_380 ?_
    refine lv_eqi (y := xs (5 * k + 3)) (by rw [nI_clamp (by omega)]) ?_
    refine h_calli (va_runV (As := [.int (xs (5 * k + 1)), .int (xs (5 * k + 2)), .int (xs (5 * k + 3))]) (rest := []) ⟨hx, hb, hml, hown, htg⟩ (c_Md_dates l D cs s.heap.size H1 xm gm i f ((xs (5 * k + 1))) ((xs (5 * k + 2))) ((xs (5 * k + 3))) hsm.1 hMd1 (z 3 0) hrel.nam hrel.bnd.2.2.1) ⟨x_cwB 3 htg (gw_mem (i := 1119) (by decide +kernel) rfl) (gw_mem (i := 38) (by decide +kernel) rfl) (gw_mem (i := 1116) (by decide +kernel) rfl) (by decide +kernel) ⟨Nat.le_of_ble_eq_true rfl, Nat.le_of_ble_eq_true rfl⟩, htg _ (gw_mem (i := 1117) (by decide +kernel) rfl), htg _ (gw_mem (i := 1118) (by decide +kernel) rfl)⟩ ⟨hPre.blind, hx_recv hK (ci := 0) rfl hMd1.1, hPre.at hB hS1 (fun _ h9 => h9)⟩ rfl rfl hl.1 rfl (lv_room (Nat.le_of_ble_eq_true rfl)) d_law_381 ⟨by show _ ≤ 601024; omega, by show _ ≤ 7293034; omega⟩) hS1 hsm.1.A (fun r9 H2 locs2 hm hz2 hk2 hS2 => ?_)
    have hS := hS2
    obtain ⟨i', f', hmd, hi0, hrel2⟩ := gx_dates hrel hG0 hm
    have hLS2 := lwS.mdl hLS1.1 hsm hout1 hk2 hmd hrel2
    refine lv_istore (lv' := [(6, .int r9), (5, .int G9), (4, .int (nI (5 * k))), (0, .ref b), (1, .ref (o 0 0)), (2, .ref xm), (3, .ref out)]) hx hb d_law_384 hl (by decide) rfl (fun ls hl => ?_)
    refine lv_aload_n hx hb d_law_386 rfl (lv_at hl 5 rfl) ?_
    refine h_calli (va_runV (As := []) (rest := []) ⟨hx, hb, hml, hown, htg⟩ (c_Md_thrown l D cs s.heap.size H2 xm gm i' f' hsm.1 hmd) ⟨x_cwB 0 htg (gw_mem (i := 1087) (by decide +kernel) rfl) (gw_mem (i := 38) (by decide +kernel) rfl) (gw_mem (i := 1084) (by decide +kernel) rfl) (by decide +kernel) ⟨Nat.le_of_ble_eq_true rfl, Nat.le_of_ble_eq_true rfl⟩, htg _ (gw_mem (i := 1085) (by decide +kernel) rfl), htg _ (gw_mem (i := 1086) (by decide +kernel) rfl)⟩ ⟨hPre.blind, hx_recv hK (ci := 0) rfl hmd.1, hPre.at hB hS2 (fun _ h9 => h9)⟩ rfl rfl hl.1 rfl (lv_room (Nat.le_of_ble_eq_true rfl)) d_law_387 ⟨by show _ ≤ 601024; omega, by show _ ≤ 7293034; omega⟩) hS2 hsm.1.A (fun r3 H3 locs3 hm3 hz3 hk3 hS3 => ?_)
    obtain ⟨hmd3, hr3⟩ := hm3
    have hLS3 := lwS.mdl hLS2.1 hLS2.2.2.1 hLS2.2.2.2.1 hk3 hmd3 hrel2
    rw [hi0, ← hG9] at hr3
    subst hr3
    refine lv_iload hx hb d_law_390 (lv_at hl 1 rfl) ?_
    refine lv_icmp_eq (tgt := 397) hx hb d_law_392 (by decide) (fun _ => ?_) (fun h9 => absurd rfl h9)
    refine lv_iload hx hb d_law_397 (lv_at hl 1 rfl) ?_
    refine lv_if_ne (tgt := 421) hx hb d_law_399 (by decide) (fun _ => ?_) (fun h9 => absurd h9 (by simpa using hG))
    refine lv_goto (tgt := 1391) hx hb d_law_421 (by decide) ?_
    refine W.widen (k := 40 + 10 * (k + 1)) (n := 6000 + 300 * (k + 1)) (by omega) (by omega) ?_
    exact kk _ _ _ ⟨o, z, K, r, i', f', _, rfl, hLS3⟩ hS3 (lv_sub hl [2, 3, 4, 5, 6] rfl)
theorem d_law_424 : decode code 424 = .ok (.aload_n 1, 1) := by decide +kernel
theorem d_law_425 : decode code 425 = .ok (.aload_n 0, 1) := by decide +kernel
theorem d_law_426 : decode code 426 = .ok (.iload 4, 2) := by decide +kernel
theorem d_law_428 : decode code 428 = .ok (.iconst 1, 1) := by decide +kernel
theorem d_law_429 : decode code 429 = .ok (.iadd, 1) := by decide +kernel
theorem d_law_430 : decode code 430 = .ok (.iaload, 1) := by decide +kernel
theorem d_law_431 : decode code 431 = .ok (.aload_n 0, 1) := by decide +kernel
theorem d_law_432 : decode code 432 = .ok (.iload 4, 2) := by decide +kernel
theorem d_law_434 : decode code 434 = .ok (.iconst 2, 1) := by decide +kernel
theorem d_law_435 : decode code 435 = .ok (.iadd, 1) := by decide +kernel
theorem d_law_436 : decode code 436 = .ok (.iaload, 1) := by decide +kernel
theorem d_law_437 : decode code 437 = .ok (.aload_n 3, 1) := by decide +kernel
theorem d_law_438 : decode code 438 = .ok (.invokestatic 102, 3) := by decide +kernel
theorem d_law_441 : decode code 441 = .ok (.istore 5, 2) := by decide +kernel
theorem d_law_443 : decode code 443 = .ok (.aload_n 2, 1) := by decide +kernel
theorem d_law_444 : decode code 444 = .ok (.aload_n 0, 1) := by decide +kernel
theorem d_law_445 : decode code 445 = .ok (.iload 4, 2) := by decide +kernel
theorem d_law_447 : decode code 447 = .ok (.iconst 1, 1) := by decide +kernel
theorem d_law_448 : decode code 448 = .ok (.iadd, 1) := by decide +kernel
theorem d_law_449 : decode code 449 = .ok (.iaload, 1) := by decide +kernel
theorem d_law_450 : decode code 450 = .ok (.aload_n 0, 1) := by decide +kernel
theorem d_law_451 : decode code 451 = .ok (.iload 4, 2) := by decide +kernel
theorem d_law_453 : decode code 453 = .ok (.iconst 2, 1) := by decide +kernel
theorem d_law_454 : decode code 454 = .ok (.iadd, 1) := by decide +kernel
theorem d_law_455 : decode code 455 = .ok (.iaload, 1) := by decide +kernel
theorem d_law_456 : decode code 456 = .ok (.invokevirtual 105, 3) := by decide +kernel
theorem d_law_459 : decode code 459 = .ok (.istore 6, 2) := by decide +kernel
theorem d_law_461 : decode code 461 = .ok (.aload_n 2, 1) := by decide +kernel
theorem d_law_462 : decode code 462 = .ok (.invokevirtual 83, 3) := by decide +kernel
theorem d_law_465 : decode code 465 = .ok (.iload 5, 2) := by decide +kernel
theorem d_law_467 : decode code 467 = .ok (.if_icmp .eq 5, 3) := by decide +kernel
theorem d_law_472 : decode code 472 = .ok (.iload 5, 2) := by decide +kernel
theorem d_law_474 : decode code 474 = .ok (.ifCond .ne 15, 3) := by decide +kernel
theorem d_law_477 : decode code 477 = .ok (.aload_n 3, 1) := by decide +kernel
theorem d_law_478 : decode code 478 = .ok (.iconst 0, 1) := by decide +kernel
theorem d_law_479 : decode code 479 = .ok (.laload, 1) := by decide +kernel
theorem d_law_480 : decode code 480 = .ok (.iload 6, 2) := by decide +kernel
theorem d_law_482 : decode code 482 = .ok (.i2l, 1) := by decide +kernel
theorem d_law_483 : decode code 483 = .ok (.lcmp, 1) := by decide +kernel
theorem d_law_484 : decode code 484 = .ok (.ifCond .eq 5, 3) := by decide +kernel
theorem d_law_489 : decode code 489 = .ok (.goto 902, 3) := by decide +kernel
set_option maxHeartbeats 4000000 in
set_option maxRecDepth 100000 in
theorem lc_score {p : Program} {l : Launch} {e : Env} {s : State} {m : MethodId} {below : List Frame} {meth : Method} {c : Code} {H : Heap} {locs : List Loc} {b L : Nat} {xs : Nat → Int32} {D : va_G} {cs : Nat → ClassId} {x xm out k : Nat} {gm : Nat → Nat} {ls : Array Slot} {Q9 : State → Prop} (C : lawC p s m c b L xs D cs l) (hk9 : 5 * k + 5 ≤ L) (hX : lwX D cs s.heap.size H x xm gm out) (hS : va_S (lwA s.heap.size) s.heap H locs) (hl : lv_has ls 7 [(4, .int (nI (5 * k))), (0, .ref b), (1, .ref x), (2, .ref xm), (3, .ref out)])
    (kk : ∀ (H3 : Heap) (locs3 : List Loc) (ls3 : Array Slot), lwX D cs s.heap.size H3 x xm gm out → va_S (lwA s.heap.size) s.heap H3 locs3 → lv_has ls3 7 [(4, .int (nI (5 * k))), (0, .ref b), (1, .ref x), (2, .ref xm), (3, .ref out)] → W p l e room_1 s m #[Value.ref b] below meth c H3 locs3 (40 + 10 * (k + 1)) (6000 + 300 * (k + 1)) Q9 (F0 m 1391 ls3 [])) :
    W p l e room_1 s m #[Value.ref b] below meth c H locs (40 + 10 * k) (6000 + 300 * k) Q9 (F0 m 424 ls []) := by
  obtain ⟨hx, hb, hml, hown, hts, hXb, hbl, hl9, hB, hL⟩ := C
  have htg : ∀ w ∈ gw, w.before #[Value.ref b] s = true := fun w h => hts w (List.mem_filter.mp h).1
  have hK := hB.1
  obtain ⟨o, z, K, r, i, f, gl, hox, hLS⟩ := hX
  subst hox
  have hLS0 := hLS
  obtain ⟨hI, hMd, hsm, hout, hrel⟩ := hLS
  have hz0 := hS.1
  refine lv_aload_n hx hb d_law_424 rfl (lv_at hl 2 rfl) ?_
  refine lv_aload_n hx hb d_law_425 rfl (lv_at hl 1 rfl) ?_
  refine lv_iload hx hb d_law_426 (lv_at hl 0 rfl) ?_
  refine lv_iconst (v := 1) hx hb d_law_428 (by decide) ?_
  refine lv_iadd (x := (nI (5 * k))) (y := 1) hx hb d_law_429 ?_
  refine lv_eqi (y := (nI (5 * k + 1))) (nI_add (5 * k) 1) ?_
  refine va_sld hx hb hXb hbl (Nat.not_le.mpr hbl) hS (show vp_in (nI (5 * k + 1)) L from vp_in_nI (n := 5 * k + 1) (by omega) (by omega)) d_law_430 ?_
  refine lv_eqi (y := xs (5 * k + 1)) (by rw [nI_clamp (by omega)]) ?_
  refine lv_aload_n hx hb d_law_431 rfl (lv_at hl 1 rfl) ?_
  refine lv_iload hx hb d_law_432 (lv_at hl 0 rfl) ?_
  refine lv_iconst (v := 2) hx hb d_law_434 (by decide) ?_
  refine lv_iadd (x := (nI (5 * k))) (y := 2) hx hb d_law_435 ?_
  refine lv_eqi (y := (nI (5 * k + 2))) (nI_add (5 * k) 2) ?_
  refine va_sld hx hb hXb hbl (Nat.not_le.mpr hbl) hS (show vp_in (nI (5 * k + 2)) L from vp_in_nI (n := 5 * k + 2) (by omega) (by omega)) d_law_436 ?_
  refine lv_eqi (y := xs (5 * k + 2)) (by rw [nI_clamp (by omega)]) ?_
  refine lv_aload_n hx hb d_law_437 rfl (lv_at hl 4 rfl) ?_
  refine t_SW (n := 4) (As := [.ref (o 0 0), .int (xs (5 * k + 1)), .int (xs (5 * k + 2)), .ref out]) (rest := []) ⟨hx, hb, hml, hown, htg⟩ (c_Lw_score l D cs s.heap.size H hl9 o z K r H.size out gl ((xs (5 * k + 1))) ((xs (5 * k + 2))) hI rfl hout hsm.2.2.1 hsm.2.2.2.2) (lw_ws (hts _ (List.mem_of_getElem? (i := 812) (by decide +kernel))) rfl htg) List.mem_cons_self (hts _ (List.mem_of_getElem? (i := 812) (by decide +kernel))) (htg _ (gw_mem (i := 29) (by decide +kernel) rfl)) (by decide +kernel) (htg _ (gw_mem (i := 810) (by decide +kernel) rfl)) (htg _ (gw_mem (i := 811) (by decide +kernel) rfl)) ⟨hPre.blind, hPre.at hB hS (fun _ h9 => h9)⟩ rfl hl.1 rfl (lv_room (Nat.le_of_ble_eq_true rfl)) d_law_438 ⟨by show _ ≤ 601024; omega, by show _ ≤ 7293034; omega⟩ rfl rfl ⟨Nat.le_of_ble_eq_true rfl, Nat.le_of_ble_eq_true rfl⟩ (fun v9 H1 L9 hL9 hp9 hz9 hkk => ?_)
  have hS1 : va_S (lwA s.heap.size) s.heap H1 (locs ++ L9) := x_app hS hz9 (fun q h1 h2 => hkk q h1 (fun h => h2 (lw_sub hI hz0 hsm.2.2.2.2 h))) (fun q hq => lw_sub hI hz0 hsm.2.2.2.2 (hL9 q hq))
  have hz1 := hS1.1
  rcases hp9 with ⟨hv, wv, Hc, hpc, hout1, hsz, hfr⟩ | ⟨hv, hG, hout1, hsz, hfr⟩
  · subst hv
    refine W.eq (g2 := F0 m 441 ls [.int 0]) rfl ?_
    have hMd1 : md_I D cs H1 xm gm i f := hMd.keepA (fun q hq => hkk q (hMd.lt hq) (lw_not hsm hq (hMd.lt hq)))
    clear hS
    have hS := hS1
    refine lv_istore (lv' := [(5, .int 0), (4, .int (nI (5 * k))), (0, .ref b), (1, .ref (o 0 0)), (2, .ref xm), (3, .ref out)]) hx hb d_law_441 hl (by decide) rfl (fun ls hl => ?_)
    refine lv_aload_n hx hb d_law_443 rfl (lv_at hl 4 rfl) ?_
    refine lv_aload_n hx hb d_law_444 rfl (lv_at hl 2 rfl) ?_
    refine lv_iload hx hb d_law_445 (lv_at hl 1 rfl) ?_
    refine lv_iconst (v := 1) hx hb d_law_447 (by decide) ?_
    refine lv_iadd (x := (nI (5 * k))) (y := 1) hx hb d_law_448 ?_
    refine lv_eqi (y := (nI (5 * k + 1))) (nI_add (5 * k) 1) ?_
    refine va_sld hx hb hXb hbl (Nat.not_le.mpr hbl) hS (show vp_in (nI (5 * k + 1)) L from vp_in_nI (n := 5 * k + 1) (by omega) (by omega)) d_law_449 ?_
    refine lv_eqi (y := xs (5 * k + 1)) (by rw [nI_clamp (by omega)]) ?_
    refine lv_aload_n hx hb d_law_450 rfl (lv_at hl 2 rfl) ?_
    refine lv_iload hx hb d_law_451 (lv_at hl 1 rfl) ?_
    refine lv_iconst (v := 2) hx hb d_law_453 (by decide) ?_
    refine lv_iadd (x := (nI (5 * k))) (y := 2) hx hb d_law_454 ?_
    refine lv_eqi (y := (nI (5 * k + 2))) (nI_add (5 * k) 2) ?_
    refine va_sld hx hb hXb hbl (Nat.not_le.mpr hbl) hS (show vp_in (nI (5 * k + 2)) L from vp_in_nI (n := 5 * k + 2) (by omega) (by omega)) d_law_455 ?_
    refine lv_eqi (y := xs (5 * k + 2)) (by rw [nI_clamp (by omega)]) ?_
    refine h_calli (va_runV (As := [.int (xs (5 * k + 1)), .int (xs (5 * k + 2))]) (rest := []) ⟨hx, hb, hml, hown, htg⟩ (c_Md_score l D cs s.heap.size H1 xm gm i f ((xs (5 * k + 1))) ((xs (5 * k + 2))) hsm.1 hMd1 (z 3 0) hrel.nam hrel.bnd.2.2.1 (mnF z) (lnF z) hrel.wf) ⟨x_cwB 2 htg (gw_mem (i := 1123) (by decide +kernel) rfl) (gw_mem (i := 38) (by decide +kernel) rfl) (gw_mem (i := 1120) (by decide +kernel) rfl) (by decide +kernel) ⟨Nat.le_of_ble_eq_true rfl, Nat.le_of_ble_eq_true rfl⟩, htg _ (gw_mem (i := 1121) (by decide +kernel) rfl), htg _ (gw_mem (i := 1122) (by decide +kernel) rfl)⟩ ⟨hPre.blind, hx_recv hK (ci := 0) rfl hMd1.1, hPre.at hB hS1 (fun _ h9 => h9)⟩ rfl rfl hl.1 rfl (lv_room (Nat.le_of_ble_eq_true rfl)) d_law_456 ⟨by show _ ≤ 601024; omega, by show _ ≤ 7293034; omega⟩) hS1 hsm.1.A (fun r9 H2 locs2 hm hz2 hk2 hS2 => ?_)
    have hS := hS2
    obtain ⟨hw, o', z', K', r', i', f', hn, hrr, hmd, hi0, hrel2, ho0⟩ := gl_score (N := H.size) hI hrel hpc hm
    obtain ⟨c1, c2, c3⟩ := hLS0.cls hn hrr hkk hfr
    have hLS2 := lwS.mdl c1 c3 hout1 hk2 hmd hrel2
    refine lv_istore (lv' := [(6, .int r9), (5, .int 0), (4, .int (nI (5 * k))), (0, .ref b), (1, .ref (o 0 0)), (2, .ref xm), (3, .ref out)]) hx hb d_law_459 hl (by decide) rfl (fun ls hl => ?_)
    refine lv_aload_n hx hb d_law_461 rfl (lv_at hl 5 rfl) ?_
    refine h_calli (va_runV (As := []) (rest := []) ⟨hx, hb, hml, hown, htg⟩ (c_Md_thrown l D cs s.heap.size H2 xm gm i' f' hsm.1 hmd) ⟨x_cwB 0 htg (gw_mem (i := 1087) (by decide +kernel) rfl) (gw_mem (i := 38) (by decide +kernel) rfl) (gw_mem (i := 1084) (by decide +kernel) rfl) (by decide +kernel) ⟨Nat.le_of_ble_eq_true rfl, Nat.le_of_ble_eq_true rfl⟩, htg _ (gw_mem (i := 1085) (by decide +kernel) rfl), htg _ (gw_mem (i := 1086) (by decide +kernel) rfl)⟩ ⟨hPre.blind, hx_recv hK (ci := 0) rfl hmd.1, hPre.at hB hS2 (fun _ h9 => h9)⟩ rfl rfl hl.1 rfl (lv_room (Nat.le_of_ble_eq_true rfl)) d_law_462 ⟨by show _ ≤ 601024; omega, by show _ ≤ 7293034; omega⟩) hS2 hsm.1.A (fun r3 H3 locs3 hm3 hz3 hk3 hS3 => ?_)
    obtain ⟨hmd3, hr3⟩ := hm3
    have hLS3 := lwS.mdl hLS2.1 hLS2.2.2.1 hLS2.2.2.2.1 hk3 hmd3 hrel2
    rw [hi0] at hr3
    subst hr3
    refine lv_iload hx hb d_law_465 (lv_at hl 1 rfl) ?_
    refine lv_icmp_eq (tgt := 472) hx hb d_law_467 (by decide) (fun _ => ?_) (fun h9 => absurd rfl h9)
    refine lv_iload hx hb d_law_472 (lv_at hl 1 rfl) ?_
    refine lv_if_ne (tgt := 489) hx hb d_law_474 (by decide) (fun h9 => absurd rfl h9) (fun _ => ?_)
    refine lv_aload_n hx hb d_law_477 rfl (lv_at hl 6 rfl) ?_
    refine lv_iconst (v := 0) hx hb d_law_478 (by decide) ?_
    refine hx_lald hx hb hK 3 hLS3.2.2.2.1 rfl (show vp_in 0 1 from vp_in_nI (n := 0) (by decide) (by decide)) d_law_479 ?_
    refine lv_eqv (y := .long (wv.toInt64)) (show Value.long (vp_updL gl 0 wv.toInt64 0) = _ by rw [updL_self]) ?_
    subst hw
    refine lv_iload hx hb d_law_480 (lv_at hl 0 rfl) ?_
    refine lv_i2l (v := wv.toInt64) hx hb d_law_482 rfl ?_
    skip
    refine W.lcmp hx hb d_law_483 ?_
    refine lv_eqi (y := 0) (lcx _) ?_
    refine lv_if_eq (x := 0) (tgt := 489) hx hb d_law_484 (by decide) (fun _ => ?_) (fun h9 => absurd rfl h9)
    refine lv_goto (tgt := 1391) hx hb d_law_489 (by decide) ?_
    refine W.widen (k := 40 + 10 * (k + 1)) (n := 6000 + 300 * (k + 1)) (by omega) (by omega) ?_
    exact kk _ _ _ ⟨o', z', K', r', i', f', _, ho0, hLS3⟩ hS3 (lv_sub hl [2, 3, 4, 5, 6] rfl)
  · subst hv
    obtain ⟨G9, hG9⟩ : ∃ y, y = goV (isN (z 3 0) ((xs (5 * k + 1))) && isN (z 3 0) ((xs (5 * k + 2)))) true true := ⟨_, rfl⟩
    have hG0 := hG
    rw [← hG9] at hG ⊢
    refine W.eq (g2 := F0 m 441 ls [.int G9]) rfl ?_
    have hLS1 := hLS0.same hfr
    have hMd1 := hLS1.2.1
    clear hS
    have hS := hS1
    refine lv_istore (lv' := [(5, .int G9), (4, .int (nI (5 * k))), (0, .ref b), (1, .ref (o 0 0)), (2, .ref xm), (3, .ref out)]) hx hb d_law_441 hl (by decide) rfl (fun ls hl => ?_)
    refine lv_aload_n hx hb d_law_443 rfl (lv_at hl 4 rfl) ?_
    refine lv_aload_n hx hb d_law_444 rfl (lv_at hl 2 rfl) ?_
    refine lv_iload hx hb d_law_445 (lv_at hl 1 rfl) ?_
    refine lv_iconst (v := 1) hx hb d_law_447 (by decide) ?_
    refine lv_iadd (x := (nI (5 * k))) (y := 1) hx hb d_law_448 ?_
    refine lv_eqi (y := (nI (5 * k + 1))) (nI_add (5 * k) 1) ?_
    refine va_sld hx hb hXb hbl (Nat.not_le.mpr hbl) hS (show vp_in (nI (5 * k + 1)) L from vp_in_nI (n := 5 * k + 1) (by omega) (by omega)) d_law_449 ?_
    refine lv_eqi (y := xs (5 * k + 1)) (by rw [nI_clamp (by omega)]) ?_
    refine lv_aload_n hx hb d_law_450 rfl (lv_at hl 2 rfl) ?_
    refine lv_iload hx hb d_law_451 (lv_at hl 1 rfl) ?_
    refine lv_iconst (v := 2) hx hb d_law_453 (by decide) ?_
    refine lv_iadd (x := (nI (5 * k))) (y := 2) hx hb d_law_454 ?_
    refine lv_eqi (y := (nI (5 * k + 2))) (nI_add (5 * k) 2) ?_
    refine va_sld hx hb hXb hbl (Nat.not_le.mpr hbl) hS (show vp_in (nI (5 * k + 2)) L from vp_in_nI (n := 5 * k + 2) (by omega) (by omega)) d_law_455 ?_
    refine lv_eqi (y := xs (5 * k + 2)) (by rw [nI_clamp (by omega)]) ?_
    refine h_calli (va_runV (As := [.int (xs (5 * k + 1)), .int (xs (5 * k + 2))]) (rest := []) ⟨hx, hb, hml, hown, htg⟩ (c_Md_score l D cs s.heap.size H1 xm gm i f ((xs (5 * k + 1))) ((xs (5 * k + 2))) hsm.1 hMd1 (z 3 0) hrel.nam hrel.bnd.2.2.1 (mnF z) (lnF z) hrel.wf) ⟨x_cwB 2 htg (gw_mem (i := 1123) (by decide +kernel) rfl) (gw_mem (i := 38) (by decide +kernel) rfl) (gw_mem (i := 1120) (by decide +kernel) rfl) (by decide +kernel) ⟨Nat.le_of_ble_eq_true rfl, Nat.le_of_ble_eq_true rfl⟩, htg _ (gw_mem (i := 1121) (by decide +kernel) rfl), htg _ (gw_mem (i := 1122) (by decide +kernel) rfl)⟩ ⟨hPre.blind, hx_recv hK (ci := 0) rfl hMd1.1, hPre.at hB hS1 (fun _ h9 => h9)⟩ rfl rfl hl.1 rfl (lv_room (Nat.le_of_ble_eq_true rfl)) d_law_456 ⟨by show _ ≤ 601024; omega, by show _ ≤ 7293034; omega⟩) hS1 hsm.1.A (fun r9 H2 locs2 hm hz2 hk2 hS2 => ?_)
    have hS := hS2
    obtain ⟨i', f', hmd, hi0, hrel2⟩ := gx_score hrel hG0 hm
    have hLS2 := lwS.mdl hLS1.1 hsm hout1 hk2 hmd hrel2
    refine lv_istore (lv' := [(6, .int r9), (5, .int G9), (4, .int (nI (5 * k))), (0, .ref b), (1, .ref (o 0 0)), (2, .ref xm), (3, .ref out)]) hx hb d_law_459 hl (by decide) rfl (fun ls hl => ?_)
    refine lv_aload_n hx hb d_law_461 rfl (lv_at hl 5 rfl) ?_
    refine h_calli (va_runV (As := []) (rest := []) ⟨hx, hb, hml, hown, htg⟩ (c_Md_thrown l D cs s.heap.size H2 xm gm i' f' hsm.1 hmd) ⟨x_cwB 0 htg (gw_mem (i := 1087) (by decide +kernel) rfl) (gw_mem (i := 38) (by decide +kernel) rfl) (gw_mem (i := 1084) (by decide +kernel) rfl) (by decide +kernel) ⟨Nat.le_of_ble_eq_true rfl, Nat.le_of_ble_eq_true rfl⟩, htg _ (gw_mem (i := 1085) (by decide +kernel) rfl), htg _ (gw_mem (i := 1086) (by decide +kernel) rfl)⟩ ⟨hPre.blind, hx_recv hK (ci := 0) rfl hmd.1, hPre.at hB hS2 (fun _ h9 => h9)⟩ rfl rfl hl.1 rfl (lv_room (Nat.le_of_ble_eq_true rfl)) d_law_462 ⟨by show _ ≤ 601024; omega, by show _ ≤ 7293034; omega⟩) hS2 hsm.1.A (fun r3 H3 locs3 hm3 hz3 hk3 hS3 => ?_)
    obtain ⟨hmd3, hr3⟩ := hm3
    have hLS3 := lwS.mdl hLS2.1 hLS2.2.2.1 hLS2.2.2.2.1 hk3 hmd3 hrel2
    rw [hi0, ← hG9] at hr3
    subst hr3
    refine lv_iload hx hb d_law_465 (lv_at hl 1 rfl) ?_
    refine lv_icmp_eq (tgt := 472) hx hb d_law_467 (by decide) (fun _ => ?_) (fun h9 => absurd rfl h9)
    refine lv_iload hx hb d_law_472 (lv_at hl 1 rfl) ?_
    refine lv_if_ne (tgt := 489) hx hb d_law_474 (by decide) (fun _ => ?_) (fun h9 => absurd h9 (by simpa using hG))
    refine lv_goto (tgt := 1391) hx hb d_law_489 (by decide) ?_
    refine W.widen (k := 40 + 10 * (k + 1)) (n := 6000 + 300 * (k + 1)) (by omega) (by omega) ?_
    exact kk _ _ _ ⟨o, z, K, r, i', f', _, rfl, hLS3⟩ hS3 (lv_sub hl [2, 3, 4, 5, 6] rfl)
theorem d_law_517 : decode code 517 = .ok (.aload_n 1, 1) := by decide +kernel
theorem d_law_518 : decode code 518 = .ok (.aload_n 0, 1) := by decide +kernel
theorem d_law_519 : decode code 519 = .ok (.iload 4, 2) := by decide +kernel
theorem d_law_521 : decode code 521 = .ok (.iconst 1, 1) := by decide +kernel
theorem d_law_522 : decode code 522 = .ok (.iadd, 1) := by decide +kernel
theorem d_law_523 : decode code 523 = .ok (.iaload, 1) := by decide +kernel
theorem d_law_524 : decode code 524 = .ok (.aload_n 0, 1) := by decide +kernel
theorem d_law_525 : decode code 525 = .ok (.iload 4, 2) := by decide +kernel
theorem d_law_527 : decode code 527 = .ok (.iconst 2, 1) := by decide +kernel
theorem d_law_528 : decode code 528 = .ok (.iadd, 1) := by decide +kernel
theorem d_law_529 : decode code 529 = .ok (.iaload, 1) := by decide +kernel
theorem d_law_530 : decode code 530 = .ok (.aload_n 3, 1) := by decide +kernel
theorem d_law_531 : decode code 531 = .ok (.invokestatic 110, 3) := by decide +kernel
theorem d_law_534 : decode code 534 = .ok (.istore 5, 2) := by decide +kernel
theorem d_law_536 : decode code 536 = .ok (.aload_n 2, 1) := by decide +kernel
theorem d_law_537 : decode code 537 = .ok (.aload_n 0, 1) := by decide +kernel
theorem d_law_538 : decode code 538 = .ok (.iload 4, 2) := by decide +kernel
theorem d_law_540 : decode code 540 = .ok (.iconst 1, 1) := by decide +kernel
theorem d_law_541 : decode code 541 = .ok (.iadd, 1) := by decide +kernel
theorem d_law_542 : decode code 542 = .ok (.iaload, 1) := by decide +kernel
theorem d_law_543 : decode code 543 = .ok (.aload_n 0, 1) := by decide +kernel
theorem d_law_544 : decode code 544 = .ok (.iload 4, 2) := by decide +kernel
theorem d_law_546 : decode code 546 = .ok (.iconst 2, 1) := by decide +kernel
theorem d_law_547 : decode code 547 = .ok (.iadd, 1) := by decide +kernel
theorem d_law_548 : decode code 548 = .ok (.iaload, 1) := by decide +kernel
theorem d_law_549 : decode code 549 = .ok (.invokevirtual 112, 3) := by decide +kernel
theorem d_law_552 : decode code 552 = .ok (.istore 6, 2) := by decide +kernel
theorem d_law_554 : decode code 554 = .ok (.aload_n 2, 1) := by decide +kernel
theorem d_law_555 : decode code 555 = .ok (.invokevirtual 83, 3) := by decide +kernel
theorem d_law_558 : decode code 558 = .ok (.iload 5, 2) := by decide +kernel
theorem d_law_560 : decode code 560 = .ok (.if_icmp .eq 5, 3) := by decide +kernel
theorem d_law_565 : decode code 565 = .ok (.iload 5, 2) := by decide +kernel
theorem d_law_567 : decode code 567 = .ok (.ifCond .ne 15, 3) := by decide +kernel
theorem d_law_570 : decode code 570 = .ok (.aload_n 3, 1) := by decide +kernel
theorem d_law_571 : decode code 571 = .ok (.iconst 0, 1) := by decide +kernel
theorem d_law_572 : decode code 572 = .ok (.laload, 1) := by decide +kernel
theorem d_law_573 : decode code 573 = .ok (.iload 6, 2) := by decide +kernel
theorem d_law_575 : decode code 575 = .ok (.i2l, 1) := by decide +kernel
theorem d_law_576 : decode code 576 = .ok (.lcmp, 1) := by decide +kernel
theorem d_law_577 : decode code 577 = .ok (.ifCond .eq 5, 3) := by decide +kernel
theorem d_law_582 : decode code 582 = .ok (.goto 809, 3) := by decide +kernel
set_option maxHeartbeats 4000000 in
set_option maxRecDepth 100000 in
theorem lc_candidate {p : Program} {l : Launch} {e : Env} {s : State} {m : MethodId} {below : List Frame} {meth : Method} {c : Code} {H : Heap} {locs : List Loc} {b L : Nat} {xs : Nat → Int32} {D : va_G} {cs : Nat → ClassId} {x xm out k : Nat} {gm : Nat → Nat} {ls : Array Slot} {Q9 : State → Prop} (C : lawC p s m c b L xs D cs l) (hk9 : 5 * k + 5 ≤ L) (hX : lwX D cs s.heap.size H x xm gm out) (hS : va_S (lwA s.heap.size) s.heap H locs) (hl : lv_has ls 7 [(4, .int (nI (5 * k))), (0, .ref b), (1, .ref x), (2, .ref xm), (3, .ref out)])
    (kk : ∀ (H3 : Heap) (locs3 : List Loc) (ls3 : Array Slot), lwX D cs s.heap.size H3 x xm gm out → va_S (lwA s.heap.size) s.heap H3 locs3 → lv_has ls3 7 [(4, .int (nI (5 * k))), (0, .ref b), (1, .ref x), (2, .ref xm), (3, .ref out)] → W p l e room_1 s m #[Value.ref b] below meth c H3 locs3 (40 + 10 * (k + 1)) (6000 + 300 * (k + 1)) Q9 (F0 m 1391 ls3 [])) :
    W p l e room_1 s m #[Value.ref b] below meth c H locs (40 + 10 * k) (6000 + 300 * k) Q9 (F0 m 517 ls []) := by
  obtain ⟨hx, hb, hml, hown, hts, hXb, hbl, hl9, hB, hL⟩ := C
  have htg : ∀ w ∈ gw, w.before #[Value.ref b] s = true := fun w h => hts w (List.mem_filter.mp h).1
  have hK := hB.1
  obtain ⟨o, z, K, r, i, f, gl, hox, hLS⟩ := hX
  subst hox
  have hLS0 := hLS
  obtain ⟨hI, hMd, hsm, hout, hrel⟩ := hLS
  have hz0 := hS.1
  refine lv_aload_n hx hb d_law_517 rfl (lv_at hl 2 rfl) ?_
  refine lv_aload_n hx hb d_law_518 rfl (lv_at hl 1 rfl) ?_
  refine lv_iload hx hb d_law_519 (lv_at hl 0 rfl) ?_
  refine lv_iconst (v := 1) hx hb d_law_521 (by decide) ?_
  refine lv_iadd (x := (nI (5 * k))) (y := 1) hx hb d_law_522 ?_
  refine lv_eqi (y := (nI (5 * k + 1))) (nI_add (5 * k) 1) ?_
  refine va_sld hx hb hXb hbl (Nat.not_le.mpr hbl) hS (show vp_in (nI (5 * k + 1)) L from vp_in_nI (n := 5 * k + 1) (by omega) (by omega)) d_law_523 ?_
  refine lv_eqi (y := xs (5 * k + 1)) (by rw [nI_clamp (by omega)]) ?_
  refine lv_aload_n hx hb d_law_524 rfl (lv_at hl 1 rfl) ?_
  refine lv_iload hx hb d_law_525 (lv_at hl 0 rfl) ?_
  refine lv_iconst (v := 2) hx hb d_law_527 (by decide) ?_
  refine lv_iadd (x := (nI (5 * k))) (y := 2) hx hb d_law_528 ?_
  refine lv_eqi (y := (nI (5 * k + 2))) (nI_add (5 * k) 2) ?_
  refine va_sld hx hb hXb hbl (Nat.not_le.mpr hbl) hS (show vp_in (nI (5 * k + 2)) L from vp_in_nI (n := 5 * k + 2) (by omega) (by omega)) d_law_529 ?_
  refine lv_eqi (y := xs (5 * k + 2)) (by rw [nI_clamp (by omega)]) ?_
  refine lv_aload_n hx hb d_law_530 rfl (lv_at hl 4 rfl) ?_
  refine t_SW (n := 4) (As := [.ref (o 0 0), .int (xs (5 * k + 1)), .int (xs (5 * k + 2)), .ref out]) (rest := []) ⟨hx, hb, hml, hown, htg⟩ (c_Lw_candidate l D cs s.heap.size H hl9 o z K r H.size out gl ((xs (5 * k + 1))) ((xs (5 * k + 2))) hI rfl hout hsm.2.2.1 hsm.2.2.2.2) (lw_ws (hts _ (List.mem_of_getElem? (i := 819) (by decide +kernel))) rfl htg) List.mem_cons_self (hts _ (List.mem_of_getElem? (i := 819) (by decide +kernel))) (htg _ (gw_mem (i := 29) (by decide +kernel) rfl)) (by decide +kernel) (htg _ (gw_mem (i := 817) (by decide +kernel) rfl)) (htg _ (gw_mem (i := 818) (by decide +kernel) rfl)) ⟨hPre.blind, hPre.at hB hS (fun _ h9 => h9)⟩ rfl hl.1 rfl (lv_room (Nat.le_of_ble_eq_true rfl)) d_law_531 ⟨by show _ ≤ 601024; omega, by show _ ≤ 7293034; omega⟩ rfl rfl ⟨Nat.le_of_ble_eq_true rfl, Nat.le_of_ble_eq_true rfl⟩ (fun v9 H1 L9 hL9 hp9 hz9 hkk => ?_)
  have hS1 : va_S (lwA s.heap.size) s.heap H1 (locs ++ L9) := x_app hS hz9 (fun q h1 h2 => hkk q h1 (fun h => h2 (lw_sub hI hz0 hsm.2.2.2.2 h))) (fun q hq => lw_sub hI hz0 hsm.2.2.2.2 (hL9 q hq))
  have hz1 := hS1.1
  rcases hp9 with ⟨hv, wv, Hc, hpc, hout1, hsz, hfr⟩ | ⟨hv, hG, hout1, hsz, hfr⟩
  · subst hv
    refine W.eq (g2 := F0 m 534 ls [.int 0]) rfl ?_
    have hMd1 : md_I D cs H1 xm gm i f := hMd.keepA (fun q hq => hkk q (hMd.lt hq) (lw_not hsm hq (hMd.lt hq)))
    clear hS
    have hS := hS1
    refine lv_istore (lv' := [(5, .int 0), (4, .int (nI (5 * k))), (0, .ref b), (1, .ref (o 0 0)), (2, .ref xm), (3, .ref out)]) hx hb d_law_534 hl (by decide) rfl (fun ls hl => ?_)
    refine lv_aload_n hx hb d_law_536 rfl (lv_at hl 4 rfl) ?_
    refine lv_aload_n hx hb d_law_537 rfl (lv_at hl 2 rfl) ?_
    refine lv_iload hx hb d_law_538 (lv_at hl 1 rfl) ?_
    refine lv_iconst (v := 1) hx hb d_law_540 (by decide) ?_
    refine lv_iadd (x := (nI (5 * k))) (y := 1) hx hb d_law_541 ?_
    refine lv_eqi (y := (nI (5 * k + 1))) (nI_add (5 * k) 1) ?_
    refine va_sld hx hb hXb hbl (Nat.not_le.mpr hbl) hS (show vp_in (nI (5 * k + 1)) L from vp_in_nI (n := 5 * k + 1) (by omega) (by omega)) d_law_542 ?_
    refine lv_eqi (y := xs (5 * k + 1)) (by rw [nI_clamp (by omega)]) ?_
    refine lv_aload_n hx hb d_law_543 rfl (lv_at hl 2 rfl) ?_
    refine lv_iload hx hb d_law_544 (lv_at hl 1 rfl) ?_
    refine lv_iconst (v := 2) hx hb d_law_546 (by decide) ?_
    refine lv_iadd (x := (nI (5 * k))) (y := 2) hx hb d_law_547 ?_
    refine lv_eqi (y := (nI (5 * k + 2))) (nI_add (5 * k) 2) ?_
    refine va_sld hx hb hXb hbl (Nat.not_le.mpr hbl) hS (show vp_in (nI (5 * k + 2)) L from vp_in_nI (n := 5 * k + 2) (by omega) (by omega)) d_law_548 ?_
    refine lv_eqi (y := xs (5 * k + 2)) (by rw [nI_clamp (by omega)]) ?_
    refine h_calli (va_runV (As := [.int (xs (5 * k + 1)), .int (xs (5 * k + 2))]) (rest := []) ⟨hx, hb, hml, hown, htg⟩ (c_Md_candidate l D cs s.heap.size H1 xm gm i f ((xs (5 * k + 1))) ((xs (5 * k + 2))) hsm.1 hMd1 (z 0 0) hrel.pai.1 hrel.bnd.1) ⟨x_cwB 2 htg (gw_mem (i := 1143) (by decide +kernel) rfl) (gw_mem (i := 38) (by decide +kernel) rfl) (gw_mem (i := 1140) (by decide +kernel) rfl) (by decide +kernel) ⟨Nat.le_of_ble_eq_true rfl, Nat.le_of_ble_eq_true rfl⟩, htg _ (gw_mem (i := 1141) (by decide +kernel) rfl), htg _ (gw_mem (i := 1142) (by decide +kernel) rfl)⟩ ⟨hPre.blind, hx_recv hK (ci := 0) rfl hMd1.1, hPre.at hB hS1 (fun _ h9 => h9)⟩ rfl rfl hl.1 rfl (lv_room (Nat.le_of_ble_eq_true rfl)) d_law_549 ⟨by show _ ≤ 601024; omega, by show _ ≤ 7293034; omega⟩) hS1 hsm.1.A (fun r9 H2 locs2 hm hz2 hk2 hS2 => ?_)
    have hS := hS2
    obtain ⟨hw, o', z', K', r', i', f', hn, hrr, hmd, hi0, hrel2, ho0⟩ := gl_candidate (N := H.size) hI hrel hpc hm
    obtain ⟨c1, c2, c3⟩ := hLS0.cls hn hrr hkk hfr
    have hLS2 := lwS.mdl c1 c3 hout1 hk2 hmd hrel2
    refine lv_istore (lv' := [(6, .int r9), (5, .int 0), (4, .int (nI (5 * k))), (0, .ref b), (1, .ref (o 0 0)), (2, .ref xm), (3, .ref out)]) hx hb d_law_552 hl (by decide) rfl (fun ls hl => ?_)
    refine lv_aload_n hx hb d_law_554 rfl (lv_at hl 5 rfl) ?_
    refine h_calli (va_runV (As := []) (rest := []) ⟨hx, hb, hml, hown, htg⟩ (c_Md_thrown l D cs s.heap.size H2 xm gm i' f' hsm.1 hmd) ⟨x_cwB 0 htg (gw_mem (i := 1087) (by decide +kernel) rfl) (gw_mem (i := 38) (by decide +kernel) rfl) (gw_mem (i := 1084) (by decide +kernel) rfl) (by decide +kernel) ⟨Nat.le_of_ble_eq_true rfl, Nat.le_of_ble_eq_true rfl⟩, htg _ (gw_mem (i := 1085) (by decide +kernel) rfl), htg _ (gw_mem (i := 1086) (by decide +kernel) rfl)⟩ ⟨hPre.blind, hx_recv hK (ci := 0) rfl hmd.1, hPre.at hB hS2 (fun _ h9 => h9)⟩ rfl rfl hl.1 rfl (lv_room (Nat.le_of_ble_eq_true rfl)) d_law_555 ⟨by show _ ≤ 601024; omega, by show _ ≤ 7293034; omega⟩) hS2 hsm.1.A (fun r3 H3 locs3 hm3 hz3 hk3 hS3 => ?_)
    obtain ⟨hmd3, hr3⟩ := hm3
    have hLS3 := lwS.mdl hLS2.1 hLS2.2.2.1 hLS2.2.2.2.1 hk3 hmd3 hrel2
    rw [hi0] at hr3
    subst hr3
    refine lv_iload hx hb d_law_558 (lv_at hl 1 rfl) ?_
    refine lv_icmp_eq (tgt := 565) hx hb d_law_560 (by decide) (fun _ => ?_) (fun h9 => absurd rfl h9)
    refine lv_iload hx hb d_law_565 (lv_at hl 1 rfl) ?_
    refine lv_if_ne (tgt := 582) hx hb d_law_567 (by decide) (fun h9 => absurd rfl h9) (fun _ => ?_)
    refine lv_aload_n hx hb d_law_570 rfl (lv_at hl 6 rfl) ?_
    refine lv_iconst (v := 0) hx hb d_law_571 (by decide) ?_
    refine hx_lald hx hb hK 3 hLS3.2.2.2.1 rfl (show vp_in 0 1 from vp_in_nI (n := 0) (by decide) (by decide)) d_law_572 ?_
    refine lv_eqv (y := .long (wv.toInt64)) (show Value.long (vp_updL gl 0 wv.toInt64 0) = _ by rw [updL_self]) ?_
    subst hw
    refine lv_iload hx hb d_law_573 (lv_at hl 0 rfl) ?_
    refine lv_i2l (v := wv.toInt64) hx hb d_law_575 rfl ?_
    skip
    refine W.lcmp hx hb d_law_576 ?_
    refine lv_eqi (y := 0) (lcx _) ?_
    refine lv_if_eq (x := 0) (tgt := 582) hx hb d_law_577 (by decide) (fun _ => ?_) (fun h9 => absurd rfl h9)
    refine lv_goto (tgt := 1391) hx hb d_law_582 (by decide) ?_
    refine W.widen (k := 40 + 10 * (k + 1)) (n := 6000 + 300 * (k + 1)) (by omega) (by omega) ?_
    exact kk _ _ _ ⟨o', z', K', r', i', f', _, ho0, hLS3⟩ hS3 (lv_sub hl [2, 3, 4, 5, 6] rfl)
  · subst hv
    obtain ⟨G9, hG9⟩ : ∃ y, y = goV (isN (z 0 0) ((xs (5 * k + 1))) && (!decide (((xs (5 * k + 2))) < 0) && !decide (1 < ((xs (5 * k + 2)))))) true true := ⟨_, rfl⟩
    have hG0 := hG
    rw [← hG9] at hG ⊢
    refine W.eq (g2 := F0 m 534 ls [.int G9]) rfl ?_
    have hLS1 := hLS0.same hfr
    have hMd1 := hLS1.2.1
    clear hS
    have hS := hS1
    refine lv_istore (lv' := [(5, .int G9), (4, .int (nI (5 * k))), (0, .ref b), (1, .ref (o 0 0)), (2, .ref xm), (3, .ref out)]) hx hb d_law_534 hl (by decide) rfl (fun ls hl => ?_)
    refine lv_aload_n hx hb d_law_536 rfl (lv_at hl 4 rfl) ?_
    refine lv_aload_n hx hb d_law_537 rfl (lv_at hl 2 rfl) ?_
    refine lv_iload hx hb d_law_538 (lv_at hl 1 rfl) ?_
    refine lv_iconst (v := 1) hx hb d_law_540 (by decide) ?_
    refine lv_iadd (x := (nI (5 * k))) (y := 1) hx hb d_law_541 ?_
    refine lv_eqi (y := (nI (5 * k + 1))) (nI_add (5 * k) 1) ?_
    refine va_sld hx hb hXb hbl (Nat.not_le.mpr hbl) hS (show vp_in (nI (5 * k + 1)) L from vp_in_nI (n := 5 * k + 1) (by omega) (by omega)) d_law_542 ?_
    refine lv_eqi (y := xs (5 * k + 1)) (by rw [nI_clamp (by omega)]) ?_
    refine lv_aload_n hx hb d_law_543 rfl (lv_at hl 2 rfl) ?_
    refine lv_iload hx hb d_law_544 (lv_at hl 1 rfl) ?_
    refine lv_iconst (v := 2) hx hb d_law_546 (by decide) ?_
    refine lv_iadd (x := (nI (5 * k))) (y := 2) hx hb d_law_547 ?_
    refine lv_eqi (y := (nI (5 * k + 2))) (nI_add (5 * k) 2) ?_
    refine va_sld hx hb hXb hbl (Nat.not_le.mpr hbl) hS (show vp_in (nI (5 * k + 2)) L from vp_in_nI (n := 5 * k + 2) (by omega) (by omega)) d_law_548 ?_
    refine lv_eqi (y := xs (5 * k + 2)) (by rw [nI_clamp (by omega)]) ?_
    refine h_calli (va_runV (As := [.int (xs (5 * k + 1)), .int (xs (5 * k + 2))]) (rest := []) ⟨hx, hb, hml, hown, htg⟩ (c_Md_candidate l D cs s.heap.size H1 xm gm i f ((xs (5 * k + 1))) ((xs (5 * k + 2))) hsm.1 hMd1 (z 0 0) hrel.pai.1 hrel.bnd.1) ⟨x_cwB 2 htg (gw_mem (i := 1143) (by decide +kernel) rfl) (gw_mem (i := 38) (by decide +kernel) rfl) (gw_mem (i := 1140) (by decide +kernel) rfl) (by decide +kernel) ⟨Nat.le_of_ble_eq_true rfl, Nat.le_of_ble_eq_true rfl⟩, htg _ (gw_mem (i := 1141) (by decide +kernel) rfl), htg _ (gw_mem (i := 1142) (by decide +kernel) rfl)⟩ ⟨hPre.blind, hx_recv hK (ci := 0) rfl hMd1.1, hPre.at hB hS1 (fun _ h9 => h9)⟩ rfl rfl hl.1 rfl (lv_room (Nat.le_of_ble_eq_true rfl)) d_law_549 ⟨by show _ ≤ 601024; omega, by show _ ≤ 7293034; omega⟩) hS1 hsm.1.A (fun r9 H2 locs2 hm hz2 hk2 hS2 => ?_)
    have hS := hS2
    obtain ⟨i', f', hmd, hi0, hrel2⟩ := gx_candidate hrel hG0 hm
    have hLS2 := lwS.mdl hLS1.1 hsm hout1 hk2 hmd hrel2
    refine lv_istore (lv' := [(6, .int r9), (5, .int G9), (4, .int (nI (5 * k))), (0, .ref b), (1, .ref (o 0 0)), (2, .ref xm), (3, .ref out)]) hx hb d_law_552 hl (by decide) rfl (fun ls hl => ?_)
    refine lv_aload_n hx hb d_law_554 rfl (lv_at hl 5 rfl) ?_
    refine h_calli (va_runV (As := []) (rest := []) ⟨hx, hb, hml, hown, htg⟩ (c_Md_thrown l D cs s.heap.size H2 xm gm i' f' hsm.1 hmd) ⟨x_cwB 0 htg (gw_mem (i := 1087) (by decide +kernel) rfl) (gw_mem (i := 38) (by decide +kernel) rfl) (gw_mem (i := 1084) (by decide +kernel) rfl) (by decide +kernel) ⟨Nat.le_of_ble_eq_true rfl, Nat.le_of_ble_eq_true rfl⟩, htg _ (gw_mem (i := 1085) (by decide +kernel) rfl), htg _ (gw_mem (i := 1086) (by decide +kernel) rfl)⟩ ⟨hPre.blind, hx_recv hK (ci := 0) rfl hmd.1, hPre.at hB hS2 (fun _ h9 => h9)⟩ rfl rfl hl.1 rfl (lv_room (Nat.le_of_ble_eq_true rfl)) d_law_555 ⟨by show _ ≤ 601024; omega, by show _ ≤ 7293034; omega⟩) hS2 hsm.1.A (fun r3 H3 locs3 hm3 hz3 hk3 hS3 => ?_)
    obtain ⟨hmd3, hr3⟩ := hm3
    have hLS3 := lwS.mdl hLS2.1 hLS2.2.2.1 hLS2.2.2.2.1 hk3 hmd3 hrel2
    rw [hi0, ← hG9] at hr3
    subst hr3
    refine lv_iload hx hb d_law_558 (lv_at hl 1 rfl) ?_
    refine lv_icmp_eq (tgt := 565) hx hb d_law_560 (by decide) (fun _ => ?_) (fun h9 => absurd rfl h9)
    refine lv_iload hx hb d_law_565 (lv_at hl 1 rfl) ?_
    refine lv_if_ne (tgt := 582) hx hb d_law_567 (by decide) (fun _ => ?_) (fun h9 => absurd h9 (by simpa using hG))
    refine lv_goto (tgt := 1391) hx hb d_law_582 (by decide) ?_
    refine W.widen (k := 40 + 10 * (k + 1)) (n := 6000 + 300 * (k + 1)) (by omega) (by omega) ?_
    exact kk _ _ _ ⟨o, z, K, r, i', f', _, rfl, hLS3⟩ hS3 (lv_sub hl [2, 3, 4, 5, 6] rfl)
theorem d_law_610 : decode code 610 = .ok (.aload_n 1, 1) := by decide +kernel
theorem d_law_611 : decode code 611 = .ok (.aload_n 0, 1) := by decide +kernel
theorem d_law_612 : decode code 612 = .ok (.iload 4, 2) := by decide +kernel
theorem d_law_614 : decode code 614 = .ok (.iconst 1, 1) := by decide +kernel
theorem d_law_615 : decode code 615 = .ok (.iadd, 1) := by decide +kernel
theorem d_law_616 : decode code 616 = .ok (.iaload, 1) := by decide +kernel
theorem d_law_617 : decode code 617 = .ok (.aload_n 0, 1) := by decide +kernel
theorem d_law_618 : decode code 618 = .ok (.iload 4, 2) := by decide +kernel
theorem d_law_620 : decode code 620 = .ok (.iconst 2, 1) := by decide +kernel
theorem d_law_621 : decode code 621 = .ok (.iadd, 1) := by decide +kernel
theorem d_law_622 : decode code 622 = .ok (.iaload, 1) := by decide +kernel
theorem d_law_623 : decode code 623 = .ok (.aload_n 0, 1) := by decide +kernel
theorem d_law_624 : decode code 624 = .ok (.iload 4, 2) := by decide +kernel
theorem d_law_626 : decode code 626 = .ok (.iconst 3, 1) := by decide +kernel
theorem d_law_627 : decode code 627 = .ok (.iadd, 1) := by decide +kernel
theorem d_law_628 : decode code 628 = .ok (.iaload, 1) := by decide +kernel
theorem d_law_629 : decode code 629 = .ok (.aload_n 3, 1) := by decide +kernel
theorem d_law_630 : decode code 630 = .ok (.invokestatic 118, 3) := by decide +kernel
theorem d_law_633 : decode code 633 = .ok (.istore 5, 2) := by decide +kernel
theorem d_law_635 : decode code 635 = .ok (.aload_n 2, 1) := by decide +kernel
theorem d_law_636 : decode code 636 = .ok (.aload_n 0, 1) := by decide +kernel
theorem d_law_637 : decode code 637 = .ok (.iload 4, 2) := by decide +kernel
theorem d_law_639 : decode code 639 = .ok (.iconst 1, 1) := by decide +kernel
theorem d_law_640 : decode code 640 = .ok (.iadd, 1) := by decide +kernel
theorem d_law_641 : decode code 641 = .ok (.iaload, 1) := by decide +kernel
theorem d_law_642 : decode code 642 = .ok (.aload_n 0, 1) := by decide +kernel
theorem d_law_643 : decode code 643 = .ok (.iload 4, 2) := by decide +kernel
theorem d_law_645 : decode code 645 = .ok (.iconst 2, 1) := by decide +kernel
theorem d_law_646 : decode code 646 = .ok (.iadd, 1) := by decide +kernel
theorem d_law_647 : decode code 647 = .ok (.iaload, 1) := by decide +kernel
theorem d_law_648 : decode code 648 = .ok (.aload_n 0, 1) := by decide +kernel
theorem d_law_649 : decode code 649 = .ok (.iload 4, 2) := by decide +kernel
theorem d_law_651 : decode code 651 = .ok (.iconst 3, 1) := by decide +kernel
theorem d_law_652 : decode code 652 = .ok (.iadd, 1) := by decide +kernel
theorem d_law_653 : decode code 653 = .ok (.iaload, 1) := by decide +kernel
theorem d_law_654 : decode code 654 = .ok (.invokevirtual 120, 3) := by decide +kernel
theorem d_law_657 : decode code 657 = .ok (.istore 6, 2) := by decide +kernel
theorem d_law_659 : decode code 659 = .ok (.aload_n 2, 1) := by decide +kernel
theorem d_law_660 : decode code 660 = .ok (.invokevirtual 83, 3) := by decide +kernel
theorem d_law_663 : decode code 663 = .ok (.iload 5, 2) := by decide +kernel
theorem d_law_665 : decode code 665 = .ok (.if_icmp .eq 5, 3) := by decide +kernel
theorem d_law_670 : decode code 670 = .ok (.iload 5, 2) := by decide +kernel
theorem d_law_672 : decode code 672 = .ok (.ifCond .ne 15, 3) := by decide +kernel
theorem d_law_675 : decode code 675 = .ok (.aload_n 3, 1) := by decide +kernel
theorem d_law_676 : decode code 676 = .ok (.iconst 0, 1) := by decide +kernel
theorem d_law_677 : decode code 677 = .ok (.laload, 1) := by decide +kernel
theorem d_law_678 : decode code 678 = .ok (.iload 6, 2) := by decide +kernel
theorem d_law_680 : decode code 680 = .ok (.i2l, 1) := by decide +kernel
theorem d_law_681 : decode code 681 = .ok (.lcmp, 1) := by decide +kernel
theorem d_law_682 : decode code 682 = .ok (.ifCond .eq 5, 3) := by decide +kernel
theorem d_law_687 : decode code 687 = .ok (.goto 704, 3) := by decide +kernel
set_option maxHeartbeats 4000000 in
set_option maxRecDepth 100000 in
theorem lc_decide {p : Program} {l : Launch} {e : Env} {s : State} {m : MethodId} {below : List Frame} {meth : Method} {c : Code} {H : Heap} {locs : List Loc} {b L : Nat} {xs : Nat → Int32} {D : va_G} {cs : Nat → ClassId} {x xm out k : Nat} {gm : Nat → Nat} {ls : Array Slot} {Q9 : State → Prop} (C : lawC p s m c b L xs D cs l) (hk9 : 5 * k + 5 ≤ L) (hX : lwX D cs s.heap.size H x xm gm out) (hS : va_S (lwA s.heap.size) s.heap H locs) (hl : lv_has ls 7 [(4, .int (nI (5 * k))), (0, .ref b), (1, .ref x), (2, .ref xm), (3, .ref out)])
    (kk : ∀ (H3 : Heap) (locs3 : List Loc) (ls3 : Array Slot), lwX D cs s.heap.size H3 x xm gm out → va_S (lwA s.heap.size) s.heap H3 locs3 → lv_has ls3 7 [(4, .int (nI (5 * k))), (0, .ref b), (1, .ref x), (2, .ref xm), (3, .ref out)] → W p l e room_1 s m #[Value.ref b] below meth c H3 locs3 (40 + 10 * (k + 1)) (6000 + 300 * (k + 1)) Q9 (F0 m 1391 ls3 [])) :
    W p l e room_1 s m #[Value.ref b] below meth c H locs (40 + 10 * k) (6000 + 300 * k) Q9 (F0 m 610 ls []) := by
  obtain ⟨hx, hb, hml, hown, hts, hXb, hbl, hl9, hB, hL⟩ := C
  have htg : ∀ w ∈ gw, w.before #[Value.ref b] s = true := fun w h => hts w (List.mem_filter.mp h).1
  have hK := hB.1
  obtain ⟨o, z, K, r, i, f, gl, hox, hLS⟩ := hX
  subst hox
  have hLS0 := hLS
  obtain ⟨hI, hMd, hsm, hout, hrel⟩ := hLS
  have hz0 := hS.1
  refine lv_aload_n hx hb d_law_610 rfl (lv_at hl 2 rfl) ?_
  refine lv_aload_n hx hb d_law_611 rfl (lv_at hl 1 rfl) ?_
  refine lv_iload hx hb d_law_612 (lv_at hl 0 rfl) ?_
  refine lv_iconst (v := 1) hx hb d_law_614 (by decide) ?_
  refine lv_iadd (x := (nI (5 * k))) (y := 1) hx hb d_law_615 ?_
  refine lv_eqi (y := (nI (5 * k + 1))) (nI_add (5 * k) 1) ?_
  refine va_sld hx hb hXb hbl (Nat.not_le.mpr hbl) hS (show vp_in (nI (5 * k + 1)) L from vp_in_nI (n := 5 * k + 1) (by omega) (by omega)) d_law_616 ?_
  refine lv_eqi (y := xs (5 * k + 1)) (by rw [nI_clamp (by omega)]) ?_
  refine lv_aload_n hx hb d_law_617 rfl (lv_at hl 1 rfl) ?_
  refine lv_iload hx hb d_law_618 (lv_at hl 0 rfl) ?_
  refine lv_iconst (v := 2) hx hb d_law_620 (by decide) ?_
  refine lv_iadd (x := (nI (5 * k))) (y := 2) hx hb d_law_621 ?_
  refine lv_eqi (y := (nI (5 * k + 2))) (nI_add (5 * k) 2) ?_
  refine va_sld hx hb hXb hbl (Nat.not_le.mpr hbl) hS (show vp_in (nI (5 * k + 2)) L from vp_in_nI (n := 5 * k + 2) (by omega) (by omega)) d_law_622 ?_
  refine lv_eqi (y := xs (5 * k + 2)) (by rw [nI_clamp (by omega)]) ?_
  refine lv_aload_n hx hb d_law_623 rfl (lv_at hl 1 rfl) ?_
  refine lv_iload hx hb d_law_624 (lv_at hl 0 rfl) ?_
  refine lv_iconst (v := 3) hx hb d_law_626 (by decide) ?_
  refine lv_iadd (x := (nI (5 * k))) (y := 3) hx hb d_law_627 ?_
  refine lv_eqi (y := (nI (5 * k + 3))) (nI_add (5 * k) 3) ?_
  refine va_sld hx hb hXb hbl (Nat.not_le.mpr hbl) hS (show vp_in (nI (5 * k + 3)) L from vp_in_nI (n := 5 * k + 3) (by omega) (by omega)) d_law_628 ?_
  refine lv_eqi (y := xs (5 * k + 3)) (by rw [nI_clamp (by omega)]) ?_
  refine lv_aload_n hx hb d_law_629 rfl (lv_at hl 4 rfl) ?_
  refine t_SW (n := 5) (As := [.ref (o 0 0), .int (xs (5 * k + 1)), .int (xs (5 * k + 2)), .int (xs (5 * k + 3)), .ref out]) (rest := []) ⟨hx, hb, hml, hown, htg⟩ (c_Lw_decide l D cs s.heap.size H hl9 o z K r H.size out gl ((xs (5 * k + 1))) ((xs (5 * k + 2))) ((xs (5 * k + 3))) hI rfl hout hsm.2.2.1 hsm.2.2.2.2) (lw_ws (hts _ (List.mem_of_getElem? (i := 828) (by decide +kernel))) rfl htg) List.mem_cons_self (hts _ (List.mem_of_getElem? (i := 828) (by decide +kernel))) (htg _ (gw_mem (i := 29) (by decide +kernel) rfl)) (by decide +kernel) (htg _ (gw_mem (i := 826) (by decide +kernel) rfl)) (htg _ (gw_mem (i := 827) (by decide +kernel) rfl)) ⟨hPre.blind, hPre.at hB hS (fun _ h9 => h9)⟩ rfl hl.1 rfl (lv_room (Nat.le_of_ble_eq_true rfl)) d_law_630 ⟨by show _ ≤ 601024; omega, by show _ ≤ 7293034; omega⟩ rfl rfl ⟨Nat.le_of_ble_eq_true rfl, Nat.le_of_ble_eq_true rfl⟩ (fun v9 H1 L9 hL9 hp9 hz9 hkk => ?_)
  have hS1 : va_S (lwA s.heap.size) s.heap H1 (locs ++ L9) := x_app hS hz9 (fun q h1 h2 => hkk q h1 (fun h => h2 (lw_sub hI hz0 hsm.2.2.2.2 h))) (fun q hq => lw_sub hI hz0 hsm.2.2.2.2 (hL9 q hq))
  have hz1 := hS1.1
  rcases hp9 with ⟨hv, wv, Hc, hpc, hout1, hsz, hfr⟩ | ⟨hv, hG, hout1, hsz, hfr⟩
  · subst hv
    refine W.eq (g2 := F0 m 633 ls [.int 0]) rfl ?_
    have hMd1 : md_I D cs H1 xm gm i f := hMd.keepA (fun q hq => hkk q (hMd.lt hq) (lw_not hsm hq (hMd.lt hq)))
    clear hS
    have hS := hS1
    refine lv_istore (lv' := [(5, .int 0), (4, .int (nI (5 * k))), (0, .ref b), (1, .ref (o 0 0)), (2, .ref xm), (3, .ref out)]) hx hb d_law_633 hl (by decide) rfl (fun ls hl => ?_)
    refine lv_aload_n hx hb d_law_635 rfl (lv_at hl 4 rfl) ?_
    refine lv_aload_n hx hb d_law_636 rfl (lv_at hl 2 rfl) ?_
    refine lv_iload hx hb d_law_637 (lv_at hl 1 rfl) ?_
    refine lv_iconst (v := 1) hx hb d_law_639 (by decide) ?_
    refine lv_iadd (x := (nI (5 * k))) (y := 1) hx hb d_law_640 ?_
    refine lv_eqi (y := (nI (5 * k + 1))) (nI_add (5 * k) 1) ?_
    refine va_sld hx hb hXb hbl (Nat.not_le.mpr hbl) hS (show vp_in (nI (5 * k + 1)) L from vp_in_nI (n := 5 * k + 1) (by omega) (by omega)) d_law_641 ?_
    refine lv_eqi (y := xs (5 * k + 1)) (by rw [nI_clamp (by omega)]) ?_
    refine lv_aload_n hx hb d_law_642 rfl (lv_at hl 2 rfl) ?_
    refine lv_iload hx hb d_law_643 (lv_at hl 1 rfl) ?_
    refine lv_iconst (v := 2) hx hb d_law_645 (by decide) ?_
    refine lv_iadd (x := (nI (5 * k))) (y := 2) hx hb d_law_646 ?_
    refine lv_eqi (y := (nI (5 * k + 2))) (nI_add (5 * k) 2) ?_
    refine va_sld hx hb hXb hbl (Nat.not_le.mpr hbl) hS (show vp_in (nI (5 * k + 2)) L from vp_in_nI (n := 5 * k + 2) (by omega) (by omega)) d_law_647 ?_
    refine lv_eqi (y := xs (5 * k + 2)) (by rw [nI_clamp (by omega)]) ?_
    refine lv_aload_n hx hb d_law_648 rfl (lv_at hl 2 rfl) ?_
    refine lv_iload hx hb d_law_649 (lv_at hl 1 rfl) ?_
    refine lv_iconst (v := 3) hx hb d_law_651 (by decide) ?_
    refine lv_iadd (x := (nI (5 * k))) (y := 3) hx hb d_law_652 ?_
    refine lv_eqi (y := (nI (5 * k + 3))) (nI_add (5 * k) 3) ?_
    refine va_sld hx hb hXb hbl (Nat.not_le.mpr hbl) hS (show vp_in (nI (5 * k + 3)) L from vp_in_nI (n := 5 * k + 3) (by omega) (by omega)) d_law_653 ?_
    refine lv_eqi (y := xs (5 * k + 3)) (by rw [nI_clamp (by omega)]) ?_
    refine h_calli (va_runV (As := [.int (xs (5 * k + 1)), .int (xs (5 * k + 2)), .int (xs (5 * k + 3))]) (rest := []) ⟨hx, hb, hml, hown, htg⟩ (c_Md_decide l D cs s.heap.size H1 xm gm i f ((xs (5 * k + 1))) ((xs (5 * k + 2))) ((xs (5 * k + 3))) hsm.1 hMd1 (z 3 0) hrel.nam hrel.bnd.2.2.1) ⟨x_cwB 3 htg (gw_mem (i := 1155) (by decide +kernel) rfl) (gw_mem (i := 38) (by decide +kernel) rfl) (gw_mem (i := 1152) (by decide +kernel) rfl) (by decide +kernel) ⟨Nat.le_of_ble_eq_true rfl, Nat.le_of_ble_eq_true rfl⟩, htg _ (gw_mem (i := 1153) (by decide +kernel) rfl), htg _ (gw_mem (i := 1154) (by decide +kernel) rfl)⟩ ⟨hPre.blind, hx_recv hK (ci := 0) rfl hMd1.1, hPre.at hB hS1 (fun _ h9 => h9)⟩ rfl rfl hl.1 rfl (lv_room (Nat.le_of_ble_eq_true rfl)) d_law_654 ⟨by show _ ≤ 601024; omega, by show _ ≤ 7293034; omega⟩) hS1 hsm.1.A (fun r9 H2 locs2 hm hz2 hk2 hS2 => ?_)
    have hS := hS2
    obtain ⟨hw, o', z', K', r', i', f', hn, hrr, hmd, hi0, hrel2, ho0⟩ := gl_decide (N := H.size) hI hrel hpc hm
    obtain ⟨c1, c2, c3⟩ := hLS0.cls hn hrr hkk hfr
    have hLS2 := lwS.mdl c1 c3 hout1 hk2 hmd hrel2
    refine lv_istore (lv' := [(6, .int r9), (5, .int 0), (4, .int (nI (5 * k))), (0, .ref b), (1, .ref (o 0 0)), (2, .ref xm), (3, .ref out)]) hx hb d_law_657 hl (by decide) rfl (fun ls hl => ?_)
    refine lv_aload_n hx hb d_law_659 rfl (lv_at hl 5 rfl) ?_
    refine h_calli (va_runV (As := []) (rest := []) ⟨hx, hb, hml, hown, htg⟩ (c_Md_thrown l D cs s.heap.size H2 xm gm i' f' hsm.1 hmd) ⟨x_cwB 0 htg (gw_mem (i := 1087) (by decide +kernel) rfl) (gw_mem (i := 38) (by decide +kernel) rfl) (gw_mem (i := 1084) (by decide +kernel) rfl) (by decide +kernel) ⟨Nat.le_of_ble_eq_true rfl, Nat.le_of_ble_eq_true rfl⟩, htg _ (gw_mem (i := 1085) (by decide +kernel) rfl), htg _ (gw_mem (i := 1086) (by decide +kernel) rfl)⟩ ⟨hPre.blind, hx_recv hK (ci := 0) rfl hmd.1, hPre.at hB hS2 (fun _ h9 => h9)⟩ rfl rfl hl.1 rfl (lv_room (Nat.le_of_ble_eq_true rfl)) d_law_660 ⟨by show _ ≤ 601024; omega, by show _ ≤ 7293034; omega⟩) hS2 hsm.1.A (fun r3 H3 locs3 hm3 hz3 hk3 hS3 => ?_)
    obtain ⟨hmd3, hr3⟩ := hm3
    have hLS3 := lwS.mdl hLS2.1 hLS2.2.2.1 hLS2.2.2.2.1 hk3 hmd3 hrel2
    rw [hi0] at hr3
    subst hr3
    refine lv_iload hx hb d_law_663 (lv_at hl 1 rfl) ?_
    refine lv_icmp_eq (tgt := 670) hx hb d_law_665 (by decide) (fun _ => ?_) (fun h9 => absurd rfl h9)
    refine lv_iload hx hb d_law_670 (lv_at hl 1 rfl) ?_
    refine lv_if_ne (tgt := 687) hx hb d_law_672 (by decide) (fun h9 => absurd rfl h9) (fun _ => ?_)
    refine lv_aload_n hx hb d_law_675 rfl (lv_at hl 6 rfl) ?_
    refine lv_iconst (v := 0) hx hb d_law_676 (by decide) ?_
    refine hx_lald hx hb hK 3 hLS3.2.2.2.1 rfl (show vp_in 0 1 from vp_in_nI (n := 0) (by decide) (by decide)) d_law_677 ?_
    refine lv_eqv (y := .long (wv.toInt64)) (show Value.long (vp_updL gl 0 wv.toInt64 0) = _ by rw [updL_self]) ?_
    subst hw
    refine lv_iload hx hb d_law_678 (lv_at hl 0 rfl) ?_
    refine lv_i2l (v := wv.toInt64) hx hb d_law_680 rfl ?_
    skip
    refine W.lcmp hx hb d_law_681 ?_
    refine lv_eqi (y := 0) (lcx _) ?_
    refine lv_if_eq (x := 0) (tgt := 687) hx hb d_law_682 (by decide) (fun _ => ?_) (fun h9 => absurd rfl h9)
    refine lv_goto (tgt := 1391) hx hb d_law_687 (by decide) ?_
    refine W.widen (k := 40 + 10 * (k + 1)) (n := 6000 + 300 * (k + 1)) (by omega) (by omega) ?_
    exact kk _ _ _ ⟨o', z', K', r', i', f', _, ho0, hLS3⟩ hS3 (lv_sub hl [2, 3, 4, 5, 6] rfl)
  · subst hv
    obtain ⟨G9, hG9⟩ : ∃ y, y = goV (isN (z 3 0) ((xs (5 * k + 1))) && isN (z 3 0) ((xs (5 * k + 2)))) (!decide (((xs (5 * k + 1))) = ((xs (5 * k + 2)))) && !decide (((xs (5 * k + 3))) < 0) && !decide (2 < ((xs (5 * k + 3))))) true := ⟨_, rfl⟩
    have hG0 := hG
    rw [← hG9] at hG ⊢
    refine W.eq (g2 := F0 m 633 ls [.int G9]) rfl ?_
    have hLS1 := hLS0.same hfr
    have hMd1 := hLS1.2.1
    clear hS
    have hS := hS1
    refine lv_istore (lv' := [(5, .int G9), (4, .int (nI (5 * k))), (0, .ref b), (1, .ref (o 0 0)), (2, .ref xm), (3, .ref out)]) hx hb d_law_633 hl (by decide) rfl (fun ls hl => ?_)
    refine lv_aload_n hx hb d_law_635 rfl (lv_at hl 4 rfl) ?_
    refine lv_aload_n hx hb d_law_636 rfl (lv_at hl 2 rfl) ?_
    refine lv_iload hx hb d_law_637 (lv_at hl 1 rfl) ?_
    refine lv_iconst (v := 1) hx hb d_law_639 (by decide) ?_
    refine lv_iadd (x := (nI (5 * k))) (y := 1) hx hb d_law_640 ?_
    refine lv_eqi (y := (nI (5 * k + 1))) (nI_add (5 * k) 1) ?_
    refine va_sld hx hb hXb hbl (Nat.not_le.mpr hbl) hS (show vp_in (nI (5 * k + 1)) L from vp_in_nI (n := 5 * k + 1) (by omega) (by omega)) d_law_641 ?_
    refine lv_eqi (y := xs (5 * k + 1)) (by rw [nI_clamp (by omega)]) ?_
    refine lv_aload_n hx hb d_law_642 rfl (lv_at hl 2 rfl) ?_
    refine lv_iload hx hb d_law_643 (lv_at hl 1 rfl) ?_
    refine lv_iconst (v := 2) hx hb d_law_645 (by decide) ?_
    refine lv_iadd (x := (nI (5 * k))) (y := 2) hx hb d_law_646 ?_
    refine lv_eqi (y := (nI (5 * k + 2))) (nI_add (5 * k) 2) ?_
    refine va_sld hx hb hXb hbl (Nat.not_le.mpr hbl) hS (show vp_in (nI (5 * k + 2)) L from vp_in_nI (n := 5 * k + 2) (by omega) (by omega)) d_law_647 ?_
    refine lv_eqi (y := xs (5 * k + 2)) (by rw [nI_clamp (by omega)]) ?_
    refine lv_aload_n hx hb d_law_648 rfl (lv_at hl 2 rfl) ?_
    refine lv_iload hx hb d_law_649 (lv_at hl 1 rfl) ?_
    refine lv_iconst (v := 3) hx hb d_law_651 (by decide) ?_
    refine lv_iadd (x := (nI (5 * k))) (y := 3) hx hb d_law_652 ?_
    refine lv_eqi (y := (nI (5 * k + 3))) (nI_add (5 * k) 3) ?_
    refine va_sld hx hb hXb hbl (Nat.not_le.mpr hbl) hS (show vp_in (nI (5 * k + 3)) L from vp_in_nI (n := 5 * k + 3) (by omega) (by omega)) d_law_653 ?_
    refine lv_eqi (y := xs (5 * k + 3)) (by rw [nI_clamp (by omega)]) ?_
    refine h_calli (va_runV (As := [.int (xs (5 * k + 1)), .int (xs (5 * k + 2)), .int (xs (5 * k + 3))]) (rest := []) ⟨hx, hb, hml, hown, htg⟩ (c_Md_decide l D cs s.heap.size H1 xm gm i f ((xs (5 * k + 1))) ((xs (5 * k + 2))) ((xs (5 * k + 3))) hsm.1 hMd1 (z 3 0) hrel.nam hrel.bnd.2.2.1) ⟨x_cwB 3 htg (gw_mem (i := 1155) (by decide +kernel) rfl) (gw_mem (i := 38) (by decide +kernel) rfl) (gw_mem (i := 1152) (by decide +kernel) rfl) (by decide +kernel) ⟨Nat.le_of_ble_eq_true rfl, Nat.le_of_ble_eq_true rfl⟩, htg _ (gw_mem (i := 1153) (by decide +kernel) rfl), htg _ (gw_mem (i := 1154) (by decide +kernel) rfl)⟩ ⟨hPre.blind, hx_recv hK (ci := 0) rfl hMd1.1, hPre.at hB hS1 (fun _ h9 => h9)⟩ rfl rfl hl.1 rfl (lv_room (Nat.le_of_ble_eq_true rfl)) d_law_654 ⟨by show _ ≤ 601024; omega, by show _ ≤ 7293034; omega⟩) hS1 hsm.1.A (fun r9 H2 locs2 hm hz2 hk2 hS2 => ?_)
    have hS := hS2
    obtain ⟨i', f', hmd, hi0, hrel2⟩ := gx_decide hrel hG0 hm
    have hLS2 := lwS.mdl hLS1.1 hsm hout1 hk2 hmd hrel2
    refine lv_istore (lv' := [(6, .int r9), (5, .int G9), (4, .int (nI (5 * k))), (0, .ref b), (1, .ref (o 0 0)), (2, .ref xm), (3, .ref out)]) hx hb d_law_657 hl (by decide) rfl (fun ls hl => ?_)
    refine lv_aload_n hx hb d_law_659 rfl (lv_at hl 5 rfl) ?_
    refine h_calli (va_runV (As := []) (rest := []) ⟨hx, hb, hml, hown, htg⟩ (c_Md_thrown l D cs s.heap.size H2 xm gm i' f' hsm.1 hmd) ⟨x_cwB 0 htg (gw_mem (i := 1087) (by decide +kernel) rfl) (gw_mem (i := 38) (by decide +kernel) rfl) (gw_mem (i := 1084) (by decide +kernel) rfl) (by decide +kernel) ⟨Nat.le_of_ble_eq_true rfl, Nat.le_of_ble_eq_true rfl⟩, htg _ (gw_mem (i := 1085) (by decide +kernel) rfl), htg _ (gw_mem (i := 1086) (by decide +kernel) rfl)⟩ ⟨hPre.blind, hx_recv hK (ci := 0) rfl hmd.1, hPre.at hB hS2 (fun _ h9 => h9)⟩ rfl rfl hl.1 rfl (lv_room (Nat.le_of_ble_eq_true rfl)) d_law_660 ⟨by show _ ≤ 601024; omega, by show _ ≤ 7293034; omega⟩) hS2 hsm.1.A (fun r3 H3 locs3 hm3 hz3 hk3 hS3 => ?_)
    obtain ⟨hmd3, hr3⟩ := hm3
    have hLS3 := lwS.mdl hLS2.1 hLS2.2.2.1 hLS2.2.2.2.1 hk3 hmd3 hrel2
    rw [hi0, ← hG9] at hr3
    subst hr3
    refine lv_iload hx hb d_law_663 (lv_at hl 1 rfl) ?_
    refine lv_icmp_eq (tgt := 670) hx hb d_law_665 (by decide) (fun _ => ?_) (fun h9 => absurd rfl h9)
    refine lv_iload hx hb d_law_670 (lv_at hl 1 rfl) ?_
    refine lv_if_ne (tgt := 687) hx hb d_law_672 (by decide) (fun _ => ?_) (fun h9 => absurd h9 (by simpa using hG))
    refine lv_goto (tgt := 1391) hx hb d_law_687 (by decide) ?_
    refine W.widen (k := 40 + 10 * (k + 1)) (n := 6000 + 300 * (k + 1)) (by omega) (by omega) ?_
    exact kk _ _ _ ⟨o, z, K, r, i', f', _, rfl, hLS3⟩ hS3 (lv_sub hl [2, 3, 4, 5, 6] rfl)
theorem d_law_690 : decode code 690 = .ok (.aload_n 1, 1) := by decide +kernel
theorem d_law_691 : decode code 691 = .ok (.aload_n 0, 1) := by decide +kernel
theorem d_law_692 : decode code 692 = .ok (.iload 4, 2) := by decide +kernel
theorem d_law_694 : decode code 694 = .ok (.iconst 1, 1) := by decide +kernel
theorem d_law_695 : decode code 695 = .ok (.iadd, 1) := by decide +kernel
theorem d_law_696 : decode code 696 = .ok (.iaload, 1) := by decide +kernel
theorem d_law_697 : decode code 697 = .ok (.aload_n 0, 1) := by decide +kernel
theorem d_law_698 : decode code 698 = .ok (.iload 4, 2) := by decide +kernel
theorem d_law_700 : decode code 700 = .ok (.iconst 2, 1) := by decide +kernel
theorem d_law_701 : decode code 701 = .ok (.iadd, 1) := by decide +kernel
theorem d_law_702 : decode code 702 = .ok (.iaload, 1) := by decide +kernel
theorem d_law_703 : decode code 703 = .ok (.aload_n 0, 1) := by decide +kernel
theorem d_law_704 : decode code 704 = .ok (.iload 4, 2) := by decide +kernel
theorem d_law_706 : decode code 706 = .ok (.iconst 3, 1) := by decide +kernel
theorem d_law_707 : decode code 707 = .ok (.iadd, 1) := by decide +kernel
theorem d_law_708 : decode code 708 = .ok (.iaload, 1) := by decide +kernel
theorem d_law_709 : decode code 709 = .ok (.aload_n 3, 1) := by decide +kernel
theorem d_law_710 : decode code 710 = .ok (.invokestatic 121, 3) := by decide +kernel
theorem d_law_713 : decode code 713 = .ok (.istore 5, 2) := by decide +kernel
theorem d_law_715 : decode code 715 = .ok (.aload_n 2, 1) := by decide +kernel
theorem d_law_716 : decode code 716 = .ok (.aload_n 0, 1) := by decide +kernel
theorem d_law_717 : decode code 717 = .ok (.iload 4, 2) := by decide +kernel
theorem d_law_719 : decode code 719 = .ok (.iconst 1, 1) := by decide +kernel
theorem d_law_720 : decode code 720 = .ok (.iadd, 1) := by decide +kernel
theorem d_law_721 : decode code 721 = .ok (.iaload, 1) := by decide +kernel
theorem d_law_722 : decode code 722 = .ok (.aload_n 0, 1) := by decide +kernel
theorem d_law_723 : decode code 723 = .ok (.iload 4, 2) := by decide +kernel
theorem d_law_725 : decode code 725 = .ok (.iconst 2, 1) := by decide +kernel
theorem d_law_726 : decode code 726 = .ok (.iadd, 1) := by decide +kernel
theorem d_law_727 : decode code 727 = .ok (.iaload, 1) := by decide +kernel
theorem d_law_728 : decode code 728 = .ok (.aload_n 0, 1) := by decide +kernel
theorem d_law_729 : decode code 729 = .ok (.iload 4, 2) := by decide +kernel
theorem d_law_731 : decode code 731 = .ok (.iconst 3, 1) := by decide +kernel
theorem d_law_732 : decode code 732 = .ok (.iadd, 1) := by decide +kernel
theorem d_law_733 : decode code 733 = .ok (.iaload, 1) := by decide +kernel
theorem d_law_734 : decode code 734 = .ok (.invokevirtual 123, 3) := by decide +kernel
theorem d_law_737 : decode code 737 = .ok (.istore 6, 2) := by decide +kernel
theorem d_law_739 : decode code 739 = .ok (.aload_n 2, 1) := by decide +kernel
theorem d_law_740 : decode code 740 = .ok (.invokevirtual 83, 3) := by decide +kernel
theorem d_law_743 : decode code 743 = .ok (.iload 5, 2) := by decide +kernel
theorem d_law_745 : decode code 745 = .ok (.if_icmp .eq 5, 3) := by decide +kernel
theorem d_law_750 : decode code 750 = .ok (.iload 5, 2) := by decide +kernel
theorem d_law_752 : decode code 752 = .ok (.ifCond .ne 15, 3) := by decide +kernel
theorem d_law_755 : decode code 755 = .ok (.aload_n 3, 1) := by decide +kernel
theorem d_law_756 : decode code 756 = .ok (.iconst 0, 1) := by decide +kernel
theorem d_law_757 : decode code 757 = .ok (.laload, 1) := by decide +kernel
theorem d_law_758 : decode code 758 = .ok (.iload 6, 2) := by decide +kernel
theorem d_law_760 : decode code 760 = .ok (.i2l, 1) := by decide +kernel
theorem d_law_761 : decode code 761 = .ok (.lcmp, 1) := by decide +kernel
theorem d_law_762 : decode code 762 = .ok (.ifCond .eq 5, 3) := by decide +kernel
theorem d_law_767 : decode code 767 = .ok (.goto 624, 3) := by decide +kernel
set_option maxHeartbeats 4000000 in
set_option maxRecDepth 100000 in
theorem lc_merge {p : Program} {l : Launch} {e : Env} {s : State} {m : MethodId} {below : List Frame} {meth : Method} {c : Code} {H : Heap} {locs : List Loc} {b L : Nat} {xs : Nat → Int32} {D : va_G} {cs : Nat → ClassId} {x xm out k : Nat} {gm : Nat → Nat} {ls : Array Slot} {Q9 : State → Prop} (C : lawC p s m c b L xs D cs l) (hk9 : 5 * k + 5 ≤ L) (hX : lwX D cs s.heap.size H x xm gm out) (hS : va_S (lwA s.heap.size) s.heap H locs) (hl : lv_has ls 7 [(4, .int (nI (5 * k))), (0, .ref b), (1, .ref x), (2, .ref xm), (3, .ref out)])
    (kk : ∀ (H3 : Heap) (locs3 : List Loc) (ls3 : Array Slot), lwX D cs s.heap.size H3 x xm gm out → va_S (lwA s.heap.size) s.heap H3 locs3 → lv_has ls3 7 [(4, .int (nI (5 * k))), (0, .ref b), (1, .ref x), (2, .ref xm), (3, .ref out)] → W p l e room_1 s m #[Value.ref b] below meth c H3 locs3 (40 + 10 * (k + 1)) (6000 + 300 * (k + 1)) Q9 (F0 m 1391 ls3 [])) :
    W p l e room_1 s m #[Value.ref b] below meth c H locs (40 + 10 * k) (6000 + 300 * k) Q9 (F0 m 690 ls []) := by
  obtain ⟨hx, hb, hml, hown, hts, hXb, hbl, hl9, hB, hL⟩ := C
  have htg : ∀ w ∈ gw, w.before #[Value.ref b] s = true := fun w h => hts w (List.mem_filter.mp h).1
  have hK := hB.1
  obtain ⟨o, z, K, r, i, f, gl, hox, hLS⟩ := hX
  subst hox
  have hLS0 := hLS
  obtain ⟨hI, hMd, hsm, hout, hrel⟩ := hLS
  have hz0 := hS.1
  obtain ⟨mo, mt, ho9, ht9, hmm, hgr⟩ := hrel.grp
  refine lv_aload_n hx hb d_law_690 rfl (lv_at hl 2 rfl) ?_
  refine lv_aload_n hx hb d_law_691 rfl (lv_at hl 1 rfl) ?_
  refine lv_iload hx hb d_law_692 (lv_at hl 0 rfl) ?_
  refine lv_iconst (v := 1) hx hb d_law_694 (by decide) ?_
  refine lv_iadd (x := (nI (5 * k))) (y := 1) hx hb d_law_695 ?_
  refine lv_eqi (y := (nI (5 * k + 1))) (nI_add (5 * k) 1) ?_
  refine va_sld hx hb hXb hbl (Nat.not_le.mpr hbl) hS (show vp_in (nI (5 * k + 1)) L from vp_in_nI (n := 5 * k + 1) (by omega) (by omega)) d_law_696 ?_
  refine lv_eqi (y := xs (5 * k + 1)) (by rw [nI_clamp (by omega)]) ?_
  refine lv_aload_n hx hb d_law_697 rfl (lv_at hl 1 rfl) ?_
  refine lv_iload hx hb d_law_698 (lv_at hl 0 rfl) ?_
  refine lv_iconst (v := 2) hx hb d_law_700 (by decide) ?_
  refine lv_iadd (x := (nI (5 * k))) (y := 2) hx hb d_law_701 ?_
  refine lv_eqi (y := (nI (5 * k + 2))) (nI_add (5 * k) 2) ?_
  refine va_sld hx hb hXb hbl (Nat.not_le.mpr hbl) hS (show vp_in (nI (5 * k + 2)) L from vp_in_nI (n := 5 * k + 2) (by omega) (by omega)) d_law_702 ?_
  refine lv_eqi (y := xs (5 * k + 2)) (by rw [nI_clamp (by omega)]) ?_
  refine lv_aload_n hx hb d_law_703 rfl (lv_at hl 1 rfl) ?_
  refine lv_iload hx hb d_law_704 (lv_at hl 0 rfl) ?_
  refine lv_iconst (v := 3) hx hb d_law_706 (by decide) ?_
  refine lv_iadd (x := (nI (5 * k))) (y := 3) hx hb d_law_707 ?_
  refine lv_eqi (y := (nI (5 * k + 3))) (nI_add (5 * k) 3) ?_
  refine va_sld hx hb hXb hbl (Nat.not_le.mpr hbl) hS (show vp_in (nI (5 * k + 3)) L from vp_in_nI (n := 5 * k + 3) (by omega) (by omega)) d_law_708 ?_
  refine lv_eqi (y := xs (5 * k + 3)) (by rw [nI_clamp (by omega)]) ?_
  refine lv_aload_n hx hb d_law_709 rfl (lv_at hl 4 rfl) ?_
  refine t_SW (n := 5) (As := [.ref (o 0 0), .int (xs (5 * k + 1)), .int (xs (5 * k + 2)), .int (xs (5 * k + 3)), .ref out]) (rest := []) ⟨hx, hb, hml, hown, htg⟩ (c_Lw_merge l D cs s.heap.size H hl9 o z K r H.size out gl ((xs (5 * k + 1))) ((xs (5 * k + 2))) ((xs (5 * k + 3))) hI rfl hout hsm.2.2.1 hsm.2.2.2.2) (lw_ws (hts _ (List.mem_of_getElem? (i := 840) (by decide +kernel))) rfl htg) List.mem_cons_self (hts _ (List.mem_of_getElem? (i := 840) (by decide +kernel))) (htg _ (gw_mem (i := 29) (by decide +kernel) rfl)) (by decide +kernel) (htg _ (gw_mem (i := 838) (by decide +kernel) rfl)) (htg _ (gw_mem (i := 839) (by decide +kernel) rfl)) ⟨hPre.blind, hPre.at hB hS (fun _ h9 => h9)⟩ rfl hl.1 rfl (lv_room (Nat.le_of_ble_eq_true rfl)) d_law_710 ⟨by show _ ≤ 601024; omega, by show _ ≤ 7293034; omega⟩ rfl rfl ⟨Nat.le_of_ble_eq_true rfl, Nat.le_of_ble_eq_true rfl⟩ (fun v9 H1 L9 hL9 hp9 hz9 hkk => ?_)
  have hS1 : va_S (lwA s.heap.size) s.heap H1 (locs ++ L9) := x_app hS hz9 (fun q h1 h2 => hkk q h1 (fun h => h2 (lw_sub hI hz0 hsm.2.2.2.2 h))) (fun q hq => lw_sub hI hz0 hsm.2.2.2.2 (hL9 q hq))
  have hz1 := hS1.1
  rcases hp9 with ⟨hv, wv, Hc, hpc, hout1, hsz, hfr⟩ | ⟨hv, hG, hout1, hsz, hfr⟩
  · subst hv
    refine W.eq (g2 := F0 m 713 ls [.int 0]) rfl ?_
    have hMd1 : md_I D cs H1 xm gm i f := hMd.keepA (fun q hq => hkk q (hMd.lt hq) (lw_not hsm hq (hMd.lt hq)))
    clear hS
    have hS := hS1
    refine lv_istore (lv' := [(5, .int 0), (4, .int (nI (5 * k))), (0, .ref b), (1, .ref (o 0 0)), (2, .ref xm), (3, .ref out)]) hx hb d_law_713 hl (by decide) rfl (fun ls hl => ?_)
    refine lv_aload_n hx hb d_law_715 rfl (lv_at hl 4 rfl) ?_
    refine lv_aload_n hx hb d_law_716 rfl (lv_at hl 2 rfl) ?_
    refine lv_iload hx hb d_law_717 (lv_at hl 1 rfl) ?_
    refine lv_iconst (v := 1) hx hb d_law_719 (by decide) ?_
    refine lv_iadd (x := (nI (5 * k))) (y := 1) hx hb d_law_720 ?_
    refine lv_eqi (y := (nI (5 * k + 1))) (nI_add (5 * k) 1) ?_
    refine va_sld hx hb hXb hbl (Nat.not_le.mpr hbl) hS (show vp_in (nI (5 * k + 1)) L from vp_in_nI (n := 5 * k + 1) (by omega) (by omega)) d_law_721 ?_
    refine lv_eqi (y := xs (5 * k + 1)) (by rw [nI_clamp (by omega)]) ?_
    refine lv_aload_n hx hb d_law_722 rfl (lv_at hl 2 rfl) ?_
    refine lv_iload hx hb d_law_723 (lv_at hl 1 rfl) ?_
    refine lv_iconst (v := 2) hx hb d_law_725 (by decide) ?_
    refine lv_iadd (x := (nI (5 * k))) (y := 2) hx hb d_law_726 ?_
    refine lv_eqi (y := (nI (5 * k + 2))) (nI_add (5 * k) 2) ?_
    refine va_sld hx hb hXb hbl (Nat.not_le.mpr hbl) hS (show vp_in (nI (5 * k + 2)) L from vp_in_nI (n := 5 * k + 2) (by omega) (by omega)) d_law_727 ?_
    refine lv_eqi (y := xs (5 * k + 2)) (by rw [nI_clamp (by omega)]) ?_
    refine lv_aload_n hx hb d_law_728 rfl (lv_at hl 2 rfl) ?_
    refine lv_iload hx hb d_law_729 (lv_at hl 1 rfl) ?_
    refine lv_iconst (v := 3) hx hb d_law_731 (by decide) ?_
    refine lv_iadd (x := (nI (5 * k))) (y := 3) hx hb d_law_732 ?_
    refine lv_eqi (y := (nI (5 * k + 3))) (nI_add (5 * k) 3) ?_
    refine va_sld hx hb hXb hbl (Nat.not_le.mpr hbl) hS (show vp_in (nI (5 * k + 3)) L from vp_in_nI (n := 5 * k + 3) (by omega) (by omega)) d_law_733 ?_
    refine lv_eqi (y := xs (5 * k + 3)) (by rw [nI_clamp (by omega)]) ?_
    refine h_calli (va_runV (As := [.int (xs (5 * k + 1)), .int (xs (5 * k + 2)), .int (xs (5 * k + 3))]) (rest := []) ⟨hx, hb, hml, hown, htg⟩ (c_Md_merge l D cs s.heap.size H1 xm gm i f ((xs (5 * k + 1))) ((xs (5 * k + 2))) ((xs (5 * k + 3))) hsm.1 hMd1 (z 3 0) hrel.nam hrel.bnd.2.2.1 (z 5 0) hrel.mrg.1 hrel.bnd.2.2.2.1 mo mt ho9 ht9) ⟨x_cwB 3 htg (gw_mem (i := 1159) (by decide +kernel) rfl) (gw_mem (i := 38) (by decide +kernel) rfl) (gw_mem (i := 1156) (by decide +kernel) rfl) (by decide +kernel) ⟨Nat.le_of_ble_eq_true rfl, Nat.le_of_ble_eq_true rfl⟩, htg _ (gw_mem (i := 1157) (by decide +kernel) rfl), htg _ (gw_mem (i := 1158) (by decide +kernel) rfl)⟩ ⟨hPre.blind, hx_recv hK (ci := 0) rfl hMd1.1, hPre.at hB hS1 (fun _ h9 => h9)⟩ rfl rfl hl.1 rfl (lv_room (Nat.le_of_ble_eq_true rfl)) d_law_734 ⟨by show _ ≤ 601024; omega, by show _ ≤ 7293034; omega⟩) hS1 hsm.1.A (fun r9 H2 locs2 hm hz2 hk2 hS2 => ?_)
    have hS := hS2
    obtain ⟨hw, o', z', K', r', i', f', hn, hrr, hmd, hi0, hrel2, ho0⟩ := gl_merge (N := H.size) hI hrel hmm hgr hpc hm
    obtain ⟨c1, c2, c3⟩ := hLS0.cls hn hrr hkk hfr
    have hLS2 := lwS.mdl c1 c3 hout1 hk2 hmd hrel2
    refine lv_istore (lv' := [(6, .int r9), (5, .int 0), (4, .int (nI (5 * k))), (0, .ref b), (1, .ref (o 0 0)), (2, .ref xm), (3, .ref out)]) hx hb d_law_737 hl (by decide) rfl (fun ls hl => ?_)
    refine lv_aload_n hx hb d_law_739 rfl (lv_at hl 5 rfl) ?_
    refine h_calli (va_runV (As := []) (rest := []) ⟨hx, hb, hml, hown, htg⟩ (c_Md_thrown l D cs s.heap.size H2 xm gm i' f' hsm.1 hmd) ⟨x_cwB 0 htg (gw_mem (i := 1087) (by decide +kernel) rfl) (gw_mem (i := 38) (by decide +kernel) rfl) (gw_mem (i := 1084) (by decide +kernel) rfl) (by decide +kernel) ⟨Nat.le_of_ble_eq_true rfl, Nat.le_of_ble_eq_true rfl⟩, htg _ (gw_mem (i := 1085) (by decide +kernel) rfl), htg _ (gw_mem (i := 1086) (by decide +kernel) rfl)⟩ ⟨hPre.blind, hx_recv hK (ci := 0) rfl hmd.1, hPre.at hB hS2 (fun _ h9 => h9)⟩ rfl rfl hl.1 rfl (lv_room (Nat.le_of_ble_eq_true rfl)) d_law_740 ⟨by show _ ≤ 601024; omega, by show _ ≤ 7293034; omega⟩) hS2 hsm.1.A (fun r3 H3 locs3 hm3 hz3 hk3 hS3 => ?_)
    obtain ⟨hmd3, hr3⟩ := hm3
    have hLS3 := lwS.mdl hLS2.1 hLS2.2.2.1 hLS2.2.2.2.1 hk3 hmd3 hrel2
    rw [hi0] at hr3
    subst hr3
    refine lv_iload hx hb d_law_743 (lv_at hl 1 rfl) ?_
    refine lv_icmp_eq (tgt := 750) hx hb d_law_745 (by decide) (fun _ => ?_) (fun h9 => absurd rfl h9)
    refine lv_iload hx hb d_law_750 (lv_at hl 1 rfl) ?_
    refine lv_if_ne (tgt := 767) hx hb d_law_752 (by decide) (fun h9 => absurd rfl h9) (fun _ => ?_)
    refine lv_aload_n hx hb d_law_755 rfl (lv_at hl 6 rfl) ?_
    refine lv_iconst (v := 0) hx hb d_law_756 (by decide) ?_
    refine hx_lald hx hb hK 3 hLS3.2.2.2.1 rfl (show vp_in 0 1 from vp_in_nI (n := 0) (by decide) (by decide)) d_law_757 ?_
    refine lv_eqv (y := .long (wv.toInt64)) (show Value.long (vp_updL gl 0 wv.toInt64 0) = _ by rw [updL_self]) ?_
    subst hw
    refine lv_iload hx hb d_law_758 (lv_at hl 0 rfl) ?_
    refine lv_i2l (v := wv.toInt64) hx hb d_law_760 rfl ?_
    skip
    refine W.lcmp hx hb d_law_761 ?_
    refine lv_eqi (y := 0) (lcx _) ?_
    refine lv_if_eq (x := 0) (tgt := 767) hx hb d_law_762 (by decide) (fun _ => ?_) (fun h9 => absurd rfl h9)
    refine lv_goto (tgt := 1391) hx hb d_law_767 (by decide) ?_
    refine W.widen (k := 40 + 10 * (k + 1)) (n := 6000 + 300 * (k + 1)) (by omega) (by omega) ?_
    exact kk _ _ _ ⟨o', z', K', r', i', f', _, ho0, hLS3⟩ hS3 (lv_sub hl [2, 3, 4, 5, 6] rfl)
  · subst hv
    obtain ⟨G9, hG9⟩ : ∃ y, y = goV (isN (z 3 0) ((xs (5 * k + 1))) && isN (z 3 0) ((xs (5 * k + 2)))) (decide (z 5 0 < 60)) (!decide (((xs (5 * k + 1))) = ((xs (5 * k + 2)))) && isD ((xs (5 * k + 3)))) := ⟨_, rfl⟩
    have hG0 := hG
    rw [← hG9] at hG ⊢
    refine W.eq (g2 := F0 m 713 ls [.int G9]) rfl ?_
    have hLS1 := hLS0.same hfr
    have hMd1 := hLS1.2.1
    clear hS
    have hS := hS1
    refine lv_istore (lv' := [(5, .int G9), (4, .int (nI (5 * k))), (0, .ref b), (1, .ref (o 0 0)), (2, .ref xm), (3, .ref out)]) hx hb d_law_713 hl (by decide) rfl (fun ls hl => ?_)
    refine lv_aload_n hx hb d_law_715 rfl (lv_at hl 4 rfl) ?_
    refine lv_aload_n hx hb d_law_716 rfl (lv_at hl 2 rfl) ?_
    refine lv_iload hx hb d_law_717 (lv_at hl 1 rfl) ?_
    refine lv_iconst (v := 1) hx hb d_law_719 (by decide) ?_
    refine lv_iadd (x := (nI (5 * k))) (y := 1) hx hb d_law_720 ?_
    refine lv_eqi (y := (nI (5 * k + 1))) (nI_add (5 * k) 1) ?_
    refine va_sld hx hb hXb hbl (Nat.not_le.mpr hbl) hS (show vp_in (nI (5 * k + 1)) L from vp_in_nI (n := 5 * k + 1) (by omega) (by omega)) d_law_721 ?_
    refine lv_eqi (y := xs (5 * k + 1)) (by rw [nI_clamp (by omega)]) ?_
    refine lv_aload_n hx hb d_law_722 rfl (lv_at hl 2 rfl) ?_
    refine lv_iload hx hb d_law_723 (lv_at hl 1 rfl) ?_
    refine lv_iconst (v := 2) hx hb d_law_725 (by decide) ?_
    refine lv_iadd (x := (nI (5 * k))) (y := 2) hx hb d_law_726 ?_
    refine lv_eqi (y := (nI (5 * k + 2))) (nI_add (5 * k) 2) ?_
    refine va_sld hx hb hXb hbl (Nat.not_le.mpr hbl) hS (show vp_in (nI (5 * k + 2)) L from vp_in_nI (n := 5 * k + 2) (by omega) (by omega)) d_law_727 ?_
    refine lv_eqi (y := xs (5 * k + 2)) (by rw [nI_clamp (by omega)]) ?_
    refine lv_aload_n hx hb d_law_728 rfl (lv_at hl 2 rfl) ?_
    refine lv_iload hx hb d_law_729 (lv_at hl 1 rfl) ?_
    refine lv_iconst (v := 3) hx hb d_law_731 (by decide) ?_
    refine lv_iadd (x := (nI (5 * k))) (y := 3) hx hb d_law_732 ?_
    refine lv_eqi (y := (nI (5 * k + 3))) (nI_add (5 * k) 3) ?_
    refine va_sld hx hb hXb hbl (Nat.not_le.mpr hbl) hS (show vp_in (nI (5 * k + 3)) L from vp_in_nI (n := 5 * k + 3) (by omega) (by omega)) d_law_733 ?_
    refine lv_eqi (y := xs (5 * k + 3)) (by rw [nI_clamp (by omega)]) ?_
    refine h_calli (va_runV (As := [.int (xs (5 * k + 1)), .int (xs (5 * k + 2)), .int (xs (5 * k + 3))]) (rest := []) ⟨hx, hb, hml, hown, htg⟩ (c_Md_merge l D cs s.heap.size H1 xm gm i f ((xs (5 * k + 1))) ((xs (5 * k + 2))) ((xs (5 * k + 3))) hsm.1 hMd1 (z 3 0) hrel.nam hrel.bnd.2.2.1 (z 5 0) hrel.mrg.1 hrel.bnd.2.2.2.1 mo mt ho9 ht9) ⟨x_cwB 3 htg (gw_mem (i := 1159) (by decide +kernel) rfl) (gw_mem (i := 38) (by decide +kernel) rfl) (gw_mem (i := 1156) (by decide +kernel) rfl) (by decide +kernel) ⟨Nat.le_of_ble_eq_true rfl, Nat.le_of_ble_eq_true rfl⟩, htg _ (gw_mem (i := 1157) (by decide +kernel) rfl), htg _ (gw_mem (i := 1158) (by decide +kernel) rfl)⟩ ⟨hPre.blind, hx_recv hK (ci := 0) rfl hMd1.1, hPre.at hB hS1 (fun _ h9 => h9)⟩ rfl rfl hl.1 rfl (lv_room (Nat.le_of_ble_eq_true rfl)) d_law_734 ⟨by show _ ≤ 601024; omega, by show _ ≤ 7293034; omega⟩) hS1 hsm.1.A (fun r9 H2 locs2 hm hz2 hk2 hS2 => ?_)
    have hS := hS2
    obtain ⟨i', f', hmd, hi0, hrel2⟩ := gx_merge hrel hmm hgr hG0 hm
    have hLS2 := lwS.mdl hLS1.1 hsm hout1 hk2 hmd hrel2
    refine lv_istore (lv' := [(6, .int r9), (5, .int G9), (4, .int (nI (5 * k))), (0, .ref b), (1, .ref (o 0 0)), (2, .ref xm), (3, .ref out)]) hx hb d_law_737 hl (by decide) rfl (fun ls hl => ?_)
    refine lv_aload_n hx hb d_law_739 rfl (lv_at hl 5 rfl) ?_
    refine h_calli (va_runV (As := []) (rest := []) ⟨hx, hb, hml, hown, htg⟩ (c_Md_thrown l D cs s.heap.size H2 xm gm i' f' hsm.1 hmd) ⟨x_cwB 0 htg (gw_mem (i := 1087) (by decide +kernel) rfl) (gw_mem (i := 38) (by decide +kernel) rfl) (gw_mem (i := 1084) (by decide +kernel) rfl) (by decide +kernel) ⟨Nat.le_of_ble_eq_true rfl, Nat.le_of_ble_eq_true rfl⟩, htg _ (gw_mem (i := 1085) (by decide +kernel) rfl), htg _ (gw_mem (i := 1086) (by decide +kernel) rfl)⟩ ⟨hPre.blind, hx_recv hK (ci := 0) rfl hmd.1, hPre.at hB hS2 (fun _ h9 => h9)⟩ rfl rfl hl.1 rfl (lv_room (Nat.le_of_ble_eq_true rfl)) d_law_740 ⟨by show _ ≤ 601024; omega, by show _ ≤ 7293034; omega⟩) hS2 hsm.1.A (fun r3 H3 locs3 hm3 hz3 hk3 hS3 => ?_)
    obtain ⟨hmd3, hr3⟩ := hm3
    have hLS3 := lwS.mdl hLS2.1 hLS2.2.2.1 hLS2.2.2.2.1 hk3 hmd3 hrel2
    rw [hi0, ← hG9] at hr3
    subst hr3
    refine lv_iload hx hb d_law_743 (lv_at hl 1 rfl) ?_
    refine lv_icmp_eq (tgt := 750) hx hb d_law_745 (by decide) (fun _ => ?_) (fun h9 => absurd rfl h9)
    refine lv_iload hx hb d_law_750 (lv_at hl 1 rfl) ?_
    refine lv_if_ne (tgt := 767) hx hb d_law_752 (by decide) (fun _ => ?_) (fun h9 => absurd h9 (by simpa using hG))
    refine lv_goto (tgt := 1391) hx hb d_law_767 (by decide) ?_
    refine W.widen (k := 40 + 10 * (k + 1)) (n := 6000 + 300 * (k + 1)) (by omega) (by omega) ?_
    exact kk _ _ _ ⟨o, z, K, r, i', f', _, rfl, hLS3⟩ hS3 (lv_sub hl [2, 3, 4, 5, 6] rfl)
theorem d_law_770 : decode code 770 = .ok (.aload_n 1, 1) := by decide +kernel
theorem d_law_771 : decode code 771 = .ok (.aload_n 0, 1) := by decide +kernel
theorem d_law_772 : decode code 772 = .ok (.iload 4, 2) := by decide +kernel
theorem d_law_774 : decode code 774 = .ok (.iconst 1, 1) := by decide +kernel
theorem d_law_775 : decode code 775 = .ok (.iadd, 1) := by decide +kernel
theorem d_law_776 : decode code 776 = .ok (.iaload, 1) := by decide +kernel
theorem d_law_777 : decode code 777 = .ok (.aload_n 0, 1) := by decide +kernel
theorem d_law_778 : decode code 778 = .ok (.iload 4, 2) := by decide +kernel
theorem d_law_780 : decode code 780 = .ok (.iconst 2, 1) := by decide +kernel
theorem d_law_781 : decode code 781 = .ok (.iadd, 1) := by decide +kernel
theorem d_law_782 : decode code 782 = .ok (.iaload, 1) := by decide +kernel
theorem d_law_783 : decode code 783 = .ok (.aload_n 0, 1) := by decide +kernel
theorem d_law_784 : decode code 784 = .ok (.iload 4, 2) := by decide +kernel
theorem d_law_786 : decode code 786 = .ok (.iconst 3, 1) := by decide +kernel
theorem d_law_787 : decode code 787 = .ok (.iadd, 1) := by decide +kernel
theorem d_law_788 : decode code 788 = .ok (.iaload, 1) := by decide +kernel
theorem d_law_789 : decode code 789 = .ok (.aload_n 3, 1) := by decide +kernel
theorem d_law_790 : decode code 790 = .ok (.invokestatic 124, 3) := by decide +kernel
theorem d_law_793 : decode code 793 = .ok (.istore 5, 2) := by decide +kernel
theorem d_law_795 : decode code 795 = .ok (.aload_n 2, 1) := by decide +kernel
theorem d_law_796 : decode code 796 = .ok (.aload_n 0, 1) := by decide +kernel
theorem d_law_797 : decode code 797 = .ok (.iload 4, 2) := by decide +kernel
theorem d_law_799 : decode code 799 = .ok (.iconst 1, 1) := by decide +kernel
theorem d_law_800 : decode code 800 = .ok (.iadd, 1) := by decide +kernel
theorem d_law_801 : decode code 801 = .ok (.iaload, 1) := by decide +kernel
theorem d_law_802 : decode code 802 = .ok (.aload_n 0, 1) := by decide +kernel
theorem d_law_803 : decode code 803 = .ok (.iload 4, 2) := by decide +kernel
theorem d_law_805 : decode code 805 = .ok (.iconst 2, 1) := by decide +kernel
theorem d_law_806 : decode code 806 = .ok (.iadd, 1) := by decide +kernel
theorem d_law_807 : decode code 807 = .ok (.iaload, 1) := by decide +kernel
theorem d_law_808 : decode code 808 = .ok (.aload_n 0, 1) := by decide +kernel
theorem d_law_809 : decode code 809 = .ok (.iload 4, 2) := by decide +kernel
theorem d_law_811 : decode code 811 = .ok (.iconst 3, 1) := by decide +kernel
theorem d_law_812 : decode code 812 = .ok (.iadd, 1) := by decide +kernel
theorem d_law_813 : decode code 813 = .ok (.iaload, 1) := by decide +kernel
theorem d_law_814 : decode code 814 = .ok (.invokevirtual 126, 3) := by decide +kernel
theorem d_law_817 : decode code 817 = .ok (.istore 6, 2) := by decide +kernel
theorem d_law_819 : decode code 819 = .ok (.aload_n 2, 1) := by decide +kernel
theorem d_law_820 : decode code 820 = .ok (.invokevirtual 83, 3) := by decide +kernel
theorem d_law_823 : decode code 823 = .ok (.iload 5, 2) := by decide +kernel
theorem d_law_825 : decode code 825 = .ok (.if_icmp .eq 5, 3) := by decide +kernel
theorem d_law_830 : decode code 830 = .ok (.iload 5, 2) := by decide +kernel
theorem d_law_832 : decode code 832 = .ok (.ifCond .ne 22, 3) := by decide +kernel
theorem d_law_835 : decode code 835 = .ok (.aload_n 3, 1) := by decide +kernel
theorem d_law_836 : decode code 836 = .ok (.iconst 0, 1) := by decide +kernel
theorem d_law_837 : decode code 837 = .ok (.laload, 1) := by decide +kernel
theorem d_law_838 : decode code 838 = .ok (.iload 6, 2) := by decide +kernel
theorem d_law_840 : decode code 840 = .ok (.ifCond .eq 7, 3) := by decide +kernel
theorem d_law_843 : decode code 843 = .ok (.lconst 1, 1) := by decide +kernel
theorem d_law_844 : decode code 844 = .ok (.goto 4, 3) := by decide +kernel
theorem d_law_847 : decode code 847 = .ok (.lconst 0, 1) := by decide +kernel
theorem d_law_848 : decode code 848 = .ok (.lcmp, 1) := by decide +kernel
theorem d_law_849 : decode code 849 = .ok (.ifCond .eq 5, 3) := by decide +kernel
theorem d_law_854 : decode code 854 = .ok (.goto 537, 3) := by decide +kernel
set_option maxHeartbeats 4000000 in
set_option maxRecDepth 100000 in
theorem lc_part {p : Program} {l : Launch} {e : Env} {s : State} {m : MethodId} {below : List Frame} {meth : Method} {c : Code} {H : Heap} {locs : List Loc} {b L : Nat} {xs : Nat → Int32} {D : va_G} {cs : Nat → ClassId} {x xm out k : Nat} {gm : Nat → Nat} {ls : Array Slot} {Q9 : State → Prop} (C : lawC p s m c b L xs D cs l) (hk9 : 5 * k + 5 ≤ L) (hX : lwX D cs s.heap.size H x xm gm out) (hS : va_S (lwA s.heap.size) s.heap H locs) (hl : lv_has ls 7 [(4, .int (nI (5 * k))), (0, .ref b), (1, .ref x), (2, .ref xm), (3, .ref out)])
    (kk : ∀ (H3 : Heap) (locs3 : List Loc) (ls3 : Array Slot), lwX D cs s.heap.size H3 x xm gm out → va_S (lwA s.heap.size) s.heap H3 locs3 → lv_has ls3 7 [(4, .int (nI (5 * k))), (0, .ref b), (1, .ref x), (2, .ref xm), (3, .ref out)] → W p l e room_1 s m #[Value.ref b] below meth c H3 locs3 (40 + 10 * (k + 1)) (6000 + 300 * (k + 1)) Q9 (F0 m 1391 ls3 [])) :
    W p l e room_1 s m #[Value.ref b] below meth c H locs (40 + 10 * k) (6000 + 300 * k) Q9 (F0 m 770 ls []) := by
  obtain ⟨hx, hb, hml, hown, hts, hXb, hbl, hl9, hB, hL⟩ := C
  have htg : ∀ w ∈ gw, w.before #[Value.ref b] s = true := fun w h => hts w (List.mem_filter.mp h).1
  have hK := hB.1
  obtain ⟨o, z, K, r, i, f, gl, hox, hLS⟩ := hX
  subst hox
  have hLS0 := hLS
  obtain ⟨hI, hMd, hsm, hout, hrel⟩ := hLS
  have hz0 := hS.1
  obtain ⟨mo, mt, ho9, ht9, hmm, hgr⟩ := hrel.grp
  refine lv_aload_n hx hb d_law_770 rfl (lv_at hl 2 rfl) ?_
  refine lv_aload_n hx hb d_law_771 rfl (lv_at hl 1 rfl) ?_
  refine lv_iload hx hb d_law_772 (lv_at hl 0 rfl) ?_
  refine lv_iconst (v := 1) hx hb d_law_774 (by decide) ?_
  refine lv_iadd (x := (nI (5 * k))) (y := 1) hx hb d_law_775 ?_
  refine lv_eqi (y := (nI (5 * k + 1))) (nI_add (5 * k) 1) ?_
  refine va_sld hx hb hXb hbl (Nat.not_le.mpr hbl) hS (show vp_in (nI (5 * k + 1)) L from vp_in_nI (n := 5 * k + 1) (by omega) (by omega)) d_law_776 ?_
  refine lv_eqi (y := xs (5 * k + 1)) (by rw [nI_clamp (by omega)]) ?_
  refine lv_aload_n hx hb d_law_777 rfl (lv_at hl 1 rfl) ?_
  refine lv_iload hx hb d_law_778 (lv_at hl 0 rfl) ?_
  refine lv_iconst (v := 2) hx hb d_law_780 (by decide) ?_
  refine lv_iadd (x := (nI (5 * k))) (y := 2) hx hb d_law_781 ?_
  refine lv_eqi (y := (nI (5 * k + 2))) (nI_add (5 * k) 2) ?_
  refine va_sld hx hb hXb hbl (Nat.not_le.mpr hbl) hS (show vp_in (nI (5 * k + 2)) L from vp_in_nI (n := 5 * k + 2) (by omega) (by omega)) d_law_782 ?_
  refine lv_eqi (y := xs (5 * k + 2)) (by rw [nI_clamp (by omega)]) ?_
  refine lv_aload_n hx hb d_law_783 rfl (lv_at hl 1 rfl) ?_
  refine lv_iload hx hb d_law_784 (lv_at hl 0 rfl) ?_
  refine lv_iconst (v := 3) hx hb d_law_786 (by decide) ?_
  refine lv_iadd (x := (nI (5 * k))) (y := 3) hx hb d_law_787 ?_
  refine lv_eqi (y := (nI (5 * k + 3))) (nI_add (5 * k) 3) ?_
  refine va_sld hx hb hXb hbl (Nat.not_le.mpr hbl) hS (show vp_in (nI (5 * k + 3)) L from vp_in_nI (n := 5 * k + 3) (by omega) (by omega)) d_law_788 ?_
  refine lv_eqi (y := xs (5 * k + 3)) (by rw [nI_clamp (by omega)]) ?_
  refine lv_aload_n hx hb d_law_789 rfl (lv_at hl 4 rfl) ?_
  refine t_SW (n := 5) (As := [.ref (o 0 0), .int (xs (5 * k + 1)), .int (xs (5 * k + 2)), .int (xs (5 * k + 3)), .ref out]) (rest := []) ⟨hx, hb, hml, hown, htg⟩ (c_Lw_part l D cs s.heap.size H hl9 o z K r H.size out gl ((xs (5 * k + 1))) ((xs (5 * k + 2))) ((xs (5 * k + 3))) hI rfl hout hsm.2.2.1 hsm.2.2.2.2) (lw_ws (hts _ (List.mem_of_getElem? (i := 874) (by decide +kernel))) rfl htg) List.mem_cons_self (hts _ (List.mem_of_getElem? (i := 874) (by decide +kernel))) (htg _ (gw_mem (i := 29) (by decide +kernel) rfl)) (by decide +kernel) (htg _ (gw_mem (i := 872) (by decide +kernel) rfl)) (htg _ (gw_mem (i := 873) (by decide +kernel) rfl)) ⟨hPre.blind, hPre.at hB hS (fun _ h9 => h9)⟩ rfl hl.1 rfl (lv_room (Nat.le_of_ble_eq_true rfl)) d_law_790 ⟨by show _ ≤ 601024; omega, by show _ ≤ 7293034; omega⟩ rfl rfl ⟨Nat.le_of_ble_eq_true rfl, Nat.le_of_ble_eq_true rfl⟩ (fun v9 H1 L9 hL9 hp9 hz9 hkk => ?_)
  have hS1 : va_S (lwA s.heap.size) s.heap H1 (locs ++ L9) := x_app hS hz9 (fun q h1 h2 => hkk q h1 (fun h => h2 (lw_sub hI hz0 hsm.2.2.2.2 h))) (fun q hq => lw_sub hI hz0 hsm.2.2.2.2 (hL9 q hq))
  have hz1 := hS1.1
  rcases hp9 with ⟨hv, wv, Hc, hpc, hout1, hsz, hfr⟩ | ⟨hv, hG, hout1, hsz, hfr⟩
  · subst hv
    refine W.eq (g2 := F0 m 793 ls [.int 0]) rfl ?_
    have hMd1 : md_I D cs H1 xm gm i f := hMd.keepA (fun q hq => hkk q (hMd.lt hq) (lw_not hsm hq (hMd.lt hq)))
    clear hS
    have hS := hS1
    refine lv_istore (lv' := [(5, .int 0), (4, .int (nI (5 * k))), (0, .ref b), (1, .ref (o 0 0)), (2, .ref xm), (3, .ref out)]) hx hb d_law_793 hl (by decide) rfl (fun ls hl => ?_)
    refine lv_aload_n hx hb d_law_795 rfl (lv_at hl 4 rfl) ?_
    refine lv_aload_n hx hb d_law_796 rfl (lv_at hl 2 rfl) ?_
    refine lv_iload hx hb d_law_797 (lv_at hl 1 rfl) ?_
    refine lv_iconst (v := 1) hx hb d_law_799 (by decide) ?_
    refine lv_iadd (x := (nI (5 * k))) (y := 1) hx hb d_law_800 ?_
    refine lv_eqi (y := (nI (5 * k + 1))) (nI_add (5 * k) 1) ?_
    refine va_sld hx hb hXb hbl (Nat.not_le.mpr hbl) hS (show vp_in (nI (5 * k + 1)) L from vp_in_nI (n := 5 * k + 1) (by omega) (by omega)) d_law_801 ?_
    refine lv_eqi (y := xs (5 * k + 1)) (by rw [nI_clamp (by omega)]) ?_
    refine lv_aload_n hx hb d_law_802 rfl (lv_at hl 2 rfl) ?_
    refine lv_iload hx hb d_law_803 (lv_at hl 1 rfl) ?_
    refine lv_iconst (v := 2) hx hb d_law_805 (by decide) ?_
    refine lv_iadd (x := (nI (5 * k))) (y := 2) hx hb d_law_806 ?_
    refine lv_eqi (y := (nI (5 * k + 2))) (nI_add (5 * k) 2) ?_
    refine va_sld hx hb hXb hbl (Nat.not_le.mpr hbl) hS (show vp_in (nI (5 * k + 2)) L from vp_in_nI (n := 5 * k + 2) (by omega) (by omega)) d_law_807 ?_
    refine lv_eqi (y := xs (5 * k + 2)) (by rw [nI_clamp (by omega)]) ?_
    refine lv_aload_n hx hb d_law_808 rfl (lv_at hl 2 rfl) ?_
    refine lv_iload hx hb d_law_809 (lv_at hl 1 rfl) ?_
    refine lv_iconst (v := 3) hx hb d_law_811 (by decide) ?_
    refine lv_iadd (x := (nI (5 * k))) (y := 3) hx hb d_law_812 ?_
    refine lv_eqi (y := (nI (5 * k + 3))) (nI_add (5 * k) 3) ?_
    refine va_sld hx hb hXb hbl (Nat.not_le.mpr hbl) hS (show vp_in (nI (5 * k + 3)) L from vp_in_nI (n := 5 * k + 3) (by omega) (by omega)) d_law_813 ?_
    refine lv_eqi (y := xs (5 * k + 3)) (by rw [nI_clamp (by omega)]) ?_
    refine h_calli (va_runV (As := [.int (xs (5 * k + 1)), .int (xs (5 * k + 2)), .int (xs (5 * k + 3))]) (rest := []) ⟨hx, hb, hml, hown, htg⟩ (c_Md_part l D cs s.heap.size H1 xm gm i f ((xs (5 * k + 1))) ((xs (5 * k + 2))) ((xs (5 * k + 3))) hsm.1 hMd1 (z 3 0) hrel.nam hrel.bnd.2.2.1 (z 5 0) hrel.mrg.1 hrel.bnd.2.2.2.1 mo mt ho9 ht9) ⟨x_cwB 3 htg (gw_mem (i := 1167) (by decide +kernel) rfl) (gw_mem (i := 38) (by decide +kernel) rfl) (gw_mem (i := 1164) (by decide +kernel) rfl) (by decide +kernel) ⟨Nat.le_of_ble_eq_true rfl, Nat.le_of_ble_eq_true rfl⟩, htg _ (gw_mem (i := 1165) (by decide +kernel) rfl), htg _ (gw_mem (i := 1166) (by decide +kernel) rfl)⟩ ⟨hPre.blind, hx_recv hK (ci := 0) rfl hMd1.1, hPre.at hB hS1 (fun _ h9 => h9)⟩ rfl rfl hl.1 rfl (lv_room (Nat.le_of_ble_eq_true rfl)) d_law_814 ⟨by show _ ≤ 601024; omega, by show _ ≤ 7293034; omega⟩) hS1 hsm.1.A (fun r9 H2 locs2 hm hz2 hk2 hS2 => ?_)
    have hS := hS2
    obtain ⟨hw, o', z', K', r', i', f', hn, hrr, hmd, hi0, hrel2, ho0⟩ := gl_part (N := H.size) hI hrel hpc hm
    obtain ⟨c1, c2, c3⟩ := hLS0.cls hn hrr hkk hfr
    have hLS2 := lwS.mdl c1 c3 hout1 hk2 hmd hrel2
    refine lv_istore (lv' := [(6, .int r9), (5, .int 0), (4, .int (nI (5 * k))), (0, .ref b), (1, .ref (o 0 0)), (2, .ref xm), (3, .ref out)]) hx hb d_law_817 hl (by decide) rfl (fun ls hl => ?_)
    refine lv_aload_n hx hb d_law_819 rfl (lv_at hl 5 rfl) ?_
    refine h_calli (va_runV (As := []) (rest := []) ⟨hx, hb, hml, hown, htg⟩ (c_Md_thrown l D cs s.heap.size H2 xm gm i' f' hsm.1 hmd) ⟨x_cwB 0 htg (gw_mem (i := 1087) (by decide +kernel) rfl) (gw_mem (i := 38) (by decide +kernel) rfl) (gw_mem (i := 1084) (by decide +kernel) rfl) (by decide +kernel) ⟨Nat.le_of_ble_eq_true rfl, Nat.le_of_ble_eq_true rfl⟩, htg _ (gw_mem (i := 1085) (by decide +kernel) rfl), htg _ (gw_mem (i := 1086) (by decide +kernel) rfl)⟩ ⟨hPre.blind, hx_recv hK (ci := 0) rfl hmd.1, hPre.at hB hS2 (fun _ h9 => h9)⟩ rfl rfl hl.1 rfl (lv_room (Nat.le_of_ble_eq_true rfl)) d_law_820 ⟨by show _ ≤ 601024; omega, by show _ ≤ 7293034; omega⟩) hS2 hsm.1.A (fun r3 H3 locs3 hm3 hz3 hk3 hS3 => ?_)
    obtain ⟨hmd3, hr3⟩ := hm3
    have hLS3 := lwS.mdl hLS2.1 hLS2.2.2.1 hLS2.2.2.2.1 hk3 hmd3 hrel2
    rw [hi0] at hr3
    subst hr3
    refine lv_iload hx hb d_law_823 (lv_at hl 1 rfl) ?_
    refine lv_icmp_eq (tgt := 830) hx hb d_law_825 (by decide) (fun _ => ?_) (fun h9 => absurd rfl h9)
    refine lv_iload hx hb d_law_830 (lv_at hl 1 rfl) ?_
    refine lv_if_ne (tgt := 854) hx hb d_law_832 (by decide) (fun h9 => absurd rfl h9) (fun _ => ?_)
    refine lv_aload_n hx hb d_law_835 rfl (lv_at hl 6 rfl) ?_
    refine lv_iconst (v := 0) hx hb d_law_836 (by decide) ?_
    refine hx_lald hx hb hK 3 hLS3.2.2.2.1 rfl (show vp_in 0 1 from vp_in_nI (n := 0) (by decide) (by decide)) d_law_837 ?_
    refine lv_eqv (y := .long (if wv = 0 then 0 else 1)) (show Value.long (vp_updL gl 0 (if wv = 0 then 0 else 1) 0) = _ by rw [updL_self]) ?_
    subst hw
    refine lv_iload hx hb d_law_838 (lv_at hl 0 rfl) ?_
    refine lv_if_eq (x := wv) (tgt := 847) hx hb d_law_840 (by decide) (fun hc0 => ?_) (fun hc0 => ?_)
    · rw [if_pos hc0]
      refine lv_lconst (v := 0) hx hb d_law_847 rfl ?_
      refine W.lcmp hx hb d_law_848 ?_
      refine lv_eqi (y := 0) (lcx _) ?_
      refine lv_if_eq (x := 0) (tgt := 854) hx hb d_law_849 (by decide) (fun _ => ?_) (fun h9 => absurd rfl h9)
      refine lv_goto (tgt := 1391) hx hb d_law_854 (by decide) ?_
      refine W.widen (k := 40 + 10 * (k + 1)) (n := 6000 + 300 * (k + 1)) (by omega) (by omega) ?_
      exact kk _ _ _ ⟨o', z', K', r', i', f', _, ho0, hLS3⟩ hS3 (lv_sub hl [2, 3, 4, 5, 6] rfl)
    · rw [if_neg hc0]
      refine lv_lconst (v := 1) hx hb d_law_843 rfl ?_
      refine lv_goto (tgt := 848) hx hb d_law_844 (by decide) ?_
      refine W.lcmp hx hb d_law_848 ?_
      refine lv_eqi (y := 0) (lcx _) ?_
      refine lv_if_eq (x := 0) (tgt := 854) hx hb d_law_849 (by decide) (fun _ => ?_) (fun h9 => absurd rfl h9)
      refine lv_goto (tgt := 1391) hx hb d_law_854 (by decide) ?_
      refine W.widen (k := 40 + 10 * (k + 1)) (n := 6000 + 300 * (k + 1)) (by omega) (by omega) ?_
      exact kk _ _ _ ⟨o', z', K', r', i', f', _, ho0, hLS3⟩ hS3 (lv_sub hl [2, 3, 4, 5, 6] rfl)
  · subst hv
    obtain ⟨G9, hG9⟩ : ∃ y, y = goV (isN (z 3 0) ((xs (5 * k + 1))) && isN (z 3 0) ((xs (5 * k + 2)))) (isD ((xs (5 * k + 3)))) true := ⟨_, rfl⟩
    have hG0 := hG
    rw [← hG9] at hG ⊢
    refine W.eq (g2 := F0 m 793 ls [.int G9]) rfl ?_
    have hLS1 := hLS0.same hfr
    have hMd1 := hLS1.2.1
    clear hS
    have hS := hS1
    refine lv_istore (lv' := [(5, .int G9), (4, .int (nI (5 * k))), (0, .ref b), (1, .ref (o 0 0)), (2, .ref xm), (3, .ref out)]) hx hb d_law_793 hl (by decide) rfl (fun ls hl => ?_)
    refine lv_aload_n hx hb d_law_795 rfl (lv_at hl 4 rfl) ?_
    refine lv_aload_n hx hb d_law_796 rfl (lv_at hl 2 rfl) ?_
    refine lv_iload hx hb d_law_797 (lv_at hl 1 rfl) ?_
    refine lv_iconst (v := 1) hx hb d_law_799 (by decide) ?_
    refine lv_iadd (x := (nI (5 * k))) (y := 1) hx hb d_law_800 ?_
    refine lv_eqi (y := (nI (5 * k + 1))) (nI_add (5 * k) 1) ?_
    refine va_sld hx hb hXb hbl (Nat.not_le.mpr hbl) hS (show vp_in (nI (5 * k + 1)) L from vp_in_nI (n := 5 * k + 1) (by omega) (by omega)) d_law_801 ?_
    refine lv_eqi (y := xs (5 * k + 1)) (by rw [nI_clamp (by omega)]) ?_
    refine lv_aload_n hx hb d_law_802 rfl (lv_at hl 2 rfl) ?_
    refine lv_iload hx hb d_law_803 (lv_at hl 1 rfl) ?_
    refine lv_iconst (v := 2) hx hb d_law_805 (by decide) ?_
    refine lv_iadd (x := (nI (5 * k))) (y := 2) hx hb d_law_806 ?_
    refine lv_eqi (y := (nI (5 * k + 2))) (nI_add (5 * k) 2) ?_
    refine va_sld hx hb hXb hbl (Nat.not_le.mpr hbl) hS (show vp_in (nI (5 * k + 2)) L from vp_in_nI (n := 5 * k + 2) (by omega) (by omega)) d_law_807 ?_
    refine lv_eqi (y := xs (5 * k + 2)) (by rw [nI_clamp (by omega)]) ?_
    refine lv_aload_n hx hb d_law_808 rfl (lv_at hl 2 rfl) ?_
    refine lv_iload hx hb d_law_809 (lv_at hl 1 rfl) ?_
    refine lv_iconst (v := 3) hx hb d_law_811 (by decide) ?_
    refine lv_iadd (x := (nI (5 * k))) (y := 3) hx hb d_law_812 ?_
    refine lv_eqi (y := (nI (5 * k + 3))) (nI_add (5 * k) 3) ?_
    refine va_sld hx hb hXb hbl (Nat.not_le.mpr hbl) hS (show vp_in (nI (5 * k + 3)) L from vp_in_nI (n := 5 * k + 3) (by omega) (by omega)) d_law_813 ?_
    refine lv_eqi (y := xs (5 * k + 3)) (by rw [nI_clamp (by omega)]) ?_
    refine h_calli (va_runV (As := [.int (xs (5 * k + 1)), .int (xs (5 * k + 2)), .int (xs (5 * k + 3))]) (rest := []) ⟨hx, hb, hml, hown, htg⟩ (c_Md_part l D cs s.heap.size H1 xm gm i f ((xs (5 * k + 1))) ((xs (5 * k + 2))) ((xs (5 * k + 3))) hsm.1 hMd1 (z 3 0) hrel.nam hrel.bnd.2.2.1 (z 5 0) hrel.mrg.1 hrel.bnd.2.2.2.1 mo mt ho9 ht9) ⟨x_cwB 3 htg (gw_mem (i := 1167) (by decide +kernel) rfl) (gw_mem (i := 38) (by decide +kernel) rfl) (gw_mem (i := 1164) (by decide +kernel) rfl) (by decide +kernel) ⟨Nat.le_of_ble_eq_true rfl, Nat.le_of_ble_eq_true rfl⟩, htg _ (gw_mem (i := 1165) (by decide +kernel) rfl), htg _ (gw_mem (i := 1166) (by decide +kernel) rfl)⟩ ⟨hPre.blind, hx_recv hK (ci := 0) rfl hMd1.1, hPre.at hB hS1 (fun _ h9 => h9)⟩ rfl rfl hl.1 rfl (lv_room (Nat.le_of_ble_eq_true rfl)) d_law_814 ⟨by show _ ≤ 601024; omega, by show _ ≤ 7293034; omega⟩) hS1 hsm.1.A (fun r9 H2 locs2 hm hz2 hk2 hS2 => ?_)
    have hS := hS2
    obtain ⟨i', f', hmd, hi0, hrel2⟩ := gx_part hrel hG0 hm
    have hLS2 := lwS.mdl hLS1.1 hsm hout1 hk2 hmd hrel2
    refine lv_istore (lv' := [(6, .int r9), (5, .int G9), (4, .int (nI (5 * k))), (0, .ref b), (1, .ref (o 0 0)), (2, .ref xm), (3, .ref out)]) hx hb d_law_817 hl (by decide) rfl (fun ls hl => ?_)
    refine lv_aload_n hx hb d_law_819 rfl (lv_at hl 5 rfl) ?_
    refine h_calli (va_runV (As := []) (rest := []) ⟨hx, hb, hml, hown, htg⟩ (c_Md_thrown l D cs s.heap.size H2 xm gm i' f' hsm.1 hmd) ⟨x_cwB 0 htg (gw_mem (i := 1087) (by decide +kernel) rfl) (gw_mem (i := 38) (by decide +kernel) rfl) (gw_mem (i := 1084) (by decide +kernel) rfl) (by decide +kernel) ⟨Nat.le_of_ble_eq_true rfl, Nat.le_of_ble_eq_true rfl⟩, htg _ (gw_mem (i := 1085) (by decide +kernel) rfl), htg _ (gw_mem (i := 1086) (by decide +kernel) rfl)⟩ ⟨hPre.blind, hx_recv hK (ci := 0) rfl hmd.1, hPre.at hB hS2 (fun _ h9 => h9)⟩ rfl rfl hl.1 rfl (lv_room (Nat.le_of_ble_eq_true rfl)) d_law_820 ⟨by show _ ≤ 601024; omega, by show _ ≤ 7293034; omega⟩) hS2 hsm.1.A (fun r3 H3 locs3 hm3 hz3 hk3 hS3 => ?_)
    obtain ⟨hmd3, hr3⟩ := hm3
    have hLS3 := lwS.mdl hLS2.1 hLS2.2.2.1 hLS2.2.2.2.1 hk3 hmd3 hrel2
    rw [hi0, ← hG9] at hr3
    subst hr3
    refine lv_iload hx hb d_law_823 (lv_at hl 1 rfl) ?_
    refine lv_icmp_eq (tgt := 830) hx hb d_law_825 (by decide) (fun _ => ?_) (fun h9 => absurd rfl h9)
    refine lv_iload hx hb d_law_830 (lv_at hl 1 rfl) ?_
    refine lv_if_ne (tgt := 854) hx hb d_law_832 (by decide) (fun _ => ?_) (fun h9 => absurd h9 (by simpa using hG))
    refine lv_goto (tgt := 1391) hx hb d_law_854 (by decide) ?_
    refine W.widen (k := 40 + 10 * (k + 1)) (n := 6000 + 300 * (k + 1)) (by omega) (by omega) ?_
    exact kk _ _ _ ⟨o, z, K, r, i', f', _, rfl, hLS3⟩ hS3 (lv_sub hl [2, 3, 4, 5, 6] rfl)
theorem d_law_857 : decode code 857 = .ok (.aload_n 1, 1) := by decide +kernel
theorem d_law_858 : decode code 858 = .ok (.aload_n 0, 1) := by decide +kernel
theorem d_law_859 : decode code 859 = .ok (.iload 4, 2) := by decide +kernel
theorem d_law_861 : decode code 861 = .ok (.iconst 1, 1) := by decide +kernel
theorem d_law_862 : decode code 862 = .ok (.iadd, 1) := by decide +kernel
theorem d_law_863 : decode code 863 = .ok (.iaload, 1) := by decide +kernel
theorem d_law_864 : decode code 864 = .ok (.aload_n 0, 1) := by decide +kernel
theorem d_law_865 : decode code 865 = .ok (.iload 4, 2) := by decide +kernel
theorem d_law_867 : decode code 867 = .ok (.iconst 2, 1) := by decide +kernel
theorem d_law_868 : decode code 868 = .ok (.iadd, 1) := by decide +kernel
theorem d_law_869 : decode code 869 = .ok (.iaload, 1) := by decide +kernel
theorem d_law_870 : decode code 870 = .ok (.aload_n 3, 1) := by decide +kernel
theorem d_law_871 : decode code 871 = .ok (.invokestatic 127, 3) := by decide +kernel
theorem d_law_874 : decode code 874 = .ok (.istore 5, 2) := by decide +kernel
theorem d_law_876 : decode code 876 = .ok (.aload_n 2, 1) := by decide +kernel
theorem d_law_877 : decode code 877 = .ok (.aload_n 0, 1) := by decide +kernel
theorem d_law_878 : decode code 878 = .ok (.iload 4, 2) := by decide +kernel
theorem d_law_880 : decode code 880 = .ok (.iconst 1, 1) := by decide +kernel
theorem d_law_881 : decode code 881 = .ok (.iadd, 1) := by decide +kernel
theorem d_law_882 : decode code 882 = .ok (.iaload, 1) := by decide +kernel
theorem d_law_883 : decode code 883 = .ok (.aload_n 0, 1) := by decide +kernel
theorem d_law_884 : decode code 884 = .ok (.iload 4, 2) := by decide +kernel
theorem d_law_886 : decode code 886 = .ok (.iconst 2, 1) := by decide +kernel
theorem d_law_887 : decode code 887 = .ok (.iadd, 1) := by decide +kernel
theorem d_law_888 : decode code 888 = .ok (.iaload, 1) := by decide +kernel
theorem d_law_889 : decode code 889 = .ok (.invokevirtual 129, 3) := by decide +kernel
theorem d_law_892 : decode code 892 = .ok (.istore 6, 2) := by decide +kernel
theorem d_law_894 : decode code 894 = .ok (.aload_n 2, 1) := by decide +kernel
theorem d_law_895 : decode code 895 = .ok (.invokevirtual 83, 3) := by decide +kernel
theorem d_law_898 : decode code 898 = .ok (.iload 5, 2) := by decide +kernel
theorem d_law_900 : decode code 900 = .ok (.if_icmp .eq 5, 3) := by decide +kernel
theorem d_law_905 : decode code 905 = .ok (.iload 5, 2) := by decide +kernel
theorem d_law_907 : decode code 907 = .ok (.ifCond .ne 15, 3) := by decide +kernel
theorem d_law_910 : decode code 910 = .ok (.aload_n 3, 1) := by decide +kernel
theorem d_law_911 : decode code 911 = .ok (.iconst 0, 1) := by decide +kernel
theorem d_law_912 : decode code 912 = .ok (.laload, 1) := by decide +kernel
theorem d_law_913 : decode code 913 = .ok (.iload 6, 2) := by decide +kernel
theorem d_law_915 : decode code 915 = .ok (.i2l, 1) := by decide +kernel
theorem d_law_916 : decode code 916 = .ok (.lcmp, 1) := by decide +kernel
theorem d_law_917 : decode code 917 = .ok (.ifCond .eq 5, 3) := by decide +kernel
theorem d_law_922 : decode code 922 = .ok (.goto 469, 3) := by decide +kernel
set_option maxHeartbeats 4000000 in
set_option maxRecDepth 100000 in
theorem lc_as {p : Program} {l : Launch} {e : Env} {s : State} {m : MethodId} {below : List Frame} {meth : Method} {c : Code} {H : Heap} {locs : List Loc} {b L : Nat} {xs : Nat → Int32} {D : va_G} {cs : Nat → ClassId} {x xm out k : Nat} {gm : Nat → Nat} {ls : Array Slot} {Q9 : State → Prop} (C : lawC p s m c b L xs D cs l) (hk9 : 5 * k + 5 ≤ L) (hX : lwX D cs s.heap.size H x xm gm out) (hS : va_S (lwA s.heap.size) s.heap H locs) (hl : lv_has ls 7 [(4, .int (nI (5 * k))), (0, .ref b), (1, .ref x), (2, .ref xm), (3, .ref out)])
    (kk : ∀ (H3 : Heap) (locs3 : List Loc) (ls3 : Array Slot), lwX D cs s.heap.size H3 x xm gm out → va_S (lwA s.heap.size) s.heap H3 locs3 → lv_has ls3 7 [(4, .int (nI (5 * k))), (0, .ref b), (1, .ref x), (2, .ref xm), (3, .ref out)] → W p l e room_1 s m #[Value.ref b] below meth c H3 locs3 (40 + 10 * (k + 1)) (6000 + 300 * (k + 1)) Q9 (F0 m 1391 ls3 [])) :
    W p l e room_1 s m #[Value.ref b] below meth c H locs (40 + 10 * k) (6000 + 300 * k) Q9 (F0 m 857 ls []) := by
  obtain ⟨hx, hb, hml, hown, hts, hXb, hbl, hl9, hB, hL⟩ := C
  have htg : ∀ w ∈ gw, w.before #[Value.ref b] s = true := fun w h => hts w (List.mem_filter.mp h).1
  have hK := hB.1
  obtain ⟨o, z, K, r, i, f, gl, hox, hLS⟩ := hX
  subst hox
  have hLS0 := hLS
  obtain ⟨hI, hMd, hsm, hout, hrel⟩ := hLS
  have hz0 := hS.1
  obtain ⟨mo, mt, ho9, ht9, hmm, hgr⟩ := hrel.grp
  refine lv_aload_n hx hb d_law_857 rfl (lv_at hl 2 rfl) ?_
  refine lv_aload_n hx hb d_law_858 rfl (lv_at hl 1 rfl) ?_
  refine lv_iload hx hb d_law_859 (lv_at hl 0 rfl) ?_
  refine lv_iconst (v := 1) hx hb d_law_861 (by decide) ?_
  refine lv_iadd (x := (nI (5 * k))) (y := 1) hx hb d_law_862 ?_
  refine lv_eqi (y := (nI (5 * k + 1))) (nI_add (5 * k) 1) ?_
  refine va_sld hx hb hXb hbl (Nat.not_le.mpr hbl) hS (show vp_in (nI (5 * k + 1)) L from vp_in_nI (n := 5 * k + 1) (by omega) (by omega)) d_law_863 ?_
  refine lv_eqi (y := xs (5 * k + 1)) (by rw [nI_clamp (by omega)]) ?_
  refine lv_aload_n hx hb d_law_864 rfl (lv_at hl 1 rfl) ?_
  refine lv_iload hx hb d_law_865 (lv_at hl 0 rfl) ?_
  refine lv_iconst (v := 2) hx hb d_law_867 (by decide) ?_
  refine lv_iadd (x := (nI (5 * k))) (y := 2) hx hb d_law_868 ?_
  refine lv_eqi (y := (nI (5 * k + 2))) (nI_add (5 * k) 2) ?_
  refine va_sld hx hb hXb hbl (Nat.not_le.mpr hbl) hS (show vp_in (nI (5 * k + 2)) L from vp_in_nI (n := 5 * k + 2) (by omega) (by omega)) d_law_869 ?_
  refine lv_eqi (y := xs (5 * k + 2)) (by rw [nI_clamp (by omega)]) ?_
  refine lv_aload_n hx hb d_law_870 rfl (lv_at hl 4 rfl) ?_
  refine t_SW (n := 4) (As := [.ref (o 0 0), .int (xs (5 * k + 1)), .int (xs (5 * k + 2)), .ref out]) (rest := []) ⟨hx, hb, hml, hown, htg⟩ (c_Lw_as l D cs s.heap.size H hl9 o z K r H.size out gl ((xs (5 * k + 1))) ((xs (5 * k + 2))) hI rfl hout hsm.2.2.1 hsm.2.2.2.2) (lw_ws (hts _ (List.mem_of_getElem? (i := 882) (by decide +kernel))) rfl htg) List.mem_cons_self (hts _ (List.mem_of_getElem? (i := 882) (by decide +kernel))) (htg _ (gw_mem (i := 29) (by decide +kernel) rfl)) (by decide +kernel) (htg _ (gw_mem (i := 880) (by decide +kernel) rfl)) (htg _ (gw_mem (i := 881) (by decide +kernel) rfl)) ⟨hPre.blind, hPre.at hB hS (fun _ h9 => h9)⟩ rfl hl.1 rfl (lv_room (Nat.le_of_ble_eq_true rfl)) d_law_871 ⟨by show _ ≤ 601024; omega, by show _ ≤ 7293034; omega⟩ rfl rfl ⟨Nat.le_of_ble_eq_true rfl, Nat.le_of_ble_eq_true rfl⟩ (fun v9 H1 L9 hL9 hp9 hz9 hkk => ?_)
  have hS1 : va_S (lwA s.heap.size) s.heap H1 (locs ++ L9) := x_app hS hz9 (fun q h1 h2 => hkk q h1 (fun h => h2 (lw_sub hI hz0 hsm.2.2.2.2 h))) (fun q hq => lw_sub hI hz0 hsm.2.2.2.2 (hL9 q hq))
  have hz1 := hS1.1
  rcases hp9 with ⟨hv, wv, Hc, hpc, hout1, hsz, hfr⟩ | ⟨hv, hG, hout1, hsz, hfr⟩
  · subst hv
    refine W.eq (g2 := F0 m 874 ls [.int 0]) rfl ?_
    have hMd1 : md_I D cs H1 xm gm i f := hMd.keepA (fun q hq => hkk q (hMd.lt hq) (lw_not hsm hq (hMd.lt hq)))
    clear hS
    have hS := hS1
    refine lv_istore (lv' := [(5, .int 0), (4, .int (nI (5 * k))), (0, .ref b), (1, .ref (o 0 0)), (2, .ref xm), (3, .ref out)]) hx hb d_law_874 hl (by decide) rfl (fun ls hl => ?_)
    refine lv_aload_n hx hb d_law_876 rfl (lv_at hl 4 rfl) ?_
    refine lv_aload_n hx hb d_law_877 rfl (lv_at hl 2 rfl) ?_
    refine lv_iload hx hb d_law_878 (lv_at hl 1 rfl) ?_
    refine lv_iconst (v := 1) hx hb d_law_880 (by decide) ?_
    refine lv_iadd (x := (nI (5 * k))) (y := 1) hx hb d_law_881 ?_
    refine lv_eqi (y := (nI (5 * k + 1))) (nI_add (5 * k) 1) ?_
    refine va_sld hx hb hXb hbl (Nat.not_le.mpr hbl) hS (show vp_in (nI (5 * k + 1)) L from vp_in_nI (n := 5 * k + 1) (by omega) (by omega)) d_law_882 ?_
    refine lv_eqi (y := xs (5 * k + 1)) (by rw [nI_clamp (by omega)]) ?_
    refine lv_aload_n hx hb d_law_883 rfl (lv_at hl 2 rfl) ?_
    refine lv_iload hx hb d_law_884 (lv_at hl 1 rfl) ?_
    refine lv_iconst (v := 2) hx hb d_law_886 (by decide) ?_
    refine lv_iadd (x := (nI (5 * k))) (y := 2) hx hb d_law_887 ?_
    refine lv_eqi (y := (nI (5 * k + 2))) (nI_add (5 * k) 2) ?_
    refine va_sld hx hb hXb hbl (Nat.not_le.mpr hbl) hS (show vp_in (nI (5 * k + 2)) L from vp_in_nI (n := 5 * k + 2) (by omega) (by omega)) d_law_888 ?_
    refine lv_eqi (y := xs (5 * k + 2)) (by rw [nI_clamp (by omega)]) ?_
    refine h_calli (va_runV (As := [.int (xs (5 * k + 1)), .int (xs (5 * k + 2))]) (rest := []) ⟨hx, hb, hml, hown, htg⟩ (c_Md_as l D cs s.heap.size H1 xm gm i f ((xs (5 * k + 1))) ((xs (5 * k + 2))) hsm.1 hMd1 (z 3 0) hrel.nam hrel.bnd.2.2.1 (z 5 0) hrel.mrg.1 hrel.bnd.2.2.2.1 mo mt ho9 ht9) ⟨x_cwB 2 htg (gw_mem (i := 1171) (by decide +kernel) rfl) (gw_mem (i := 38) (by decide +kernel) rfl) (gw_mem (i := 1168) (by decide +kernel) rfl) (by decide +kernel) ⟨Nat.le_of_ble_eq_true rfl, Nat.le_of_ble_eq_true rfl⟩, htg _ (gw_mem (i := 1169) (by decide +kernel) rfl), htg _ (gw_mem (i := 1170) (by decide +kernel) rfl)⟩ ⟨hPre.blind, hx_recv hK (ci := 0) rfl hMd1.1, hPre.at hB hS1 (fun _ h9 => h9)⟩ rfl rfl hl.1 rfl (lv_room (Nat.le_of_ble_eq_true rfl)) d_law_889 ⟨by show _ ≤ 601024; omega, by show _ ≤ 7293034; omega⟩) hS1 hsm.1.A (fun r9 H2 locs2 hm hz2 hk2 hS2 => ?_)
    have hS := hS2
    obtain ⟨hw, o', z', K', r', i', f', hn, hrr, hmd, hi0, hrel2, ho0⟩ := gl_as (N := H.size) hI hrel hmm hgr hpc hm
    obtain ⟨c1, c2, c3⟩ := hLS0.cls hn hrr hkk hfr
    have hLS2 := lwS.mdl c1 c3 hout1 hk2 hmd hrel2
    refine lv_istore (lv' := [(6, .int r9), (5, .int 0), (4, .int (nI (5 * k))), (0, .ref b), (1, .ref (o 0 0)), (2, .ref xm), (3, .ref out)]) hx hb d_law_892 hl (by decide) rfl (fun ls hl => ?_)
    refine lv_aload_n hx hb d_law_894 rfl (lv_at hl 5 rfl) ?_
    refine h_calli (va_runV (As := []) (rest := []) ⟨hx, hb, hml, hown, htg⟩ (c_Md_thrown l D cs s.heap.size H2 xm gm i' f' hsm.1 hmd) ⟨x_cwB 0 htg (gw_mem (i := 1087) (by decide +kernel) rfl) (gw_mem (i := 38) (by decide +kernel) rfl) (gw_mem (i := 1084) (by decide +kernel) rfl) (by decide +kernel) ⟨Nat.le_of_ble_eq_true rfl, Nat.le_of_ble_eq_true rfl⟩, htg _ (gw_mem (i := 1085) (by decide +kernel) rfl), htg _ (gw_mem (i := 1086) (by decide +kernel) rfl)⟩ ⟨hPre.blind, hx_recv hK (ci := 0) rfl hmd.1, hPre.at hB hS2 (fun _ h9 => h9)⟩ rfl rfl hl.1 rfl (lv_room (Nat.le_of_ble_eq_true rfl)) d_law_895 ⟨by show _ ≤ 601024; omega, by show _ ≤ 7293034; omega⟩) hS2 hsm.1.A (fun r3 H3 locs3 hm3 hz3 hk3 hS3 => ?_)
    obtain ⟨hmd3, hr3⟩ := hm3
    have hLS3 := lwS.mdl hLS2.1 hLS2.2.2.1 hLS2.2.2.2.1 hk3 hmd3 hrel2
    rw [hi0] at hr3
    subst hr3
    refine lv_iload hx hb d_law_898 (lv_at hl 1 rfl) ?_
    refine lv_icmp_eq (tgt := 905) hx hb d_law_900 (by decide) (fun _ => ?_) (fun h9 => absurd rfl h9)
    refine lv_iload hx hb d_law_905 (lv_at hl 1 rfl) ?_
    refine lv_if_ne (tgt := 922) hx hb d_law_907 (by decide) (fun h9 => absurd rfl h9) (fun _ => ?_)
    refine lv_aload_n hx hb d_law_910 rfl (lv_at hl 6 rfl) ?_
    refine lv_iconst (v := 0) hx hb d_law_911 (by decide) ?_
    refine hx_lald hx hb hK 3 hLS3.2.2.2.1 rfl (show vp_in 0 1 from vp_in_nI (n := 0) (by decide) (by decide)) d_law_912 ?_
    refine lv_eqv (y := .long (wv.toInt64)) (show Value.long (vp_updL gl 0 wv.toInt64 0) = _ by rw [updL_self]) ?_
    subst hw
    refine lv_iload hx hb d_law_913 (lv_at hl 0 rfl) ?_
    refine lv_i2l (v := wv.toInt64) hx hb d_law_915 rfl ?_
    skip
    refine W.lcmp hx hb d_law_916 ?_
    refine lv_eqi (y := 0) (lcx _) ?_
    refine lv_if_eq (x := 0) (tgt := 922) hx hb d_law_917 (by decide) (fun _ => ?_) (fun h9 => absurd rfl h9)
    refine lv_goto (tgt := 1391) hx hb d_law_922 (by decide) ?_
    refine W.widen (k := 40 + 10 * (k + 1)) (n := 6000 + 300 * (k + 1)) (by omega) (by omega) ?_
    exact kk _ _ _ ⟨o', z', K', r', i', f', _, ho0, hLS3⟩ hS3 (lv_sub hl [2, 3, 4, 5, 6] rfl)
  · subst hv
    obtain ⟨G9, hG9⟩ : ∃ y, y = goV (isN (z 3 0) ((xs (5 * k + 1)))) (isD ((xs (5 * k + 2)))) true := ⟨_, rfl⟩
    have hG0 := hG
    rw [← hG9] at hG ⊢
    refine W.eq (g2 := F0 m 874 ls [.int G9]) rfl ?_
    have hLS1 := hLS0.same hfr
    have hMd1 := hLS1.2.1
    clear hS
    have hS := hS1
    refine lv_istore (lv' := [(5, .int G9), (4, .int (nI (5 * k))), (0, .ref b), (1, .ref (o 0 0)), (2, .ref xm), (3, .ref out)]) hx hb d_law_874 hl (by decide) rfl (fun ls hl => ?_)
    refine lv_aload_n hx hb d_law_876 rfl (lv_at hl 4 rfl) ?_
    refine lv_aload_n hx hb d_law_877 rfl (lv_at hl 2 rfl) ?_
    refine lv_iload hx hb d_law_878 (lv_at hl 1 rfl) ?_
    refine lv_iconst (v := 1) hx hb d_law_880 (by decide) ?_
    refine lv_iadd (x := (nI (5 * k))) (y := 1) hx hb d_law_881 ?_
    refine lv_eqi (y := (nI (5 * k + 1))) (nI_add (5 * k) 1) ?_
    refine va_sld hx hb hXb hbl (Nat.not_le.mpr hbl) hS (show vp_in (nI (5 * k + 1)) L from vp_in_nI (n := 5 * k + 1) (by omega) (by omega)) d_law_882 ?_
    refine lv_eqi (y := xs (5 * k + 1)) (by rw [nI_clamp (by omega)]) ?_
    refine lv_aload_n hx hb d_law_883 rfl (lv_at hl 2 rfl) ?_
    refine lv_iload hx hb d_law_884 (lv_at hl 1 rfl) ?_
    refine lv_iconst (v := 2) hx hb d_law_886 (by decide) ?_
    refine lv_iadd (x := (nI (5 * k))) (y := 2) hx hb d_law_887 ?_
    refine lv_eqi (y := (nI (5 * k + 2))) (nI_add (5 * k) 2) ?_
    refine va_sld hx hb hXb hbl (Nat.not_le.mpr hbl) hS (show vp_in (nI (5 * k + 2)) L from vp_in_nI (n := 5 * k + 2) (by omega) (by omega)) d_law_888 ?_
    refine lv_eqi (y := xs (5 * k + 2)) (by rw [nI_clamp (by omega)]) ?_
    refine h_calli (va_runV (As := [.int (xs (5 * k + 1)), .int (xs (5 * k + 2))]) (rest := []) ⟨hx, hb, hml, hown, htg⟩ (c_Md_as l D cs s.heap.size H1 xm gm i f ((xs (5 * k + 1))) ((xs (5 * k + 2))) hsm.1 hMd1 (z 3 0) hrel.nam hrel.bnd.2.2.1 (z 5 0) hrel.mrg.1 hrel.bnd.2.2.2.1 mo mt ho9 ht9) ⟨x_cwB 2 htg (gw_mem (i := 1171) (by decide +kernel) rfl) (gw_mem (i := 38) (by decide +kernel) rfl) (gw_mem (i := 1168) (by decide +kernel) rfl) (by decide +kernel) ⟨Nat.le_of_ble_eq_true rfl, Nat.le_of_ble_eq_true rfl⟩, htg _ (gw_mem (i := 1169) (by decide +kernel) rfl), htg _ (gw_mem (i := 1170) (by decide +kernel) rfl)⟩ ⟨hPre.blind, hx_recv hK (ci := 0) rfl hMd1.1, hPre.at hB hS1 (fun _ h9 => h9)⟩ rfl rfl hl.1 rfl (lv_room (Nat.le_of_ble_eq_true rfl)) d_law_889 ⟨by show _ ≤ 601024; omega, by show _ ≤ 7293034; omega⟩) hS1 hsm.1.A (fun r9 H2 locs2 hm hz2 hk2 hS2 => ?_)
    have hS := hS2
    obtain ⟨i', f', hmd, hi0, hrel2⟩ := gx_as hrel hmm hgr hG0 hm
    have hLS2 := lwS.mdl hLS1.1 hsm hout1 hk2 hmd hrel2
    refine lv_istore (lv' := [(6, .int r9), (5, .int G9), (4, .int (nI (5 * k))), (0, .ref b), (1, .ref (o 0 0)), (2, .ref xm), (3, .ref out)]) hx hb d_law_892 hl (by decide) rfl (fun ls hl => ?_)
    refine lv_aload_n hx hb d_law_894 rfl (lv_at hl 5 rfl) ?_
    refine h_calli (va_runV (As := []) (rest := []) ⟨hx, hb, hml, hown, htg⟩ (c_Md_thrown l D cs s.heap.size H2 xm gm i' f' hsm.1 hmd) ⟨x_cwB 0 htg (gw_mem (i := 1087) (by decide +kernel) rfl) (gw_mem (i := 38) (by decide +kernel) rfl) (gw_mem (i := 1084) (by decide +kernel) rfl) (by decide +kernel) ⟨Nat.le_of_ble_eq_true rfl, Nat.le_of_ble_eq_true rfl⟩, htg _ (gw_mem (i := 1085) (by decide +kernel) rfl), htg _ (gw_mem (i := 1086) (by decide +kernel) rfl)⟩ ⟨hPre.blind, hx_recv hK (ci := 0) rfl hmd.1, hPre.at hB hS2 (fun _ h9 => h9)⟩ rfl rfl hl.1 rfl (lv_room (Nat.le_of_ble_eq_true rfl)) d_law_895 ⟨by show _ ≤ 601024; omega, by show _ ≤ 7293034; omega⟩) hS2 hsm.1.A (fun r3 H3 locs3 hm3 hz3 hk3 hS3 => ?_)
    obtain ⟨hmd3, hr3⟩ := hm3
    have hLS3 := lwS.mdl hLS2.1 hLS2.2.2.1 hLS2.2.2.2.1 hk3 hmd3 hrel2
    rw [hi0, ← hG9] at hr3
    subst hr3
    refine lv_iload hx hb d_law_898 (lv_at hl 1 rfl) ?_
    refine lv_icmp_eq (tgt := 905) hx hb d_law_900 (by decide) (fun _ => ?_) (fun h9 => absurd rfl h9)
    refine lv_iload hx hb d_law_905 (lv_at hl 1 rfl) ?_
    refine lv_if_ne (tgt := 922) hx hb d_law_907 (by decide) (fun _ => ?_) (fun h9 => absurd h9 (by simpa using hG))
    refine lv_goto (tgt := 1391) hx hb d_law_922 (by decide) ?_
    refine W.widen (k := 40 + 10 * (k + 1)) (n := 6000 + 300 * (k + 1)) (by omega) (by omega) ?_
    exact kk _ _ _ ⟨o, z, K, r, i', f', _, rfl, hLS3⟩ hS3 (lv_sub hl [2, 3, 4, 5, 6] rfl)
theorem d_law_925 : decode code 925 = .ok (.aload_n 1, 1) := by decide +kernel
theorem d_law_926 : decode code 926 = .ok (.aload_n 0, 1) := by decide +kernel
theorem d_law_927 : decode code 927 = .ok (.iload 4, 2) := by decide +kernel
theorem d_law_929 : decode code 929 = .ok (.iconst 1, 1) := by decide +kernel
theorem d_law_930 : decode code 930 = .ok (.iadd, 1) := by decide +kernel
theorem d_law_931 : decode code 931 = .ok (.iaload, 1) := by decide +kernel
theorem d_law_932 : decode code 932 = .ok (.aload_n 0, 1) := by decide +kernel
theorem d_law_933 : decode code 933 = .ok (.iload 4, 2) := by decide +kernel
theorem d_law_935 : decode code 935 = .ok (.iconst 2, 1) := by decide +kernel
theorem d_law_936 : decode code 936 = .ok (.iadd, 1) := by decide +kernel
theorem d_law_937 : decode code 937 = .ok (.iaload, 1) := by decide +kernel
theorem d_law_938 : decode code 938 = .ok (.aload_n 3, 1) := by decide +kernel
theorem d_law_939 : decode code 939 = .ok (.invokestatic 130, 3) := by decide +kernel
theorem d_law_942 : decode code 942 = .ok (.istore 5, 2) := by decide +kernel
theorem d_law_944 : decode code 944 = .ok (.aload_n 2, 1) := by decide +kernel
theorem d_law_945 : decode code 945 = .ok (.aload_n 0, 1) := by decide +kernel
theorem d_law_946 : decode code 946 = .ok (.iload 4, 2) := by decide +kernel
theorem d_law_948 : decode code 948 = .ok (.iconst 1, 1) := by decide +kernel
theorem d_law_949 : decode code 949 = .ok (.iadd, 1) := by decide +kernel
theorem d_law_950 : decode code 950 = .ok (.iaload, 1) := by decide +kernel
theorem d_law_951 : decode code 951 = .ok (.aload_n 0, 1) := by decide +kernel
theorem d_law_952 : decode code 952 = .ok (.iload 4, 2) := by decide +kernel
theorem d_law_954 : decode code 954 = .ok (.iconst 2, 1) := by decide +kernel
theorem d_law_955 : decode code 955 = .ok (.iadd, 1) := by decide +kernel
theorem d_law_956 : decode code 956 = .ok (.iaload, 1) := by decide +kernel
theorem d_law_957 : decode code 957 = .ok (.invokevirtual 132, 3) := by decide +kernel
theorem d_law_960 : decode code 960 = .ok (.istore 6, 2) := by decide +kernel
theorem d_law_962 : decode code 962 = .ok (.aload_n 2, 1) := by decide +kernel
theorem d_law_963 : decode code 963 = .ok (.invokevirtual 83, 3) := by decide +kernel
theorem d_law_966 : decode code 966 = .ok (.iload 5, 2) := by decide +kernel
theorem d_law_968 : decode code 968 = .ok (.if_icmp .eq 5, 3) := by decide +kernel
theorem d_law_973 : decode code 973 = .ok (.iload 5, 2) := by decide +kernel
theorem d_law_975 : decode code 975 = .ok (.ifCond .ne 15, 3) := by decide +kernel
theorem d_law_978 : decode code 978 = .ok (.aload_n 3, 1) := by decide +kernel
theorem d_law_979 : decode code 979 = .ok (.iconst 0, 1) := by decide +kernel
theorem d_law_980 : decode code 980 = .ok (.laload, 1) := by decide +kernel
theorem d_law_981 : decode code 981 = .ok (.iload 6, 2) := by decide +kernel
theorem d_law_983 : decode code 983 = .ok (.i2l, 1) := by decide +kernel
theorem d_law_984 : decode code 984 = .ok (.lcmp, 1) := by decide +kernel
theorem d_law_985 : decode code 985 = .ok (.ifCond .eq 5, 3) := by decide +kernel
theorem d_law_990 : decode code 990 = .ok (.goto 401, 3) := by decide +kernel
set_option maxHeartbeats 4000000 in
set_option maxRecDepth 100000 in
theorem lc_broader {p : Program} {l : Launch} {e : Env} {s : State} {m : MethodId} {below : List Frame} {meth : Method} {c : Code} {H : Heap} {locs : List Loc} {b L : Nat} {xs : Nat → Int32} {D : va_G} {cs : Nat → ClassId} {x xm out k : Nat} {gm : Nat → Nat} {ls : Array Slot} {Q9 : State → Prop} (C : lawC p s m c b L xs D cs l) (hk9 : 5 * k + 5 ≤ L) (hX : lwX D cs s.heap.size H x xm gm out) (hS : va_S (lwA s.heap.size) s.heap H locs) (hl : lv_has ls 7 [(4, .int (nI (5 * k))), (0, .ref b), (1, .ref x), (2, .ref xm), (3, .ref out)])
    (kk : ∀ (H3 : Heap) (locs3 : List Loc) (ls3 : Array Slot), lwX D cs s.heap.size H3 x xm gm out → va_S (lwA s.heap.size) s.heap H3 locs3 → lv_has ls3 7 [(4, .int (nI (5 * k))), (0, .ref b), (1, .ref x), (2, .ref xm), (3, .ref out)] → W p l e room_1 s m #[Value.ref b] below meth c H3 locs3 (40 + 10 * (k + 1)) (6000 + 300 * (k + 1)) Q9 (F0 m 1391 ls3 [])) :
    W p l e room_1 s m #[Value.ref b] below meth c H locs (40 + 10 * k) (6000 + 300 * k) Q9 (F0 m 925 ls []) := by
  obtain ⟨hx, hb, hml, hown, hts, hXb, hbl, hl9, hB, hL⟩ := C
  have htg : ∀ w ∈ gw, w.before #[Value.ref b] s = true := fun w h => hts w (List.mem_filter.mp h).1
  have hK := hB.1
  obtain ⟨o, z, K, r, i, f, gl, hox, hLS⟩ := hX
  subst hox
  have hLS0 := hLS
  obtain ⟨hI, hMd, hsm, hout, hrel⟩ := hLS
  have hz0 := hS.1
  obtain ⟨br, b1, b2, b3, b4, b5⟩ := hrel.brd
  refine lv_aload_n hx hb d_law_925 rfl (lv_at hl 2 rfl) ?_
  refine lv_aload_n hx hb d_law_926 rfl (lv_at hl 1 rfl) ?_
  refine lv_iload hx hb d_law_927 (lv_at hl 0 rfl) ?_
  refine lv_iconst (v := 1) hx hb d_law_929 (by decide) ?_
  refine lv_iadd (x := (nI (5 * k))) (y := 1) hx hb d_law_930 ?_
  refine lv_eqi (y := (nI (5 * k + 1))) (nI_add (5 * k) 1) ?_
  refine va_sld hx hb hXb hbl (Nat.not_le.mpr hbl) hS (show vp_in (nI (5 * k + 1)) L from vp_in_nI (n := 5 * k + 1) (by omega) (by omega)) d_law_931 ?_
  refine lv_eqi (y := xs (5 * k + 1)) (by rw [nI_clamp (by omega)]) ?_
  refine lv_aload_n hx hb d_law_932 rfl (lv_at hl 1 rfl) ?_
  refine lv_iload hx hb d_law_933 (lv_at hl 0 rfl) ?_
  refine lv_iconst (v := 2) hx hb d_law_935 (by decide) ?_
  refine lv_iadd (x := (nI (5 * k))) (y := 2) hx hb d_law_936 ?_
  refine lv_eqi (y := (nI (5 * k + 2))) (nI_add (5 * k) 2) ?_
  refine va_sld hx hb hXb hbl (Nat.not_le.mpr hbl) hS (show vp_in (nI (5 * k + 2)) L from vp_in_nI (n := 5 * k + 2) (by omega) (by omega)) d_law_937 ?_
  refine lv_eqi (y := xs (5 * k + 2)) (by rw [nI_clamp (by omega)]) ?_
  refine lv_aload_n hx hb d_law_938 rfl (lv_at hl 4 rfl) ?_
  refine t_SW (n := 4) (As := [.ref (o 0 0), .int (xs (5 * k + 1)), .int (xs (5 * k + 2)), .ref out]) (rest := []) ⟨hx, hb, hml, hown, htg⟩ (c_Lw_broader l D cs s.heap.size H hl9 o z K r H.size out gl ((xs (5 * k + 1))) ((xs (5 * k + 2))) hI rfl hout hsm.2.2.1 hsm.2.2.2.2) (lw_ws (hts _ (List.mem_of_getElem? (i := 893) (by decide +kernel))) rfl htg) List.mem_cons_self (hts _ (List.mem_of_getElem? (i := 893) (by decide +kernel))) (htg _ (gw_mem (i := 29) (by decide +kernel) rfl)) (by decide +kernel) (htg _ (gw_mem (i := 891) (by decide +kernel) rfl)) (htg _ (gw_mem (i := 892) (by decide +kernel) rfl)) ⟨hPre.blind, hPre.at hB hS (fun _ h9 => h9)⟩ rfl hl.1 rfl (lv_room (Nat.le_of_ble_eq_true rfl)) d_law_939 ⟨by show _ ≤ 601024; omega, by show _ ≤ 7293034; omega⟩ rfl rfl ⟨Nat.le_of_ble_eq_true rfl, Nat.le_of_ble_eq_true rfl⟩ (fun v9 H1 L9 hL9 hp9 hz9 hkk => ?_)
  have hS1 : va_S (lwA s.heap.size) s.heap H1 (locs ++ L9) := x_app hS hz9 (fun q h1 h2 => hkk q h1 (fun h => h2 (lw_sub hI hz0 hsm.2.2.2.2 h))) (fun q hq => lw_sub hI hz0 hsm.2.2.2.2 (hL9 q hq))
  have hz1 := hS1.1
  rcases hp9 with ⟨hv, wv, Hc, hpc, hout1, hsz, hfr⟩ | ⟨hv, hG, hout1, hsz, hfr⟩
  · subst hv
    refine W.eq (g2 := F0 m 942 ls [.int 0]) rfl ?_
    have hMd1 : md_I D cs H1 xm gm i f := hMd.keepA (fun q hq => hkk q (hMd.lt hq) (lw_not hsm hq (hMd.lt hq)))
    clear hS
    have hS := hS1
    refine lv_istore (lv' := [(5, .int 0), (4, .int (nI (5 * k))), (0, .ref b), (1, .ref (o 0 0)), (2, .ref xm), (3, .ref out)]) hx hb d_law_942 hl (by decide) rfl (fun ls hl => ?_)
    refine lv_aload_n hx hb d_law_944 rfl (lv_at hl 4 rfl) ?_
    refine lv_aload_n hx hb d_law_945 rfl (lv_at hl 2 rfl) ?_
    refine lv_iload hx hb d_law_946 (lv_at hl 1 rfl) ?_
    refine lv_iconst (v := 1) hx hb d_law_948 (by decide) ?_
    refine lv_iadd (x := (nI (5 * k))) (y := 1) hx hb d_law_949 ?_
    refine lv_eqi (y := (nI (5 * k + 1))) (nI_add (5 * k) 1) ?_
    refine va_sld hx hb hXb hbl (Nat.not_le.mpr hbl) hS (show vp_in (nI (5 * k + 1)) L from vp_in_nI (n := 5 * k + 1) (by omega) (by omega)) d_law_950 ?_
    refine lv_eqi (y := xs (5 * k + 1)) (by rw [nI_clamp (by omega)]) ?_
    refine lv_aload_n hx hb d_law_951 rfl (lv_at hl 2 rfl) ?_
    refine lv_iload hx hb d_law_952 (lv_at hl 1 rfl) ?_
    refine lv_iconst (v := 2) hx hb d_law_954 (by decide) ?_
    refine lv_iadd (x := (nI (5 * k))) (y := 2) hx hb d_law_955 ?_
    refine lv_eqi (y := (nI (5 * k + 2))) (nI_add (5 * k) 2) ?_
    refine va_sld hx hb hXb hbl (Nat.not_le.mpr hbl) hS (show vp_in (nI (5 * k + 2)) L from vp_in_nI (n := 5 * k + 2) (by omega) (by omega)) d_law_956 ?_
    refine lv_eqi (y := xs (5 * k + 2)) (by rw [nI_clamp (by omega)]) ?_
    refine h_calli (va_runV (As := [.int (xs (5 * k + 1)), .int (xs (5 * k + 2))]) (rest := []) ⟨hx, hb, hml, hown, htg⟩ (c_Md_broader l D cs s.heap.size H1 xm gm i f ((xs (5 * k + 1))) ((xs (5 * k + 2))) hsm.1 hMd1 (z 3 0) hrel.nam hrel.bnd.2.2.1 br b1) ⟨x_cwB 2 htg (gw_mem (i := 1175) (by decide +kernel) rfl) (gw_mem (i := 38) (by decide +kernel) rfl) (gw_mem (i := 1172) (by decide +kernel) rfl) (by decide +kernel) ⟨Nat.le_of_ble_eq_true rfl, Nat.le_of_ble_eq_true rfl⟩, htg _ (gw_mem (i := 1173) (by decide +kernel) rfl), htg _ (gw_mem (i := 1174) (by decide +kernel) rfl)⟩ ⟨hPre.blind, hx_recv hK (ci := 0) rfl hMd1.1, hPre.at hB hS1 (fun _ h9 => h9)⟩ rfl rfl hl.1 rfl (lv_room (Nat.le_of_ble_eq_true rfl)) d_law_957 ⟨by show _ ≤ 601024; omega, by show _ ≤ 7293034; omega⟩) hS1 hsm.1.A (fun r9 H2 locs2 hm hz2 hk2 hS2 => ?_)
    have hS := hS2
    obtain ⟨hw, o', z', K', r', i', f', hn, hrr, hmd, hi0, hrel2, ho0⟩ := gl_broader (N := H.size) hI hrel b5 b1 b2 b3 b4 hpc hm
    obtain ⟨c1, c2, c3⟩ := hLS0.cls hn hrr hkk hfr
    have hLS2 := lwS.mdl c1 c3 hout1 hk2 hmd hrel2
    refine lv_istore (lv' := [(6, .int r9), (5, .int 0), (4, .int (nI (5 * k))), (0, .ref b), (1, .ref (o 0 0)), (2, .ref xm), (3, .ref out)]) hx hb d_law_960 hl (by decide) rfl (fun ls hl => ?_)
    refine lv_aload_n hx hb d_law_962 rfl (lv_at hl 5 rfl) ?_
    refine h_calli (va_runV (As := []) (rest := []) ⟨hx, hb, hml, hown, htg⟩ (c_Md_thrown l D cs s.heap.size H2 xm gm i' f' hsm.1 hmd) ⟨x_cwB 0 htg (gw_mem (i := 1087) (by decide +kernel) rfl) (gw_mem (i := 38) (by decide +kernel) rfl) (gw_mem (i := 1084) (by decide +kernel) rfl) (by decide +kernel) ⟨Nat.le_of_ble_eq_true rfl, Nat.le_of_ble_eq_true rfl⟩, htg _ (gw_mem (i := 1085) (by decide +kernel) rfl), htg _ (gw_mem (i := 1086) (by decide +kernel) rfl)⟩ ⟨hPre.blind, hx_recv hK (ci := 0) rfl hmd.1, hPre.at hB hS2 (fun _ h9 => h9)⟩ rfl rfl hl.1 rfl (lv_room (Nat.le_of_ble_eq_true rfl)) d_law_963 ⟨by show _ ≤ 601024; omega, by show _ ≤ 7293034; omega⟩) hS2 hsm.1.A (fun r3 H3 locs3 hm3 hz3 hk3 hS3 => ?_)
    obtain ⟨hmd3, hr3⟩ := hm3
    have hLS3 := lwS.mdl hLS2.1 hLS2.2.2.1 hLS2.2.2.2.1 hk3 hmd3 hrel2
    rw [hi0] at hr3
    subst hr3
    refine lv_iload hx hb d_law_966 (lv_at hl 1 rfl) ?_
    refine lv_icmp_eq (tgt := 973) hx hb d_law_968 (by decide) (fun _ => ?_) (fun h9 => absurd rfl h9)
    refine lv_iload hx hb d_law_973 (lv_at hl 1 rfl) ?_
    refine lv_if_ne (tgt := 990) hx hb d_law_975 (by decide) (fun h9 => absurd rfl h9) (fun _ => ?_)
    refine lv_aload_n hx hb d_law_978 rfl (lv_at hl 6 rfl) ?_
    refine lv_iconst (v := 0) hx hb d_law_979 (by decide) ?_
    refine hx_lald hx hb hK 3 hLS3.2.2.2.1 rfl (show vp_in 0 1 from vp_in_nI (n := 0) (by decide) (by decide)) d_law_980 ?_
    refine lv_eqv (y := .long (wv.toInt64)) (show Value.long (vp_updL gl 0 wv.toInt64 0) = _ by rw [updL_self]) ?_
    subst hw
    refine lv_iload hx hb d_law_981 (lv_at hl 0 rfl) ?_
    refine lv_i2l (v := wv.toInt64) hx hb d_law_983 rfl ?_
    skip
    refine W.lcmp hx hb d_law_984 ?_
    refine lv_eqi (y := 0) (lcx _) ?_
    refine lv_if_eq (x := 0) (tgt := 990) hx hb d_law_985 (by decide) (fun _ => ?_) (fun h9 => absurd rfl h9)
    refine lv_goto (tgt := 1391) hx hb d_law_990 (by decide) ?_
    refine W.widen (k := 40 + 10 * (k + 1)) (n := 6000 + 300 * (k + 1)) (by omega) (by omega) ?_
    exact kk _ _ _ ⟨o', z', K', r', i', f', _, ho0, hLS3⟩ hS3 (lv_sub hl [2, 3, 4, 5, 6] rfl)
  · subst hv
    obtain ⟨G9, hG9⟩ : ∃ y, y = goV (isN (z 3 0) ((xs (5 * k + 1))) && isN (z 3 0) ((xs (5 * k + 2)))) true true := ⟨_, rfl⟩
    have hG0 := hG
    rw [← hG9] at hG ⊢
    refine W.eq (g2 := F0 m 942 ls [.int G9]) rfl ?_
    have hLS1 := hLS0.same hfr
    have hMd1 := hLS1.2.1
    clear hS
    have hS := hS1
    refine lv_istore (lv' := [(5, .int G9), (4, .int (nI (5 * k))), (0, .ref b), (1, .ref (o 0 0)), (2, .ref xm), (3, .ref out)]) hx hb d_law_942 hl (by decide) rfl (fun ls hl => ?_)
    refine lv_aload_n hx hb d_law_944 rfl (lv_at hl 4 rfl) ?_
    refine lv_aload_n hx hb d_law_945 rfl (lv_at hl 2 rfl) ?_
    refine lv_iload hx hb d_law_946 (lv_at hl 1 rfl) ?_
    refine lv_iconst (v := 1) hx hb d_law_948 (by decide) ?_
    refine lv_iadd (x := (nI (5 * k))) (y := 1) hx hb d_law_949 ?_
    refine lv_eqi (y := (nI (5 * k + 1))) (nI_add (5 * k) 1) ?_
    refine va_sld hx hb hXb hbl (Nat.not_le.mpr hbl) hS (show vp_in (nI (5 * k + 1)) L from vp_in_nI (n := 5 * k + 1) (by omega) (by omega)) d_law_950 ?_
    refine lv_eqi (y := xs (5 * k + 1)) (by rw [nI_clamp (by omega)]) ?_
    refine lv_aload_n hx hb d_law_951 rfl (lv_at hl 2 rfl) ?_
    refine lv_iload hx hb d_law_952 (lv_at hl 1 rfl) ?_
    refine lv_iconst (v := 2) hx hb d_law_954 (by decide) ?_
    refine lv_iadd (x := (nI (5 * k))) (y := 2) hx hb d_law_955 ?_
    refine lv_eqi (y := (nI (5 * k + 2))) (nI_add (5 * k) 2) ?_
    refine va_sld hx hb hXb hbl (Nat.not_le.mpr hbl) hS (show vp_in (nI (5 * k + 2)) L from vp_in_nI (n := 5 * k + 2) (by omega) (by omega)) d_law_956 ?_
    refine lv_eqi (y := xs (5 * k + 2)) (by rw [nI_clamp (by omega)]) ?_
    refine h_calli (va_runV (As := [.int (xs (5 * k + 1)), .int (xs (5 * k + 2))]) (rest := []) ⟨hx, hb, hml, hown, htg⟩ (c_Md_broader l D cs s.heap.size H1 xm gm i f ((xs (5 * k + 1))) ((xs (5 * k + 2))) hsm.1 hMd1 (z 3 0) hrel.nam hrel.bnd.2.2.1 br b1) ⟨x_cwB 2 htg (gw_mem (i := 1175) (by decide +kernel) rfl) (gw_mem (i := 38) (by decide +kernel) rfl) (gw_mem (i := 1172) (by decide +kernel) rfl) (by decide +kernel) ⟨Nat.le_of_ble_eq_true rfl, Nat.le_of_ble_eq_true rfl⟩, htg _ (gw_mem (i := 1173) (by decide +kernel) rfl), htg _ (gw_mem (i := 1174) (by decide +kernel) rfl)⟩ ⟨hPre.blind, hx_recv hK (ci := 0) rfl hMd1.1, hPre.at hB hS1 (fun _ h9 => h9)⟩ rfl rfl hl.1 rfl (lv_room (Nat.le_of_ble_eq_true rfl)) d_law_957 ⟨by show _ ≤ 601024; omega, by show _ ≤ 7293034; omega⟩) hS1 hsm.1.A (fun r9 H2 locs2 hm hz2 hk2 hS2 => ?_)
    have hS := hS2
    obtain ⟨i', f', hmd, hi0, hrel2⟩ := gx_broader hrel b5 b1 b2 b3 b4 hG0 hm
    have hLS2 := lwS.mdl hLS1.1 hsm hout1 hk2 hmd hrel2
    refine lv_istore (lv' := [(6, .int r9), (5, .int G9), (4, .int (nI (5 * k))), (0, .ref b), (1, .ref (o 0 0)), (2, .ref xm), (3, .ref out)]) hx hb d_law_960 hl (by decide) rfl (fun ls hl => ?_)
    refine lv_aload_n hx hb d_law_962 rfl (lv_at hl 5 rfl) ?_
    refine h_calli (va_runV (As := []) (rest := []) ⟨hx, hb, hml, hown, htg⟩ (c_Md_thrown l D cs s.heap.size H2 xm gm i' f' hsm.1 hmd) ⟨x_cwB 0 htg (gw_mem (i := 1087) (by decide +kernel) rfl) (gw_mem (i := 38) (by decide +kernel) rfl) (gw_mem (i := 1084) (by decide +kernel) rfl) (by decide +kernel) ⟨Nat.le_of_ble_eq_true rfl, Nat.le_of_ble_eq_true rfl⟩, htg _ (gw_mem (i := 1085) (by decide +kernel) rfl), htg _ (gw_mem (i := 1086) (by decide +kernel) rfl)⟩ ⟨hPre.blind, hx_recv hK (ci := 0) rfl hmd.1, hPre.at hB hS2 (fun _ h9 => h9)⟩ rfl rfl hl.1 rfl (lv_room (Nat.le_of_ble_eq_true rfl)) d_law_963 ⟨by show _ ≤ 601024; omega, by show _ ≤ 7293034; omega⟩) hS2 hsm.1.A (fun r3 H3 locs3 hm3 hz3 hk3 hS3 => ?_)
    obtain ⟨hmd3, hr3⟩ := hm3
    have hLS3 := lwS.mdl hLS2.1 hLS2.2.2.1 hLS2.2.2.2.1 hk3 hmd3 hrel2
    rw [hi0, ← hG9] at hr3
    subst hr3
    refine lv_iload hx hb d_law_966 (lv_at hl 1 rfl) ?_
    refine lv_icmp_eq (tgt := 973) hx hb d_law_968 (by decide) (fun _ => ?_) (fun h9 => absurd rfl h9)
    refine lv_iload hx hb d_law_973 (lv_at hl 1 rfl) ?_
    refine lv_if_ne (tgt := 990) hx hb d_law_975 (by decide) (fun _ => ?_) (fun h9 => absurd h9 (by simpa using hG))
    refine lv_goto (tgt := 1391) hx hb d_law_990 (by decide) ?_
    refine W.widen (k := 40 + 10 * (k + 1)) (n := 6000 + 300 * (k + 1)) (by omega) (by omega) ?_
    exact kk _ _ _ ⟨o, z, K, r, i', f', _, rfl, hLS3⟩ hS3 (lv_sub hl [2, 3, 4, 5, 6] rfl)
theorem d_law_993 : decode code 993 = .ok (.aload_n 1, 1) := by decide +kernel
theorem d_law_994 : decode code 994 = .ok (.aload_n 0, 1) := by decide +kernel
theorem d_law_995 : decode code 995 = .ok (.iload 4, 2) := by decide +kernel
theorem d_law_997 : decode code 997 = .ok (.iconst 1, 1) := by decide +kernel
theorem d_law_998 : decode code 998 = .ok (.iadd, 1) := by decide +kernel
theorem d_law_999 : decode code 999 = .ok (.iaload, 1) := by decide +kernel
theorem d_law_1000 : decode code 1000 = .ok (.aload_n 0, 1) := by decide +kernel
theorem d_law_1001 : decode code 1001 = .ok (.iload 4, 2) := by decide +kernel
theorem d_law_1003 : decode code 1003 = .ok (.iconst 2, 1) := by decide +kernel
theorem d_law_1004 : decode code 1004 = .ok (.iadd, 1) := by decide +kernel
theorem d_law_1005 : decode code 1005 = .ok (.iaload, 1) := by decide +kernel
theorem d_law_1006 : decode code 1006 = .ok (.aload_n 3, 1) := by decide +kernel
theorem d_law_1007 : decode code 1007 = .ok (.invokestatic 133, 3) := by decide +kernel
theorem d_law_1010 : decode code 1010 = .ok (.istore 5, 2) := by decide +kernel
theorem d_law_1012 : decode code 1012 = .ok (.aload_n 2, 1) := by decide +kernel
theorem d_law_1013 : decode code 1013 = .ok (.aload_n 0, 1) := by decide +kernel
theorem d_law_1014 : decode code 1014 = .ok (.iload 4, 2) := by decide +kernel
theorem d_law_1016 : decode code 1016 = .ok (.iconst 1, 1) := by decide +kernel
theorem d_law_1017 : decode code 1017 = .ok (.iadd, 1) := by decide +kernel
theorem d_law_1018 : decode code 1018 = .ok (.iaload, 1) := by decide +kernel
theorem d_law_1019 : decode code 1019 = .ok (.aload_n 0, 1) := by decide +kernel
theorem d_law_1020 : decode code 1020 = .ok (.iload 4, 2) := by decide +kernel
theorem d_law_1022 : decode code 1022 = .ok (.iconst 2, 1) := by decide +kernel
theorem d_law_1023 : decode code 1023 = .ok (.iadd, 1) := by decide +kernel
theorem d_law_1024 : decode code 1024 = .ok (.iaload, 1) := by decide +kernel
theorem d_law_1025 : decode code 1025 = .ok (.invokevirtual 135, 3) := by decide +kernel
theorem d_law_1028 : decode code 1028 = .ok (.istore 6, 2) := by decide +kernel
theorem d_law_1030 : decode code 1030 = .ok (.aload_n 2, 1) := by decide +kernel
theorem d_law_1031 : decode code 1031 = .ok (.invokevirtual 83, 3) := by decide +kernel
theorem d_law_1034 : decode code 1034 = .ok (.iload 5, 2) := by decide +kernel
theorem d_law_1036 : decode code 1036 = .ok (.if_icmp .eq 5, 3) := by decide +kernel
theorem d_law_1041 : decode code 1041 = .ok (.iload 5, 2) := by decide +kernel
theorem d_law_1043 : decode code 1043 = .ok (.ifCond .ne 22, 3) := by decide +kernel
theorem d_law_1046 : decode code 1046 = .ok (.aload_n 3, 1) := by decide +kernel
theorem d_law_1047 : decode code 1047 = .ok (.iconst 0, 1) := by decide +kernel
theorem d_law_1048 : decode code 1048 = .ok (.laload, 1) := by decide +kernel
theorem d_law_1049 : decode code 1049 = .ok (.iload 6, 2) := by decide +kernel
theorem d_law_1051 : decode code 1051 = .ok (.ifCond .eq 7, 3) := by decide +kernel
theorem d_law_1054 : decode code 1054 = .ok (.lconst 1, 1) := by decide +kernel
theorem d_law_1055 : decode code 1055 = .ok (.goto 4, 3) := by decide +kernel
theorem d_law_1058 : decode code 1058 = .ok (.lconst 0, 1) := by decide +kernel
theorem d_law_1059 : decode code 1059 = .ok (.lcmp, 1) := by decide +kernel
theorem d_law_1060 : decode code 1060 = .ok (.ifCond .eq 5, 3) := by decide +kernel
theorem d_law_1065 : decode code 1065 = .ok (.goto 326, 3) := by decide +kernel
set_option maxHeartbeats 4000000 in
set_option maxRecDepth 100000 in
theorem lc_covers {p : Program} {l : Launch} {e : Env} {s : State} {m : MethodId} {below : List Frame} {meth : Method} {c : Code} {H : Heap} {locs : List Loc} {b L : Nat} {xs : Nat → Int32} {D : va_G} {cs : Nat → ClassId} {x xm out k : Nat} {gm : Nat → Nat} {ls : Array Slot} {Q9 : State → Prop} (C : lawC p s m c b L xs D cs l) (hk9 : 5 * k + 5 ≤ L) (hX : lwX D cs s.heap.size H x xm gm out) (hS : va_S (lwA s.heap.size) s.heap H locs) (hl : lv_has ls 7 [(4, .int (nI (5 * k))), (0, .ref b), (1, .ref x), (2, .ref xm), (3, .ref out)])
    (kk : ∀ (H3 : Heap) (locs3 : List Loc) (ls3 : Array Slot), lwX D cs s.heap.size H3 x xm gm out → va_S (lwA s.heap.size) s.heap H3 locs3 → lv_has ls3 7 [(4, .int (nI (5 * k))), (0, .ref b), (1, .ref x), (2, .ref xm), (3, .ref out)] → W p l e room_1 s m #[Value.ref b] below meth c H3 locs3 (40 + 10 * (k + 1)) (6000 + 300 * (k + 1)) Q9 (F0 m 1391 ls3 [])) :
    W p l e room_1 s m #[Value.ref b] below meth c H locs (40 + 10 * k) (6000 + 300 * k) Q9 (F0 m 993 ls []) := by
  obtain ⟨hx, hb, hml, hown, hts, hXb, hbl, hl9, hB, hL⟩ := C
  have htg : ∀ w ∈ gw, w.before #[Value.ref b] s = true := fun w h => hts w (List.mem_filter.mp h).1
  have hK := hB.1
  obtain ⟨o, z, K, r, i, f, gl, hox, hLS⟩ := hX
  subst hox
  have hLS0 := hLS
  obtain ⟨hI, hMd, hsm, hout, hrel⟩ := hLS
  have hz0 := hS.1
  obtain ⟨br, b1, b2, b3, b4, b5⟩ := hrel.brd
  refine lv_aload_n hx hb d_law_993 rfl (lv_at hl 2 rfl) ?_
  refine lv_aload_n hx hb d_law_994 rfl (lv_at hl 1 rfl) ?_
  refine lv_iload hx hb d_law_995 (lv_at hl 0 rfl) ?_
  refine lv_iconst (v := 1) hx hb d_law_997 (by decide) ?_
  refine lv_iadd (x := (nI (5 * k))) (y := 1) hx hb d_law_998 ?_
  refine lv_eqi (y := (nI (5 * k + 1))) (nI_add (5 * k) 1) ?_
  refine va_sld hx hb hXb hbl (Nat.not_le.mpr hbl) hS (show vp_in (nI (5 * k + 1)) L from vp_in_nI (n := 5 * k + 1) (by omega) (by omega)) d_law_999 ?_
  refine lv_eqi (y := xs (5 * k + 1)) (by rw [nI_clamp (by omega)]) ?_
  refine lv_aload_n hx hb d_law_1000 rfl (lv_at hl 1 rfl) ?_
  refine lv_iload hx hb d_law_1001 (lv_at hl 0 rfl) ?_
  refine lv_iconst (v := 2) hx hb d_law_1003 (by decide) ?_
  refine lv_iadd (x := (nI (5 * k))) (y := 2) hx hb d_law_1004 ?_
  refine lv_eqi (y := (nI (5 * k + 2))) (nI_add (5 * k) 2) ?_
  refine va_sld hx hb hXb hbl (Nat.not_le.mpr hbl) hS (show vp_in (nI (5 * k + 2)) L from vp_in_nI (n := 5 * k + 2) (by omega) (by omega)) d_law_1005 ?_
  refine lv_eqi (y := xs (5 * k + 2)) (by rw [nI_clamp (by omega)]) ?_
  refine lv_aload_n hx hb d_law_1006 rfl (lv_at hl 4 rfl) ?_
  refine t_SW (n := 4) (As := [.ref (o 0 0), .int (xs (5 * k + 1)), .int (xs (5 * k + 2)), .ref out]) (rest := []) ⟨hx, hb, hml, hown, htg⟩ (c_Lw_covers l D cs s.heap.size H hl9 o z K r H.size out gl ((xs (5 * k + 1))) ((xs (5 * k + 2))) hI rfl hout hsm.2.2.1 hsm.2.2.2.2) (lw_ws (hts _ (List.mem_of_getElem? (i := 904) (by decide +kernel))) rfl htg) List.mem_cons_self (hts _ (List.mem_of_getElem? (i := 904) (by decide +kernel))) (htg _ (gw_mem (i := 29) (by decide +kernel) rfl)) (by decide +kernel) (htg _ (gw_mem (i := 902) (by decide +kernel) rfl)) (htg _ (gw_mem (i := 903) (by decide +kernel) rfl)) ⟨hPre.blind, hPre.at hB hS (fun _ h9 => h9)⟩ rfl hl.1 rfl (lv_room (Nat.le_of_ble_eq_true rfl)) d_law_1007 ⟨by show _ ≤ 601024; omega, by show _ ≤ 7293034; omega⟩ rfl rfl ⟨Nat.le_of_ble_eq_true rfl, Nat.le_of_ble_eq_true rfl⟩ (fun v9 H1 L9 hL9 hp9 hz9 hkk => ?_)
  have hS1 : va_S (lwA s.heap.size) s.heap H1 (locs ++ L9) := x_app hS hz9 (fun q h1 h2 => hkk q h1 (fun h => h2 (lw_sub hI hz0 hsm.2.2.2.2 h))) (fun q hq => lw_sub hI hz0 hsm.2.2.2.2 (hL9 q hq))
  have hz1 := hS1.1
  rcases hp9 with ⟨hv, wv, Hc, hpc, hout1, hsz, hfr⟩ | ⟨hv, hG, hout1, hsz, hfr⟩
  · subst hv
    refine W.eq (g2 := F0 m 1010 ls [.int 0]) rfl ?_
    have hMd1 : md_I D cs H1 xm gm i f := hMd.keepA (fun q hq => hkk q (hMd.lt hq) (lw_not hsm hq (hMd.lt hq)))
    clear hS
    have hS := hS1
    refine lv_istore (lv' := [(5, .int 0), (4, .int (nI (5 * k))), (0, .ref b), (1, .ref (o 0 0)), (2, .ref xm), (3, .ref out)]) hx hb d_law_1010 hl (by decide) rfl (fun ls hl => ?_)
    refine lv_aload_n hx hb d_law_1012 rfl (lv_at hl 4 rfl) ?_
    refine lv_aload_n hx hb d_law_1013 rfl (lv_at hl 2 rfl) ?_
    refine lv_iload hx hb d_law_1014 (lv_at hl 1 rfl) ?_
    refine lv_iconst (v := 1) hx hb d_law_1016 (by decide) ?_
    refine lv_iadd (x := (nI (5 * k))) (y := 1) hx hb d_law_1017 ?_
    refine lv_eqi (y := (nI (5 * k + 1))) (nI_add (5 * k) 1) ?_
    refine va_sld hx hb hXb hbl (Nat.not_le.mpr hbl) hS (show vp_in (nI (5 * k + 1)) L from vp_in_nI (n := 5 * k + 1) (by omega) (by omega)) d_law_1018 ?_
    refine lv_eqi (y := xs (5 * k + 1)) (by rw [nI_clamp (by omega)]) ?_
    refine lv_aload_n hx hb d_law_1019 rfl (lv_at hl 2 rfl) ?_
    refine lv_iload hx hb d_law_1020 (lv_at hl 1 rfl) ?_
    refine lv_iconst (v := 2) hx hb d_law_1022 (by decide) ?_
    refine lv_iadd (x := (nI (5 * k))) (y := 2) hx hb d_law_1023 ?_
    refine lv_eqi (y := (nI (5 * k + 2))) (nI_add (5 * k) 2) ?_
    refine va_sld hx hb hXb hbl (Nat.not_le.mpr hbl) hS (show vp_in (nI (5 * k + 2)) L from vp_in_nI (n := 5 * k + 2) (by omega) (by omega)) d_law_1024 ?_
    refine lv_eqi (y := xs (5 * k + 2)) (by rw [nI_clamp (by omega)]) ?_
    refine h_calli (va_runV (As := [.int (xs (5 * k + 1)), .int (xs (5 * k + 2))]) (rest := []) ⟨hx, hb, hml, hown, htg⟩ (c_Md_covers l D cs s.heap.size H1 xm gm i f ((xs (5 * k + 1))) ((xs (5 * k + 2))) hsm.1 hMd1 (z 3 0) hrel.nam hrel.bnd.2.2.1 br b1) ⟨x_cwB 2 htg (gw_mem (i := 1183) (by decide +kernel) rfl) (gw_mem (i := 38) (by decide +kernel) rfl) (gw_mem (i := 1180) (by decide +kernel) rfl) (by decide +kernel) ⟨Nat.le_of_ble_eq_true rfl, Nat.le_of_ble_eq_true rfl⟩, htg _ (gw_mem (i := 1181) (by decide +kernel) rfl), htg _ (gw_mem (i := 1182) (by decide +kernel) rfl)⟩ ⟨hPre.blind, hx_recv hK (ci := 0) rfl hMd1.1, hPre.at hB hS1 (fun _ h9 => h9)⟩ rfl rfl hl.1 rfl (lv_room (Nat.le_of_ble_eq_true rfl)) d_law_1025 ⟨by show _ ≤ 601024; omega, by show _ ≤ 7293034; omega⟩) hS1 hsm.1.A (fun r9 H2 locs2 hm hz2 hk2 hS2 => ?_)
    have hS := hS2
    obtain ⟨hw, o', z', K', r', i', f', hn, hrr, hmd, hi0, hrel2, ho0⟩ := gl_covers (N := H.size) hI hrel b5 b1 b2 b3 b4 hpc hm
    obtain ⟨c1, c2, c3⟩ := hLS0.cls hn hrr hkk hfr
    have hLS2 := lwS.mdl c1 c3 hout1 hk2 hmd hrel2
    refine lv_istore (lv' := [(6, .int r9), (5, .int 0), (4, .int (nI (5 * k))), (0, .ref b), (1, .ref (o 0 0)), (2, .ref xm), (3, .ref out)]) hx hb d_law_1028 hl (by decide) rfl (fun ls hl => ?_)
    refine lv_aload_n hx hb d_law_1030 rfl (lv_at hl 5 rfl) ?_
    refine h_calli (va_runV (As := []) (rest := []) ⟨hx, hb, hml, hown, htg⟩ (c_Md_thrown l D cs s.heap.size H2 xm gm i' f' hsm.1 hmd) ⟨x_cwB 0 htg (gw_mem (i := 1087) (by decide +kernel) rfl) (gw_mem (i := 38) (by decide +kernel) rfl) (gw_mem (i := 1084) (by decide +kernel) rfl) (by decide +kernel) ⟨Nat.le_of_ble_eq_true rfl, Nat.le_of_ble_eq_true rfl⟩, htg _ (gw_mem (i := 1085) (by decide +kernel) rfl), htg _ (gw_mem (i := 1086) (by decide +kernel) rfl)⟩ ⟨hPre.blind, hx_recv hK (ci := 0) rfl hmd.1, hPre.at hB hS2 (fun _ h9 => h9)⟩ rfl rfl hl.1 rfl (lv_room (Nat.le_of_ble_eq_true rfl)) d_law_1031 ⟨by show _ ≤ 601024; omega, by show _ ≤ 7293034; omega⟩) hS2 hsm.1.A (fun r3 H3 locs3 hm3 hz3 hk3 hS3 => ?_)
    obtain ⟨hmd3, hr3⟩ := hm3
    have hLS3 := lwS.mdl hLS2.1 hLS2.2.2.1 hLS2.2.2.2.1 hk3 hmd3 hrel2
    rw [hi0] at hr3
    subst hr3
    refine lv_iload hx hb d_law_1034 (lv_at hl 1 rfl) ?_
    refine lv_icmp_eq (tgt := 1041) hx hb d_law_1036 (by decide) (fun _ => ?_) (fun h9 => absurd rfl h9)
    refine lv_iload hx hb d_law_1041 (lv_at hl 1 rfl) ?_
    refine lv_if_ne (tgt := 1065) hx hb d_law_1043 (by decide) (fun h9 => absurd rfl h9) (fun _ => ?_)
    refine lv_aload_n hx hb d_law_1046 rfl (lv_at hl 6 rfl) ?_
    refine lv_iconst (v := 0) hx hb d_law_1047 (by decide) ?_
    refine hx_lald hx hb hK 3 hLS3.2.2.2.1 rfl (show vp_in 0 1 from vp_in_nI (n := 0) (by decide) (by decide)) d_law_1048 ?_
    refine lv_eqv (y := .long (if wv = 0 then 0 else 1)) (show Value.long (vp_updL gl 0 (if wv = 0 then 0 else 1) 0) = _ by rw [updL_self]) ?_
    subst hw
    refine lv_iload hx hb d_law_1049 (lv_at hl 0 rfl) ?_
    refine lv_if_eq (x := wv) (tgt := 1058) hx hb d_law_1051 (by decide) (fun hc0 => ?_) (fun hc0 => ?_)
    · rw [if_pos hc0]
      refine lv_lconst (v := 0) hx hb d_law_1058 rfl ?_
      refine W.lcmp hx hb d_law_1059 ?_
      refine lv_eqi (y := 0) (lcx _) ?_
      refine lv_if_eq (x := 0) (tgt := 1065) hx hb d_law_1060 (by decide) (fun _ => ?_) (fun h9 => absurd rfl h9)
      refine lv_goto (tgt := 1391) hx hb d_law_1065 (by decide) ?_
      refine W.widen (k := 40 + 10 * (k + 1)) (n := 6000 + 300 * (k + 1)) (by omega) (by omega) ?_
      exact kk _ _ _ ⟨o', z', K', r', i', f', _, ho0, hLS3⟩ hS3 (lv_sub hl [2, 3, 4, 5, 6] rfl)
    · rw [if_neg hc0]
      refine lv_lconst (v := 1) hx hb d_law_1054 rfl ?_
      refine lv_goto (tgt := 1059) hx hb d_law_1055 (by decide) ?_
      refine W.lcmp hx hb d_law_1059 ?_
      refine lv_eqi (y := 0) (lcx _) ?_
      refine lv_if_eq (x := 0) (tgt := 1065) hx hb d_law_1060 (by decide) (fun _ => ?_) (fun h9 => absurd rfl h9)
      refine lv_goto (tgt := 1391) hx hb d_law_1065 (by decide) ?_
      refine W.widen (k := 40 + 10 * (k + 1)) (n := 6000 + 300 * (k + 1)) (by omega) (by omega) ?_
      exact kk _ _ _ ⟨o', z', K', r', i', f', _, ho0, hLS3⟩ hS3 (lv_sub hl [2, 3, 4, 5, 6] rfl)
  · subst hv
    obtain ⟨G9, hG9⟩ : ∃ y, y = goV (isN (z 3 0) ((xs (5 * k + 1))) && isN (z 3 0) ((xs (5 * k + 2)))) true true := ⟨_, rfl⟩
    have hG0 := hG
    rw [← hG9] at hG ⊢
    refine W.eq (g2 := F0 m 1010 ls [.int G9]) rfl ?_
    have hLS1 := hLS0.same hfr
    have hMd1 := hLS1.2.1
    clear hS
    have hS := hS1
    refine lv_istore (lv' := [(5, .int G9), (4, .int (nI (5 * k))), (0, .ref b), (1, .ref (o 0 0)), (2, .ref xm), (3, .ref out)]) hx hb d_law_1010 hl (by decide) rfl (fun ls hl => ?_)
    refine lv_aload_n hx hb d_law_1012 rfl (lv_at hl 4 rfl) ?_
    refine lv_aload_n hx hb d_law_1013 rfl (lv_at hl 2 rfl) ?_
    refine lv_iload hx hb d_law_1014 (lv_at hl 1 rfl) ?_
    refine lv_iconst (v := 1) hx hb d_law_1016 (by decide) ?_
    refine lv_iadd (x := (nI (5 * k))) (y := 1) hx hb d_law_1017 ?_
    refine lv_eqi (y := (nI (5 * k + 1))) (nI_add (5 * k) 1) ?_
    refine va_sld hx hb hXb hbl (Nat.not_le.mpr hbl) hS (show vp_in (nI (5 * k + 1)) L from vp_in_nI (n := 5 * k + 1) (by omega) (by omega)) d_law_1018 ?_
    refine lv_eqi (y := xs (5 * k + 1)) (by rw [nI_clamp (by omega)]) ?_
    refine lv_aload_n hx hb d_law_1019 rfl (lv_at hl 2 rfl) ?_
    refine lv_iload hx hb d_law_1020 (lv_at hl 1 rfl) ?_
    refine lv_iconst (v := 2) hx hb d_law_1022 (by decide) ?_
    refine lv_iadd (x := (nI (5 * k))) (y := 2) hx hb d_law_1023 ?_
    refine lv_eqi (y := (nI (5 * k + 2))) (nI_add (5 * k) 2) ?_
    refine va_sld hx hb hXb hbl (Nat.not_le.mpr hbl) hS (show vp_in (nI (5 * k + 2)) L from vp_in_nI (n := 5 * k + 2) (by omega) (by omega)) d_law_1024 ?_
    refine lv_eqi (y := xs (5 * k + 2)) (by rw [nI_clamp (by omega)]) ?_
    refine h_calli (va_runV (As := [.int (xs (5 * k + 1)), .int (xs (5 * k + 2))]) (rest := []) ⟨hx, hb, hml, hown, htg⟩ (c_Md_covers l D cs s.heap.size H1 xm gm i f ((xs (5 * k + 1))) ((xs (5 * k + 2))) hsm.1 hMd1 (z 3 0) hrel.nam hrel.bnd.2.2.1 br b1) ⟨x_cwB 2 htg (gw_mem (i := 1183) (by decide +kernel) rfl) (gw_mem (i := 38) (by decide +kernel) rfl) (gw_mem (i := 1180) (by decide +kernel) rfl) (by decide +kernel) ⟨Nat.le_of_ble_eq_true rfl, Nat.le_of_ble_eq_true rfl⟩, htg _ (gw_mem (i := 1181) (by decide +kernel) rfl), htg _ (gw_mem (i := 1182) (by decide +kernel) rfl)⟩ ⟨hPre.blind, hx_recv hK (ci := 0) rfl hMd1.1, hPre.at hB hS1 (fun _ h9 => h9)⟩ rfl rfl hl.1 rfl (lv_room (Nat.le_of_ble_eq_true rfl)) d_law_1025 ⟨by show _ ≤ 601024; omega, by show _ ≤ 7293034; omega⟩) hS1 hsm.1.A (fun r9 H2 locs2 hm hz2 hk2 hS2 => ?_)
    have hS := hS2
    obtain ⟨i', f', hmd, hi0, hrel2⟩ := gx_covers hrel b5 b1 b2 b3 b4 hG0 hm
    have hLS2 := lwS.mdl hLS1.1 hsm hout1 hk2 hmd hrel2
    refine lv_istore (lv' := [(6, .int r9), (5, .int G9), (4, .int (nI (5 * k))), (0, .ref b), (1, .ref (o 0 0)), (2, .ref xm), (3, .ref out)]) hx hb d_law_1028 hl (by decide) rfl (fun ls hl => ?_)
    refine lv_aload_n hx hb d_law_1030 rfl (lv_at hl 5 rfl) ?_
    refine h_calli (va_runV (As := []) (rest := []) ⟨hx, hb, hml, hown, htg⟩ (c_Md_thrown l D cs s.heap.size H2 xm gm i' f' hsm.1 hmd) ⟨x_cwB 0 htg (gw_mem (i := 1087) (by decide +kernel) rfl) (gw_mem (i := 38) (by decide +kernel) rfl) (gw_mem (i := 1084) (by decide +kernel) rfl) (by decide +kernel) ⟨Nat.le_of_ble_eq_true rfl, Nat.le_of_ble_eq_true rfl⟩, htg _ (gw_mem (i := 1085) (by decide +kernel) rfl), htg _ (gw_mem (i := 1086) (by decide +kernel) rfl)⟩ ⟨hPre.blind, hx_recv hK (ci := 0) rfl hmd.1, hPre.at hB hS2 (fun _ h9 => h9)⟩ rfl rfl hl.1 rfl (lv_room (Nat.le_of_ble_eq_true rfl)) d_law_1031 ⟨by show _ ≤ 601024; omega, by show _ ≤ 7293034; omega⟩) hS2 hsm.1.A (fun r3 H3 locs3 hm3 hz3 hk3 hS3 => ?_)
    obtain ⟨hmd3, hr3⟩ := hm3
    have hLS3 := lwS.mdl hLS2.1 hLS2.2.2.1 hLS2.2.2.2.1 hk3 hmd3 hrel2
    rw [hi0, ← hG9] at hr3
    subst hr3
    refine lv_iload hx hb d_law_1034 (lv_at hl 1 rfl) ?_
    refine lv_icmp_eq (tgt := 1041) hx hb d_law_1036 (by decide) (fun _ => ?_) (fun h9 => absurd rfl h9)
    refine lv_iload hx hb d_law_1041 (lv_at hl 1 rfl) ?_
    refine lv_if_ne (tgt := 1065) hx hb d_law_1043 (by decide) (fun _ => ?_) (fun h9 => absurd h9 (by simpa using hG))
    refine lv_goto (tgt := 1391) hx hb d_law_1065 (by decide) ?_
    refine W.widen (k := 40 + 10 * (k + 1)) (n := 6000 + 300 * (k + 1)) (by omega) (by omega) ?_
    exact kk _ _ _ ⟨o, z, K, r, i', f', _, rfl, hLS3⟩ hS3 (lv_sub hl [2, 3, 4, 5, 6] rfl)
theorem d_law_1068 : decode code 1068 = .ok (.aload_n 1, 1) := by decide +kernel
theorem d_law_1069 : decode code 1069 = .ok (.aload_n 0, 1) := by decide +kernel
theorem d_law_1070 : decode code 1070 = .ok (.iload 4, 2) := by decide +kernel
theorem d_law_1072 : decode code 1072 = .ok (.iconst 1, 1) := by decide +kernel
theorem d_law_1073 : decode code 1073 = .ok (.iadd, 1) := by decide +kernel
theorem d_law_1074 : decode code 1074 = .ok (.iaload, 1) := by decide +kernel
theorem d_law_1075 : decode code 1075 = .ok (.aload_n 3, 1) := by decide +kernel
theorem d_law_1076 : decode code 1076 = .ok (.invokestatic 136, 3) := by decide +kernel
theorem d_law_1079 : decode code 1079 = .ok (.istore 5, 2) := by decide +kernel
theorem d_law_1081 : decode code 1081 = .ok (.aload_n 2, 1) := by decide +kernel
theorem d_law_1082 : decode code 1082 = .ok (.aload_n 0, 1) := by decide +kernel
theorem d_law_1083 : decode code 1083 = .ok (.iload 4, 2) := by decide +kernel
theorem d_law_1085 : decode code 1085 = .ok (.iconst 1, 1) := by decide +kernel
theorem d_law_1086 : decode code 1086 = .ok (.iadd, 1) := by decide +kernel
theorem d_law_1087 : decode code 1087 = .ok (.iaload, 1) := by decide +kernel
theorem d_law_1088 : decode code 1088 = .ok (.invokevirtual 138, 3) := by decide +kernel
theorem d_law_1091 : decode code 1091 = .ok (.istore 6, 2) := by decide +kernel
theorem d_law_1093 : decode code 1093 = .ok (.aload_n 2, 1) := by decide +kernel
theorem d_law_1094 : decode code 1094 = .ok (.invokevirtual 83, 3) := by decide +kernel
theorem d_law_1097 : decode code 1097 = .ok (.iload 5, 2) := by decide +kernel
theorem d_law_1099 : decode code 1099 = .ok (.if_icmp .eq 5, 3) := by decide +kernel
theorem d_law_1104 : decode code 1104 = .ok (.iload 5, 2) := by decide +kernel
theorem d_law_1106 : decode code 1106 = .ok (.ifCond .ne 15, 3) := by decide +kernel
theorem d_law_1109 : decode code 1109 = .ok (.aload_n 3, 1) := by decide +kernel
theorem d_law_1110 : decode code 1110 = .ok (.iconst 0, 1) := by decide +kernel
theorem d_law_1111 : decode code 1111 = .ok (.laload, 1) := by decide +kernel
theorem d_law_1112 : decode code 1112 = .ok (.iload 6, 2) := by decide +kernel
theorem d_law_1114 : decode code 1114 = .ok (.i2l, 1) := by decide +kernel
theorem d_law_1115 : decode code 1115 = .ok (.lcmp, 1) := by decide +kernel
theorem d_law_1116 : decode code 1116 = .ok (.ifCond .eq 5, 3) := by decide +kernel
theorem d_law_1121 : decode code 1121 = .ok (.goto 270, 3) := by decide +kernel
set_option maxHeartbeats 4000000 in
set_option maxRecDepth 100000 in
theorem lc_find {p : Program} {l : Launch} {e : Env} {s : State} {m : MethodId} {below : List Frame} {meth : Method} {c : Code} {H : Heap} {locs : List Loc} {b L : Nat} {xs : Nat → Int32} {D : va_G} {cs : Nat → ClassId} {x xm out k : Nat} {gm : Nat → Nat} {ls : Array Slot} {Q9 : State → Prop} (C : lawC p s m c b L xs D cs l) (hk9 : 5 * k + 5 ≤ L) (hX : lwX D cs s.heap.size H x xm gm out) (hS : va_S (lwA s.heap.size) s.heap H locs) (hl : lv_has ls 7 [(4, .int (nI (5 * k))), (0, .ref b), (1, .ref x), (2, .ref xm), (3, .ref out)])
    (kk : ∀ (H3 : Heap) (locs3 : List Loc) (ls3 : Array Slot), lwX D cs s.heap.size H3 x xm gm out → va_S (lwA s.heap.size) s.heap H3 locs3 → lv_has ls3 7 [(4, .int (nI (5 * k))), (0, .ref b), (1, .ref x), (2, .ref xm), (3, .ref out)] → W p l e room_1 s m #[Value.ref b] below meth c H3 locs3 (40 + 10 * (k + 1)) (6000 + 300 * (k + 1)) Q9 (F0 m 1391 ls3 [])) :
    W p l e room_1 s m #[Value.ref b] below meth c H locs (40 + 10 * k) (6000 + 300 * k) Q9 (F0 m 1068 ls []) := by
  obtain ⟨hx, hb, hml, hown, hts, hXb, hbl, hl9, hB, hL⟩ := C
  have htg : ∀ w ∈ gw, w.before #[Value.ref b] s = true := fun w h => hts w (List.mem_filter.mp h).1
  have hK := hB.1
  obtain ⟨o, z, K, r, i, f, gl, hox, hLS⟩ := hX
  subst hox
  have hLS0 := hLS
  obtain ⟨hI, hMd, hsm, hout, hrel⟩ := hLS
  have hz0 := hS.1
  obtain ⟨mo, mt, ho9, ht9, hmm, hgr⟩ := hrel.grp
  refine lv_aload_n hx hb d_law_1068 rfl (lv_at hl 2 rfl) ?_
  refine lv_aload_n hx hb d_law_1069 rfl (lv_at hl 1 rfl) ?_
  refine lv_iload hx hb d_law_1070 (lv_at hl 0 rfl) ?_
  refine lv_iconst (v := 1) hx hb d_law_1072 (by decide) ?_
  refine lv_iadd (x := (nI (5 * k))) (y := 1) hx hb d_law_1073 ?_
  refine lv_eqi (y := (nI (5 * k + 1))) (nI_add (5 * k) 1) ?_
  refine va_sld hx hb hXb hbl (Nat.not_le.mpr hbl) hS (show vp_in (nI (5 * k + 1)) L from vp_in_nI (n := 5 * k + 1) (by omega) (by omega)) d_law_1074 ?_
  refine lv_eqi (y := xs (5 * k + 1)) (by rw [nI_clamp (by omega)]) ?_
  refine lv_aload_n hx hb d_law_1075 rfl (lv_at hl 4 rfl) ?_
  refine t_SW (n := 3) (As := [.ref (o 0 0), .int (xs (5 * k + 1)), .ref out]) (rest := []) ⟨hx, hb, hml, hown, htg⟩ (c_Lw_find l D cs s.heap.size H hl9 o z K r H.size out gl ((xs (5 * k + 1))) hI rfl hout hsm.2.2.1 hsm.2.2.2.2) (lw_ws (hts _ (List.mem_of_getElem? (i := 911) (by decide +kernel))) rfl htg) List.mem_cons_self (hts _ (List.mem_of_getElem? (i := 911) (by decide +kernel))) (htg _ (gw_mem (i := 29) (by decide +kernel) rfl)) (by decide +kernel) (htg _ (gw_mem (i := 909) (by decide +kernel) rfl)) (htg _ (gw_mem (i := 910) (by decide +kernel) rfl)) ⟨hPre.blind, hPre.at hB hS (fun _ h9 => h9)⟩ rfl hl.1 rfl (lv_room (Nat.le_of_ble_eq_true rfl)) d_law_1076 ⟨by show _ ≤ 601024; omega, by show _ ≤ 7293034; omega⟩ rfl rfl ⟨Nat.le_of_ble_eq_true rfl, Nat.le_of_ble_eq_true rfl⟩ (fun v9 H1 L9 hL9 hp9 hz9 hkk => ?_)
  have hS1 : va_S (lwA s.heap.size) s.heap H1 (locs ++ L9) := x_app hS hz9 (fun q h1 h2 => hkk q h1 (fun h => h2 (lw_sub hI hz0 hsm.2.2.2.2 h))) (fun q hq => lw_sub hI hz0 hsm.2.2.2.2 (hL9 q hq))
  have hz1 := hS1.1
  rcases hp9 with ⟨hv, wv, Hc, hpc, hout1, hsz, hfr⟩ | ⟨hv, hG, hout1, hsz, hfr⟩
  · subst hv
    refine W.eq (g2 := F0 m 1079 ls [.int 0]) rfl ?_
    have hMd1 : md_I D cs H1 xm gm i f := hMd.keepA (fun q hq => hkk q (hMd.lt hq) (lw_not hsm hq (hMd.lt hq)))
    clear hS
    have hS := hS1
    refine lv_istore (lv' := [(5, .int 0), (4, .int (nI (5 * k))), (0, .ref b), (1, .ref (o 0 0)), (2, .ref xm), (3, .ref out)]) hx hb d_law_1079 hl (by decide) rfl (fun ls hl => ?_)
    refine lv_aload_n hx hb d_law_1081 rfl (lv_at hl 4 rfl) ?_
    refine lv_aload_n hx hb d_law_1082 rfl (lv_at hl 2 rfl) ?_
    refine lv_iload hx hb d_law_1083 (lv_at hl 1 rfl) ?_
    refine lv_iconst (v := 1) hx hb d_law_1085 (by decide) ?_
    refine lv_iadd (x := (nI (5 * k))) (y := 1) hx hb d_law_1086 ?_
    refine lv_eqi (y := (nI (5 * k + 1))) (nI_add (5 * k) 1) ?_
    refine va_sld hx hb hXb hbl (Nat.not_le.mpr hbl) hS (show vp_in (nI (5 * k + 1)) L from vp_in_nI (n := 5 * k + 1) (by omega) (by omega)) d_law_1087 ?_
    refine lv_eqi (y := xs (5 * k + 1)) (by rw [nI_clamp (by omega)]) ?_
    refine h_calli (va_runV (As := [.int (xs (5 * k + 1))]) (rest := []) ⟨hx, hb, hml, hown, htg⟩ (c_Md_find l D cs s.heap.size H1 xm gm i f ((xs (5 * k + 1))) hsm.1 hMd1 (z 3 0) hrel.nam hrel.bnd.2.2.1 (z 1 0) hrel.pad.1 hrel.bnd.2.1 (mnF z) hrel.wf.1 (z 5 0) hrel.mrg.1 hrel.bnd.2.2.2.1 mo mt ho9 ht9) ⟨x_cwB 1 htg (gw_mem (i := 1187) (by decide +kernel) rfl) (gw_mem (i := 38) (by decide +kernel) rfl) (gw_mem (i := 1184) (by decide +kernel) rfl) (by decide +kernel) ⟨Nat.le_of_ble_eq_true rfl, Nat.le_of_ble_eq_true rfl⟩, htg _ (gw_mem (i := 1185) (by decide +kernel) rfl), htg _ (gw_mem (i := 1186) (by decide +kernel) rfl)⟩ ⟨hPre.blind, hx_recv hK (ci := 0) rfl hMd1.1, hPre.at hB hS1 (fun _ h9 => h9)⟩ rfl rfl hl.1 rfl (lv_room (Nat.le_of_ble_eq_true rfl)) d_law_1088 ⟨by show _ ≤ 601024; omega, by show _ ≤ 7293034; omega⟩) hS1 hsm.1.A (fun r9 H2 locs2 hm hz2 hk2 hS2 => ?_)
    have hS := hS2
    obtain ⟨hw, o', z', K', r', i', f', hn, hrr, hmd, hi0, hrel2, ho0⟩ := gl_find (N := H.size) hI hrel hmm hgr hpc hm
    obtain ⟨c1, c2, c3⟩ := hLS0.cls hn hrr hkk hfr
    have hLS2 := lwS.mdl c1 c3 hout1 hk2 hmd hrel2
    refine lv_istore (lv' := [(6, .int r9), (5, .int 0), (4, .int (nI (5 * k))), (0, .ref b), (1, .ref (o 0 0)), (2, .ref xm), (3, .ref out)]) hx hb d_law_1091 hl (by decide) rfl (fun ls hl => ?_)
    refine lv_aload_n hx hb d_law_1093 rfl (lv_at hl 5 rfl) ?_
    refine h_calli (va_runV (As := []) (rest := []) ⟨hx, hb, hml, hown, htg⟩ (c_Md_thrown l D cs s.heap.size H2 xm gm i' f' hsm.1 hmd) ⟨x_cwB 0 htg (gw_mem (i := 1087) (by decide +kernel) rfl) (gw_mem (i := 38) (by decide +kernel) rfl) (gw_mem (i := 1084) (by decide +kernel) rfl) (by decide +kernel) ⟨Nat.le_of_ble_eq_true rfl, Nat.le_of_ble_eq_true rfl⟩, htg _ (gw_mem (i := 1085) (by decide +kernel) rfl), htg _ (gw_mem (i := 1086) (by decide +kernel) rfl)⟩ ⟨hPre.blind, hx_recv hK (ci := 0) rfl hmd.1, hPre.at hB hS2 (fun _ h9 => h9)⟩ rfl rfl hl.1 rfl (lv_room (Nat.le_of_ble_eq_true rfl)) d_law_1094 ⟨by show _ ≤ 601024; omega, by show _ ≤ 7293034; omega⟩) hS2 hsm.1.A (fun r3 H3 locs3 hm3 hz3 hk3 hS3 => ?_)
    obtain ⟨hmd3, hr3⟩ := hm3
    have hLS3 := lwS.mdl hLS2.1 hLS2.2.2.1 hLS2.2.2.2.1 hk3 hmd3 hrel2
    rw [hi0] at hr3
    subst hr3
    refine lv_iload hx hb d_law_1097 (lv_at hl 1 rfl) ?_
    refine lv_icmp_eq (tgt := 1104) hx hb d_law_1099 (by decide) (fun _ => ?_) (fun h9 => absurd rfl h9)
    refine lv_iload hx hb d_law_1104 (lv_at hl 1 rfl) ?_
    refine lv_if_ne (tgt := 1121) hx hb d_law_1106 (by decide) (fun h9 => absurd rfl h9) (fun _ => ?_)
    refine lv_aload_n hx hb d_law_1109 rfl (lv_at hl 6 rfl) ?_
    refine lv_iconst (v := 0) hx hb d_law_1110 (by decide) ?_
    refine hx_lald hx hb hK 3 hLS3.2.2.2.1 rfl (show vp_in 0 1 from vp_in_nI (n := 0) (by decide) (by decide)) d_law_1111 ?_
    refine lv_eqv (y := .long (wv.toInt64)) (show Value.long (vp_updL gl 0 wv.toInt64 0) = _ by rw [updL_self]) ?_
    subst hw
    refine lv_iload hx hb d_law_1112 (lv_at hl 0 rfl) ?_
    refine lv_i2l (v := wv.toInt64) hx hb d_law_1114 rfl ?_
    skip
    refine W.lcmp hx hb d_law_1115 ?_
    refine lv_eqi (y := 0) (lcx _) ?_
    refine lv_if_eq (x := 0) (tgt := 1121) hx hb d_law_1116 (by decide) (fun _ => ?_) (fun h9 => absurd rfl h9)
    refine lv_goto (tgt := 1391) hx hb d_law_1121 (by decide) ?_
    refine W.widen (k := 40 + 10 * (k + 1)) (n := 6000 + 300 * (k + 1)) (by omega) (by omega) ?_
    exact kk _ _ _ ⟨o', z', K', r', i', f', _, ho0, hLS3⟩ hS3 (lv_sub hl [2, 3, 4, 5, 6] rfl)
  · subst hv
    obtain ⟨G9, hG9⟩ : ∃ y, y = goV (isD ((xs (5 * k + 1)))) true true := ⟨_, rfl⟩
    have hG0 := hG
    rw [← hG9] at hG ⊢
    refine W.eq (g2 := F0 m 1079 ls [.int G9]) rfl ?_
    have hLS1 := hLS0.same hfr
    have hMd1 := hLS1.2.1
    clear hS
    have hS := hS1
    refine lv_istore (lv' := [(5, .int G9), (4, .int (nI (5 * k))), (0, .ref b), (1, .ref (o 0 0)), (2, .ref xm), (3, .ref out)]) hx hb d_law_1079 hl (by decide) rfl (fun ls hl => ?_)
    refine lv_aload_n hx hb d_law_1081 rfl (lv_at hl 4 rfl) ?_
    refine lv_aload_n hx hb d_law_1082 rfl (lv_at hl 2 rfl) ?_
    refine lv_iload hx hb d_law_1083 (lv_at hl 1 rfl) ?_
    refine lv_iconst (v := 1) hx hb d_law_1085 (by decide) ?_
    refine lv_iadd (x := (nI (5 * k))) (y := 1) hx hb d_law_1086 ?_
    refine lv_eqi (y := (nI (5 * k + 1))) (nI_add (5 * k) 1) ?_
    refine va_sld hx hb hXb hbl (Nat.not_le.mpr hbl) hS (show vp_in (nI (5 * k + 1)) L from vp_in_nI (n := 5 * k + 1) (by omega) (by omega)) d_law_1087 ?_
    refine lv_eqi (y := xs (5 * k + 1)) (by rw [nI_clamp (by omega)]) ?_
    refine h_calli (va_runV (As := [.int (xs (5 * k + 1))]) (rest := []) ⟨hx, hb, hml, hown, htg⟩ (c_Md_find l D cs s.heap.size H1 xm gm i f ((xs (5 * k + 1))) hsm.1 hMd1 (z 3 0) hrel.nam hrel.bnd.2.2.1 (z 1 0) hrel.pad.1 hrel.bnd.2.1 (mnF z) hrel.wf.1 (z 5 0) hrel.mrg.1 hrel.bnd.2.2.2.1 mo mt ho9 ht9) ⟨x_cwB 1 htg (gw_mem (i := 1187) (by decide +kernel) rfl) (gw_mem (i := 38) (by decide +kernel) rfl) (gw_mem (i := 1184) (by decide +kernel) rfl) (by decide +kernel) ⟨Nat.le_of_ble_eq_true rfl, Nat.le_of_ble_eq_true rfl⟩, htg _ (gw_mem (i := 1185) (by decide +kernel) rfl), htg _ (gw_mem (i := 1186) (by decide +kernel) rfl)⟩ ⟨hPre.blind, hx_recv hK (ci := 0) rfl hMd1.1, hPre.at hB hS1 (fun _ h9 => h9)⟩ rfl rfl hl.1 rfl (lv_room (Nat.le_of_ble_eq_true rfl)) d_law_1088 ⟨by show _ ≤ 601024; omega, by show _ ≤ 7293034; omega⟩) hS1 hsm.1.A (fun r9 H2 locs2 hm hz2 hk2 hS2 => ?_)
    have hS := hS2
    obtain ⟨i', f', hmd, hi0, hrel2⟩ := gx_find hrel hmm hgr hG0 hm
    have hLS2 := lwS.mdl hLS1.1 hsm hout1 hk2 hmd hrel2
    refine lv_istore (lv' := [(6, .int r9), (5, .int G9), (4, .int (nI (5 * k))), (0, .ref b), (1, .ref (o 0 0)), (2, .ref xm), (3, .ref out)]) hx hb d_law_1091 hl (by decide) rfl (fun ls hl => ?_)
    refine lv_aload_n hx hb d_law_1093 rfl (lv_at hl 5 rfl) ?_
    refine h_calli (va_runV (As := []) (rest := []) ⟨hx, hb, hml, hown, htg⟩ (c_Md_thrown l D cs s.heap.size H2 xm gm i' f' hsm.1 hmd) ⟨x_cwB 0 htg (gw_mem (i := 1087) (by decide +kernel) rfl) (gw_mem (i := 38) (by decide +kernel) rfl) (gw_mem (i := 1084) (by decide +kernel) rfl) (by decide +kernel) ⟨Nat.le_of_ble_eq_true rfl, Nat.le_of_ble_eq_true rfl⟩, htg _ (gw_mem (i := 1085) (by decide +kernel) rfl), htg _ (gw_mem (i := 1086) (by decide +kernel) rfl)⟩ ⟨hPre.blind, hx_recv hK (ci := 0) rfl hmd.1, hPre.at hB hS2 (fun _ h9 => h9)⟩ rfl rfl hl.1 rfl (lv_room (Nat.le_of_ble_eq_true rfl)) d_law_1094 ⟨by show _ ≤ 601024; omega, by show _ ≤ 7293034; omega⟩) hS2 hsm.1.A (fun r3 H3 locs3 hm3 hz3 hk3 hS3 => ?_)
    obtain ⟨hmd3, hr3⟩ := hm3
    have hLS3 := lwS.mdl hLS2.1 hLS2.2.2.1 hLS2.2.2.2.1 hk3 hmd3 hrel2
    rw [hi0, ← hG9] at hr3
    subst hr3
    refine lv_iload hx hb d_law_1097 (lv_at hl 1 rfl) ?_
    refine lv_icmp_eq (tgt := 1104) hx hb d_law_1099 (by decide) (fun _ => ?_) (fun h9 => absurd rfl h9)
    refine lv_iload hx hb d_law_1104 (lv_at hl 1 rfl) ?_
    refine lv_if_ne (tgt := 1121) hx hb d_law_1106 (by decide) (fun _ => ?_) (fun h9 => absurd h9 (by simpa using hG))
    refine lv_goto (tgt := 1391) hx hb d_law_1121 (by decide) ?_
    refine W.widen (k := 40 + 10 * (k + 1)) (n := 6000 + 300 * (k + 1)) (by omega) (by omega) ?_
    exact kk _ _ _ ⟨o, z, K, r, i', f', _, rfl, hLS3⟩ hS3 (lv_sub hl [2, 3, 4, 5, 6] rfl)
theorem d_law_1124 : decode code 1124 = .ok (.aload_n 1, 1) := by decide +kernel
theorem d_law_1125 : decode code 1125 = .ok (.aload_n 0, 1) := by decide +kernel
theorem d_law_1126 : decode code 1126 = .ok (.iload 4, 2) := by decide +kernel
theorem d_law_1128 : decode code 1128 = .ok (.iconst 1, 1) := by decide +kernel
theorem d_law_1129 : decode code 1129 = .ok (.iadd, 1) := by decide +kernel
theorem d_law_1130 : decode code 1130 = .ok (.iaload, 1) := by decide +kernel
theorem d_law_1131 : decode code 1131 = .ok (.aload_n 3, 1) := by decide +kernel
theorem d_law_1132 : decode code 1132 = .ok (.invokestatic 139, 3) := by decide +kernel
theorem d_law_1135 : decode code 1135 = .ok (.istore 5, 2) := by decide +kernel
theorem d_law_1137 : decode code 1137 = .ok (.aload_n 2, 1) := by decide +kernel
theorem d_law_1138 : decode code 1138 = .ok (.aload_n 0, 1) := by decide +kernel
theorem d_law_1139 : decode code 1139 = .ok (.iload 4, 2) := by decide +kernel
theorem d_law_1141 : decode code 1141 = .ok (.iconst 1, 1) := by decide +kernel
theorem d_law_1142 : decode code 1142 = .ok (.iadd, 1) := by decide +kernel
theorem d_law_1143 : decode code 1143 = .ok (.iaload, 1) := by decide +kernel
theorem d_law_1144 : decode code 1144 = .ok (.invokevirtual 141, 3) := by decide +kernel
theorem d_law_1147 : decode code 1147 = .ok (.istore 6, 2) := by decide +kernel
theorem d_law_1149 : decode code 1149 = .ok (.aload_n 2, 1) := by decide +kernel
theorem d_law_1150 : decode code 1150 = .ok (.invokevirtual 83, 3) := by decide +kernel
theorem d_law_1153 : decode code 1153 = .ok (.iload 5, 2) := by decide +kernel
theorem d_law_1155 : decode code 1155 = .ok (.if_icmp .eq 5, 3) := by decide +kernel
theorem d_law_1160 : decode code 1160 = .ok (.iload 5, 2) := by decide +kernel
theorem d_law_1162 : decode code 1162 = .ok (.ifCond .ne 15, 3) := by decide +kernel
theorem d_law_1165 : decode code 1165 = .ok (.aload_n 3, 1) := by decide +kernel
theorem d_law_1166 : decode code 1166 = .ok (.iconst 0, 1) := by decide +kernel
theorem d_law_1167 : decode code 1167 = .ok (.laload, 1) := by decide +kernel
theorem d_law_1168 : decode code 1168 = .ok (.iload 6, 2) := by decide +kernel
theorem d_law_1170 : decode code 1170 = .ok (.i2l, 1) := by decide +kernel
theorem d_law_1171 : decode code 1171 = .ok (.lcmp, 1) := by decide +kernel
theorem d_law_1172 : decode code 1172 = .ok (.ifCond .eq 5, 3) := by decide +kernel
theorem d_law_1177 : decode code 1177 = .ok (.goto 214, 3) := by decide +kernel
set_option maxHeartbeats 4000000 in
set_option maxRecDepth 100000 in
theorem lc_found {p : Program} {l : Launch} {e : Env} {s : State} {m : MethodId} {below : List Frame} {meth : Method} {c : Code} {H : Heap} {locs : List Loc} {b L : Nat} {xs : Nat → Int32} {D : va_G} {cs : Nat → ClassId} {x xm out k : Nat} {gm : Nat → Nat} {ls : Array Slot} {Q9 : State → Prop} (C : lawC p s m c b L xs D cs l) (hk9 : 5 * k + 5 ≤ L) (hX : lwX D cs s.heap.size H x xm gm out) (hS : va_S (lwA s.heap.size) s.heap H locs) (hl : lv_has ls 7 [(4, .int (nI (5 * k))), (0, .ref b), (1, .ref x), (2, .ref xm), (3, .ref out)])
    (kk : ∀ (H3 : Heap) (locs3 : List Loc) (ls3 : Array Slot), lwX D cs s.heap.size H3 x xm gm out → va_S (lwA s.heap.size) s.heap H3 locs3 → lv_has ls3 7 [(4, .int (nI (5 * k))), (0, .ref b), (1, .ref x), (2, .ref xm), (3, .ref out)] → W p l e room_1 s m #[Value.ref b] below meth c H3 locs3 (40 + 10 * (k + 1)) (6000 + 300 * (k + 1)) Q9 (F0 m 1391 ls3 [])) :
    W p l e room_1 s m #[Value.ref b] below meth c H locs (40 + 10 * k) (6000 + 300 * k) Q9 (F0 m 1124 ls []) := by
  obtain ⟨hx, hb, hml, hown, hts, hXb, hbl, hl9, hB, hL⟩ := C
  have htg : ∀ w ∈ gw, w.before #[Value.ref b] s = true := fun w h => hts w (List.mem_filter.mp h).1
  have hK := hB.1
  obtain ⟨o, z, K, r, i, f, gl, hox, hLS⟩ := hX
  subst hox
  have hLS0 := hLS
  obtain ⟨hI, hMd, hsm, hout, hrel⟩ := hLS
  have hz0 := hS.1
  obtain ⟨fc, hfc, hfc24, hbc, hfnd⟩ := hrel.fnds
  refine lv_aload_n hx hb d_law_1124 rfl (lv_at hl 2 rfl) ?_
  refine lv_aload_n hx hb d_law_1125 rfl (lv_at hl 1 rfl) ?_
  refine lv_iload hx hb d_law_1126 (lv_at hl 0 rfl) ?_
  refine lv_iconst (v := 1) hx hb d_law_1128 (by decide) ?_
  refine lv_iadd (x := (nI (5 * k))) (y := 1) hx hb d_law_1129 ?_
  refine lv_eqi (y := (nI (5 * k + 1))) (nI_add (5 * k) 1) ?_
  refine va_sld hx hb hXb hbl (Nat.not_le.mpr hbl) hS (show vp_in (nI (5 * k + 1)) L from vp_in_nI (n := 5 * k + 1) (by omega) (by omega)) d_law_1130 ?_
  refine lv_eqi (y := xs (5 * k + 1)) (by rw [nI_clamp (by omega)]) ?_
  refine lv_aload_n hx hb d_law_1131 rfl (lv_at hl 4 rfl) ?_
  refine t_SW (n := 3) (As := [.ref (o 0 0), .int (xs (5 * k + 1)), .ref out]) (rest := []) ⟨hx, hb, hml, hown, htg⟩ (c_Lw_found l D cs s.heap.size H hl9 o z K r H.size out gl ((xs (5 * k + 1))) hI rfl hout hsm.2.2.1 hsm.2.2.2.2) (lw_ws (hts _ (List.mem_of_getElem? (i := 939) (by decide +kernel))) rfl htg) List.mem_cons_self (hts _ (List.mem_of_getElem? (i := 939) (by decide +kernel))) (htg _ (gw_mem (i := 29) (by decide +kernel) rfl)) (by decide +kernel) (htg _ (gw_mem (i := 937) (by decide +kernel) rfl)) (htg _ (gw_mem (i := 938) (by decide +kernel) rfl)) ⟨hPre.blind, hPre.at hB hS (fun _ h9 => h9)⟩ rfl hl.1 rfl (lv_room (Nat.le_of_ble_eq_true rfl)) d_law_1132 ⟨by show _ ≤ 601024; omega, by show _ ≤ 7293034; omega⟩ rfl rfl ⟨Nat.le_of_ble_eq_true rfl, Nat.le_of_ble_eq_true rfl⟩ (fun v9 H1 L9 hL9 hp9 hz9 hkk => ?_)
  have hS1 : va_S (lwA s.heap.size) s.heap H1 (locs ++ L9) := x_app hS hz9 (fun q h1 h2 => hkk q h1 (fun h => h2 (lw_sub hI hz0 hsm.2.2.2.2 h))) (fun q hq => lw_sub hI hz0 hsm.2.2.2.2 (hL9 q hq))
  have hz1 := hS1.1
  rcases hp9 with ⟨hv, wv, Hc, hpc, hout1, hsz, hfr⟩ | ⟨hv, hG, hout1, hsz, hfr⟩
  · subst hv
    refine W.eq (g2 := F0 m 1135 ls [.int 0]) rfl ?_
    have hMd1 : md_I D cs H1 xm gm i f := hMd.keepA (fun q hq => hkk q (hMd.lt hq) (lw_not hsm hq (hMd.lt hq)))
    clear hS
    have hS := hS1
    refine lv_istore (lv' := [(5, .int 0), (4, .int (nI (5 * k))), (0, .ref b), (1, .ref (o 0 0)), (2, .ref xm), (3, .ref out)]) hx hb d_law_1135 hl (by decide) rfl (fun ls hl => ?_)
    refine lv_aload_n hx hb d_law_1137 rfl (lv_at hl 4 rfl) ?_
    refine lv_aload_n hx hb d_law_1138 rfl (lv_at hl 2 rfl) ?_
    refine lv_iload hx hb d_law_1139 (lv_at hl 1 rfl) ?_
    refine lv_iconst (v := 1) hx hb d_law_1141 (by decide) ?_
    refine lv_iadd (x := (nI (5 * k))) (y := 1) hx hb d_law_1142 ?_
    refine lv_eqi (y := (nI (5 * k + 1))) (nI_add (5 * k) 1) ?_
    refine va_sld hx hb hXb hbl (Nat.not_le.mpr hbl) hS (show vp_in (nI (5 * k + 1)) L from vp_in_nI (n := 5 * k + 1) (by omega) (by omega)) d_law_1143 ?_
    refine lv_eqi (y := xs (5 * k + 1)) (by rw [nI_clamp (by omega)]) ?_
    refine h_calli (va_runV (As := [.int (xs (5 * k + 1))]) (rest := []) ⟨hx, hb, hml, hown, htg⟩ (c_Md_found l D cs s.heap.size H1 xm gm i f ((xs (5 * k + 1))) hsm.1 hMd1 fc hfc hfc24) ⟨x_cwB 1 htg (gw_mem (i := 1199) (by decide +kernel) rfl) (gw_mem (i := 38) (by decide +kernel) rfl) (gw_mem (i := 1196) (by decide +kernel) rfl) (by decide +kernel) ⟨Nat.le_of_ble_eq_true rfl, Nat.le_of_ble_eq_true rfl⟩, htg _ (gw_mem (i := 1197) (by decide +kernel) rfl), htg _ (gw_mem (i := 1198) (by decide +kernel) rfl)⟩ ⟨hPre.blind, hx_recv hK (ci := 0) rfl hMd1.1, hPre.at hB hS1 (fun _ h9 => h9)⟩ rfl rfl hl.1 rfl (lv_room (Nat.le_of_ble_eq_true rfl)) d_law_1144 ⟨by show _ ≤ 601024; omega, by show _ ≤ 7293034; omega⟩) hS1 hsm.1.A (fun r9 H2 locs2 hm hz2 hk2 hS2 => ?_)
    have hS := hS2
    obtain ⟨hw, o', z', K', r', i', f', hn, hrr, hmd, hi0, hrel2, ho0⟩ := gl_found (N := H.size) hI hrel hfc hfc24 hbc hfnd hpc hm
    obtain ⟨c1, c2, c3⟩ := hLS0.cls hn hrr hkk hfr
    have hLS2 := lwS.mdl c1 c3 hout1 hk2 hmd hrel2
    refine lv_istore (lv' := [(6, .int r9), (5, .int 0), (4, .int (nI (5 * k))), (0, .ref b), (1, .ref (o 0 0)), (2, .ref xm), (3, .ref out)]) hx hb d_law_1147 hl (by decide) rfl (fun ls hl => ?_)
    refine lv_aload_n hx hb d_law_1149 rfl (lv_at hl 5 rfl) ?_
    refine h_calli (va_runV (As := []) (rest := []) ⟨hx, hb, hml, hown, htg⟩ (c_Md_thrown l D cs s.heap.size H2 xm gm i' f' hsm.1 hmd) ⟨x_cwB 0 htg (gw_mem (i := 1087) (by decide +kernel) rfl) (gw_mem (i := 38) (by decide +kernel) rfl) (gw_mem (i := 1084) (by decide +kernel) rfl) (by decide +kernel) ⟨Nat.le_of_ble_eq_true rfl, Nat.le_of_ble_eq_true rfl⟩, htg _ (gw_mem (i := 1085) (by decide +kernel) rfl), htg _ (gw_mem (i := 1086) (by decide +kernel) rfl)⟩ ⟨hPre.blind, hx_recv hK (ci := 0) rfl hmd.1, hPre.at hB hS2 (fun _ h9 => h9)⟩ rfl rfl hl.1 rfl (lv_room (Nat.le_of_ble_eq_true rfl)) d_law_1150 ⟨by show _ ≤ 601024; omega, by show _ ≤ 7293034; omega⟩) hS2 hsm.1.A (fun r3 H3 locs3 hm3 hz3 hk3 hS3 => ?_)
    obtain ⟨hmd3, hr3⟩ := hm3
    have hLS3 := lwS.mdl hLS2.1 hLS2.2.2.1 hLS2.2.2.2.1 hk3 hmd3 hrel2
    rw [hi0] at hr3
    subst hr3
    refine lv_iload hx hb d_law_1153 (lv_at hl 1 rfl) ?_
    refine lv_icmp_eq (tgt := 1160) hx hb d_law_1155 (by decide) (fun _ => ?_) (fun h9 => absurd rfl h9)
    refine lv_iload hx hb d_law_1160 (lv_at hl 1 rfl) ?_
    refine lv_if_ne (tgt := 1177) hx hb d_law_1162 (by decide) (fun h9 => absurd rfl h9) (fun _ => ?_)
    refine lv_aload_n hx hb d_law_1165 rfl (lv_at hl 6 rfl) ?_
    refine lv_iconst (v := 0) hx hb d_law_1166 (by decide) ?_
    refine hx_lald hx hb hK 3 hLS3.2.2.2.1 rfl (show vp_in 0 1 from vp_in_nI (n := 0) (by decide) (by decide)) d_law_1167 ?_
    refine lv_eqv (y := .long (wv.toInt64)) (show Value.long (vp_updL gl 0 wv.toInt64 0) = _ by rw [updL_self]) ?_
    subst hw
    refine lv_iload hx hb d_law_1168 (lv_at hl 0 rfl) ?_
    refine lv_i2l (v := wv.toInt64) hx hb d_law_1170 rfl ?_
    skip
    refine W.lcmp hx hb d_law_1171 ?_
    refine lv_eqi (y := 0) (lcx _) ?_
    refine lv_if_eq (x := 0) (tgt := 1177) hx hb d_law_1172 (by decide) (fun _ => ?_) (fun h9 => absurd rfl h9)
    refine lv_goto (tgt := 1391) hx hb d_law_1177 (by decide) ?_
    refine W.widen (k := 40 + 10 * (k + 1)) (n := 6000 + 300 * (k + 1)) (by omega) (by omega) ?_
    exact kk _ _ _ ⟨o', z', K', r', i', f', _, ho0, hLS3⟩ hS3 (lv_sub hl [2, 3, 4, 5, 6] rfl)
  · subst hv
    obtain ⟨G9, hG9⟩ : ∃ y, y = goV (!decide (((xs (5 * k + 1))) < 0) && !decide (bcV (K 0 0 0) ≤ ((xs (5 * k + 1))))) true true := ⟨_, rfl⟩
    have hG0 := hG
    rw [← hG9] at hG ⊢
    refine W.eq (g2 := F0 m 1135 ls [.int G9]) rfl ?_
    have hLS1 := hLS0.same hfr
    have hMd1 := hLS1.2.1
    clear hS
    have hS := hS1
    refine lv_istore (lv' := [(5, .int G9), (4, .int (nI (5 * k))), (0, .ref b), (1, .ref (o 0 0)), (2, .ref xm), (3, .ref out)]) hx hb d_law_1135 hl (by decide) rfl (fun ls hl => ?_)
    refine lv_aload_n hx hb d_law_1137 rfl (lv_at hl 4 rfl) ?_
    refine lv_aload_n hx hb d_law_1138 rfl (lv_at hl 2 rfl) ?_
    refine lv_iload hx hb d_law_1139 (lv_at hl 1 rfl) ?_
    refine lv_iconst (v := 1) hx hb d_law_1141 (by decide) ?_
    refine lv_iadd (x := (nI (5 * k))) (y := 1) hx hb d_law_1142 ?_
    refine lv_eqi (y := (nI (5 * k + 1))) (nI_add (5 * k) 1) ?_
    refine va_sld hx hb hXb hbl (Nat.not_le.mpr hbl) hS (show vp_in (nI (5 * k + 1)) L from vp_in_nI (n := 5 * k + 1) (by omega) (by omega)) d_law_1143 ?_
    refine lv_eqi (y := xs (5 * k + 1)) (by rw [nI_clamp (by omega)]) ?_
    refine h_calli (va_runV (As := [.int (xs (5 * k + 1))]) (rest := []) ⟨hx, hb, hml, hown, htg⟩ (c_Md_found l D cs s.heap.size H1 xm gm i f ((xs (5 * k + 1))) hsm.1 hMd1 fc hfc hfc24) ⟨x_cwB 1 htg (gw_mem (i := 1199) (by decide +kernel) rfl) (gw_mem (i := 38) (by decide +kernel) rfl) (gw_mem (i := 1196) (by decide +kernel) rfl) (by decide +kernel) ⟨Nat.le_of_ble_eq_true rfl, Nat.le_of_ble_eq_true rfl⟩, htg _ (gw_mem (i := 1197) (by decide +kernel) rfl), htg _ (gw_mem (i := 1198) (by decide +kernel) rfl)⟩ ⟨hPre.blind, hx_recv hK (ci := 0) rfl hMd1.1, hPre.at hB hS1 (fun _ h9 => h9)⟩ rfl rfl hl.1 rfl (lv_room (Nat.le_of_ble_eq_true rfl)) d_law_1144 ⟨by show _ ≤ 601024; omega, by show _ ≤ 7293034; omega⟩) hS1 hsm.1.A (fun r9 H2 locs2 hm hz2 hk2 hS2 => ?_)
    have hS := hS2
    obtain ⟨i', f', hmd, hi0, hrel2⟩ := gx_found hrel hfc hfc24 hbc hfnd hG0 hm
    have hLS2 := lwS.mdl hLS1.1 hsm hout1 hk2 hmd hrel2
    refine lv_istore (lv' := [(6, .int r9), (5, .int G9), (4, .int (nI (5 * k))), (0, .ref b), (1, .ref (o 0 0)), (2, .ref xm), (3, .ref out)]) hx hb d_law_1147 hl (by decide) rfl (fun ls hl => ?_)
    refine lv_aload_n hx hb d_law_1149 rfl (lv_at hl 5 rfl) ?_
    refine h_calli (va_runV (As := []) (rest := []) ⟨hx, hb, hml, hown, htg⟩ (c_Md_thrown l D cs s.heap.size H2 xm gm i' f' hsm.1 hmd) ⟨x_cwB 0 htg (gw_mem (i := 1087) (by decide +kernel) rfl) (gw_mem (i := 38) (by decide +kernel) rfl) (gw_mem (i := 1084) (by decide +kernel) rfl) (by decide +kernel) ⟨Nat.le_of_ble_eq_true rfl, Nat.le_of_ble_eq_true rfl⟩, htg _ (gw_mem (i := 1085) (by decide +kernel) rfl), htg _ (gw_mem (i := 1086) (by decide +kernel) rfl)⟩ ⟨hPre.blind, hx_recv hK (ci := 0) rfl hmd.1, hPre.at hB hS2 (fun _ h9 => h9)⟩ rfl rfl hl.1 rfl (lv_room (Nat.le_of_ble_eq_true rfl)) d_law_1150 ⟨by show _ ≤ 601024; omega, by show _ ≤ 7293034; omega⟩) hS2 hsm.1.A (fun r3 H3 locs3 hm3 hz3 hk3 hS3 => ?_)
    obtain ⟨hmd3, hr3⟩ := hm3
    have hLS3 := lwS.mdl hLS2.1 hLS2.2.2.1 hLS2.2.2.2.1 hk3 hmd3 hrel2
    rw [hi0, ← hG9] at hr3
    subst hr3
    refine lv_iload hx hb d_law_1153 (lv_at hl 1 rfl) ?_
    refine lv_icmp_eq (tgt := 1160) hx hb d_law_1155 (by decide) (fun _ => ?_) (fun h9 => absurd rfl h9)
    refine lv_iload hx hb d_law_1160 (lv_at hl 1 rfl) ?_
    refine lv_if_ne (tgt := 1177) hx hb d_law_1162 (by decide) (fun _ => ?_) (fun h9 => absurd h9 (by simpa using hG))
    refine lv_goto (tgt := 1391) hx hb d_law_1177 (by decide) ?_
    refine W.widen (k := 40 + 10 * (k + 1)) (n := 6000 + 300 * (k + 1)) (by omega) (by omega) ?_
    exact kk _ _ _ ⟨o, z, K, r, i', f', _, rfl, hLS3⟩ hS3 (lv_sub hl [2, 3, 4, 5, 6] rfl)
theorem d_law_1180 : decode code 1180 = .ok (.aload_n 1, 1) := by decide +kernel
theorem d_law_1181 : decode code 1181 = .ok (.aload_n 0, 1) := by decide +kernel
theorem d_law_1182 : decode code 1182 = .ok (.iload 4, 2) := by decide +kernel
theorem d_law_1184 : decode code 1184 = .ok (.iconst 1, 1) := by decide +kernel
theorem d_law_1185 : decode code 1185 = .ok (.iadd, 1) := by decide +kernel
theorem d_law_1186 : decode code 1186 = .ok (.iaload, 1) := by decide +kernel
theorem d_law_1187 : decode code 1187 = .ok (.aload_n 0, 1) := by decide +kernel
theorem d_law_1188 : decode code 1188 = .ok (.iload 4, 2) := by decide +kernel
theorem d_law_1190 : decode code 1190 = .ok (.iconst 2, 1) := by decide +kernel
theorem d_law_1191 : decode code 1191 = .ok (.iadd, 1) := by decide +kernel
theorem d_law_1192 : decode code 1192 = .ok (.iaload, 1) := by decide +kernel
theorem d_law_1193 : decode code 1193 = .ok (.aload_n 0, 1) := by decide +kernel
theorem d_law_1194 : decode code 1194 = .ok (.iload 4, 2) := by decide +kernel
theorem d_law_1196 : decode code 1196 = .ok (.iconst 3, 1) := by decide +kernel
theorem d_law_1197 : decode code 1197 = .ok (.iadd, 1) := by decide +kernel
theorem d_law_1198 : decode code 1198 = .ok (.iaload, 1) := by decide +kernel
theorem d_law_1199 : decode code 1199 = .ok (.aload_n 3, 1) := by decide +kernel
theorem d_law_1200 : decode code 1200 = .ok (.invokestatic 142, 3) := by decide +kernel
theorem d_law_1203 : decode code 1203 = .ok (.istore 5, 2) := by decide +kernel
theorem d_law_1205 : decode code 1205 = .ok (.aload_n 2, 1) := by decide +kernel
theorem d_law_1206 : decode code 1206 = .ok (.aload_n 0, 1) := by decide +kernel
theorem d_law_1207 : decode code 1207 = .ok (.iload 4, 2) := by decide +kernel
theorem d_law_1209 : decode code 1209 = .ok (.iconst 1, 1) := by decide +kernel
theorem d_law_1210 : decode code 1210 = .ok (.iadd, 1) := by decide +kernel
theorem d_law_1211 : decode code 1211 = .ok (.iaload, 1) := by decide +kernel
theorem d_law_1212 : decode code 1212 = .ok (.aload_n 0, 1) := by decide +kernel
theorem d_law_1213 : decode code 1213 = .ok (.iload 4, 2) := by decide +kernel
theorem d_law_1215 : decode code 1215 = .ok (.iconst 2, 1) := by decide +kernel
theorem d_law_1216 : decode code 1216 = .ok (.iadd, 1) := by decide +kernel
theorem d_law_1217 : decode code 1217 = .ok (.iaload, 1) := by decide +kernel
theorem d_law_1218 : decode code 1218 = .ok (.aload_n 0, 1) := by decide +kernel
theorem d_law_1219 : decode code 1219 = .ok (.iload 4, 2) := by decide +kernel
theorem d_law_1221 : decode code 1221 = .ok (.iconst 3, 1) := by decide +kernel
theorem d_law_1222 : decode code 1222 = .ok (.iadd, 1) := by decide +kernel
theorem d_law_1223 : decode code 1223 = .ok (.iaload, 1) := by decide +kernel
theorem d_law_1224 : decode code 1224 = .ok (.invokevirtual 144, 3) := by decide +kernel
theorem d_law_1227 : decode code 1227 = .ok (.istore 6, 2) := by decide +kernel
theorem d_law_1229 : decode code 1229 = .ok (.aload_n 2, 1) := by decide +kernel
theorem d_law_1230 : decode code 1230 = .ok (.invokevirtual 83, 3) := by decide +kernel
theorem d_law_1233 : decode code 1233 = .ok (.iload 5, 2) := by decide +kernel
theorem d_law_1235 : decode code 1235 = .ok (.if_icmp .eq 5, 3) := by decide +kernel
theorem d_law_1240 : decode code 1240 = .ok (.iload 5, 2) := by decide +kernel
theorem d_law_1242 : decode code 1242 = .ok (.ifCond .ne 22, 3) := by decide +kernel
theorem d_law_1245 : decode code 1245 = .ok (.aload_n 3, 1) := by decide +kernel
theorem d_law_1246 : decode code 1246 = .ok (.iconst 0, 1) := by decide +kernel
theorem d_law_1247 : decode code 1247 = .ok (.laload, 1) := by decide +kernel
theorem d_law_1248 : decode code 1248 = .ok (.iload 6, 2) := by decide +kernel
theorem d_law_1250 : decode code 1250 = .ok (.ifCond .eq 7, 3) := by decide +kernel
theorem d_law_1253 : decode code 1253 = .ok (.lconst 1, 1) := by decide +kernel
theorem d_law_1254 : decode code 1254 = .ok (.goto 4, 3) := by decide +kernel
theorem d_law_1257 : decode code 1257 = .ok (.lconst 0, 1) := by decide +kernel
theorem d_law_1258 : decode code 1258 = .ok (.lcmp, 1) := by decide +kernel
theorem d_law_1259 : decode code 1259 = .ok (.ifCond .eq 5, 3) := by decide +kernel
theorem d_law_1264 : decode code 1264 = .ok (.goto 127, 3) := by decide +kernel
set_option maxHeartbeats 4000000 in
set_option maxRecDepth 100000 in
theorem lc_outside {p : Program} {l : Launch} {e : Env} {s : State} {m : MethodId} {below : List Frame} {meth : Method} {c : Code} {H : Heap} {locs : List Loc} {b L : Nat} {xs : Nat → Int32} {D : va_G} {cs : Nat → ClassId} {x xm out k : Nat} {gm : Nat → Nat} {ls : Array Slot} {Q9 : State → Prop} (C : lawC p s m c b L xs D cs l) (hk9 : 5 * k + 5 ≤ L) (hX : lwX D cs s.heap.size H x xm gm out) (hS : va_S (lwA s.heap.size) s.heap H locs) (hl : lv_has ls 7 [(4, .int (nI (5 * k))), (0, .ref b), (1, .ref x), (2, .ref xm), (3, .ref out)])
    (kk : ∀ (H3 : Heap) (locs3 : List Loc) (ls3 : Array Slot), lwX D cs s.heap.size H3 x xm gm out → va_S (lwA s.heap.size) s.heap H3 locs3 → lv_has ls3 7 [(4, .int (nI (5 * k))), (0, .ref b), (1, .ref x), (2, .ref xm), (3, .ref out)] → W p l e room_1 s m #[Value.ref b] below meth c H3 locs3 (40 + 10 * (k + 1)) (6000 + 300 * (k + 1)) Q9 (F0 m 1391 ls3 [])) :
    W p l e room_1 s m #[Value.ref b] below meth c H locs (40 + 10 * k) (6000 + 300 * k) Q9 (F0 m 1180 ls []) := by
  obtain ⟨hx, hb, hml, hown, hts, hXb, hbl, hl9, hB, hL⟩ := C
  have htg : ∀ w ∈ gw, w.before #[Value.ref b] s = true := fun w h => hts w (List.mem_filter.mp h).1
  have hK := hB.1
  obtain ⟨o, z, K, r, i, f, gl, hox, hLS⟩ := hX
  subst hox
  have hLS0 := hLS
  obtain ⟨hI, hMd, hsm, hout, hrel⟩ := hLS
  have hz0 := hS.1
  refine lv_aload_n hx hb d_law_1180 rfl (lv_at hl 2 rfl) ?_
  refine lv_aload_n hx hb d_law_1181 rfl (lv_at hl 1 rfl) ?_
  refine lv_iload hx hb d_law_1182 (lv_at hl 0 rfl) ?_
  refine lv_iconst (v := 1) hx hb d_law_1184 (by decide) ?_
  refine lv_iadd (x := (nI (5 * k))) (y := 1) hx hb d_law_1185 ?_
  refine lv_eqi (y := (nI (5 * k + 1))) (nI_add (5 * k) 1) ?_
  refine va_sld hx hb hXb hbl (Nat.not_le.mpr hbl) hS (show vp_in (nI (5 * k + 1)) L from vp_in_nI (n := 5 * k + 1) (by omega) (by omega)) d_law_1186 ?_
  refine lv_eqi (y := xs (5 * k + 1)) (by rw [nI_clamp (by omega)]) ?_
  refine lv_aload_n hx hb d_law_1187 rfl (lv_at hl 1 rfl) ?_
  refine lv_iload hx hb d_law_1188 (lv_at hl 0 rfl) ?_
  refine lv_iconst (v := 2) hx hb d_law_1190 (by decide) ?_
  refine lv_iadd (x := (nI (5 * k))) (y := 2) hx hb d_law_1191 ?_
  refine lv_eqi (y := (nI (5 * k + 2))) (nI_add (5 * k) 2) ?_
  refine va_sld hx hb hXb hbl (Nat.not_le.mpr hbl) hS (show vp_in (nI (5 * k + 2)) L from vp_in_nI (n := 5 * k + 2) (by omega) (by omega)) d_law_1192 ?_
  refine lv_eqi (y := xs (5 * k + 2)) (by rw [nI_clamp (by omega)]) ?_
  refine lv_aload_n hx hb d_law_1193 rfl (lv_at hl 1 rfl) ?_
  refine lv_iload hx hb d_law_1194 (lv_at hl 0 rfl) ?_
  refine lv_iconst (v := 3) hx hb d_law_1196 (by decide) ?_
  refine lv_iadd (x := (nI (5 * k))) (y := 3) hx hb d_law_1197 ?_
  refine lv_eqi (y := (nI (5 * k + 3))) (nI_add (5 * k) 3) ?_
  refine va_sld hx hb hXb hbl (Nat.not_le.mpr hbl) hS (show vp_in (nI (5 * k + 3)) L from vp_in_nI (n := 5 * k + 3) (by omega) (by omega)) d_law_1198 ?_
  refine lv_eqi (y := xs (5 * k + 3)) (by rw [nI_clamp (by omega)]) ?_
  refine lv_aload_n hx hb d_law_1199 rfl (lv_at hl 4 rfl) ?_
  refine t_SW (n := 5) (As := [.ref (o 0 0), .int (xs (5 * k + 1)), .int (xs (5 * k + 2)), .int (xs (5 * k + 3)), .ref out]) (rest := []) ⟨hx, hb, hml, hown, htg⟩ (c_Lw_outside l D cs s.heap.size H hl9 o z K r H.size out gl ((xs (5 * k + 1))) ((xs (5 * k + 2))) ((xs (5 * k + 3))) hI rfl hout hsm.2.2.1 hsm.2.2.2.2) (lw_ws (hts _ (List.mem_of_getElem? (i := 947) (by decide +kernel))) rfl htg) List.mem_cons_self (hts _ (List.mem_of_getElem? (i := 947) (by decide +kernel))) (htg _ (gw_mem (i := 29) (by decide +kernel) rfl)) (by decide +kernel) (htg _ (gw_mem (i := 945) (by decide +kernel) rfl)) (htg _ (gw_mem (i := 946) (by decide +kernel) rfl)) ⟨hPre.blind, hPre.at hB hS (fun _ h9 => h9)⟩ rfl hl.1 rfl (lv_room (Nat.le_of_ble_eq_true rfl)) d_law_1200 ⟨by show _ ≤ 601024; omega, by show _ ≤ 7293034; omega⟩ rfl rfl ⟨Nat.le_of_ble_eq_true rfl, Nat.le_of_ble_eq_true rfl⟩ (fun v9 H1 L9 hL9 hp9 hz9 hkk => ?_)
  have hS1 : va_S (lwA s.heap.size) s.heap H1 (locs ++ L9) := x_app hS hz9 (fun q h1 h2 => hkk q h1 (fun h => h2 (lw_sub hI hz0 hsm.2.2.2.2 h))) (fun q hq => lw_sub hI hz0 hsm.2.2.2.2 (hL9 q hq))
  have hz1 := hS1.1
  rcases hp9 with ⟨hv, wv, Hc, hpc, hout1, hsz, hfr⟩ | ⟨hv, hG, hout1, hsz, hfr⟩
  · subst hv
    refine W.eq (g2 := F0 m 1203 ls [.int 0]) rfl ?_
    have hMd1 : md_I D cs H1 xm gm i f := hMd.keepA (fun q hq => hkk q (hMd.lt hq) (lw_not hsm hq (hMd.lt hq)))
    clear hS
    have hS := hS1
    refine lv_istore (lv' := [(5, .int 0), (4, .int (nI (5 * k))), (0, .ref b), (1, .ref (o 0 0)), (2, .ref xm), (3, .ref out)]) hx hb d_law_1203 hl (by decide) rfl (fun ls hl => ?_)
    refine lv_aload_n hx hb d_law_1205 rfl (lv_at hl 4 rfl) ?_
    refine lv_aload_n hx hb d_law_1206 rfl (lv_at hl 2 rfl) ?_
    refine lv_iload hx hb d_law_1207 (lv_at hl 1 rfl) ?_
    refine lv_iconst (v := 1) hx hb d_law_1209 (by decide) ?_
    refine lv_iadd (x := (nI (5 * k))) (y := 1) hx hb d_law_1210 ?_
    refine lv_eqi (y := (nI (5 * k + 1))) (nI_add (5 * k) 1) ?_
    refine va_sld hx hb hXb hbl (Nat.not_le.mpr hbl) hS (show vp_in (nI (5 * k + 1)) L from vp_in_nI (n := 5 * k + 1) (by omega) (by omega)) d_law_1211 ?_
    refine lv_eqi (y := xs (5 * k + 1)) (by rw [nI_clamp (by omega)]) ?_
    refine lv_aload_n hx hb d_law_1212 rfl (lv_at hl 2 rfl) ?_
    refine lv_iload hx hb d_law_1213 (lv_at hl 1 rfl) ?_
    refine lv_iconst (v := 2) hx hb d_law_1215 (by decide) ?_
    refine lv_iadd (x := (nI (5 * k))) (y := 2) hx hb d_law_1216 ?_
    refine lv_eqi (y := (nI (5 * k + 2))) (nI_add (5 * k) 2) ?_
    refine va_sld hx hb hXb hbl (Nat.not_le.mpr hbl) hS (show vp_in (nI (5 * k + 2)) L from vp_in_nI (n := 5 * k + 2) (by omega) (by omega)) d_law_1217 ?_
    refine lv_eqi (y := xs (5 * k + 2)) (by rw [nI_clamp (by omega)]) ?_
    refine lv_aload_n hx hb d_law_1218 rfl (lv_at hl 2 rfl) ?_
    refine lv_iload hx hb d_law_1219 (lv_at hl 1 rfl) ?_
    refine lv_iconst (v := 3) hx hb d_law_1221 (by decide) ?_
    refine lv_iadd (x := (nI (5 * k))) (y := 3) hx hb d_law_1222 ?_
    refine lv_eqi (y := (nI (5 * k + 3))) (nI_add (5 * k) 3) ?_
    refine va_sld hx hb hXb hbl (Nat.not_le.mpr hbl) hS (show vp_in (nI (5 * k + 3)) L from vp_in_nI (n := 5 * k + 3) (by omega) (by omega)) d_law_1223 ?_
    refine lv_eqi (y := xs (5 * k + 3)) (by rw [nI_clamp (by omega)]) ?_
    refine h_calli (va_runV (As := [.int (xs (5 * k + 1)), .int (xs (5 * k + 2)), .int (xs (5 * k + 3))]) (rest := []) ⟨hx, hb, hml, hown, htg⟩ (c_Md_outside l D cs s.heap.size H1 xm gm i f ((xs (5 * k + 1))) ((xs (5 * k + 2))) ((xs (5 * k + 3))) hsm.1 hMd1 (z 3 0) hrel.nam hrel.bnd.2.2.1) ⟨x_cwB 3 htg (gw_mem (i := 1203) (by decide +kernel) rfl) (gw_mem (i := 38) (by decide +kernel) rfl) (gw_mem (i := 1200) (by decide +kernel) rfl) (by decide +kernel) ⟨Nat.le_of_ble_eq_true rfl, Nat.le_of_ble_eq_true rfl⟩, htg _ (gw_mem (i := 1201) (by decide +kernel) rfl), htg _ (gw_mem (i := 1202) (by decide +kernel) rfl)⟩ ⟨hPre.blind, hx_recv hK (ci := 0) rfl hMd1.1, hPre.at hB hS1 (fun _ h9 => h9)⟩ rfl rfl hl.1 rfl (lv_room (Nat.le_of_ble_eq_true rfl)) d_law_1224 ⟨by show _ ≤ 601024; omega, by show _ ≤ 7293034; omega⟩) hS1 hsm.1.A (fun r9 H2 locs2 hm hz2 hk2 hS2 => ?_)
    have hS := hS2
    obtain ⟨hw, o', z', K', r', i', f', hn, hrr, hmd, hi0, hrel2, ho0⟩ := gl_outside (N := H.size) hI hrel hpc hm
    obtain ⟨c1, c2, c3⟩ := hLS0.cls hn hrr hkk hfr
    have hLS2 := lwS.mdl c1 c3 hout1 hk2 hmd hrel2
    refine lv_istore (lv' := [(6, .int r9), (5, .int 0), (4, .int (nI (5 * k))), (0, .ref b), (1, .ref (o 0 0)), (2, .ref xm), (3, .ref out)]) hx hb d_law_1227 hl (by decide) rfl (fun ls hl => ?_)
    refine lv_aload_n hx hb d_law_1229 rfl (lv_at hl 5 rfl) ?_
    refine h_calli (va_runV (As := []) (rest := []) ⟨hx, hb, hml, hown, htg⟩ (c_Md_thrown l D cs s.heap.size H2 xm gm i' f' hsm.1 hmd) ⟨x_cwB 0 htg (gw_mem (i := 1087) (by decide +kernel) rfl) (gw_mem (i := 38) (by decide +kernel) rfl) (gw_mem (i := 1084) (by decide +kernel) rfl) (by decide +kernel) ⟨Nat.le_of_ble_eq_true rfl, Nat.le_of_ble_eq_true rfl⟩, htg _ (gw_mem (i := 1085) (by decide +kernel) rfl), htg _ (gw_mem (i := 1086) (by decide +kernel) rfl)⟩ ⟨hPre.blind, hx_recv hK (ci := 0) rfl hmd.1, hPre.at hB hS2 (fun _ h9 => h9)⟩ rfl rfl hl.1 rfl (lv_room (Nat.le_of_ble_eq_true rfl)) d_law_1230 ⟨by show _ ≤ 601024; omega, by show _ ≤ 7293034; omega⟩) hS2 hsm.1.A (fun r3 H3 locs3 hm3 hz3 hk3 hS3 => ?_)
    obtain ⟨hmd3, hr3⟩ := hm3
    have hLS3 := lwS.mdl hLS2.1 hLS2.2.2.1 hLS2.2.2.2.1 hk3 hmd3 hrel2
    rw [hi0] at hr3
    subst hr3
    refine lv_iload hx hb d_law_1233 (lv_at hl 1 rfl) ?_
    refine lv_icmp_eq (tgt := 1240) hx hb d_law_1235 (by decide) (fun _ => ?_) (fun h9 => absurd rfl h9)
    refine lv_iload hx hb d_law_1240 (lv_at hl 1 rfl) ?_
    refine lv_if_ne (tgt := 1264) hx hb d_law_1242 (by decide) (fun h9 => absurd rfl h9) (fun _ => ?_)
    refine lv_aload_n hx hb d_law_1245 rfl (lv_at hl 6 rfl) ?_
    refine lv_iconst (v := 0) hx hb d_law_1246 (by decide) ?_
    refine hx_lald hx hb hK 3 hLS3.2.2.2.1 rfl (show vp_in 0 1 from vp_in_nI (n := 0) (by decide) (by decide)) d_law_1247 ?_
    refine lv_eqv (y := .long (if wv = 0 then 0 else 1)) (show Value.long (vp_updL gl 0 (if wv = 0 then 0 else 1) 0) = _ by rw [updL_self]) ?_
    subst hw
    refine lv_iload hx hb d_law_1248 (lv_at hl 0 rfl) ?_
    refine lv_if_eq (x := wv) (tgt := 1257) hx hb d_law_1250 (by decide) (fun hc0 => ?_) (fun hc0 => ?_)
    · rw [if_pos hc0]
      refine lv_lconst (v := 0) hx hb d_law_1257 rfl ?_
      refine W.lcmp hx hb d_law_1258 ?_
      refine lv_eqi (y := 0) (lcx _) ?_
      refine lv_if_eq (x := 0) (tgt := 1264) hx hb d_law_1259 (by decide) (fun _ => ?_) (fun h9 => absurd rfl h9)
      refine lv_goto (tgt := 1391) hx hb d_law_1264 (by decide) ?_
      refine W.widen (k := 40 + 10 * (k + 1)) (n := 6000 + 300 * (k + 1)) (by omega) (by omega) ?_
      exact kk _ _ _ ⟨o', z', K', r', i', f', _, ho0, hLS3⟩ hS3 (lv_sub hl [2, 3, 4, 5, 6] rfl)
    · rw [if_neg hc0]
      refine lv_lconst (v := 1) hx hb d_law_1253 rfl ?_
      refine lv_goto (tgt := 1258) hx hb d_law_1254 (by decide) ?_
      refine W.lcmp hx hb d_law_1258 ?_
      refine lv_eqi (y := 0) (lcx _) ?_
      refine lv_if_eq (x := 0) (tgt := 1264) hx hb d_law_1259 (by decide) (fun _ => ?_) (fun h9 => absurd rfl h9)
      refine lv_goto (tgt := 1391) hx hb d_law_1264 (by decide) ?_
      refine W.widen (k := 40 + 10 * (k + 1)) (n := 6000 + 300 * (k + 1)) (by omega) (by omega) ?_
      exact kk _ _ _ ⟨o', z', K', r', i', f', _, ho0, hLS3⟩ hS3 (lv_sub hl [2, 3, 4, 5, 6] rfl)
  · subst hv
    obtain ⟨G9, hG9⟩ : ∃ y, y = goV (isN (z 3 0) ((xs (5 * k + 1))) && isSt ((xs (5 * k + 2)))) (numB ((xs (5 * k + 3)))) true := ⟨_, rfl⟩
    have hG0 := hG
    rw [← hG9] at hG ⊢
    refine W.eq (g2 := F0 m 1203 ls [.int G9]) rfl ?_
    have hLS1 := hLS0.same hfr
    have hMd1 := hLS1.2.1
    clear hS
    have hS := hS1
    refine lv_istore (lv' := [(5, .int G9), (4, .int (nI (5 * k))), (0, .ref b), (1, .ref (o 0 0)), (2, .ref xm), (3, .ref out)]) hx hb d_law_1203 hl (by decide) rfl (fun ls hl => ?_)
    refine lv_aload_n hx hb d_law_1205 rfl (lv_at hl 4 rfl) ?_
    refine lv_aload_n hx hb d_law_1206 rfl (lv_at hl 2 rfl) ?_
    refine lv_iload hx hb d_law_1207 (lv_at hl 1 rfl) ?_
    refine lv_iconst (v := 1) hx hb d_law_1209 (by decide) ?_
    refine lv_iadd (x := (nI (5 * k))) (y := 1) hx hb d_law_1210 ?_
    refine lv_eqi (y := (nI (5 * k + 1))) (nI_add (5 * k) 1) ?_
    refine va_sld hx hb hXb hbl (Nat.not_le.mpr hbl) hS (show vp_in (nI (5 * k + 1)) L from vp_in_nI (n := 5 * k + 1) (by omega) (by omega)) d_law_1211 ?_
    refine lv_eqi (y := xs (5 * k + 1)) (by rw [nI_clamp (by omega)]) ?_
    refine lv_aload_n hx hb d_law_1212 rfl (lv_at hl 2 rfl) ?_
    refine lv_iload hx hb d_law_1213 (lv_at hl 1 rfl) ?_
    refine lv_iconst (v := 2) hx hb d_law_1215 (by decide) ?_
    refine lv_iadd (x := (nI (5 * k))) (y := 2) hx hb d_law_1216 ?_
    refine lv_eqi (y := (nI (5 * k + 2))) (nI_add (5 * k) 2) ?_
    refine va_sld hx hb hXb hbl (Nat.not_le.mpr hbl) hS (show vp_in (nI (5 * k + 2)) L from vp_in_nI (n := 5 * k + 2) (by omega) (by omega)) d_law_1217 ?_
    refine lv_eqi (y := xs (5 * k + 2)) (by rw [nI_clamp (by omega)]) ?_
    refine lv_aload_n hx hb d_law_1218 rfl (lv_at hl 2 rfl) ?_
    refine lv_iload hx hb d_law_1219 (lv_at hl 1 rfl) ?_
    refine lv_iconst (v := 3) hx hb d_law_1221 (by decide) ?_
    refine lv_iadd (x := (nI (5 * k))) (y := 3) hx hb d_law_1222 ?_
    refine lv_eqi (y := (nI (5 * k + 3))) (nI_add (5 * k) 3) ?_
    refine va_sld hx hb hXb hbl (Nat.not_le.mpr hbl) hS (show vp_in (nI (5 * k + 3)) L from vp_in_nI (n := 5 * k + 3) (by omega) (by omega)) d_law_1223 ?_
    refine lv_eqi (y := xs (5 * k + 3)) (by rw [nI_clamp (by omega)]) ?_
    refine h_calli (va_runV (As := [.int (xs (5 * k + 1)), .int (xs (5 * k + 2)), .int (xs (5 * k + 3))]) (rest := []) ⟨hx, hb, hml, hown, htg⟩ (c_Md_outside l D cs s.heap.size H1 xm gm i f ((xs (5 * k + 1))) ((xs (5 * k + 2))) ((xs (5 * k + 3))) hsm.1 hMd1 (z 3 0) hrel.nam hrel.bnd.2.2.1) ⟨x_cwB 3 htg (gw_mem (i := 1203) (by decide +kernel) rfl) (gw_mem (i := 38) (by decide +kernel) rfl) (gw_mem (i := 1200) (by decide +kernel) rfl) (by decide +kernel) ⟨Nat.le_of_ble_eq_true rfl, Nat.le_of_ble_eq_true rfl⟩, htg _ (gw_mem (i := 1201) (by decide +kernel) rfl), htg _ (gw_mem (i := 1202) (by decide +kernel) rfl)⟩ ⟨hPre.blind, hx_recv hK (ci := 0) rfl hMd1.1, hPre.at hB hS1 (fun _ h9 => h9)⟩ rfl rfl hl.1 rfl (lv_room (Nat.le_of_ble_eq_true rfl)) d_law_1224 ⟨by show _ ≤ 601024; omega, by show _ ≤ 7293034; omega⟩) hS1 hsm.1.A (fun r9 H2 locs2 hm hz2 hk2 hS2 => ?_)
    have hS := hS2
    obtain ⟨i', f', hmd, hi0, hrel2⟩ := gx_outside hrel hG0 hm
    have hLS2 := lwS.mdl hLS1.1 hsm hout1 hk2 hmd hrel2
    refine lv_istore (lv' := [(6, .int r9), (5, .int G9), (4, .int (nI (5 * k))), (0, .ref b), (1, .ref (o 0 0)), (2, .ref xm), (3, .ref out)]) hx hb d_law_1227 hl (by decide) rfl (fun ls hl => ?_)
    refine lv_aload_n hx hb d_law_1229 rfl (lv_at hl 5 rfl) ?_
    refine h_calli (va_runV (As := []) (rest := []) ⟨hx, hb, hml, hown, htg⟩ (c_Md_thrown l D cs s.heap.size H2 xm gm i' f' hsm.1 hmd) ⟨x_cwB 0 htg (gw_mem (i := 1087) (by decide +kernel) rfl) (gw_mem (i := 38) (by decide +kernel) rfl) (gw_mem (i := 1084) (by decide +kernel) rfl) (by decide +kernel) ⟨Nat.le_of_ble_eq_true rfl, Nat.le_of_ble_eq_true rfl⟩, htg _ (gw_mem (i := 1085) (by decide +kernel) rfl), htg _ (gw_mem (i := 1086) (by decide +kernel) rfl)⟩ ⟨hPre.blind, hx_recv hK (ci := 0) rfl hmd.1, hPre.at hB hS2 (fun _ h9 => h9)⟩ rfl rfl hl.1 rfl (lv_room (Nat.le_of_ble_eq_true rfl)) d_law_1230 ⟨by show _ ≤ 601024; omega, by show _ ≤ 7293034; omega⟩) hS2 hsm.1.A (fun r3 H3 locs3 hm3 hz3 hk3 hS3 => ?_)
    obtain ⟨hmd3, hr3⟩ := hm3
    have hLS3 := lwS.mdl hLS2.1 hLS2.2.2.1 hLS2.2.2.2.1 hk3 hmd3 hrel2
    rw [hi0, ← hG9] at hr3
    subst hr3
    refine lv_iload hx hb d_law_1233 (lv_at hl 1 rfl) ?_
    refine lv_icmp_eq (tgt := 1240) hx hb d_law_1235 (by decide) (fun _ => ?_) (fun h9 => absurd rfl h9)
    refine lv_iload hx hb d_law_1240 (lv_at hl 1 rfl) ?_
    refine lv_if_ne (tgt := 1264) hx hb d_law_1242 (by decide) (fun _ => ?_) (fun h9 => absurd h9 (by simpa using hG))
    refine lv_goto (tgt := 1391) hx hb d_law_1264 (by decide) ?_
    refine W.widen (k := 40 + 10 * (k + 1)) (n := 6000 + 300 * (k + 1)) (by omega) (by omega) ?_
    exact kk _ _ _ ⟨o, z, K, r, i', f', _, rfl, hLS3⟩ hS3 (lv_sub hl [2, 3, 4, 5, 6] rfl)
theorem d_law_1267 : decode code 1267 = .ok (.aload_n 1, 1) := by decide +kernel
theorem d_law_1268 : decode code 1268 = .ok (.aload_n 0, 1) := by decide +kernel
theorem d_law_1269 : decode code 1269 = .ok (.iload 4, 2) := by decide +kernel
theorem d_law_1271 : decode code 1271 = .ok (.iconst 1, 1) := by decide +kernel
theorem d_law_1272 : decode code 1272 = .ok (.iadd, 1) := by decide +kernel
theorem d_law_1273 : decode code 1273 = .ok (.iaload, 1) := by decide +kernel
theorem d_law_1274 : decode code 1274 = .ok (.aload_n 0, 1) := by decide +kernel
theorem d_law_1275 : decode code 1275 = .ok (.iload 4, 2) := by decide +kernel
theorem d_law_1277 : decode code 1277 = .ok (.iconst 2, 1) := by decide +kernel
theorem d_law_1278 : decode code 1278 = .ok (.iadd, 1) := by decide +kernel
theorem d_law_1279 : decode code 1279 = .ok (.iaload, 1) := by decide +kernel
theorem d_law_1280 : decode code 1280 = .ok (.aload_n 3, 1) := by decide +kernel
theorem d_law_1281 : decode code 1281 = .ok (.invokestatic 145, 3) := by decide +kernel
theorem d_law_1284 : decode code 1284 = .ok (.istore 5, 2) := by decide +kernel
theorem d_law_1286 : decode code 1286 = .ok (.aload_n 2, 1) := by decide +kernel
theorem d_law_1287 : decode code 1287 = .ok (.aload_n 0, 1) := by decide +kernel
theorem d_law_1288 : decode code 1288 = .ok (.iload 4, 2) := by decide +kernel
theorem d_law_1290 : decode code 1290 = .ok (.iconst 1, 1) := by decide +kernel
theorem d_law_1291 : decode code 1291 = .ok (.iadd, 1) := by decide +kernel
theorem d_law_1292 : decode code 1292 = .ok (.iaload, 1) := by decide +kernel
theorem d_law_1293 : decode code 1293 = .ok (.aload_n 0, 1) := by decide +kernel
theorem d_law_1294 : decode code 1294 = .ok (.iload 4, 2) := by decide +kernel
theorem d_law_1296 : decode code 1296 = .ok (.iconst 2, 1) := by decide +kernel
theorem d_law_1297 : decode code 1297 = .ok (.iadd, 1) := by decide +kernel
theorem d_law_1298 : decode code 1298 = .ok (.iaload, 1) := by decide +kernel
theorem d_law_1299 : decode code 1299 = .ok (.invokevirtual 147, 3) := by decide +kernel
theorem d_law_1302 : decode code 1302 = .ok (.istore 6, 2) := by decide +kernel
theorem d_law_1304 : decode code 1304 = .ok (.aload_n 2, 1) := by decide +kernel
theorem d_law_1305 : decode code 1305 = .ok (.invokevirtual 83, 3) := by decide +kernel
theorem d_law_1308 : decode code 1308 = .ok (.iload 5, 2) := by decide +kernel
theorem d_law_1310 : decode code 1310 = .ok (.if_icmp .eq 5, 3) := by decide +kernel
theorem d_law_1315 : decode code 1315 = .ok (.iload 5, 2) := by decide +kernel
theorem d_law_1317 : decode code 1317 = .ok (.ifCond .ne 15, 3) := by decide +kernel
theorem d_law_1320 : decode code 1320 = .ok (.aload_n 3, 1) := by decide +kernel
theorem d_law_1321 : decode code 1321 = .ok (.iconst 0, 1) := by decide +kernel
theorem d_law_1322 : decode code 1322 = .ok (.laload, 1) := by decide +kernel
theorem d_law_1323 : decode code 1323 = .ok (.iload 6, 2) := by decide +kernel
theorem d_law_1325 : decode code 1325 = .ok (.i2l, 1) := by decide +kernel
theorem d_law_1326 : decode code 1326 = .ok (.lcmp, 1) := by decide +kernel
theorem d_law_1327 : decode code 1327 = .ok (.ifCond .eq 5, 3) := by decide +kernel
theorem d_law_1332 : decode code 1332 = .ok (.goto 59, 3) := by decide +kernel
set_option maxHeartbeats 4000000 in
set_option maxRecDepth 100000 in
theorem lc_whose {p : Program} {l : Launch} {e : Env} {s : State} {m : MethodId} {below : List Frame} {meth : Method} {c : Code} {H : Heap} {locs : List Loc} {b L : Nat} {xs : Nat → Int32} {D : va_G} {cs : Nat → ClassId} {x xm out k : Nat} {gm : Nat → Nat} {ls : Array Slot} {Q9 : State → Prop} (C : lawC p s m c b L xs D cs l) (hk9 : 5 * k + 5 ≤ L) (hX : lwX D cs s.heap.size H x xm gm out) (hS : va_S (lwA s.heap.size) s.heap H locs) (hl : lv_has ls 7 [(4, .int (nI (5 * k))), (0, .ref b), (1, .ref x), (2, .ref xm), (3, .ref out)])
    (kk : ∀ (H3 : Heap) (locs3 : List Loc) (ls3 : Array Slot), lwX D cs s.heap.size H3 x xm gm out → va_S (lwA s.heap.size) s.heap H3 locs3 → lv_has ls3 7 [(4, .int (nI (5 * k))), (0, .ref b), (1, .ref x), (2, .ref xm), (3, .ref out)] → W p l e room_1 s m #[Value.ref b] below meth c H3 locs3 (40 + 10 * (k + 1)) (6000 + 300 * (k + 1)) Q9 (F0 m 1391 ls3 [])) :
    W p l e room_1 s m #[Value.ref b] below meth c H locs (40 + 10 * k) (6000 + 300 * k) Q9 (F0 m 1267 ls []) := by
  obtain ⟨hx, hb, hml, hown, hts, hXb, hbl, hl9, hB, hL⟩ := C
  have htg : ∀ w ∈ gw, w.before #[Value.ref b] s = true := fun w h => hts w (List.mem_filter.mp h).1
  have hK := hB.1
  obtain ⟨o, z, K, r, i, f, gl, hox, hLS⟩ := hX
  subst hox
  have hLS0 := hLS
  obtain ⟨hI, hMd, hsm, hout, hrel⟩ := hLS
  have hz0 := hS.1
  refine lv_aload_n hx hb d_law_1267 rfl (lv_at hl 2 rfl) ?_
  refine lv_aload_n hx hb d_law_1268 rfl (lv_at hl 1 rfl) ?_
  refine lv_iload hx hb d_law_1269 (lv_at hl 0 rfl) ?_
  refine lv_iconst (v := 1) hx hb d_law_1271 (by decide) ?_
  refine lv_iadd (x := (nI (5 * k))) (y := 1) hx hb d_law_1272 ?_
  refine lv_eqi (y := (nI (5 * k + 1))) (nI_add (5 * k) 1) ?_
  refine va_sld hx hb hXb hbl (Nat.not_le.mpr hbl) hS (show vp_in (nI (5 * k + 1)) L from vp_in_nI (n := 5 * k + 1) (by omega) (by omega)) d_law_1273 ?_
  refine lv_eqi (y := xs (5 * k + 1)) (by rw [nI_clamp (by omega)]) ?_
  refine lv_aload_n hx hb d_law_1274 rfl (lv_at hl 1 rfl) ?_
  refine lv_iload hx hb d_law_1275 (lv_at hl 0 rfl) ?_
  refine lv_iconst (v := 2) hx hb d_law_1277 (by decide) ?_
  refine lv_iadd (x := (nI (5 * k))) (y := 2) hx hb d_law_1278 ?_
  refine lv_eqi (y := (nI (5 * k + 2))) (nI_add (5 * k) 2) ?_
  refine va_sld hx hb hXb hbl (Nat.not_le.mpr hbl) hS (show vp_in (nI (5 * k + 2)) L from vp_in_nI (n := 5 * k + 2) (by omega) (by omega)) d_law_1279 ?_
  refine lv_eqi (y := xs (5 * k + 2)) (by rw [nI_clamp (by omega)]) ?_
  refine lv_aload_n hx hb d_law_1280 rfl (lv_at hl 4 rfl) ?_
  refine t_SW (n := 4) (As := [.ref (o 0 0), .int (xs (5 * k + 1)), .int (xs (5 * k + 2)), .ref out]) (rest := []) ⟨hx, hb, hml, hown, htg⟩ (c_Lw_whose l D cs s.heap.size H hl9 o z K r H.size out gl ((xs (5 * k + 1))) ((xs (5 * k + 2))) hI rfl hout hsm.2.2.1 hsm.2.2.2.2) (lw_ws (hts _ (List.mem_of_getElem? (i := 967) (by decide +kernel))) rfl htg) List.mem_cons_self (hts _ (List.mem_of_getElem? (i := 967) (by decide +kernel))) (htg _ (gw_mem (i := 29) (by decide +kernel) rfl)) (by decide +kernel) (htg _ (gw_mem (i := 965) (by decide +kernel) rfl)) (htg _ (gw_mem (i := 966) (by decide +kernel) rfl)) ⟨hPre.blind, hPre.at hB hS (fun _ h9 => h9)⟩ rfl hl.1 rfl (lv_room (Nat.le_of_ble_eq_true rfl)) d_law_1281 ⟨by show _ ≤ 601024; omega, by show _ ≤ 7293034; omega⟩ rfl rfl ⟨Nat.le_of_ble_eq_true rfl, Nat.le_of_ble_eq_true rfl⟩ (fun v9 H1 L9 hL9 hp9 hz9 hkk => ?_)
  have hS1 : va_S (lwA s.heap.size) s.heap H1 (locs ++ L9) := x_app hS hz9 (fun q h1 h2 => hkk q h1 (fun h => h2 (lw_sub hI hz0 hsm.2.2.2.2 h))) (fun q hq => lw_sub hI hz0 hsm.2.2.2.2 (hL9 q hq))
  have hz1 := hS1.1
  rcases hp9 with ⟨hv, wv, Hc, hpc, hout1, hsz, hfr⟩ | ⟨hv, hG, hout1, hsz, hfr⟩
  · subst hv
    refine W.eq (g2 := F0 m 1284 ls [.int 0]) rfl ?_
    have hMd1 : md_I D cs H1 xm gm i f := hMd.keepA (fun q hq => hkk q (hMd.lt hq) (lw_not hsm hq (hMd.lt hq)))
    clear hS
    have hS := hS1
    refine lv_istore (lv' := [(5, .int 0), (4, .int (nI (5 * k))), (0, .ref b), (1, .ref (o 0 0)), (2, .ref xm), (3, .ref out)]) hx hb d_law_1284 hl (by decide) rfl (fun ls hl => ?_)
    refine lv_aload_n hx hb d_law_1286 rfl (lv_at hl 4 rfl) ?_
    refine lv_aload_n hx hb d_law_1287 rfl (lv_at hl 2 rfl) ?_
    refine lv_iload hx hb d_law_1288 (lv_at hl 1 rfl) ?_
    refine lv_iconst (v := 1) hx hb d_law_1290 (by decide) ?_
    refine lv_iadd (x := (nI (5 * k))) (y := 1) hx hb d_law_1291 ?_
    refine lv_eqi (y := (nI (5 * k + 1))) (nI_add (5 * k) 1) ?_
    refine va_sld hx hb hXb hbl (Nat.not_le.mpr hbl) hS (show vp_in (nI (5 * k + 1)) L from vp_in_nI (n := 5 * k + 1) (by omega) (by omega)) d_law_1292 ?_
    refine lv_eqi (y := xs (5 * k + 1)) (by rw [nI_clamp (by omega)]) ?_
    refine lv_aload_n hx hb d_law_1293 rfl (lv_at hl 2 rfl) ?_
    refine lv_iload hx hb d_law_1294 (lv_at hl 1 rfl) ?_
    refine lv_iconst (v := 2) hx hb d_law_1296 (by decide) ?_
    refine lv_iadd (x := (nI (5 * k))) (y := 2) hx hb d_law_1297 ?_
    refine lv_eqi (y := (nI (5 * k + 2))) (nI_add (5 * k) 2) ?_
    refine va_sld hx hb hXb hbl (Nat.not_le.mpr hbl) hS (show vp_in (nI (5 * k + 2)) L from vp_in_nI (n := 5 * k + 2) (by omega) (by omega)) d_law_1298 ?_
    refine lv_eqi (y := xs (5 * k + 2)) (by rw [nI_clamp (by omega)]) ?_
    refine h_calli (va_runV (As := [.int (xs (5 * k + 1)), .int (xs (5 * k + 2))]) (rest := []) ⟨hx, hb, hml, hown, htg⟩ (c_Md_whose l D cs s.heap.size H1 xm gm i f ((xs (5 * k + 1))) ((xs (5 * k + 2))) hsm.1 hMd1 (z 3 0) hrel.nam hrel.bnd.2.2.1) ⟨x_cwB 2 htg (gw_mem (i := 1215) (by decide +kernel) rfl) (gw_mem (i := 38) (by decide +kernel) rfl) (gw_mem (i := 1212) (by decide +kernel) rfl) (by decide +kernel) ⟨Nat.le_of_ble_eq_true rfl, Nat.le_of_ble_eq_true rfl⟩, htg _ (gw_mem (i := 1213) (by decide +kernel) rfl), htg _ (gw_mem (i := 1214) (by decide +kernel) rfl)⟩ ⟨hPre.blind, hx_recv hK (ci := 0) rfl hMd1.1, hPre.at hB hS1 (fun _ h9 => h9)⟩ rfl rfl hl.1 rfl (lv_room (Nat.le_of_ble_eq_true rfl)) d_law_1299 ⟨by show _ ≤ 601024; omega, by show _ ≤ 7293034; omega⟩) hS1 hsm.1.A (fun r9 H2 locs2 hm hz2 hk2 hS2 => ?_)
    have hS := hS2
    obtain ⟨hw, o', z', K', r', i', f', hn, hrr, hmd, hi0, hrel2, ho0⟩ := gl_whose (N := H.size) hI hrel hpc hm
    obtain ⟨c1, c2, c3⟩ := hLS0.cls hn hrr hkk hfr
    have hLS2 := lwS.mdl c1 c3 hout1 hk2 hmd hrel2
    refine lv_istore (lv' := [(6, .int r9), (5, .int 0), (4, .int (nI (5 * k))), (0, .ref b), (1, .ref (o 0 0)), (2, .ref xm), (3, .ref out)]) hx hb d_law_1302 hl (by decide) rfl (fun ls hl => ?_)
    refine lv_aload_n hx hb d_law_1304 rfl (lv_at hl 5 rfl) ?_
    refine h_calli (va_runV (As := []) (rest := []) ⟨hx, hb, hml, hown, htg⟩ (c_Md_thrown l D cs s.heap.size H2 xm gm i' f' hsm.1 hmd) ⟨x_cwB 0 htg (gw_mem (i := 1087) (by decide +kernel) rfl) (gw_mem (i := 38) (by decide +kernel) rfl) (gw_mem (i := 1084) (by decide +kernel) rfl) (by decide +kernel) ⟨Nat.le_of_ble_eq_true rfl, Nat.le_of_ble_eq_true rfl⟩, htg _ (gw_mem (i := 1085) (by decide +kernel) rfl), htg _ (gw_mem (i := 1086) (by decide +kernel) rfl)⟩ ⟨hPre.blind, hx_recv hK (ci := 0) rfl hmd.1, hPre.at hB hS2 (fun _ h9 => h9)⟩ rfl rfl hl.1 rfl (lv_room (Nat.le_of_ble_eq_true rfl)) d_law_1305 ⟨by show _ ≤ 601024; omega, by show _ ≤ 7293034; omega⟩) hS2 hsm.1.A (fun r3 H3 locs3 hm3 hz3 hk3 hS3 => ?_)
    obtain ⟨hmd3, hr3⟩ := hm3
    have hLS3 := lwS.mdl hLS2.1 hLS2.2.2.1 hLS2.2.2.2.1 hk3 hmd3 hrel2
    rw [hi0] at hr3
    subst hr3
    refine lv_iload hx hb d_law_1308 (lv_at hl 1 rfl) ?_
    refine lv_icmp_eq (tgt := 1315) hx hb d_law_1310 (by decide) (fun _ => ?_) (fun h9 => absurd rfl h9)
    refine lv_iload hx hb d_law_1315 (lv_at hl 1 rfl) ?_
    refine lv_if_ne (tgt := 1332) hx hb d_law_1317 (by decide) (fun h9 => absurd rfl h9) (fun _ => ?_)
    refine lv_aload_n hx hb d_law_1320 rfl (lv_at hl 6 rfl) ?_
    refine lv_iconst (v := 0) hx hb d_law_1321 (by decide) ?_
    refine hx_lald hx hb hK 3 hLS3.2.2.2.1 rfl (show vp_in 0 1 from vp_in_nI (n := 0) (by decide) (by decide)) d_law_1322 ?_
    refine lv_eqv (y := .long (wv.toInt64)) (show Value.long (vp_updL gl 0 wv.toInt64 0) = _ by rw [updL_self]) ?_
    subst hw
    refine lv_iload hx hb d_law_1323 (lv_at hl 0 rfl) ?_
    refine lv_i2l (v := wv.toInt64) hx hb d_law_1325 rfl ?_
    skip
    refine W.lcmp hx hb d_law_1326 ?_
    refine lv_eqi (y := 0) (lcx _) ?_
    refine lv_if_eq (x := 0) (tgt := 1332) hx hb d_law_1327 (by decide) (fun _ => ?_) (fun h9 => absurd rfl h9)
    refine lv_goto (tgt := 1391) hx hb d_law_1332 (by decide) ?_
    refine W.widen (k := 40 + 10 * (k + 1)) (n := 6000 + 300 * (k + 1)) (by omega) (by omega) ?_
    exact kk _ _ _ ⟨o', z', K', r', i', f', _, ho0, hLS3⟩ hS3 (lv_sub hl [2, 3, 4, 5, 6] rfl)
  · subst hv
    obtain ⟨G9, hG9⟩ : ∃ y, y = goV (isSt ((xs (5 * k + 1)))) true true := ⟨_, rfl⟩
    have hG0 := hG
    rw [← hG9] at hG ⊢
    refine W.eq (g2 := F0 m 1284 ls [.int G9]) rfl ?_
    have hLS1 := hLS0.same hfr
    have hMd1 := hLS1.2.1
    clear hS
    have hS := hS1
    refine lv_istore (lv' := [(5, .int G9), (4, .int (nI (5 * k))), (0, .ref b), (1, .ref (o 0 0)), (2, .ref xm), (3, .ref out)]) hx hb d_law_1284 hl (by decide) rfl (fun ls hl => ?_)
    refine lv_aload_n hx hb d_law_1286 rfl (lv_at hl 4 rfl) ?_
    refine lv_aload_n hx hb d_law_1287 rfl (lv_at hl 2 rfl) ?_
    refine lv_iload hx hb d_law_1288 (lv_at hl 1 rfl) ?_
    refine lv_iconst (v := 1) hx hb d_law_1290 (by decide) ?_
    refine lv_iadd (x := (nI (5 * k))) (y := 1) hx hb d_law_1291 ?_
    refine lv_eqi (y := (nI (5 * k + 1))) (nI_add (5 * k) 1) ?_
    refine va_sld hx hb hXb hbl (Nat.not_le.mpr hbl) hS (show vp_in (nI (5 * k + 1)) L from vp_in_nI (n := 5 * k + 1) (by omega) (by omega)) d_law_1292 ?_
    refine lv_eqi (y := xs (5 * k + 1)) (by rw [nI_clamp (by omega)]) ?_
    refine lv_aload_n hx hb d_law_1293 rfl (lv_at hl 2 rfl) ?_
    refine lv_iload hx hb d_law_1294 (lv_at hl 1 rfl) ?_
    refine lv_iconst (v := 2) hx hb d_law_1296 (by decide) ?_
    refine lv_iadd (x := (nI (5 * k))) (y := 2) hx hb d_law_1297 ?_
    refine lv_eqi (y := (nI (5 * k + 2))) (nI_add (5 * k) 2) ?_
    refine va_sld hx hb hXb hbl (Nat.not_le.mpr hbl) hS (show vp_in (nI (5 * k + 2)) L from vp_in_nI (n := 5 * k + 2) (by omega) (by omega)) d_law_1298 ?_
    refine lv_eqi (y := xs (5 * k + 2)) (by rw [nI_clamp (by omega)]) ?_
    refine h_calli (va_runV (As := [.int (xs (5 * k + 1)), .int (xs (5 * k + 2))]) (rest := []) ⟨hx, hb, hml, hown, htg⟩ (c_Md_whose l D cs s.heap.size H1 xm gm i f ((xs (5 * k + 1))) ((xs (5 * k + 2))) hsm.1 hMd1 (z 3 0) hrel.nam hrel.bnd.2.2.1) ⟨x_cwB 2 htg (gw_mem (i := 1215) (by decide +kernel) rfl) (gw_mem (i := 38) (by decide +kernel) rfl) (gw_mem (i := 1212) (by decide +kernel) rfl) (by decide +kernel) ⟨Nat.le_of_ble_eq_true rfl, Nat.le_of_ble_eq_true rfl⟩, htg _ (gw_mem (i := 1213) (by decide +kernel) rfl), htg _ (gw_mem (i := 1214) (by decide +kernel) rfl)⟩ ⟨hPre.blind, hx_recv hK (ci := 0) rfl hMd1.1, hPre.at hB hS1 (fun _ h9 => h9)⟩ rfl rfl hl.1 rfl (lv_room (Nat.le_of_ble_eq_true rfl)) d_law_1299 ⟨by show _ ≤ 601024; omega, by show _ ≤ 7293034; omega⟩) hS1 hsm.1.A (fun r9 H2 locs2 hm hz2 hk2 hS2 => ?_)
    have hS := hS2
    obtain ⟨i', f', hmd, hi0, hrel2⟩ := gx_whose hrel hG0 hm
    have hLS2 := lwS.mdl hLS1.1 hsm hout1 hk2 hmd hrel2
    refine lv_istore (lv' := [(6, .int r9), (5, .int G9), (4, .int (nI (5 * k))), (0, .ref b), (1, .ref (o 0 0)), (2, .ref xm), (3, .ref out)]) hx hb d_law_1302 hl (by decide) rfl (fun ls hl => ?_)
    refine lv_aload_n hx hb d_law_1304 rfl (lv_at hl 5 rfl) ?_
    refine h_calli (va_runV (As := []) (rest := []) ⟨hx, hb, hml, hown, htg⟩ (c_Md_thrown l D cs s.heap.size H2 xm gm i' f' hsm.1 hmd) ⟨x_cwB 0 htg (gw_mem (i := 1087) (by decide +kernel) rfl) (gw_mem (i := 38) (by decide +kernel) rfl) (gw_mem (i := 1084) (by decide +kernel) rfl) (by decide +kernel) ⟨Nat.le_of_ble_eq_true rfl, Nat.le_of_ble_eq_true rfl⟩, htg _ (gw_mem (i := 1085) (by decide +kernel) rfl), htg _ (gw_mem (i := 1086) (by decide +kernel) rfl)⟩ ⟨hPre.blind, hx_recv hK (ci := 0) rfl hmd.1, hPre.at hB hS2 (fun _ h9 => h9)⟩ rfl rfl hl.1 rfl (lv_room (Nat.le_of_ble_eq_true rfl)) d_law_1305 ⟨by show _ ≤ 601024; omega, by show _ ≤ 7293034; omega⟩) hS2 hsm.1.A (fun r3 H3 locs3 hm3 hz3 hk3 hS3 => ?_)
    obtain ⟨hmd3, hr3⟩ := hm3
    have hLS3 := lwS.mdl hLS2.1 hLS2.2.2.1 hLS2.2.2.2.1 hk3 hmd3 hrel2
    rw [hi0, ← hG9] at hr3
    subst hr3
    refine lv_iload hx hb d_law_1308 (lv_at hl 1 rfl) ?_
    refine lv_icmp_eq (tgt := 1315) hx hb d_law_1310 (by decide) (fun _ => ?_) (fun h9 => absurd rfl h9)
    refine lv_iload hx hb d_law_1315 (lv_at hl 1 rfl) ?_
    refine lv_if_ne (tgt := 1332) hx hb d_law_1317 (by decide) (fun _ => ?_) (fun h9 => absurd h9 (by simpa using hG))
    refine lv_goto (tgt := 1391) hx hb d_law_1332 (by decide) ?_
    refine W.widen (k := 40 + 10 * (k + 1)) (n := 6000 + 300 * (k + 1)) (by omega) (by omega) ?_
    exact kk _ _ _ ⟨o, z, K, r, i', f', _, rfl, hLS3⟩ hS3 (lv_sub hl [2, 3, 4, 5, 6] rfl)
theorem d_law_1335 : decode code 1335 = .ok (.aload_n 1, 1) := by decide +kernel
theorem d_law_1336 : decode code 1336 = .ok (.aload_n 0, 1) := by decide +kernel
theorem d_law_1337 : decode code 1337 = .ok (.iload 4, 2) := by decide +kernel
theorem d_law_1339 : decode code 1339 = .ok (.iconst 1, 1) := by decide +kernel
theorem d_law_1340 : decode code 1340 = .ok (.iadd, 1) := by decide +kernel
theorem d_law_1341 : decode code 1341 = .ok (.iaload, 1) := by decide +kernel
theorem d_law_1342 : decode code 1342 = .ok (.aload_n 3, 1) := by decide +kernel
theorem d_law_1343 : decode code 1343 = .ok (.invokestatic 148, 3) := by decide +kernel
theorem d_law_1346 : decode code 1346 = .ok (.istore 5, 2) := by decide +kernel
theorem d_law_1348 : decode code 1348 = .ok (.aload_n 2, 1) := by decide +kernel
theorem d_law_1349 : decode code 1349 = .ok (.aload_n 0, 1) := by decide +kernel
theorem d_law_1350 : decode code 1350 = .ok (.iload 4, 2) := by decide +kernel
theorem d_law_1352 : decode code 1352 = .ok (.iconst 1, 1) := by decide +kernel
theorem d_law_1353 : decode code 1353 = .ok (.iadd, 1) := by decide +kernel
theorem d_law_1354 : decode code 1354 = .ok (.iaload, 1) := by decide +kernel
theorem d_law_1355 : decode code 1355 = .ok (.invokevirtual 150, 3) := by decide +kernel
theorem d_law_1358 : decode code 1358 = .ok (.istore 6, 2) := by decide +kernel
theorem d_law_1360 : decode code 1360 = .ok (.aload_n 2, 1) := by decide +kernel
theorem d_law_1361 : decode code 1361 = .ok (.invokevirtual 83, 3) := by decide +kernel
theorem d_law_1364 : decode code 1364 = .ok (.iload 5, 2) := by decide +kernel
theorem d_law_1366 : decode code 1366 = .ok (.if_icmp .eq 5, 3) := by decide +kernel
theorem d_law_1371 : decode code 1371 = .ok (.iload 5, 2) := by decide +kernel
theorem d_law_1373 : decode code 1373 = .ok (.ifCond .ne 15, 3) := by decide +kernel
theorem d_law_1376 : decode code 1376 = .ok (.aload_n 3, 1) := by decide +kernel
theorem d_law_1377 : decode code 1377 = .ok (.iconst 0, 1) := by decide +kernel
theorem d_law_1378 : decode code 1378 = .ok (.laload, 1) := by decide +kernel
theorem d_law_1379 : decode code 1379 = .ok (.iload 6, 2) := by decide +kernel
theorem d_law_1381 : decode code 1381 = .ok (.i2l, 1) := by decide +kernel
theorem d_law_1382 : decode code 1382 = .ok (.lcmp, 1) := by decide +kernel
theorem d_law_1383 : decode code 1383 = .ok (.ifCond .eq 5, 3) := by decide +kernel
theorem d_law_1388 : decode code 1388 = .ok (.goto 3, 3) := by decide +kernel
set_option maxHeartbeats 4000000 in
set_option maxRecDepth 100000 in
theorem lc_count {p : Program} {l : Launch} {e : Env} {s : State} {m : MethodId} {below : List Frame} {meth : Method} {c : Code} {H : Heap} {locs : List Loc} {b L : Nat} {xs : Nat → Int32} {D : va_G} {cs : Nat → ClassId} {x xm out k : Nat} {gm : Nat → Nat} {ls : Array Slot} {Q9 : State → Prop} (C : lawC p s m c b L xs D cs l) (hk9 : 5 * k + 5 ≤ L) (hX : lwX D cs s.heap.size H x xm gm out) (hS : va_S (lwA s.heap.size) s.heap H locs) (hl : lv_has ls 7 [(4, .int (nI (5 * k))), (0, .ref b), (1, .ref x), (2, .ref xm), (3, .ref out)])
    (kk : ∀ (H3 : Heap) (locs3 : List Loc) (ls3 : Array Slot), lwX D cs s.heap.size H3 x xm gm out → va_S (lwA s.heap.size) s.heap H3 locs3 → lv_has ls3 7 [(4, .int (nI (5 * k))), (0, .ref b), (1, .ref x), (2, .ref xm), (3, .ref out)] → W p l e room_1 s m #[Value.ref b] below meth c H3 locs3 (40 + 10 * (k + 1)) (6000 + 300 * (k + 1)) Q9 (F0 m 1391 ls3 [])) :
    W p l e room_1 s m #[Value.ref b] below meth c H locs (40 + 10 * k) (6000 + 300 * k) Q9 (F0 m 1335 ls []) := by
  obtain ⟨hx, hb, hml, hown, hts, hXb, hbl, hl9, hB, hL⟩ := C
  have htg : ∀ w ∈ gw, w.before #[Value.ref b] s = true := fun w h => hts w (List.mem_filter.mp h).1
  have hK := hB.1
  obtain ⟨o, z, K, r, i, f, gl, hox, hLS⟩ := hX
  subst hox
  have hLS0 := hLS
  obtain ⟨hI, hMd, hsm, hout, hrel⟩ := hLS
  have hz0 := hS.1
  refine lv_aload_n hx hb d_law_1335 rfl (lv_at hl 2 rfl) ?_
  refine lv_aload_n hx hb d_law_1336 rfl (lv_at hl 1 rfl) ?_
  refine lv_iload hx hb d_law_1337 (lv_at hl 0 rfl) ?_
  refine lv_iconst (v := 1) hx hb d_law_1339 (by decide) ?_
  refine lv_iadd (x := (nI (5 * k))) (y := 1) hx hb d_law_1340 ?_
  refine lv_eqi (y := (nI (5 * k + 1))) (nI_add (5 * k) 1) ?_
  refine va_sld hx hb hXb hbl (Nat.not_le.mpr hbl) hS (show vp_in (nI (5 * k + 1)) L from vp_in_nI (n := 5 * k + 1) (by omega) (by omega)) d_law_1341 ?_
  refine lv_eqi (y := xs (5 * k + 1)) (by rw [nI_clamp (by omega)]) ?_
  refine lv_aload_n hx hb d_law_1342 rfl (lv_at hl 4 rfl) ?_
  refine t_SW (n := 3) (As := [.ref (o 0 0), .int (xs (5 * k + 1)), .ref out]) (rest := []) ⟨hx, hb, hml, hown, htg⟩ (c_Lw_count l D cs s.heap.size H hl9 o z K r H.size out gl ((xs (5 * k + 1))) hI rfl hout hsm.2.2.1 hsm.2.2.2.2) (lw_ws (hts _ (List.mem_of_getElem? (i := 974) (by decide +kernel))) rfl htg) List.mem_cons_self (hts _ (List.mem_of_getElem? (i := 974) (by decide +kernel))) (htg _ (gw_mem (i := 29) (by decide +kernel) rfl)) (by decide +kernel) (htg _ (gw_mem (i := 972) (by decide +kernel) rfl)) (htg _ (gw_mem (i := 973) (by decide +kernel) rfl)) ⟨hPre.blind, hPre.at hB hS (fun _ h9 => h9)⟩ rfl hl.1 rfl (lv_room (Nat.le_of_ble_eq_true rfl)) d_law_1343 ⟨by show _ ≤ 601024; omega, by show _ ≤ 7293034; omega⟩ rfl rfl ⟨Nat.le_of_ble_eq_true rfl, Nat.le_of_ble_eq_true rfl⟩ (fun v9 H1 L9 hL9 hp9 hz9 hkk => ?_)
  have hS1 : va_S (lwA s.heap.size) s.heap H1 (locs ++ L9) := x_app hS hz9 (fun q h1 h2 => hkk q h1 (fun h => h2 (lw_sub hI hz0 hsm.2.2.2.2 h))) (fun q hq => lw_sub hI hz0 hsm.2.2.2.2 (hL9 q hq))
  have hz1 := hS1.1
  rcases hp9 with ⟨hv, wv, Hc, hpc, hout1, hsz, hfr⟩ | ⟨hv, hG, hout1, hsz, hfr⟩
  · subst hv
    refine W.eq (g2 := F0 m 1346 ls [.int 0]) rfl ?_
    have hMd1 : md_I D cs H1 xm gm i f := hMd.keepA (fun q hq => hkk q (hMd.lt hq) (lw_not hsm hq (hMd.lt hq)))
    clear hS
    have hS := hS1
    refine lv_istore (lv' := [(5, .int 0), (4, .int (nI (5 * k))), (0, .ref b), (1, .ref (o 0 0)), (2, .ref xm), (3, .ref out)]) hx hb d_law_1346 hl (by decide) rfl (fun ls hl => ?_)
    refine lv_aload_n hx hb d_law_1348 rfl (lv_at hl 4 rfl) ?_
    refine lv_aload_n hx hb d_law_1349 rfl (lv_at hl 2 rfl) ?_
    refine lv_iload hx hb d_law_1350 (lv_at hl 1 rfl) ?_
    refine lv_iconst (v := 1) hx hb d_law_1352 (by decide) ?_
    refine lv_iadd (x := (nI (5 * k))) (y := 1) hx hb d_law_1353 ?_
    refine lv_eqi (y := (nI (5 * k + 1))) (nI_add (5 * k) 1) ?_
    refine va_sld hx hb hXb hbl (Nat.not_le.mpr hbl) hS (show vp_in (nI (5 * k + 1)) L from vp_in_nI (n := 5 * k + 1) (by omega) (by omega)) d_law_1354 ?_
    refine lv_eqi (y := xs (5 * k + 1)) (by rw [nI_clamp (by omega)]) ?_
    refine h_calli (va_runV (As := [.int (xs (5 * k + 1))]) (rest := []) ⟨hx, hb, hml, hown, htg⟩ (c_Md_count l D cs s.heap.size H1 xm gm i f ((xs (5 * k + 1))) hsm.1 hMd1 (z 1 0) hrel.pad.1 hrel.bnd.2.1 (z 3 0) hrel.nam hrel.bnd.2.2.1 (mnF z) hrel.wf.1 (z 5 0) hrel.mrg.1) ⟨x_cwB 1 htg (gw_mem (i := 1219) (by decide +kernel) rfl) (gw_mem (i := 38) (by decide +kernel) rfl) (gw_mem (i := 1216) (by decide +kernel) rfl) (by decide +kernel) ⟨Nat.le_of_ble_eq_true rfl, Nat.le_of_ble_eq_true rfl⟩, htg _ (gw_mem (i := 1217) (by decide +kernel) rfl), htg _ (gw_mem (i := 1218) (by decide +kernel) rfl)⟩ ⟨hPre.blind, hx_recv hK (ci := 0) rfl hMd1.1, hPre.at hB hS1 (fun _ h9 => h9)⟩ rfl rfl hl.1 rfl (lv_room (Nat.le_of_ble_eq_true rfl)) d_law_1355 ⟨by show _ ≤ 601024; omega, by show _ ≤ 7293034; omega⟩) hS1 hsm.1.A (fun r9 H2 locs2 hm hz2 hk2 hS2 => ?_)
    have hS := hS2
    obtain ⟨hw, o', z', K', r', i', f', hn, hrr, hmd, hi0, hrel2, ho0⟩ := gl_count (N := H.size) hI hrel hpc hm
    obtain ⟨c1, c2, c3⟩ := hLS0.cls hn hrr hkk hfr
    have hLS2 := lwS.mdl c1 c3 hout1 hk2 hmd hrel2
    refine lv_istore (lv' := [(6, .int r9), (5, .int 0), (4, .int (nI (5 * k))), (0, .ref b), (1, .ref (o 0 0)), (2, .ref xm), (3, .ref out)]) hx hb d_law_1358 hl (by decide) rfl (fun ls hl => ?_)
    refine lv_aload_n hx hb d_law_1360 rfl (lv_at hl 5 rfl) ?_
    refine h_calli (va_runV (As := []) (rest := []) ⟨hx, hb, hml, hown, htg⟩ (c_Md_thrown l D cs s.heap.size H2 xm gm i' f' hsm.1 hmd) ⟨x_cwB 0 htg (gw_mem (i := 1087) (by decide +kernel) rfl) (gw_mem (i := 38) (by decide +kernel) rfl) (gw_mem (i := 1084) (by decide +kernel) rfl) (by decide +kernel) ⟨Nat.le_of_ble_eq_true rfl, Nat.le_of_ble_eq_true rfl⟩, htg _ (gw_mem (i := 1085) (by decide +kernel) rfl), htg _ (gw_mem (i := 1086) (by decide +kernel) rfl)⟩ ⟨hPre.blind, hx_recv hK (ci := 0) rfl hmd.1, hPre.at hB hS2 (fun _ h9 => h9)⟩ rfl rfl hl.1 rfl (lv_room (Nat.le_of_ble_eq_true rfl)) d_law_1361 ⟨by show _ ≤ 601024; omega, by show _ ≤ 7293034; omega⟩) hS2 hsm.1.A (fun r3 H3 locs3 hm3 hz3 hk3 hS3 => ?_)
    obtain ⟨hmd3, hr3⟩ := hm3
    have hLS3 := lwS.mdl hLS2.1 hLS2.2.2.1 hLS2.2.2.2.1 hk3 hmd3 hrel2
    rw [hi0] at hr3
    subst hr3
    refine lv_iload hx hb d_law_1364 (lv_at hl 1 rfl) ?_
    refine lv_icmp_eq (tgt := 1371) hx hb d_law_1366 (by decide) (fun _ => ?_) (fun h9 => absurd rfl h9)
    refine lv_iload hx hb d_law_1371 (lv_at hl 1 rfl) ?_
    refine lv_if_ne (tgt := 1388) hx hb d_law_1373 (by decide) (fun h9 => absurd rfl h9) (fun _ => ?_)
    refine lv_aload_n hx hb d_law_1376 rfl (lv_at hl 6 rfl) ?_
    refine lv_iconst (v := 0) hx hb d_law_1377 (by decide) ?_
    refine hx_lald hx hb hK 3 hLS3.2.2.2.1 rfl (show vp_in 0 1 from vp_in_nI (n := 0) (by decide) (by decide)) d_law_1378 ?_
    refine lv_eqv (y := .long (wv.toInt64)) (show Value.long (vp_updL gl 0 wv.toInt64 0) = _ by rw [updL_self]) ?_
    subst hw
    refine lv_iload hx hb d_law_1379 (lv_at hl 0 rfl) ?_
    refine lv_i2l (v := wv.toInt64) hx hb d_law_1381 rfl ?_
    skip
    refine W.lcmp hx hb d_law_1382 ?_
    refine lv_eqi (y := 0) (lcx _) ?_
    refine lv_if_eq (x := 0) (tgt := 1388) hx hb d_law_1383 (by decide) (fun _ => ?_) (fun h9 => absurd rfl h9)
    refine lv_goto (tgt := 1391) hx hb d_law_1388 (by decide) ?_
    refine W.widen (k := 40 + 10 * (k + 1)) (n := 6000 + 300 * (k + 1)) (by omega) (by omega) ?_
    exact kk _ _ _ ⟨o', z', K', r', i', f', _, ho0, hLS3⟩ hS3 (lv_sub hl [2, 3, 4, 5, 6] rfl)
  · subst hv
    obtain ⟨G9, hG9⟩ : ∃ y, y = goV (!decide (((xs (5 * k + 1))) < 0) && !decide (5 < ((xs (5 * k + 1))))) true true := ⟨_, rfl⟩
    have hG0 := hG
    rw [← hG9] at hG ⊢
    refine W.eq (g2 := F0 m 1346 ls [.int G9]) rfl ?_
    have hLS1 := hLS0.same hfr
    have hMd1 := hLS1.2.1
    clear hS
    have hS := hS1
    refine lv_istore (lv' := [(5, .int G9), (4, .int (nI (5 * k))), (0, .ref b), (1, .ref (o 0 0)), (2, .ref xm), (3, .ref out)]) hx hb d_law_1346 hl (by decide) rfl (fun ls hl => ?_)
    refine lv_aload_n hx hb d_law_1348 rfl (lv_at hl 4 rfl) ?_
    refine lv_aload_n hx hb d_law_1349 rfl (lv_at hl 2 rfl) ?_
    refine lv_iload hx hb d_law_1350 (lv_at hl 1 rfl) ?_
    refine lv_iconst (v := 1) hx hb d_law_1352 (by decide) ?_
    refine lv_iadd (x := (nI (5 * k))) (y := 1) hx hb d_law_1353 ?_
    refine lv_eqi (y := (nI (5 * k + 1))) (nI_add (5 * k) 1) ?_
    refine va_sld hx hb hXb hbl (Nat.not_le.mpr hbl) hS (show vp_in (nI (5 * k + 1)) L from vp_in_nI (n := 5 * k + 1) (by omega) (by omega)) d_law_1354 ?_
    refine lv_eqi (y := xs (5 * k + 1)) (by rw [nI_clamp (by omega)]) ?_
    refine h_calli (va_runV (As := [.int (xs (5 * k + 1))]) (rest := []) ⟨hx, hb, hml, hown, htg⟩ (c_Md_count l D cs s.heap.size H1 xm gm i f ((xs (5 * k + 1))) hsm.1 hMd1 (z 1 0) hrel.pad.1 hrel.bnd.2.1 (z 3 0) hrel.nam hrel.bnd.2.2.1 (mnF z) hrel.wf.1 (z 5 0) hrel.mrg.1) ⟨x_cwB 1 htg (gw_mem (i := 1219) (by decide +kernel) rfl) (gw_mem (i := 38) (by decide +kernel) rfl) (gw_mem (i := 1216) (by decide +kernel) rfl) (by decide +kernel) ⟨Nat.le_of_ble_eq_true rfl, Nat.le_of_ble_eq_true rfl⟩, htg _ (gw_mem (i := 1217) (by decide +kernel) rfl), htg _ (gw_mem (i := 1218) (by decide +kernel) rfl)⟩ ⟨hPre.blind, hx_recv hK (ci := 0) rfl hMd1.1, hPre.at hB hS1 (fun _ h9 => h9)⟩ rfl rfl hl.1 rfl (lv_room (Nat.le_of_ble_eq_true rfl)) d_law_1355 ⟨by show _ ≤ 601024; omega, by show _ ≤ 7293034; omega⟩) hS1 hsm.1.A (fun r9 H2 locs2 hm hz2 hk2 hS2 => ?_)
    have hS := hS2
    obtain ⟨i', f', hmd, hi0, hrel2⟩ := gx_count hrel hG0 hm
    have hLS2 := lwS.mdl hLS1.1 hsm hout1 hk2 hmd hrel2
    refine lv_istore (lv' := [(6, .int r9), (5, .int G9), (4, .int (nI (5 * k))), (0, .ref b), (1, .ref (o 0 0)), (2, .ref xm), (3, .ref out)]) hx hb d_law_1358 hl (by decide) rfl (fun ls hl => ?_)
    refine lv_aload_n hx hb d_law_1360 rfl (lv_at hl 5 rfl) ?_
    refine h_calli (va_runV (As := []) (rest := []) ⟨hx, hb, hml, hown, htg⟩ (c_Md_thrown l D cs s.heap.size H2 xm gm i' f' hsm.1 hmd) ⟨x_cwB 0 htg (gw_mem (i := 1087) (by decide +kernel) rfl) (gw_mem (i := 38) (by decide +kernel) rfl) (gw_mem (i := 1084) (by decide +kernel) rfl) (by decide +kernel) ⟨Nat.le_of_ble_eq_true rfl, Nat.le_of_ble_eq_true rfl⟩, htg _ (gw_mem (i := 1085) (by decide +kernel) rfl), htg _ (gw_mem (i := 1086) (by decide +kernel) rfl)⟩ ⟨hPre.blind, hx_recv hK (ci := 0) rfl hmd.1, hPre.at hB hS2 (fun _ h9 => h9)⟩ rfl rfl hl.1 rfl (lv_room (Nat.le_of_ble_eq_true rfl)) d_law_1361 ⟨by show _ ≤ 601024; omega, by show _ ≤ 7293034; omega⟩) hS2 hsm.1.A (fun r3 H3 locs3 hm3 hz3 hk3 hS3 => ?_)
    obtain ⟨hmd3, hr3⟩ := hm3
    have hLS3 := lwS.mdl hLS2.1 hLS2.2.2.1 hLS2.2.2.2.1 hk3 hmd3 hrel2
    rw [hi0, ← hG9] at hr3
    subst hr3
    refine lv_iload hx hb d_law_1364 (lv_at hl 1 rfl) ?_
    refine lv_icmp_eq (tgt := 1371) hx hb d_law_1366 (by decide) (fun _ => ?_) (fun h9 => absurd rfl h9)
    refine lv_iload hx hb d_law_1371 (lv_at hl 1 rfl) ?_
    refine lv_if_ne (tgt := 1388) hx hb d_law_1373 (by decide) (fun _ => ?_) (fun h9 => absurd h9 (by simpa using hG))
    refine lv_goto (tgt := 1391) hx hb d_law_1388 (by decide) ?_
    refine W.widen (k := 40 + 10 * (k + 1)) (n := 6000 + 300 * (k + 1)) (by omega) (by omega) ?_
    exact kk _ _ _ ⟨o, z, K, r, i', f', _, rfl, hLS3⟩ hS3 (lv_sub hl [2, 3, 4, 5, 6] rfl)
