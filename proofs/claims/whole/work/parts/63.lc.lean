def lawC (p : Program) (s : State) (m : MethodId) (c : Code) (b L : Nat) (xs : Nat → Int32) (D : va_G) (cs : Nat → ClassId) (l : Launch) : Prop := p.tables.exec = Jvm.exec ∧ c.code = code ∧ c.maxLocals = 7 ∧ s.vm.findClass "NameMergesLaw" = some m.cls ∧ (∀ w ∈ lw_tbl, w.before #[Value.ref b] s = true) ∧ va_X b L xs s s.heap ∧ b < s.heap.size ∧ l.stackTraces = false ∧ gB D cs s.heap.size s ∧ L ≤ 2560
def lwX (D : va_G) (cs : Nat → ClassId) (N0 : Nat) (H : Heap) (x xm : Nat) (gm : Nat → Nat) (out : Nat) : Prop := ∃ (o z : zT) (K : kT) (r : Nat → Nat × Nat) (i : Nat → Int32) (f : Nat → Nat → Int32) (gl : Nat → Int64), o 0 0 = x ∧ lwS D cs N0 H xm gm out o z K r i f gl
abbrev lwA (N0 : Nat) : Nat → Prop := fun q => N0 ≤ q
theorem lw_ws {s : State} {args : Array Value} {w0 : Cond} (h0 : w0.before args s = true) (hg0 : (w0.onTables && w0.keeps) = true) (htg : ∀ w ∈ gw, w.before args s = true) : ∀ w ∈ w0 :: gw, ∀ (a' : Array Value) (U : State), s.WarmedH U.vm → w.before a' U = true := fun w hw a' U hW => (List.mem_cons.mp hw).elim (fun e => e ▸ word_at hW (Or.inl hg0) h0) (fun h => word_at hW (gw_good h) (htg w h))
theorem lw_sub {D : va_G} {cs : Nat → ClassId} {N0 : Nat} {H : Heap} {o z : zT} {K : kT} {r : Nat → Nat × Nat} {out : Nat} (hI : nmP D cs N0 H o z K r) (hz : N0 ≤ H.size) (ho : N0 ≤ out) {q : Nat} (h : nmA r H.size q ∨ q = out) : lwA N0 q := h.elim (fun h => h.elim (hI.2.1 q) (fun h => Nat.le_trans hz h)) (fun h => h ▸ ho)
theorem lw_not {N0 xm out : Nat} {gm : Nat → Nat} {r : Nat → Nat × Nat} {n q : Nat} (h : lsM N0 xm gm r out) (hq : md_A xm gm q) (hlt : q < n) : ¬ (nmA r n q ∨ q = out) := fun h9 => by
  rcases h9 with (h9 | h9) | h9
  · exact h.2.1 q hq h9
  · omega
  · exact h.2.2.2.1 (h9 ▸ hq)
theorem lcx (x : Int64) : lg_cmp x x = 0 := by
  unfold lg_cmp
  simp
theorem updL_self {g : Nat → Int64} {v : Int64} : vp_updL g 0 v 0 = v := if_pos rfl
theorem d_law_132 : decode code 132 = .ok (.aload_n 1, 1) := by decide +kernel
theorem d_law_133 : decode code 133 = .ok (.aload_n 0, 1) := by decide +kernel
theorem d_law_134 : decode code 134 = .ok (.iload 4, 2) := by decide +kernel
theorem d_law_136 : decode code 136 = .ok (.iconst 1, 1) := by decide +kernel
theorem d_law_137 : decode code 137 = .ok (.iadd, 1) := by decide +kernel
theorem d_law_138 : decode code 138 = .ok (.iaload, 1) := by decide +kernel
theorem d_law_139 : decode code 139 = .ok (.aload_n 3, 1) := by decide +kernel
theorem d_law_140 : decode code 140 = .ok (.invokestatic 77, 3) := by decide +kernel
theorem d_law_143 : decode code 143 = .ok (.istore 5, 2) := by decide +kernel
theorem d_law_145 : decode code 145 = .ok (.aload_n 2, 1) := by decide +kernel
theorem d_law_146 : decode code 146 = .ok (.aload_n 0, 1) := by decide +kernel
theorem d_law_147 : decode code 147 = .ok (.iload 4, 2) := by decide +kernel
theorem d_law_149 : decode code 149 = .ok (.iconst 1, 1) := by decide +kernel
theorem d_law_150 : decode code 150 = .ok (.iadd, 1) := by decide +kernel
theorem d_law_151 : decode code 151 = .ok (.iaload, 1) := by decide +kernel
theorem d_law_152 : decode code 152 = .ok (.invokevirtual 82, 3) := by decide +kernel
theorem d_law_155 : decode code 155 = .ok (.istore 6, 2) := by decide +kernel
theorem d_law_157 : decode code 157 = .ok (.aload_n 2, 1) := by decide +kernel
theorem d_law_158 : decode code 158 = .ok (.invokevirtual 83, 3) := by decide +kernel
theorem d_law_161 : decode code 161 = .ok (.iload 5, 2) := by decide +kernel
theorem d_law_163 : decode code 163 = .ok (.if_icmp .eq 5, 3) := by decide +kernel
theorem d_law_168 : decode code 168 = .ok (.iload 5, 2) := by decide +kernel
theorem d_law_170 : decode code 170 = .ok (.ifCond .ne 15, 3) := by decide +kernel
theorem d_law_173 : decode code 173 = .ok (.aload_n 3, 1) := by decide +kernel
theorem d_law_174 : decode code 174 = .ok (.iconst 0, 1) := by decide +kernel
theorem d_law_175 : decode code 175 = .ok (.laload, 1) := by decide +kernel
theorem d_law_176 : decode code 176 = .ok (.iload 6, 2) := by decide +kernel
theorem d_law_178 : decode code 178 = .ok (.i2l, 1) := by decide +kernel
theorem d_law_179 : decode code 179 = .ok (.lcmp, 1) := by decide +kernel
theorem d_law_180 : decode code 180 = .ok (.ifCond .eq 5, 3) := by decide +kernel
theorem d_law_185 : decode code 185 = .ok (.goto 1206, 3) := by decide +kernel
set_option maxHeartbeats 4000000 in
set_option maxRecDepth 100000 in
theorem lc_unit {p : Program} {l : Launch} {e : Env} {s : State} {m : MethodId} {below : List Frame} {meth : Method} {c : Code} {H : Heap} {locs : List Loc} {b L : Nat} {xs : Nat → Int32} {D : va_G} {cs : Nat → ClassId} {x xm out k : Nat} {gm : Nat → Nat} {ls : Array Slot} {Q9 : State → Prop} (C : lawC p s m c b L xs D cs l) (hk9 : 5 * k + 5 ≤ L) (hX : lwX D cs s.heap.size H x xm gm out) (hS : va_S (lwA s.heap.size) s.heap H locs) (hl : lv_has ls 7 [(4, .int (nI (5 * k))), (0, .ref b), (1, .ref x), (2, .ref xm), (3, .ref out)])
    (kk : ∀ (H3 : Heap) (locs3 : List Loc) (ls3 : Array Slot), lwX D cs s.heap.size H3 x xm gm out → va_S (lwA s.heap.size) s.heap H3 locs3 → lv_has ls3 7 [(4, .int (nI (5 * k))), (0, .ref b), (1, .ref x), (2, .ref xm), (3, .ref out)] → W p l e room_1 s m #[Value.ref b] below meth c H3 locs3 (30 + 10 * (k + 1)) (6000 + 300 * (k + 1)) Q9 (F0 m 1391 ls3 [])) :
    W p l e room_1 s m #[Value.ref b] below meth c H locs (30 + 10 * k) (6000 + 300 * k) Q9 (F0 m 132 ls []) := by
  obtain ⟨hx, hb, hml, hown, hts, hXb, hbl, hl9, hB, hL⟩ := C
  have htg : ∀ w ∈ gw, w.before #[Value.ref b] s = true := fun w h => hts w (List.mem_filter.mp h).1
  have hK := hB.1
  obtain ⟨o, z, K, r, i, f, gl, hox, hLS⟩ := hX
  subst hox
  have hLS0 := hLS
  obtain ⟨hI, hMd, hsm, hout, hrel⟩ := hLS
  have hz0 := hS.1
  refine lv_aload_n hx hb d_law_132 rfl (lv_at hl 2 rfl) ?_
  refine lv_aload_n hx hb d_law_133 rfl (lv_at hl 1 rfl) ?_
  refine lv_iload hx hb d_law_134 (lv_at hl 0 rfl) ?_
  refine lv_iconst (v := 1) hx hb d_law_136 (by decide) ?_
  refine lv_iadd (x := (nI (5 * k))) (y := 1) hx hb d_law_137 ?_
  refine lv_eqi (y := (nI (5 * k + 1))) (nI_add (5 * k) 1) ?_
  refine va_sld hx hb hXb hbl (Nat.not_le.mpr hbl) hS (show vp_in (nI (5 * k + 1)) L from vp_in_nI (n := 5 * k + 1) (by omega) (by omega)) d_law_138 ?_
  refine lv_eqi (y := xs (5 * k + 1)) (by rw [nI_clamp (by omega)]) ?_
  refine lv_aload_n hx hb d_law_139 rfl (lv_at hl 4 rfl) ?_
  refine t_SW (n := 3) (As := [.ref (o 0 0), .int (xs (5 * k + 1)), .ref out]) (rest := []) ⟨hx, hb, hml, hown, htg⟩ (c_Lw_unit l D cs s.heap.size H hl9 o z K r H.size out gl ((xs (5 * k + 1))) hI rfl hout hsm.2.2.1 hsm.2.2.2.2) (lw_ws (hts _ (List.mem_of_getElem? (i := 598) (by decide +kernel))) rfl htg) List.mem_cons_self (hts _ (List.mem_of_getElem? (i := 598) (by decide +kernel))) (htg _ (gw_mem (i := 29) (by decide +kernel) rfl)) (by decide +kernel) (htg _ (gw_mem (i := 596) (by decide +kernel) rfl)) (htg _ (gw_mem (i := 597) (by decide +kernel) rfl)) ⟨hPre.blind, hPre.at hB hS (fun _ h9 => h9)⟩ rfl hl.1 rfl (lv_room (Nat.le_of_ble_eq_true rfl)) d_law_140 ⟨by show _ ≤ 601024; omega, by show _ ≤ 7293034; omega⟩ rfl rfl ⟨Nat.le_of_ble_eq_true rfl, Nat.le_of_ble_eq_true rfl⟩ (fun v9 H1 L9 hL9 hp9 hz9 hkk => ?_)
  have hS1 : va_S (lwA s.heap.size) s.heap H1 (locs ++ L9) := x_app hS hz9 (fun q h1 h2 => hkk q h1 (fun h => h2 (lw_sub hI hz0 hsm.2.2.2.2 h))) (fun q hq => lw_sub hI hz0 hsm.2.2.2.2 (hL9 q hq))
  have hz1 := hS1.1
  rcases hp9 with ⟨hv, wv, Hc, hpc, hout1, hsz, hfr⟩ | ⟨hv, hG, hout1, hsz, hfr⟩
  · subst hv
    refine W.eq (g2 := F0 m 143 ls [.int 0]) rfl ?_
    have hMd1 : md_I D cs H1 xm gm i f := hMd.keepA (fun q hq => hkk q (hMd.lt hq) (lw_not hsm hq (hMd.lt hq)))
    clear hS
    have hS := hS1
    refine lv_istore (lv' := [(5, .int 0), (4, .int (nI (5 * k))), (0, .ref b), (1, .ref (o 0 0)), (2, .ref xm), (3, .ref out)]) hx hb d_law_143 hl (by decide) rfl (fun ls hl => ?_)
    refine lv_aload_n hx hb d_law_145 rfl (lv_at hl 4 rfl) ?_
    refine lv_aload_n hx hb d_law_146 rfl (lv_at hl 2 rfl) ?_
    refine lv_iload hx hb d_law_147 (lv_at hl 1 rfl) ?_
    refine lv_iconst (v := 1) hx hb d_law_149 (by decide) ?_
    refine lv_iadd (x := (nI (5 * k))) (y := 1) hx hb d_law_150 ?_
    refine lv_eqi (y := (nI (5 * k + 1))) (nI_add (5 * k) 1) ?_
    refine va_sld hx hb hXb hbl (Nat.not_le.mpr hbl) hS (show vp_in (nI (5 * k + 1)) L from vp_in_nI (n := 5 * k + 1) (by omega) (by omega)) d_law_151 ?_
    refine lv_eqi (y := xs (5 * k + 1)) (by rw [nI_clamp (by omega)]) ?_
    refine h_calli (va_runV (As := [.int (xs (5 * k + 1))]) (rest := []) ⟨hx, hb, hml, hown, htg⟩ (c_Md_unit l D cs s.heap.size H1 xm gm i f ((xs (5 * k + 1))) (z 1 0) hsm.1 hMd1 hrel.pad.1 hrel.bnd.2.1) ⟨x_cwB 1 htg (gw_mem (i := 1091) (by decide +kernel) rfl) (gw_mem (i := 38) (by decide +kernel) rfl) (gw_mem (i := 1088) (by decide +kernel) rfl) (by decide +kernel) ⟨Nat.le_of_ble_eq_true rfl, Nat.le_of_ble_eq_true rfl⟩, htg _ (gw_mem (i := 1089) (by decide +kernel) rfl), htg _ (gw_mem (i := 1090) (by decide +kernel) rfl)⟩ ⟨hPre.blind, hx_recv hK (ci := 0) rfl hMd1.1, hPre.at hB hS1 (fun _ h9 => h9)⟩ rfl rfl hl.1 rfl (lv_room (Nat.le_of_ble_eq_true rfl)) d_law_152 ⟨by show _ ≤ 601024; omega, by show _ ≤ 7293034; omega⟩) hS1 hsm.1.A (fun r9 H2 locs2 hm hz2 hk2 hS2 => ?_)
    have hS := hS2
    obtain ⟨hw, o', z', K', r', i', f', hn, hrr, hmd, hi0, hrel2, ho0⟩ := gl_unit (N := H.size) hI hrel hpc hm
    obtain ⟨c1, c2, c3⟩ := hLS0.cls hn hrr hkk hfr
    have hLS2 := lwS.mdl c1 c3 hout1 hk2 hmd hrel2
    refine lv_istore (lv' := [(6, .int r9), (5, .int 0), (4, .int (nI (5 * k))), (0, .ref b), (1, .ref (o 0 0)), (2, .ref xm), (3, .ref out)]) hx hb d_law_155 hl (by decide) rfl (fun ls hl => ?_)
    refine lv_aload_n hx hb d_law_157 rfl (lv_at hl 5 rfl) ?_
    refine h_calli (va_runV (As := []) (rest := []) ⟨hx, hb, hml, hown, htg⟩ (c_Md_thrown l D cs s.heap.size H2 xm gm i' f' hsm.1 hmd) ⟨x_cwB 0 htg (gw_mem (i := 1087) (by decide +kernel) rfl) (gw_mem (i := 38) (by decide +kernel) rfl) (gw_mem (i := 1084) (by decide +kernel) rfl) (by decide +kernel) ⟨Nat.le_of_ble_eq_true rfl, Nat.le_of_ble_eq_true rfl⟩, htg _ (gw_mem (i := 1085) (by decide +kernel) rfl), htg _ (gw_mem (i := 1086) (by decide +kernel) rfl)⟩ ⟨hPre.blind, hx_recv hK (ci := 0) rfl hmd.1, hPre.at hB hS2 (fun _ h9 => h9)⟩ rfl rfl hl.1 rfl (lv_room (Nat.le_of_ble_eq_true rfl)) d_law_158 ⟨by show _ ≤ 601024; omega, by show _ ≤ 7293034; omega⟩) hS2 hsm.1.A (fun r3 H3 locs3 hm3 hz3 hk3 hS3 => ?_)
    obtain ⟨hmd3, hr3⟩ := hm3
    have hLS3 := lwS.mdl hLS2.1 hLS2.2.2.1 hLS2.2.2.2.1 hk3 hmd3 hrel2
    rw [hi0] at hr3
    subst hr3
    refine lv_iload hx hb d_law_161 (lv_at hl 1 rfl) ?_
    refine lv_icmp_eq (tgt := 168) hx hb d_law_163 (by decide) (fun _ => ?_) (fun h9 => absurd rfl h9)
    refine lv_iload hx hb d_law_168 (lv_at hl 1 rfl) ?_
    refine lv_if_ne (tgt := 185) hx hb d_law_170 (by decide) (fun h9 => absurd rfl h9) (fun _ => ?_)
    refine lv_aload_n hx hb d_law_173 rfl (lv_at hl 6 rfl) ?_
    refine lv_iconst (v := 0) hx hb d_law_174 (by decide) ?_
    refine hx_lald hx hb hK 3 hLS3.2.2.2.1 rfl (show vp_in 0 1 from vp_in_nI (n := 0) (by decide) (by decide)) d_law_175 ?_
    refine lv_eqv (y := .long (wv.toInt64)) (show Value.long (vp_updL gl 0 wv.toInt64 0) = _ by rw [updL_self]) ?_
    subst hw
    refine lv_iload hx hb d_law_176 (lv_at hl 0 rfl) ?_
    refine lv_i2l (v := wv.toInt64) hx hb d_law_178 rfl ?_
    skip
    refine W.lcmp hx hb d_law_179 ?_
    refine lv_eqi (y := 0) (lcx _) ?_
    refine lv_if_eq (x := 0) (tgt := 185) hx hb d_law_180 (by decide) (fun _ => ?_) (fun h9 => absurd rfl h9)
    refine lv_goto (tgt := 1391) hx hb d_law_185 (by decide) ?_
    refine W.widen (k := 30 + 10 * (k + 1)) (n := 6000 + 300 * (k + 1)) (by omega) (by omega) ?_
    exact kk _ _ _ ⟨o', z', K', r', i', f', _, ho0, hLS3⟩ hS3 (lv_sub hl [2, 3, 4, 5, 6] rfl)
  · subst hv
    obtain ⟨G9, hG9⟩ : ∃ y, y = goV (decide (z 1 0 < 12)) (isSg ((xs (5 * k + 1)))) true := ⟨_, rfl⟩
    have hG0 := hG
    rw [← hG9] at hG ⊢
    refine W.eq (g2 := F0 m 143 ls [.int G9]) rfl ?_
    have hLS1 := hLS0.same hfr
    have hMd1 := hLS1.2.1
    clear hS
    have hS := hS1
    refine lv_istore (lv' := [(5, .int G9), (4, .int (nI (5 * k))), (0, .ref b), (1, .ref (o 0 0)), (2, .ref xm), (3, .ref out)]) hx hb d_law_143 hl (by decide) rfl (fun ls hl => ?_)
    refine lv_aload_n hx hb d_law_145 rfl (lv_at hl 4 rfl) ?_
    refine lv_aload_n hx hb d_law_146 rfl (lv_at hl 2 rfl) ?_
    refine lv_iload hx hb d_law_147 (lv_at hl 1 rfl) ?_
    refine lv_iconst (v := 1) hx hb d_law_149 (by decide) ?_
    refine lv_iadd (x := (nI (5 * k))) (y := 1) hx hb d_law_150 ?_
    refine lv_eqi (y := (nI (5 * k + 1))) (nI_add (5 * k) 1) ?_
    refine va_sld hx hb hXb hbl (Nat.not_le.mpr hbl) hS (show vp_in (nI (5 * k + 1)) L from vp_in_nI (n := 5 * k + 1) (by omega) (by omega)) d_law_151 ?_
    refine lv_eqi (y := xs (5 * k + 1)) (by rw [nI_clamp (by omega)]) ?_
    refine h_calli (va_runV (As := [.int (xs (5 * k + 1))]) (rest := []) ⟨hx, hb, hml, hown, htg⟩ (c_Md_unit l D cs s.heap.size H1 xm gm i f ((xs (5 * k + 1))) (z 1 0) hsm.1 hMd1 hrel.pad.1 hrel.bnd.2.1) ⟨x_cwB 1 htg (gw_mem (i := 1091) (by decide +kernel) rfl) (gw_mem (i := 38) (by decide +kernel) rfl) (gw_mem (i := 1088) (by decide +kernel) rfl) (by decide +kernel) ⟨Nat.le_of_ble_eq_true rfl, Nat.le_of_ble_eq_true rfl⟩, htg _ (gw_mem (i := 1089) (by decide +kernel) rfl), htg _ (gw_mem (i := 1090) (by decide +kernel) rfl)⟩ ⟨hPre.blind, hx_recv hK (ci := 0) rfl hMd1.1, hPre.at hB hS1 (fun _ h9 => h9)⟩ rfl rfl hl.1 rfl (lv_room (Nat.le_of_ble_eq_true rfl)) d_law_152 ⟨by show _ ≤ 601024; omega, by show _ ≤ 7293034; omega⟩) hS1 hsm.1.A (fun r9 H2 locs2 hm hz2 hk2 hS2 => ?_)
    have hS := hS2
    obtain ⟨i', f', hmd, hi0, hrel2⟩ := gx_unit hrel hG0 hm
    have hLS2 := lwS.mdl hLS1.1 hsm hout1 hk2 hmd hrel2
    refine lv_istore (lv' := [(6, .int r9), (5, .int G9), (4, .int (nI (5 * k))), (0, .ref b), (1, .ref (o 0 0)), (2, .ref xm), (3, .ref out)]) hx hb d_law_155 hl (by decide) rfl (fun ls hl => ?_)
    refine lv_aload_n hx hb d_law_157 rfl (lv_at hl 5 rfl) ?_
    refine h_calli (va_runV (As := []) (rest := []) ⟨hx, hb, hml, hown, htg⟩ (c_Md_thrown l D cs s.heap.size H2 xm gm i' f' hsm.1 hmd) ⟨x_cwB 0 htg (gw_mem (i := 1087) (by decide +kernel) rfl) (gw_mem (i := 38) (by decide +kernel) rfl) (gw_mem (i := 1084) (by decide +kernel) rfl) (by decide +kernel) ⟨Nat.le_of_ble_eq_true rfl, Nat.le_of_ble_eq_true rfl⟩, htg _ (gw_mem (i := 1085) (by decide +kernel) rfl), htg _ (gw_mem (i := 1086) (by decide +kernel) rfl)⟩ ⟨hPre.blind, hx_recv hK (ci := 0) rfl hmd.1, hPre.at hB hS2 (fun _ h9 => h9)⟩ rfl rfl hl.1 rfl (lv_room (Nat.le_of_ble_eq_true rfl)) d_law_158 ⟨by show _ ≤ 601024; omega, by show _ ≤ 7293034; omega⟩) hS2 hsm.1.A (fun r3 H3 locs3 hm3 hz3 hk3 hS3 => ?_)
    obtain ⟨hmd3, hr3⟩ := hm3
    have hLS3 := lwS.mdl hLS2.1 hLS2.2.2.1 hLS2.2.2.2.1 hk3 hmd3 hrel2
    rw [hi0, ← hG9] at hr3
    subst hr3
    refine lv_iload hx hb d_law_161 (lv_at hl 1 rfl) ?_
    refine lv_icmp_eq (tgt := 168) hx hb d_law_163 (by decide) (fun _ => ?_) (fun h9 => absurd rfl h9)
    refine lv_iload hx hb d_law_168 (lv_at hl 1 rfl) ?_
    refine lv_if_ne (tgt := 185) hx hb d_law_170 (by decide) (fun _ => ?_) (fun h9 => absurd h9 (by simpa using hG))
    refine lv_goto (tgt := 1391) hx hb d_law_185 (by decide) ?_
    refine W.widen (k := 30 + 10 * (k + 1)) (n := 6000 + 300 * (k + 1)) (by omega) (by omega) ?_
    exact kk _ _ _ ⟨o, z, K, r, i', f', _, rfl, hLS3⟩ hS3 (lv_sub hl [2, 3, 4, 5, 6] rfl)
theorem d_law_337 : decode code 337 = .ok (.aload_n 1, 1) := by decide +kernel
theorem d_law_338 : decode code 338 = .ok (.aload_n 0, 1) := by decide +kernel
theorem d_law_339 : decode code 339 = .ok (.iload 4, 2) := by decide +kernel
theorem d_law_341 : decode code 341 = .ok (.iconst 1, 1) := by decide +kernel
theorem d_law_342 : decode code 342 = .ok (.iadd, 1) := by decide +kernel
theorem d_law_343 : decode code 343 = .ok (.iaload, 1) := by decide +kernel
theorem d_law_344 : decode code 344 = .ok (.aload_n 0, 1) := by decide +kernel
theorem d_law_345 : decode code 345 = .ok (.iload 4, 2) := by decide +kernel
theorem d_law_347 : decode code 347 = .ok (.iconst 2, 1) := by decide +kernel
theorem d_law_348 : decode code 348 = .ok (.iadd, 1) := by decide +kernel
theorem d_law_349 : decode code 349 = .ok (.iaload, 1) := by decide +kernel
theorem d_law_350 : decode code 350 = .ok (.aload_n 0, 1) := by decide +kernel
theorem d_law_351 : decode code 351 = .ok (.iload 4, 2) := by decide +kernel
theorem d_law_353 : decode code 353 = .ok (.iconst 3, 1) := by decide +kernel
theorem d_law_354 : decode code 354 = .ok (.iadd, 1) := by decide +kernel
theorem d_law_355 : decode code 355 = .ok (.iaload, 1) := by decide +kernel
theorem d_law_356 : decode code 356 = .ok (.aload_n 3, 1) := by decide +kernel
theorem d_law_357 : decode code 357 = .ok (.invokestatic 98, 3) := by decide +kernel
theorem d_law_360 : decode code 360 = .ok (.istore 5, 2) := by decide +kernel
theorem d_law_362 : decode code 362 = .ok (.aload_n 2, 1) := by decide +kernel
theorem d_law_363 : decode code 363 = .ok (.aload_n 0, 1) := by decide +kernel
theorem d_law_364 : decode code 364 = .ok (.iload 4, 2) := by decide +kernel
theorem d_law_366 : decode code 366 = .ok (.iconst 1, 1) := by decide +kernel
theorem d_law_367 : decode code 367 = .ok (.iadd, 1) := by decide +kernel
theorem d_law_368 : decode code 368 = .ok (.iaload, 1) := by decide +kernel
theorem d_law_369 : decode code 369 = .ok (.aload_n 0, 1) := by decide +kernel
theorem d_law_370 : decode code 370 = .ok (.iload 4, 2) := by decide +kernel
theorem d_law_372 : decode code 372 = .ok (.iconst 2, 1) := by decide +kernel
theorem d_law_373 : decode code 373 = .ok (.iadd, 1) := by decide +kernel
theorem d_law_374 : decode code 374 = .ok (.iaload, 1) := by decide +kernel
theorem d_law_375 : decode code 375 = .ok (.aload_n 0, 1) := by decide +kernel
theorem d_law_376 : decode code 376 = .ok (.iload 4, 2) := by decide +kernel
theorem d_law_378 : decode code 378 = .ok (.iconst 3, 1) := by decide +kernel
theorem d_law_379 : decode code 379 = .ok (.iadd, 1) := by decide +kernel
theorem d_law_380 : decode code 380 = .ok (.iaload, 1) := by decide +kernel
theorem d_law_381 : decode code 381 = .ok (.invokevirtual 101, 3) := by decide +kernel
theorem d_law_384 : decode code 384 = .ok (.istore 6, 2) := by decide +kernel
theorem d_law_386 : decode code 386 = .ok (.aload_n 2, 1) := by decide +kernel
theorem d_law_387 : decode code 387 = .ok (.invokevirtual 83, 3) := by decide +kernel
theorem d_law_390 : decode code 390 = .ok (.iload 5, 2) := by decide +kernel
theorem d_law_392 : decode code 392 = .ok (.if_icmp .eq 5, 3) := by decide +kernel
theorem d_law_397 : decode code 397 = .ok (.iload 5, 2) := by decide +kernel
theorem d_law_399 : decode code 399 = .ok (.ifCond .ne 22, 3) := by decide +kernel
theorem d_law_402 : decode code 402 = .ok (.aload_n 3, 1) := by decide +kernel
theorem d_law_403 : decode code 403 = .ok (.iconst 0, 1) := by decide +kernel
theorem d_law_404 : decode code 404 = .ok (.laload, 1) := by decide +kernel
theorem d_law_405 : decode code 405 = .ok (.iload 6, 2) := by decide +kernel
theorem d_law_407 : decode code 407 = .ok (.ifCond .eq 7, 3) := by decide +kernel
theorem d_law_410 : decode code 410 = .ok (.lconst 1, 1) := by decide +kernel
theorem d_law_411 : decode code 411 = .ok (.goto 4, 3) := by decide +kernel
theorem d_law_414 : decode code 414 = .ok (.lconst 0, 1) := by decide +kernel
theorem d_law_415 : decode code 415 = .ok (.lcmp, 1) := by decide +kernel
theorem d_law_416 : decode code 416 = .ok (.ifCond .eq 5, 3) := by decide +kernel
theorem d_law_421 : decode code 421 = .ok (.goto 970, 3) := by decide +kernel
set_option maxHeartbeats 4000000 in
set_option maxRecDepth 100000 in
theorem lc_dates {p : Program} {l : Launch} {e : Env} {s : State} {m : MethodId} {below : List Frame} {meth : Method} {c : Code} {H : Heap} {locs : List Loc} {b L : Nat} {xs : Nat → Int32} {D : va_G} {cs : Nat → ClassId} {x xm out k : Nat} {gm : Nat → Nat} {ls : Array Slot} {Q9 : State → Prop} (C : lawC p s m c b L xs D cs l) (hk9 : 5 * k + 5 ≤ L) (hX : lwX D cs s.heap.size H x xm gm out) (hS : va_S (lwA s.heap.size) s.heap H locs) (hl : lv_has ls 7 [(4, .int (nI (5 * k))), (0, .ref b), (1, .ref x), (2, .ref xm), (3, .ref out)])
    (kk : ∀ (H3 : Heap) (locs3 : List Loc) (ls3 : Array Slot), lwX D cs s.heap.size H3 x xm gm out → va_S (lwA s.heap.size) s.heap H3 locs3 → lv_has ls3 7 [(4, .int (nI (5 * k))), (0, .ref b), (1, .ref x), (2, .ref xm), (3, .ref out)] → W p l e room_1 s m #[Value.ref b] below meth c H3 locs3 (30 + 10 * (k + 1)) (6000 + 300 * (k + 1)) Q9 (F0 m 1391 ls3 [])) :
    W p l e room_1 s m #[Value.ref b] below meth c H locs (30 + 10 * k) (6000 + 300 * k) Q9 (F0 m 337 ls []) := by
  obtain ⟨hx, hb, hml, hown, hts, hXb, hbl, hl9, hB, hL⟩ := C
  have htg : ∀ w ∈ gw, w.before #[Value.ref b] s = true := fun w h => hts w (List.mem_filter.mp h).1
  have hK := hB.1
  obtain ⟨o, z, K, r, i, f, gl, hox, hLS⟩ := hX
  subst hox
  have hLS0 := hLS
  obtain ⟨hI, hMd, hsm, hout, hrel⟩ := hLS
  have hz0 := hS.1
  refine lv_aload_n hx hb d_law_337 rfl (lv_at hl 2 rfl) ?_
  refine lv_aload_n hx hb d_law_338 rfl (lv_at hl 1 rfl) ?_
  refine lv_iload hx hb d_law_339 (lv_at hl 0 rfl) ?_
  refine lv_iconst (v := 1) hx hb d_law_341 (by decide) ?_
  refine lv_iadd (x := (nI (5 * k))) (y := 1) hx hb d_law_342 ?_
  refine lv_eqi (y := (nI (5 * k + 1))) (nI_add (5 * k) 1) ?_
  refine va_sld hx hb hXb hbl (Nat.not_le.mpr hbl) hS (show vp_in (nI (5 * k + 1)) L from vp_in_nI (n := 5 * k + 1) (by omega) (by omega)) d_law_343 ?_
  refine lv_eqi (y := xs (5 * k + 1)) (by rw [nI_clamp (by omega)]) ?_
  refine lv_aload_n hx hb d_law_344 rfl (lv_at hl 1 rfl) ?_
  refine lv_iload hx hb d_law_345 (lv_at hl 0 rfl) ?_
  refine lv_iconst (v := 2) hx hb d_law_347 (by decide) ?_
  refine lv_iadd (x := (nI (5 * k))) (y := 2) hx hb d_law_348 ?_
  refine lv_eqi (y := (nI (5 * k + 2))) (nI_add (5 * k) 2) ?_
  refine va_sld hx hb hXb hbl (Nat.not_le.mpr hbl) hS (show vp_in (nI (5 * k + 2)) L from vp_in_nI (n := 5 * k + 2) (by omega) (by omega)) d_law_349 ?_
  refine lv_eqi (y := xs (5 * k + 2)) (by rw [nI_clamp (by omega)]) ?_
  refine lv_aload_n hx hb d_law_350 rfl (lv_at hl 1 rfl) ?_
  refine lv_iload hx hb d_law_351 (lv_at hl 0 rfl) ?_
  refine lv_iconst (v := 3) hx hb d_law_353 (by decide) ?_
  refine lv_iadd (x := (nI (5 * k))) (y := 3) hx hb d_law_354 ?_
  refine lv_eqi (y := (nI (5 * k + 3))) (nI_add (5 * k) 3) ?_
  refine va_sld hx hb hXb hbl (Nat.not_le.mpr hbl) hS (show vp_in (nI (5 * k + 3)) L from vp_in_nI (n := 5 * k + 3) (by omega) (by omega)) d_law_355 ?_
  refine lv_eqi (y := xs (5 * k + 3)) (by rw [nI_clamp (by omega)]) ?_
  refine lv_aload_n hx hb d_law_356 rfl (lv_at hl 4 rfl) ?_
  refine t_SW (n := 5) (As := [.ref (o 0 0), .int (xs (5 * k + 1)), .int (xs (5 * k + 2)), .int (xs (5 * k + 3)), .ref out]) (rest := []) ⟨hx, hb, hml, hown, htg⟩ (c_Lw_dates l D cs s.heap.size H hl9 o z K r H.size out gl ((xs (5 * k + 1))) ((xs (5 * k + 2))) ((xs (5 * k + 3))) hI rfl hout hsm.2.2.1 hsm.2.2.2.2) (lw_ws (hts _ (List.mem_of_getElem? (i := 805) (by decide +kernel))) rfl htg) List.mem_cons_self (hts _ (List.mem_of_getElem? (i := 805) (by decide +kernel))) (htg _ (gw_mem (i := 29) (by decide +kernel) rfl)) (by decide +kernel) (htg _ (gw_mem (i := 803) (by decide +kernel) rfl)) (htg _ (gw_mem (i := 804) (by decide +kernel) rfl)) ⟨hPre.blind, hPre.at hB hS (fun _ h9 => h9)⟩ rfl hl.1 rfl (lv_room (Nat.le_of_ble_eq_true rfl)) d_law_357 ⟨by show _ ≤ 601024; omega, by show _ ≤ 7293034; omega⟩ rfl rfl ⟨Nat.le_of_ble_eq_true rfl, Nat.le_of_ble_eq_true rfl⟩ (fun v9 H1 L9 hL9 hp9 hz9 hkk => ?_)
  have hS1 : va_S (lwA s.heap.size) s.heap H1 (locs ++ L9) := x_app hS hz9 (fun q h1 h2 => hkk q h1 (fun h => h2 (lw_sub hI hz0 hsm.2.2.2.2 h))) (fun q hq => lw_sub hI hz0 hsm.2.2.2.2 (hL9 q hq))
  have hz1 := hS1.1
  rcases hp9 with ⟨hv, wv, Hc, hpc, hout1, hsz, hfr⟩ | ⟨hv, hG, hout1, hsz, hfr⟩
  · subst hv
    refine W.eq (g2 := F0 m 360 ls [.int 0]) rfl ?_
    have hMd1 : md_I D cs H1 xm gm i f := hMd.keepA (fun q hq => hkk q (hMd.lt hq) (lw_not hsm hq (hMd.lt hq)))
    clear hS
    have hS := hS1
    refine lv_istore (lv' := [(5, .int 0), (4, .int (nI (5 * k))), (0, .ref b), (1, .ref (o 0 0)), (2, .ref xm), (3, .ref out)]) hx hb d_law_360 hl (by decide) rfl (fun ls hl => ?_)
    refine lv_aload_n hx hb d_law_362 rfl (lv_at hl 4 rfl) ?_
    refine lv_aload_n hx hb d_law_363 rfl (lv_at hl 2 rfl) ?_
    refine lv_iload hx hb d_law_364 (lv_at hl 1 rfl) ?_
    refine lv_iconst (v := 1) hx hb d_law_366 (by decide) ?_
    refine lv_iadd (x := (nI (5 * k))) (y := 1) hx hb d_law_367 ?_
    refine lv_eqi (y := (nI (5 * k + 1))) (nI_add (5 * k) 1) ?_
    refine va_sld hx hb hXb hbl (Nat.not_le.mpr hbl) hS (show vp_in (nI (5 * k + 1)) L from vp_in_nI (n := 5 * k + 1) (by omega) (by omega)) d_law_368 ?_
    refine lv_eqi (y := xs (5 * k + 1)) (by rw [nI_clamp (by omega)]) ?_
    refine lv_aload_n hx hb d_law_369 rfl (lv_at hl 2 rfl) ?_
    refine lv_iload hx hb d_law_370 (lv_at hl 1 rfl) ?_
    refine lv_iconst (v := 2) hx hb d_law_372 (by decide) ?_
    refine lv_iadd (x := (nI (5 * k))) (y := 2) hx hb d_law_373 ?_
    refine lv_eqi (y := (nI (5 * k + 2))) (nI_add (5 * k) 2) ?_
    refine va_sld hx hb hXb hbl (Nat.not_le.mpr hbl) hS (show vp_in (nI (5 * k + 2)) L from vp_in_nI (n := 5 * k + 2) (by omega) (by omega)) d_law_374 ?_
    refine lv_eqi (y := xs (5 * k + 2)) (by rw [nI_clamp (by omega)]) ?_
    refine lv_aload_n hx hb d_law_375 rfl (lv_at hl 2 rfl) ?_
    refine lv_iload hx hb d_law_376 (lv_at hl 1 rfl) ?_
    refine lv_iconst (v := 3) hx hb d_law_378 (by decide) ?_
    refine lv_iadd (x := (nI (5 * k))) (y := 3) hx hb d_law_379 ?_
    refine lv_eqi (y := (nI (5 * k + 3))) (nI_add (5 * k) 3) ?_
    refine va_sld hx hb hXb hbl (Nat.not_le.mpr hbl) hS (show vp_in (nI (5 * k + 3)) L from vp_in_nI (n := 5 * k + 3) (by omega) (by omega)) d_law_380 ?_
    refine lv_eqi (y := xs (5 * k + 3)) (by rw [nI_clamp (by omega)]) ?_
    refine h_calli (va_runV (As := [.int (xs (5 * k + 1)), .int (xs (5 * k + 2)), .int (xs (5 * k + 3))]) (rest := []) ⟨hx, hb, hml, hown, htg⟩ (c_Md_dates l D cs s.heap.size H1 xm gm i f ((xs (5 * k + 1))) ((xs (5 * k + 2))) ((xs (5 * k + 3))) hsm.1 hMd1 (z 3 0) hrel.nam hrel.bnd.2.2.1) ⟨x_cwB 3 htg (gw_mem (i := 1119) (by decide +kernel) rfl) (gw_mem (i := 38) (by decide +kernel) rfl) (gw_mem (i := 1116) (by decide +kernel) rfl) (by decide +kernel) ⟨Nat.le_of_ble_eq_true rfl, Nat.le_of_ble_eq_true rfl⟩, htg _ (gw_mem (i := 1117) (by decide +kernel) rfl), htg _ (gw_mem (i := 1118) (by decide +kernel) rfl)⟩ ⟨hPre.blind, hx_recv hK (ci := 0) rfl hMd1.1, hPre.at hB hS1 (fun _ h9 => h9)⟩ rfl rfl hl.1 rfl (lv_room (Nat.le_of_ble_eq_true rfl)) d_law_381 ⟨by show _ ≤ 601024; omega, by show _ ≤ 7293034; omega⟩) hS1 hsm.1.A (fun r9 H2 locs2 hm hz2 hk2 hS2 => ?_)
    have hS := hS2
    obtain ⟨hw, o', z', K', r', i', f', hn, hrr, hmd, hi0, hrel2, ho0⟩ := gl_dates (N := H.size) hI hrel hpc hm
    obtain ⟨c1, c2, c3⟩ := hLS0.cls hn hrr hkk hfr
    have hLS2 := lwS.mdl c1 c3 hout1 hk2 hmd hrel2
    refine lv_istore (lv' := [(6, .int r9), (5, .int 0), (4, .int (nI (5 * k))), (0, .ref b), (1, .ref (o 0 0)), (2, .ref xm), (3, .ref out)]) hx hb d_law_384 hl (by decide) rfl (fun ls hl => ?_)
    refine lv_aload_n hx hb d_law_386 rfl (lv_at hl 5 rfl) ?_
    refine h_calli (va_runV (As := []) (rest := []) ⟨hx, hb, hml, hown, htg⟩ (c_Md_thrown l D cs s.heap.size H2 xm gm i' f' hsm.1 hmd) ⟨x_cwB 0 htg (gw_mem (i := 1087) (by decide +kernel) rfl) (gw_mem (i := 38) (by decide +kernel) rfl) (gw_mem (i := 1084) (by decide +kernel) rfl) (by decide +kernel) ⟨Nat.le_of_ble_eq_true rfl, Nat.le_of_ble_eq_true rfl⟩, htg _ (gw_mem (i := 1085) (by decide +kernel) rfl), htg _ (gw_mem (i := 1086) (by decide +kernel) rfl)⟩ ⟨hPre.blind, hx_recv hK (ci := 0) rfl hmd.1, hPre.at hB hS2 (fun _ h9 => h9)⟩ rfl rfl hl.1 rfl (lv_room (Nat.le_of_ble_eq_true rfl)) d_law_387 ⟨by show _ ≤ 601024; omega, by show _ ≤ 7293034; omega⟩) hS2 hsm.1.A (fun r3 H3 locs3 hm3 hz3 hk3 hS3 => ?_)
    obtain ⟨hmd3, hr3⟩ := hm3
    have hLS3 := lwS.mdl hLS2.1 hLS2.2.2.1 hLS2.2.2.2.1 hk3 hmd3 hrel2
    rw [hi0] at hr3
    subst hr3
    refine lv_iload hx hb d_law_390 (lv_at hl 1 rfl) ?_
    refine lv_icmp_eq (tgt := 397) hx hb d_law_392 (by decide) (fun _ => ?_) (fun h9 => absurd rfl h9)
    refine lv_iload hx hb d_law_397 (lv_at hl 1 rfl) ?_
    refine lv_if_ne (tgt := 421) hx hb d_law_399 (by decide) (fun h9 => absurd rfl h9) (fun _ => ?_)
    refine lv_aload_n hx hb d_law_402 rfl (lv_at hl 6 rfl) ?_
    refine lv_iconst (v := 0) hx hb d_law_403 (by decide) ?_
    refine hx_lald hx hb hK 3 hLS3.2.2.2.1 rfl (show vp_in 0 1 from vp_in_nI (n := 0) (by decide) (by decide)) d_law_404 ?_
    refine lv_eqv (y := .long (if wv = 0 then 0 else 1)) (show Value.long (vp_updL gl 0 (if wv = 0 then 0 else 1) 0) = _ by rw [updL_self]) ?_
    subst hw
    refine lv_iload hx hb d_law_405 (lv_at hl 0 rfl) ?_
    refine lv_if_eq (x := wv) (tgt := 414) hx hb d_law_407 (by decide) (fun hc0 => ?_) (fun hc0 => ?_)
    · rw [if_pos hc0]
      refine lv_lconst (v := 0) hx hb d_law_414 rfl ?_
      refine W.lcmp hx hb d_law_415 ?_
      refine lv_eqi (y := 0) (lcx _) ?_
      refine lv_if_eq (x := 0) (tgt := 421) hx hb d_law_416 (by decide) (fun _ => ?_) (fun h9 => absurd rfl h9)
      refine lv_goto (tgt := 1391) hx hb d_law_421 (by decide) ?_
      refine W.widen (k := 30 + 10 * (k + 1)) (n := 6000 + 300 * (k + 1)) (by omega) (by omega) ?_
      exact kk _ _ _ ⟨o', z', K', r', i', f', _, ho0, hLS3⟩ hS3 (lv_sub hl [2, 3, 4, 5, 6] rfl)
    · rw [if_neg hc0]
      refine lv_lconst (v := 1) hx hb d_law_410 rfl ?_
      refine lv_goto (tgt := 415) hx hb d_law_411 (by decide) ?_
      refine W.lcmp hx hb d_law_415 ?_
      refine lv_eqi (y := 0) (lcx _) ?_
      refine lv_if_eq (x := 0) (tgt := 421) hx hb d_law_416 (by decide) (fun _ => ?_) (fun h9 => absurd rfl h9)
      refine lv_goto (tgt := 1391) hx hb d_law_421 (by decide) ?_
      refine W.widen (k := 30 + 10 * (k + 1)) (n := 6000 + 300 * (k + 1)) (by omega) (by omega) ?_
      exact kk _ _ _ ⟨o', z', K', r', i', f', _, ho0, hLS3⟩ hS3 (lv_sub hl [2, 3, 4, 5, 6] rfl)
  · subst hv
    obtain ⟨G9, hG9⟩ : ∃ y, y = goV (isN (z 3 0) ((xs (5 * k + 1)))) (daysB ((xs (5 * k + 2))) ((xs (5 * k + 3)))) true := ⟨_, rfl⟩
    have hG0 := hG
    rw [← hG9] at hG ⊢
    refine W.eq (g2 := F0 m 360 ls [.int G9]) rfl ?_
    have hLS1 := hLS0.same hfr
    have hMd1 := hLS1.2.1
    clear hS
    have hS := hS1
    refine lv_istore (lv' := [(5, .int G9), (4, .int (nI (5 * k))), (0, .ref b), (1, .ref (o 0 0)), (2, .ref xm), (3, .ref out)]) hx hb d_law_360 hl (by decide) rfl (fun ls hl => ?_)
    refine lv_aload_n hx hb d_law_362 rfl (lv_at hl 4 rfl) ?_
    refine lv_aload_n hx hb d_law_363 rfl (lv_at hl 2 rfl) ?_
    refine lv_iload hx hb d_law_364 (lv_at hl 1 rfl) ?_
    refine lv_iconst (v := 1) hx hb d_law_366 (by decide) ?_
    refine lv_iadd (x := (nI (5 * k))) (y := 1) hx hb d_law_367 ?_
    refine lv_eqi (y := (nI (5 * k + 1))) (nI_add (5 * k) 1) ?_
    refine va_sld hx hb hXb hbl (Nat.not_le.mpr hbl) hS (show vp_in (nI (5 * k + 1)) L from vp_in_nI (n := 5 * k + 1) (by omega) (by omega)) d_law_368 ?_
    refine lv_eqi (y := xs (5 * k + 1)) (by rw [nI_clamp (by omega)]) ?_
    refine lv_aload_n hx hb d_law_369 rfl (lv_at hl 2 rfl) ?_
    refine lv_iload hx hb d_law_370 (lv_at hl 1 rfl) ?_
    refine lv_iconst (v := 2) hx hb d_law_372 (by decide) ?_
    refine lv_iadd (x := (nI (5 * k))) (y := 2) hx hb d_law_373 ?_
    refine lv_eqi (y := (nI (5 * k + 2))) (nI_add (5 * k) 2) ?_
    refine va_sld hx hb hXb hbl (Nat.not_le.mpr hbl) hS (show vp_in (nI (5 * k + 2)) L from vp_in_nI (n := 5 * k + 2) (by omega) (by omega)) d_law_374 ?_
    refine lv_eqi (y := xs (5 * k + 2)) (by rw [nI_clamp (by omega)]) ?_
    refine lv_aload_n hx hb d_law_375 rfl (lv_at hl 2 rfl) ?_
    refine lv_iload hx hb d_law_376 (lv_at hl 1 rfl) ?_
    refine lv_iconst (v := 3) hx hb d_law_378 (by decide) ?_
    refine lv_iadd (x := (nI (5 * k))) (y := 3) hx hb d_law_379 ?_
    refine lv_eqi (y := (nI (5 * k + 3))) (nI_add (5 * k) 3) ?_
    refine va_sld hx hb hXb hbl (Nat.not_le.mpr hbl) hS (show vp_in (nI (5 * k + 3)) L from vp_in_nI (n := 5 * k + 3) (by omega) (by omega)) d_law_380 ?_
    refine lv_eqi (y := xs (5 * k + 3)) (by rw [nI_clamp (by omega)]) ?_
    refine h_calli (va_runV (As := [.int (xs (5 * k + 1)), .int (xs (5 * k + 2)), .int (xs (5 * k + 3))]) (rest := []) ⟨hx, hb, hml, hown, htg⟩ (c_Md_dates l D cs s.heap.size H1 xm gm i f ((xs (5 * k + 1))) ((xs (5 * k + 2))) ((xs (5 * k + 3))) hsm.1 hMd1 (z 3 0) hrel.nam hrel.bnd.2.2.1) ⟨x_cwB 3 htg (gw_mem (i := 1119) (by decide +kernel) rfl) (gw_mem (i := 38) (by decide +kernel) rfl) (gw_mem (i := 1116) (by decide +kernel) rfl) (by decide +kernel) ⟨Nat.le_of_ble_eq_true rfl, Nat.le_of_ble_eq_true rfl⟩, htg _ (gw_mem (i := 1117) (by decide +kernel) rfl), htg _ (gw_mem (i := 1118) (by decide +kernel) rfl)⟩ ⟨hPre.blind, hx_recv hK (ci := 0) rfl hMd1.1, hPre.at hB hS1 (fun _ h9 => h9)⟩ rfl rfl hl.1 rfl (lv_room (Nat.le_of_ble_eq_true rfl)) d_law_381 ⟨by show _ ≤ 601024; omega, by show _ ≤ 7293034; omega⟩) hS1 hsm.1.A (fun r9 H2 locs2 hm hz2 hk2 hS2 => ?_)
    have hS := hS2
    obtain ⟨i', f', hmd, hi0, hrel2⟩ := gx_dates hrel hG0 hm
    have hLS2 := lwS.mdl hLS1.1 hsm hout1 hk2 hmd hrel2
    refine lv_istore (lv' := [(6, .int r9), (5, .int G9), (4, .int (nI (5 * k))), (0, .ref b), (1, .ref (o 0 0)), (2, .ref xm), (3, .ref out)]) hx hb d_law_384 hl (by decide) rfl (fun ls hl => ?_)
    refine lv_aload_n hx hb d_law_386 rfl (lv_at hl 5 rfl) ?_
    refine h_calli (va_runV (As := []) (rest := []) ⟨hx, hb, hml, hown, htg⟩ (c_Md_thrown l D cs s.heap.size H2 xm gm i' f' hsm.1 hmd) ⟨x_cwB 0 htg (gw_mem (i := 1087) (by decide +kernel) rfl) (gw_mem (i := 38) (by decide +kernel) rfl) (gw_mem (i := 1084) (by decide +kernel) rfl) (by decide +kernel) ⟨Nat.le_of_ble_eq_true rfl, Nat.le_of_ble_eq_true rfl⟩, htg _ (gw_mem (i := 1085) (by decide +kernel) rfl), htg _ (gw_mem (i := 1086) (by decide +kernel) rfl)⟩ ⟨hPre.blind, hx_recv hK (ci := 0) rfl hmd.1, hPre.at hB hS2 (fun _ h9 => h9)⟩ rfl rfl hl.1 rfl (lv_room (Nat.le_of_ble_eq_true rfl)) d_law_387 ⟨by show _ ≤ 601024; omega, by show _ ≤ 7293034; omega⟩) hS2 hsm.1.A (fun r3 H3 locs3 hm3 hz3 hk3 hS3 => ?_)
    obtain ⟨hmd3, hr3⟩ := hm3
    have hLS3 := lwS.mdl hLS2.1 hLS2.2.2.1 hLS2.2.2.2.1 hk3 hmd3 hrel2
    rw [hi0, ← hG9] at hr3
    subst hr3
    refine lv_iload hx hb d_law_390 (lv_at hl 1 rfl) ?_
    refine lv_icmp_eq (tgt := 397) hx hb d_law_392 (by decide) (fun _ => ?_) (fun h9 => absurd rfl h9)
    refine lv_iload hx hb d_law_397 (lv_at hl 1 rfl) ?_
    refine lv_if_ne (tgt := 421) hx hb d_law_399 (by decide) (fun _ => ?_) (fun h9 => absurd h9 (by simpa using hG))
    refine lv_goto (tgt := 1391) hx hb d_law_421 (by decide) ?_
    refine W.widen (k := 30 + 10 * (k + 1)) (n := 6000 + 300 * (k + 1)) (by omega) (by omega) ?_
    exact kk _ _ _ ⟨o, z, K, r, i', f', _, rfl, hLS3⟩ hS3 (lv_sub hl [2, 3, 4, 5, 6] rfl)
