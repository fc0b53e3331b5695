theorem cpy_sg {f : Nat → Int32} {n : Nat} (h : ∀ j, j < n → sgN (f j)) : ∀ i, i < n → sgN (va_cpy f (fun _ => 0) 0 0 n i) := by
  intro i hi
  rw [pk_cpy_in (Nat.zero_le _) (by omega), Nat.zero_add, Nat.sub_zero]
  exact h i hi
def y_Nm_variant : MethodName := ⟨"NameMerges", "variant", "(IIII)I"⟩
abbrev w_Nm_variant : List Cond := Cond.code y_Nm_variant prog_1_method_5_code 6 (Option.some Jvm.ClassFile.FieldType.int) :: gw
theorem d_Nm_variant_0 : decode prog_1_method_5_code 0 = .ok (.aload_n 0, 1) := by decide +kernel
theorem d_Nm_variant_1 : decode prog_1_method_5_code 1 = .ok (.iload_n 1, 1) := by decide +kernel
theorem d_Nm_variant_2 : decode prog_1_method_5_code 2 = .ok (.invokevirtual 79, 3) := by decide +kernel
theorem d_Nm_variant_5 : decode prog_1_method_5_code 5 = .ok (.aload_n 0, 1) := by decide +kernel
theorem d_Nm_variant_6 : decode prog_1_method_5_code 6 = .ok (.getfield 19, 3) := by decide +kernel
theorem d_Nm_variant_9 : decode prog_1_method_5_code 9 = .ok (.iload_n 1, 1) := by decide +kernel
theorem d_Nm_variant_10 : decode prog_1_method_5_code 10 = .ok (.invokevirtual 82, 3) := by decide +kernel
theorem d_Nm_variant_13 : decode prog_1_method_5_code 13 = .ok (.checkcast 72, 3) := by decide +kernel
theorem d_Nm_variant_16 : decode prog_1_method_5_code 16 = .ok (.astore 5, 2) := by decide +kernel
theorem d_Nm_variant_18 : decode prog_1_method_5_code 18 = .ok (.aload 5, 2) := by decide +kernel
theorem d_Nm_variant_20 : decode prog_1_method_5_code 20 = .ok (.getfield 86, 3) := by decide +kernel
theorem d_Nm_variant_23 : decode prog_1_method_5_code 23 = .ok (.invokevirtual 67, 3) := by decide +kernel
theorem d_Nm_variant_26 : decode prog_1_method_5_code 26 = .ok (.iconst 4, 1) := by decide +kernel
theorem d_Nm_variant_27 : decode prog_1_method_5_code 27 = .ok (.if_icmp .lt 13, 3) := by decide +kernel
theorem d_Nm_variant_30 : decode prog_1_method_5_code 30 = .ok (.new 47, 3) := by decide +kernel
theorem d_Nm_variant_33 : decode prog_1_method_5_code 33 = .ok (.dup, 1) := by decide +kernel
theorem d_Nm_variant_34 : decode prog_1_method_5_code 34 = .ok (.ldc 89, 2) := by decide +kernel
theorem d_Nm_variant_36 : decode prog_1_method_5_code 36 = .ok (.invokespecial 51, 3) := by decide +kernel
theorem d_Nm_variant_39 : decode prog_1_method_5_code 39 = .ok (.athrow, 1) := by decide +kernel
theorem d_Nm_variant_40 : decode prog_1_method_5_code 40 = .ok (.aload_n 0, 1) := by decide +kernel
theorem d_Nm_variant_41 : decode prog_1_method_5_code 41 = .ok (.getfield 12, 3) := by decide +kernel
theorem d_Nm_variant_44 : decode prog_1_method_5_code 44 = .ok (.invokevirtual 43, 3) := by decide +kernel
theorem d_Nm_variant_47 : decode prog_1_method_5_code 47 = .ok (.ifCond .ne 13, 3) := by decide +kernel
theorem d_Nm_variant_50 : decode prog_1_method_5_code 50 = .ok (.new 47, 3) := by decide +kernel
theorem d_Nm_variant_53 : decode prog_1_method_5_code 53 = .ok (.dup, 1) := by decide +kernel
theorem d_Nm_variant_54 : decode prog_1_method_5_code 54 = .ok (.ldc 91, 2) := by decide +kernel
theorem d_Nm_variant_56 : decode prog_1_method_5_code 56 = .ok (.invokespecial 51, 3) := by decide +kernel
theorem d_Nm_variant_59 : decode prog_1_method_5_code 59 = .ok (.athrow, 1) := by decide +kernel
theorem d_Nm_variant_60 : decode prog_1_method_5_code 60 = .ok (.iload_n 2, 1) := by decide +kernel
theorem d_Nm_variant_61 : decode prog_1_method_5_code 61 = .ok (.ifCond .lt 9, 3) := by decide +kernel
theorem d_Nm_variant_64 : decode prog_1_method_5_code 64 = .ok (.iload_n 2, 1) := by decide +kernel
theorem d_Nm_variant_65 : decode prog_1_method_5_code 65 = .ok (.bipush 6, 2) := by decide +kernel
theorem d_Nm_variant_67 : decode prog_1_method_5_code 67 = .ok (.if_icmp .lt 13, 3) := by decide +kernel
theorem d_Nm_variant_70 : decode prog_1_method_5_code 70 = .ok (.new 54, 3) := by decide +kernel
theorem d_Nm_variant_73 : decode prog_1_method_5_code 73 = .ok (.dup, 1) := by decide +kernel
theorem d_Nm_variant_74 : decode prog_1_method_5_code 74 = .ok (.ldc 93, 2) := by decide +kernel
theorem d_Nm_variant_76 : decode prog_1_method_5_code 76 = .ok (.invokespecial 58, 3) := by decide +kernel
theorem d_Nm_variant_79 : decode prog_1_method_5_code 79 = .ok (.athrow, 1) := by decide +kernel
theorem d_Nm_variant_80 : decode prog_1_method_5_code 80 = .ok (.iload_n 3, 1) := by decide +kernel
theorem d_Nm_variant_81 : decode prog_1_method_5_code 81 = .ok (.iload 4, 2) := by decide +kernel
theorem d_Nm_variant_83 : decode prog_1_method_5_code 83 = .ok (.invokestatic 95, 3) := by decide +kernel
theorem d_Nm_variant_86 : decode prog_1_method_5_code 86 = .ok (.aload 5, 2) := by decide +kernel
theorem d_Nm_variant_88 : decode prog_1_method_5_code 88 = .ok (.getfield 86, 3) := by decide +kernel
theorem d_Nm_variant_91 : decode prog_1_method_5_code 91 = .ok (.new 99, 3) := by decide +kernel
theorem d_Nm_variant_94 : decode prog_1_method_5_code 94 = .ok (.dup, 1) := by decide +kernel
theorem d_Nm_variant_95 : decode prog_1_method_5_code 95 = .ok (.aload_n 0, 1) := by decide +kernel
theorem d_Nm_variant_96 : decode prog_1_method_5_code 96 = .ok (.getfield 12, 3) := by decide +kernel
theorem d_Nm_variant_99 : decode prog_1_method_5_code 99 = .ok (.invokevirtual 101, 3) := by decide +kernel
theorem d_Nm_variant_102 : decode prog_1_method_5_code 102 = .ok (.new 105, 3) := by decide +kernel
theorem d_Nm_variant_105 : decode prog_1_method_5_code 105 = .ok (.dup, 1) := by decide +kernel
theorem d_Nm_variant_106 : decode prog_1_method_5_code 106 = .ok (.iload_n 3, 1) := by decide +kernel
theorem d_Nm_variant_107 : decode prog_1_method_5_code 107 = .ok (.iload 4, 2) := by decide +kernel
theorem d_Nm_variant_109 : decode prog_1_method_5_code 109 = .ok (.invokespecial 107, 3) := by decide +kernel
theorem d_Nm_variant_112 : decode prog_1_method_5_code 112 = .ok (.invokespecial 109, 3) := by decide +kernel
theorem d_Nm_variant_115 : decode prog_1_method_5_code 115 = .ok (.invokevirtual 75, 3) := by decide +kernel
theorem d_Nm_variant_118 : decode prog_1_method_5_code 118 = .ok (.pop, 1) := by decide +kernel
theorem d_Nm_variant_119 : decode prog_1_method_5_code 119 = .ok (.aload 5, 2) := by decide +kernel
theorem d_Nm_variant_121 : decode prog_1_method_5_code 121 = .ok (.dup, 1) := by decide +kernel
theorem d_Nm_variant_122 : decode prog_1_method_5_code 122 = .ok (.getfield 112, 3) := by decide +kernel
theorem d_Nm_variant_125 : decode prog_1_method_5_code 125 = .ok (.iconst 1, 1) := by decide +kernel
theorem d_Nm_variant_126 : decode prog_1_method_5_code 126 = .ok (.iload_n 2, 1) := by decide +kernel
theorem d_Nm_variant_127 : decode prog_1_method_5_code 127 = .ok (.ishl, 1) := by decide +kernel
theorem d_Nm_variant_128 : decode prog_1_method_5_code 128 = .ok (.ior, 1) := by decide +kernel
theorem d_Nm_variant_129 : decode prog_1_method_5_code 129 = .ok (.putfield 112, 3) := by decide +kernel
theorem d_Nm_variant_132 : decode prog_1_method_5_code 132 = .ok (.aload 5, 2) := by decide +kernel
theorem d_Nm_variant_134 : decode prog_1_method_5_code 134 = .ok (.dup, 1) := by decide +kernel
theorem d_Nm_variant_135 : decode prog_1_method_5_code 135 = .ok (.getfield 115, 3) := by decide +kernel
theorem d_Nm_variant_138 : decode prog_1_method_5_code 138 = .ok (.iconst 1, 1) := by decide +kernel
theorem d_Nm_variant_139 : decode prog_1_method_5_code 139 = .ok (.aload_n 0, 1) := by decide +kernel
theorem d_Nm_variant_140 : decode prog_1_method_5_code 140 = .ok (.getfield 12, 3) := by decide +kernel
theorem d_Nm_variant_143 : decode prog_1_method_5_code 143 = .ok (.iconst 0, 1) := by decide +kernel
theorem d_Nm_variant_144 : decode prog_1_method_5_code 144 = .ok (.invokevirtual 118, 3) := by decide +kernel
theorem d_Nm_variant_147 : decode prog_1_method_5_code 147 = .ok (.bipush 97, 2) := by decide +kernel
theorem d_Nm_variant_149 : decode prog_1_method_5_code 149 = .ok (.isub, 1) := by decide +kernel
theorem d_Nm_variant_150 : decode prog_1_method_5_code 150 = .ok (.ishl, 1) := by decide +kernel
theorem d_Nm_variant_151 : decode prog_1_method_5_code 151 = .ok (.ior, 1) := by decide +kernel
theorem d_Nm_variant_152 : decode prog_1_method_5_code 152 = .ok (.putfield 115, 3) := by decide +kernel
theorem d_Nm_variant_155 : decode prog_1_method_5_code 155 = .ok (.aload_n 0, 1) := by decide +kernel
theorem d_Nm_variant_156 : decode prog_1_method_5_code 156 = .ok (.getfield 12, 3) := by decide +kernel
theorem d_Nm_variant_159 : decode prog_1_method_5_code 159 = .ok (.iconst 0, 1) := by decide +kernel
theorem d_Nm_variant_160 : decode prog_1_method_5_code 160 = .ok (.invokevirtual 63, 3) := by decide +kernel
theorem d_Nm_variant_163 : decode prog_1_method_5_code 163 = .ok (.aload 5, 2) := by decide +kernel
theorem d_Nm_variant_165 : decode prog_1_method_5_code 165 = .ok (.getfield 86, 3) := by decide +kernel
theorem d_Nm_variant_168 : decode prog_1_method_5_code 168 = .ok (.invokevirtual 67, 3) := by decide +kernel
theorem d_Nm_variant_171 : decode prog_1_method_5_code 171 = .ok (.ireturn, 1) := by decide +kernel
set_option maxHeartbeats 4000000 in
set_option maxRecDepth 100000 in
theorem c_Nm_variant (l : Launch) (D : va_G) (cs : Nat → ClassId) (N0 : Nat) (H : Heap) (hl9 : l.stackTraces = false) (o z : Nat → Nat → Nat) (K : Nat → Nat → Nat → Int32) (r : Nat → Nat × Nat) (N : Nat) (q lg fr tw : Int32) (hI : nmP D cs N0 H o z K r) (hN : N = H.size) : tMet l y_Nm_variant w_Nm_variant ({ frames := 8, cells := 9, slots := 58, locals := 151 }) (hPre D cs N0 [.ref (o 0 0), .int q, .int lg, .int fr, .int tw] H) (hT (fun v H' => goV (isN (z 3 0) q) (isN (z 3 0) q && !decide (4 ≤ z 11 (tn q)) && !decide (z 1 0 ≤ 0)) (!decide (lg < 0) && !decide (6 ≤ lg) && daysB fr tw) = 0 ∧ v = some (.int (nI (z 11 (tn q) + 1))) ∧ ∃ (vr sg by9 dy ea : Nat) (mc ml : Int32) (r' : Nat → Nat × Nat), nmP D cs N0 H' (upZ (upZ (upZ (upZ (upZ o 15 ((tn q) * 4 + z 11 (tn q)) vr) 16 ((tn q) * 4 + z 11 (tn q)) sg) 17 ((tn q) * 4 + z 11 (tn q)) by9) 18 ((tn q) * 4 + z 11 (tn q)) dy) 12 (tn q) ea) (upZ (upZ (upZ z 17 ((tn q) * 4 + z 11 (tn q)) (z 1 0)) 11 (tn q) (z 11 (tn q) + 1)) 1 0 0) (upK (upK (upK (upK (upK (upK K 16 ((tn q) * 4 + z 11 (tn q)) (fun _ => 0)) 17 ((tn q) * 4 + z 11 (tn q)) (padF z K)) 18 ((tn q) * 4 + z 11 (tn q)) (fun i => if i = 0 then fr else tw)) 11 (tn q) (fun _ => mc)) 10 (tn q) (fun i => if i = 0 then K 10 (tn q) 0 ||| (1 : Int32) <<< (lg &&& 31) else if i = 1 then K 10 (tn q) 1 ||| (1 : Int32) <<< ((chV (K 2 0 0) - 97) &&& 31) else K 10 (tn q) i)) 1 0 (fun _ => ml)) r' ∧ ∀ q, q < N → r' q = r q) (fun E => (E = "java/lang/IndexOutOfBoundsException" ∧ goV (isN (z 3 0) q) (isN (z 3 0) q && !decide (4 ≤ z 11 (tn q)) && !decide (z 1 0 ≤ 0)) (!decide (lg < 0) && !decide (6 ≤ lg) && daysB fr tw) = 1) ∨ (E = "java/lang/IllegalStateException" ∧ goV (isN (z 3 0) q) (isN (z 3 0) q && !decide (4 ≤ z 11 (tn q)) && !decide (z 1 0 ≤ 0)) (!decide (lg < 0) && !decide (6 ≤ lg) && daysB fr tw) = 2) ∨ (E = "java/lang/IllegalArgumentException" ∧ goV (isN (z 3 0) q) (isN (z 3 0) q && !decide (4 ≤ z 11 (tn q)) && !decide (z 1 0 ≤ 0)) (!decide (lg < 0) && !decide (6 ≤ lg) && daysB fr tw) = 3)) (nmA r N)) 9 58 (nmA r N) := by
  refine tMet.ofW (cc := prog_1_method_5_code) (maxL := 6) (ret := (Option.some Jvm.ClassFile.FieldType.int)) (by decide) rfl ?_
  intro p e s m args below meth c s₁ B hml hno hv
  obtain ⟨rfl, rfl, hB⟩ := hv
  have hx := B.exec
  have hb := B.bytes
  have hr := B.returns
  have hts := atoms_spec (ws := w_Nm_variant) B.pre
  have htg : ∀ w ∈ gw, w.before _ s = true := fun w h => hts w (List.mem_cons_of_mem _ h)
  have hown : s.vm.findClass "NameMerges" = some m.cls := findClass_of_methodNamed B.named
  have hlocks := B.notSynchronized
  have hAN : ∀ q, nmA r N q → N0 ≤ q := fun q9 h9 => h9.elim (hI.2.1 q9) (fun h9 => Nat.le_trans hB.2.1 (hN ▸ h9))
  have hK := hB.1
  obtain ⟨H, hH⟩ : ∃ z : Heap, z = s.heap := ⟨_, rfl⟩
  have hz0 : H.size = s.heap.size := by rw [hH]
  have hN0 := hB.2.1
  rw [← hH] at hI
  have hS : va_S noA s.heap H [] := by rw [hH]; exact va_S.rf
  have hl := lv_entry ([.ref (o 0 0), .int q, .int lg, .int fr, .int tw]) (n := 6) (Nat.le_of_ble_eq_true rfl)
  rw [lg_entry_eq, ← hH]
  generalize (lg_sl ([.ref (o 0 0), .int q, .int lg, .int fr, .int tw]) ++ List.replicate (6 - (lg_sl ([.ref (o 0 0), .int q, .int lg, .int fr, .int tw])).length) Slot.unset).toArray = ls at hl ⊢
  have hl : lv_has ls 6 [(0, .ref (o 0 0)), (1, .int q), (2, .int lg), (3, .int fr), (4, .int tw)] := hl
  obtain ⟨hb0, hb1, hb3, hb5, hb4, hb6, hb11, hb17⟩ := hI.2.2.1
  have hIN : ∀ k9 n9, nmv z k9 n9 → o k9 n9 < N := fun k9 n9 hv9 => by have := hI.lt hv9; omega
  have hI0 : nmP D cs N0 s.heap o z K r := hH ▸ hI
  refine lv_aload_n hx hb d_Nm_variant_0 rfl (lv_at hl 0 rfl) ?_
  refine lv_iload_n hx hb d_Nm_variant_1 rfl (lv_at hl 1 rfl) ?_
  refine t_V (As := [.int q]) (rest := []) ⟨hx, hb, hml, hown, htg⟩ (c_Nm_checkName l D cs N0 H hl9 o z K r q hI) ⟨x_cwB 1 htg (gw_mem (i := 738) (by decide +kernel) rfl) (gw_mem (i := 30) (by decide +kernel) rfl) (gw_mem (i := 735) (by decide +kernel) rfl) (by decide +kernel) ⟨Nat.le_of_ble_eq_true rfl, Nat.le_of_ble_eq_true rfl⟩, htg _ (gw_mem (i := 737) (by decide +kernel) rfl), htg _ (gw_mem (i := 11) (by decide +kernel) rfl)⟩ ⟨hPre.blind, hx_recv hK (ci := 1) rfl (show va_at D vwCl (o 0 0, .inr (1, [.ref (o 1 0), .ref (o 3 0), .ref (o 5 0), .ref (o 7 0), .ref (o 8 0), .int (nI (z 0 0)), .int (K 0 0 0), .ref (o 9 0)])) H from hI.at (k := 0) (n := 0) (show nmv z 0 0 from rfl)), hPre.at hB hS noA_in⟩ rfl hl.1 rfl (lv_room (Nat.le_of_ble_eq_true rfl)) d_Nm_variant_2 ⟨Nat.le_of_ble_eq_true rfl, Nat.le_of_ble_eq_true rfl⟩ (fun x9 E9 ce9 H9 L9 hL9 hb9 hc9 hv9 hf9 hz9 hk9 => ?_) (fun v9 H9 L9 hL9 hp9 hz9 hk9 => ?_)
  · have hn9 := noL hL9
    subst hn9
    have hnil := noL hS.2.2
    first | subst hnil | skip
    exact t_out (A := (nmA r N)) rfl hno hlocks ((Or.inl ⟨hb9.1, by simp [goV, hb9.2]⟩)) hc9 hv9 hf9 (Nat.le_of_ble_eq_true rfl) (Nat.le_of_ble_eq_true rfl)
  · skip
    obtain ⟨hv9, hH9, hq1⟩ := hp9
    have hn8 := noL hL9
    subst hn8
    rw [hv9, hH9, List.append_nil]
    refine W.eq (g2 := F0 m 5 ls []) rfl ?_
    obtain ⟨j_q, hj_q, e_q⟩ := isN_of hq1 (by omega)
    rw [e_q] at hq1
    refine lv_aload_n hx hb d_Nm_variant_5 rfl (lv_at hl 0 rfl) ?_
    refine hx_get (ref := "NameMerges") (v := .ref (o 3 0)) hx hb htg iNm hown hK (show va_at D vwCl (o 0 0, .inr (1, [.ref (o 1 0), .ref (o 3 0), .ref (o 5 0), .ref (o 7 0), .ref (o 8 0), .int (nI (z 0 0)), .int (K 0 0 0), .ref (o 9 0)])) H from hI.at (k := 0) (n := 0) (show nmv z 0 0 from rfl)) rfl 1 (by decide) (htg _ (gw_mem (i := 127) (by decide +kernel) rfl)) (fun _ h9 => h9) rfl d_Nm_variant_6 ?_
    refine lv_iload_n hx hb d_Nm_variant_9 rfl (lv_at hl 1 rfl) ?_
    refine lv_eqi (y := (nI j_q)) e_q ?_
    refine h_pureq (va_runV (As := [.int (nI j_q)]) (rest := []) ⟨hx, hb, hml, hown, htg⟩ (c_names_get l D cs N0 H o z K r j_q hI (show j_q < z 3 0 by omega)) ⟨x_cwB 1 htg (gw_mem (i := 512) (by decide +kernel) rfl) (gw_mem (i := 37) (by decide +kernel) rfl) (gw_mem (i := 509) (by decide +kernel) rfl) (by decide +kernel) ⟨Nat.le_of_ble_eq_true rfl, Nat.le_of_ble_eq_true rfl⟩, htg _ (gw_mem (i := 510) (by decide +kernel) rfl), htg _ (gw_mem (i := 511) (by decide +kernel) rfl)⟩ ⟨hPre.blind, hx_recv hK (ci := 6) rfl (show va_at D vwCl (o 3 0, .inr (6, [.ref (nmL cs (z 3 0) (o 4 0)), .int (nI (z 3 0)), .int (K 3 0 0)])) H from hI.at (k := 3) (n := 0) (show nmv z 3 0 from rfl)), hPre.at hB hS noA_in⟩ rfl rfl hl.1 rfl (lv_room (Nat.le_of_ble_eq_true rfl)) d_Nm_variant_10 ⟨Nat.le_of_ble_eq_true rfl, Nat.le_of_ble_eq_true rfl⟩) hS (fun locs hS => ?_)
    refine lv_eqv (y := .ref (o 10 j_q)) rfl ?_
    refine va_castS hx hb hown (htg _ (gw_mem (i := 536) (by decide +kernel) rfl)) (x_at hK (ci := 2) rfl) (hx_recv hK (ci := 2) rfl (show va_at D vwCl (o 10 j_q, .inr (2, [.ref (o 11 j_q), .ref (o 13 j_q), va_rf (if z 14 j_q = 0 then none else some (o 14 j_q)), .int (K 10 j_q 0), .int (K 10 j_q 1), .int (K 10 j_q 2), .int (K 10 j_q 3)])) H from hI.at (k := 10) (n := j_q) (show nmv z 10 j_q from (show j_q < z 3 0 by omega)))) d_Nm_variant_13 ?_
    refine lv_astore (lv' := [(5, .ref (o 10 j_q)), (0, .ref (o 0 0)), (1, .int q), (2, .int lg), (3, .int fr), (4, .int tw)]) hx hb d_Nm_variant_16 hl (by decide) rfl (fun ls hl => ?_)
    have hb11j := hb11 j_q
    refine lv_aload hx hb d_Nm_variant_18 (lv_at hl 0 rfl) ?_
    refine hx_get (ref := "NameMerges$Name") (v := .ref (o 11 j_q)) hx hb htg iNa hown hK (show va_at D vwCl (o 10 j_q, .inr (2, [.ref (o 11 j_q), .ref (o 13 j_q), va_rf (if z 14 j_q = 0 then none else some (o 14 j_q)), .int (K 10 j_q 0), .int (K 10 j_q 1), .int (K 10 j_q 2), .int (K 10 j_q 3)])) H from hI.at (k := 10) (n := j_q) (show nmv z 10 j_q from (show j_q < z 3 0 by omega))) rfl 0 (by decide) (htg _ (gw_mem (i := 653) (by decide +kernel) rfl)) (fun _ h9 => h9) rfl d_Nm_variant_20 ?_
    refine h_purei (va_runV (As := []) (rest := []) ⟨hx, hb, hml, hown, htg⟩ (c_AL_size l D cs N0 H (o 11 j_q) (nmL cs (z 11 j_q) (o 12 j_q)) (z 11 j_q) (K 11 j_q 0) (show va_at D vwCl (o 11 j_q, .inr (6, [.ref (nmL cs (z 11 j_q) (o 12 j_q)), .int (nI (z 11 j_q)), .int (K 11 j_q 0)])) H from hI.at (k := 11) (n := j_q) (show nmv z 11 j_q from (show j_q < z 3 0 by omega)))) ⟨x_cwB 0 htg (gw_mem (i := 503) (by decide +kernel) rfl) (gw_mem (i := 37) (by decide +kernel) rfl) (gw_mem (i := 500) (by decide +kernel) rfl) (by decide +kernel) ⟨Nat.le_of_ble_eq_true rfl, Nat.le_of_ble_eq_true rfl⟩, htg _ (gw_mem (i := 501) (by decide +kernel) rfl), htg _ (gw_mem (i := 502) (by decide +kernel) rfl)⟩ ⟨hPre.blind, hx_recv hK (ci := 6) rfl (show va_at D vwCl (o 11 j_q, .inr (6, [.ref (nmL cs (z 11 j_q) (o 12 j_q)), .int (nI (z 11 j_q)), .int (K 11 j_q 0)])) H from hI.at (k := 11) (n := j_q) (show nmv z 11 j_q from (show j_q < z 3 0 by omega))), hPre.at hB hS noA_in⟩ rfl rfl hl.1 rfl (lv_room (Nat.le_of_ble_eq_true rfl)) d_Nm_variant_23 ⟨Nat.le_of_ble_eq_true rfl, Nat.le_of_ble_eq_true rfl⟩) hS (fun locs hS => ?_)
    refine lv_iconst (v := 4) hx hb d_Nm_variant_26 (by decide) ?_
    refine lv_icmp_lt (x := (nI (z 11 j_q))) (y := 4) (tgt := 40) hx hb d_Nm_variant_27 (by decide) (fun c27 => ?_) (fun c27 => ?_)
    · skip
      replace c27 : (z 11 j_q) < 4 := (nI_ltI (a := (z 11 j_q)) (b := 4) (by omega) (by omega)).mp c27
      refine lv_aload_n hx hb d_Nm_variant_40 rfl (lv_at hl 1 rfl) ?_
      refine hx_get (ref := "NameMerges") (v := .ref (o 1 0)) hx hb htg iNm hown hK (show va_at D vwCl (o 0 0, .inr (1, [.ref (o 1 0), .ref (o 3 0), .ref (o 5 0), .ref (o 7 0), .ref (o 8 0), .int (nI (z 0 0)), .int (K 0 0 0), .ref (o 9 0)])) H from hI.at (k := 0) (n := 0) (show nmv z 0 0 from rfl)) rfl 0 (by decide) (htg _ (gw_mem (i := 126) (by decide +kernel) rfl)) (fun _ h9 => h9) rfl d_Nm_variant_41 ?_
      refine h_purei (va_runV (As := []) (rest := []) ⟨hx, hb, hml, hown, htg⟩ (c_SB_length l D cs N0 H (o 1 0) (o 2 0) (z 1 0) (K 1 0 0) (show va_at D vwCl (o 1 0, .inr (7, [.ref (o 2 0), .int 0, .int (K 1 0 0), .int (nI (z 1 0))])) H from hI.at (k := 1) (n := 0) (show nmv z 1 0 from rfl))) ⟨x_cwB 0 htg (gw_mem (i := 159) (by decide +kernel) rfl) (gw_mem (i := 32) (by decide +kernel) rfl) (gw_mem (i := 156) (by decide +kernel) rfl) (by decide +kernel) ⟨Nat.le_of_ble_eq_true rfl, Nat.le_of_ble_eq_true rfl⟩, htg _ (gw_mem (i := 157) (by decide +kernel) rfl), htg _ (gw_mem (i := 158) (by decide +kernel) rfl)⟩ ⟨hPre.blind, hx_recv hK (ci := 7) rfl (show va_at D vwCl (o 1 0, .inr (7, [.ref (o 2 0), .int 0, .int (K 1 0 0), .int (nI (z 1 0))])) H from hI.at (k := 1) (n := 0) (show nmv z 1 0 from rfl)), hPre.at hB hS noA_in⟩ rfl rfl hl.1 rfl (lv_room (Nat.le_of_ble_eq_true rfl)) d_Nm_variant_44 ⟨Nat.le_of_ble_eq_true rfl, Nat.le_of_ble_eq_true rfl⟩) hS (fun locs hS => ?_)
      refine lv_if_ne (x := (nI (z 1 0))) (tgt := 60) hx hb d_Nm_variant_47 (by decide) (fun c47 => ?_) (fun c47 => ?_)
      · skip
        replace c47 : ¬ ((z 1 0) = 0) := fun z9 => c47 ((nI_eq (a := (z 1 0)) (b := 0) (by omega) (by omega)).mpr z9)
        refine lv_iload_n hx hb d_Nm_variant_60 rfl (lv_at hl 3 rfl) ?_
        refine lv_if_lt (x := lg) (tgt := 70) hx hb d_Nm_variant_61 (by decide) (fun c61 => ?_) (fun c61 => ?_)
        · skip
          have hnil := noL hS.2.2
          first | subst hnil | skip
          exact t_throw (A := (nmA r N)) (text := "there is no such language") (names := exUp) hx hb hl9 hown (by decide) (by decide) (htg _ (gw_mem (i := 621) (by decide +kernel) rfl)) (htg _ (gw_mem (i := 43) (by decide +kernel) rfl)) (zStr (q := ("NameMerges", 93, "there is no such language")) hB (by decide)) (fun a ha => zOk_before htg hB (List.all_eq_true.mp own_iae a ha)) hS.1 (hl.1.trans hml.symm) d_Nm_variant_70 d_Nm_variant_73 d_Nm_variant_74 d_Nm_variant_76 d_Nm_variant_79 hno (Nat.le_of_ble_eq_true rfl) (Nat.le_of_ble_eq_true rfl) (Nat.le_of_ble_eq_true rfl) (Nat.le_of_ble_eq_true rfl) hlocks (Or.inr (Or.inr (⟨rfl, by simp [goV, c27, Nat.not_le.mpr c27, c47, c61, Int32.not_le.mpr c61, e_q, hq1, tnI (j := j_q) (by omega)]⟩))) (Nat.le_of_ble_eq_true rfl) (Nat.le_of_ble_eq_true rfl)
        · skip
          refine lv_iload_n hx hb d_Nm_variant_64 rfl (lv_at hl 3 rfl) ?_
          refine lv_bipush (v := 6) hx hb d_Nm_variant_65 (by decide) ?_
          refine lv_icmp_lt (x := lg) (y := 6) (tgt := 80) hx hb d_Nm_variant_67 (by decide) (fun c67 => ?_) (fun c67 => ?_)
          · skip
            refine lv_iload_n hx hb d_Nm_variant_80 rfl (lv_at hl 4 rfl) ?_
            refine lv_iload hx hb d_Nm_variant_81 (lv_at hl 5 rfl) ?_
            refine t_S (As := [.int fr, .int tw]) (rest := []) ⟨hx, hb, hml, hown, htg⟩ (c_Nm_checkDays l D cs N0 H hl9 fr tw) ⟨x_cwB 2 htg (gw_mem (i := 757) (by decide +kernel) rfl) (gw_mem (i := 30) (by decide +kernel) rfl) (gw_mem (i := 755) (by decide +kernel) rfl) (by decide +kernel) ⟨Nat.le_of_ble_eq_true rfl, Nat.le_of_ble_eq_true rfl⟩, htg _ (gw_mem (i := 756) (by decide +kernel) rfl)⟩ ⟨hPre.blind, hPre.at hB hS noA_in⟩ rfl hl.1 rfl (lv_room (Nat.le_of_ble_eq_true rfl)) d_Nm_variant_83 ⟨Nat.le_of_ble_eq_true rfl, Nat.le_of_ble_eq_true rfl⟩ (fun x9 E9 ce9 H9 L9 hL9 hb9 hc9 hv9 hf9 hz9 hk9 => ?_) (fun v9 H9 L9 hL9 hp9 hz9 hk9 => ?_)
            · have hn9 := noL hL9
              subst hn9
              have hnil := noL hS.2.2
              first | subst hnil | skip
              exact t_out (A := (nmA r N)) rfl hno hlocks ((Or.inr (Or.inr (⟨hb9.1, by simp [goV, c27, Nat.not_le.mpr c27, c47, c61, Int32.not_lt.mp c61, c67, Int32.not_le.mpr c67, e_q, hq1, tnI (j := j_q) (by omega), hb9.2]⟩)))) hc9 hv9 hf9 (Nat.le_of_ble_eq_true rfl) (Nat.le_of_ble_eq_true rfl)
            · skip
              obtain ⟨hv9, hH9, hq2⟩ := hp9
              have hn8 := noL hL9
              subst hn8
              rw [hv9, hH9, List.append_nil]
              refine W.eq (g2 := F0 m 86 ls []) rfl ?_
              refine lv_aload hx hb d_Nm_variant_86 (lv_at hl 0 rfl) ?_
              refine hx_get (ref := "NameMerges$Name") (v := .ref (o 11 j_q)) hx hb htg iNa hown hK (show va_at D vwCl (o 10 j_q, .inr (2, [.ref (o 11 j_q), .ref (o 13 j_q), va_rf (if z 14 j_q = 0 then none else some (o 14 j_q)), .int (K 10 j_q 0), .int (K 10 j_q 1), .int (K 10 j_q 2), .int (K 10 j_q 3)])) H from hI.at (k := 10) (n := j_q) (show nmv z 10 j_q from (show j_q < z 3 0 by omega))) rfl 0 (by decide) (htg _ (gw_mem (i := 653) (by decide +kernel) rfl)) (fun _ h9 => h9) rfl d_Nm_variant_88 ?_
              rcases (show z 11 j_q = 0 ∨ 0 < z 11 j_q by omega) with hcs | hcs
              · skip
                have hF : ∀ k9 n9, nmv z k9 n9 → ¬ (k9 = 1 ∨ k9 = 2 ∨ (n9 = j_q ∧ (k9 = 10 ∨ k9 = 11 ∨ k9 = 12))) → H[o k9 n9]? = s.heap[o k9 n9]? := fun k9 n9 _ _ => by rw [hH]
                have hl0 := hIN 0 0 rfl
                have hl1 := hIN 1 0 rfl
                have hl2 := hIN 2 0 rfl
                have hl10 := hIN 10 j_q (show j_q < z 3 0 by omega)
                have hl11 := hIN 11 j_q (show j_q < z 3 0 by omega)
                have h00 : va_at D vwCl (o 0 0, .inr (1, [.ref (o 1 0), .ref (o 3 0), .ref (o 5 0), .ref (o 7 0), .ref (o 8 0), .int (nI (z 0 0)), .int (K 0 0 0), .ref (o 9 0)])) H := hI.at (k := 0) (n := 0) (show nmv z 0 0 from rfl)
                have h01 : va_at D vwCl (o 1 0, .inr (7, [.ref (o 2 0), .int 0, .int (K 1 0 0), .int (nI (z 1 0))])) H := hI.at (k := 1) (n := 0) (show nmv z 1 0 from rfl)
                have h10 : va_at D vwCl (o 10 j_q, .inr (2, [.ref (o 11 j_q), .ref (o 13 j_q), va_rf (if z 14 j_q = 0 then none else some (o 14 j_q)), .int (K 10 j_q 0), .int (K 10 j_q 1), .int (K 10 j_q 2), .int (K 10 j_q 3)])) H := hI.at (k := 10) (n := j_q) (show nmv z 10 j_q from (show j_q < z 3 0 by omega))
                have h02 : va_at D vwCl (o 2 0, .inl (cs 2, (16, .inl (K 2 0)))) H := hI.at (k := 2) (n := 0) rfl
                have h11 := nm_empty (hI.at (k := 11) (n := j_q) (show j_q < z 3 0 by omega)) hcs
                replace hS := x_wk (A' := (nmA r N)) hS (fun _ h9 => h9.elim)
                obtain ⟨vr, hvr⟩ : ∃ z : Nat, z = H.size := ⟨_, rfl⟩
                have hlt_q4 : o 0 0 < vr := hvr ▸ hx_lt h00
                have hlt_q5 : o 1 0 < vr := hvr ▸ hx_lt h01
                have hlt_q6 : o 10 j_q < vr := hvr ▸ hx_lt h10
                have hlt_q7 : o 11 j_q < vr := hvr ▸ hx_lt h11
                have hlt_q8 : o 2 0 < vr := hvr ▸ hx_lt h02
                refine hx_new hx hb htg iVa tVa tVa_ok hown (htg _ (gw_mem (i := 545) (by decide +kernel) rfl)) (htg _ (gw_mem (i := 763) (by decide +kernel) rfl)) (htg _ (gw_mem (i := 56) (by decide +kernel) rfl)) hK hS (ci := 3) rfl (fs := [.null, .null]) (by decide +kernel) (Nat.le_of_ble_eq_true rfl) (Nat.le_of_ble_eq_true rfl) d_Nm_variant_91 (fun H hat hz ho hS => ?_)
                rw [← hvr] at hat hz ho
                rw [← hvr]
                have hO3 : va_at D vwCl (vr, .inr (3, [.null, .null])) H := hat
                replace h00 := hx_keep h00 (ho _ (by omega))
                replace h01 := hx_keep h01 (ho _ (by omega))
                replace h10 := hx_keep h10 (ho _ (by omega))
                replace h11 := hx_keep h11 (ho _ (by omega))
                replace h02 := hx_keep h02 (ho _ (by omega))
                replace hF : ∀ k9 n9, nmv z k9 n9 → ¬ (k9 = 1 ∨ k9 = 2 ∨ (n9 = j_q ∧ (k9 = 10 ∨ k9 = 11 ∨ k9 = 12))) → H[o k9 n9]? = s.heap[o k9 n9]? := fun k9 n9 hv9 hx9 => (ho _ (by have := hIN k9 n9 hv9; omega)).trans (hF k9 n9 hv9 hx9)
                refine lv_dup hx hb d_Nm_variant_94 rfl ?_
                refine lv_aload_n hx hb d_Nm_variant_95 rfl (lv_at hl 1 rfl) ?_
                refine hx_get (ref := "NameMerges") (v := .ref (o 1 0)) hx hb htg iNm hown hK h00 rfl 0 (by decide) (htg _ (gw_mem (i := 126) (by decide +kernel) rfl)) (fun _ h9 => h9) rfl d_Nm_variant_96 ?_
                obtain ⟨nq9, hnq9⟩ : ∃ z : Nat, z = H.size := ⟨_, rfl⟩
                have hlt_q10 := hx_lt h00
                have hlt_q11 := hx_lt h01
                have hlt_q12 := hx_lt h10
                have hlt_q13 := hx_lt h11
                have hlt_q14 := hx_lt hO3
                have hlt_q15 := hx_lt h02
                refine h_callq (va_runV (As := []) (rest := [.ref vr, .ref vr, .ref (o 11 j_q)]) ⟨hx, hb, hml, hown, htg⟩ (c_SB_toString l D cs N0 H (o 1 0) (o 2 0) (z 1 0) nq9 (K 1 0 0) (K 2 0) h01 h02 hnq9 (hI.ge (k := 2) (n := 0) (show nmv z 2 0 from rfl)) (hI.ne (k := 1) (n := 0) (k' := 2) (n' := 0) (show nmv z 1 0 from rfl) (show nmv z 2 0 from rfl) (Or.inl (by decide))) (by omega) (fun i9 h9 => sgN_fit (hI.2.2.2.1 i9 h9))) ⟨x_cwB 0 htg (gw_mem (i := 326) (by decide +kernel) rfl) (gw_mem (i := 32) (by decide +kernel) rfl) (gw_mem (i := 764) (by decide +kernel) rfl) (by decide +kernel) ⟨Nat.le_of_ble_eq_true rfl, Nat.le_of_ble_eq_true rfl⟩, htg _ (gw_mem (i := 324) (by decide +kernel) rfl), htg _ (gw_mem (i := 325) (by decide +kernel) rfl)⟩ ⟨hPre.blind, hx_recv hK (ci := 7) rfl h01, hPre.at hB hS hAN⟩ rfl rfl hl.1 rfl (lv_room (Nat.le_of_ble_eq_true rfl)) d_Nm_variant_99 ⟨Nat.le_of_ble_eq_true rfl, Nat.le_of_ble_eq_true rfl⟩) hS (jA_sub1 (hI.inA (k := 2) (n := 0) (show nmv z 2 0 from rfl)) (fun q9 h9 => Or.inr (show N ≤ q9 by omega))) (fun r99 H locs hp hz hk hS => ?_)
                replace h00 := hx_keep h00 (hk _ hlt_q10 (jA_not1 (hI.ne (k := 0) (n := 0) (k' := 2) (n' := 0) (show nmv z 0 0 from rfl) (show nmv z 2 0 from rfl) (Or.inl (by decide))) (show o 0 0 < nq9 by omega)))
                replace h01 := hx_keep h01 (hk _ hlt_q11 (jA_not1 (hI.ne (k := 1) (n := 0) (k' := 2) (n' := 0) (show nmv z 1 0 from rfl) (show nmv z 2 0 from rfl) (Or.inl (by decide))) (show o 1 0 < nq9 by omega)))
                replace h10 := hx_keep h10 (hk _ hlt_q12 (jA_not1 (hI.ne (k := 10) (n := j_q) (k' := 2) (n' := 0) (show nmv z 10 j_q from (show j_q < z 3 0 by omega)) (show nmv z 2 0 from rfl) (Or.inl (by decide))) (show o 10 j_q < nq9 by omega)))
                replace h11 := hx_keep h11 (hk _ hlt_q13 (jA_not1 (hI.ne (k := 11) (n := j_q) (k' := 2) (n' := 0) (show nmv z 11 j_q from (show j_q < z 3 0 by omega)) (show nmv z 2 0 from rfl) (Or.inl (by decide))) (show o 11 j_q < nq9 by omega)))
                replace hO3 := hx_keep hO3 (hk _ hlt_q14 (jA_not1 (show vr ≠ o 2 0 by omega) (show vr < nq9 by omega)))
                replace hF : ∀ k9 n9, nmv z k9 n9 → ¬ (k9 = 1 ∨ k9 = 2 ∨ (n9 = j_q ∧ (k9 = 10 ∨ k9 = 11 ∨ k9 = 12))) → H[o k9 n9]? = s.heap[o k9 n9]? := fun k9 n9 hv9 hx9 => (hk _ (by have := hIN k9 n9 hv9; omega) (jA_not1 (hI0.ne hv9 (show nmv z 2 0 from rfl) (by omega)) (by have := hIN k9 n9 hv9; omega))).trans (hF k9 n9 hv9 hx9)
                obtain ⟨hr9, hO16, hO17, hO18⟩ := hp
                subst hr9
                refine lv_eqv (y := .ref nq9) rfl ?_
                obtain ⟨dy, hdy⟩ : ∃ z : Nat, z = H.size := ⟨_, rfl⟩
                have hlt_q20 : o 0 0 < dy := hdy ▸ hx_lt h00
                have hlt_q21 : o 1 0 < dy := hdy ▸ hx_lt h01
                have hlt_q22 : o 10 j_q < dy := hdy ▸ hx_lt h10
                have hlt_q23 : o 11 j_q < dy := hdy ▸ hx_lt h11
                have hlt_q24 : vr < dy := hdy ▸ hx_lt hO3
                have hlt_q25 : nq9 < dy := hdy ▸ hx_lt hO16
                have hlt_q26 : o 2 0 < dy := hdy ▸ hx_lt hO17
                have hlt_q27 : nq9 + 1 < dy := hdy ▸ hx_lt hO18
                refine hx_new hx hb htg iDa tDa tDa_ok hown (htg _ (gw_mem (i := 765) (by decide +kernel) rfl)) (htg _ (gw_mem (i := 766) (by decide +kernel) rfl)) (htg _ (gw_mem (i := 57) (by decide +kernel) rfl)) hK hS (ci := 4) rfl (fs := [.int 0, .int 0]) (by decide +kernel) (Nat.le_of_ble_eq_true rfl) (Nat.le_of_ble_eq_true rfl) d_Nm_variant_102 (fun H hat hz ho hS => ?_)
                rw [← hdy] at hat hz ho
                rw [← hdy]
                have hO19 : va_at D vwCl (dy, .inr (4, [.int 0, .int 0])) H := hat
                replace h00 := hx_keep h00 (ho _ (by omega))
                replace h01 := hx_keep h01 (ho _ (by omega))
                replace h10 := hx_keep h10 (ho _ (by omega))
                replace h11 := hx_keep h11 (ho _ (by omega))
                replace hO3 := hx_keep hO3 (ho _ (by omega))
                replace hO16 := hx_keep hO16 (ho _ (by omega))
                replace hO17 := hx_keep hO17 (ho _ (by omega))
                replace hO18 := hx_keep hO18 (ho _ (by omega))
                replace hF : ∀ k9 n9, nmv z k9 n9 → ¬ (k9 = 1 ∨ k9 = 2 ∨ (n9 = j_q ∧ (k9 = 10 ∨ k9 = 11 ∨ k9 = 12))) → H[o k9 n9]? = s.heap[o k9 n9]? := fun k9 n9 hv9 hx9 => (ho _ (by have := hIN k9 n9 hv9; omega)).trans (hF k9 n9 hv9 hx9)
                refine lv_dup hx hb d_Nm_variant_105 rfl ?_
                refine lv_iload_n hx hb d_Nm_variant_106 rfl (lv_at hl 4 rfl) ?_
                refine lv_iload hx hb d_Nm_variant_107 (lv_at hl 5 rfl) ?_
                obtain ⟨nq28, hnq28⟩ : ∃ z : Nat, z = H.size := ⟨_, rfl⟩
                have hlt_q29 := hx_lt h00
                have hlt_q30 := hx_lt h01
                have hlt_q31 := hx_lt h10
                have hlt_q32 := hx_lt h11
                have hlt_q33 := hx_lt hO3
                have hlt_q34 := hx_lt hO16
                have hlt_q35 := hx_lt hO19
                have hlt_q36 := hx_lt hO17
                have hlt_q37 := hx_lt hO18
                refine h_callv (va_runI (As := [.int fr, .int tw]) (rest := [.ref dy, .ref nq9, .ref vr, .ref vr, .ref (o 11 j_q)]) ⟨hx, hb, hml, hown, htg⟩ (c_Da_init l D cs N0 H dy nq28 fr tw hO19 hnq28 (by omega)) ⟨x_cwB 2 htg (gw_mem (i := 769) (by decide +kernel) rfl) (gw_mem (i := 57) (by decide +kernel) rfl) (gw_mem (i := 767) (by decide +kernel) rfl) (by decide +kernel) ⟨Nat.le_of_ble_eq_true rfl, Nat.le_of_ble_eq_true rfl⟩, rfl, htg _ (gw_mem (i := 768) (by decide +kernel) rfl)⟩ ⟨hPre.blind, hPre.at hB hS hAN⟩ rfl rfl hl.1 rfl (lv_room (Nat.le_of_ble_eq_true rfl)) d_Nm_variant_109 ⟨Nat.le_of_ble_eq_true rfl, Nat.le_of_ble_eq_true rfl⟩) hS (jA_sub1 (Or.inr (show N ≤ dy by omega)) (fun q9 h9 => Or.inr (show N ≤ q9 by omega))) (fun H locs hp hz hk hS => ?_)
                replace h00 := hx_keep h00 (hk _ hlt_q29 (jA_not1 (show o 0 0 ≠ dy by omega) (show o 0 0 < nq28 by omega)))
                replace h01 := hx_keep h01 (hk _ hlt_q30 (jA_not1 (show o 1 0 ≠ dy by omega) (show o 1 0 < nq28 by omega)))
                replace h10 := hx_keep h10 (hk _ hlt_q31 (jA_not1 (show o 10 j_q ≠ dy by omega) (show o 10 j_q < nq28 by omega)))
                replace h11 := hx_keep h11 (hk _ hlt_q32 (jA_not1 (show o 11 j_q ≠ dy by omega) (show o 11 j_q < nq28 by omega)))
                replace hO3 := hx_keep hO3 (hk _ hlt_q33 (jA_not1 (show vr ≠ dy by omega) (show vr < nq28 by omega)))
                replace hO16 := hx_keep hO16 (hk _ hlt_q34 (jA_not1 (show nq9 ≠ dy by omega) (show nq9 < nq28 by omega)))
                replace hO17 := hx_keep hO17 (hk _ hlt_q36 (jA_not1 (show o 2 0 ≠ dy by omega) (show o 2 0 < nq28 by omega)))
                replace hO18 := hx_keep hO18 (hk _ hlt_q37 (jA_not1 (show nq9 + 1 ≠ dy by omega) (show nq9 + 1 < nq28 by omega)))
                replace hF : ∀ k9 n9, nmv z k9 n9 → ¬ (k9 = 1 ∨ k9 = 2 ∨ (n9 = j_q ∧ (k9 = 10 ∨ k9 = 11 ∨ k9 = 12))) → H[o k9 n9]? = s.heap[o k9 n9]? := fun k9 n9 hv9 hx9 => (hk _ (by have := hIN k9 n9 hv9; omega) (jA_not1 (by have := hIN k9 n9 hv9; omega) (by have := hIN k9 n9 hv9; omega))).trans (hF k9 n9 hv9 hx9)
                have hO38 := hp
                obtain ⟨nq39, hnq39⟩ : ∃ z : Nat, z = H.size := ⟨_, rfl⟩
                have hlt_q40 := hx_lt h00
                have hlt_q41 := hx_lt h01
                have hlt_q42 := hx_lt h10
                have hlt_q43 := hx_lt h11
                have hlt_q44 := hx_lt hO3
                have hlt_q45 := hx_lt hO16
                have hlt_q46 := hx_lt hO38
                have hlt_q47 := hx_lt hO17
                have hlt_q48 := hx_lt hO18
                refine h_callv (va_runI (As := [.ref nq9, .ref dy]) (rest := [.ref vr, .ref (o 11 j_q)]) ⟨hx, hb, hml, hown, htg⟩ (c_Va_init l D cs N0 H vr nq39 nq9 dy hO3 hnq39 (by omega)) ⟨x_cwB 2 htg (gw_mem (i := 782) (by decide +kernel) rfl) (gw_mem (i := 56) (by decide +kernel) rfl) (gw_mem (i := 780) (by decide +kernel) rfl) (by decide +kernel) ⟨Nat.le_of_ble_eq_true rfl, Nat.le_of_ble_eq_true rfl⟩, rfl, htg _ (gw_mem (i := 781) (by decide +kernel) rfl)⟩ ⟨hPre.blind, hPre.at hB hS hAN⟩ rfl rfl hl.1 rfl (lv_room (Nat.le_of_ble_eq_true rfl)) d_Nm_variant_112 ⟨Nat.le_of_ble_eq_true rfl, Nat.le_of_ble_eq_true rfl⟩) hS (jA_sub1 (Or.inr (show N ≤ vr by omega)) (fun q9 h9 => Or.inr (show N ≤ q9 by omega))) (fun H locs hp hz hk hS => ?_)
                replace h00 := hx_keep h00 (hk _ hlt_q40 (jA_not1 (show o 0 0 ≠ vr by omega) (show o 0 0 < nq39 by omega)))
                replace h01 := hx_keep h01 (hk _ hlt_q41 (jA_not1 (show o 1 0 ≠ vr by omega) (show o 1 0 < nq39 by omega)))
                replace h10 := hx_keep h10 (hk _ hlt_q42 (jA_not1 (show o 10 j_q ≠ vr by omega) (show o 10 j_q < nq39 by omega)))
                replace h11 := hx_keep h11 (hk _ hlt_q43 (jA_not1 (show o 11 j_q ≠ vr by omega) (show o 11 j_q < nq39 by omega)))
                replace hO16 := hx_keep hO16 (hk _ hlt_q45 (jA_not1 (show nq9 ≠ vr by omega) (show nq9 < nq39 by omega)))
                replace hO38 := hx_keep hO38 (hk _ hlt_q46 (jA_not1 (show dy ≠ vr by omega) (show dy < nq39 by omega)))
                replace hO17 := hx_keep hO17 (hk _ hlt_q47 (jA_not1 (show o 2 0 ≠ vr by omega) (show o 2 0 < nq39 by omega)))
                replace hO18 := hx_keep hO18 (hk _ hlt_q48 (jA_not1 (show nq9 + 1 ≠ vr by omega) (show nq9 + 1 < nq39 by omega)))
                replace hF : ∀ k9 n9, nmv z k9 n9 → ¬ (k9 = 1 ∨ k9 = 2 ∨ (n9 = j_q ∧ (k9 = 10 ∨ k9 = 11 ∨ k9 = 12))) → H[o k9 n9]? = s.heap[o k9 n9]? := fun k9 n9 hv9 hx9 => (hk _ (by have := hIN k9 n9 hv9; omega) (jA_not1 (by have := hIN k9 n9 hv9; omega) (by have := hIN k9 n9 hv9; omega))).trans (hF k9 n9 hv9 hx9)
                have hO49 := hp
                obtain ⟨nq50, hnq50⟩ : ∃ z : Nat, z = H.size := ⟨_, rfl⟩
                have hlt_q51 := hx_lt h00
                have hlt_q52 := hx_lt h01
                have hlt_q53 := hx_lt h10
                have hlt_q54 := hx_lt h11
                have hlt_q55 := hx_lt hO16
                have hlt_q56 := hx_lt hO38
                have hlt_q57 := hx_lt hO49
                have hlt_q58 := hx_lt hO17
                have hlt_q59 := hx_lt hO18
                refine h_calli (va_runV (As := [.ref vr]) (rest := []) ⟨hx, hb, hml, hown, htg⟩ (c_AL_add_e l D cs N0 H (o 11 j_q) nq50 3 vr (K 11 j_q 0) _ h11 hnq50 (hI.ge (k := 11) (n := j_q) (show nmv z 11 j_q from (show j_q < z 3 0 by omega))) rfl (by decide) ⟨_, hO49⟩ (show vr ≠ o 11 j_q by omega)) ⟨x_cwB 1 htg (gw_mem (i := 684) (by decide +kernel) rfl) (gw_mem (i := 37) (by decide +kernel) rfl) (gw_mem (i := 681) (by decide +kernel) rfl) (by decide +kernel) ⟨Nat.le_of_ble_eq_true rfl, Nat.le_of_ble_eq_true rfl⟩, htg _ (gw_mem (i := 682) (by decide +kernel) rfl), htg _ (gw_mem (i := 683) (by decide +kernel) rfl)⟩ ⟨hPre.blind, hx_recv hK (ci := 6) rfl h11, hPre.at hB hS hAN⟩ rfl rfl hl.1 rfl (lv_room (Nat.le_of_ble_eq_true rfl)) d_Nm_variant_115 ⟨Nat.le_of_ble_eq_true rfl, Nat.le_of_ble_eq_true rfl⟩) hS (jA_sub1 (hI.inA (k := 11) (n := j_q) (show nmv z 11 j_q from (show j_q < z 3 0 by omega))) (fun q9 h9 => Or.inr (show N ≤ q9 by omega))) (fun r115 H locs hp hz hk hS => ?_)
                replace h00 := hx_keep h00 (hk _ hlt_q51 (jA_not1 (hI.ne (k := 0) (n := 0) (k' := 11) (n' := j_q) (show nmv z 0 0 from rfl) (show nmv z 11 j_q from (show j_q < z 3 0 by omega)) (Or.inl (by decide))) (show o 0 0 < nq50 by omega)))
                replace h01 := hx_keep h01 (hk _ hlt_q52 (jA_not1 (hI.ne (k := 1) (n := 0) (k' := 11) (n' := j_q) (show nmv z 1 0 from rfl) (show nmv z 11 j_q from (show j_q < z 3 0 by omega)) (Or.inl (by decide))) (show o 1 0 < nq50 by omega)))
                replace h10 := hx_keep h10 (hk _ hlt_q53 (jA_not1 (hI.ne (k := 10) (n := j_q) (k' := 11) (n' := j_q) (show nmv z 10 j_q from (show j_q < z 3 0 by omega)) (show nmv z 11 j_q from (show j_q < z 3 0 by omega)) (Or.inl (by decide))) (show o 10 j_q < nq50 by omega)))
                replace hO16 := hx_keep hO16 (hk _ hlt_q55 (jA_not1 (show nq9 ≠ o 11 j_q by omega) (show nq9 < nq50 by omega)))
                replace hO38 := hx_keep hO38 (hk _ hlt_q56 (jA_not1 (show dy ≠ o 11 j_q by omega) (show dy < nq50 by omega)))
                replace hO49 := hx_keep hO49 (hk _ hlt_q57 (jA_not1 (show vr ≠ o 11 j_q by omega) (show vr < nq50 by omega)))
                replace hO17 := hx_keep hO17 (hk _ hlt_q58 (jA_not1 (hI.ne (k := 2) (n := 0) (k' := 11) (n' := j_q) (show nmv z 2 0 from rfl) (show nmv z 11 j_q from (show j_q < z 3 0 by omega)) (Or.inl (by decide))) (show o 2 0 < nq50 by omega)))
                replace hO18 := hx_keep hO18 (hk _ hlt_q59 (jA_not1 (show nq9 + 1 ≠ o 11 j_q by omega) (show nq9 + 1 < nq50 by omega)))
                replace hF : ∀ k9 n9, nmv z k9 n9 → ¬ (k9 = 1 ∨ k9 = 2 ∨ (n9 = j_q ∧ (k9 = 10 ∨ k9 = 11 ∨ k9 = 12))) → H[o k9 n9]? = s.heap[o k9 n9]? := fun k9 n9 hv9 hx9 => (hk _ (by have := hIN k9 n9 hv9; omega) (jA_not1 (hI0.ne hv9 (show nmv z 11 j_q from (show j_q < z 3 0 by omega)) (by omega)) (by have := hIN k9 n9 hv9; omega))).trans (hF k9 n9 hv9 hx9)
                obtain ⟨hr9, mc62, hO60, hO61⟩ := hp
                subst hr9
                refine lv_pop hx hb d_Nm_variant_118 rfl ?_
                refine lv_aload hx hb d_Nm_variant_119 (lv_at hl 0 rfl) ?_
                refine lv_dup hx hb d_Nm_variant_121 rfl ?_
                refine hx_get (ref := "NameMerges$Name") (v := .int (K 10 j_q 0)) hx hb htg iNa hown hK h10 rfl 3 (by decide) (htg _ (gw_mem (i := 659) (by decide +kernel) rfl)) (fun _ h9 => h9) rfl d_Nm_variant_122 ?_
                refine lv_iconst (v := 1) hx hb d_Nm_variant_125 (by decide) ?_
                refine lv_iload_n hx hb d_Nm_variant_126 rfl (lv_at hl 3 rfl) ?_
                refine lv_ishl (x := 1) (y := lg) hx hb d_Nm_variant_127 ?_
                refine lv_ior (x := (K 10 j_q 0)) (y := (1 <<< (lg &&& 31))) hx hb d_Nm_variant_128 ?_
                refine hx_put (ref := "NameMerges$Name") (ty := .int) (v := .int ((K 10 j_q 0) ||| (1 <<< (lg &&& 31)))) hx hb htg iNa tNa tNa_ok nNa hown hK h10 hS (hI.inA (k := 10) (n := j_q) (show nmv z 10 j_q from (show j_q < z 3 0 by omega))) rfl 3 (by decide) (htg _ (gw_mem (i := 659) (by decide +kernel) rfl)) (fun _ h9 => h9) rfl (by decide +kernel) rfl rfl (Nat.le_of_ble_eq_true rfl) d_Nm_variant_129 (fun H locs hat hz ho hS => ?_)
                replace h10 : va_at D vwCl (o 10 j_q, .inr (2, [.ref (o 11 j_q), .ref (o 13 j_q), va_rf (if z 14 j_q = 0 then none else some (o 14 j_q)), .int ((K 10 j_q 0) ||| (1 <<< (lg &&& 31))), .int (K 10 j_q 1), .int (K 10 j_q 2), .int (K 10 j_q 3)])) H := hat
                replace h00 := hx_keep h00 (ho _ (hI.ne (k := 0) (n := 0) (k' := 10) (n' := j_q) (show nmv z 0 0 from rfl) (show nmv z 10 j_q from (show j_q < z 3 0 by omega)) (Or.inl (by decide))))
                replace h01 := hx_keep h01 (ho _ (hI.ne (k := 1) (n := 0) (k' := 10) (n' := j_q) (show nmv z 1 0 from rfl) (show nmv z 10 j_q from (show j_q < z 3 0 by omega)) (Or.inl (by decide))))
                replace hO16 := hx_keep hO16 (ho _ (show nq9 ≠ o 10 j_q by omega))
                replace hO38 := hx_keep hO38 (ho _ (show dy ≠ o 10 j_q by omega))
                replace hO49 := hx_keep hO49 (ho _ (show vr ≠ o 10 j_q by omega))
                replace hO60 := hx_keep hO60 (ho _ (hI.ne (k := 11) (n := j_q) (k' := 10) (n' := j_q) (show nmv z 11 j_q from (show j_q < z 3 0 by omega)) (show nmv z 10 j_q from (show j_q < z 3 0 by omega)) (Or.inl (by decide))))
                replace hO17 := hx_keep hO17 (ho _ (hI.ne (k := 2) (n := 0) (k' := 10) (n' := j_q) (show nmv z 2 0 from rfl) (show nmv z 10 j_q from (show j_q < z 3 0 by omega)) (Or.inl (by decide))))
                replace hO18 := hx_keep hO18 (ho _ (show nq9 + 1 ≠ o 10 j_q by omega))
                replace hO61 := hx_keep hO61 (ho _ (show nq50 ≠ o 10 j_q by omega))
                replace hF : ∀ k9 n9, nmv z k9 n9 → ¬ (k9 = 1 ∨ k9 = 2 ∨ (n9 = j_q ∧ (k9 = 10 ∨ k9 = 11 ∨ k9 = 12))) → H[o k9 n9]? = s.heap[o k9 n9]? := fun k9 n9 hv9 hx9 => (ho _ (hI0.ne hv9 (show nmv z 10 j_q from (show j_q < z 3 0 by omega)) (by omega))).trans (hF k9 n9 hv9 hx9)
                refine lv_aload hx hb d_Nm_variant_132 (lv_at hl 0 rfl) ?_
                refine lv_dup hx hb d_Nm_variant_134 rfl ?_
                refine hx_get (ref := "NameMerges$Name") (v := .int (K 10 j_q 1)) hx hb htg iNa hown hK h10 rfl 4 (by decide) (htg _ (gw_mem (i := 661) (by decide +kernel) rfl)) (fun _ h9 => h9) rfl d_Nm_variant_135 ?_
                refine lv_iconst (v := 1) hx hb d_Nm_variant_138 (by decide) ?_
                refine lv_aload_n hx hb d_Nm_variant_139 rfl (lv_at hl 1 rfl) ?_
                refine hx_get (ref := "NameMerges") (v := .ref (o 1 0)) hx hb htg iNm hown hK h00 rfl 0 (by decide) (htg _ (gw_mem (i := 126) (by decide +kernel) rfl)) (fun _ h9 => h9) rfl d_Nm_variant_140 ?_
                refine lv_iconst (v := 0) hx hb d_Nm_variant_143 (by decide) ?_
                refine h_purei (va_runV (As := [.int 0]) (rest := [.int 1, .int (K 10 j_q 1), .ref (o 10 j_q)]) ⟨hx, hb, hml, hown, htg⟩ (c_SB_charAt l D cs N0 H (o 1 0) (o 2 0) (z 1 0) 0 (K 1 0 0) ((K 2 0)) h01 hO17 (by omega) (by omega)) ⟨x_cwB 1 htg (gw_mem (i := 796) (by decide +kernel) rfl) (gw_mem (i := 32) (by decide +kernel) rfl) (gw_mem (i := 793) (by decide +kernel) rfl) (by decide +kernel) ⟨Nat.le_of_ble_eq_true rfl, Nat.le_of_ble_eq_true rfl⟩, htg _ (gw_mem (i := 794) (by decide +kernel) rfl), htg _ (gw_mem (i := 795) (by decide +kernel) rfl)⟩ ⟨hPre.blind, hx_recv hK (ci := 7) rfl h01, hPre.at hB hS hAN⟩ rfl rfl hl.1 rfl (lv_room (Nat.le_of_ble_eq_true rfl)) d_Nm_variant_144 ⟨Nat.le_of_ble_eq_true rfl, Nat.le_of_ble_eq_true rfl⟩) hS (fun locs hS => ?_)
                refine lv_bipush (v := 97) hx hb d_Nm_variant_147 (by decide) ?_
                refine lv_isub (x := (chV ((K 2 0) 0))) (y := 97) hx hb d_Nm_variant_149 ?_
                refine lv_ishl (x := 1) (y := ((chV ((K 2 0) 0)) - 97)) hx hb d_Nm_variant_150 ?_
                refine lv_ior (x := (K 10 j_q 1)) (y := (1 <<< (((chV ((K 2 0) 0)) - 97) &&& 31))) hx hb d_Nm_variant_151 ?_
                refine hx_put (ref := "NameMerges$Name") (ty := .int) (v := .int ((K 10 j_q 1) ||| (1 <<< (((chV ((K 2 0) 0)) - 97) &&& 31)))) hx hb htg iNa tNa tNa_ok nNa hown hK h10 hS (hI.inA (k := 10) (n := j_q) (show nmv z 10 j_q from (show j_q < z 3 0 by omega))) rfl 4 (by decide) (htg _ (gw_mem (i := 661) (by decide +kernel) rfl)) (fun _ h9 => h9) rfl (by decide +kernel) rfl rfl (Nat.le_of_ble_eq_true rfl) d_Nm_variant_152 (fun H locs hat hz ho hS => ?_)
                replace h10 : va_at D vwCl (o 10 j_q, .inr (2, [.ref (o 11 j_q), .ref (o 13 j_q), va_rf (if z 14 j_q = 0 then none else some (o 14 j_q)), .int ((K 10 j_q 0) ||| (1 <<< (lg &&& 31))), .int ((K 10 j_q 1) ||| (1 <<< (((chV ((K 2 0) 0)) - 97) &&& 31))), .int (K 10 j_q 2), .int (K 10 j_q 3)])) H := hat
                replace h00 := hx_keep h00 (ho _ (hI.ne (k := 0) (n := 0) (k' := 10) (n' := j_q) (show nmv z 0 0 from rfl) (show nmv z 10 j_q from (show j_q < z 3 0 by omega)) (Or.inl (by decide))))
                replace h01 := hx_keep h01 (ho _ (hI.ne (k := 1) (n := 0) (k' := 10) (n' := j_q) (show nmv z 1 0 from rfl) (show nmv z 10 j_q from (show j_q < z 3 0 by omega)) (Or.inl (by decide))))
                replace hO16 := hx_keep hO16 (ho _ (show nq9 ≠ o 10 j_q by omega))
                replace hO38 := hx_keep hO38 (ho _ (show dy ≠ o 10 j_q by omega))
                replace hO49 := hx_keep hO49 (ho _ (show vr ≠ o 10 j_q by omega))
                replace hO60 := hx_keep hO60 (ho _ (hI.ne (k := 11) (n := j_q) (k' := 10) (n' := j_q) (show nmv z 11 j_q from (show j_q < z 3 0 by omega)) (show nmv z 10 j_q from (show j_q < z 3 0 by omega)) (Or.inl (by decide))))
                replace hO17 := hx_keep hO17 (ho _ (hI.ne (k := 2) (n := 0) (k' := 10) (n' := j_q) (show nmv z 2 0 from rfl) (show nmv z 10 j_q from (show j_q < z 3 0 by omega)) (Or.inl (by decide))))
                replace hO18 := hx_keep hO18 (ho _ (show nq9 + 1 ≠ o 10 j_q by omega))
                replace hO61 := hx_keep hO61 (ho _ (show nq50 ≠ o 10 j_q by omega))
                replace hF : ∀ k9 n9, nmv z k9 n9 → ¬ (k9 = 1 ∨ k9 = 2 ∨ (n9 = j_q ∧ (k9 = 10 ∨ k9 = 11 ∨ k9 = 12))) → H[o k9 n9]? = s.heap[o k9 n9]? := fun k9 n9 hv9 hx9 => (ho _ (hI0.ne hv9 (show nmv z 10 j_q from (show j_q < z 3 0 by omega)) (by omega))).trans (hF k9 n9 hv9 hx9)
                refine lv_aload_n hx hb d_Nm_variant_155 rfl (lv_at hl 1 rfl) ?_
                refine hx_get (ref := "NameMerges") (v := .ref (o 1 0)) hx hb htg iNm hown hK h00 rfl 0 (by decide) (htg _ (gw_mem (i := 126) (by decide +kernel) rfl)) (fun _ h9 => h9) rfl d_Nm_variant_156 ?_
                refine lv_iconst (v := 0) hx hb d_Nm_variant_159 (by decide) ?_
                obtain ⟨nq63, hnq63⟩ : ∃ z : Nat, z = H.size := ⟨_, rfl⟩
                have hlt_q64 := hx_lt h00
                have hlt_q65 := hx_lt h01
                have hlt_q66 := hx_lt h10
                have hlt_q67 := hx_lt hO16
                have hlt_q68 := hx_lt hO38
                have hlt_q69 := hx_lt hO49
                have hlt_q70 := hx_lt hO60
                have hlt_q71 := hx_lt hO17
                have hlt_q72 := hx_lt hO18
                have hlt_q73 := hx_lt hO61
                refine h_callv (va_runV (As := [.int 0]) (rest := []) ⟨hx, hb, hml, hown, htg⟩ (c_SB_setLength l D cs N0 H (o 1 0) (o 2 0) (z 1 0) nq63 (K 1 0 0) (K 2 0) h01 hO17 hnq63 (hI.ge (k := 1) (n := 0) (show nmv z 1 0 from rfl)) (hI.ne (k := 1) (n := 0) (k' := 2) (n' := 0) (show nmv z 1 0 from rfl) (show nmv z 2 0 from rfl) (Or.inl (by decide))) (by omega)) ⟨x_cwB 1 htg (gw_mem (i := 166) (by decide +kernel) rfl) (gw_mem (i := 32) (by decide +kernel) rfl) (gw_mem (i := 163) (by decide +kernel) rfl) (by decide +kernel) ⟨Nat.le_of_ble_eq_true rfl, Nat.le_of_ble_eq_true rfl⟩, htg _ (gw_mem (i := 164) (by decide +kernel) rfl), htg _ (gw_mem (i := 165) (by decide +kernel) rfl)⟩ ⟨hPre.blind, hx_recv hK (ci := 7) rfl h01, hPre.at hB hS hAN⟩ rfl rfl hl.1 rfl (lv_room (Nat.le_of_ble_eq_true rfl)) d_Nm_variant_160 ⟨Nat.le_of_ble_eq_true rfl, Nat.le_of_ble_eq_true rfl⟩) hS (jA_sub1 (hI.inA (k := 1) (n := 0) (show nmv z 1 0 from rfl)) (fun q9 h9 => Or.inr (show N ≤ q9 by omega))) (fun H locs hp hz hk hS => ?_)
                replace h00 := hx_keep h00 (hk _ hlt_q64 (jA_not1 (hI.ne (k := 0) (n := 0) (k' := 1) (n' := 0) (show nmv z 0 0 from rfl) (show nmv z 1 0 from rfl) (Or.inl (by decide))) (show o 0 0 < nq63 by omega)))
                replace h10 := hx_keep h10 (hk _ hlt_q66 (jA_not1 (hI.ne (k := 10) (n := j_q) (k' := 1) (n' := 0) (show nmv z 10 j_q from (show j_q < z 3 0 by omega)) (show nmv z 1 0 from rfl) (Or.inl (by decide))) (show o 10 j_q < nq63 by omega)))
                replace hO16 := hx_keep hO16 (hk _ hlt_q67 (jA_not1 (show nq9 ≠ o 1 0 by omega) (show nq9 < nq63 by omega)))
                replace hO38 := hx_keep hO38 (hk _ hlt_q68 (jA_not1 (show dy ≠ o 1 0 by omega) (show dy < nq63 by omega)))
                replace hO49 := hx_keep hO49 (hk _ hlt_q69 (jA_not1 (show vr ≠ o 1 0 by omega) (show vr < nq63 by omega)))
                replace hO60 := hx_keep hO60 (hk _ hlt_q70 (jA_not1 (hI.ne (k := 11) (n := j_q) (k' := 1) (n' := 0) (show nmv z 11 j_q from (show j_q < z 3 0 by omega)) (show nmv z 1 0 from rfl) (Or.inl (by decide))) (show o 11 j_q < nq63 by omega)))
                replace hO17 := hx_keep hO17 (hk _ hlt_q71 (jA_not1 (hI.ne (k := 2) (n := 0) (k' := 1) (n' := 0) (show nmv z 2 0 from rfl) (show nmv z 1 0 from rfl) (Or.inl (by decide))) (show o 2 0 < nq63 by omega)))
                replace hO18 := hx_keep hO18 (hk _ hlt_q72 (jA_not1 (show nq9 + 1 ≠ o 1 0 by omega) (show nq9 + 1 < nq63 by omega)))
                replace hO61 := hx_keep hO61 (hk _ hlt_q73 (jA_not1 (show nq50 ≠ o 1 0 by omega) (show nq50 < nq63 by omega)))
                replace hF : ∀ k9 n9, nmv z k9 n9 → ¬ (k9 = 1 ∨ k9 = 2 ∨ (n9 = j_q ∧ (k9 = 10 ∨ k9 = 11 ∨ k9 = 12))) → H[o k9 n9]? = s.heap[o k9 n9]? := fun k9 n9 hv9 hx9 => (hk _ (by have := hIN k9 n9 hv9; omega) (jA_not1 (hI0.ne hv9 (show nmv z 1 0 from rfl) (by omega)) (by have := hIN k9 n9 hv9; omega))).trans (hF k9 n9 hv9 hx9)
                obtain ⟨ml75, hO74⟩ := hp
                refine lv_aload hx hb d_Nm_variant_163 (lv_at hl 0 rfl) ?_
                refine hx_get (ref := "NameMerges$Name") (v := .ref (o 11 j_q)) hx hb htg iNa hown hK h10 rfl 0 (by decide) (htg _ (gw_mem (i := 653) (by decide +kernel) rfl)) (fun _ h9 => h9) rfl d_Nm_variant_165 ?_
                refine h_purei (va_runV (As := []) (rest := []) ⟨hx, hb, hml, hown, htg⟩ (c_AL_size l D cs N0 H (o 11 j_q) nq50 1 mc62 hO60) ⟨x_cwB 0 htg (gw_mem (i := 503) (by decide +kernel) rfl) (gw_mem (i := 37) (by decide +kernel) rfl) (gw_mem (i := 500) (by decide +kernel) rfl) (by decide +kernel) ⟨Nat.le_of_ble_eq_true rfl, Nat.le_of_ble_eq_true rfl⟩, htg _ (gw_mem (i := 501) (by decide +kernel) rfl), htg _ (gw_mem (i := 502) (by decide +kernel) rfl)⟩ ⟨hPre.blind, hx_recv hK (ci := 6) rfl hO60, hPre.at hB hS hAN⟩ rfl rfl hl.1 rfl (lv_room (Nat.le_of_ble_eq_true rfl)) d_Nm_variant_168 ⟨Nat.le_of_ble_eq_true rfl, Nat.le_of_ble_eq_true rfl⟩) hS (fun locs hS => ?_)
                refine t_ret ?_
                exact W.iret (v := 1) hx hb hr (fun t ht hW => Or.inl ⟨some (.int (1)), rfl, (by rw [ht]; exact (by simp only [e_q, tnI (j := j_q) (by omega)]; exact ⟨(by simp [goV, c27, Nat.not_le.mpr c27, c47, c61, Int32.not_lt.mp c61, c67, Int32.not_le.mpr c67, e_q, hq1, hq2, tnI (j := j_q) (by omega)]), (by rw [hcs]; rfl), _, _, _, _, _, _, _, hI0.var (j := j_q) (vr := vr) (sg := nq9) (by9 := nq9 + 1) (dy := dy) (ea := nq50) (ln := z 1 0) (fb := padF z K) (g10 := (fun i => if i = 0 then K 10 j_q 0 ||| (1 : Int32) <<< (lg &&& 31) else if i = 1 then K 10 j_q 1 ||| (1 : Int32) <<< ((chV (K 2 0 0) - 97) &&& 31) else K 10 j_q i)) hIN (by omega) (by omega) (by omega) (by omega) (by omega) (by omega) (by omega) ⟨by omega, by omega, by omega, by omega, by omega, by omega⟩ (Or.inr ⟨by omega, by omega, by omega, by omega, by omega⟩) (by omega) (cpy_sg hI0.2.2.2.1) hO49 hO16 hO18 hO38 (by rw [hcs]; exact hO60) (by rw [el_e hcs]; exact hO61) h10 hO74 hO17 hF⟩)), hS.F ht⟩) hS.2.2 d_Nm_variant_171
              · skip
                have hF : ∀ k9 n9, nmv z k9 n9 → ¬ (k9 = 1 ∨ k9 = 2 ∨ (n9 = j_q ∧ (k9 = 10 ∨ k9 = 11 ∨ k9 = 12))) → H[o k9 n9]? = s.heap[o k9 n9]? := fun k9 n9 _ _ => by rw [hH]
                have hl0 := hIN 0 0 rfl
                have hl1 := hIN 1 0 rfl
                have hl2 := hIN 2 0 rfl
                have hl10 := hIN 10 j_q (show j_q < z 3 0 by omega)
                have hl11 := hIN 11 j_q (show j_q < z 3 0 by omega)
                have h00 : va_at D vwCl (o 0 0, .inr (1, [.ref (o 1 0), .ref (o 3 0), .ref (o 5 0), .ref (o 7 0), .ref (o 8 0), .int (nI (z 0 0)), .int (K 0 0 0), .ref (o 9 0)])) H := hI.at (k := 0) (n := 0) (show nmv z 0 0 from rfl)
                have h01 : va_at D vwCl (o 1 0, .inr (7, [.ref (o 2 0), .int 0, .int (K 1 0 0), .int (nI (z 1 0))])) H := hI.at (k := 1) (n := 0) (show nmv z 1 0 from rfl)
                have h10 : va_at D vwCl (o 10 j_q, .inr (2, [.ref (o 11 j_q), .ref (o 13 j_q), va_rf (if z 14 j_q = 0 then none else some (o 14 j_q)), .int (K 10 j_q 0), .int (K 10 j_q 1), .int (K 10 j_q 2), .int (K 10 j_q 3)])) H := hI.at (k := 10) (n := j_q) (show nmv z 10 j_q from (show j_q < z 3 0 by omega))
                have h02 : va_at D vwCl (o 2 0, .inl (cs 2, (16, .inl (K 2 0)))) H := hI.at (k := 2) (n := 0) rfl
                have h11 : va_at D vwCl (o 11 j_q, .inr (6, [.ref (o 12 j_q), .int (nI (z 11 j_q)), .int (K 11 j_q 0)])) H := nm_list (hI.at (k := 11) (n := j_q) (show j_q < z 3 0 by omega)) hcs
                have h12 : va_at D vwCl (o 12 j_q, .inl (cs 4, (10, .inr (.inr (.inr (.inr (fun i => if i < z 11 j_q then some (o 15 (j_q * 4 + i)) else none))))))) H := hI.at (k := 12) (n := j_q) ⟨by omega, hcs⟩
                have hl12 := hIN 12 j_q ⟨by omega, hcs⟩
                replace hS := x_wk (A' := (nmA r N)) hS (fun _ h9 => h9.elim)
                obtain ⟨vr, hvr⟩ : ∃ z : Nat, z = H.size := ⟨_, rfl⟩
                have hlt_q77 : o 0 0 < vr := hvr ▸ hx_lt h00
                have hlt_q78 : o 1 0 < vr := hvr ▸ hx_lt h01
                have hlt_q79 : o 10 j_q < vr := hvr ▸ hx_lt h10
                have hlt_q80 : o 11 j_q < vr := hvr ▸ hx_lt h11
                have hlt_q81 : o 2 0 < vr := hvr ▸ hx_lt h02
                have hlt_q82 : o 12 j_q < vr := hvr ▸ hx_lt h12
                refine hx_new hx hb htg iVa tVa tVa_ok hown (htg _ (gw_mem (i := 545) (by decide +kernel) rfl)) (htg _ (gw_mem (i := 763) (by decide +kernel) rfl)) (htg _ (gw_mem (i := 56) (by decide +kernel) rfl)) hK hS (ci := 3) rfl (fs := [.null, .null]) (by decide +kernel) (Nat.le_of_ble_eq_true rfl) (Nat.le_of_ble_eq_true rfl) d_Nm_variant_91 (fun H hat hz ho hS => ?_)
                rw [← hvr] at hat hz ho
                rw [← hvr]
                have hO76 : va_at D vwCl (vr, .inr (3, [.null, .null])) H := hat
                replace h00 := hx_keep h00 (ho _ (by omega))
                replace h01 := hx_keep h01 (ho _ (by omega))
                replace h10 := hx_keep h10 (ho _ (by omega))
                replace h11 := hx_keep h11 (ho _ (by omega))
                replace h02 := hx_keep h02 (ho _ (by omega))
                replace h12 := hx_keep h12 (ho _ (by omega))
                replace hF : ∀ k9 n9, nmv z k9 n9 → ¬ (k9 = 1 ∨ k9 = 2 ∨ (n9 = j_q ∧ (k9 = 10 ∨ k9 = 11 ∨ k9 = 12))) → H[o k9 n9]? = s.heap[o k9 n9]? := fun k9 n9 hv9 hx9 => (ho _ (by have := hIN k9 n9 hv9; omega)).trans (hF k9 n9 hv9 hx9)
                refine lv_dup hx hb d_Nm_variant_94 rfl ?_
                refine lv_aload_n hx hb d_Nm_variant_95 rfl (lv_at hl 1 rfl) ?_
                refine hx_get (ref := "NameMerges") (v := .ref (o 1 0)) hx hb htg iNm hown hK h00 rfl 0 (by decide) (htg _ (gw_mem (i := 126) (by decide +kernel) rfl)) (fun _ h9 => h9) rfl d_Nm_variant_96 ?_
                obtain ⟨nq83, hnq83⟩ : ∃ z : Nat, z = H.size := ⟨_, rfl⟩
                have hlt_q84 := hx_lt h00
                have hlt_q85 := hx_lt h01
                have hlt_q86 := hx_lt h10
                have hlt_q87 := hx_lt h11
                have hlt_q88 := hx_lt hO76
                have hlt_q89 := hx_lt h02
                have hlt_q90 := hx_lt h12
                refine h_callq (va_runV (As := []) (rest := [.ref vr, .ref vr, .ref (o 11 j_q)]) ⟨hx, hb, hml, hown, htg⟩ (c_SB_toString l D cs N0 H (o 1 0) (o 2 0) (z 1 0) nq83 (K 1 0 0) (K 2 0) h01 h02 hnq83 (hI.ge (k := 2) (n := 0) (show nmv z 2 0 from rfl)) (hI.ne (k := 1) (n := 0) (k' := 2) (n' := 0) (show nmv z 1 0 from rfl) (show nmv z 2 0 from rfl) (Or.inl (by decide))) (by omega) (fun i9 h9 => sgN_fit (hI.2.2.2.1 i9 h9))) ⟨x_cwB 0 htg (gw_mem (i := 326) (by decide +kernel) rfl) (gw_mem (i := 32) (by decide +kernel) rfl) (gw_mem (i := 764) (by decide +kernel) rfl) (by decide +kernel) ⟨Nat.le_of_ble_eq_true rfl, Nat.le_of_ble_eq_true rfl⟩, htg _ (gw_mem (i := 324) (by decide +kernel) rfl), htg _ (gw_mem (i := 325) (by decide +kernel) rfl)⟩ ⟨hPre.blind, hx_recv hK (ci := 7) rfl h01, hPre.at hB hS hAN⟩ rfl rfl hl.1 rfl (lv_room (Nat.le_of_ble_eq_true rfl)) d_Nm_variant_99 ⟨Nat.le_of_ble_eq_true rfl, Nat.le_of_ble_eq_true rfl⟩) hS (jA_sub1 (hI.inA (k := 2) (n := 0) (show nmv z 2 0 from rfl)) (fun q9 h9 => Or.inr (show N ≤ q9 by omega))) (fun r99 H locs hp hz hk hS => ?_)
                replace h00 := hx_keep h00 (hk _ hlt_q84 (jA_not1 (hI.ne (k := 0) (n := 0) (k' := 2) (n' := 0) (show nmv z 0 0 from rfl) (show nmv z 2 0 from rfl) (Or.inl (by decide))) (show o 0 0 < nq83 by omega)))
                replace h01 := hx_keep h01 (hk _ hlt_q85 (jA_not1 (hI.ne (k := 1) (n := 0) (k' := 2) (n' := 0) (show nmv z 1 0 from rfl) (show nmv z 2 0 from rfl) (Or.inl (by decide))) (show o 1 0 < nq83 by omega)))
                replace h10 := hx_keep h10 (hk _ hlt_q86 (jA_not1 (hI.ne (k := 10) (n := j_q) (k' := 2) (n' := 0) (show nmv z 10 j_q from (show j_q < z 3 0 by omega)) (show nmv z 2 0 from rfl) (Or.inl (by decide))) (show o 10 j_q < nq83 by omega)))
                replace h11 := hx_keep h11 (hk _ hlt_q87 (jA_not1 (hI.ne (k := 11) (n := j_q) (k' := 2) (n' := 0) (show nmv z 11 j_q from (show j_q < z 3 0 by omega)) (show nmv z 2 0 from rfl) (Or.inl (by decide))) (show o 11 j_q < nq83 by omega)))
                replace hO76 := hx_keep hO76 (hk _ hlt_q88 (jA_not1 (show vr ≠ o 2 0 by omega) (show vr < nq83 by omega)))
                replace h12 := hx_keep h12 (hk _ hlt_q90 (jA_not1 (hI.ne (k := 12) (n := j_q) (k' := 2) (n' := 0) (show nmv z 12 j_q from ⟨by omega, by omega⟩) (show nmv z 2 0 from rfl) (Or.inl (by decide))) (show o 12 j_q < nq83 by omega)))
                replace hF : ∀ k9 n9, nmv z k9 n9 → ¬ (k9 = 1 ∨ k9 = 2 ∨ (n9 = j_q ∧ (k9 = 10 ∨ k9 = 11 ∨ k9 = 12))) → H[o k9 n9]? = s.heap[o k9 n9]? := fun k9 n9 hv9 hx9 => (hk _ (by have := hIN k9 n9 hv9; omega) (jA_not1 (hI0.ne hv9 (show nmv z 2 0 from rfl) (by omega)) (by have := hIN k9 n9 hv9; omega))).trans (hF k9 n9 hv9 hx9)
                obtain ⟨hr9, hO91, hO92, hO93⟩ := hp
                subst hr9
                refine lv_eqv (y := .ref nq83) rfl ?_
                obtain ⟨dy, hdy⟩ : ∃ z : Nat, z = H.size := ⟨_, rfl⟩
                have hlt_q95 : o 0 0 < dy := hdy ▸ hx_lt h00
                have hlt_q96 : o 1 0 < dy := hdy ▸ hx_lt h01
                have hlt_q97 : o 10 j_q < dy := hdy ▸ hx_lt h10
                have hlt_q98 : o 11 j_q < dy := hdy ▸ hx_lt h11
                have hlt_q99 : vr < dy := hdy ▸ hx_lt hO76
                have hlt_q100 : nq83 < dy := hdy ▸ hx_lt hO91
                have hlt_q101 : o 12 j_q < dy := hdy ▸ hx_lt h12
                have hlt_q102 : o 2 0 < dy := hdy ▸ hx_lt hO92
                have hlt_q103 : nq83 + 1 < dy := hdy ▸ hx_lt hO93
                refine hx_new hx hb htg iDa tDa tDa_ok hown (htg _ (gw_mem (i := 765) (by decide +kernel) rfl)) (htg _ (gw_mem (i := 766) (by decide +kernel) rfl)) (htg _ (gw_mem (i := 57) (by decide +kernel) rfl)) hK hS (ci := 4) rfl (fs := [.int 0, .int 0]) (by decide +kernel) (Nat.le_of_ble_eq_true rfl) (Nat.le_of_ble_eq_true rfl) d_Nm_variant_102 (fun H hat hz ho hS => ?_)
                rw [← hdy] at hat hz ho
                rw [← hdy]
                have hO94 : va_at D vwCl (dy, .inr (4, [.int 0, .int 0])) H := hat
                replace h00 := hx_keep h00 (ho _ (by omega))
                replace h01 := hx_keep h01 (ho _ (by omega))
                replace h10 := hx_keep h10 (ho _ (by omega))
                replace h11 := hx_keep h11 (ho _ (by omega))
                replace hO76 := hx_keep hO76 (ho _ (by omega))
                replace hO91 := hx_keep hO91 (ho _ (by omega))
                replace h12 := hx_keep h12 (ho _ (by omega))
                replace hO92 := hx_keep hO92 (ho _ (by omega))
                replace hO93 := hx_keep hO93 (ho _ (by omega))
                replace hF : ∀ k9 n9, nmv z k9 n9 → ¬ (k9 = 1 ∨ k9 = 2 ∨ (n9 = j_q ∧ (k9 = 10 ∨ k9 = 11 ∨ k9 = 12))) → H[o k9 n9]? = s.heap[o k9 n9]? := fun k9 n9 hv9 hx9 => (ho _ (by have := hIN k9 n9 hv9; omega)).trans (hF k9 n9 hv9 hx9)
                refine lv_dup hx hb d_Nm_variant_105 rfl ?_
                refine lv_iload_n hx hb d_Nm_variant_106 rfl (lv_at hl 4 rfl) ?_
                refine lv_iload hx hb d_Nm_variant_107 (lv_at hl 5 rfl) ?_
                obtain ⟨nq104, hnq104⟩ : ∃ z : Nat, z = H.size := ⟨_, rfl⟩
                have hlt_q105 := hx_lt h00
                have hlt_q106 := hx_lt h01
                have hlt_q107 := hx_lt h10
                have hlt_q108 := hx_lt h11
                have hlt_q109 := hx_lt hO76
                have hlt_q110 := hx_lt hO91
                have hlt_q111 := hx_lt hO94
                have hlt_q112 := hx_lt h12
                have hlt_q113 := hx_lt hO92
                have hlt_q114 := hx_lt hO93
                refine h_callv (va_runI (As := [.int fr, .int tw]) (rest := [.ref dy, .ref nq83, .ref vr, .ref vr, .ref (o 11 j_q)]) ⟨hx, hb, hml, hown, htg⟩ (c_Da_init l D cs N0 H dy nq104 fr tw hO94 hnq104 (by omega)) ⟨x_cwB 2 htg (gw_mem (i := 769) (by decide +kernel) rfl) (gw_mem (i := 57) (by decide +kernel) rfl) (gw_mem (i := 767) (by decide +kernel) rfl) (by decide +kernel) ⟨Nat.le_of_ble_eq_true rfl, Nat.le_of_ble_eq_true rfl⟩, rfl, htg _ (gw_mem (i := 768) (by decide +kernel) rfl)⟩ ⟨hPre.blind, hPre.at hB hS hAN⟩ rfl rfl hl.1 rfl (lv_room (Nat.le_of_ble_eq_true rfl)) d_Nm_variant_109 ⟨Nat.le_of_ble_eq_true rfl, Nat.le_of_ble_eq_true rfl⟩) hS (jA_sub1 (Or.inr (show N ≤ dy by omega)) (fun q9 h9 => Or.inr (show N ≤ q9 by omega))) (fun H locs hp hz hk hS => ?_)
                replace h00 := hx_keep h00 (hk _ hlt_q105 (jA_not1 (show o 0 0 ≠ dy by omega) (show o 0 0 < nq104 by omega)))
                replace h01 := hx_keep h01 (hk _ hlt_q106 (jA_not1 (show o 1 0 ≠ dy by omega) (show o 1 0 < nq104 by omega)))
                replace h10 := hx_keep h10 (hk _ hlt_q107 (jA_not1 (show o 10 j_q ≠ dy by omega) (show o 10 j_q < nq104 by omega)))
                replace h11 := hx_keep h11 (hk _ hlt_q108 (jA_not1 (show o 11 j_q ≠ dy by omega) (show o 11 j_q < nq104 by omega)))
                replace hO76 := hx_keep hO76 (hk _ hlt_q109 (jA_not1 (show vr ≠ dy by omega) (show vr < nq104 by omega)))
                replace hO91 := hx_keep hO91 (hk _ hlt_q110 (jA_not1 (show nq83 ≠ dy by omega) (show nq83 < nq104 by omega)))
                replace h12 := hx_keep h12 (hk _ hlt_q112 (jA_not1 (show o 12 j_q ≠ dy by omega) (show o 12 j_q < nq104 by omega)))
                replace hO92 := hx_keep hO92 (hk _ hlt_q113 (jA_not1 (show o 2 0 ≠ dy by omega) (show o 2 0 < nq104 by omega)))
                replace hO93 := hx_keep hO93 (hk _ hlt_q114 (jA_not1 (show nq83 + 1 ≠ dy by omega) (show nq83 + 1 < nq104 by omega)))
                replace hF : ∀ k9 n9, nmv z k9 n9 → ¬ (k9 = 1 ∨ k9 = 2 ∨ (n9 = j_q ∧ (k9 = 10 ∨ k9 = 11 ∨ k9 = 12))) → H[o k9 n9]? = s.heap[o k9 n9]? := fun k9 n9 hv9 hx9 => (hk _ (by have := hIN k9 n9 hv9; omega) (jA_not1 (by have := hIN k9 n9 hv9; omega) (by have := hIN k9 n9 hv9; omega))).trans (hF k9 n9 hv9 hx9)
                have hO115 := hp
                obtain ⟨nq116, hnq116⟩ : ∃ z : Nat, z = H.size := ⟨_, rfl⟩
                have hlt_q117 := hx_lt h00
                have hlt_q118 := hx_lt h01
                have hlt_q119 := hx_lt h10
                have hlt_q120 := hx_lt h11
                have hlt_q121 := hx_lt hO76
                have hlt_q122 := hx_lt hO91
                have hlt_q123 := hx_lt hO115
                have hlt_q124 := hx_lt h12
                have hlt_q125 := hx_lt hO92
                have hlt_q126 := hx_lt hO93
                refine h_callv (va_runI (As := [.ref nq83, .ref dy]) (rest := [.ref vr, .ref (o 11 j_q)]) ⟨hx, hb, hml, hown, htg⟩ (c_Va_init l D cs N0 H vr nq116 nq83 dy hO76 hnq116 (by omega)) ⟨x_cwB 2 htg (gw_mem (i := 782) (by decide +kernel) rfl) (gw_mem (i := 56) (by decide +kernel) rfl) (gw_mem (i := 780) (by decide +kernel) rfl) (by decide +kernel) ⟨Nat.le_of_ble_eq_true rfl, Nat.le_of_ble_eq_true rfl⟩, rfl, htg _ (gw_mem (i := 781) (by decide +kernel) rfl)⟩ ⟨hPre.blind, hPre.at hB hS hAN⟩ rfl rfl hl.1 rfl (lv_room (Nat.le_of_ble_eq_true rfl)) d_Nm_variant_112 ⟨Nat.le_of_ble_eq_true rfl, Nat.le_of_ble_eq_true rfl⟩) hS (jA_sub1 (Or.inr (show N ≤ vr by omega)) (fun q9 h9 => Or.inr (show N ≤ q9 by omega))) (fun H locs hp hz hk hS => ?_)
                replace h00 := hx_keep h00 (hk _ hlt_q117 (jA_not1 (show o 0 0 ≠ vr by omega) (show o 0 0 < nq116 by omega)))
                replace h01 := hx_keep h01 (hk _ hlt_q118 (jA_not1 (show o 1 0 ≠ vr by omega) (show o 1 0 < nq116 by omega)))
                replace h10 := hx_keep h10 (hk _ hlt_q119 (jA_not1 (show o 10 j_q ≠ vr by omega) (show o 10 j_q < nq116 by omega)))
                replace h11 := hx_keep h11 (hk _ hlt_q120 (jA_not1 (show o 11 j_q ≠ vr by omega) (show o 11 j_q < nq116 by omega)))
                replace hO91 := hx_keep hO91 (hk _ hlt_q122 (jA_not1 (show nq83 ≠ vr by omega) (show nq83 < nq116 by omega)))
                replace hO115 := hx_keep hO115 (hk _ hlt_q123 (jA_not1 (show dy ≠ vr by omega) (show dy < nq116 by omega)))
                replace h12 := hx_keep h12 (hk _ hlt_q124 (jA_not1 (show o 12 j_q ≠ vr by omega) (show o 12 j_q < nq116 by omega)))
                replace hO92 := hx_keep hO92 (hk _ hlt_q125 (jA_not1 (show o 2 0 ≠ vr by omega) (show o 2 0 < nq116 by omega)))
                replace hO93 := hx_keep hO93 (hk _ hlt_q126 (jA_not1 (show nq83 + 1 ≠ vr by omega) (show nq83 + 1 < nq116 by omega)))
                replace hF : ∀ k9 n9, nmv z k9 n9 → ¬ (k9 = 1 ∨ k9 = 2 ∨ (n9 = j_q ∧ (k9 = 10 ∨ k9 = 11 ∨ k9 = 12))) → H[o k9 n9]? = s.heap[o k9 n9]? := fun k9 n9 hv9 hx9 => (hk _ (by have := hIN k9 n9 hv9; omega) (jA_not1 (by have := hIN k9 n9 hv9; omega) (by have := hIN k9 n9 hv9; omega))).trans (hF k9 n9 hv9 hx9)
                have hO127 := hp
                obtain ⟨nq128, hnq128⟩ : ∃ z : Nat, z = H.size := ⟨_, rfl⟩
                have hlt_q129 := hx_lt h00
                have hlt_q130 := hx_lt h01
                have hlt_q131 := hx_lt h10
                have hlt_q132 := hx_lt h11
                have hlt_q133 := hx_lt hO91
                have hlt_q134 := hx_lt hO115
                have hlt_q135 := hx_lt hO127
                have hlt_q136 := hx_lt h12
                have hlt_q137 := hx_lt hO92
                have hlt_q138 := hx_lt hO93
                refine h_calli (va_runV (As := [.ref vr]) (rest := []) ⟨hx, hb, hml, hown, htg⟩ (c_AL_add_r l D cs N0 H (o 11 j_q) (o 12 j_q) 10 (z 11 j_q) nq128 3 vr (K 11 j_q 0) _ (fun i => if i < z 11 j_q then some (o 15 (j_q * 4 + i)) else none) h11 h12 hnq128 (hI.ge (k := 11) (n := j_q) (show nmv z 11 j_q from (show j_q < z 3 0 by omega))) (hI.ge (k := 12) (n := j_q) (show nmv z 12 j_q from ⟨by omega, by omega⟩)) (hI.ne (k := 11) (n := j_q) (k' := 12) (n' := j_q) (show nmv z 11 j_q from (show j_q < z 3 0 by omega)) (show nmv z 12 j_q from ⟨by omega, by omega⟩) (Or.inl (by decide))) rfl (by decide) (by omega) (by omega) ⟨_, hO127⟩ (show vr ≠ o 11 j_q by omega) (show vr ≠ o 12 j_q by omega)) ⟨x_cwB 1 htg (gw_mem (i := 684) (by decide +kernel) rfl) (gw_mem (i := 37) (by decide +kernel) rfl) (gw_mem (i := 681) (by decide +kernel) rfl) (by decide +kernel) ⟨Nat.le_of_ble_eq_true rfl, Nat.le_of_ble_eq_true rfl⟩, htg _ (gw_mem (i := 682) (by decide +kernel) rfl), htg _ (gw_mem (i := 683) (by decide +kernel) rfl)⟩ ⟨hPre.blind, hx_recv hK (ci := 6) rfl h11, hPre.at hB hS hAN⟩ rfl rfl hl.1 rfl (lv_room (Nat.le_of_ble_eq_true rfl)) d_Nm_variant_115 ⟨Nat.le_of_ble_eq_true rfl, Nat.le_of_ble_eq_true rfl⟩) hS (jA_sub2 (hI.inA (k := 11) (n := j_q) (show nmv z 11 j_q from (show j_q < z 3 0 by omega))) (hI.inA (k := 12) (n := j_q) (show nmv z 12 j_q from ⟨by omega, by omega⟩)) (fun q9 h9 => Or.inr (show N ≤ q9 by omega))) (fun r115 H locs hp hz hk hS => ?_)
                replace h00 := hx_keep h00 (hk _ hlt_q129 (jA_not2 (hI.ne (k := 0) (n := 0) (k' := 11) (n' := j_q) (show nmv z 0 0 from rfl) (show nmv z 11 j_q from (show j_q < z 3 0 by omega)) (Or.inl (by decide))) (hI.ne (k := 0) (n := 0) (k' := 12) (n' := j_q) (show nmv z 0 0 from rfl) (show nmv z 12 j_q from ⟨by omega, by omega⟩) (Or.inl (by decide))) (show o 0 0 < nq128 by omega)))
                replace h01 := hx_keep h01 (hk _ hlt_q130 (jA_not2 (hI.ne (k := 1) (n := 0) (k' := 11) (n' := j_q) (show nmv z 1 0 from rfl) (show nmv z 11 j_q from (show j_q < z 3 0 by omega)) (Or.inl (by decide))) (hI.ne (k := 1) (n := 0) (k' := 12) (n' := j_q) (show nmv z 1 0 from rfl) (show nmv z 12 j_q from ⟨by omega, by omega⟩) (Or.inl (by decide))) (show o 1 0 < nq128 by omega)))
                replace h10 := hx_keep h10 (hk _ hlt_q131 (jA_not2 (hI.ne (k := 10) (n := j_q) (k' := 11) (n' := j_q) (show nmv z 10 j_q from (show j_q < z 3 0 by omega)) (show nmv z 11 j_q from (show j_q < z 3 0 by omega)) (Or.inl (by decide))) (hI.ne (k := 10) (n := j_q) (k' := 12) (n' := j_q) (show nmv z 10 j_q from (show j_q < z 3 0 by omega)) (show nmv z 12 j_q from ⟨by omega, by omega⟩) (Or.inl (by decide))) (show o 10 j_q < nq128 by omega)))
                replace hO91 := hx_keep hO91 (hk _ hlt_q133 (jA_not2 (show nq83 ≠ o 11 j_q by omega) (show nq83 ≠ o 12 j_q by omega) (show nq83 < nq128 by omega)))
                replace hO115 := hx_keep hO115 (hk _ hlt_q134 (jA_not2 (show dy ≠ o 11 j_q by omega) (show dy ≠ o 12 j_q by omega) (show dy < nq128 by omega)))
                replace hO127 := hx_keep hO127 (hk _ hlt_q135 (jA_not2 (show vr ≠ o 11 j_q by omega) (show vr ≠ o 12 j_q by omega) (show vr < nq128 by omega)))
                replace hO92 := hx_keep hO92 (hk _ hlt_q137 (jA_not2 (hI.ne (k := 2) (n := 0) (k' := 11) (n' := j_q) (show nmv z 2 0 from rfl) (show nmv z 11 j_q from (show j_q < z 3 0 by omega)) (Or.inl (by decide))) (hI.ne (k := 2) (n := 0) (k' := 12) (n' := j_q) (show nmv z 2 0 from rfl) (show nmv z 12 j_q from ⟨by omega, by omega⟩) (Or.inl (by decide))) (show o 2 0 < nq128 by omega)))
                replace hO93 := hx_keep hO93 (hk _ hlt_q138 (jA_not2 (show nq83 + 1 ≠ o 11 j_q by omega) (show nq83 + 1 ≠ o 12 j_q by omega) (show nq83 + 1 < nq128 by omega)))
                replace hF : ∀ k9 n9, nmv z k9 n9 → ¬ (k9 = 1 ∨ k9 = 2 ∨ (n9 = j_q ∧ (k9 = 10 ∨ k9 = 11 ∨ k9 = 12))) → H[o k9 n9]? = s.heap[o k9 n9]? := fun k9 n9 hv9 hx9 => (hk _ (by have := hIN k9 n9 hv9; omega) (jA_not2 (hI0.ne hv9 (show nmv z 11 j_q from (show j_q < z 3 0 by omega)) (by omega)) (hI0.ne hv9 (show nmv z 12 j_q from ⟨by omega, by omega⟩) (by omega)) (by have := hIN k9 n9 hv9; omega))).trans (hF k9 n9 hv9 hx9)
                obtain ⟨hr9, mc141, hO139, hO140⟩ := hp
                subst hr9
                refine lv_pop hx hb d_Nm_variant_118 rfl ?_
                refine lv_aload hx hb d_Nm_variant_119 (lv_at hl 0 rfl) ?_
                refine lv_dup hx hb d_Nm_variant_121 rfl ?_
                refine hx_get (ref := "NameMerges$Name") (v := .int (K 10 j_q 0)) hx hb htg iNa hown hK h10 rfl 3 (by decide) (htg _ (gw_mem (i := 659) (by decide +kernel) rfl)) (fun _ h9 => h9) rfl d_Nm_variant_122 ?_
                refine lv_iconst (v := 1) hx hb d_Nm_variant_125 (by decide) ?_
                refine lv_iload_n hx hb d_Nm_variant_126 rfl (lv_at hl 3 rfl) ?_
                refine lv_ishl (x := 1) (y := lg) hx hb d_Nm_variant_127 ?_
                refine lv_ior (x := (K 10 j_q 0)) (y := (1 <<< (lg &&& 31))) hx hb d_Nm_variant_128 ?_
                refine hx_put (ref := "NameMerges$Name") (ty := .int) (v := .int ((K 10 j_q 0) ||| (1 <<< (lg &&& 31)))) hx hb htg iNa tNa tNa_ok nNa hown hK h10 hS (hI.inA (k := 10) (n := j_q) (show nmv z 10 j_q from (show j_q < z 3 0 by omega))) rfl 3 (by decide) (htg _ (gw_mem (i := 659) (by decide +kernel) rfl)) (fun _ h9 => h9) rfl (by decide +kernel) rfl rfl (Nat.le_of_ble_eq_true rfl) d_Nm_variant_129 (fun H locs hat hz ho hS => ?_)
                replace h10 : va_at D vwCl (o 10 j_q, .inr (2, [.ref (o 11 j_q), .ref (o 13 j_q), va_rf (if z 14 j_q = 0 then none else some (o 14 j_q)), .int ((K 10 j_q 0) ||| (1 <<< (lg &&& 31))), .int (K 10 j_q 1), .int (K 10 j_q 2), .int (K 10 j_q 3)])) H := hat
                replace h00 := hx_keep h00 (ho _ (hI.ne (k := 0) (n := 0) (k' := 10) (n' := j_q) (show nmv z 0 0 from rfl) (show nmv z 10 j_q from (show j_q < z 3 0 by omega)) (Or.inl (by decide))))
                replace h01 := hx_keep h01 (ho _ (hI.ne (k := 1) (n := 0) (k' := 10) (n' := j_q) (show nmv z 1 0 from rfl) (show nmv z 10 j_q from (show j_q < z 3 0 by omega)) (Or.inl (by decide))))
                replace hO91 := hx_keep hO91 (ho _ (show nq83 ≠ o 10 j_q by omega))
                replace hO115 := hx_keep hO115 (ho _ (show dy ≠ o 10 j_q by omega))
                replace hO127 := hx_keep hO127 (ho _ (show vr ≠ o 10 j_q by omega))
                replace hO139 := hx_keep hO139 (ho _ (hI.ne (k := 11) (n := j_q) (k' := 10) (n' := j_q) (show nmv z 11 j_q from (show j_q < z 3 0 by omega)) (show nmv z 10 j_q from (show j_q < z 3 0 by omega)) (Or.inl (by decide))))
                replace hO92 := hx_keep hO92 (ho _ (hI.ne (k := 2) (n := 0) (k' := 10) (n' := j_q) (show nmv z 2 0 from rfl) (show nmv z 10 j_q from (show j_q < z 3 0 by omega)) (Or.inl (by decide))))
                replace hO93 := hx_keep hO93 (ho _ (show nq83 + 1 ≠ o 10 j_q by omega))
                replace hO140 := hx_keep hO140 (ho _ (hI.ne (k := 12) (n := j_q) (k' := 10) (n' := j_q) (show nmv z 12 j_q from ⟨by omega, by omega⟩) (show nmv z 10 j_q from (show j_q < z 3 0 by omega)) (Or.inl (by decide))))
                replace hF : ∀ k9 n9, nmv z k9 n9 → ¬ (k9 = 1 ∨ k9 = 2 ∨ (n9 = j_q ∧ (k9 = 10 ∨ k9 = 11 ∨ k9 = 12))) → H[o k9 n9]? = s.heap[o k9 n9]? := fun k9 n9 hv9 hx9 => (ho _ (hI0.ne hv9 (show nmv z 10 j_q from (show j_q < z 3 0 by omega)) (by omega))).trans (hF k9 n9 hv9 hx9)
                refine lv_aload hx hb d_Nm_variant_132 (lv_at hl 0 rfl) ?_
                refine lv_dup hx hb d_Nm_variant_134 rfl ?_
                refine hx_get (ref := "NameMerges$Name") (v := .int (K 10 j_q 1)) hx hb htg iNa hown hK h10 rfl 4 (by decide) (htg _ (gw_mem (i := 661) (by decide +kernel) rfl)) (fun _ h9 => h9) rfl d_Nm_variant_135 ?_
                refine lv_iconst (v := 1) hx hb d_Nm_variant_138 (by decide) ?_
                refine lv_aload_n hx hb d_Nm_variant_139 rfl (lv_at hl 1 rfl) ?_
                refine hx_get (ref := "NameMerges") (v := .ref (o 1 0)) hx hb htg iNm hown hK h00 rfl 0 (by decide) (htg _ (gw_mem (i := 126) (by decide +kernel) rfl)) (fun _ h9 => h9) rfl d_Nm_variant_140 ?_
                refine lv_iconst (v := 0) hx hb d_Nm_variant_143 (by decide) ?_
                refine h_purei (va_runV (As := [.int 0]) (rest := [.int 1, .int (K 10 j_q 1), .ref (o 10 j_q)]) ⟨hx, hb, hml, hown, htg⟩ (c_SB_charAt l D cs N0 H (o 1 0) (o 2 0) (z 1 0) 0 (K 1 0 0) ((K 2 0)) h01 hO92 (by omega) (by omega)) ⟨x_cwB 1 htg (gw_mem (i := 796) (by decide +kernel) rfl) (gw_mem (i := 32) (by decide +kernel) rfl) (gw_mem (i := 793) (by decide +kernel) rfl) (by decide +kernel) ⟨Nat.le_of_ble_eq_true rfl, Nat.le_of_ble_eq_true rfl⟩, htg _ (gw_mem (i := 794) (by decide +kernel) rfl), htg _ (gw_mem (i := 795) (by decide +kernel) rfl)⟩ ⟨hPre.blind, hx_recv hK (ci := 7) rfl h01, hPre.at hB hS hAN⟩ rfl rfl hl.1 rfl (lv_room (Nat.le_of_ble_eq_true rfl)) d_Nm_variant_144 ⟨Nat.le_of_ble_eq_true rfl, Nat.le_of_ble_eq_true rfl⟩) hS (fun locs hS => ?_)
                refine lv_bipush (v := 97) hx hb d_Nm_variant_147 (by decide) ?_
                refine lv_isub (x := (chV ((K 2 0) 0))) (y := 97) hx hb d_Nm_variant_149 ?_
                refine lv_ishl (x := 1) (y := ((chV ((K 2 0) 0)) - 97)) hx hb d_Nm_variant_150 ?_
                refine lv_ior (x := (K 10 j_q 1)) (y := (1 <<< (((chV ((K 2 0) 0)) - 97) &&& 31))) hx hb d_Nm_variant_151 ?_
                refine hx_put (ref := "NameMerges$Name") (ty := .int) (v := .int ((K 10 j_q 1) ||| (1 <<< (((chV ((K 2 0) 0)) - 97) &&& 31)))) hx hb htg iNa tNa tNa_ok nNa hown hK h10 hS (hI.inA (k := 10) (n := j_q) (show nmv z 10 j_q from (show j_q < z 3 0 by omega))) rfl 4 (by decide) (htg _ (gw_mem (i := 661) (by decide +kernel) rfl)) (fun _ h9 => h9) rfl (by decide +kernel) rfl rfl (Nat.le_of_ble_eq_true rfl) d_Nm_variant_152 (fun H locs hat hz ho hS => ?_)
                replace h10 : va_at D vwCl (o 10 j_q, .inr (2, [.ref (o 11 j_q), .ref (o 13 j_q), va_rf (if z 14 j_q = 0 then none else some (o 14 j_q)), .int ((K 10 j_q 0) ||| (1 <<< (lg &&& 31))), .int ((K 10 j_q 1) ||| (1 <<< (((chV ((K 2 0) 0)) - 97) &&& 31))), .int (K 10 j_q 2), .int (K 10 j_q 3)])) H := hat
                replace h00 := hx_keep h00 (ho _ (hI.ne (k := 0) (n := 0) (k' := 10) (n' := j_q) (show nmv z 0 0 from rfl) (show nmv z 10 j_q from (show j_q < z 3 0 by omega)) (Or.inl (by decide))))
                replace h01 := hx_keep h01 (ho _ (hI.ne (k := 1) (n := 0) (k' := 10) (n' := j_q) (show nmv z 1 0 from rfl) (show nmv z 10 j_q from (show j_q < z 3 0 by omega)) (Or.inl (by decide))))
                replace hO91 := hx_keep hO91 (ho _ (show nq83 ≠ o 10 j_q by omega))
                replace hO115 := hx_keep hO115 (ho _ (show dy ≠ o 10 j_q by omega))
                replace hO127 := hx_keep hO127 (ho _ (show vr ≠ o 10 j_q by omega))
                replace hO139 := hx_keep hO139 (ho _ (hI.ne (k := 11) (n := j_q) (k' := 10) (n' := j_q) (show nmv z 11 j_q from (show j_q < z 3 0 by omega)) (show nmv z 10 j_q from (show j_q < z 3 0 by omega)) (Or.inl (by decide))))
                replace hO92 := hx_keep hO92 (ho _ (hI.ne (k := 2) (n := 0) (k' := 10) (n' := j_q) (show nmv z 2 0 from rfl) (show nmv z 10 j_q from (show j_q < z 3 0 by omega)) (Or.inl (by decide))))
                replace hO93 := hx_keep hO93 (ho _ (show nq83 + 1 ≠ o 10 j_q by omega))
                replace hO140 := hx_keep hO140 (ho _ (hI.ne (k := 12) (n := j_q) (k' := 10) (n' := j_q) (show nmv z 12 j_q from ⟨by omega, by omega⟩) (show nmv z 10 j_q from (show j_q < z 3 0 by omega)) (Or.inl (by decide))))
                replace hF : ∀ k9 n9, nmv z k9 n9 → ¬ (k9 = 1 ∨ k9 = 2 ∨ (n9 = j_q ∧ (k9 = 10 ∨ k9 = 11 ∨ k9 = 12))) → H[o k9 n9]? = s.heap[o k9 n9]? := fun k9 n9 hv9 hx9 => (ho _ (hI0.ne hv9 (show nmv z 10 j_q from (show j_q < z 3 0 by omega)) (by omega))).trans (hF k9 n9 hv9 hx9)
                refine lv_aload_n hx hb d_Nm_variant_155 rfl (lv_at hl 1 rfl) ?_
                refine hx_get (ref := "NameMerges") (v := .ref (o 1 0)) hx hb htg iNm hown hK h00 rfl 0 (by decide) (htg _ (gw_mem (i := 126) (by decide +kernel) rfl)) (fun _ h9 => h9) rfl d_Nm_variant_156 ?_
                refine lv_iconst (v := 0) hx hb d_Nm_variant_159 (by decide) ?_
                obtain ⟨nq142, hnq142⟩ : ∃ z : Nat, z = H.size := ⟨_, rfl⟩
                have hlt_q143 := hx_lt h00
                have hlt_q144 := hx_lt h01
                have hlt_q145 := hx_lt h10
                have hlt_q146 := hx_lt hO91
                have hlt_q147 := hx_lt hO115
                have hlt_q148 := hx_lt hO127
                have hlt_q149 := hx_lt hO139
                have hlt_q150 := hx_lt hO92
                have hlt_q151 := hx_lt hO93
                have hlt_q152 := hx_lt hO140
                refine h_callv (va_runV (As := [.int 0]) (rest := []) ⟨hx, hb, hml, hown, htg⟩ (c_SB_setLength l D cs N0 H (o 1 0) (o 2 0) (z 1 0) nq142 (K 1 0 0) (K 2 0) h01 hO92 hnq142 (hI.ge (k := 1) (n := 0) (show nmv z 1 0 from rfl)) (hI.ne (k := 1) (n := 0) (k' := 2) (n' := 0) (show nmv z 1 0 from rfl) (show nmv z 2 0 from rfl) (Or.inl (by decide))) (by omega)) ⟨x_cwB 1 htg (gw_mem (i := 166) (by decide +kernel) rfl) (gw_mem (i := 32) (by decide +kernel) rfl) (gw_mem (i := 163) (by decide +kernel) rfl) (by decide +kernel) ⟨Nat.le_of_ble_eq_true rfl, Nat.le_of_ble_eq_true rfl⟩, htg _ (gw_mem (i := 164) (by decide +kernel) rfl), htg _ (gw_mem (i := 165) (by decide +kernel) rfl)⟩ ⟨hPre.blind, hx_recv hK (ci := 7) rfl h01, hPre.at hB hS hAN⟩ rfl rfl hl.1 rfl (lv_room (Nat.le_of_ble_eq_true rfl)) d_Nm_variant_160 ⟨Nat.le_of_ble_eq_true rfl, Nat.le_of_ble_eq_true rfl⟩) hS (jA_sub1 (hI.inA (k := 1) (n := 0) (show nmv z 1 0 from rfl)) (fun q9 h9 => Or.inr (show N ≤ q9 by omega))) (fun H locs hp hz hk hS => ?_)
                replace h00 := hx_keep h00 (hk _ hlt_q143 (jA_not1 (hI.ne (k := 0) (n := 0) (k' := 1) (n' := 0) (show nmv z 0 0 from rfl) (show nmv z 1 0 from rfl) (Or.inl (by decide))) (show o 0 0 < nq142 by omega)))
                replace h10 := hx_keep h10 (hk _ hlt_q145 (jA_not1 (hI.ne (k := 10) (n := j_q) (k' := 1) (n' := 0) (show nmv z 10 j_q from (show j_q < z 3 0 by omega)) (show nmv z 1 0 from rfl) (Or.inl (by decide))) (show o 10 j_q < nq142 by omega)))
                replace hO91 := hx_keep hO91 (hk _ hlt_q146 (jA_not1 (show nq83 ≠ o 1 0 by omega) (show nq83 < nq142 by omega)))
                replace hO115 := hx_keep hO115 (hk _ hlt_q147 (jA_not1 (show dy ≠ o 1 0 by omega) (show dy < nq142 by omega)))
                replace hO127 := hx_keep hO127 (hk _ hlt_q148 (jA_not1 (show vr ≠ o 1 0 by omega) (show vr < nq142 by omega)))
                replace hO139 := hx_keep hO139 (hk _ hlt_q149 (jA_not1 (hI.ne (k := 11) (n := j_q) (k' := 1) (n' := 0) (show nmv z 11 j_q from (show j_q < z 3 0 by omega)) (show nmv z 1 0 from rfl) (Or.inl (by decide))) (show o 11 j_q < nq142 by omega)))
                replace hO92 := hx_keep hO92 (hk _ hlt_q150 (jA_not1 (hI.ne (k := 2) (n := 0) (k' := 1) (n' := 0) (show nmv z 2 0 from rfl) (show nmv z 1 0 from rfl) (Or.inl (by decide))) (show o 2 0 < nq142 by omega)))
                replace hO93 := hx_keep hO93 (hk _ hlt_q151 (jA_not1 (show nq83 + 1 ≠ o 1 0 by omega) (show nq83 + 1 < nq142 by omega)))
                replace hO140 := hx_keep hO140 (hk _ hlt_q152 (jA_not1 (hI.ne (k := 12) (n := j_q) (k' := 1) (n' := 0) (show nmv z 12 j_q from ⟨by omega, by omega⟩) (show nmv z 1 0 from rfl) (Or.inl (by decide))) (show o 12 j_q < nq142 by omega)))
                replace hF : ∀ k9 n9, nmv z k9 n9 → ¬ (k9 = 1 ∨ k9 = 2 ∨ (n9 = j_q ∧ (k9 = 10 ∨ k9 = 11 ∨ k9 = 12))) → H[o k9 n9]? = s.heap[o k9 n9]? := fun k9 n9 hv9 hx9 => (hk _ (by have := hIN k9 n9 hv9; omega) (jA_not1 (hI0.ne hv9 (show nmv z 1 0 from rfl) (by omega)) (by have := hIN k9 n9 hv9; omega))).trans (hF k9 n9 hv9 hx9)
                obtain ⟨ml154, hO153⟩ := hp
                refine lv_aload hx hb d_Nm_variant_163 (lv_at hl 0 rfl) ?_
                refine hx_get (ref := "NameMerges$Name") (v := .ref (o 11 j_q)) hx hb htg iNa hown hK h10 rfl 0 (by decide) (htg _ (gw_mem (i := 653) (by decide +kernel) rfl)) (fun _ h9 => h9) rfl d_Nm_variant_165 ?_
                refine h_purei (va_runV (As := []) (rest := []) ⟨hx, hb, hml, hown, htg⟩ (c_AL_size l D cs N0 H (o 11 j_q) (o 12 j_q) (z 11 j_q + 1) mc141 hO139) ⟨x_cwB 0 htg (gw_mem (i := 503) (by decide +kernel) rfl) (gw_mem (i := 37) (by decide +kernel) rfl) (gw_mem (i := 500) (by decide +kernel) rfl) (by decide +kernel) ⟨Nat.le_of_ble_eq_true rfl, Nat.le_of_ble_eq_true rfl⟩, htg _ (gw_mem (i := 501) (by decide +kernel) rfl), htg _ (gw_mem (i := 502) (by decide +kernel) rfl)⟩ ⟨hPre.blind, hx_recv hK (ci := 6) rfl hO139, hPre.at hB hS hAN⟩ rfl rfl hl.1 rfl (lv_room (Nat.le_of_ble_eq_true rfl)) d_Nm_variant_168 ⟨Nat.le_of_ble_eq_true rfl, Nat.le_of_ble_eq_true rfl⟩) hS (fun locs hS => ?_)
                refine t_ret ?_
                refine W.widen (k := 9) (n := 58) (Nat.le_of_ble_eq_true rfl) (Nat.le_of_ble_eq_true rfl) ?_
                exact W.iret (v := (nI (z 11 j_q + 1))) hx hb hr (fun t ht hW => Or.inl ⟨some (.int ((nI (z 11 j_q + 1)))), rfl, (by rw [ht]; exact (by simp only [e_q, tnI (j := j_q) (by omega)]; exact ⟨(by simp [goV, c27, Nat.not_le.mpr c27, c47, c61, Int32.not_lt.mp c61, c67, Int32.not_le.mpr c67, e_q, hq1, hq2, tnI (j := j_q) (by omega)]), (by first | trivial | rfl), _, _, _, _, _, _, _, hI0.var (j := j_q) (vr := vr) (sg := nq83) (by9 := nq83 + 1) (dy := dy) (ea := o 12 j_q) (ln := z 1 0) (fb := padF z K) (g10 := (fun i => if i = 0 then K 10 j_q 0 ||| (1 : Int32) <<< (lg &&& 31) else if i = 1 then K 10 j_q 1 ||| (1 : Int32) <<< ((chV (K 2 0 0) - 97) &&& 31) else K 10 j_q i)) hIN (by omega) (by omega) (by omega) (by omega) (by omega) (by omega) (by omega) ⟨by omega, by omega, by omega, by omega, by omega, by omega⟩ (Or.inl ⟨rfl, hcs⟩) (by omega) (cpy_sg hI0.2.2.2.1) hO127 hO91 hO93 hO115 hO139 hO140 h10 hO153 hO92 hF⟩)), hS.F ht⟩) hS.2.2 d_Nm_variant_171
          · skip
            have hnil := noL hS.2.2
            first | subst hnil | skip
            exact t_throw (A := (nmA r N)) (text := "there is no such language") (names := exUp) hx hb hl9 hown (by decide) (by decide) (htg _ (gw_mem (i := 621) (by decide +kernel) rfl)) (htg _ (gw_mem (i := 43) (by decide +kernel) rfl)) (zStr (q := ("NameMerges", 93, "there is no such language")) hB (by decide)) (fun a ha => zOk_before htg hB (List.all_eq_true.mp own_iae a ha)) hS.1 (hl.1.trans hml.symm) d_Nm_variant_70 d_Nm_variant_73 d_Nm_variant_74 d_Nm_variant_76 d_Nm_variant_79 hno (Nat.le_of_ble_eq_true rfl) (Nat.le_of_ble_eq_true rfl) (Nat.le_of_ble_eq_true rfl) (Nat.le_of_ble_eq_true rfl) hlocks (Or.inr (Or.inr (⟨rfl, by simp [goV, c27, Nat.not_le.mpr c27, c47, c61, Int32.not_lt.mp c61, c67, Int32.not_lt.mp c67, e_q, hq1, tnI (j := j_q) (by omega)]⟩))) (Nat.le_of_ble_eq_true rfl) (Nat.le_of_ble_eq_true rfl)
      · skip
        replace c47 : (z 1 0) = 0 := (nI_eq (a := (z 1 0)) (b := 0) (by omega) (by omega)).mp c47
        have hnil := noL hS.2.2
        first | subst hnil | skip
        exact t_throw (A := (nmA r N)) (text := "the pad is empty") (names := exUp) hx hb hl9 hown (by decide) (by decide) (htg _ (gw_mem (i := 605) (by decide +kernel) rfl)) (htg _ (gw_mem (i := 42) (by decide +kernel) rfl)) (zStr (q := ("NameMerges", 91, "the pad is empty")) hB (by decide)) (fun a ha => zOk_before htg hB (List.all_eq_true.mp own_ise a ha)) hS.1 (hl.1.trans hml.symm) d_Nm_variant_50 d_Nm_variant_53 d_Nm_variant_54 d_Nm_variant_56 d_Nm_variant_59 hno (Nat.le_of_ble_eq_true rfl) (Nat.le_of_ble_eq_true rfl) (Nat.le_of_ble_eq_true rfl) (Nat.le_of_ble_eq_true rfl) hlocks (Or.inr (Or.inl ⟨rfl, by simp [goV, c27, Nat.not_le.mpr c27, c47, e_q, hq1, tnI (j := j_q) (by omega)]⟩)) (Nat.le_of_ble_eq_true rfl) (Nat.le_of_ble_eq_true rfl)
    · skip
      replace c27 : ¬ ((z 11 j_q) < 4) := fun z9 => c27 ((nI_ltI (a := (z 11 j_q)) (b := 4) (by omega) (by omega)).mpr z9)
      have hnil := noL hS.2.2
      first | subst hnil | skip
      exact t_throw (A := (nmA r N)) (text := "the name has as many variants as it may have") (names := exUp) hx hb hl9 hown (by decide) (by decide) (htg _ (gw_mem (i := 605) (by decide +kernel) rfl)) (htg _ (gw_mem (i := 42) (by decide +kernel) rfl)) (zStr (q := ("NameMerges", 89, "the name has as many variants as it may have")) hB (by decide)) (fun a ha => zOk_before htg hB (List.all_eq_true.mp own_ise a ha)) hS.1 (hl.1.trans hml.symm) d_Nm_variant_30 d_Nm_variant_33 d_Nm_variant_34 d_Nm_variant_36 d_Nm_variant_39 hno (Nat.le_of_ble_eq_true rfl) (Nat.le_of_ble_eq_true rfl) (Nat.le_of_ble_eq_true rfl) (Nat.le_of_ble_eq_true rfl) hlocks (Or.inr (Or.inl ⟨rfl, by simp [goV, c27, Nat.not_lt.mp c27, e_q, hq1, tnI (j := j_q) (by omega)]⟩)) (Nat.le_of_ble_eq_true rfl) (Nat.le_of_ble_eq_true rfl)
