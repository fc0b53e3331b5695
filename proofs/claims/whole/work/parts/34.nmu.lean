theorem pad_sg {f : Nat → Int32} {n : Nat} {x : Int32} (h : ∀ j, j < n → sgN (f j)) (hx : sgN x) : ∀ j, j < n + 1 → sgN (upd f n x j) := by
  intro j hj
  by_cases h8 : j = n
  · rw [h8, upd_self]
    exact hx
  · rw [upd_ne h8]
    exact h j (by omega)
def y_Nm_unit : MethodName := ⟨"NameMerges", "unit", "(I)I"⟩
abbrev w_Nm_unit : List Cond := Cond.code y_Nm_unit prog_1_method_2_code 2 (Option.some Jvm.ClassFile.FieldType.int) :: gw
theorem d_Nm_unit_0 : decode prog_1_method_2_code 0 = .ok (.aload_n 0, 1) := by decide +kernel
theorem d_Nm_unit_1 : decode prog_1_method_2_code 1 = .ok (.getfield 12, 3) := by decide +kernel
theorem d_Nm_unit_4 : decode prog_1_method_2_code 4 = .ok (.invokevirtual 43, 3) := by decide +kernel
theorem d_Nm_unit_7 : decode prog_1_method_2_code 7 = .ok (.bipush 12, 2) := by decide +kernel
theorem d_Nm_unit_9 : decode prog_1_method_2_code 9 = .ok (.if_icmp .lt 13, 3) := by decide +kernel
theorem d_Nm_unit_12 : decode prog_1_method_2_code 12 = .ok (.new 47, 3) := by decide +kernel
theorem d_Nm_unit_15 : decode prog_1_method_2_code 15 = .ok (.dup, 1) := by decide +kernel
theorem d_Nm_unit_16 : decode prog_1_method_2_code 16 = .ok (.ldc 49, 2) := by decide +kernel
theorem d_Nm_unit_18 : decode prog_1_method_2_code 18 = .ok (.invokespecial 51, 3) := by decide +kernel
theorem d_Nm_unit_21 : decode prog_1_method_2_code 21 = .ok (.athrow, 1) := by decide +kernel
theorem d_Nm_unit_22 : decode prog_1_method_2_code 22 = .ok (.iload_n 1, 1) := by decide +kernel
theorem d_Nm_unit_23 : decode prog_1_method_2_code 23 = .ok (.bipush 97, 2) := by decide +kernel
theorem d_Nm_unit_25 : decode prog_1_method_2_code 25 = .ok (.if_icmp .lt 9, 3) := by decide +kernel
theorem d_Nm_unit_28 : decode prog_1_method_2_code 28 = .ok (.iload_n 1, 1) := by decide +kernel
theorem d_Nm_unit_29 : decode prog_1_method_2_code 29 = .ok (.bipush 122, 2) := by decide +kernel
theorem d_Nm_unit_31 : decode prog_1_method_2_code 31 = .ok (.if_icmp .le 13, 3) := by decide +kernel
theorem d_Nm_unit_34 : decode prog_1_method_2_code 34 = .ok (.new 54, 3) := by decide +kernel
theorem d_Nm_unit_37 : decode prog_1_method_2_code 37 = .ok (.dup, 1) := by decide +kernel
theorem d_Nm_unit_38 : decode prog_1_method_2_code 38 = .ok (.ldc 56, 2) := by decide +kernel
theorem d_Nm_unit_40 : decode prog_1_method_2_code 40 = .ok (.invokespecial 58, 3) := by decide +kernel
theorem d_Nm_unit_43 : decode prog_1_method_2_code 43 = .ok (.athrow, 1) := by decide +kernel
theorem d_Nm_unit_44 : decode prog_1_method_2_code 44 = .ok (.aload_n 0, 1) := by decide +kernel
theorem d_Nm_unit_45 : decode prog_1_method_2_code 45 = .ok (.getfield 12, 3) := by decide +kernel
theorem d_Nm_unit_48 : decode prog_1_method_2_code 48 = .ok (.iload_n 1, 1) := by decide +kernel
theorem d_Nm_unit_49 : decode prog_1_method_2_code 49 = .ok (.i2c, 1) := by decide +kernel
theorem d_Nm_unit_50 : decode prog_1_method_2_code 50 = .ok (.invokevirtual 59, 3) := by decide +kernel
theorem d_Nm_unit_53 : decode prog_1_method_2_code 53 = .ok (.pop, 1) := by decide +kernel
theorem d_Nm_unit_54 : decode prog_1_method_2_code 54 = .ok (.aload_n 0, 1) := by decide +kernel
theorem d_Nm_unit_55 : decode prog_1_method_2_code 55 = .ok (.getfield 12, 3) := by decide +kernel
theorem d_Nm_unit_58 : decode prog_1_method_2_code 58 = .ok (.invokevirtual 43, 3) := by decide +kernel
theorem d_Nm_unit_61 : decode prog_1_method_2_code 61 = .ok (.ireturn, 1) := by decide +kernel
set_option maxHeartbeats 4000000 in
set_option maxRecDepth 100000 in
theorem c_Nm_unit (l : Launch) (D : va_G) (cs : Nat → ClassId) (N0 : Nat) (H : Heap) (hl9 : l.stackTraces = false) (o z : Nat → Nat → Nat) (K : Nat → Nat → Nat → Int32) (r : Nat → Nat × Nat) (N : Nat) (q : Int32) (hI : nmP D cs N0 H o z K r) (hN : N = H.size) : tMet l y_Nm_unit w_Nm_unit ({ frames := 6, cells := 1, slots := 6, locals := 82 }) (hPre D cs N0 [.ref (o 0 0), .int q] H) (hT (fun v H' => goV (decide (z 1 0 < 12)) (isSg q) true = 0 ∧ v = some (.int (nI (z 1 0 + 1))) ∧ nmP D cs N0 H' o (upZ z 1 0 (z 1 0 + 1)) (upK (upK K 1 0 (fun _ => K 1 0 0)) 2 0 (upd (K 2 0) (z 1 0) q)) r) (fun E => (E = "java/lang/IllegalStateException" ∧ goV (decide (z 1 0 < 12)) (isSg q) true = 1) ∨ (E = "java/lang/IllegalArgumentException" ∧ goV (decide (z 1 0 < 12)) (isSg q) true = 2)) (nmA r N)) 1 6 (nmA r N) := by
  refine tMet.ofW (cc := prog_1_method_2_code) (maxL := 2) (ret := (Option.some Jvm.ClassFile.FieldType.int)) (by decide) rfl ?_
  intro p e s m args below meth c s₁ B hml hno hv
  obtain ⟨rfl, rfl, hB⟩ := hv
  have hx := B.exec
  have hb := B.bytes
  have hr := B.returns
  have hts := atoms_spec (ws := w_Nm_unit) B.pre
  have htg : ∀ w ∈ gw, w.before _ s = true := fun w h => hts w (List.mem_cons_of_mem _ h)
  have hown : s.vm.findClass "NameMerges" = some m.cls := findClass_of_methodNamed B.named
  have hlocks := B.notSynchronized
  have hAN : ∀ q, nmA r N q → N0 ≤ q := fun q9 h9 => h9.elim (hI.2.1 q9) (fun h9 => Nat.le_trans hB.2.1 (hN ▸ h9))
  have hK := hB.1
  obtain ⟨H, hH⟩ : ∃ z : Heap, z = s.heap := ⟨_, rfl⟩
  have hz0 : H.size = s.heap.size := by rw [hH]
  have hN0 := hB.2.1
  rw [← hH] at hI
  have hS : va_S noA s.heap H [] := by rw [hH]; exact va_S.rf
  have hl := lv_entry ([.ref (o 0 0), .int q]) (n := 2) (Nat.le_of_ble_eq_true rfl)
  rw [lg_entry_eq, ← hH]
  generalize (lg_sl ([.ref (o 0 0), .int q]) ++ List.replicate (2 - (lg_sl ([.ref (o 0 0), .int q])).length) Slot.unset).toArray = ls at hl ⊢
  have hl : lv_has ls 2 [(0, .ref (o 0 0)), (1, .int q)] := hl
  obtain ⟨hb0, hb1, hb3, hb5, hb4, hb6, hb11, hb17⟩ := hI.2.2.1
  have h00 : va_at D vwCl (o 0 0, .inr (1, [.ref (o 1 0), .ref (o 3 0), .ref (o 5 0), .ref (o 7 0), .ref (o 8 0), .int (nI (z 0 0)), .int (K 0 0 0), .ref (o 9 0)])) H := hI.at (k := 0) (n := 0) rfl
  have h01 : va_at D vwCl (o 1 0, .inr (7, [.ref (o 2 0), .int 0, .int (K 1 0 0), .int (nI (z 1 0))])) H := hI.at (k := 1) (n := 0) rfl
  have h02 : va_at D vwCl (o 2 0, .inl (cs 2, (16, .inl (K 2 0)))) H := hI.at (k := 2) (n := 0) rfl
  refine lv_aload_n hx hb d_Nm_unit_0 rfl (lv_at hl 0 rfl) ?_
  refine hx_get (ref := "NameMerges") (v := .ref (o 1 0)) hx hb htg iNm hown hK h00 rfl 0 (by decide) (htg _ (gw_mem (i := 126) (by decide +kernel) rfl)) (fun _ h9 => h9) rfl d_Nm_unit_1 ?_
  refine h_purei (va_runV (As := []) (rest := []) ⟨hx, hb, hml, hown, htg⟩ (c_SB_length l D cs N0 H (o 1 0) (o 2 0) (z 1 0) (K 1 0 0) h01) ⟨x_cwB 0 htg (gw_mem (i := 159) (by decide +kernel) rfl) (gw_mem (i := 32) (by decide +kernel) rfl) (gw_mem (i := 156) (by decide +kernel) rfl) (by decide +kernel) ⟨Nat.le_of_ble_eq_true rfl, Nat.le_of_ble_eq_true rfl⟩, htg _ (gw_mem (i := 157) (by decide +kernel) rfl), htg _ (gw_mem (i := 158) (by decide +kernel) rfl)⟩ ⟨hPre.blind, hx_recv hK (ci := 7) rfl h01, hPre.at hB hS noA_in⟩ rfl rfl hl.1 rfl (lv_room (Nat.le_of_ble_eq_true rfl)) d_Nm_unit_4 ⟨Nat.le_of_ble_eq_true rfl, Nat.le_of_ble_eq_true rfl⟩) hS (fun locs hS => ?_)
  refine lv_bipush (v := 12) hx hb d_Nm_unit_7 (by decide) ?_
  refine lv_icmp_lt (x := (nI (z 1 0))) (y := 12) (tgt := 22) hx hb d_Nm_unit_9 (by decide) (fun c9 => ?_) (fun c9 => ?_)
  · skip
    replace c9 : (z 1 0) < 12 := (nI_ltI (a := (z 1 0)) (b := 12) (by omega) (by omega)).mp c9
    refine lv_iload_n hx hb d_Nm_unit_22 rfl (lv_at hl 1 rfl) ?_
    refine lv_bipush (v := 97) hx hb d_Nm_unit_23 (by decide) ?_
    refine lv_icmp_lt (x := q) (y := 97) (tgt := 34) hx hb d_Nm_unit_25 (by decide) (fun c25 => ?_) (fun c25 => ?_)
    · skip
      have hnil := noL hS.2.2
      first | subst hnil | skip
      exact t_throw (A := (nmA r N)) (text := "this is no sign") (names := exUp) hx hb hl9 hown (by decide) (by decide) (htg _ (gw_mem (i := 621) (by decide +kernel) rfl)) (htg _ (gw_mem (i := 43) (by decide +kernel) rfl)) (zStr (q := ("NameMerges", 56, "this is no sign")) hB (by decide)) (fun a ha => zOk_before htg hB (List.all_eq_true.mp own_iae a ha)) hS.1 (hl.1.trans hml.symm) d_Nm_unit_34 d_Nm_unit_37 d_Nm_unit_38 d_Nm_unit_40 d_Nm_unit_43 hno (Nat.le_of_ble_eq_true rfl) (Nat.le_of_ble_eq_true rfl) (Nat.le_of_ble_eq_true rfl) (Nat.le_of_ble_eq_true rfl) hlocks (Or.inr (⟨rfl, by simp [goV, isSg, c9, c25, Int32.not_le.mpr c25]⟩)) (Nat.le_of_ble_eq_true rfl) (Nat.le_of_ble_eq_true rfl)
    · skip
      refine lv_iload_n hx hb d_Nm_unit_28 rfl (lv_at hl 1 rfl) ?_
      refine lv_bipush (v := 122) hx hb d_Nm_unit_29 (by decide) ?_
      refine lv_icmp_le (x := q) (y := 122) (tgt := 44) hx hb d_Nm_unit_31 (by decide) (fun c31 => ?_) (fun c31 => ?_)
      · skip
        refine lv_aload_n hx hb d_Nm_unit_44 rfl (lv_at hl 0 rfl) ?_
        refine hx_get (ref := "NameMerges") (v := .ref (o 1 0)) hx hb htg iNm hown hK h00 rfl 0 (by decide) (htg _ (gw_mem (i := 126) (by decide +kernel) rfl)) (fun _ h9 => h9) rfl d_Nm_unit_45 ?_
        have hsg : isSg q = true := by simp [isSg, c9, c25, Int32.not_lt.mp c25, c31, Int32.not_lt.mpr c31]
        obtain ⟨j_q, hj_q, e_q⟩ := sg_of hsg
        refine lv_iload_n hx hb d_Nm_unit_48 rfl (lv_at hl 1 rfl) ?_
        refine lv_eqi (y := (nI j_q)) e_q ?_
        refine lv_i2c (x := (nI j_q)) (v := (nI j_q)) hx hb d_Nm_unit_49 (x_i2c j_q (by omega)) ?_
        replace hS := x_wk (A' := (nmA r N)) hS (fun _ h9 => h9.elim)
        obtain ⟨nq1, hnq1⟩ : ∃ z : Nat, z = H.size := ⟨_, rfl⟩
        have hlt_q2 := hx_lt h00
        have hlt_q3 := hx_lt h01
        have hlt_q4 := hx_lt h02
        refine h_callq (va_runV (As := [.int (nI j_q)]) (rest := []) ⟨hx, hb, hml, hown, htg⟩ (c_SB_append l D cs N0 H (o 1 0) (o 2 0) (z 1 0) nq1 j_q (K 1 0 0) (K 2 0) h01 h02 hnq1 (hI.ge (k := 1) (n := 0) (show nmv z 1 0 from rfl)) (hI.ge (k := 2) (n := 0) (show nmv z 2 0 from rfl)) (hI.ne (k := 1) (n := 0) (k' := 2) (n' := 0) (show nmv z 1 0 from rfl) (show nmv z 2 0 from rfl) (Or.inl (by decide))) (by omega) (by omega)) ⟨x_cwB 1 htg (gw_mem (i := 627) (by decide +kernel) rfl) (gw_mem (i := 32) (by decide +kernel) rfl) (gw_mem (i := 624) (by decide +kernel) rfl) (by decide +kernel) ⟨Nat.le_of_ble_eq_true rfl, Nat.le_of_ble_eq_true rfl⟩, htg _ (gw_mem (i := 625) (by decide +kernel) rfl), htg _ (gw_mem (i := 626) (by decide +kernel) rfl)⟩ ⟨hPre.blind, hx_recv hK (ci := 7) rfl h01, hPre.at hB hS hAN⟩ rfl rfl hl.1 rfl (lv_room (Nat.le_of_ble_eq_true rfl)) d_Nm_unit_50 ⟨Nat.le_of_ble_eq_true rfl, Nat.le_of_ble_eq_true rfl⟩) hS (jA_sub2 (hI.inA (k := 1) (n := 0) (show nmv z 1 0 from rfl)) (hI.inA (k := 2) (n := 0) (show nmv z 2 0 from rfl)) (fun q9 h9 => Or.inr (show N ≤ q9 by omega))) (fun r50 H locs hp hz hk hS => ?_)
        replace h00 := hx_keep h00 (hk _ hlt_q2 (jA_not2 (hI.ne (k := 0) (n := 0) (k' := 1) (n' := 0) (show nmv z 0 0 from rfl) (show nmv z 1 0 from rfl) (Or.inl (by decide))) (hI.ne (k := 0) (n := 0) (k' := 2) (n' := 0) (show nmv z 0 0 from rfl) (show nmv z 2 0 from rfl) (Or.inl (by decide))) (show o 0 0 < nq1 by omega)))
        obtain ⟨hr9, hO5, hO6⟩ := hp
        subst hr9
        refine lv_eqv (y := .ref (o 1 0)) rfl ?_
        refine lv_pop hx hb d_Nm_unit_53 rfl ?_
        refine lv_aload_n hx hb d_Nm_unit_54 rfl (lv_at hl 0 rfl) ?_
        refine hx_get (ref := "NameMerges") (v := .ref (o 1 0)) hx hb htg iNm hown hK h00 rfl 0 (by decide) (htg _ (gw_mem (i := 126) (by decide +kernel) rfl)) (fun _ h9 => h9) rfl d_Nm_unit_55 ?_
        refine h_purei (va_runV (As := []) (rest := []) ⟨hx, hb, hml, hown, htg⟩ (c_SB_length l D cs N0 H (o 1 0) (o 2 0) (z 1 0 + 1) (K 1 0 0) hO5) ⟨x_cwB 0 htg (gw_mem (i := 159) (by decide +kernel) rfl) (gw_mem (i := 32) (by decide +kernel) rfl) (gw_mem (i := 156) (by decide +kernel) rfl) (by decide +kernel) ⟨Nat.le_of_ble_eq_true rfl, Nat.le_of_ble_eq_true rfl⟩, htg _ (gw_mem (i := 157) (by decide +kernel) rfl), htg _ (gw_mem (i := 158) (by decide +kernel) rfl)⟩ ⟨hPre.blind, hx_recv hK (ci := 7) rfl hO5, hPre.at hB hS hAN⟩ rfl rfl hl.1 rfl (lv_room (Nat.le_of_ble_eq_true rfl)) d_Nm_unit_58 ⟨Nat.le_of_ble_eq_true rfl, Nat.le_of_ble_eq_true rfl⟩) hS (fun locs hS => ?_)
        refine t_ret ?_
        refine W.widen (k := 1) (n := 6) (Nat.le_of_ble_eq_true rfl) (Nat.le_of_ble_eq_true rfl) ?_
        exact W.iret (v := (nI (z 1 0 + 1))) hx hb hr (fun t ht hW => Or.inl ⟨some (.int ((nI (z 1 0 + 1)))), rfl, (by rw [ht]; exact ⟨(by simp [goV, isSg, c9, c25, Int32.not_lt.mp c25, c31, Int32.not_lt.mpr c31]), rfl, by rw [e_q]; exact hI.pad hO5 hO6 (fun q9 h7 h8 h9 => hk q9 h7 (jA_not2 h8 h9 (by omega))) (by omega) (pad_sg hI.2.2.2.1 ⟨j_q, hj_q.1, hj_q.2, rfl⟩)⟩), hS.F ht⟩) hS.2.2 d_Nm_unit_61
      · skip
        have hnil := noL hS.2.2
        first | subst hnil | skip
        exact t_throw (A := (nmA r N)) (text := "this is no sign") (names := exUp) hx hb hl9 hown (by decide) (by decide) (htg _ (gw_mem (i := 621) (by decide +kernel) rfl)) (htg _ (gw_mem (i := 43) (by decide +kernel) rfl)) (zStr (q := ("NameMerges", 56, "this is no sign")) hB (by decide)) (fun a ha => zOk_before htg hB (List.all_eq_true.mp own_iae a ha)) hS.1 (hl.1.trans hml.symm) d_Nm_unit_34 d_Nm_unit_37 d_Nm_unit_38 d_Nm_unit_40 d_Nm_unit_43 hno (Nat.le_of_ble_eq_true rfl) (Nat.le_of_ble_eq_true rfl) (Nat.le_of_ble_eq_true rfl) (Nat.le_of_ble_eq_true rfl) hlocks (Or.inr (⟨rfl, by simp [goV, isSg, c9, c25, Int32.not_lt.mp c25, c31, Int32.not_le.mp c31]⟩)) (Nat.le_of_ble_eq_true rfl) (Nat.le_of_ble_eq_true rfl)
  · skip
    replace c9 : ¬ ((z 1 0) < 12) := fun z9 => c9 ((nI_ltI (a := (z 1 0)) (b := 12) (by omega) (by omega)).mpr z9)
    have hnil := noL hS.2.2
    first | subst hnil | skip
    exact t_throw (A := (nmA r N)) (text := "the pad is full") (names := exUp) hx hb hl9 hown (by decide) (by decide) (htg _ (gw_mem (i := 605) (by decide +kernel) rfl)) (htg _ (gw_mem (i := 42) (by decide +kernel) rfl)) (zStr (q := ("NameMerges", 49, "the pad is full")) hB (by decide)) (fun a ha => zOk_before htg hB (List.all_eq_true.mp own_ise a ha)) hS.1 (hl.1.trans hml.symm) d_Nm_unit_12 d_Nm_unit_15 d_Nm_unit_16 d_Nm_unit_18 d_Nm_unit_21 hno (Nat.le_of_ble_eq_true rfl) (Nat.le_of_ble_eq_true rfl) (Nat.le_of_ble_eq_true rfl) (Nat.le_of_ble_eq_true rfl) hlocks (Or.inl ⟨rfl, by simp [goV, isSg, c9]⟩) (Nat.le_of_ble_eq_true rfl) (Nat.le_of_ble_eq_true rfl)
def y_Nm_clear : MethodName := ⟨"NameMerges", "clear", "()I"⟩
abbrev w_Nm_clear : List Cond := Cond.code y_Nm_clear prog_1_method_3_code 2 (Option.some Jvm.ClassFile.FieldType.int) :: gw
theorem d_Nm_clear_0 : decode prog_1_method_3_code 0 = .ok (.aload_n 0, 1) := by decide +kernel
theorem d_Nm_clear_1 : decode prog_1_method_3_code 1 = .ok (.getfield 12, 3) := by decide +kernel
theorem d_Nm_clear_4 : decode prog_1_method_3_code 4 = .ok (.invokevirtual 43, 3) := by decide +kernel
theorem d_Nm_clear_7 : decode prog_1_method_3_code 7 = .ok (.istore_n 1, 1) := by decide +kernel
theorem d_Nm_clear_8 : decode prog_1_method_3_code 8 = .ok (.aload_n 0, 1) := by decide +kernel
theorem d_Nm_clear_9 : decode prog_1_method_3_code 9 = .ok (.getfield 12, 3) := by decide +kernel
theorem d_Nm_clear_12 : decode prog_1_method_3_code 12 = .ok (.iconst 0, 1) := by decide +kernel
theorem d_Nm_clear_13 : decode prog_1_method_3_code 13 = .ok (.invokevirtual 63, 3) := by decide +kernel
theorem d_Nm_clear_16 : decode prog_1_method_3_code 16 = .ok (.iload_n 1, 1) := by decide +kernel
theorem d_Nm_clear_17 : decode prog_1_method_3_code 17 = .ok (.ireturn, 1) := by decide +kernel
set_option maxHeartbeats 4000000 in
set_option maxRecDepth 100000 in
theorem c_Nm_clear (l : Launch) (D : va_G) (cs : Nat → ClassId) (N0 : Nat) (H : Heap) (o z : Nat → Nat → Nat) (K : Nat → Nat → Nat → Int32) (r : Nat → Nat × Nat) (N : Nat) (hI : nmP D cs N0 H o z K r) (hN : N = H.size) : Met l y_Nm_clear w_Nm_clear ({ frames := 3, cells := 0, slots := 0, locals := 64 }) (hPre D cs N0 [.ref (o 0 0)] H) (hQi (fun r9 H' => r9 = nI (z 1 0) ∧ ∃ ml : Int32, nmP D cs N0 H' o (upZ z 1 0 0) (upK (upK K 1 0 (fun _ => ml)) 2 0 (K 2 0)) r) (nmA r N)) 0 0 (nmA r N) := by
  refine Met.ofW (cc := prog_1_method_3_code) (maxL := 2) (ret := (Option.some Jvm.ClassFile.FieldType.int)) (by decide) rfl ?_
  intro p e s m args below meth c s₁ B hml hv
  obtain ⟨rfl, rfl, hB⟩ := hv
  have hx := B.exec
  have hb := B.bytes
  have hr := B.returns
  have hts := atoms_spec (ws := w_Nm_clear) B.pre
  have htg : ∀ w ∈ gw, w.before _ s = true := fun w h => hts w (List.mem_cons_of_mem _ h)
  have hown : s.vm.findClass "NameMerges" = some m.cls := findClass_of_methodNamed B.named
  have hlocks := B.notSynchronized
  have hAN : ∀ q, nmA r N q → N0 ≤ q := fun q9 h9 => h9.elim (hI.2.1 q9) (fun h9 => Nat.le_trans hB.2.1 (hN ▸ h9))
  have hK := hB.1
  obtain ⟨H, hH⟩ : ∃ z : Heap, z = s.heap := ⟨_, rfl⟩
  have hz0 : H.size = s.heap.size := by rw [hH]
  have hN0 := hB.2.1
  rw [← hH] at hI
  have hS : va_S (nmA r N) s.heap H [] := by rw [hH]; exact va_S.rf
  have hl := lv_entry ([.ref (o 0 0)]) (n := 2) (Nat.le_of_ble_eq_true rfl)
  rw [lg_entry_eq, ← hH]
  generalize (lg_sl ([.ref (o 0 0)]) ++ List.replicate (2 - (lg_sl ([.ref (o 0 0)])).length) Slot.unset).toArray = ls at hl ⊢
  have hl : lv_has ls 2 [(0, .ref (o 0 0))] := hl
  obtain ⟨hb0, hb1, hb3, hb5, hb4, hb6, hb11, hb17⟩ := hI.2.2.1
  have h00 : va_at D vwCl (o 0 0, .inr (1, [.ref (o 1 0), .ref (o 3 0), .ref (o 5 0), .ref (o 7 0), .ref (o 8 0), .int (nI (z 0 0)), .int (K 0 0 0), .ref (o 9 0)])) H := hI.at (k := 0) (n := 0) rfl
  have h01 : va_at D vwCl (o 1 0, .inr (7, [.ref (o 2 0), .int 0, .int (K 1 0 0), .int (nI (z 1 0))])) H := hI.at (k := 1) (n := 0) rfl
  have h02 : va_at D vwCl (o 2 0, .inl (cs 2, (16, .inl (K 2 0)))) H := hI.at (k := 2) (n := 0) rfl
  refine lv_aload_n hx hb d_Nm_clear_0 rfl (lv_at hl 0 rfl) ?_
  refine hx_get (ref := "NameMerges") (v := .ref (o 1 0)) hx hb htg iNm hown hK h00 rfl 0 (by decide) (htg _ (gw_mem (i := 126) (by decide +kernel) rfl)) (fun _ h9 => h9) rfl d_Nm_clear_1 ?_
  refine h_purei (va_runV (As := []) (rest := []) ⟨hx, hb, hml, hown, htg⟩ (c_SB_length l D cs N0 H (o 1 0) (o 2 0) (z 1 0) (K 1 0 0) h01) ⟨x_cwB 0 htg (gw_mem (i := 159) (by decide +kernel) rfl) (gw_mem (i := 32) (by decide +kernel) rfl) (gw_mem (i := 156) (by decide +kernel) rfl) (by decide +kernel) ⟨Nat.le_of_ble_eq_true rfl, Nat.le_of_ble_eq_true rfl⟩, htg _ (gw_mem (i := 157) (by decide +kernel) rfl), htg _ (gw_mem (i := 158) (by decide +kernel) rfl)⟩ ⟨hPre.blind, hx_recv hK (ci := 7) rfl h01, hPre.at hB hS hAN⟩ rfl rfl hl.1 rfl (lv_room (Nat.le_of_ble_eq_true rfl)) d_Nm_clear_4 ⟨Nat.le_of_ble_eq_true rfl, Nat.le_of_ble_eq_true rfl⟩) hS (fun locs hS => ?_)
  refine lv_istore_n (lv' := [(1, .int (nI (z 1 0))), (0, .ref (o 0 0))]) hx hb d_Nm_clear_7 rfl hl (by decide) rfl (fun ls hl => ?_)
  refine lv_aload_n hx hb d_Nm_clear_8 rfl (lv_at hl 1 rfl) ?_
  refine hx_get (ref := "NameMerges") (v := .ref (o 1 0)) hx hb htg iNm hown hK h00 rfl 0 (by decide) (htg _ (gw_mem (i := 126) (by decide +kernel) rfl)) (fun _ h9 => h9) rfl d_Nm_clear_9 ?_
  refine lv_iconst (v := 0) hx hb d_Nm_clear_12 (by decide) ?_
  obtain ⟨nq1, hnq1⟩ : ∃ z : Nat, z = H.size := ⟨_, rfl⟩
  have hlt_q2 := hx_lt h00
  have hlt_q3 := hx_lt h01
  have hlt_q4 := hx_lt h02
  refine h_callv (va_runV (As := [.int 0]) (rest := []) ⟨hx, hb, hml, hown, htg⟩ (c_SB_setLength l D cs N0 H (o 1 0) (o 2 0) (z 1 0) nq1 (K 1 0 0) (K 2 0) h01 h02 hnq1 (hI.ge (k := 1) (n := 0) (show nmv z 1 0 from rfl)) (hI.ne (k := 1) (n := 0) (k' := 2) (n' := 0) (show nmv z 1 0 from rfl) (show nmv z 2 0 from rfl) (Or.inl (by decide))) (by omega)) ⟨x_cwB 1 htg (gw_mem (i := 166) (by decide +kernel) rfl) (gw_mem (i := 32) (by decide +kernel) rfl) (gw_mem (i := 163) (by decide +kernel) rfl) (by decide +kernel) ⟨Nat.le_of_ble_eq_true rfl, Nat.le_of_ble_eq_true rfl⟩, htg _ (gw_mem (i := 164) (by decide +kernel) rfl), htg _ (gw_mem (i := 165) (by decide +kernel) rfl)⟩ ⟨hPre.blind, hx_recv hK (ci := 7) rfl h01, hPre.at hB hS hAN⟩ rfl rfl hl.1 rfl (lv_room (Nat.le_of_ble_eq_true rfl)) d_Nm_clear_13 ⟨Nat.le_of_ble_eq_true rfl, Nat.le_of_ble_eq_true rfl⟩) hS (jA_sub1 (hI.inA (k := 1) (n := 0) (show nmv z 1 0 from rfl)) (fun q9 h9 => Or.inr (show N ≤ q9 by omega))) (fun H locs hp hz hk hS => ?_)
  replace h00 := hx_keep h00 (hk _ hlt_q2 (jA_not1 (hI.ne (k := 0) (n := 0) (k' := 1) (n' := 0) (show nmv z 0 0 from rfl) (show nmv z 1 0 from rfl) (Or.inl (by decide))) (show o 0 0 < nq1 by omega)))
  replace h02 := hx_keep h02 (hk _ hlt_q4 (jA_not1 (hI.ne (k := 2) (n := 0) (k' := 1) (n' := 0) (show nmv z 2 0 from rfl) (show nmv z 1 0 from rfl) (Or.inl (by decide))) (show o 2 0 < nq1 by omega)))
  obtain ⟨ml6, hO5⟩ := hp
  refine lv_iload_n hx hb d_Nm_clear_16 rfl (lv_at hl 0 rfl) ?_
  exact W.iret (v := (nI (z 1 0))) hx hb hr (fun t ht hW => ⟨⟨(nI (z 1 0)), H, rfl, ⟨rfl, _, hI.pad hO5 h02 (fun q9 h7 h8 h9 => hk q9 h7 (jA_not1 h8 (by omega))) (by omega) (fun j9 h9 => absurd h9 (Nat.not_lt_zero _))⟩, ht⟩, hS.F ht⟩) hS.2.2 d_Nm_clear_17
def y_Nm_keepPair : MethodName := ⟨"NameMerges", "keepPair", "(I)V"⟩
abbrev w_Nm_keepPair : List Cond := Cond.code y_Nm_keepPair prog_1_method_31_code 2 (Option.none : Option Jvm.ClassFile.FieldType) :: gw
theorem d_Nm_keepPair_0 : decode prog_1_method_31_code 0 = .ok (.aload_n 0, 1) := by decide +kernel
theorem d_Nm_keepPair_1 : decode prog_1_method_31_code 1 = .ok (.getfield 33, 3) := by decide +kernel
theorem d_Nm_keepPair_4 : decode prog_1_method_31_code 4 = .ok (.aload_n 0, 1) := by decide +kernel
theorem d_Nm_keepPair_5 : decode prog_1_method_31_code 5 = .ok (.getfield 30, 3) := by decide +kernel
theorem d_Nm_keepPair_8 : decode prog_1_method_31_code 8 = .ok (.arraylength, 1) := by decide +kernel
theorem d_Nm_keepPair_9 : decode prog_1_method_31_code 9 = .ok (.if_icmp .ge 23, 3) := by decide +kernel
theorem d_Nm_keepPair_12 : decode prog_1_method_31_code 12 = .ok (.aload_n 0, 1) := by decide +kernel
theorem d_Nm_keepPair_13 : decode prog_1_method_31_code 13 = .ok (.getfield 30, 3) := by decide +kernel
theorem d_Nm_keepPair_16 : decode prog_1_method_31_code 16 = .ok (.aload_n 0, 1) := by decide +kernel
theorem d_Nm_keepPair_17 : decode prog_1_method_31_code 17 = .ok (.getfield 33, 3) := by decide +kernel
theorem d_Nm_keepPair_20 : decode prog_1_method_31_code 20 = .ok (.iload_n 1, 1) := by decide +kernel
theorem d_Nm_keepPair_21 : decode prog_1_method_31_code 21 = .ok (.iastore, 1) := by decide +kernel
theorem d_Nm_keepPair_22 : decode prog_1_method_31_code 22 = .ok (.aload_n 0, 1) := by decide +kernel
theorem d_Nm_keepPair_23 : decode prog_1_method_31_code 23 = .ok (.dup, 1) := by decide +kernel
theorem d_Nm_keepPair_24 : decode prog_1_method_31_code 24 = .ok (.getfield 33, 3) := by decide +kernel
theorem d_Nm_keepPair_27 : decode prog_1_method_31_code 27 = .ok (.iconst 1, 1) := by decide +kernel
theorem d_Nm_keepPair_28 : decode prog_1_method_31_code 28 = .ok (.iadd, 1) := by decide +kernel
theorem d_Nm_keepPair_29 : decode prog_1_method_31_code 29 = .ok (.putfield 33, 3) := by decide +kernel
theorem d_Nm_keepPair_32 : decode prog_1_method_31_code 32 = .ok (.return_, 1) := by decide +kernel
set_option maxHeartbeats 4000000 in
set_option maxRecDepth 100000 in
theorem c_Nm_keepPair (l : Launch) (D : va_G) (cs : Nat → ClassId) (N0 : Nat) (H : Heap) (o z : Nat → Nat → Nat) (K : Nat → Nat → Nat → Int32) (r : Nat → Nat × Nat) (N : Nat) (pl : Int32) (hI : nmP D cs N0 H o z K r) (hN : N = H.size) : Met l y_Nm_keepPair w_Nm_keepPair ({ frames := 0, cells := 0, slots := 0, locals := 0 }) (hPre D cs N0 [.ref (o 0 0), .int pl] H) (hQv (fun H' => if z 0 0 < 276 then nmP D cs N0 H' o (upZ z 0 0 (z 0 0 + 1)) (upK K 8 0 (upd (K 8 0) (z 0 0) pl)) r else nmP D cs N0 H' o z K r) (nmA r N)) 0 0 (nmA r N) := by
  refine Met.ofW (cc := prog_1_method_31_code) (maxL := 2) (ret := (Option.none : Option Jvm.ClassFile.FieldType)) (by decide) rfl ?_
  intro p e s m args below meth c s₁ B hml hv
  obtain ⟨rfl, rfl, hB⟩ := hv
  have hx := B.exec
  have hb := B.bytes
  have hr := B.returns
  have hts := atoms_spec (ws := w_Nm_keepPair) B.pre
  have htg : ∀ w ∈ gw, w.before _ s = true := fun w h => hts w (List.mem_cons_of_mem _ h)
  have hown : s.vm.findClass "NameMerges" = some m.cls := findClass_of_methodNamed B.named
  have hlocks := B.notSynchronized
  have hAN : ∀ q, nmA r N q → N0 ≤ q := fun q9 h9 => h9.elim (hI.2.1 q9) (fun h9 => Nat.le_trans hB.2.1 (hN ▸ h9))
  have hK := hB.1
  obtain ⟨H, hH⟩ : ∃ z : Heap, z = s.heap := ⟨_, rfl⟩
  have hz0 : H.size = s.heap.size := by rw [hH]
  have hN0 := hB.2.1
  rw [← hH] at hI
  have hS : va_S (nmA r N) s.heap H [] := by rw [hH]; exact va_S.rf
  have hl := lv_entry ([.ref (o 0 0), .int pl]) (n := 2) (Nat.le_of_ble_eq_true rfl)
  rw [lg_entry_eq, ← hH]
  generalize (lg_sl ([.ref (o 0 0), .int pl]) ++ List.replicate (2 - (lg_sl ([.ref (o 0 0), .int pl])).length) Slot.unset).toArray = ls at hl ⊢
  have hl : lv_has ls 2 [(0, .ref (o 0 0)), (1, .int pl)] := hl
  obtain ⟨hb0, hb1, hb3, hb5, hb4, hb6, hb11, hb17⟩ := hI.2.2.1
  refine lv_aload_n hx hb d_Nm_keepPair_0 rfl (lv_at hl 0 rfl) ?_
  refine hx_get (ref := "NameMerges") (v := .int (nI (z 0 0))) hx hb htg iNm hown hK (show va_at D vwCl (o 0 0, .inr (1, [.ref (o 1 0), .ref (o 3 0), .ref (o 5 0), .ref (o 7 0), .ref (o 8 0), .int (nI (z 0 0)), .int (K 0 0 0), .ref (o 9 0)])) H from hI.at (k := 0) (n := 0) (show nmv z 0 0 from rfl)) rfl 5 (by decide) (htg _ (gw_mem (i := 131) (by decide +kernel) rfl)) (fun _ h9 => h9) rfl d_Nm_keepPair_1 ?_
  refine lv_aload_n hx hb d_Nm_keepPair_4 rfl (lv_at hl 0 rfl) ?_
  refine hx_get (ref := "NameMerges") (v := .ref (o 8 0)) hx hb htg iNm hown hK (show va_at D vwCl (o 0 0, .inr (1, [.ref (o 1 0), .ref (o 3 0), .ref (o 5 0), .ref (o 7 0), .ref (o 8 0), .int (nI (z 0 0)), .int (K 0 0 0), .ref (o 9 0)])) H from hI.at (k := 0) (n := 0) (show nmv z 0 0 from rfl)) rfl 4 (by decide) (htg _ (gw_mem (i := 130) (by decide +kernel) rfl)) (fun _ h9 => h9) rfl d_Nm_keepPair_5 ?_
  refine hx_alen (v := 276) hx hb hK 0 (show va_at D vwCl (o 8 0, .inl (cs 0, (276, .inl (K 8 0)))) H from hI.at (k := 8) (n := 0) (show nmv z 8 0 from rfl)) rfl rfl d_Nm_keepPair_8 ?_
  refine lv_icmp_ge (x := (nI (z 0 0))) (y := 276) (tgt := 32) hx hb d_Nm_keepPair_9 (by decide) (fun c9 => ?_) (fun c9 => ?_)
  · skip
    replace c9 : 276 ≤ (z 0 0) := (nI_leI (a := 276) (b := (z 0 0)) (by omega) (by omega)).mp c9
    exact W.vret hx hb hr (fun t ht hW => ⟨⟨H, rfl, (by show (if z 0 0 < 276 then _ else _); rw [if_neg (by omega)]; exact hI), ht⟩, hS.F ht⟩) hS.2.2 d_Nm_keepPair_32
  · skip
    replace c9 : ¬ (276 ≤ (z 0 0)) := fun z9 => c9 ((nI_leI (a := 276) (b := (z 0 0)) (by omega) (by omega)).mpr z9)
    refine lv_aload_n hx hb d_Nm_keepPair_12 rfl (lv_at hl 0 rfl) ?_
    refine hx_get (ref := "NameMerges") (v := .ref (o 8 0)) hx hb htg iNm hown hK (show va_at D vwCl (o 0 0, .inr (1, [.ref (o 1 0), .ref (o 3 0), .ref (o 5 0), .ref (o 7 0), .ref (o 8 0), .int (nI (z 0 0)), .int (K 0 0 0), .ref (o 9 0)])) H from hI.at (k := 0) (n := 0) (show nmv z 0 0 from rfl)) rfl 4 (by decide) (htg _ (gw_mem (i := 130) (by decide +kernel) rfl)) (fun _ h9 => h9) rfl d_Nm_keepPair_13 ?_
    refine lv_aload_n hx hb d_Nm_keepPair_16 rfl (lv_at hl 0 rfl) ?_
    refine hx_get (ref := "NameMerges") (v := .int (nI (z 0 0))) hx hb htg iNm hown hK (show va_at D vwCl (o 0 0, .inr (1, [.ref (o 1 0), .ref (o 3 0), .ref (o 5 0), .ref (o 7 0), .ref (o 8 0), .int (nI (z 0 0)), .int (K 0 0 0), .ref (o 9 0)])) H from hI.at (k := 0) (n := 0) (show nmv z 0 0 from rfl)) rfl 5 (by decide) (htg _ (gw_mem (i := 131) (by decide +kernel) rfl)) (fun _ h9 => h9) rfl d_Nm_keepPair_17 ?_
    refine lv_iload_n hx hb d_Nm_keepPair_20 rfl (lv_at hl 1 rfl) ?_
    refine hx_iast hx hb hK hS (hI.inA (k := 8) (n := 0) (show nmv z 8 0 from rfl)) 0 (show va_at D vwCl (o 8 0, .inl (cs 0, (276, .inl (K 8 0)))) H from hI.at (k := 8) (n := 0) (show nmv z 8 0 from rfl)) rfl (show vp_in (nI (z 0 0)) 276 from vp_in_nI (n := z 0 0) (by omega) (by omega)) d_Nm_keepPair_21 (fun H locs hat hz ho hS => ?_)
    rw [show (nI (z 0 0)).toNatClampNeg = z 0 0 from nI_clamp (n := z 0 0) (by omega)] at hat
    replace hI : nmP D cs N0 H o z (upK K 8 0 (upd ((K 8 0)) (z 0 0) (pl))) r := hI.put (k0 := 8) (n0 := 0) (show nmv z 8 0 from rfl) (by decide) hat (fun q9 _ h9 => ho q9 h9)
    refine lv_aload_n hx hb d_Nm_keepPair_22 rfl (lv_at hl 0 rfl) ?_
    refine lv_dup hx hb d_Nm_keepPair_23 rfl ?_
    refine hx_get (ref := "NameMerges") (v := .int (nI (z 0 0))) hx hb htg iNm hown hK (show va_at D vwCl (o 0 0, .inr (1, [.ref (o 1 0), .ref (o 3 0), .ref (o 5 0), .ref (o 7 0), .ref (o 8 0), .int (nI (z 0 0)), .int ((upK K 8 0 (upd ((K 8 0)) (z 0 0) (pl))) 0 0 0), .ref (o 9 0)])) H from hI.at (k := 0) (n := 0) (show nmv z 0 0 from rfl)) rfl 5 (by decide) (htg _ (gw_mem (i := 131) (by decide +kernel) rfl)) (fun _ h9 => h9) rfl d_Nm_keepPair_24 ?_
    refine lv_iconst (v := 1) hx hb d_Nm_keepPair_27 (by decide) ?_
    refine lv_iadd (x := (nI (z 0 0))) (y := 1) hx hb d_Nm_keepPair_28 ?_
    refine lv_eqi (y := (nI (z 0 0 + 1))) (nI_add (z 0 0) 1) ?_
    refine hx_put (ref := "NameMerges") (ty := .int) (v := .int (nI (z 0 0 + 1))) hx hb htg iNm tNm tNm_ok nNm hown hK (show va_at D vwCl (o 0 0, .inr (1, [.ref (o 1 0), .ref (o 3 0), .ref (o 5 0), .ref (o 7 0), .ref (o 8 0), .int (nI (z 0 0)), .int ((upK K 8 0 (upd ((K 8 0)) (z 0 0) (pl))) 0 0 0), .ref (o 9 0)])) H from hI.at (k := 0) (n := 0) (show nmv z 0 0 from rfl)) hS (hI.inA (k := 0) (n := 0) (show nmv z 0 0 from rfl)) rfl 5 (by decide) (htg _ (gw_mem (i := 131) (by decide +kernel) rfl)) (fun _ h9 => h9) rfl (by decide +kernel) rfl rfl (Nat.le_of_ble_eq_true rfl) d_Nm_keepPair_29 (fun H locs hat hz ho hS => ?_)
    replace hI : nmP D cs N0 H o (upZ z 0 0 (z 0 0 + 1)) (upK K 8 0 (upd ((K 8 0)) (z 0 0) (pl))) r := hI.cnt (m := z 0 0 + 1) hat (fun q9 _ h9 => ho q9 h9) (by omega)
    exact W.vret hx hb hr (fun t ht hW => ⟨⟨H, rfl, (by show (if z 0 0 < 276 then _ else _); rw [if_pos (by omega)]; exact hI), ht⟩, hS.F ht⟩) hS.2.2 d_Nm_keepPair_32
def cvB (nm : Nat) (th : Int32) (K : Nat → Nat → Nat → Int32) (n : Nat) : Nat → Nat → Nat → Int32 := if n = nm ∨ hasB (K 10 n 3) (nI nm) = true then upK K 10 n (upd (K 10 n) 3 (K 10 n 3 ||| th)) else K
def y_Nm_coverBelow : MethodName := ⟨"NameMerges", "coverBelow", "(II)V"⟩
abbrev w_Nm_coverBelow : List Cond := Cond.code y_Nm_coverBelow prog_1_method_39_code 5 (Option.none : Option Jvm.ClassFile.FieldType) :: gw
theorem d_Nm_coverBelow_0 : decode prog_1_method_39_code 0 = .ok (.iconst 0, 1) := by decide +kernel
theorem d_Nm_coverBelow_1 : decode prog_1_method_39_code 1 = .ok (.istore_n 3, 1) := by decide +kernel
theorem d_Nm_coverBelow_2 : decode prog_1_method_39_code 2 = .ok (.iload_n 3, 1) := by decide +kernel
theorem d_Nm_coverBelow_3 : decode prog_1_method_39_code 3 = .ok (.aload_n 0, 1) := by decide +kernel
theorem d_Nm_coverBelow_4 : decode prog_1_method_39_code 4 = .ok (.getfield 19, 3) := by decide +kernel
theorem d_Nm_coverBelow_7 : decode prog_1_method_39_code 7 = .ok (.invokevirtual 67, 3) := by decide +kernel
theorem d_Nm_coverBelow_10 : decode prog_1_method_39_code 10 = .ok (.if_icmp .ge 50, 3) := by decide +kernel
theorem d_Nm_coverBelow_13 : decode prog_1_method_39_code 13 = .ok (.aload_n 0, 1) := by decide +kernel
theorem d_Nm_coverBelow_14 : decode prog_1_method_39_code 14 = .ok (.getfield 19, 3) := by decide +kernel
theorem d_Nm_coverBelow_17 : decode prog_1_method_39_code 17 = .ok (.iload_n 3, 1) := by decide +kernel
theorem d_Nm_coverBelow_18 : decode prog_1_method_39_code 18 = .ok (.invokevirtual 82, 3) := by decide +kernel
theorem d_Nm_coverBelow_21 : decode prog_1_method_39_code 21 = .ok (.checkcast 72, 3) := by decide +kernel
theorem d_Nm_coverBelow_24 : decode prog_1_method_39_code 24 = .ok (.astore 4, 2) := by decide +kernel
theorem d_Nm_coverBelow_26 : decode prog_1_method_39_code 26 = .ok (.iload_n 3, 1) := by decide +kernel
theorem d_Nm_coverBelow_27 : decode prog_1_method_39_code 27 = .ok (.iload_n 1, 1) := by decide +kernel
theorem d_Nm_coverBelow_28 : decode prog_1_method_39_code 28 = .ok (.if_icmp .eq 15, 3) := by decide +kernel
theorem d_Nm_coverBelow_31 : decode prog_1_method_39_code 31 = .ok (.aload 4, 2) := by decide +kernel
theorem d_Nm_coverBelow_33 : decode prog_1_method_39_code 33 = .ok (.getfield 198, 3) := by decide +kernel
theorem d_Nm_coverBelow_36 : decode prog_1_method_39_code 36 = .ok (.iload_n 1, 1) := by decide +kernel
theorem d_Nm_coverBelow_37 : decode prog_1_method_39_code 37 = .ok (.invokestatic 141, 3) := by decide +kernel
theorem d_Nm_coverBelow_40 : decode prog_1_method_39_code 40 = .ok (.ifCond .eq 14, 3) := by decide +kernel
theorem d_Nm_coverBelow_43 : decode prog_1_method_39_code 43 = .ok (.aload 4, 2) := by decide +kernel
theorem d_Nm_coverBelow_45 : decode prog_1_method_39_code 45 = .ok (.dup, 1) := by decide +kernel
theorem d_Nm_coverBelow_46 : decode prog_1_method_39_code 46 = .ok (.getfield 198, 3) := by decide +kernel
theorem d_Nm_coverBelow_49 : decode prog_1_method_39_code 49 = .ok (.iload_n 2, 1) := by decide +kernel
theorem d_Nm_coverBelow_50 : decode prog_1_method_39_code 50 = .ok (.ior, 1) := by decide +kernel
theorem d_Nm_coverBelow_51 : decode prog_1_method_39_code 51 = .ok (.putfield 198, 3) := by decide +kernel
theorem d_Nm_coverBelow_54 : decode prog_1_method_39_code 54 = .ok (.iinc 3 1, 3) := by decide +kernel
theorem d_Nm_coverBelow_57 : decode prog_1_method_39_code 57 = .ok (.goto (-55), 3) := by decide +kernel
theorem d_Nm_coverBelow_60 : decode prog_1_method_39_code 60 = .ok (.return_, 1) := by decide +kernel
set_option maxHeartbeats 4000000 in
set_option maxRecDepth 100000 in
theorem c_Nm_coverBelow (l : Launch) (D : va_G) (cs : Nat → ClassId) (N0 : Nat) (H : Heap) (o z : Nat → Nat → Nat) (K : Nat → Nat → Nat → Int32) (r : Nat → Nat × Nat) (N : Nat) (nm : Nat) (th : Int32) (hI : nmP D cs N0 H o z K r) (hN : N = H.size) (hnm : nm < 24) : Met l y_Nm_coverBelow w_Nm_coverBelow ({ frames := 3, cells := 0, slots := 0, locals := 64 }) (hPre D cs N0 [.ref (o 0 0), .int (nI nm), .int th] H) (hQv (fun H' => nmP D cs N0 H' o z (upt (cvB nm th) (z 3 0) K) r) (nmA r N)) 0 0 (nmA r N) := by
  refine Met.ofW (cc := prog_1_method_39_code) (maxL := 5) (ret := (Option.none : Option Jvm.ClassFile.FieldType)) (by decide) rfl ?_
  intro p e s m args below meth c s₁ B hml hv
  obtain ⟨rfl, rfl, hB⟩ := hv
  have hx := B.exec
  have hb := B.bytes
  have hr := B.returns
  have hts := atoms_spec (ws := w_Nm_coverBelow) B.pre
  have htg : ∀ w ∈ gw, w.before _ s = true := fun w h => hts w (List.mem_cons_of_mem _ h)
  have hown : s.vm.findClass "NameMerges" = some m.cls := findClass_of_methodNamed B.named
  have hlocks := B.notSynchronized
  have hAN : ∀ q, nmA r N q → N0 ≤ q := fun q9 h9 => h9.elim (hI.2.1 q9) (fun h9 => Nat.le_trans hB.2.1 (hN ▸ h9))
  have hK := hB.1
  obtain ⟨H, hH⟩ : ∃ z : Heap, z = s.heap := ⟨_, rfl⟩
  have hz0 : H.size = s.heap.size := by rw [hH]
  have hN0 := hB.2.1
  rw [← hH] at hI
  have hS : va_S (nmA r N) s.heap H [] := by rw [hH]; exact va_S.rf
  have hl := lv_entry ([.ref (o 0 0), .int (nI nm), .int th]) (n := 5) (Nat.le_of_ble_eq_true rfl)
  rw [lg_entry_eq, ← hH]
  generalize (lg_sl ([.ref (o 0 0), .int (nI nm), .int th]) ++ List.replicate (5 - (lg_sl ([.ref (o 0 0), .int (nI nm), .int th])).length) Slot.unset).toArray = ls at hl ⊢
  have hl : lv_has ls 5 [(0, .ref (o 0 0)), (1, .int (nI nm)), (2, .int th)] := hl
  obtain ⟨hb0, hb1, hb3, hb5, hb4, hb6, hb11, hb17⟩ := hI.2.2.1
  refine lv_iconst (v := 0) hx hb d_Nm_coverBelow_0 (by decide) ?_
  refine lv_istore_n (lv' := [(3, .int 0), (0, .ref (o 0 0)), (1, .int (nI nm)), (2, .int th)]) hx hb d_Nm_coverBelow_1 rfl hl (by decide) rfl (fun ls hl => ?_)
  have loop2 : ∀ (fuel : Nat) (i : Nat) (K1 : Nat → Nat → Nat → Int32), z 3 0 - i < fuel → (i ≤ z 3 0) → (K1 = upt (cvB nm th) i K) → ∀ (H : Heap) (locs : List Loc), nmP D cs N0 H o z K1 r → va_S (nmA r N) s.heap H locs → ∀ (ls : Array Slot), lv_has ls 5 [(0, .ref (o 0 0)), (1, .int (nI nm)), (2, .int th), (3, .int (nI i))] → W p l e (headSpec w_Nm_coverBelow ({ frames := 3, cells := 0, slots := 0, locals := 64 })).room s m ([.ref (o 0 0), .int (nI nm), .int th] : List Value).toArray below meth c H locs 0 0 (MQ below (hQv (fun H' => nmP D cs N0 H' o z (upt (cvB nm th) (z 3 0) K) r) (nmA r N)) ([.ref (o 0 0), .int (nI nm), .int th] : List Value).toArray s 0 0 (nmA r N)) (F0 m 2 ls []) := by
    intro fuel2
    induction fuel2 with
    | zero => intro i K1 hn; exact absurd hn (Nat.not_lt_zero _)
    | succ fuel2 ih2 =>
      intro i K1 hn2 hi hK1 H locs hI hS ls hl
      have hz9 := hS.1
      refine lv_iload_n hx hb d_Nm_coverBelow_2 rfl (lv_at hl 3 rfl) ?_
      refine lv_aload_n hx hb d_Nm_coverBelow_3 rfl (lv_at hl 0 rfl) ?_
      refine hx_get (ref := "NameMerges") (v := .ref (o 3 0)) hx hb htg iNm hown hK (show va_at D vwCl (o 0 0, .inr (1, [.ref (o 1 0), .ref (o 3 0), .ref (o 5 0), .ref (o 7 0), .ref (o 8 0), .int (nI (z 0 0)), .int (K1 0 0 0), .ref (o 9 0)])) H from hI.at (k := 0) (n := 0) (show nmv z 0 0 from rfl)) rfl 1 (by decide) (htg _ (gw_mem (i := 127) (by decide +kernel) rfl)) (fun _ h9 => h9) rfl d_Nm_coverBelow_4 ?_
      refine h_purei (va_runV (As := []) (rest := [.int (nI i)]) ⟨hx, hb, hml, hown, htg⟩ (c_AL_size l D cs N0 H (o 3 0) (nmL cs (z 3 0) (o 4 0)) (z 3 0) (K1 3 0 0) (show va_at D vwCl (o 3 0, .inr (6, [.ref (nmL cs (z 3 0) (o 4 0)), .int (nI (z 3 0)), .int (K1 3 0 0)])) H from hI.at (k := 3) (n := 0) (show nmv z 3 0 from rfl))) ⟨x_cwB 0 htg (gw_mem (i := 503) (by decide +kernel) rfl) (gw_mem (i := 37) (by decide +kernel) rfl) (gw_mem (i := 500) (by decide +kernel) rfl) (by decide +kernel) ⟨Nat.le_of_ble_eq_true rfl, Nat.le_of_ble_eq_true rfl⟩, htg _ (gw_mem (i := 501) (by decide +kernel) rfl), htg _ (gw_mem (i := 502) (by decide +kernel) rfl)⟩ ⟨hPre.blind, hx_recv hK (ci := 6) rfl (show va_at D vwCl (o 3 0, .inr (6, [.ref (nmL cs (z 3 0) (o 4 0)), .int (nI (z 3 0)), .int (K1 3 0 0)])) H from hI.at (k := 3) (n := 0) (show nmv z 3 0 from rfl)), hPre.at hB hS hAN⟩ rfl rfl hl.1 rfl (lv_room (Nat.le_of_ble_eq_true rfl)) d_Nm_coverBelow_7 ⟨Nat.le_of_ble_eq_true rfl, Nat.le_of_ble_eq_true rfl⟩) hS (fun locs hS => ?_)
      refine lv_icmp_ge (x := (nI i)) (y := (nI (z 3 0))) (tgt := 60) hx hb d_Nm_coverBelow_10 (by decide) (fun c10 => ?_) (fun c10 => ?_)
      · skip
        replace c10 : (z 3 0) ≤ i := (nI_leI (a := (z 3 0)) (b := i) (by omega) (by omega)).mp c10
        exact W.vret hx hb hr (fun t ht hW => ⟨⟨H, rfl, (by rw [show z 3 0 = i by omega, ← hK1]; exact hI), ht⟩, hS.F ht⟩) hS.2.2 d_Nm_coverBelow_60
      · skip
        replace c10 : ¬ ((z 3 0) ≤ i) := fun z9 => c10 ((nI_leI (a := (z 3 0)) (b := i) (by omega) (by omega)).mpr z9)
        refine lv_aload_n hx hb d_Nm_coverBelow_13 rfl (lv_at hl 0 rfl) ?_
        refine hx_get (ref := "NameMerges") (v := .ref (o 3 0)) hx hb htg iNm hown hK (show va_at D vwCl (o 0 0, .inr (1, [.ref (o 1 0), .ref (o 3 0), .ref (o 5 0), .ref (o 7 0), .ref (o 8 0), .int (nI (z 0 0)), .int (K1 0 0 0), .ref (o 9 0)])) H from hI.at (k := 0) (n := 0) (show nmv z 0 0 from rfl)) rfl 1 (by decide) (htg _ (gw_mem (i := 127) (by decide +kernel) rfl)) (fun _ h9 => h9) rfl d_Nm_coverBelow_14 ?_
        refine lv_iload_n hx hb d_Nm_coverBelow_17 rfl (lv_at hl 3 rfl) ?_
        refine h_pureq (va_runV (As := [.int (nI i)]) (rest := []) ⟨hx, hb, hml, hown, htg⟩ (c_names_get l D cs N0 H o z K1 r i hI (show i < z 3 0 by omega)) ⟨x_cwB 1 htg (gw_mem (i := 512) (by decide +kernel) rfl) (gw_mem (i := 37) (by decide +kernel) rfl) (gw_mem (i := 509) (by decide +kernel) rfl) (by decide +kernel) ⟨Nat.le_of_ble_eq_true rfl, Nat.le_of_ble_eq_true rfl⟩, htg _ (gw_mem (i := 510) (by decide +kernel) rfl), htg _ (gw_mem (i := 511) (by decide +kernel) rfl)⟩ ⟨hPre.blind, hx_recv hK (ci := 6) rfl (show va_at D vwCl (o 3 0, .inr (6, [.ref (nmL cs (z 3 0) (o 4 0)), .int (nI (z 3 0)), .int (K1 3 0 0)])) H from hI.at (k := 3) (n := 0) (show nmv z 3 0 from rfl)), hPre.at hB hS hAN⟩ rfl rfl hl.1 rfl (lv_room (Nat.le_of_ble_eq_true rfl)) d_Nm_coverBelow_18 ⟨Nat.le_of_ble_eq_true rfl, Nat.le_of_ble_eq_true rfl⟩) hS (fun locs hS => ?_)
        refine lv_eqv (y := .ref (o 10 i)) rfl ?_
        refine va_castS hx hb hown (htg _ (gw_mem (i := 536) (by decide +kernel) rfl)) (x_at hK (ci := 2) rfl) (hx_recv hK (ci := 2) rfl (show va_at D vwCl (o 10 i, .inr (2, [.ref (o 11 i), .ref (o 13 i), va_rf (if z 14 i = 0 then none else some (o 14 i)), .int (K1 10 i 0), .int (K1 10 i 1), .int (K1 10 i 2), .int (K1 10 i 3)])) H from hI.at (k := 10) (n := i) (show nmv z 10 i from (show i < z 3 0 by omega)))) d_Nm_coverBelow_21 ?_
        refine lv_astore (lv' := [(4, .ref (o 10 i)), (0, .ref (o 0 0)), (1, .int (nI nm)), (2, .int th), (3, .int (nI i))]) hx hb d_Nm_coverBelow_24 hl (by decide) rfl (fun ls hl => ?_)
        refine lv_iload_n hx hb d_Nm_coverBelow_26 rfl (lv_at hl 4 rfl) ?_
        refine lv_iload_n hx hb d_Nm_coverBelow_27 rfl (lv_at hl 2 rfl) ?_
        refine lv_icmp_eq (x := (nI i)) (y := (nI nm)) (tgt := 43) hx hb d_Nm_coverBelow_28 (by decide) (fun c28 => ?_) (fun c28 => ?_)
        · skip
          replace c28 : i = nm := (nI_eq (a := i) (b := nm) (by omega) (by omega)).mp c28
          refine lv_aload hx hb d_Nm_coverBelow_43 (lv_at hl 0 rfl) ?_
          refine lv_dup hx hb d_Nm_coverBelow_45 rfl ?_
          refine hx_get (ref := "NameMerges$Name") (v := .int (K1 10 i 3)) hx hb htg iNa hown hK (show va_at D vwCl (o 10 i, .inr (2, [.ref (o 11 i), .ref (o 13 i), va_rf (if z 14 i = 0 then none else some (o 14 i)), .int (K1 10 i 0), .int (K1 10 i 1), .int (K1 10 i 2), .int (K1 10 i 3)])) H from hI.at (k := 10) (n := i) (show nmv z 10 i from (show i < z 3 0 by omega))) rfl 6 (by decide) (htg _ (gw_mem (i := 665) (by decide +kernel) rfl)) (fun _ h9 => h9) rfl d_Nm_coverBelow_46 ?_
          refine lv_iload_n hx hb d_Nm_coverBelow_49 rfl (lv_at hl 3 rfl) ?_
          refine lv_ior (x := (K1 10 i 3)) (y := th) hx hb d_Nm_coverBelow_50 ?_
          refine hx_put (ref := "NameMerges$Name") (ty := .int) (v := .int ((K1 10 i 3) ||| th)) hx hb htg iNa tNa tNa_ok nNa hown hK (show va_at D vwCl (o 10 i, .inr (2, [.ref (o 11 i), .ref (o 13 i), va_rf (if z 14 i = 0 then none else some (o 14 i)), .int (K1 10 i 0), .int (K1 10 i 1), .int (K1 10 i 2), .int (K1 10 i 3)])) H from hI.at (k := 10) (n := i) (show nmv z 10 i from (show i < z 3 0 by omega))) hS (hI.inA (k := 10) (n := i) (show nmv z 10 i from (show i < z 3 0 by omega))) rfl 6 (by decide) (htg _ (gw_mem (i := 665) (by decide +kernel) rfl)) (fun _ h9 => h9) rfl (by decide +kernel) rfl rfl (Nat.le_of_ble_eq_true rfl) d_Nm_coverBelow_51 (fun H locs hat hz ho hS => ?_)
          replace hI : nmP D cs N0 H o z (upK K1 10 i (upd (K1 10 i) 3 (((K1 10 i 3) ||| th)))) r := hI.put (k0 := 10) (n0 := i) (show nmv z 10 i from (show i < z 3 0 by omega)) (by decide) hat (fun q9 _ h9 => ho q9 h9)
          refine lv_iinc (v := (nI (i + 1))) (lv' := [(3, .int (nI (i + 1))), (4, .ref (o 10 i)), (0, .ref (o 0 0)), (1, .int (nI nm)), (2, .int th)]) hx hb d_Nm_coverBelow_54 hl (k := 4) rfl (nI_1 i) (by decide) rfl (fun ls hl => ?_)
          refine lv_goto (tgt := 2) hx hb d_Nm_coverBelow_57 (by decide) ?_
          exact ih2  (i + 1) ((upK K1 10 i (upd (K1 10 i) 3 (((K1 10 i 3) ||| th))))) (by omega) (by omega) (by rw [show upt (cvB nm th) (i + 1) K = cvB nm th (upt (cvB nm th) i K) i from rfl, ← hK1]; simp [cvB, c28]) _ _ hI hS ls (lv_sub hl [2, 3, 4, 0] rfl)
        · skip
          replace c28 : ¬ (i = nm) := fun z9 => c28 ((nI_eq (a := i) (b := nm) (by omega) (by omega)).mpr z9)
          refine lv_aload hx hb d_Nm_coverBelow_31 (lv_at hl 0 rfl) ?_
          refine hx_get (ref := "NameMerges$Name") (v := .int (K1 10 i 3)) hx hb htg iNa hown hK (show va_at D vwCl (o 10 i, .inr (2, [.ref (o 11 i), .ref (o 13 i), va_rf (if z 14 i = 0 then none else some (o 14 i)), .int (K1 10 i 0), .int (K1 10 i 1), .int (K1 10 i 2), .int (K1 10 i 3)])) H from hI.at (k := 10) (n := i) (show nmv z 10 i from (show i < z 3 0 by omega))) rfl 6 (by decide) (htg _ (gw_mem (i := 665) (by decide +kernel) rfl)) (fun _ h9 => h9) rfl d_Nm_coverBelow_33 ?_
          refine lv_iload_n hx hb d_Nm_coverBelow_36 rfl (lv_at hl 2 rfl) ?_
          refine h_purei (va_runS (As := [.int (K1 10 i 3), .int (nI nm)]) (rest := []) ⟨hx, hb, hml, hown, htg⟩ (c_Nm_has l D cs N0 H (K1 10 i 3) (nI nm)) ⟨x_cwB 2 htg (gw_mem (i := 530) (by decide +kernel) rfl) (gw_mem (i := 30) (by decide +kernel) rfl) (gw_mem (i := 528) (by decide +kernel) rfl) (by decide +kernel) ⟨Nat.le_of_ble_eq_true rfl, Nat.le_of_ble_eq_true rfl⟩, htg _ (gw_mem (i := 529) (by decide +kernel) rfl)⟩ ⟨hPre.blind, hPre.at hB hS hAN⟩ rfl rfl hl.1 rfl (lv_room (Nat.le_of_ble_eq_true rfl)) d_Nm_coverBelow_37 ⟨Nat.le_of_ble_eq_true rfl, Nat.le_of_ble_eq_true rfl⟩) hS (fun locs hS => ?_)
          refine lv_if_eq (x := (bI (hasB (K1 10 i 3) (nI nm)))) (tgt := 54) hx hb d_Nm_coverBelow_40 (by decide) (fun c40 => ?_) (fun c40 => ?_)
          · skip
            replace c40 : (hasB (K1 10 i 3) (nI nm)) = false := bI_0 c40
            refine lv_iinc (v := (nI (i + 1))) (lv' := [(3, .int (nI (i + 1))), (4, .ref (o 10 i)), (0, .ref (o 0 0)), (1, .int (nI nm)), (2, .int th)]) hx hb d_Nm_coverBelow_54 hl (k := 4) rfl (nI_1 i) (by decide) rfl (fun ls hl => ?_)
            refine lv_goto (tgt := 2) hx hb d_Nm_coverBelow_57 (by decide) ?_
            exact ih2  (i + 1) K1 (by omega) (by omega) (by rw [show upt (cvB nm th) (i + 1) K = cvB nm th (upt (cvB nm th) i K) i from rfl, ← hK1]; simp [cvB, c28, c40]) _ _ hI hS ls (lv_sub hl [2, 3, 4, 0] rfl)
          · skip
            replace c40 : (hasB (K1 10 i 3) (nI nm)) = true := bI_1 c40
            refine lv_aload hx hb d_Nm_coverBelow_43 (lv_at hl 0 rfl) ?_
            refine lv_dup hx hb d_Nm_coverBelow_45 rfl ?_
            refine hx_get (ref := "NameMerges$Name") (v := .int (K1 10 i 3)) hx hb htg iNa hown hK (show va_at D vwCl (o 10 i, .inr (2, [.ref (o 11 i), .ref (o 13 i), va_rf (if z 14 i = 0 then none else some (o 14 i)), .int (K1 10 i 0), .int (K1 10 i 1), .int (K1 10 i 2), .int (K1 10 i 3)])) H from hI.at (k := 10) (n := i) (show nmv z 10 i from (show i < z 3 0 by omega))) rfl 6 (by decide) (htg _ (gw_mem (i := 665) (by decide +kernel) rfl)) (fun _ h9 => h9) rfl d_Nm_coverBelow_46 ?_
            refine lv_iload_n hx hb d_Nm_coverBelow_49 rfl (lv_at hl 3 rfl) ?_
            refine lv_ior (x := (K1 10 i 3)) (y := th) hx hb d_Nm_coverBelow_50 ?_
            refine hx_put (ref := "NameMerges$Name") (ty := .int) (v := .int ((K1 10 i 3) ||| th)) hx hb htg iNa tNa tNa_ok nNa hown hK (show va_at D vwCl (o 10 i, .inr (2, [.ref (o 11 i), .ref (o 13 i), va_rf (if z 14 i = 0 then none else some (o 14 i)), .int (K1 10 i 0), .int (K1 10 i 1), .int (K1 10 i 2), .int (K1 10 i 3)])) H from hI.at (k := 10) (n := i) (show nmv z 10 i from (show i < z 3 0 by omega))) hS (hI.inA (k := 10) (n := i) (show nmv z 10 i from (show i < z 3 0 by omega))) rfl 6 (by decide) (htg _ (gw_mem (i := 665) (by decide +kernel) rfl)) (fun _ h9 => h9) rfl (by decide +kernel) rfl rfl (Nat.le_of_ble_eq_true rfl) d_Nm_coverBelow_51 (fun H locs hat hz ho hS => ?_)
            replace hI : nmP D cs N0 H o z (upK K1 10 i (upd (K1 10 i) 3 (((K1 10 i 3) ||| th)))) r := hI.put (k0 := 10) (n0 := i) (show nmv z 10 i from (show i < z 3 0 by omega)) (by decide) hat (fun q9 _ h9 => ho q9 h9)
            refine lv_iinc (v := (nI (i + 1))) (lv' := [(3, .int (nI (i + 1))), (4, .ref (o 10 i)), (0, .ref (o 0 0)), (1, .int (nI nm)), (2, .int th)]) hx hb d_Nm_coverBelow_54 hl (k := 4) rfl (nI_1 i) (by decide) rfl (fun ls hl => ?_)
            refine lv_goto (tgt := 2) hx hb d_Nm_coverBelow_57 (by decide) ?_
            exact ih2  (i + 1) ((upK K1 10 i (upd (K1 10 i) 3 (((K1 10 i 3) ||| th))))) (by omega) (by omega) (by rw [show upt (cvB nm th) (i + 1) K = cvB nm th (upt (cvB nm th) i K) i from rfl, ← hK1]; simp [cvB, c28, c40]) _ _ hI hS ls (lv_sub hl [2, 3, 4, 0] rfl)
  exact loop2 ((z 3 0 - 0) + 1) 0 K (Nat.lt_succ_self _) (Nat.zero_le _) rfl _ _ hI hS ls (lv_sub hl [1, 2, 3, 0] rfl)
theorem brd_same {K : Nat → Nat → Nat → Int32} {a b : Nat} {v : Int32} : upK K 10 a (upd (K 10 a) 2 v) 10 b 3 = K 10 b 3 := by
  by_cases h : b = a
  · subst h
    rw [upK_s]
    rfl
  · rw [upK_n (by omega)]
def y_Nm_broader : MethodName := ⟨"NameMerges", "broader", "(II)I"⟩
abbrev w_Nm_broader : List Cond := Cond.code y_Nm_broader prog_1_method_15_code 5 (Option.some Jvm.ClassFile.FieldType.int) :: gw
theorem d_Nm_broader_0 : decode prog_1_method_15_code 0 = .ok (.aload_n 0, 1) := by decide +kernel
theorem d_Nm_broader_1 : decode prog_1_method_15_code 1 = .ok (.iload_n 1, 1) := by decide +kernel
theorem d_Nm_broader_2 : decode prog_1_method_15_code 2 = .ok (.invokevirtual 79, 3) := by decide +kernel
theorem d_Nm_broader_5 : decode prog_1_method_15_code 5 = .ok (.aload_n 0, 1) := by decide +kernel
theorem d_Nm_broader_6 : decode prog_1_method_15_code 6 = .ok (.iload_n 2, 1) := by decide +kernel
theorem d_Nm_broader_7 : decode prog_1_method_15_code 7 = .ok (.invokevirtual 79, 3) := by decide +kernel
theorem d_Nm_broader_10 : decode prog_1_method_15_code 10 = .ok (.aload_n 0, 1) := by decide +kernel
theorem d_Nm_broader_11 : decode prog_1_method_15_code 11 = .ok (.getfield 19, 3) := by decide +kernel
theorem d_Nm_broader_14 : decode prog_1_method_15_code 14 = .ok (.iload_n 1, 1) := by decide +kernel
theorem d_Nm_broader_15 : decode prog_1_method_15_code 15 = .ok (.invokevirtual 82, 3) := by decide +kernel
theorem d_Nm_broader_18 : decode prog_1_method_15_code 18 = .ok (.checkcast 72, 3) := by decide +kernel
theorem d_Nm_broader_21 : decode prog_1_method_15_code 21 = .ok (.astore_n 3, 1) := by decide +kernel
theorem d_Nm_broader_22 : decode prog_1_method_15_code 22 = .ok (.aload_n 0, 1) := by decide +kernel
theorem d_Nm_broader_23 : decode prog_1_method_15_code 23 = .ok (.getfield 19, 3) := by decide +kernel
theorem d_Nm_broader_26 : decode prog_1_method_15_code 26 = .ok (.iload_n 2, 1) := by decide +kernel
theorem d_Nm_broader_27 : decode prog_1_method_15_code 27 = .ok (.invokevirtual 82, 3) := by decide +kernel
theorem d_Nm_broader_30 : decode prog_1_method_15_code 30 = .ok (.checkcast 72, 3) := by decide +kernel
theorem d_Nm_broader_33 : decode prog_1_method_15_code 33 = .ok (.astore 4, 2) := by decide +kernel
theorem d_Nm_broader_35 : decode prog_1_method_15_code 35 = .ok (.iload_n 1, 1) := by decide +kernel
theorem d_Nm_broader_36 : decode prog_1_method_15_code 36 = .ok (.iload_n 2, 1) := by decide +kernel
theorem d_Nm_broader_37 : decode prog_1_method_15_code 37 = .ok (.if_icmp .eq 15, 3) := by decide +kernel
theorem d_Nm_broader_40 : decode prog_1_method_15_code 40 = .ok (.aload 4, 2) := by decide +kernel
theorem d_Nm_broader_42 : decode prog_1_method_15_code 42 = .ok (.getfield 198, 3) := by decide +kernel
theorem d_Nm_broader_45 : decode prog_1_method_15_code 45 = .ok (.iload_n 1, 1) := by decide +kernel
theorem d_Nm_broader_46 : decode prog_1_method_15_code 46 = .ok (.invokestatic 141, 3) := by decide +kernel
theorem d_Nm_broader_49 : decode prog_1_method_15_code 49 = .ok (.ifCond .eq 5, 3) := by decide +kernel
theorem d_Nm_broader_52 : decode prog_1_method_15_code 52 = .ok (.iconst (-1), 1) := by decide +kernel
theorem d_Nm_broader_53 : decode prog_1_method_15_code 53 = .ok (.ireturn, 1) := by decide +kernel
theorem d_Nm_broader_54 : decode prog_1_method_15_code 54 = .ok (.aload_n 3, 1) := by decide +kernel
theorem d_Nm_broader_55 : decode prog_1_method_15_code 55 = .ok (.getfield 201, 3) := by decide +kernel
theorem d_Nm_broader_58 : decode prog_1_method_15_code 58 = .ok (.iload_n 2, 1) := by decide +kernel
theorem d_Nm_broader_59 : decode prog_1_method_15_code 59 = .ok (.invokestatic 141, 3) := by decide +kernel
theorem d_Nm_broader_62 : decode prog_1_method_15_code 62 = .ok (.ifCond .eq 5, 3) := by decide +kernel
theorem d_Nm_broader_65 : decode prog_1_method_15_code 65 = .ok (.iconst 0, 1) := by decide +kernel
theorem d_Nm_broader_66 : decode prog_1_method_15_code 66 = .ok (.ireturn, 1) := by decide +kernel
theorem d_Nm_broader_67 : decode prog_1_method_15_code 67 = .ok (.aload_n 3, 1) := by decide +kernel
theorem d_Nm_broader_68 : decode prog_1_method_15_code 68 = .ok (.dup, 1) := by decide +kernel
theorem d_Nm_broader_69 : decode prog_1_method_15_code 69 = .ok (.getfield 201, 3) := by decide +kernel
theorem d_Nm_broader_72 : decode prog_1_method_15_code 72 = .ok (.iconst 1, 1) := by decide +kernel
theorem d_Nm_broader_73 : decode prog_1_method_15_code 73 = .ok (.iload_n 2, 1) := by decide +kernel
theorem d_Nm_broader_74 : decode prog_1_method_15_code 74 = .ok (.ishl, 1) := by decide +kernel
theorem d_Nm_broader_75 : decode prog_1_method_15_code 75 = .ok (.ior, 1) := by decide +kernel
theorem d_Nm_broader_76 : decode prog_1_method_15_code 76 = .ok (.putfield 201, 3) := by decide +kernel
theorem d_Nm_broader_79 : decode prog_1_method_15_code 79 = .ok (.aload_n 0, 1) := by decide +kernel
theorem d_Nm_broader_80 : decode prog_1_method_15_code 80 = .ok (.iload_n 1, 1) := by decide +kernel
theorem d_Nm_broader_81 : decode prog_1_method_15_code 81 = .ok (.aload 4, 2) := by decide +kernel
theorem d_Nm_broader_83 : decode prog_1_method_15_code 83 = .ok (.getfield 198, 3) := by decide +kernel
theorem d_Nm_broader_86 : decode prog_1_method_15_code 86 = .ok (.iconst 1, 1) := by decide +kernel
theorem d_Nm_broader_87 : decode prog_1_method_15_code 87 = .ok (.iload_n 2, 1) := by decide +kernel
theorem d_Nm_broader_88 : decode prog_1_method_15_code 88 = .ok (.ishl, 1) := by decide +kernel
theorem d_Nm_broader_89 : decode prog_1_method_15_code 89 = .ok (.ior, 1) := by decide +kernel
theorem d_Nm_broader_90 : decode prog_1_method_15_code 90 = .ok (.invokevirtual 204, 3) := by decide +kernel
theorem d_Nm_broader_93 : decode prog_1_method_15_code 93 = .ok (.iconst 1, 1) := by decide +kernel
theorem d_Nm_broader_94 : decode prog_1_method_15_code 94 = .ok (.ireturn, 1) := by decide +kernel
set_option maxHeartbeats 4000000 in
set_option maxRecDepth 100000 in
theorem c_Nm_broader (l : Launch) (D : va_G) (cs : Nat → ClassId) (N0 : Nat) (H : Heap) (hl9 : l.stackTraces = false) (o z : Nat → Nat → Nat) (K : Nat → Nat → Nat → Int32) (r : Nat → Nat × Nat) (N : Nat) (qa qb : Int32) (hI : nmP D cs N0 H o z K r) (hN : N = H.size) : tMet l y_Nm_broader w_Nm_broader ({ frames := 7, cells := 2, slots := 12, locals := 103 }) (hPre D cs N0 [.ref (o 0 0), .int qa, .int qb] H) (hT (fun v H' => goV (isN (z 3 0) qa && isN (z 3 0) qb) true true = 0 ∧ (if (decide (qa = qb) || hasB (K 10 (tn qb) 3) qa) = true then (v = some (.int (-1)) ∧ nmP D cs N0 H' o z K r) else if hasB (K 10 (tn qa) 2) qb = true then (v = some (.int 0) ∧ nmP D cs N0 H' o z K r) else (v = some (.int 1) ∧ nmP D cs N0 H' o z (upt (cvB (tn qa) (K 10 (tn qb) 3 ||| (1 : Int32) <<< (qb &&& 31))) (z 3 0) (upK K 10 (tn qa) (upd (K 10 (tn qa)) 2 (K 10 (tn qa) 2 ||| (1 : Int32) <<< (qb &&& 31))))) r))) (fun E => (E = "java/lang/IndexOutOfBoundsException" ∧ goV (isN (z 3 0) qa && isN (z 3 0) qb) true true = 1)) (nmA r N)) 2 12 (nmA r N) := by
  refine tMet.ofW (cc := prog_1_method_15_code) (maxL := 5) (ret := (Option.some Jvm.ClassFile.FieldType.int)) (by decide) rfl ?_
  intro p e s m args below meth c s₁ B hml hno hv
  obtain ⟨rfl, rfl, hB⟩ := hv
  have hx := B.exec
  have hb := B.bytes
  have hr := B.returns
  have hts := atoms_spec (ws := w_Nm_broader) B.pre
  have htg : ∀ w ∈ gw, w.before _ s = true := fun w h => hts w (List.mem_cons_of_mem _ h)
  have hown : s.vm.findClass "NameMerges" = some m.cls := findClass_of_methodNamed B.named
  have hlocks := B.notSynchronized
  have hAN : ∀ q, nmA r N q → N0 ≤ q := fun q9 h9 => h9.elim (hI.2.1 q9) (fun h9 => Nat.le_trans hB.2.1 (hN ▸ h9))
  have hK := hB.1
  obtain ⟨H, hH⟩ : ∃ z : Heap, z = s.heap := ⟨_, rfl⟩
  have hz0 : H.size = s.heap.size := by rw [hH]
  have hN0 := hB.2.1
  rw [← hH] at hI
  have hS : va_S noA s.heap H [] := by rw [hH]; exact va_S.rf
  have hl := lv_entry ([.ref (o 0 0), .int qa, .int qb]) (n := 5) (Nat.le_of_ble_eq_true rfl)
  rw [lg_entry_eq, ← hH]
  generalize (lg_sl ([.ref (o 0 0), .int qa, .int qb]) ++ List.replicate (5 - (lg_sl ([.ref (o 0 0), .int qa, .int qb])).length) Slot.unset).toArray = ls at hl ⊢
  have hl : lv_has ls 5 [(0, .ref (o 0 0)), (1, .int qa), (2, .int qb)] := hl
  obtain ⟨hb0, hb1, hb3, hb5, hb4, hb6, hb11, hb17⟩ := hI.2.2.1
  refine lv_aload_n hx hb d_Nm_broader_0 rfl (lv_at hl 0 rfl) ?_
  refine lv_iload_n hx hb d_Nm_broader_1 rfl (lv_at hl 1 rfl) ?_
  refine t_V (As := [.int qa]) (rest := []) ⟨hx, hb, hml, hown, htg⟩ (c_Nm_checkName l D cs N0 H hl9 o z K r qa hI) ⟨x_cwB 1 htg (gw_mem (i := 738) (by decide +kernel) rfl) (gw_mem (i := 30) (by decide +kernel) rfl) (gw_mem (i := 735) (by decide +kernel) rfl) (by decide +kernel) ⟨Nat.le_of_ble_eq_true rfl, Nat.le_of_ble_eq_true rfl⟩, htg _ (gw_mem (i := 737) (by decide +kernel) rfl), htg _ (gw_mem (i := 11) (by decide +kernel) rfl)⟩ ⟨hPre.blind, hx_recv hK (ci := 1) rfl (show va_at D vwCl (o 0 0, .inr (1, [.ref (o 1 0), .ref (o 3 0), .ref (o 5 0), .ref (o 7 0), .ref (o 8 0), .int (nI (z 0 0)), .int (K 0 0 0), .ref (o 9 0)])) H from hI.at (k := 0) (n := 0) (show nmv z 0 0 from rfl)), hPre.at hB hS noA_in⟩ rfl hl.1 rfl (lv_room (Nat.le_of_ble_eq_true rfl)) d_Nm_broader_2 ⟨Nat.le_of_ble_eq_true rfl, Nat.le_of_ble_eq_true rfl⟩ (fun x9 E9 ce9 H9 L9 hL9 hb9 hc9 hv9 hf9 hz9 hk9 => ?_) (fun v9 H9 L9 hL9 hp9 hz9 hk9 => ?_)
  · have hn9 := noL hL9
    subst hn9
    have hnil := noL hS.2.2
    first | subst hnil | skip
    exact t_out (A := (nmA r N)) rfl hno hlocks ((⟨hb9.1, by simp [goV, hb9.2]⟩)) hc9 hv9 hf9 (Nat.le_of_ble_eq_true rfl) (Nat.le_of_ble_eq_true rfl)
  · skip
    obtain ⟨hv9, hH9, hq1⟩ := hp9
    have hn8 := noL hL9
    subst hn8
    rw [hv9, hH9, List.append_nil]
    refine W.eq (g2 := F0 m 5 ls []) rfl ?_
    obtain ⟨j_qa, hj_qa, e_qa⟩ := isN_of hq1 (by omega)
    rw [e_qa] at hq1
    refine lv_aload_n hx hb d_Nm_broader_5 rfl (lv_at hl 0 rfl) ?_
    refine lv_iload_n hx hb d_Nm_broader_6 rfl (lv_at hl 2 rfl) ?_
    refine t_V (As := [.int qb]) (rest := []) ⟨hx, hb, hml, hown, htg⟩ (c_Nm_checkName l D cs N0 H hl9 o z K r qb hI) ⟨x_cwB 1 htg (gw_mem (i := 738) (by decide +kernel) rfl) (gw_mem (i := 30) (by decide +kernel) rfl) (gw_mem (i := 735) (by decide +kernel) rfl) (by decide +kernel) ⟨Nat.le_of_ble_eq_true rfl, Nat.le_of_ble_eq_true rfl⟩, htg _ (gw_mem (i := 737) (by decide +kernel) rfl), htg _ (gw_mem (i := 11) (by decide +kernel) rfl)⟩ ⟨hPre.blind, hx_recv hK (ci := 1) rfl (show va_at D vwCl (o 0 0, .inr (1, [.ref (o 1 0), .ref (o 3 0), .ref (o 5 0), .ref (o 7 0), .ref (o 8 0), .int (nI (z 0 0)), .int (K 0 0 0), .ref (o 9 0)])) H from hI.at (k := 0) (n := 0) (show nmv z 0 0 from rfl)), hPre.at hB hS noA_in⟩ rfl hl.1 rfl (lv_room (Nat.le_of_ble_eq_true rfl)) d_Nm_broader_7 ⟨Nat.le_of_ble_eq_true rfl, Nat.le_of_ble_eq_true rfl⟩ (fun x9 E9 ce9 H9 L9 hL9 hb9 hc9 hv9 hf9 hz9 hk9 => ?_) (fun v9 H9 L9 hL9 hp9 hz9 hk9 => ?_)
    · have hn9 := noL hL9
      subst hn9
      have hnil := noL hS.2.2
      first | subst hnil | skip
      exact t_out (A := (nmA r N)) rfl hno hlocks ((⟨hb9.1, by simp [goV, e_qa, hq1, hb9.2]⟩)) hc9 hv9 hf9 (Nat.le_of_ble_eq_true rfl) (Nat.le_of_ble_eq_true rfl)
    · skip
      obtain ⟨hv9, hH9, hq2⟩ := hp9
      have hn8 := noL hL9
      subst hn8
      rw [hv9, hH9, List.append_nil]
      refine W.eq (g2 := F0 m 10 ls []) rfl ?_
      obtain ⟨j_qb, hj_qb, e_qb⟩ := isN_of hq2 (by omega)
      rw [e_qb] at hq2
      refine lv_aload_n hx hb d_Nm_broader_10 rfl (lv_at hl 0 rfl) ?_
      refine hx_get (ref := "NameMerges") (v := .ref (o 3 0)) hx hb htg iNm hown hK (show va_at D vwCl (o 0 0, .inr (1, [.ref (o 1 0), .ref (o 3 0), .ref (o 5 0), .ref (o 7 0), .ref (o 8 0), .int (nI (z 0 0)), .int (K 0 0 0), .ref (o 9 0)])) H from hI.at (k := 0) (n := 0) (show nmv z 0 0 from rfl)) rfl 1 (by decide) (htg _ (gw_mem (i := 127) (by decide +kernel) rfl)) (fun _ h9 => h9) rfl d_Nm_broader_11 ?_
      refine lv_iload_n hx hb d_Nm_broader_14 rfl (lv_at hl 1 rfl) ?_
      refine lv_eqi (y := (nI j_qa)) e_qa ?_
      refine h_pureq (va_runV (As := [.int (nI j_qa)]) (rest := []) ⟨hx, hb, hml, hown, htg⟩ (c_names_get l D cs N0 H o z K r j_qa hI (show j_qa < z 3 0 by omega)) ⟨x_cwB 1 htg (gw_mem (i := 512) (by decide +kernel) rfl) (gw_mem (i := 37) (by decide +kernel) rfl) (gw_mem (i := 509) (by decide +kernel) rfl) (by decide +kernel) ⟨Nat.le_of_ble_eq_true rfl, Nat.le_of_ble_eq_true rfl⟩, htg _ (gw_mem (i := 510) (by decide +kernel) rfl), htg _ (gw_mem (i := 511) (by decide +kernel) rfl)⟩ ⟨hPre.blind, hx_recv hK (ci := 6) rfl (show va_at D vwCl (o 3 0, .inr (6, [.ref (nmL cs (z 3 0) (o 4 0)), .int (nI (z 3 0)), .int (K 3 0 0)])) H from hI.at (k := 3) (n := 0) (show nmv z 3 0 from rfl)), hPre.at hB hS noA_in⟩ rfl rfl hl.1 rfl (lv_room (Nat.le_of_ble_eq_true rfl)) d_Nm_broader_15 ⟨Nat.le_of_ble_eq_true rfl, Nat.le_of_ble_eq_true rfl⟩) hS (fun locs hS => ?_)
      refine lv_eqv (y := .ref (o 10 j_qa)) rfl ?_
      refine va_castS hx hb hown (htg _ (gw_mem (i := 536) (by decide +kernel) rfl)) (x_at hK (ci := 2) rfl) (hx_recv hK (ci := 2) rfl (show va_at D vwCl (o 10 j_qa, .inr (2, [.ref (o 11 j_qa), .ref (o 13 j_qa), va_rf (if z 14 j_qa = 0 then none else some (o 14 j_qa)), .int (K 10 j_qa 0), .int (K 10 j_qa 1), .int (K 10 j_qa 2), .int (K 10 j_qa 3)])) H from hI.at (k := 10) (n := j_qa) (show nmv z 10 j_qa from (show j_qa < z 3 0 by omega)))) d_Nm_broader_18 ?_
      refine lv_astore_n (lv' := [(3, .ref (o 10 j_qa)), (0, .ref (o 0 0)), (1, .int qa), (2, .int qb)]) hx hb d_Nm_broader_21 rfl hl (by decide) rfl (fun ls hl => ?_)
      refine lv_aload_n hx hb d_Nm_broader_22 rfl (lv_at hl 1 rfl) ?_
      refine hx_get (ref := "NameMerges") (v := .ref (o 3 0)) hx hb htg iNm hown hK (show va_at D vwCl (o 0 0, .inr (1, [.ref (o 1 0), .ref (o 3 0), .ref (o 5 0), .ref (o 7 0), .ref (o 8 0), .int (nI (z 0 0)), .int (K 0 0 0), .ref (o 9 0)])) H from hI.at (k := 0) (n := 0) (show nmv z 0 0 from rfl)) rfl 1 (by decide) (htg _ (gw_mem (i := 127) (by decide +kernel) rfl)) (fun _ h9 => h9) rfl d_Nm_broader_23 ?_
      refine lv_iload_n hx hb d_Nm_broader_26 rfl (lv_at hl 3 rfl) ?_
      refine lv_eqi (y := (nI j_qb)) e_qb ?_
      refine h_pureq (va_runV (As := [.int (nI j_qb)]) (rest := []) ⟨hx, hb, hml, hown, htg⟩ (c_names_get l D cs N0 H o z K r j_qb hI (show j_qb < z 3 0 by omega)) ⟨x_cwB 1 htg (gw_mem (i := 512) (by decide +kernel) rfl) (gw_mem (i := 37) (by decide +kernel) rfl) (gw_mem (i := 509) (by decide +kernel) rfl) (by decide +kernel) ⟨Nat.le_of_ble_eq_true rfl, Nat.le_of_ble_eq_true rfl⟩, htg _ (gw_mem (i := 510) (by decide +kernel) rfl), htg _ (gw_mem (i := 511) (by decide +kernel) rfl)⟩ ⟨hPre.blind, hx_recv hK (ci := 6) rfl (show va_at D vwCl (o 3 0, .inr (6, [.ref (nmL cs (z 3 0) (o 4 0)), .int (nI (z 3 0)), .int (K 3 0 0)])) H from hI.at (k := 3) (n := 0) (show nmv z 3 0 from rfl)), hPre.at hB hS noA_in⟩ rfl rfl hl.1 rfl (lv_room (Nat.le_of_ble_eq_true rfl)) d_Nm_broader_27 ⟨Nat.le_of_ble_eq_true rfl, Nat.le_of_ble_eq_true rfl⟩) hS (fun locs hS => ?_)
      refine lv_eqv (y := .ref (o 10 j_qb)) rfl ?_
      refine va_castS hx hb hown (htg _ (gw_mem (i := 536) (by decide +kernel) rfl)) (x_at hK (ci := 2) rfl) (hx_recv hK (ci := 2) rfl (show va_at D vwCl (o 10 j_qb, .inr (2, [.ref (o 11 j_qb), .ref (o 13 j_qb), va_rf (if z 14 j_qb = 0 then none else some (o 14 j_qb)), .int (K 10 j_qb 0), .int (K 10 j_qb 1), .int (K 10 j_qb 2), .int (K 10 j_qb 3)])) H from hI.at (k := 10) (n := j_qb) (show nmv z 10 j_qb from (show j_qb < z 3 0 by omega)))) d_Nm_broader_30 ?_
      refine lv_astore (lv' := [(4, .ref (o 10 j_qb)), (3, .ref (o 10 j_qa)), (0, .ref (o 0 0)), (1, .int qa), (2, .int qb)]) hx hb d_Nm_broader_33 hl (by decide) rfl (fun ls hl => ?_)
      refine lv_iload_n hx hb d_Nm_broader_35 rfl (lv_at hl 3 rfl) ?_
      refine lv_eqi (y := (nI j_qa)) e_qa ?_
      refine lv_iload_n hx hb d_Nm_broader_36 rfl (lv_at hl 4 rfl) ?_
      refine lv_eqi (y := (nI j_qb)) e_qb ?_
      refine lv_icmp_eq (x := (nI j_qa)) (y := (nI j_qb)) (tgt := 52) hx hb d_Nm_broader_37 (by decide) (fun c37 => ?_) (fun c37 => ?_)
      · skip
        replace c37 : j_qa = j_qb := (nI_eq (a := j_qa) (b := j_qb) (by omega) (by omega)).mp c37
        refine lv_iconst (v := (-1)) hx hb d_Nm_broader_52 (by decide) ?_
        replace hS := x_wk (A' := (nmA r N)) hS (fun _ h9 => h9.elim)
        refine t_ret ?_
        exact W.iret (v := (-1)) hx hb hr (fun t ht hW => Or.inl ⟨some (.int ((-1))), rfl, (by rw [ht]; exact (by simp only [e_qa, e_qb, tnI (j := j_qa) (by omega), tnI (j := j_qb) (by omega)]; exact ⟨(by simp [goV, c37, e_qa, e_qb, hq1, hq2]), by rw [if_pos (by simp [c37])]; exact ⟨(by first | trivial | rfl), hI⟩⟩)), hS.F ht⟩) hS.2.2 d_Nm_broader_53
      · skip
        replace c37 : ¬ (j_qa = j_qb) := fun z9 => c37 ((nI_eq (a := j_qa) (b := j_qb) (by omega) (by omega)).mpr z9)
        refine lv_aload hx hb d_Nm_broader_40 (lv_at hl 0 rfl) ?_
        refine hx_get (ref := "NameMerges$Name") (v := .int (K 10 j_qb 3)) hx hb htg iNa hown hK (show va_at D vwCl (o 10 j_qb, .inr (2, [.ref (o 11 j_qb), .ref (o 13 j_qb), va_rf (if z 14 j_qb = 0 then none else some (o 14 j_qb)), .int (K 10 j_qb 0), .int (K 10 j_qb 1), .int (K 10 j_qb 2), .int (K 10 j_qb 3)])) H from hI.at (k := 10) (n := j_qb) (show nmv z 10 j_qb from (show j_qb < z 3 0 by omega))) rfl 6 (by decide) (htg _ (gw_mem (i := 665) (by decide +kernel) rfl)) (fun _ h9 => h9) rfl d_Nm_broader_42 ?_
        refine lv_iload_n hx hb d_Nm_broader_45 rfl (lv_at hl 3 rfl) ?_
        refine lv_eqi (y := (nI j_qa)) e_qa ?_
        refine h_purei (va_runS (As := [.int (K 10 j_qb 3), .int (nI j_qa)]) (rest := []) ⟨hx, hb, hml, hown, htg⟩ (c_Nm_has l D cs N0 H (K 10 j_qb 3) (nI j_qa)) ⟨x_cwB 2 htg (gw_mem (i := 530) (by decide +kernel) rfl) (gw_mem (i := 30) (by decide +kernel) rfl) (gw_mem (i := 528) (by decide +kernel) rfl) (by decide +kernel) ⟨Nat.le_of_ble_eq_true rfl, Nat.le_of_ble_eq_true rfl⟩, htg _ (gw_mem (i := 529) (by decide +kernel) rfl)⟩ ⟨hPre.blind, hPre.at hB hS noA_in⟩ rfl rfl hl.1 rfl (lv_room (Nat.le_of_ble_eq_true rfl)) d_Nm_broader_46 ⟨Nat.le_of_ble_eq_true rfl, Nat.le_of_ble_eq_true rfl⟩) hS (fun locs hS => ?_)
        refine lv_if_eq (x := (bI (hasB (K 10 j_qb 3) (nI j_qa)))) (tgt := 54) hx hb d_Nm_broader_49 (by decide) (fun c49 => ?_) (fun c49 => ?_)
        · skip
          replace c49 : (hasB (K 10 j_qb 3) (nI j_qa)) = false := bI_0 c49
          refine lv_aload_n hx hb d_Nm_broader_54 rfl (lv_at hl 1 rfl) ?_
          refine hx_get (ref := "NameMerges$Name") (v := .int (K 10 j_qa 2)) hx hb htg iNa hown hK (show va_at D vwCl (o 10 j_qa, .inr (2, [.ref (o 11 j_qa), .ref (o 13 j_qa), va_rf (if z 14 j_qa = 0 then none else some (o 14 j_qa)), .int (K 10 j_qa 0), .int (K 10 j_qa 1), .int (K 10 j_qa 2), .int (K 10 j_qa 3)])) H from hI.at (k := 10) (n := j_qa) (show nmv z 10 j_qa from (show j_qa < z 3 0 by omega))) rfl 5 (by decide) (htg _ (gw_mem (i := 663) (by decide +kernel) rfl)) (fun _ h9 => h9) rfl d_Nm_broader_55 ?_
          refine lv_iload_n hx hb d_Nm_broader_58 rfl (lv_at hl 4 rfl) ?_
          refine lv_eqi (y := (nI j_qb)) e_qb ?_
          refine h_purei (va_runS (As := [.int (K 10 j_qa 2), .int (nI j_qb)]) (rest := []) ⟨hx, hb, hml, hown, htg⟩ (c_Nm_has l D cs N0 H (K 10 j_qa 2) (nI j_qb)) ⟨x_cwB 2 htg (gw_mem (i := 530) (by decide +kernel) rfl) (gw_mem (i := 30) (by decide +kernel) rfl) (gw_mem (i := 528) (by decide +kernel) rfl) (by decide +kernel) ⟨Nat.le_of_ble_eq_true rfl, Nat.le_of_ble_eq_true rfl⟩, htg _ (gw_mem (i := 529) (by decide +kernel) rfl)⟩ ⟨hPre.blind, hPre.at hB hS noA_in⟩ rfl rfl hl.1 rfl (lv_room (Nat.le_of_ble_eq_true rfl)) d_Nm_broader_59 ⟨Nat.le_of_ble_eq_true rfl, Nat.le_of_ble_eq_true rfl⟩) hS (fun locs hS => ?_)
          refine lv_if_eq (x := (bI (hasB (K 10 j_qa 2) (nI j_qb)))) (tgt := 67) hx hb d_Nm_broader_62 (by decide) (fun c62 => ?_) (fun c62 => ?_)
          · skip
            replace c62 : (hasB (K 10 j_qa 2) (nI j_qb)) = false := bI_0 c62
            refine lv_aload_n hx hb d_Nm_broader_67 rfl (lv_at hl 1 rfl) ?_
            refine lv_dup hx hb d_Nm_broader_68 rfl ?_
            refine hx_get (ref := "NameMerges$Name") (v := .int (K 10 j_qa 2)) hx hb htg iNa hown hK (show va_at D vwCl (o 10 j_qa, .inr (2, [.ref (o 11 j_qa), .ref (o 13 j_qa), va_rf (if z 14 j_qa = 0 then none else some (o 14 j_qa)), .int (K 10 j_qa 0), .int (K 10 j_qa 1), .int (K 10 j_qa 2), .int (K 10 j_qa 3)])) H from hI.at (k := 10) (n := j_qa) (show nmv z 10 j_qa from (show j_qa < z 3 0 by omega))) rfl 5 (by decide) (htg _ (gw_mem (i := 663) (by decide +kernel) rfl)) (fun _ h9 => h9) rfl d_Nm_broader_69 ?_
            refine lv_iconst (v := 1) hx hb d_Nm_broader_72 (by decide) ?_
            refine lv_iload_n hx hb d_Nm_broader_73 rfl (lv_at hl 4 rfl) ?_
            refine lv_eqi (y := (nI j_qb)) e_qb ?_
            refine lv_ishl (x := 1) (y := (nI j_qb)) hx hb d_Nm_broader_74 ?_
            refine lv_ior (x := (K 10 j_qa 2)) (y := (1 <<< ((nI j_qb) &&& 31))) hx hb d_Nm_broader_75 ?_
            replace hS := x_wk (A' := (nmA r N)) hS (fun _ h9 => h9.elim)
            refine hx_put (ref := "NameMerges$Name") (ty := .int) (v := .int ((K 10 j_qa 2) ||| (1 <<< ((nI j_qb) &&& 31)))) hx hb htg iNa tNa tNa_ok nNa hown hK (show va_at D vwCl (o 10 j_qa, .inr (2, [.ref (o 11 j_qa), .ref (o 13 j_qa), va_rf (if z 14 j_qa = 0 then none else some (o 14 j_qa)), .int (K 10 j_qa 0), .int (K 10 j_qa 1), .int (K 10 j_qa 2), .int (K 10 j_qa 3)])) H from hI.at (k := 10) (n := j_qa) (show nmv z 10 j_qa from (show j_qa < z 3 0 by omega))) hS (hI.inA (k := 10) (n := j_qa) (show nmv z 10 j_qa from (show j_qa < z 3 0 by omega))) rfl 5 (by decide) (htg _ (gw_mem (i := 663) (by decide +kernel) rfl)) (fun _ h9 => h9) rfl (by decide +kernel) rfl rfl (Nat.le_of_ble_eq_true rfl) d_Nm_broader_76 (fun H locs hat hz ho hS => ?_)
            replace hI : nmP D cs N0 H o z (upK K 10 j_qa (upd (K 10 j_qa) 2 (((K 10 j_qa 2) ||| (1 <<< ((nI j_qb) &&& 31)))))) r := hI.put (k0 := 10) (n0 := j_qa) (show nmv z 10 j_qa from (show j_qa < z 3 0 by omega)) (by decide) hat (fun q9 _ h9 => ho q9 h9)
            refine lv_aload_n hx hb d_Nm_broader_79 rfl (lv_at hl 2 rfl) ?_
            refine lv_iload_n hx hb d_Nm_broader_80 rfl (lv_at hl 3 rfl) ?_
            refine lv_eqi (y := (nI j_qa)) e_qa ?_
            refine lv_aload hx hb d_Nm_broader_81 (lv_at hl 0 rfl) ?_
            refine hx_get (ref := "NameMerges$Name") (v := .int ((upK K 10 j_qa (upd (K 10 j_qa) 2 (((K 10 j_qa 2) ||| (1 <<< ((nI j_qb) &&& 31)))))) 10 j_qb 3)) hx hb htg iNa hown hK (show va_at D vwCl (o 10 j_qb, .inr (2, [.ref (o 11 j_qb), .ref (o 13 j_qb), va_rf (if z 14 j_qb = 0 then none else some (o 14 j_qb)), .int ((upK K 10 j_qa (upd (K 10 j_qa) 2 (((K 10 j_qa 2) ||| (1 <<< ((nI j_qb) &&& 31)))))) 10 j_qb 0), .int ((upK K 10 j_qa (upd (K 10 j_qa) 2 (((K 10 j_qa 2) ||| (1 <<< ((nI j_qb) &&& 31)))))) 10 j_qb 1), .int ((upK K 10 j_qa (upd (K 10 j_qa) 2 (((K 10 j_qa 2) ||| (1 <<< ((nI j_qb) &&& 31)))))) 10 j_qb 2), .int ((upK K 10 j_qa (upd (K 10 j_qa) 2 (((K 10 j_qa 2) ||| (1 <<< ((nI j_qb) &&& 31)))))) 10 j_qb 3)])) H from hI.at (k := 10) (n := j_qb) (show nmv z 10 j_qb from (show j_qb < z 3 0 by omega))) rfl 6 (by decide) (htg _ (gw_mem (i := 665) (by decide +kernel) rfl)) (fun _ h9 => h9) rfl d_Nm_broader_83 ?_
            refine lv_eqi (y := (K 10 j_qb 3)) brd_same ?_
            refine lv_iconst (v := 1) hx hb d_Nm_broader_86 (by decide) ?_
            refine lv_iload_n hx hb d_Nm_broader_87 rfl (lv_at hl 4 rfl) ?_
            refine lv_eqi (y := (nI j_qb)) e_qb ?_
            refine lv_ishl (x := 1) (y := (nI j_qb)) hx hb d_Nm_broader_88 ?_
            refine lv_ior (x := (K 10 j_qb 3)) (y := (1 <<< ((nI j_qb) &&& 31))) hx hb d_Nm_broader_89 ?_
            obtain ⟨nq3, hnq3⟩ : ∃ z : Nat, z = H.size := ⟨_, rfl⟩
            refine h_callv (va_runV (As := [.int (nI j_qa), .int ((K 10 j_qb 3) ||| (1 <<< ((nI j_qb) &&& 31)))]) (rest := []) ⟨hx, hb, hml, hown, htg⟩ (c_Nm_coverBelow l D cs N0 H o z (upK K 10 j_qa (upd (K 10 j_qa) 2 (((K 10 j_qa 2) ||| (1 <<< ((nI j_qb) &&& 31)))))) r nq3 j_qa (((K 10 j_qb 3) ||| (1 <<< ((nI j_qb) &&& 31)))) hI hnq3 (by omega)) ⟨x_cwB 2 htg (gw_mem (i := 901) (by decide +kernel) rfl) (gw_mem (i := 30) (by decide +kernel) rfl) (gw_mem (i := 898) (by decide +kernel) rfl) (by decide +kernel) ⟨Nat.le_of_ble_eq_true rfl, Nat.le_of_ble_eq_true rfl⟩, htg _ (gw_mem (i := 900) (by decide +kernel) rfl), htg _ (gw_mem (i := 13) (by decide +kernel) rfl)⟩ ⟨hPre.blind, hx_recv hK (ci := 1) rfl (show va_at D vwCl (o 0 0, .inr (1, [.ref (o 1 0), .ref (o 3 0), .ref (o 5 0), .ref (o 7 0), .ref (o 8 0), .int (nI (z 0 0)), .int ((upK K 10 j_qa (upd (K 10 j_qa) 2 (((K 10 j_qa 2) ||| (1 <<< ((nI j_qb) &&& 31)))))) 0 0 0), .ref (o 9 0)])) H from hI.at (k := 0) (n := 0) (show nmv z 0 0 from rfl)), hPre.at hB hS hAN⟩ rfl rfl hl.1 rfl (lv_room (Nat.le_of_ble_eq_true rfl)) d_Nm_broader_90 ⟨Nat.le_of_ble_eq_true rfl, Nat.le_of_ble_eq_true rfl⟩) hS (fun q9 h9 => h9.elim Or.inl (fun h9 => Or.inr (show N ≤ q9 by omega))) (fun H locs hp hz hk hS => ?_)
            replace hI : nmP D cs N0 H o z (upt (cvB j_qa (((K 10 j_qb 3) ||| (1 <<< ((nI j_qb) &&& 31))))) (z 3 0) (upK K 10 j_qa (upd (K 10 j_qa) 2 (((K 10 j_qa 2) ||| (1 <<< ((nI j_qb) &&& 31))))))) r := hp
            refine lv_iconst (v := 1) hx hb d_Nm_broader_93 (by decide) ?_
            refine t_ret ?_
            exact W.iret (v := 1) hx hb hr (fun t ht hW => Or.inl ⟨some (.int (1)), rfl, (by rw [ht]; exact (by simp only [e_qa, e_qb, tnI (j := j_qa) (by omega), tnI (j := j_qb) (by omega)]; exact ⟨(by simp [goV, c37, c49, c62, e_qa, e_qb, hq1, hq2]), by rw [if_neg (by simp [nI_eq (a := j_qa) (b := j_qb) (by omega) (by omega), c37, c49]), if_neg (by simp [c62])]; exact ⟨(by first | trivial | rfl), hI⟩⟩)), hS.F ht⟩) hS.2.2 d_Nm_broader_94
          · skip
            replace c62 : (hasB (K 10 j_qa 2) (nI j_qb)) = true := bI_1 c62
            refine lv_iconst (v := 0) hx hb d_Nm_broader_65 (by decide) ?_
            replace hS := x_wk (A' := (nmA r N)) hS (fun _ h9 => h9.elim)
            refine t_ret ?_
            exact W.iret (v := 0) hx hb hr (fun t ht hW => Or.inl ⟨some (.int (0)), rfl, (by rw [ht]; exact (by simp only [e_qa, e_qb, tnI (j := j_qa) (by omega), tnI (j := j_qb) (by omega)]; exact ⟨(by simp [goV, c37, c49, c62, e_qa, e_qb, hq1, hq2]), by rw [if_neg (by simp [nI_eq (a := j_qa) (b := j_qb) (by omega) (by omega), c37, c49]), if_pos c62]; exact ⟨(by first | trivial | rfl), hI⟩⟩)), hS.F ht⟩) hS.2.2 d_Nm_broader_66
        · skip
          replace c49 : (hasB (K 10 j_qb 3) (nI j_qa)) = true := bI_1 c49
          refine lv_iconst (v := (-1)) hx hb d_Nm_broader_52 (by decide) ?_
          replace hS := x_wk (A' := (nmA r N)) hS (fun _ h9 => h9.elim)
          refine t_ret ?_
          exact W.iret (v := (-1)) hx hb hr (fun t ht hW => Or.inl ⟨some (.int ((-1))), rfl, (by rw [ht]; exact (by simp only [e_qa, e_qb, tnI (j := j_qa) (by omega), tnI (j := j_qb) (by omega)]; exact ⟨(by simp [goV, c37, c49, e_qa, e_qb, hq1, hq2]), by rw [if_pos (by simp [c49])]; exact ⟨(by first | trivial | rfl), hI⟩⟩)), hS.F ht⟩) hS.2.2 d_Nm_broader_53
