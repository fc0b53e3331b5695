def y_AS_newLength : MethodName := ⟨"jdk/internal/util/ArraysSupport", "newLength", "(III)I"⟩
abbrev w_AS_newLength : List Cond := Cond.code y_AS_newLength prog_36_method_27_code 4 (Option.some Jvm.ClassFile.FieldType.int) :: gw
theorem d_AS_newLength_0 : decode prog_36_method_27_code 0 = .ok (.iload_n 0, 1) := by decide +kernel
theorem d_AS_newLength_1 : decode prog_36_method_27_code 1 = .ok (.iload_n 1, 1) := by decide +kernel
theorem d_AS_newLength_2 : decode prog_36_method_27_code 2 = .ok (.iload_n 2, 1) := by decide +kernel
theorem d_AS_newLength_3 : decode prog_36_method_27_code 3 = .ok (.invokestatic 194, 3) := by decide +kernel
theorem d_AS_newLength_6 : decode prog_36_method_27_code 6 = .ok (.iadd, 1) := by decide +kernel
theorem d_AS_newLength_7 : decode prog_36_method_27_code 7 = .ok (.istore_n 3, 1) := by decide +kernel
theorem d_AS_newLength_8 : decode prog_36_method_27_code 8 = .ok (.iconst 0, 1) := by decide +kernel
theorem d_AS_newLength_9 : decode prog_36_method_27_code 9 = .ok (.iload_n 3, 1) := by decide +kernel
theorem d_AS_newLength_10 : decode prog_36_method_27_code 10 = .ok (.if_icmp .ge 11, 3) := by decide +kernel
theorem d_AS_newLength_13 : decode prog_36_method_27_code 13 = .ok (.iload_n 3, 1) := by decide +kernel
theorem d_AS_newLength_14 : decode prog_36_method_27_code 14 = .ok (.ldc 200, 2) := by decide +kernel
theorem d_AS_newLength_16 : decode prog_36_method_27_code 16 = .ok (.if_icmp .gt 5, 3) := by decide +kernel
theorem d_AS_newLength_19 : decode prog_36_method_27_code 19 = .ok (.iload_n 3, 1) := by decide +kernel
theorem d_AS_newLength_20 : decode prog_36_method_27_code 20 = .ok (.ireturn, 1) := by decide +kernel
set_option maxHeartbeats 4000000 in
set_option maxRecDepth 100000 in
theorem c_AS_newLength (l : Launch) (D : va_G) (cs : Nat → ClassId) (N0 : Nat) (H : Heap) (o m9 p9 mx : Nat) (hmx : mx = max m9 p9) (h0 : 0 < o) (h1 : o + m9 + p9 < 100000) : Met l y_AS_newLength w_AS_newLength ({ frames := 1, cells := 0, slots := 0, locals := 22 }) (hPre D cs N0 [.int (nI o), .int (nI m9), .int (nI p9)] H) (hQi (fun r H' => H' = H ∧ r = nI (o + mx)) noA) 0 0 noA := by
  refine Met.ofW (cc := prog_36_method_27_code) (maxL := 4) (ret := (Option.some Jvm.ClassFile.FieldType.int)) (by decide) rfl ?_
  intro p e s m args below meth c s₁ B hml hv
  obtain ⟨rfl, rfl, hB⟩ := hv
  have hx := B.exec
  have hb := B.bytes
  have hr := B.returns
  have hts := atoms_spec (ws := w_AS_newLength) B.pre
  have htg : ∀ w ∈ gw, w.before _ s = true := fun w h => hts w (List.mem_cons_of_mem _ h)
  have hown : s.vm.findClass "jdk/internal/util/ArraysSupport" = some m.cls := findClass_of_methodNamed B.named
  have hlocks := B.notSynchronized
  have hK := hB.1
  obtain ⟨H, hH⟩ : ∃ z : Heap, z = s.heap := ⟨_, rfl⟩
  have hz0 : H.size = s.heap.size := by rw [hH]
  have hN0 := hB.2.1
  have hS : va_S noA s.heap H [] := by rw [hH]; exact va_S.rf
  have hl := lv_entry ([.int (nI o), .int (nI m9), .int (nI p9)]) (n := 4) (Nat.le_of_ble_eq_true rfl)
  rw [lg_entry_eq, ← hH]
  generalize (lg_sl ([.int (nI o), .int (nI m9), .int (nI p9)]) ++ List.replicate (4 - (lg_sl ([.int (nI o), .int (nI m9), .int (nI p9)])).length) Slot.unset).toArray = ls at hl ⊢
  have hl : lv_has ls 4 [(0, .int (nI o)), (1, .int (nI m9)), (2, .int (nI p9))] := hl
  refine lv_iload_n hx hb d_AS_newLength_0 rfl (lv_at hl 0 rfl) ?_
  refine lv_iload_n hx hb d_AS_newLength_1 rfl (lv_at hl 1 rfl) ?_
  refine lv_iload_n hx hb d_AS_newLength_2 rfl (lv_at hl 2 rfl) ?_
  refine va_mmax (x := (nI m9)) (y := (nI p9)) hx hb (hml.trans hl.1.symm) hown (htg _ (gw_mem (i := 200) (by decide +kernel) rfl)) (htg _ (gw_mem (i := 201) (by decide +kernel) rfl)) (htg _ (gw_mem (i := 45) (by decide +kernel) rfl)) (htg _ (gw_mem (w := Cond.code Lib.Math.max.name Lib.Math.max.code 2 (some .int)) (i := 202) (by decide +kernel) rfl)) (by exact Nat.le_of_ble_eq_true rfl) (by exact Nat.le_of_ble_eq_true rfl) (by exact Nat.le_of_ble_eq_true rfl) (by exact Nat.le_of_ble_eq_true rfl) d_AS_newLength_3 ?_
  refine lv_eqi (y := (maxV (nI m9) (nI p9))) rfl ?_
  refine lv_eqi (y := (nI mx)) ((x_max (by omega) (by omega)).trans (congrArg nI hmx.symm)) ?_
  refine lv_iadd (x := (nI o)) (y := (nI mx)) hx hb d_AS_newLength_6 ?_
  refine lv_eqi (y := (nI (o + mx))) (nI_add o mx) ?_
  refine lv_istore_n (lv' := [(3, .int (nI (o + mx))), (0, .int (nI o)), (1, .int (nI m9)), (2, .int (nI p9))]) hx hb d_AS_newLength_7 rfl hl (by decide) rfl (fun ls hl => ?_)
  refine lv_iconst (v := 0) hx hb d_AS_newLength_8 (by decide) ?_
  refine lv_iload_n hx hb d_AS_newLength_9 rfl (lv_at hl 0 rfl) ?_
  refine lv_icmp_ge (x := 0) (y := (nI (o + mx))) (tgt := 21) hx hb d_AS_newLength_10 (by decide) (fun c10 => ?_) (fun c10 => ?_)
  · skip
    replace c10 : (o + mx) ≤ 0 := (nI_leI (a := (o + mx)) (b := 0) (by omega) (by omega)).mp c10
    exact absurd c10 (by omega)
  · skip
    replace c10 : ¬ ((o + mx) ≤ 0) := fun z9 => c10 ((nI_leI (a := (o + mx)) (b := 0) (by omega) (by omega)).mpr z9)
    refine lv_iload_n hx hb d_AS_newLength_13 rfl (lv_at hl 0 rfl) ?_
    refine lv_ldc (v := 2147483639) hx hb hown (htg _ (gw_mem (i := 203) (by decide +kernel) rfl)) d_AS_newLength_14 ?_
    refine lv_icmp_gt (x := (nI (o + mx))) (y := 2147483639) (tgt := 21) hx hb d_AS_newLength_16 (by decide) (fun c16 => ?_) (fun c16 => ?_)
    · skip
      replace c16 : 2147483639 < (o + mx) := (nI_ltI (a := 2147483639) (b := (o + mx)) (by omega) (by omega)).mp c16
      exact absurd c16 (by omega)
    · skip
      replace c16 : ¬ (2147483639 < (o + mx)) := fun z9 => c16 ((nI_ltI (a := 2147483639) (b := (o + mx)) (by omega) (by omega)).mpr z9)
      refine lv_iload_n hx hb d_AS_newLength_19 rfl (lv_at hl 0 rfl) ?_
      exact W.iret (v := (nI (o + mx))) hx hb hr (fun t ht hW => ⟨⟨(nI (o + mx)), H, rfl, ⟨rfl, rfl⟩, ht⟩, hS.F ht⟩) hS.2.2 d_AS_newLength_20
def y_Ar_copyOf3 : MethodName := ⟨"java/util/Arrays", "copyOf", "([Ljava/lang/Object;ILjava/lang/Class;)[Ljava/lang/Object;"⟩
abbrev w_Ar_copyOf3 : List Cond := Cond.code y_Ar_copyOf3 prog_30_method_120_code 4 (Option.some (Jvm.ClassFile.FieldType.array (Jvm.ClassFile.FieldType.object "java/lang/Object"))) :: gw
theorem d_Ar_copyOf3_0 : decode prog_30_method_120_code 0 = .ok (.aload_n 2, 1) := by decide +kernel
theorem d_Ar_copyOf3_1 : decode prog_30_method_120_code 1 = .ok (.ldc 110, 2) := by decide +kernel
theorem d_Ar_copyOf3_3 : decode prog_30_method_120_code 3 = .ok (.if_acmp .ne 10, 3) := by decide +kernel
theorem d_Ar_copyOf3_6 : decode prog_30_method_120_code 6 = .ok (.iload_n 1, 1) := by decide +kernel
theorem d_Ar_copyOf3_7 : decode prog_30_method_120_code 7 = .ok (.anewarray 2, 3) := by decide +kernel
theorem d_Ar_copyOf3_10 : decode prog_30_method_120_code 10 = .ok (.goto 14, 3) := by decide +kernel
theorem d_Ar_copyOf3_24 : decode prog_30_method_120_code 24 = .ok (.astore_n 3, 1) := by decide +kernel
theorem d_Ar_copyOf3_25 : decode prog_30_method_120_code 25 = .ok (.aload_n 0, 1) := by decide +kernel
theorem d_Ar_copyOf3_26 : decode prog_30_method_120_code 26 = .ok (.iconst 0, 1) := by decide +kernel
theorem d_Ar_copyOf3_27 : decode prog_30_method_120_code 27 = .ok (.aload_n 3, 1) := by decide +kernel
theorem d_Ar_copyOf3_28 : decode prog_30_method_120_code 28 = .ok (.iconst 0, 1) := by decide +kernel
theorem d_Ar_copyOf3_29 : decode prog_30_method_120_code 29 = .ok (.aload_n 0, 1) := by decide +kernel
theorem d_Ar_copyOf3_30 : decode prog_30_method_120_code 30 = .ok (.arraylength, 1) := by decide +kernel
theorem d_Ar_copyOf3_31 : decode prog_30_method_120_code 31 = .ok (.iload_n 1, 1) := by decide +kernel
theorem d_Ar_copyOf3_32 : decode prog_30_method_120_code 32 = .ok (.invokestatic 304, 3) := by decide +kernel
theorem d_Ar_copyOf3_35 : decode prog_30_method_120_code 35 = .ok (.invokestatic 150, 3) := by decide +kernel
theorem d_Ar_copyOf3_38 : decode prog_30_method_120_code 38 = .ok (.aload_n 3, 1) := by decide +kernel
theorem d_Ar_copyOf3_39 : decode prog_30_method_120_code 39 = .ok (.areturn, 1) := by decide +kernel
set_option maxHeartbeats 4000000 in
set_option maxRecDepth 100000 in
theorem c_Ar_copyOf3 (l : Launch) (D : va_G) (cs : Nat → ClassId) (N0 : Nat) (H : Heap) (ea cap k N ci : Nat) (qc : vw_C) (el : Nat → Option Nat) (h2 : va_at D vwCl (ea, .inl (cs 4, (cap, .inr (.inr (.inr (.inr el)))))) H) (hN : N = H.size) (he0 : N0 ≤ ea) (hel : ∀ i y, i < cap → el i = some y → isE D H ci y) (hci : vwCl[ci]? = some qc) (hca : (qc.1, "java/lang/Object") ∈ zCst) (hk : cap ≤ k) (hk2 : k < 200) : Met l y_Ar_copyOf3 w_Ar_copyOf3 ({ frames := 1, cells := 1, slots := 200, locals := 40 }) (hPre D cs N0 [.ref ea, .int (nI k), .ref (cs 8)] H) (hQq (fun r H' => r = some N ∧ va_at D vwCl (N, .inl (cs 4, (k, .inr (.inr (.inr (.inr (va_cpy el (fun _ => none) 0 0 cap))))))) H') (jA [ea] N)) 1 200 (jA [ea] N) := by
  refine Met.ofW (cc := prog_30_method_120_code) (maxL := 4) (ret := (Option.some (Jvm.ClassFile.FieldType.array (Jvm.ClassFile.FieldType.object "java/lang/Object")))) (by decide) rfl ?_
  intro p e s m args below meth c s₁ B hml hv
  obtain ⟨rfl, rfl, hB⟩ := hv
  have hx := B.exec
  have hb := B.bytes
  have hr := B.returns
  have hts := atoms_spec (ws := w_Ar_copyOf3) B.pre
  have htg : ∀ w ∈ gw, w.before _ s = true := fun w h => hts w (List.mem_cons_of_mem _ h)
  have hown : s.vm.findClass "java/util/Arrays" = some m.cls := findClass_of_methodNamed B.named
  have hlocks := B.notSynchronized
  have hAN : ∀ q, (jA [ea] N) q → N0 ≤ q := jA_sub1 he0 (fun q9 h9 => Nat.le_trans hB.2.1 (hN ▸ h9))
  have hK := hB.1
  obtain ⟨H, hH⟩ : ∃ z : Heap, z = s.heap := ⟨_, rfl⟩
  have hz0 : H.size = s.heap.size := by rw [hH]
  have hN0 := hB.2.1
  rw [← hH] at h2 hel
  have hS : va_S (jA [ea] N) s.heap H [] := by rw [hH]; exact va_S.rf
  have hl := lv_entry ([.ref ea, .int (nI k), .ref (cs 8)]) (n := 4) (Nat.le_of_ble_eq_true rfl)
  rw [lg_entry_eq, ← hH]
  generalize (lg_sl ([.ref ea, .int (nI k), .ref (cs 8)]) ++ List.replicate (4 - (lg_sl ([.ref ea, .int (nI k), .ref (cs 8)])).length) Slot.unset).toArray = ls at hl ⊢
  have hl : lv_has ls 4 [(0, .ref ea), (1, .int (nI k)), (2, .ref (cs 8))] := hl
  refine lv_aload_n hx hb d_Ar_copyOf3_0 rfl (lv_at hl 2 rfl) ?_
  refine va_ldcM hx hb hown (htg _ (gw_mem (i := 722) (by decide +kernel) rfl)) hB.2.2.2.2.2.2.2.2.1 d_Ar_copyOf3_1 ?_
  refine lv_acmp_ne (rx := some (cs 8)) (ry := some (cs 8)) (tgt := 13) hx hb d_Ar_copyOf3_3 (by decide) (fun c3 => ?_) (fun c3 => ?_)
  · skip
    exact absurd rfl c3
  · skip
    refine lv_iload_n hx hb d_Ar_copyOf3_6 rfl (lv_at hl 1 rfl) ?_
    obtain ⟨bq, hbq⟩ : ∃ z : Nat, z = H.size := ⟨_, rfl⟩
    have hlt_q2 : ea < bq := hbq ▸ hx_lt h2
    refine hx_newq (N' := k) hx hb hown (htg _ (gw_mem (i := 724) (by decide +kernel) rfl)) (va_AO.use hB.2.2.1.2.2.2.2.1) hK hS 4 rfl (nI_pos (by omega)) (nI_clamp (by omega)) (by omega) (Nat.le_of_ble_eq_true rfl) (Nat.le_trans (show 0 + k ≤ 200 by omega) (Nat.le_of_ble_eq_true rfl)) d_Ar_copyOf3_7 (fun H hat hz ho hS => ?_)
    refine W.widen (k := 1) (n := 200) (Nat.le_refl _) (by omega) ?_
    rw [← hbq] at hat hz ho
    rw [← hbq]
    have hO1 : va_at D vwCl (bq, .inl (cs 4, (k, .inr (.inr (.inr (.inr (fun _ => none))))))) H := hat
    replace h2 := hx_keep h2 (ho _ (by omega))
    replace hel : ∀ i y, i < cap → el i = some y → isE D H ci y := fun i y hi hy => (hel i y hi hy).keep (ho _ (by have := (hel i y hi hy).lt; omega))
    refine lv_goto (tgt := 24) hx hb d_Ar_copyOf3_10 (by decide) ?_
    refine lv_astore_n (lv' := [(3, .ref bq), (0, .ref ea), (1, .int (nI k)), (2, .ref (cs 8))]) hx hb d_Ar_copyOf3_24 rfl hl (by decide) rfl (fun ls hl => ?_)
    refine lv_aload_n hx hb d_Ar_copyOf3_25 rfl (lv_at hl 1 rfl) ?_
    refine lv_iconst (v := 0) hx hb d_Ar_copyOf3_26 (by decide) ?_
    refine lv_aload_n hx hb d_Ar_copyOf3_27 rfl (lv_at hl 0 rfl) ?_
    refine lv_iconst (v := 0) hx hb d_Ar_copyOf3_28 (by decide) ?_
    refine lv_aload_n hx hb d_Ar_copyOf3_29 rfl (lv_at hl 1 rfl) ?_
    refine hx_alen (v := (nI cap)) hx hb hK 4 h2 rfl rfl d_Ar_copyOf3_30 ?_
    refine lv_iload_n hx hb d_Ar_copyOf3_31 rfl (lv_at hl 2 rfl) ?_
    refine va_mmin (x := (nI cap)) (y := (nI k)) hx hb (hml.trans hl.1.symm) hown (htg _ (gw_mem (i := 218) (by decide +kernel) rfl)) (htg _ (gw_mem (i := 219) (by decide +kernel) rfl)) (htg _ (gw_mem (i := 45) (by decide +kernel) rfl)) (htg _ (gw_mem (w := Cond.code Lib.Math.min.name Lib.Math.min.code 2 (some .int)) (i := 220) (by decide +kernel) rfl)) (by exact Nat.le_of_ble_eq_true rfl) (by exact Nat.le_of_ble_eq_true rfl) (by exact Nat.le_of_ble_eq_true rfl) (by exact Nat.le_of_ble_eq_true rfl) d_Ar_copyOf3_32 ?_
    refine lv_eqi (y := (minV (nI cap) (nI k))) rfl ?_
    refine lv_eqi (y := (nI cap)) (x_min2 (a := cap) (b := k) (by omega) (by omega)) ?_
    refine hx_copyq hx hb (hml.trans hl.1.symm) hown (htg _ (gw_mem (i := 221) (by decide +kernel) rfl)) (htg _ (gw_mem (i := 223) (by decide +kernel) rfl)) (htg _ (gw_mem (i := 222) (by decide +kernel) rfl)) (htg _ (gw_mem (i := 47) (by decide +kernel) rfl)) hK 4 h2 hO1 (show ea ≠ bq by omega) jA_in1 (Or.inr (show N ≤ bq by omega)) hS rfl (show cap ≤ cap by omega) (show cap ≤ k by omega) (by omega) (fun i y hi hy => (hel i y hi hy).elim fun fs hf => hx_recv hK hci hf) (hB.2.2.1.2.1 (qc.1, "java/lang/Object") hca) (Nat.le_of_ble_eq_true rfl) (Nat.le_of_ble_eq_true rfl) d_Ar_copyOf3_35 (fun H locs h0c h1c hS => ?_)
    replace h2 := h0c
    replace hO1 : va_at D vwCl (bq, .inl (cs 4, (k, .inr (.inr (.inr (.inr (va_cpy el ((fun _ => none)) 0 0 cap))))))) H := h1c
    refine lv_aload_n hx hb d_Ar_copyOf3_38 rfl (lv_at hl 0 rfl) ?_
    exact W.aret (v := .ref bq) hx hb hr (Or.inr ⟨_, rfl⟩) (Or.inr ⟨_, rfl⟩) (fun t ht hW => ⟨⟨some bq, H, rfl, (show bq = N by omega) ▸ ⟨rfl, hO1⟩, ht⟩, hS.F ht⟩) hS.2.2 d_Ar_copyOf3_39
def y_Ar_copyOf : MethodName := ⟨"java/util/Arrays", "copyOf", "([Ljava/lang/Object;I)[Ljava/lang/Object;"⟩
abbrev w_Ar_copyOf : List Cond := Cond.code y_Ar_copyOf prog_30_method_119_code 2 (Option.some (Jvm.ClassFile.FieldType.array (Jvm.ClassFile.FieldType.object "java/lang/Object"))) :: gw
theorem d_Ar_copyOf_0 : decode prog_30_method_119_code 0 = .ok (.aload_n 0, 1) := by decide +kernel
theorem d_Ar_copyOf_1 : decode prog_30_method_119_code 1 = .ok (.iload_n 1, 1) := by decide +kernel
theorem d_Ar_copyOf_2 : decode prog_30_method_119_code 2 = .ok (.aload_n 0, 1) := by decide +kernel
theorem d_Ar_copyOf_3 : decode prog_30_method_119_code 3 = .ok (.invokevirtual 86, 3) := by decide +kernel
theorem d_Ar_copyOf_6 : decode prog_30_method_119_code 6 = .ok (.invokestatic 300, 3) := by decide +kernel
theorem d_Ar_copyOf_9 : decode prog_30_method_119_code 9 = .ok (.areturn, 1) := by decide +kernel
set_option maxHeartbeats 4000000 in
set_option maxRecDepth 100000 in
theorem c_Ar_copyOf (l : Launch) (D : va_G) (cs : Nat → ClassId) (N0 : Nat) (H : Heap) (ea cap k N ci : Nat) (qc : vw_C) (el : Nat → Option Nat) (h2 : va_at D vwCl (ea, .inl (cs 4, (cap, .inr (.inr (.inr (.inr el)))))) H) (hN : N = H.size) (he0 : N0 ≤ ea) (hel : ∀ i y, i < cap → el i = some y → isE D H ci y) (hci : vwCl[ci]? = some qc) (hca : (qc.1, "java/lang/Object") ∈ zCst) (hk : cap ≤ k) (hk2 : k < 200) : Met l y_Ar_copyOf w_Ar_copyOf ({ frames := 2, cells := 1, slots := 200, locals := 63 }) (hPre D cs N0 [.ref ea, .int (nI k)] H) (hQq (fun r H' => r = some N ∧ va_at D vwCl (N, .inl (cs 4, (k, .inr (.inr (.inr (.inr (va_cpy el (fun _ => none) 0 0 cap))))))) H') (jA [ea] N)) 1 200 (jA [ea] N) := by
  refine Met.ofW (cc := prog_30_method_119_code) (maxL := 2) (ret := (Option.some (Jvm.ClassFile.FieldType.array (Jvm.ClassFile.FieldType.object "java/lang/Object")))) (by decide) rfl ?_
  intro p e s m args below meth c s₁ B hml hv
  obtain ⟨rfl, rfl, hB⟩ := hv
  have hx := B.exec
  have hb := B.bytes
  have hr := B.returns
  have hts := atoms_spec (ws := w_Ar_copyOf) B.pre
  have htg : ∀ w ∈ gw, w.before _ s = true := fun w h => hts w (List.mem_cons_of_mem _ h)
  have hown : s.vm.findClass "java/util/Arrays" = some m.cls := findClass_of_methodNamed B.named
  have hlocks := B.notSynchronized
  have hAN : ∀ q, (jA [ea] N) q → N0 ≤ q := jA_sub1 he0 (fun q9 h9 => Nat.le_trans hB.2.1 (hN ▸ h9))
  have hK := hB.1
  obtain ⟨H, hH⟩ : ∃ z : Heap, z = s.heap := ⟨_, rfl⟩
  have hz0 : H.size = s.heap.size := by rw [hH]
  have hN0 := hB.2.1
  rw [← hH] at h2 hel
  have hS : va_S (jA [ea] N) s.heap H [] := by rw [hH]; exact va_S.rf
  have hl := lv_entry ([.ref ea, .int (nI k)]) (n := 2) (Nat.le_of_ble_eq_true rfl)
  rw [lg_entry_eq, ← hH]
  generalize (lg_sl ([.ref ea, .int (nI k)]) ++ List.replicate (2 - (lg_sl ([.ref ea, .int (nI k)])).length) Slot.unset).toArray = ls at hl ⊢
  have hl : lv_has ls 2 [(0, .ref ea), (1, .int (nI k))] := hl
  refine lv_aload_n hx hb d_Ar_copyOf_0 rfl (lv_at hl 0 rfl) ?_
  refine lv_iload_n hx hb d_Ar_copyOf_1 rfl (lv_at hl 1 rfl) ?_
  refine lv_aload_n hx hb d_Ar_copyOf_2 rfl (lv_at hl 0 rfl) ?_
  refine va_getC (C := "[Ljava/lang/Object;") (mi := cs 8) hx hb (hml.trans hl.1.symm) hown (htg _ (gw_mem (i := 701) (by decide +kernel) rfl)) (va_Nw.use rfl (hB.2.2.1.1 _ (by decide))) (htg _ (gw_mem (i := 1241) (by decide +kernel) rfl)) (htg _ (gw_mem (i := 702) (by decide +kernel) rfl)) (htg _ (gw_mem (i := 718) (by decide +kernel) rfl)) hB.2.2.2.2.2.2.2.2.1 (x_arecv hK h2) (Nat.le_of_ble_eq_true rfl) (Nat.le_of_ble_eq_true rfl) d_Ar_copyOf_3 ?_
  obtain ⟨nq1, hnq1⟩ : ∃ z : Nat, z = H.size := ⟨_, rfl⟩
  have hlt_q2 := hx_lt h2
  refine h_callq (va_runS (As := [.ref ea, .int (nI k), .ref (cs 8)]) (rest := []) ⟨hx, hb, hml, hown, htg⟩ (c_Ar_copyOf3 l D cs N0 H ea cap k nq1 ci qc el h2 hnq1 (by omega) hel hci hca (by omega) (by omega)) ⟨x_cwB 3 htg (gw_mem (i := 721) (by decide +kernel) rfl) (gw_mem (i := 46) (by decide +kernel) rfl) (gw_mem (i := 719) (by decide +kernel) rfl) (by decide +kernel) ⟨Nat.le_of_ble_eq_true rfl, Nat.le_of_ble_eq_true rfl⟩, htg _ (gw_mem (i := 720) (by decide +kernel) rfl)⟩ ⟨hPre.blind, hPre.at hB hS hAN⟩ rfl rfl hl.1 rfl (lv_room (Nat.le_of_ble_eq_true rfl)) d_Ar_copyOf_6 ⟨Nat.le_of_ble_eq_true rfl, Nat.le_of_ble_eq_true rfl⟩) hS (jA_sub1 jA_in1 (fun q9 h9 => Or.inr (show N ≤ q9 by omega))) (fun r6 H locs hp hz hk hS => ?_)
  obtain ⟨hr9, hO3⟩ := hp
  subst hr9
  refine lv_eqv (y := .ref nq1) rfl ?_
  exact W.aret (v := .ref nq1) hx hb hr (Or.inr ⟨_, rfl⟩) (Or.inr ⟨_, rfl⟩) (fun t ht hW => ⟨⟨some nq1, H, rfl, (show nq1 = N by omega) ▸ ⟨rfl, hO3⟩, ht⟩, hS.F ht⟩) hS.2.2 d_Ar_copyOf_9
def y_AL_growI_f : MethodName := ⟨"java/util/ArrayList", "grow", "(I)[Ljava/lang/Object;"⟩
abbrev w_AL_growI_f : List Cond := Cond.code y_AL_growI_f prog_29_method_6_code 4 (Option.some (Jvm.ClassFile.FieldType.array (Jvm.ClassFile.FieldType.object "java/lang/Object"))) :: gw
theorem d_AL_growI_f_0 : decode prog_29_method_6_code 0 = .ok (.aload_n 0, 1) := by decide +kernel
theorem d_AL_growI_f_1 : decode prog_29_method_6_code 1 = .ok (.getfield 9, 3) := by decide +kernel
theorem d_AL_growI_f_4 : decode prog_29_method_6_code 4 = .ok (.arraylength, 1) := by decide +kernel
theorem d_AL_growI_f_5 : decode prog_29_method_6_code 5 = .ok (.istore_n 2, 1) := by decide +kernel
theorem d_AL_growI_f_6 : decode prog_29_method_6_code 6 = .ok (.iload_n 2, 1) := by decide +kernel
theorem d_AL_growI_f_7 : decode prog_29_method_6_code 7 = .ok (.ifCond .gt 13, 3) := by decide +kernel
theorem d_AL_growI_f_20 : decode prog_29_method_6_code 20 = .ok (.iload_n 2, 1) := by decide +kernel
theorem d_AL_growI_f_21 : decode prog_29_method_6_code 21 = .ok (.iload_n 1, 1) := by decide +kernel
theorem d_AL_growI_f_22 : decode prog_29_method_6_code 22 = .ok (.iload_n 2, 1) := by decide +kernel
theorem d_AL_growI_f_23 : decode prog_29_method_6_code 23 = .ok (.isub, 1) := by decide +kernel
theorem d_AL_growI_f_24 : decode prog_29_method_6_code 24 = .ok (.iload_n 2, 1) := by decide +kernel
theorem d_AL_growI_f_25 : decode prog_29_method_6_code 25 = .ok (.iconst 1, 1) := by decide +kernel
theorem d_AL_growI_f_26 : decode prog_29_method_6_code 26 = .ok (.ishr, 1) := by decide +kernel
theorem d_AL_growI_f_27 : decode prog_29_method_6_code 27 = .ok (.invokestatic 73, 3) := by decide +kernel
theorem d_AL_growI_f_30 : decode prog_29_method_6_code 30 = .ok (.istore_n 3, 1) := by decide +kernel
theorem d_AL_growI_f_31 : decode prog_29_method_6_code 31 = .ok (.aload_n 0, 1) := by decide +kernel
theorem d_AL_growI_f_32 : decode prog_29_method_6_code 32 = .ok (.aload_n 0, 1) := by decide +kernel
theorem d_AL_growI_f_33 : decode prog_29_method_6_code 33 = .ok (.getfield 9, 3) := by decide +kernel
theorem d_AL_growI_f_36 : decode prog_29_method_6_code 36 = .ok (.iload_n 3, 1) := by decide +kernel
theorem d_AL_growI_f_37 : decode prog_29_method_6_code 37 = .ok (.invokestatic 66, 3) := by decide +kernel
theorem d_AL_growI_f_40 : decode prog_29_method_6_code 40 = .ok (.dup_x1, 1) := by decide +kernel
theorem d_AL_growI_f_41 : decode prog_29_method_6_code 41 = .ok (.putfield 9, 3) := by decide +kernel
theorem d_AL_growI_f_44 : decode prog_29_method_6_code 44 = .ok (.areturn, 1) := by decide +kernel
set_option maxHeartbeats 4000000 in
set_option maxRecDepth 100000 in
theorem c_AL_growI_f (l : Launch) (D : va_G) (cs : Nat → ClassId) (N0 : Nat) (H : Heap) (x ea cap N ci : Nat) (mc : Int32) (qc : vw_C) (el : Nat → Option Nat) (h1 : va_at D vwCl (x, .inr (6, [.ref ea, .int (nI cap), .int mc])) H) (h2 : va_at D vwCl (ea, .inl (cs 4, (cap, .inr (.inr (.inr (.inr el)))))) H) (hN : N = H.size) (hx0 : N0 ≤ x) (he0 : N0 ≤ ea) (hxe : x ≠ ea) (hel : ∀ i y, i < cap → el i = some y → isE D H ci y) (hci : vwCl[ci]? = some qc) (hca : (qc.1, "java/lang/Object") ∈ zCst) (hc1 : 10 ≤ cap) (hc2 : cap < 100) : Met l y_AL_growI_f w_AL_growI_f ({ frames := 3, cells := 1, slots := 200, locals := 84 }) (hPre D cs N0 [.ref x, .int (nI (cap + 1))] H) (hQq (fun r H' => r = some N ∧ va_at D vwCl (x, .inr (6, [.ref N, .int (nI cap), .int mc])) H' ∧ va_at D vwCl (N, .inl (cs 4, (cap + cap / 2, .inr (.inr (.inr (.inr (va_cpy el (fun _ => none) 0 0 cap))))))) H') (jA [x, ea] N)) 1 200 (jA [x, ea] N) := by
  refine Met.ofW (cc := prog_29_method_6_code) (maxL := 4) (ret := (Option.some (Jvm.ClassFile.FieldType.array (Jvm.ClassFile.FieldType.object "java/lang/Object")))) (by decide) rfl ?_
  intro p e s m args below meth c s₁ B hml hv
  obtain ⟨rfl, rfl, hB⟩ := hv
  have hx := B.exec
  have hb := B.bytes
  have hr := B.returns
  have hts := atoms_spec (ws := w_AL_growI_f) B.pre
  have htg : ∀ w ∈ gw, w.before _ s = true := fun w h => hts w (List.mem_cons_of_mem _ h)
  have hown : s.vm.findClass "java/util/ArrayList" = some m.cls := findClass_of_methodNamed B.named
  have hlocks := B.notSynchronized
  have hAN : ∀ q, (jA [x, ea] N) q → N0 ≤ q := jA_sub2 hx0 he0 (fun q9 h9 => Nat.le_trans hB.2.1 (hN ▸ h9))
  have hK := hB.1
  obtain ⟨H, hH⟩ : ∃ z : Heap, z = s.heap := ⟨_, rfl⟩
  have hz0 : H.size = s.heap.size := by rw [hH]
  have hN0 := hB.2.1
  rw [← hH] at h1 h2 hel
  have hS : va_S (jA [x, ea] N) s.heap H [] := by rw [hH]; exact va_S.rf
  have hl := lv_entry ([.ref x, .int (nI (cap + 1))]) (n := 4) (Nat.le_of_ble_eq_true rfl)
  rw [lg_entry_eq, ← hH]
  generalize (lg_sl ([.ref x, .int (nI (cap + 1))]) ++ List.replicate (4 - (lg_sl ([.ref x, .int (nI (cap + 1))])).length) Slot.unset).toArray = ls at hl ⊢
  have hl : lv_has ls 4 [(0, .ref x), (1, .int (nI (cap + 1)))] := hl
  refine lv_aload_n hx hb d_AL_growI_f_0 rfl (lv_at hl 0 rfl) ?_
  refine hx_get (ref := "java/util/ArrayList") (v := .ref ea) hx hb htg iAL hown hK h1 rfl 0 (by decide) (htg _ (gw_mem (i := 114) (by decide +kernel) rfl)) (fun _ h9 => h9) rfl d_AL_growI_f_1 ?_
  refine hx_alen (v := (nI cap)) hx hb hK 4 h2 rfl rfl d_AL_growI_f_4 ?_
  refine lv_istore_n (lv' := [(2, .int (nI cap)), (0, .ref x), (1, .int (nI (cap + 1)))]) hx hb d_AL_growI_f_5 rfl hl (by decide) rfl (fun ls hl => ?_)
  refine lv_iload_n hx hb d_AL_growI_f_6 rfl (lv_at hl 0 rfl) ?_
  refine lv_if_gt (x := (nI cap)) (tgt := 20) hx hb d_AL_growI_f_7 (by decide) (fun c7 => ?_) (fun c7 => ?_)
  · skip
    replace c7 : 0 < cap := (nI_ltI (a := 0) (b := cap) (by omega) (by omega)).mp c7
    refine lv_iload_n hx hb d_AL_growI_f_20 rfl (lv_at hl 0 rfl) ?_
    refine lv_iload_n hx hb d_AL_growI_f_21 rfl (lv_at hl 2 rfl) ?_
    refine lv_iload_n hx hb d_AL_growI_f_22 rfl (lv_at hl 0 rfl) ?_
    refine lv_isub (x := (nI (cap + 1))) (y := (nI cap)) hx hb d_AL_growI_f_23 ?_
    refine lv_eqi (y := 1) ((pk_sub (a := cap + 1) (b := cap) (by omega)).trans (by rw [show cap + 1 - cap = 1 by omega]; rfl)) ?_
    refine lv_iload_n hx hb d_AL_growI_f_24 rfl (lv_at hl 0 rfl) ?_
    refine lv_iconst (v := 1) hx hb d_AL_growI_f_25 (by decide) ?_
    refine lv_ishr (x := (nI cap)) (y := 1) hx hb d_AL_growI_f_26 ?_
    refine lv_eqi (y := (nI (cap / 2))) (x_half cap (by omega)) ?_
    refine h_purei (va_runS (As := [.int (nI cap), .int 1, .int (nI (cap / 2))]) (rest := []) ⟨hx, hb, hml, hown, htg⟩ (c_AS_newLength l D cs N0 H cap 1 (cap / 2) (cap / 2) (by omega) (by omega) (by omega)) ⟨x_cwB 3 htg (gw_mem (i := 199) (by decide +kernel) rfl) (gw_mem (i := 44) (by decide +kernel) rfl) (gw_mem (i := 697) (by decide +kernel) rfl) (by decide +kernel) ⟨Nat.le_of_ble_eq_true rfl, Nat.le_of_ble_eq_true rfl⟩, htg _ (gw_mem (i := 198) (by decide +kernel) rfl)⟩ ⟨hPre.blind, hPre.at hB hS hAN⟩ rfl rfl hl.1 rfl (lv_room (Nat.le_of_ble_eq_true rfl)) d_AL_growI_f_27 ⟨Nat.le_of_ble_eq_true rfl, Nat.le_of_ble_eq_true rfl⟩) hS (fun locs hS => ?_)
    refine lv_istore_n (lv' := [(3, .int (nI (cap + (cap / 2)))), (2, .int (nI cap)), (0, .ref x), (1, .int (nI (cap + 1)))]) hx hb d_AL_growI_f_30 rfl hl (by decide) rfl (fun ls hl => ?_)
    refine lv_aload_n hx hb d_AL_growI_f_31 rfl (lv_at hl 2 rfl) ?_
    refine lv_aload_n hx hb d_AL_growI_f_32 rfl (lv_at hl 2 rfl) ?_
    refine hx_get (ref := "java/util/ArrayList") (v := .ref ea) hx hb htg iAL hown hK h1 rfl 0 (by decide) (htg _ (gw_mem (i := 114) (by decide +kernel) rfl)) (fun _ h9 => h9) rfl d_AL_growI_f_33 ?_
    refine lv_iload_n hx hb d_AL_growI_f_36 rfl (lv_at hl 0 rfl) ?_
    obtain ⟨nq1, hnq1⟩ : ∃ z : Nat, z = H.size := ⟨_, rfl⟩
    have hlt_q2 := hx_lt h1
    have hlt_q3 := hx_lt h2
    refine h_callq (va_runS (As := [.ref ea, .int (nI (cap + (cap / 2)))]) (rest := [.ref x]) ⟨hx, hb, hml, hown, htg⟩ (c_Ar_copyOf l D cs N0 H ea cap (cap + (cap / 2)) nq1 ci qc el h2 hnq1 (by omega) hel hci hca (by omega) (by omega)) ⟨x_cwB 2 htg (gw_mem (i := 700) (by decide +kernel) rfl) (gw_mem (i := 46) (by decide +kernel) rfl) (gw_mem (i := 698) (by decide +kernel) rfl) (by decide +kernel) ⟨Nat.le_of_ble_eq_true rfl, Nat.le_of_ble_eq_true rfl⟩, htg _ (gw_mem (i := 699) (by decide +kernel) rfl)⟩ ⟨hPre.blind, hPre.at hB hS hAN⟩ rfl rfl hl.1 rfl (lv_room (Nat.le_of_ble_eq_true rfl)) d_AL_growI_f_37 ⟨Nat.le_of_ble_eq_true rfl, Nat.le_of_ble_eq_true rfl⟩) hS (jA_sub1 jA_in22 (fun q9 h9 => Or.inr (show N ≤ q9 by omega))) (fun r37 H locs hp hz hk hS => ?_)
    replace h1 := hx_keep h1 (hk _ hlt_q2 (jA_not1 (show x ≠ ea by omega) (show x < nq1 by omega)))
    obtain ⟨hr9, hO4⟩ := hp
    subst hr9
    refine lv_eqv (y := .ref nq1) rfl ?_
    refine lv_dup_x1 hx hb d_AL_growI_f_40 rfl rfl ?_
    refine hx_put (ref := "java/util/ArrayList") (ty := .array (.object "java/lang/Object")) (v := .ref nq1) hx hb htg iAL tAL tAL_ok nAL hown hK h1 hS jA_in21 rfl 0 (by decide) (htg _ (gw_mem (i := 114) (by decide +kernel) rfl)) (fun _ h9 => h9) rfl (by decide +kernel) rfl rfl (Nat.le_of_ble_eq_true rfl) d_AL_growI_f_41 (fun H locs hat hz ho hS => ?_)
    replace h1 : va_at D vwCl (x, .inr (6, [.ref nq1, .int (nI cap), .int mc])) H := hat
    replace hO4 := hx_keep hO4 (ho _ (show nq1 ≠ x by omega))
    exact W.aret (v := .ref nq1) hx hb hr (Or.inr ⟨_, rfl⟩) (Or.inr ⟨_, rfl⟩) (fun t ht hW => ⟨⟨some nq1, H, rfl, (show nq1 = N by omega) ▸ ⟨rfl, h1, hO4⟩, ht⟩, hS.F ht⟩) hS.2.2 d_AL_growI_f_44
  · skip
    replace c7 : ¬ (0 < cap) := fun z9 => c7 ((nI_ltI (a := 0) (b := cap) (by omega) (by omega)).mpr z9)
    exact absurd (show 0 < cap by omega) c7
def y_AL_grow_f : MethodName := ⟨"java/util/ArrayList", "grow", "()[Ljava/lang/Object;"⟩
abbrev w_AL_grow_f : List Cond := Cond.code y_AL_grow_f prog_29_method_7_code 1 (Option.some (Jvm.ClassFile.FieldType.array (Jvm.ClassFile.FieldType.object "java/lang/Object"))) :: gw
theorem d_AL_grow_f_0 : decode prog_29_method_7_code 0 = .ok (.aload_n 0, 1) := by decide +kernel
theorem d_AL_grow_f_1 : decode prog_29_method_7_code 1 = .ok (.aload_n 0, 1) := by decide +kernel
theorem d_AL_grow_f_2 : decode prog_29_method_7_code 2 = .ok (.getfield 48, 3) := by decide +kernel
theorem d_AL_grow_f_5 : decode prog_29_method_7_code 5 = .ok (.iconst 1, 1) := by decide +kernel
theorem d_AL_grow_f_6 : decode prog_29_method_7_code 6 = .ok (.iadd, 1) := by decide +kernel
theorem d_AL_grow_f_7 : decode prog_29_method_7_code 7 = .ok (.invokevirtual 69, 3) := by decide +kernel
theorem d_AL_grow_f_10 : decode prog_29_method_7_code 10 = .ok (.areturn, 1) := by decide +kernel
set_option maxHeartbeats 4000000 in
set_option maxRecDepth 100000 in
theorem c_AL_grow_f (l : Launch) (D : va_G) (cs : Nat → ClassId) (N0 : Nat) (H : Heap) (x ea cap N ci : Nat) (mc : Int32) (qc : vw_C) (el : Nat → Option Nat) (h1 : va_at D vwCl (x, .inr (6, [.ref ea, .int (nI cap), .int mc])) H) (h2 : va_at D vwCl (ea, .inl (cs 4, (cap, .inr (.inr (.inr (.inr el)))))) H) (hN : N = H.size) (hx0 : N0 ≤ x) (he0 : N0 ≤ ea) (hxe : x ≠ ea) (hel : ∀ i y, i < cap → el i = some y → isE D H ci y) (hci : vwCl[ci]? = some qc) (hca : (qc.1, "java/lang/Object") ∈ zCst) (hc1 : 10 ≤ cap) (hc2 : cap < 100) : Met l y_AL_grow_f w_AL_grow_f ({ frames := 4, cells := 1, slots := 200, locals := 107 }) (hPre D cs N0 [.ref x] H) (hQq (fun r H' => r = some N ∧ va_at D vwCl (x, .inr (6, [.ref N, .int (nI cap), .int mc])) H' ∧ va_at D vwCl (N, .inl (cs 4, (cap + cap / 2, .inr (.inr (.inr (.inr (va_cpy el (fun _ => none) 0 0 cap))))))) H') (jA [x, ea] N)) 1 200 (jA [x, ea] N) := by
  refine Met.ofW (cc := prog_29_method_7_code) (maxL := 1) (ret := (Option.some (Jvm.ClassFile.FieldType.array (Jvm.ClassFile.FieldType.object "java/lang/Object")))) (by decide) rfl ?_
  intro p e s m args below meth c s₁ B hml hv
  obtain ⟨rfl, rfl, hB⟩ := hv
  have hx := B.exec
  have hb := B.bytes
  have hr := B.returns
  have hts := atoms_spec (ws := w_AL_grow_f) B.pre
  have htg : ∀ w ∈ gw, w.before _ s = true := fun w h => hts w (List.mem_cons_of_mem _ h)
  have hown : s.vm.findClass "java/util/ArrayList" = some m.cls := findClass_of_methodNamed B.named
  have hlocks := B.notSynchronized
  have hAN : ∀ q, (jA [x, ea] N) q → N0 ≤ q := jA_sub2 hx0 he0 (fun q9 h9 => Nat.le_trans hB.2.1 (hN ▸ h9))
  have hK := hB.1
  obtain ⟨H, hH⟩ : ∃ z : Heap, z = s.heap := ⟨_, rfl⟩
  have hz0 : H.size = s.heap.size := by rw [hH]
  have hN0 := hB.2.1
  rw [← hH] at h1 h2 hel
  have hS : va_S (jA [x, ea] N) s.heap H [] := by rw [hH]; exact va_S.rf
  have hl := lv_entry ([.ref x]) (n := 1) (Nat.le_of_ble_eq_true rfl)
  rw [lg_entry_eq, ← hH]
  generalize (lg_sl ([.ref x]) ++ List.replicate (1 - (lg_sl ([.ref x])).length) Slot.unset).toArray = ls at hl ⊢
  have hl : lv_has ls 1 [(0, .ref x)] := hl
  refine lv_aload_n hx hb d_AL_grow_f_0 rfl (lv_at hl 0 rfl) ?_
  refine lv_aload_n hx hb d_AL_grow_f_1 rfl (lv_at hl 0 rfl) ?_
  refine hx_get (ref := "java/util/ArrayList") (v := .int (nI cap)) hx hb htg iAL hown hK h1 rfl 1 (by decide) (htg _ (gw_mem (i := 115) (by decide +kernel) rfl)) (fun _ h9 => h9) rfl d_AL_grow_f_2 ?_
  refine lv_iconst (v := 1) hx hb d_AL_grow_f_5 (by decide) ?_
  refine lv_iadd (x := (nI cap)) (y := 1) hx hb d_AL_grow_f_6 ?_
  refine lv_eqi (y := (nI (cap + 1))) (nI_add cap 1) ?_
  obtain ⟨nq1, hnq1⟩ : ∃ z : Nat, z = H.size := ⟨_, rfl⟩
  have hlt_q2 := hx_lt h1
  have hlt_q3 := hx_lt h2
  refine h_callq (va_runV (As := [.int (nI (cap + 1))]) (rest := []) ⟨hx, hb, hml, hown, htg⟩ (c_AL_growI_f l D cs N0 H x ea cap nq1 ci mc qc el h1 h2 hnq1 (by omega) (by omega) (by omega) hel hci hca (by omega) (by omega)) ⟨x_cwB 1 htg (gw_mem (i := 696) (by decide +kernel) rfl) (gw_mem (i := 37) (by decide +kernel) rfl) (gw_mem (i := 693) (by decide +kernel) rfl) (by decide +kernel) ⟨Nat.le_of_ble_eq_true rfl, Nat.le_of_ble_eq_true rfl⟩, htg _ (gw_mem (i := 695) (by decide +kernel) rfl), htg _ (gw_mem (i := 10) (by decide +kernel) rfl)⟩ ⟨hPre.blind, hx_recv hK (ci := 6) rfl h1, hPre.at hB hS hAN⟩ rfl rfl hl.1 rfl (lv_room (Nat.le_of_ble_eq_true rfl)) d_AL_grow_f_7 ⟨Nat.le_of_ble_eq_true rfl, Nat.le_of_ble_eq_true rfl⟩) hS (jA_sub2 jA_in21 jA_in22 (fun q9 h9 => Or.inr (show N ≤ q9 by omega))) (fun r7 H locs hp hz hk hS => ?_)
  obtain ⟨hr9, hO4, hO5⟩ := hp
  subst hr9
  refine lv_eqv (y := .ref nq1) rfl ?_
  exact W.aret (v := .ref nq1) hx hb hr (Or.inr ⟨_, rfl⟩) (Or.inr ⟨_, rfl⟩) (fun t ht hW => ⟨⟨some nq1, H, rfl, (show nq1 = N by omega) ▸ ⟨rfl, hO4, hO5⟩, ht⟩, hS.F ht⟩) hS.2.2 d_AL_grow_f_10
def y_AL_add3_f : MethodName := ⟨"java/util/ArrayList", "add", "(Ljava/lang/Object;[Ljava/lang/Object;I)V"⟩
abbrev w_AL_add3_f : List Cond := Cond.code y_AL_add3_f prog_29_method_24_code 4 (Option.none : Option Jvm.ClassFile.FieldType) :: gw
theorem d_AL_add3_f_0 : decode prog_29_method_24_code 0 = .ok (.iload_n 3, 1) := by decide +kernel
theorem d_AL_add3_f_1 : decode prog_29_method_24_code 1 = .ok (.aload_n 2, 1) := by decide +kernel
theorem d_AL_add3_f_2 : decode prog_29_method_24_code 2 = .ok (.arraylength, 1) := by decide +kernel
theorem d_AL_add3_f_3 : decode prog_29_method_24_code 3 = .ok (.if_icmp .ne 8, 3) := by decide +kernel
theorem d_AL_add3_f_6 : decode prog_29_method_24_code 6 = .ok (.aload_n 0, 1) := by decide +kernel
theorem d_AL_add3_f_7 : decode prog_29_method_24_code 7 = .ok (.invokevirtual 129, 3) := by decide +kernel
theorem d_AL_add3_f_10 : decode prog_29_method_24_code 10 = .ok (.astore_n 2, 1) := by decide +kernel
theorem d_AL_add3_f_11 : decode prog_29_method_24_code 11 = .ok (.aload_n 2, 1) := by decide +kernel
theorem d_AL_add3_f_12 : decode prog_29_method_24_code 12 = .ok (.iload_n 3, 1) := by decide +kernel
theorem d_AL_add3_f_13 : decode prog_29_method_24_code 13 = .ok (.aload_n 1, 1) := by decide +kernel
theorem d_AL_add3_f_14 : decode prog_29_method_24_code 14 = .ok (.aastore, 1) := by decide +kernel
theorem d_AL_add3_f_15 : decode prog_29_method_24_code 15 = .ok (.aload_n 0, 1) := by decide +kernel
theorem d_AL_add3_f_16 : decode prog_29_method_24_code 16 = .ok (.iload_n 3, 1) := by decide +kernel
theorem d_AL_add3_f_17 : decode prog_29_method_24_code 17 = .ok (.iconst 1, 1) := by decide +kernel
theorem d_AL_add3_f_18 : decode prog_29_method_24_code 18 = .ok (.iadd, 1) := by decide +kernel
theorem d_AL_add3_f_19 : decode prog_29_method_24_code 19 = .ok (.putfield 48, 3) := by decide +kernel
theorem d_AL_add3_f_22 : decode prog_29_method_24_code 22 = .ok (.return_, 1) := by decide +kernel
set_option maxHeartbeats 4000000 in
set_option maxRecDepth 100000 in
theorem c_AL_add3_f (l : Launch) (D : va_G) (cs : Nat → ClassId) (N0 : Nat) (H : Heap) (x ea cap N ci v : Nat) (mc : Int32) (qc : vw_C) (el : Nat → Option Nat) (h1 : va_at D vwCl (x, .inr (6, [.ref ea, .int (nI cap), .int mc])) H) (h2 : va_at D vwCl (ea, .inl (cs 4, (cap, .inr (.inr (.inr (.inr el)))))) H) (hN : N = H.size) (hx0 : N0 ≤ x) (he0 : N0 ≤ ea) (hxe : x ≠ ea) (hel : ∀ i y, i < cap → el i = some y → isE D H ci y) (hci : vwCl[ci]? = some qc) (hca : (qc.1, "java/lang/Object") ∈ zCst) (hc1 : 10 ≤ cap) (hc2 : cap < 100) (hv : isE D H ci v) (hvx : v ≠ x) (hve : v ≠ ea) : Met l y_AL_add3_f w_AL_add3_f ({ frames := 5, cells := 1, slots := 200, locals := 127 }) (hPre D cs N0 [.ref x, .ref v, .ref ea, .int (nI cap)] H) (hQv (fun H' => va_at D vwCl (x, .inr (6, [.ref N, .int (nI (cap + 1)), .int mc])) H' ∧ va_at D vwCl (N, .inl (cs 4, (cap + cap / 2, .inr (.inr (.inr (.inr (va_up (va_cpy el (fun _ => none) 0 0 cap) cap (some v)))))))) H') (jA [x, ea] N)) 1 200 (jA [x, ea] N) := by
  refine Met.ofW (cc := prog_29_method_24_code) (maxL := 4) (ret := (Option.none : Option Jvm.ClassFile.FieldType)) (by decide) rfl ?_
  intro p e s m args below meth c s₁ B hml hv
  obtain ⟨rfl, rfl, hB⟩ := hv
  have hx := B.exec
  have hb := B.bytes
  have hr := B.returns
  have hts := atoms_spec (ws := w_AL_add3_f) B.pre
  have htg : ∀ w ∈ gw, w.before _ s = true := fun w h => hts w (List.mem_cons_of_mem _ h)
  have hown : s.vm.findClass "java/util/ArrayList" = some m.cls := findClass_of_methodNamed B.named
  have hlocks := B.notSynchronized
  have hAN : ∀ q, (jA [x, ea] N) q → N0 ≤ q := jA_sub2 hx0 he0 (fun q9 h9 => Nat.le_trans hB.2.1 (hN ▸ h9))
  have hK := hB.1
  obtain ⟨H, hH⟩ : ∃ z : Heap, z = s.heap := ⟨_, rfl⟩
  have hz0 : H.size = s.heap.size := by rw [hH]
  have hN0 := hB.2.1
  rw [← hH] at h1 h2 hel hv
  have hS : va_S (jA [x, ea] N) s.heap H [] := by rw [hH]; exact va_S.rf
  have hl := lv_entry ([.ref x, .ref v, .ref ea, .int (nI cap)]) (n := 4) (Nat.le_of_ble_eq_true rfl)
  rw [lg_entry_eq, ← hH]
  generalize (lg_sl ([.ref x, .ref v, .ref ea, .int (nI cap)]) ++ List.replicate (4 - (lg_sl ([.ref x, .ref v, .ref ea, .int (nI cap)])).length) Slot.unset).toArray = ls at hl ⊢
  have hl : lv_has ls 4 [(0, .ref x), (1, .ref v), (2, .ref ea), (3, .int (nI cap))] := hl
  refine lv_iload_n hx hb d_AL_add3_f_0 rfl (lv_at hl 3 rfl) ?_
  refine lv_aload_n hx hb d_AL_add3_f_1 rfl (lv_at hl 2 rfl) ?_
  refine hx_alen (v := (nI cap)) hx hb hK 4 h2 rfl rfl d_AL_add3_f_2 ?_
  refine lv_icmp_ne (x := (nI cap)) (y := (nI cap)) (tgt := 11) hx hb d_AL_add3_f_3 (by decide) (fun c3 => ?_) (fun c3 => ?_)
  · skip
    replace c3 : ¬ (cap = cap) := fun z9 => c3 ((nI_eq (a := cap) (b := cap) (by omega) (by omega)).mpr z9)
    exact absurd rfl c3
  · skip
    replace c3 : cap = cap := (nI_eq (a := cap) (b := cap) (by omega) (by omega)).mp c3
    refine lv_aload_n hx hb d_AL_add3_f_6 rfl (lv_at hl 0 rfl) ?_
    obtain ⟨nq1, hnq1⟩ : ∃ z : Nat, z = H.size := ⟨_, rfl⟩
    have hlt_q2 := hx_lt h1
    have hlt_q3 := hx_lt h2
    refine h_callq (va_runV (As := []) (rest := []) ⟨hx, hb, hml, hown, htg⟩ (c_AL_grow_f l D cs N0 H x ea cap nq1 ci mc qc el h1 h2 hnq1 (by omega) (by omega) (by omega) hel hci hca (by omega) (by omega)) ⟨x_cwB 0 htg (gw_mem (i := 692) (by decide +kernel) rfl) (gw_mem (i := 37) (by decide +kernel) rfl) (gw_mem (i := 689) (by decide +kernel) rfl) (by decide +kernel) ⟨Nat.le_of_ble_eq_true rfl, Nat.le_of_ble_eq_true rfl⟩, htg _ (gw_mem (i := 691) (by decide +kernel) rfl), htg _ (gw_mem (i := 9) (by decide +kernel) rfl)⟩ ⟨hPre.blind, hx_recv hK (ci := 6) rfl h1, hPre.at hB hS hAN⟩ rfl rfl hl.1 rfl (lv_room (Nat.le_of_ble_eq_true rfl)) d_AL_add3_f_7 ⟨Nat.le_of_ble_eq_true rfl, Nat.le_of_ble_eq_true rfl⟩) hS (jA_sub2 jA_in21 jA_in22 (fun q9 h9 => Or.inr (show N ≤ q9 by omega))) (fun r7 H locs hp hz hk hS => ?_)
    have hvl := hv.lt
    replace hv := hv.keep (hk _ hv.lt (jA_not2 (by omega) (by omega) (by have := hv.lt; omega)))
    obtain ⟨hr9, hO4, hO5⟩ := hp
    subst hr9
    refine lv_eqv (y := .ref nq1) rfl ?_
    refine lv_astore_n (lv' := [(2, .ref nq1), (0, .ref x), (1, .ref v), (3, .int (nI cap))]) hx hb d_AL_add3_f_10 rfl hl (by decide) rfl (fun ls hl => ?_)
    refine lv_aload_n hx hb d_AL_add3_f_11 rfl (lv_at hl 0 rfl) ?_
    refine lv_iload_n hx hb d_AL_add3_f_12 rfl (lv_at hl 3 rfl) ?_
    refine lv_aload_n hx hb d_AL_add3_f_13 rfl (lv_at hl 2 rfl) ?_
    refine hx_aast hx hb hK hS (Or.inr (show N ≤ nq1 by omega)) 4 hO5 rfl (x_any hB hci hca hv) (show vp_in (nI cap) (cap + cap / 2) from vp_in_nI (n := cap) (by omega) (by omega)) d_AL_add3_f_14 (fun H locs hat hz ho hS => ?_)
    replace hO5 : va_at D vwCl (nq1, .inl (cs 4, (cap + cap / 2, .inr (.inr (.inr (.inr (va_up ((va_cpy el (fun _ => none) 0 0 cap)) cap (some v)))))))) H := by rw [show (nI cap).toNatClampNeg = cap from nI_clamp (n := cap) (by omega)] at hat; exact hat
    replace hO4 := hx_keep hO4 (ho _ (show x ≠ nq1 by omega))
    replace hv := hv.keep (ho _ (by have := hv.lt; omega))
    refine lv_aload_n hx hb d_AL_add3_f_15 rfl (lv_at hl 1 rfl) ?_
    refine lv_iload_n hx hb d_AL_add3_f_16 rfl (lv_at hl 3 rfl) ?_
    refine lv_iconst (v := 1) hx hb d_AL_add3_f_17 (by decide) ?_
    refine lv_iadd (x := (nI cap)) (y := 1) hx hb d_AL_add3_f_18 ?_
    refine lv_eqi (y := (nI (cap + 1))) (nI_add cap 1) ?_
    refine hx_put (ref := "java/util/ArrayList") (ty := .int) (v := .int (nI (cap + 1))) hx hb htg iAL tAL tAL_ok nAL hown hK hO4 hS jA_in21 rfl 1 (by decide) (htg _ (gw_mem (i := 115) (by decide +kernel) rfl)) (fun _ h9 => h9) rfl (by decide +kernel) rfl rfl (Nat.le_of_ble_eq_true rfl) d_AL_add3_f_19 (fun H locs hat hz ho hS => ?_)
    replace hO4 : va_at D vwCl (x, .inr (6, [.ref nq1, .int (nI (cap + 1)), .int mc])) H := hat
    replace hO5 := hx_keep hO5 (ho _ (show nq1 ≠ x by omega))
    replace hv := hv.keep (ho _ (by have := hv.lt; omega))
    exact W.vret hx hb hr (fun t ht hW => ⟨⟨H, rfl, (show nq1 = N by omega) ▸ ⟨hO4, hO5⟩, ht⟩, hS.F ht⟩) hS.2.2 d_AL_add3_f_22
def y_AL_add3_r : MethodName := ⟨"java/util/ArrayList", "add", "(Ljava/lang/Object;[Ljava/lang/Object;I)V"⟩
abbrev w_AL_add3_r : List Cond := Cond.code y_AL_add3_r prog_29_method_24_code 4 (Option.none : Option Jvm.ClassFile.FieldType) :: gw
theorem d_AL_add3_r_0 : decode prog_29_method_24_code 0 = .ok (.iload_n 3, 1) := by decide +kernel
theorem d_AL_add3_r_1 : decode prog_29_method_24_code 1 = .ok (.aload_n 2, 1) := by decide +kernel
theorem d_AL_add3_r_2 : decode prog_29_method_24_code 2 = .ok (.arraylength, 1) := by decide +kernel
theorem d_AL_add3_r_3 : decode prog_29_method_24_code 3 = .ok (.if_icmp .ne 8, 3) := by decide +kernel
theorem d_AL_add3_r_11 : decode prog_29_method_24_code 11 = .ok (.aload_n 2, 1) := by decide +kernel
theorem d_AL_add3_r_12 : decode prog_29_method_24_code 12 = .ok (.iload_n 3, 1) := by decide +kernel
theorem d_AL_add3_r_13 : decode prog_29_method_24_code 13 = .ok (.aload_n 1, 1) := by decide +kernel
theorem d_AL_add3_r_14 : decode prog_29_method_24_code 14 = .ok (.aastore, 1) := by decide +kernel
theorem d_AL_add3_r_15 : decode prog_29_method_24_code 15 = .ok (.aload_n 0, 1) := by decide +kernel
theorem d_AL_add3_r_16 : decode prog_29_method_24_code 16 = .ok (.iload_n 3, 1) := by decide +kernel
theorem d_AL_add3_r_17 : decode prog_29_method_24_code 17 = .ok (.iconst 1, 1) := by decide +kernel
theorem d_AL_add3_r_18 : decode prog_29_method_24_code 18 = .ok (.iadd, 1) := by decide +kernel
theorem d_AL_add3_r_19 : decode prog_29_method_24_code 19 = .ok (.putfield 48, 3) := by decide +kernel
theorem d_AL_add3_r_22 : decode prog_29_method_24_code 22 = .ok (.return_, 1) := by decide +kernel
set_option maxHeartbeats 4000000 in
set_option maxRecDepth 100000 in
theorem c_AL_add3_r (l : Launch) (D : va_G) (cs : Nat → ClassId) (N0 : Nat) (H : Heap) (x ea cap n N ci v : Nat) (mc : Int32) (qc : vw_C) (el : Nat → Option Nat) (h1 : va_at D vwCl (x, .inr (6, [.ref ea, .int (nI n), .int mc])) H) (h2 : va_at D vwCl (ea, .inl (cs 4, (cap, .inr (.inr (.inr (.inr el)))))) H) (hN : N = H.size) (hx0 : N0 ≤ x) (he0 : N0 ≤ ea) (hxe : x ≠ ea) (hci : vwCl[ci]? = some qc) (hca : (qc.1, "java/lang/Object") ∈ zCst) (hn : n < cap) (hc2 : cap < 200) (hv : isE D H ci v) (hvx : v ≠ x) (hve : v ≠ ea) : Met l y_AL_add3_r w_AL_add3_r ({ frames := 0, cells := 0, slots := 0, locals := 0 }) (hPre D cs N0 [.ref x, .ref v, .ref ea, .int (nI n)] H) (hQv (fun H' => va_at D vwCl (x, .inr (6, [.ref ea, .int (nI (n + 1)), .int mc])) H' ∧ va_at D vwCl (ea, .inl (cs 4, (cap, .inr (.inr (.inr (.inr (va_up el n (some v)))))))) H') (jA [x, ea] N)) 0 0 (jA [x, ea] N) := by
  refine Met.ofW (cc := prog_29_method_24_code) (maxL := 4) (ret := (Option.none : Option Jvm.ClassFile.FieldType)) (by decide) rfl ?_
  intro p e s m args below meth c s₁ B hml hv
  obtain ⟨rfl, rfl, hB⟩ := hv
  have hx := B.exec
  have hb := B.bytes
  have hr := B.returns
  have hts := atoms_spec (ws := w_AL_add3_r) B.pre
  have htg : ∀ w ∈ gw, w.before _ s = true := fun w h => hts w (List.mem_cons_of_mem _ h)
  have hown : s.vm.findClass "java/util/ArrayList" = some m.cls := findClass_of_methodNamed B.named
  have hlocks := B.notSynchronized
  have hAN : ∀ q, (jA [x, ea] N) q → N0 ≤ q := jA_sub2 hx0 he0 (fun q9 h9 => Nat.le_trans hB.2.1 (hN ▸ h9))
  have hK := hB.1
  obtain ⟨H, hH⟩ : ∃ z : Heap, z = s.heap := ⟨_, rfl⟩
  have hz0 : H.size = s.heap.size := by rw [hH]
  have hN0 := hB.2.1
  rw [← hH] at h1 h2 hv
  have hS : va_S (jA [x, ea] N) s.heap H [] := by rw [hH]; exact va_S.rf
  have hl := lv_entry ([.ref x, .ref v, .ref ea, .int (nI n)]) (n := 4) (Nat.le_of_ble_eq_true rfl)
  rw [lg_entry_eq, ← hH]
  generalize (lg_sl ([.ref x, .ref v, .ref ea, .int (nI n)]) ++ List.replicate (4 - (lg_sl ([.ref x, .ref v, .ref ea, .int (nI n)])).length) Slot.unset).toArray = ls at hl ⊢
  have hl : lv_has ls 4 [(0, .ref x), (1, .ref v), (2, .ref ea), (3, .int (nI n))] := hl
  refine lv_iload_n hx hb d_AL_add3_r_0 rfl (lv_at hl 3 rfl) ?_
  refine lv_aload_n hx hb d_AL_add3_r_1 rfl (lv_at hl 2 rfl) ?_
  refine hx_alen (v := (nI cap)) hx hb hK 4 h2 rfl rfl d_AL_add3_r_2 ?_
  refine lv_icmp_ne (x := (nI n)) (y := (nI cap)) (tgt := 11) hx hb d_AL_add3_r_3 (by decide) (fun c3 => ?_) (fun c3 => ?_)
  · skip
    replace c3 : ¬ (n = cap) := fun z9 => c3 ((nI_eq (a := n) (b := cap) (by omega) (by omega)).mpr z9)
    refine lv_aload_n hx hb d_AL_add3_r_11 rfl (lv_at hl 2 rfl) ?_
    refine lv_iload_n hx hb d_AL_add3_r_12 rfl (lv_at hl 3 rfl) ?_
    refine lv_aload_n hx hb d_AL_add3_r_13 rfl (lv_at hl 1 rfl) ?_
    refine hx_aast hx hb hK hS jA_in22 4 h2 rfl (x_any hB hci hca hv) (show vp_in (nI n) cap from vp_in_nI (n := n) (by omega) (by omega)) d_AL_add3_r_14 (fun H locs hat hz ho hS => ?_)
    replace h2 : va_at D vwCl (ea, .inl (cs 4, (cap, .inr (.inr (.inr (.inr (va_up el n (some v)))))))) H := by rw [show (nI n).toNatClampNeg = n from nI_clamp (n := n) (by omega)] at hat; exact hat
    replace h1 := hx_keep h1 (ho _ (show x ≠ ea by omega))
    replace hv := hv.keep (ho _ (by have := hv.lt; omega))
    refine lv_aload_n hx hb d_AL_add3_r_15 rfl (lv_at hl 0 rfl) ?_
    refine lv_iload_n hx hb d_AL_add3_r_16 rfl (lv_at hl 3 rfl) ?_
    refine lv_iconst (v := 1) hx hb d_AL_add3_r_17 (by decide) ?_
    refine lv_iadd (x := (nI n)) (y := 1) hx hb d_AL_add3_r_18 ?_
    refine lv_eqi (y := (nI (n + 1))) (nI_add n 1) ?_
    refine hx_put (ref := "java/util/ArrayList") (ty := .int) (v := .int (nI (n + 1))) hx hb htg iAL tAL tAL_ok nAL hown hK h1 hS jA_in21 rfl 1 (by decide) (htg _ (gw_mem (i := 115) (by decide +kernel) rfl)) (fun _ h9 => h9) rfl (by decide +kernel) rfl rfl (Nat.le_of_ble_eq_true rfl) d_AL_add3_r_19 (fun H locs hat hz ho hS => ?_)
    replace h1 : va_at D vwCl (x, .inr (6, [.ref ea, .int (nI (n + 1)), .int mc])) H := hat
    replace h2 := hx_keep h2 (ho _ (show ea ≠ x by omega))
    replace hv := hv.keep (ho _ (by have := hv.lt; omega))
    exact W.vret hx hb hr (fun t ht hW => ⟨⟨H, rfl, ⟨h1, h2⟩, ht⟩, hS.F ht⟩) hS.2.2 d_AL_add3_r_22
  · skip
    replace c3 : n = cap := (nI_eq (a := n) (b := cap) (by omega) (by omega)).mp c3
    exact absurd c3 (by omega)
def y_AL_growI_e : MethodName := ⟨"java/util/ArrayList", "grow", "(I)[Ljava/lang/Object;"⟩
abbrev w_AL_growI_e : List Cond := Cond.code y_AL_growI_e prog_29_method_6_code 4 (Option.some (Jvm.ClassFile.FieldType.array (Jvm.ClassFile.FieldType.object "java/lang/Object"))) :: gw
theorem d_AL_growI_e_0 : decode prog_29_method_6_code 0 = .ok (.aload_n 0, 1) := by decide +kernel
theorem d_AL_growI_e_1 : decode prog_29_method_6_code 1 = .ok (.getfield 9, 3) := by decide +kernel
theorem d_AL_growI_e_4 : decode prog_29_method_6_code 4 = .ok (.arraylength, 1) := by decide +kernel
theorem d_AL_growI_e_5 : decode prog_29_method_6_code 5 = .ok (.istore_n 2, 1) := by decide +kernel
theorem d_AL_growI_e_6 : decode prog_29_method_6_code 6 = .ok (.iload_n 2, 1) := by decide +kernel
theorem d_AL_growI_e_7 : decode prog_29_method_6_code 7 = .ok (.ifCond .gt 13, 3) := by decide +kernel
theorem d_AL_growI_e_10 : decode prog_29_method_6_code 10 = .ok (.aload_n 0, 1) := by decide +kernel
theorem d_AL_growI_e_11 : decode prog_29_method_6_code 11 = .ok (.getfield 9, 3) := by decide +kernel
theorem d_AL_growI_e_14 : decode prog_29_method_6_code 14 = .ok (.getstatic 39, 3) := by decide +kernel
theorem d_AL_growI_e_17 : decode prog_29_method_6_code 17 = .ok (.if_acmp .eq 28, 3) := by decide +kernel
theorem d_AL_growI_e_45 : decode prog_29_method_6_code 45 = .ok (.aload_n 0, 1) := by decide +kernel
theorem d_AL_growI_e_46 : decode prog_29_method_6_code 46 = .ok (.bipush 10, 2) := by decide +kernel
theorem d_AL_growI_e_48 : decode prog_29_method_6_code 48 = .ok (.iload_n 1, 1) := by decide +kernel
theorem d_AL_growI_e_49 : decode prog_29_method_6_code 49 = .ok (.invokestatic 79, 3) := by decide +kernel
theorem d_AL_growI_e_52 : decode prog_29_method_6_code 52 = .ok (.anewarray 7, 3) := by decide +kernel
theorem d_AL_growI_e_55 : decode prog_29_method_6_code 55 = .ok (.dup_x1, 1) := by decide +kernel
theorem d_AL_growI_e_56 : decode prog_29_method_6_code 56 = .ok (.putfield 9, 3) := by decide +kernel
theorem d_AL_growI_e_59 : decode prog_29_method_6_code 59 = .ok (.areturn, 1) := by decide +kernel
set_option maxHeartbeats 4000000 in
set_option maxRecDepth 100000 in
theorem c_AL_growI_e (l : Launch) (D : va_G) (cs : Nat → ClassId) (N0 : Nat) (H : Heap) (x N : Nat) (mc : Int32) (h1 : va_at D vwCl (x, .inr (6, [.ref (cs 9), .int 0, .int mc])) H) (hN : N = H.size) (hx0 : N0 ≤ x) : Met l y_AL_growI_e w_AL_growI_e ({ frames := 1, cells := 1, slots := 10, locals := 22 }) (hPre D cs N0 [.ref x, .int 1] H) (hQq (fun r H' => r = some N ∧ va_at D vwCl (x, .inr (6, [.ref N, .int 0, .int mc])) H' ∧ va_at D vwCl (N, .inl (cs 4, (10, .inr (.inr (.inr (.inr (fun _ => none))))))) H') (jA [x] N)) 1 10 (jA [x] N) := by
  refine Met.ofW (cc := prog_29_method_6_code) (maxL := 4) (ret := (Option.some (Jvm.ClassFile.FieldType.array (Jvm.ClassFile.FieldType.object "java/lang/Object")))) (by decide) rfl ?_
  intro p e s m args below meth c s₁ B hml hv
  obtain ⟨rfl, rfl, hB⟩ := hv
  have hx := B.exec
  have hb := B.bytes
  have hr := B.returns
  have hts := atoms_spec (ws := w_AL_growI_e) B.pre
  have htg : ∀ w ∈ gw, w.before _ s = true := fun w h => hts w (List.mem_cons_of_mem _ h)
  have hown : s.vm.findClass "java/util/ArrayList" = some m.cls := findClass_of_methodNamed B.named
  have hlocks := B.notSynchronized
  have hAN : ∀ q, (jA [x] N) q → N0 ≤ q := jA_sub1 hx0 (fun q9 h9 => Nat.le_trans hB.2.1 (hN ▸ h9))
  have hK := hB.1
  obtain ⟨H, hH⟩ : ∃ z : Heap, z = s.heap := ⟨_, rfl⟩
  have hz0 : H.size = s.heap.size := by rw [hH]
  have hN0 := hB.2.1
  rw [← hH] at h1
  have hS : va_S (jA [x] N) s.heap H [] := by rw [hH]; exact va_S.rf
  have hl := lv_entry ([.ref x, .int 1]) (n := 4) (Nat.le_of_ble_eq_true rfl)
  rw [lg_entry_eq, ← hH]
  generalize (lg_sl ([.ref x, .int 1]) ++ List.replicate (4 - (lg_sl ([.ref x, .int 1])).length) Slot.unset).toArray = ls at hl ⊢
  have hl : lv_has ls 4 [(0, .ref x), (1, .int 1)] := hl
  refine lv_aload_n hx hb d_AL_growI_e_0 rfl (lv_at hl 0 rfl) ?_
  refine hx_get (ref := "java/util/ArrayList") (v := .ref (cs 9)) hx hb htg iAL hown hK h1 rfl 0 (by decide) (htg _ (gw_mem (i := 114) (by decide +kernel) rfl)) (fun _ h9 => h9) rfl d_AL_growI_e_1 ?_
  refine va_tlen (v := 0) hx hb (va_T.narrow hB.2.2.2.2.2.2.2.1 hAN) hS rfl d_AL_growI_e_4 ?_
  refine lv_istore_n (lv' := [(2, .int 0), (0, .ref x), (1, .int 1)]) hx hb d_AL_growI_e_5 rfl hl (by decide) rfl (fun ls hl => ?_)
  refine lv_iload_n hx hb d_AL_growI_e_6 rfl (lv_at hl 0 rfl) ?_
  refine lv_if_gt (x := 0) (tgt := 20) hx hb d_AL_growI_e_7 (by decide) (fun c7 => ?_) (fun c7 => ?_)
  · exact absurd c7 (by decide)
  · skip
    refine lv_aload_n hx hb d_AL_growI_e_10 rfl (lv_at hl 1 rfl) ?_
    refine hx_get (ref := "java/util/ArrayList") (v := .ref (cs 9)) hx hb htg iAL hown hK h1 rfl 0 (by decide) (htg _ (gw_mem (i := 114) (by decide +kernel) rfl)) (fun _ h9 => h9) rfl d_AL_growI_e_11 ?_
    refine va_gets (v := .ref (cs 9)) hx hb (va_Z.narrow hB.2.2.2.2.2.2.1 hAN) hS hown (htg _ (gw_mem (i := 112) (by decide +kernel) rfl)) (fun _ h9 => h9) d_AL_growI_e_14 ?_
    refine lv_acmp_eq (rx := some (cs 9)) (ry := some (cs 9)) (tgt := 45) hx hb d_AL_growI_e_17 (by decide) (fun c17 => ?_) (fun c17 => ?_)
    · skip
      refine lv_aload_n hx hb d_AL_growI_e_45 rfl (lv_at hl 1 rfl) ?_
      refine lv_bipush (v := 10) hx hb d_AL_growI_e_46 (by decide) ?_
      refine lv_iload_n hx hb d_AL_growI_e_48 rfl (lv_at hl 2 rfl) ?_
      refine va_mmax (x := 10) (y := 1) hx hb (hml.trans hl.1.symm) hown (htg _ (gw_mem (i := 725) (by decide +kernel) rfl)) (htg _ (gw_mem (i := 201) (by decide +kernel) rfl)) (htg _ (gw_mem (i := 45) (by decide +kernel) rfl)) (htg _ (gw_mem (w := Cond.code Lib.Math.max.name Lib.Math.max.code 2 (some .int)) (i := 202) (by decide +kernel) rfl)) (by exact Nat.le_of_ble_eq_true rfl) (by exact Nat.le_of_ble_eq_true rfl) (by exact Nat.le_of_ble_eq_true rfl) (by exact Nat.le_of_ble_eq_true rfl) d_AL_growI_e_49 ?_
      refine lv_eqi (y := (maxV 10 1)) rfl ?_
      refine lv_eqi (y := 10) (by decide) ?_
      obtain ⟨bq, hbq⟩ : ∃ z : Nat, z = H.size := ⟨_, rfl⟩
      have hlt_q2 : x < bq := hbq ▸ hx_lt h1
      refine hx_newq (N' := 10) hx hb hown (htg _ (gw_mem (i := 726) (by decide +kernel) rfl)) (va_AO.use hB.2.2.1.2.2.2.2.1) hK hS 4 rfl (by decide) (by decide) (by decide) (Nat.le_of_ble_eq_true rfl) (Nat.le_of_ble_eq_true rfl) d_AL_growI_e_52 (fun H hat hz ho hS => ?_)
      rw [← hbq] at hat hz ho
      rw [← hbq]
      have hO1 : va_at D vwCl (bq, .inl (cs 4, (10, .inr (.inr (.inr (.inr (fun _ => none))))))) H := hat
      replace h1 := hx_keep h1 (ho _ (by omega))
      refine lv_dup_x1 hx hb d_AL_growI_e_55 rfl rfl ?_
      refine hx_put (ref := "java/util/ArrayList") (ty := .array (.object "java/lang/Object")) (v := .ref bq) hx hb htg iAL tAL tAL_ok nAL hown hK h1 hS jA_in1 rfl 0 (by decide) (htg _ (gw_mem (i := 114) (by decide +kernel) rfl)) (fun _ h9 => h9) rfl (by decide +kernel) rfl rfl (Nat.le_of_ble_eq_true rfl) d_AL_growI_e_56 (fun H locs hat hz ho hS => ?_)
      replace h1 : va_at D vwCl (x, .inr (6, [.ref bq, .int 0, .int mc])) H := hat
      replace hO1 := hx_keep hO1 (ho _ (show bq ≠ x by omega))
      exact W.aret (v := .ref bq) hx hb hr (Or.inr ⟨_, rfl⟩) (Or.inr ⟨_, rfl⟩) (fun t ht hW => ⟨⟨some bq, H, rfl, (show bq = N by omega) ▸ ⟨rfl, h1, hO1⟩, ht⟩, hS.F ht⟩) hS.2.2 d_AL_growI_e_59
    · skip
      exact absurd rfl c17
def y_AL_grow_e : MethodName := ⟨"java/util/ArrayList", "grow", "()[Ljava/lang/Object;"⟩
abbrev w_AL_grow_e : List Cond := Cond.code y_AL_grow_e prog_29_method_7_code 1 (Option.some (Jvm.ClassFile.FieldType.array (Jvm.ClassFile.FieldType.object "java/lang/Object"))) :: gw
theorem d_AL_grow_e_0 : decode prog_29_method_7_code 0 = .ok (.aload_n 0, 1) := by decide +kernel
theorem d_AL_grow_e_1 : decode prog_29_method_7_code 1 = .ok (.aload_n 0, 1) := by decide +kernel
theorem d_AL_grow_e_2 : decode prog_29_method_7_code 2 = .ok (.getfield 48, 3) := by decide +kernel
theorem d_AL_grow_e_5 : decode prog_29_method_7_code 5 = .ok (.iconst 1, 1) := by decide +kernel
theorem d_AL_grow_e_6 : decode prog_29_method_7_code 6 = .ok (.iadd, 1) := by decide +kernel
theorem d_AL_grow_e_7 : decode prog_29_method_7_code 7 = .ok (.invokevirtual 69, 3) := by decide +kernel
theorem d_AL_grow_e_10 : decode prog_29_method_7_code 10 = .ok (.areturn, 1) := by decide +kernel
set_option maxHeartbeats 4000000 in
set_option maxRecDepth 100000 in
theorem c_AL_grow_e (l : Launch) (D : va_G) (cs : Nat → ClassId) (N0 : Nat) (H : Heap) (x N : Nat) (mc : Int32) (h1 : va_at D vwCl (x, .inr (6, [.ref (cs 9), .int 0, .int mc])) H) (hN : N = H.size) (hx0 : N0 ≤ x) : Met l y_AL_grow_e w_AL_grow_e ({ frames := 2, cells := 1, slots := 10, locals := 45 }) (hPre D cs N0 [.ref x] H) (hQq (fun r H' => r = some N ∧ va_at D vwCl (x, .inr (6, [.ref N, .int 0, .int mc])) H' ∧ va_at D vwCl (N, .inl (cs 4, (10, .inr (.inr (.inr (.inr (fun _ => none))))))) H') (jA [x] N)) 1 10 (jA [x] N) := by
  refine Met.ofW (cc := prog_29_method_7_code) (maxL := 1) (ret := (Option.some (Jvm.ClassFile.FieldType.array (Jvm.ClassFile.FieldType.object "java/lang/Object")))) (by decide) rfl ?_
  intro p e s m args below meth c s₁ B hml hv
  obtain ⟨rfl, rfl, hB⟩ := hv
  have hx := B.exec
  have hb := B.bytes
  have hr := B.returns
  have hts := atoms_spec (ws := w_AL_grow_e) B.pre
  have htg : ∀ w ∈ gw, w.before _ s = true := fun w h => hts w (List.mem_cons_of_mem _ h)
  have hown : s.vm.findClass "java/util/ArrayList" = some m.cls := findClass_of_methodNamed B.named
  have hlocks := B.notSynchronized
  have hAN : ∀ q, (jA [x] N) q → N0 ≤ q := jA_sub1 hx0 (fun q9 h9 => Nat.le_trans hB.2.1 (hN ▸ h9))
  have hK := hB.1
  obtain ⟨H, hH⟩ : ∃ z : Heap, z = s.heap := ⟨_, rfl⟩
  have hz0 : H.size = s.heap.size := by rw [hH]
  have hN0 := hB.2.1
  rw [← hH] at h1
  have hS : va_S (jA [x] N) s.heap H [] := by rw [hH]; exact va_S.rf
  have hl := lv_entry ([.ref x]) (n := 1) (Nat.le_of_ble_eq_true rfl)
  rw [lg_entry_eq, ← hH]
  generalize (lg_sl ([.ref x]) ++ List.replicate (1 - (lg_sl ([.ref x])).length) Slot.unset).toArray = ls at hl ⊢
  have hl : lv_has ls 1 [(0, .ref x)] := hl
  refine lv_aload_n hx hb d_AL_grow_e_0 rfl (lv_at hl 0 rfl) ?_
  refine lv_aload_n hx hb d_AL_grow_e_1 rfl (lv_at hl 0 rfl) ?_
  refine hx_get (ref := "java/util/ArrayList") (v := .int 0) hx hb htg iAL hown hK h1 rfl 1 (by decide) (htg _ (gw_mem (i := 115) (by decide +kernel) rfl)) (fun _ h9 => h9) rfl d_AL_grow_e_2 ?_
  refine lv_iconst (v := 1) hx hb d_AL_grow_e_5 (by decide) ?_
  refine lv_iadd (x := 0) (y := 1) hx hb d_AL_grow_e_6 ?_
  refine lv_eqi (y := 1) (by decide) ?_
  obtain ⟨nq1, hnq1⟩ : ∃ z : Nat, z = H.size := ⟨_, rfl⟩
  have hlt_q2 := hx_lt h1
  refine h_callq (va_runV (As := [.int 1]) (rest := []) ⟨hx, hb, hml, hown, htg⟩ (c_AL_growI_e l D cs N0 H x nq1 mc h1 hnq1 (by omega)) ⟨x_cwB 1 htg (gw_mem (i := 696) (by decide +kernel) rfl) (gw_mem (i := 37) (by decide +kernel) rfl) (gw_mem (i := 693) (by decide +kernel) rfl) (by decide +kernel) ⟨Nat.le_of_ble_eq_true rfl, Nat.le_of_ble_eq_true rfl⟩, htg _ (gw_mem (i := 695) (by decide +kernel) rfl), htg _ (gw_mem (i := 10) (by decide +kernel) rfl)⟩ ⟨hPre.blind, hx_recv hK (ci := 6) rfl h1, hPre.at hB hS hAN⟩ rfl rfl hl.1 rfl (lv_room (Nat.le_of_ble_eq_true rfl)) d_AL_grow_e_7 ⟨Nat.le_of_ble_eq_true rfl, Nat.le_of_ble_eq_true rfl⟩) hS (jA_sub1 jA_in1 (fun q9 h9 => Or.inr (show N ≤ q9 by omega))) (fun r7 H locs hp hz hk hS => ?_)
  obtain ⟨hr9, hO3, hO4⟩ := hp
  subst hr9
  refine lv_eqv (y := .ref nq1) rfl ?_
  exact W.aret (v := .ref nq1) hx hb hr (Or.inr ⟨_, rfl⟩) (Or.inr ⟨_, rfl⟩) (fun t ht hW => ⟨⟨some nq1, H, rfl, (show nq1 = N by omega) ▸ ⟨rfl, hO3, hO4⟩, ht⟩, hS.F ht⟩) hS.2.2 d_AL_grow_e_10
def y_AL_add3_e : MethodName := ⟨"java/util/ArrayList", "add", "(Ljava/lang/Object;[Ljava/lang/Object;I)V"⟩
abbrev w_AL_add3_e : List Cond := Cond.code y_AL_add3_e prog_29_method_24_code 4 (Option.none : Option Jvm.ClassFile.FieldType) :: gw
theorem d_AL_add3_e_0 : decode prog_29_method_24_code 0 = .ok (.iload_n 3, 1) := by decide +kernel
theorem d_AL_add3_e_1 : decode prog_29_method_24_code 1 = .ok (.aload_n 2, 1) := by decide +kernel
theorem d_AL_add3_e_2 : decode prog_29_method_24_code 2 = .ok (.arraylength, 1) := by decide +kernel
theorem d_AL_add3_e_3 : decode prog_29_method_24_code 3 = .ok (.if_icmp .ne 8, 3) := by decide +kernel
theorem d_AL_add3_e_6 : decode prog_29_method_24_code 6 = .ok (.aload_n 0, 1) := by decide +kernel
theorem d_AL_add3_e_7 : decode prog_29_method_24_code 7 = .ok (.invokevirtual 129, 3) := by decide +kernel
theorem d_AL_add3_e_10 : decode prog_29_method_24_code 10 = .ok (.astore_n 2, 1) := by decide +kernel
theorem d_AL_add3_e_11 : decode prog_29_method_24_code 11 = .ok (.aload_n 2, 1) := by decide +kernel
theorem d_AL_add3_e_12 : decode prog_29_method_24_code 12 = .ok (.iload_n 3, 1) := by decide +kernel
theorem d_AL_add3_e_13 : decode prog_29_method_24_code 13 = .ok (.aload_n 1, 1) := by decide +kernel
theorem d_AL_add3_e_14 : decode prog_29_method_24_code 14 = .ok (.aastore, 1) := by decide +kernel
theorem d_AL_add3_e_15 : decode prog_29_method_24_code 15 = .ok (.aload_n 0, 1) := by decide +kernel
theorem d_AL_add3_e_16 : decode prog_29_method_24_code 16 = .ok (.iload_n 3, 1) := by decide +kernel
theorem d_AL_add3_e_17 : decode prog_29_method_24_code 17 = .ok (.iconst 1, 1) := by decide +kernel
theorem d_AL_add3_e_18 : decode prog_29_method_24_code 18 = .ok (.iadd, 1) := by decide +kernel
theorem d_AL_add3_e_19 : decode prog_29_method_24_code 19 = .ok (.putfield 48, 3) := by decide +kernel
theorem d_AL_add3_e_22 : decode prog_29_method_24_code 22 = .ok (.return_, 1) := by decide +kernel
set_option maxHeartbeats 4000000 in
set_option maxRecDepth 100000 in
theorem c_AL_add3_e (l : Launch) (D : va_G) (cs : Nat → ClassId) (N0 : Nat) (H : Heap) (x N ci v : Nat) (mc : Int32) (qc : vw_C) (h1 : va_at D vwCl (x, .inr (6, [.ref (cs 9), .int 0, .int mc])) H) (hN : N = H.size) (hx0 : N0 ≤ x) (hci : vwCl[ci]? = some qc) (hca : (qc.1, "java/lang/Object") ∈ zCst) (hv : isE D H ci v) (hvx : v ≠ x) : Met l y_AL_add3_e w_AL_add3_e ({ frames := 3, cells := 1, slots := 10, locals := 65 }) (hPre D cs N0 [.ref x, .ref v, .ref (cs 9), .int 0] H) (hQv (fun H' => va_at D vwCl (x, .inr (6, [.ref N, .int 1, .int mc])) H' ∧ va_at D vwCl (N, .inl (cs 4, (10, .inr (.inr (.inr (.inr (va_up (fun _ => none) 0 (some v)))))))) H') (jA [x] N)) 1 10 (jA [x] N) := by
  refine Met.ofW (cc := prog_29_method_24_code) (maxL := 4) (ret := (Option.none : Option Jvm.ClassFile.FieldType)) (by decide) rfl ?_
  intro p e s m args below meth c s₁ B hml hv
  obtain ⟨rfl, rfl, hB⟩ := hv
  have hx := B.exec
  have hb := B.bytes
  have hr := B.returns
  have hts := atoms_spec (ws := w_AL_add3_e) B.pre
  have htg : ∀ w ∈ gw, w.before _ s = true := fun w h => hts w (List.mem_cons_of_mem _ h)
  have hown : s.vm.findClass "java/util/ArrayList" = some m.cls := findClass_of_methodNamed B.named
  have hlocks := B.notSynchronized
  have hAN : ∀ q, (jA [x] N) q → N0 ≤ q := jA_sub1 hx0 (fun q9 h9 => Nat.le_trans hB.2.1 (hN ▸ h9))
  have hK := hB.1
  obtain ⟨H, hH⟩ : ∃ z : Heap, z = s.heap := ⟨_, rfl⟩
  have hz0 : H.size = s.heap.size := by rw [hH]
  have hN0 := hB.2.1
  rw [← hH] at h1 hv
  have hS : va_S (jA [x] N) s.heap H [] := by rw [hH]; exact va_S.rf
  have hl := lv_entry ([.ref x, .ref v, .ref (cs 9), .int 0]) (n := 4) (Nat.le_of_ble_eq_true rfl)
  rw [lg_entry_eq, ← hH]
  generalize (lg_sl ([.ref x, .ref v, .ref (cs 9), .int 0]) ++ List.replicate (4 - (lg_sl ([.ref x, .ref v, .ref (cs 9), .int 0])).length) Slot.unset).toArray = ls at hl ⊢
  have hl : lv_has ls 4 [(0, .ref x), (1, .ref v), (2, .ref (cs 9)), (3, .int 0)] := hl
  refine lv_iload_n hx hb d_AL_add3_e_0 rfl (lv_at hl 3 rfl) ?_
  refine lv_aload_n hx hb d_AL_add3_e_1 rfl (lv_at hl 2 rfl) ?_
  refine va_tlen (v := 0) hx hb (va_T.narrow hB.2.2.2.2.2.2.2.1 hAN) hS rfl d_AL_add3_e_2 ?_
  refine lv_icmp_ne (x := 0) (y := 0) (tgt := 11) hx hb d_AL_add3_e_3 (by decide) (fun c3 => ?_) (fun c3 => ?_)
  · exact absurd c3 (by decide)
  · skip
    refine lv_aload_n hx hb d_AL_add3_e_6 rfl (lv_at hl 0 rfl) ?_
    obtain ⟨nq1, hnq1⟩ : ∃ z : Nat, z = H.size := ⟨_, rfl⟩
    have hlt_q2 := hx_lt h1
    refine h_callq (va_runV (As := []) (rest := []) ⟨hx, hb, hml, hown, htg⟩ (c_AL_grow_e l D cs N0 H x nq1 mc h1 hnq1 (by omega)) ⟨x_cwB 0 htg (gw_mem (i := 692) (by decide +kernel) rfl) (gw_mem (i := 37) (by decide +kernel) rfl) (gw_mem (i := 689) (by decide +kernel) rfl) (by decide +kernel) ⟨Nat.le_of_ble_eq_true rfl, Nat.le_of_ble_eq_true rfl⟩, htg _ (gw_mem (i := 691) (by decide +kernel) rfl), htg _ (gw_mem (i := 9) (by decide +kernel) rfl)⟩ ⟨hPre.blind, hx_recv hK (ci := 6) rfl h1, hPre.at hB hS hAN⟩ rfl rfl hl.1 rfl (lv_room (Nat.le_of_ble_eq_true rfl)) d_AL_add3_e_7 ⟨Nat.le_of_ble_eq_true rfl, Nat.le_of_ble_eq_true rfl⟩) hS (jA_sub1 jA_in1 (fun q9 h9 => Or.inr (show N ≤ q9 by omega))) (fun r7 H locs hp hz hk hS => ?_)
    have hvl := hv.lt
    replace hv := hv.keep (hk _ hv.lt (jA_not1 (by omega) (by have := hv.lt; omega)))
    obtain ⟨hr9, hO3, hO4⟩ := hp
    subst hr9
    refine lv_eqv (y := .ref nq1) rfl ?_
    refine lv_astore_n (lv' := [(2, .ref nq1), (0, .ref x), (1, .ref v), (3, .int 0)]) hx hb d_AL_add3_e_10 rfl hl (by decide) rfl (fun ls hl => ?_)
    refine lv_aload_n hx hb d_AL_add3_e_11 rfl (lv_at hl 0 rfl) ?_
    refine lv_iload_n hx hb d_AL_add3_e_12 rfl (lv_at hl 3 rfl) ?_
    refine lv_aload_n hx hb d_AL_add3_e_13 rfl (lv_at hl 2 rfl) ?_
    refine hx_aast hx hb hK hS (Or.inr (show N ≤ nq1 by omega)) 4 hO4 rfl (x_any hB hci hca hv) (show vp_in 0 10 from vp_in_nI (n := 0) (by omega) (by omega)) d_AL_add3_e_14 (fun H locs hat hz ho hS => ?_)
    replace hO4 : va_at D vwCl (nq1, .inl (cs 4, (10, .inr (.inr (.inr (.inr (va_up ((fun _ => none)) 0 (some v)))))))) H := by rw [show (0 : Int32).toNatClampNeg = 0 from rfl] at hat; exact hat
    replace hO3 := hx_keep hO3 (ho _ (show x ≠ nq1 by omega))
    replace hv := hv.keep (ho _ (by have := hv.lt; omega))
    refine lv_aload_n hx hb d_AL_add3_e_15 rfl (lv_at hl 1 rfl) ?_
    refine lv_iload_n hx hb d_AL_add3_e_16 rfl (lv_at hl 3 rfl) ?_
    refine lv_iconst (v := 1) hx hb d_AL_add3_e_17 (by decide) ?_
    refine lv_iadd (x := 0) (y := 1) hx hb d_AL_add3_e_18 ?_
    refine lv_eqi (y := 1) (by decide) ?_
    refine hx_put (ref := "java/util/ArrayList") (ty := .int) (v := .int 1) hx hb htg iAL tAL tAL_ok nAL hown hK hO3 hS jA_in1 rfl 1 (by decide) (htg _ (gw_mem (i := 115) (by decide +kernel) rfl)) (fun _ h9 => h9) rfl (by decide +kernel) rfl rfl (Nat.le_of_ble_eq_true rfl) d_AL_add3_e_19 (fun H locs hat hz ho hS => ?_)
    replace hO3 : va_at D vwCl (x, .inr (6, [.ref nq1, .int 1, .int mc])) H := hat
    replace hO4 := hx_keep hO4 (ho _ (show nq1 ≠ x by omega))
    replace hv := hv.keep (ho _ (by have := hv.lt; omega))
    exact W.vret hx hb hr (fun t ht hW => ⟨⟨H, rfl, (show nq1 = N by omega) ▸ ⟨hO3, hO4⟩, ht⟩, hS.F ht⟩) hS.2.2 d_AL_add3_e_22
def y_AL_add_f : MethodName := ⟨"java/util/ArrayList", "add", "(Ljava/lang/Object;)Z"⟩
abbrev w_AL_add_f : List Cond := Cond.code y_AL_add_f prog_29_method_25_code 2 (Option.some Jvm.ClassFile.FieldType.boolean) :: gw
theorem d_AL_add_f_0 : decode prog_29_method_25_code 0 = .ok (.aload_n 0, 1) := by decide +kernel
theorem d_AL_add_f_1 : decode prog_29_method_25_code 1 = .ok (.dup, 1) := by decide +kernel
theorem d_AL_add_f_2 : decode prog_29_method_25_code 2 = .ok (.getfield 63, 3) := by decide +kernel
theorem d_AL_add_f_5 : decode prog_29_method_25_code 5 = .ok (.iconst 1, 1) := by decide +kernel
theorem d_AL_add_f_6 : decode prog_29_method_25_code 6 = .ok (.iadd, 1) := by decide +kernel
theorem d_AL_add_f_7 : decode prog_29_method_25_code 7 = .ok (.putfield 63, 3) := by decide +kernel
theorem d_AL_add_f_10 : decode prog_29_method_25_code 10 = .ok (.aload_n 0, 1) := by decide +kernel
theorem d_AL_add_f_11 : decode prog_29_method_25_code 11 = .ok (.aload_n 1, 1) := by decide +kernel
theorem d_AL_add_f_12 : decode prog_29_method_25_code 12 = .ok (.aload_n 0, 1) := by decide +kernel
theorem d_AL_add_f_13 : decode prog_29_method_25_code 13 = .ok (.getfield 9, 3) := by decide +kernel
theorem d_AL_add_f_16 : decode prog_29_method_25_code 16 = .ok (.aload_n 0, 1) := by decide +kernel
theorem d_AL_add_f_17 : decode prog_29_method_25_code 17 = .ok (.getfield 48, 3) := by decide +kernel
theorem d_AL_add_f_20 : decode prog_29_method_25_code 20 = .ok (.invokevirtual 131, 3) := by decide +kernel
theorem d_AL_add_f_23 : decode prog_29_method_25_code 23 = .ok (.iconst 1, 1) := by decide +kernel
theorem d_AL_add_f_24 : decode prog_29_method_25_code 24 = .ok (.ireturn, 1) := by decide +kernel
set_option maxHeartbeats 4000000 in
set_option maxRecDepth 100000 in
theorem c_AL_add_f (l : Launch) (D : va_G) (cs : Nat → ClassId) (N0 : Nat) (H : Heap) (x ea cap N ci v : Nat) (mc : Int32) (qc : vw_C) (el : Nat → Option Nat) (h1 : va_at D vwCl (x, .inr (6, [.ref ea, .int (nI cap), .int mc])) H) (h2 : va_at D vwCl (ea, .inl (cs 4, (cap, .inr (.inr (.inr (.inr el)))))) H) (hN : N = H.size) (hx0 : N0 ≤ x) (he0 : N0 ≤ ea) (hxe : x ≠ ea) (hel : ∀ i y, i < cap → el i = some y → isE D H ci y ∧ y ≠ x) (hci : vwCl[ci]? = some qc) (hca : (qc.1, "java/lang/Object") ∈ zCst) (hc1 : 10 ≤ cap) (hc2 : cap < 100) (hv : isE D H ci v) (hvx : v ≠ x) (hve : v ≠ ea) : Met l y_AL_add_f w_AL_add_f ({ frames := 6, cells := 1, slots := 200, locals := 150 }) (hPre D cs N0 [.ref x, .ref v] H) (hQi (fun r H' => r = 1 ∧ ∃ mc' : Int32, va_at D vwCl (x, .inr (6, [.ref N, .int (nI (cap + 1)), .int mc'])) H' ∧ va_at D vwCl (N, .inl (cs 4, (cap + cap / 2, .inr (.inr (.inr (.inr (va_up (va_cpy el (fun _ => none) 0 0 cap) cap (some v)))))))) H') (jA [x, ea] N)) 1 200 (jA [x, ea] N) := by
  refine Met.ofW (cc := prog_29_method_25_code) (maxL := 2) (ret := (Option.some Jvm.ClassFile.FieldType.boolean)) (by decide) rfl ?_
  intro p e s m args below meth c s₁ B hml hv
  obtain ⟨rfl, rfl, hB⟩ := hv
  have hx := B.exec
  have hb := B.bytes
  have hr := B.returns
  have hts := atoms_spec (ws := w_AL_add_f) B.pre
  have htg : ∀ w ∈ gw, w.before _ s = true := fun w h => hts w (List.mem_cons_of_mem _ h)
  have hown : s.vm.findClass "java/util/ArrayList" = some m.cls := findClass_of_methodNamed B.named
  have hlocks := B.notSynchronized
  have hAN : ∀ q, (jA [x, ea] N) q → N0 ≤ q := jA_sub2 hx0 he0 (fun q9 h9 => Nat.le_trans hB.2.1 (hN ▸ h9))
  have hK := hB.1
  obtain ⟨H, hH⟩ : ∃ z : Heap, z = s.heap := ⟨_, rfl⟩
  have hz0 : H.size = s.heap.size := by rw [hH]
  have hN0 := hB.2.1
  rw [← hH] at h1 h2 hel hv
  have hS : va_S (jA [x, ea] N) s.heap H [] := by rw [hH]; exact va_S.rf
  have hl := lv_entry ([.ref x, .ref v]) (n := 2) (Nat.le_of_ble_eq_true rfl)
  rw [lg_entry_eq, ← hH]
  generalize (lg_sl ([.ref x, .ref v]) ++ List.replicate (2 - (lg_sl ([.ref x, .ref v])).length) Slot.unset).toArray = ls at hl ⊢
  have hl : lv_has ls 2 [(0, .ref x), (1, .ref v)] := hl
  refine lv_aload_n hx hb d_AL_add_f_0 rfl (lv_at hl 0 rfl) ?_
  refine lv_dup hx hb d_AL_add_f_1 rfl ?_
  refine hx_get (ref := "java/util/ArrayList") (v := .int mc) hx hb htg iAL hown hK h1 rfl 2 (by decide) (htg _ (gw_mem (i := 117) (by decide +kernel) rfl)) (fun x9 h9 => u_same (htg _ (gw_mem (i := 118) (by decide +kernel) rfl)) x9 h9) rfl d_AL_add_f_2 ?_
  refine lv_iconst (v := 1) hx hb d_AL_add_f_5 (by decide) ?_
  refine lv_iadd (x := mc) (y := 1) hx hb d_AL_add_f_6 ?_
  refine hx_put (ref := "java/util/ArrayList") (ty := .int) (v := .int (mc + 1)) hx hb htg iAL tAL tAL_ok nAL hown hK h1 hS jA_in21 rfl 2 (by decide) (htg _ (gw_mem (i := 117) (by decide +kernel) rfl)) (fun x9 h9 => u_same (htg _ (gw_mem (i := 118) (by decide +kernel) rfl)) x9 h9) rfl (by decide +kernel) rfl rfl (Nat.le_of_ble_eq_true rfl) d_AL_add_f_7 (fun H locs hat hz ho hS => ?_)
  replace h1 : va_at D vwCl (x, .inr (6, [.ref ea, .int (nI cap), .int (mc + 1)])) H := hat
  replace h2 := hx_keep h2 (ho _ (show ea ≠ x by omega))
  replace hv := hv.keep (ho _ (by have := hv.lt; omega))
  replace hel : ∀ i y, i < cap → el i = some y → isE D H ci y ∧ y ≠ x := fun i y hi hy => ⟨(hel i y hi hy).1.keep (ho _ (hel i y hi hy).2), (hel i y hi hy).2⟩
  refine lv_aload_n hx hb d_AL_add_f_10 rfl (lv_at hl 0 rfl) ?_
  refine lv_aload_n hx hb d_AL_add_f_11 rfl (lv_at hl 1 rfl) ?_
  refine lv_aload_n hx hb d_AL_add_f_12 rfl (lv_at hl 0 rfl) ?_
  refine hx_get (ref := "java/util/ArrayList") (v := .ref ea) hx hb htg iAL hown hK h1 rfl 0 (by decide) (htg _ (gw_mem (i := 114) (by decide +kernel) rfl)) (fun _ h9 => h9) rfl d_AL_add_f_13 ?_
  refine lv_aload_n hx hb d_AL_add_f_16 rfl (lv_at hl 0 rfl) ?_
  refine hx_get (ref := "java/util/ArrayList") (v := .int (nI cap)) hx hb htg iAL hown hK h1 rfl 1 (by decide) (htg _ (gw_mem (i := 115) (by decide +kernel) rfl)) (fun _ h9 => h9) rfl d_AL_add_f_17 ?_
  obtain ⟨nq1, hnq1⟩ : ∃ z : Nat, z = H.size := ⟨_, rfl⟩
  have hlt_q2 := hx_lt h1
  have hlt_q3 := hx_lt h2
  refine h_callv (va_runV (As := [.ref v, .ref ea, .int (nI cap)]) (rest := []) ⟨hx, hb, hml, hown, htg⟩ (c_AL_add3_f l D cs N0 H x ea cap nq1 ci v (mc + 1) qc el h1 h2 hnq1 (by omega) (by omega) hxe (fun i y hi hy => (hel i y hi hy).1) hci hca (by omega) (by omega) hv hvx hve) ⟨x_cwB 3 htg (gw_mem (i := 688) (by decide +kernel) rfl) (gw_mem (i := 37) (by decide +kernel) rfl) (gw_mem (i := 685) (by decide +kernel) rfl) (by decide +kernel) ⟨Nat.le_of_ble_eq_true rfl, Nat.le_of_ble_eq_true rfl⟩, htg _ (gw_mem (i := 687) (by decide +kernel) rfl), htg _ (gw_mem (i := 8) (by decide +kernel) rfl)⟩ ⟨hPre.blind, hx_recv hK (ci := 6) rfl h1, hPre.at hB hS hAN⟩ rfl rfl hl.1 rfl (lv_room (Nat.le_of_ble_eq_true rfl)) d_AL_add_f_20 ⟨Nat.le_of_ble_eq_true rfl, Nat.le_of_ble_eq_true rfl⟩) hS (jA_sub2 jA_in21 jA_in22 (fun q9 h9 => Or.inr (show N ≤ q9 by omega))) (fun H locs hp hz hk hS => ?_)
  have hvl := hv.lt
  replace hv := hv.keep (hk _ hv.lt (jA_not2 (by omega) (by omega) (by have := hv.lt; omega)))
  obtain ⟨hO4, hO5⟩ := hp
  refine lv_iconst (v := 1) hx hb d_AL_add_f_23 (by decide) ?_
  exact W.zret (v := 1) hx hb hr (by decide) (fun t ht hW => ⟨⟨1, H, rfl, ⟨rfl, _, (show nq1 = N by omega) ▸ hO4, (show nq1 = N by omega) ▸ hO5⟩, ht⟩, hS.F ht⟩) hS.2.2 d_AL_add_f_24
def y_AL_add_r : MethodName := ⟨"java/util/ArrayList", "add", "(Ljava/lang/Object;)Z"⟩
abbrev w_AL_add_r : List Cond := Cond.code y_AL_add_r prog_29_method_25_code 2 (Option.some Jvm.ClassFile.FieldType.boolean) :: gw
theorem d_AL_add_r_0 : decode prog_29_method_25_code 0 = .ok (.aload_n 0, 1) := by decide +kernel
theorem d_AL_add_r_1 : decode prog_29_method_25_code 1 = .ok (.dup, 1) := by decide +kernel
theorem d_AL_add_r_2 : decode prog_29_method_25_code 2 = .ok (.getfield 63, 3) := by decide +kernel
theorem d_AL_add_r_5 : decode prog_29_method_25_code 5 = .ok (.iconst 1, 1) := by decide +kernel
theorem d_AL_add_r_6 : decode prog_29_method_25_code 6 = .ok (.iadd, 1) := by decide +kernel
theorem d_AL_add_r_7 : decode prog_29_method_25_code 7 = .ok (.putfield 63, 3) := by decide +kernel
theorem d_AL_add_r_10 : decode prog_29_method_25_code 10 = .ok (.aload_n 0, 1) := by decide +kernel
theorem d_AL_add_r_11 : decode prog_29_method_25_code 11 = .ok (.aload_n 1, 1) := by decide +kernel
theorem d_AL_add_r_12 : decode prog_29_method_25_code 12 = .ok (.aload_n 0, 1) := by decide +kernel
theorem d_AL_add_r_13 : decode prog_29_method_25_code 13 = .ok (.getfield 9, 3) := by decide +kernel
theorem d_AL_add_r_16 : decode prog_29_method_25_code 16 = .ok (.aload_n 0, 1) := by decide +kernel
theorem d_AL_add_r_17 : decode prog_29_method_25_code 17 = .ok (.getfield 48, 3) := by decide +kernel
theorem d_AL_add_r_20 : decode prog_29_method_25_code 20 = .ok (.invokevirtual 131, 3) := by decide +kernel
theorem d_AL_add_r_23 : decode prog_29_method_25_code 23 = .ok (.iconst 1, 1) := by decide +kernel
theorem d_AL_add_r_24 : decode prog_29_method_25_code 24 = .ok (.ireturn, 1) := by decide +kernel
set_option maxHeartbeats 4000000 in
set_option maxRecDepth 100000 in
theorem c_AL_add_r (l : Launch) (D : va_G) (cs : Nat → ClassId) (N0 : Nat) (H : Heap) (x ea cap n N ci v : Nat) (mc : Int32) (qc : vw_C) (el : Nat → Option Nat) (h1 : va_at D vwCl (x, .inr (6, [.ref ea, .int (nI n), .int mc])) H) (h2 : va_at D vwCl (ea, .inl (cs 4, (cap, .inr (.inr (.inr (.inr el)))))) H) (hN : N = H.size) (hx0 : N0 ≤ x) (he0 : N0 ≤ ea) (hxe : x ≠ ea) (hci : vwCl[ci]? = some qc) (hca : (qc.1, "java/lang/Object") ∈ zCst) (hn : n < cap) (hc2 : cap < 200) (hv : isE D H ci v) (hvx : v ≠ x) (hve : v ≠ ea) : Met l y_AL_add_r w_AL_add_r ({ frames := 1, cells := 0, slots := 0, locals := 23 }) (hPre D cs N0 [.ref x, .ref v] H) (hQi (fun r H' => r = 1 ∧ ∃ mc' : Int32, va_at D vwCl (x, .inr (6, [.ref ea, .int (nI (n + 1)), .int mc'])) H' ∧ va_at D vwCl (ea, .inl (cs 4, (cap, .inr (.inr (.inr (.inr (va_up el n (some v)))))))) H') (jA [x, ea] N)) 0 0 (jA [x, ea] N) := by
  refine Met.ofW (cc := prog_29_method_25_code) (maxL := 2) (ret := (Option.some Jvm.ClassFile.FieldType.boolean)) (by decide) rfl ?_
  intro p e s m args below meth c s₁ B hml hv
  obtain ⟨rfl, rfl, hB⟩ := hv
  have hx := B.exec
  have hb := B.bytes
  have hr := B.returns
  have hts := atoms_spec (ws := w_AL_add_r) B.pre
  have htg : ∀ w ∈ gw, w.before _ s = true := fun w h => hts w (List.mem_cons_of_mem _ h)
  have hown : s.vm.findClass "java/util/ArrayList" = some m.cls := findClass_of_methodNamed B.named
  have hlocks := B.notSynchronized
  have hAN : ∀ q, (jA [x, ea] N) q → N0 ≤ q := jA_sub2 hx0 he0 (fun q9 h9 => Nat.le_trans hB.2.1 (hN ▸ h9))
  have hK := hB.1
  obtain ⟨H, hH⟩ : ∃ z : Heap, z = s.heap := ⟨_, rfl⟩
  have hz0 : H.size = s.heap.size := by rw [hH]
  have hN0 := hB.2.1
  rw [← hH] at h1 h2 hv
  have hS : va_S (jA [x, ea] N) s.heap H [] := by rw [hH]; exact va_S.rf
  have hl := lv_entry ([.ref x, .ref v]) (n := 2) (Nat.le_of_ble_eq_true rfl)
  rw [lg_entry_eq, ← hH]
  generalize (lg_sl ([.ref x, .ref v]) ++ List.replicate (2 - (lg_sl ([.ref x, .ref v])).length) Slot.unset).toArray = ls at hl ⊢
  have hl : lv_has ls 2 [(0, .ref x), (1, .ref v)] := hl
  refine lv_aload_n hx hb d_AL_add_r_0 rfl (lv_at hl 0 rfl) ?_
  refine lv_dup hx hb d_AL_add_r_1 rfl ?_
  refine hx_get (ref := "java/util/ArrayList") (v := .int mc) hx hb htg iAL hown hK h1 rfl 2 (by decide) (htg _ (gw_mem (i := 117) (by decide +kernel) rfl)) (fun x9 h9 => u_same (htg _ (gw_mem (i := 118) (by decide +kernel) rfl)) x9 h9) rfl d_AL_add_r_2 ?_
  refine lv_iconst (v := 1) hx hb d_AL_add_r_5 (by decide) ?_
  refine lv_iadd (x := mc) (y := 1) hx hb d_AL_add_r_6 ?_
  refine hx_put (ref := "java/util/ArrayList") (ty := .int) (v := .int (mc + 1)) hx hb htg iAL tAL tAL_ok nAL hown hK h1 hS jA_in21 rfl 2 (by decide) (htg _ (gw_mem (i := 117) (by decide +kernel) rfl)) (fun x9 h9 => u_same (htg _ (gw_mem (i := 118) (by decide +kernel) rfl)) x9 h9) rfl (by decide +kernel) rfl rfl (Nat.le_of_ble_eq_true rfl) d_AL_add_r_7 (fun H locs hat hz ho hS => ?_)
  replace h1 : va_at D vwCl (x, .inr (6, [.ref ea, .int (nI n), .int (mc + 1)])) H := hat
  replace h2 := hx_keep h2 (ho _ (show ea ≠ x by omega))
  replace hv := hv.keep (ho _ (by have := hv.lt; omega))
  refine lv_aload_n hx hb d_AL_add_r_10 rfl (lv_at hl 0 rfl) ?_
  refine lv_aload_n hx hb d_AL_add_r_11 rfl (lv_at hl 1 rfl) ?_
  refine lv_aload_n hx hb d_AL_add_r_12 rfl (lv_at hl 0 rfl) ?_
  refine hx_get (ref := "java/util/ArrayList") (v := .ref ea) hx hb htg iAL hown hK h1 rfl 0 (by decide) (htg _ (gw_mem (i := 114) (by decide +kernel) rfl)) (fun _ h9 => h9) rfl d_AL_add_r_13 ?_
  refine lv_aload_n hx hb d_AL_add_r_16 rfl (lv_at hl 0 rfl) ?_
  refine hx_get (ref := "java/util/ArrayList") (v := .int (nI n)) hx hb htg iAL hown hK h1 rfl 1 (by decide) (htg _ (gw_mem (i := 115) (by decide +kernel) rfl)) (fun _ h9 => h9) rfl d_AL_add_r_17 ?_
  obtain ⟨nq1, hnq1⟩ : ∃ z : Nat, z = H.size := ⟨_, rfl⟩
  have hlt_q2 := hx_lt h1
  have hlt_q3 := hx_lt h2
  refine h_callv (va_runV (As := [.ref v, .ref ea, .int (nI n)]) (rest := []) ⟨hx, hb, hml, hown, htg⟩ (c_AL_add3_r l D cs N0 H x ea cap n nq1 ci v (mc + 1) qc el h1 h2 hnq1 (by omega) (by omega) hxe hci hca (by omega) (by omega) hv hvx hve) ⟨x_cwB 3 htg (gw_mem (i := 688) (by decide +kernel) rfl) (gw_mem (i := 37) (by decide +kernel) rfl) (gw_mem (i := 685) (by decide +kernel) rfl) (by decide +kernel) ⟨Nat.le_of_ble_eq_true rfl, Nat.le_of_ble_eq_true rfl⟩, htg _ (gw_mem (i := 687) (by decide +kernel) rfl), htg _ (gw_mem (i := 8) (by decide +kernel) rfl)⟩ ⟨hPre.blind, hx_recv hK (ci := 6) rfl h1, hPre.at hB hS hAN⟩ rfl rfl hl.1 rfl (lv_room (Nat.le_of_ble_eq_true rfl)) d_AL_add_r_20 ⟨Nat.le_of_ble_eq_true rfl, Nat.le_of_ble_eq_true rfl⟩) hS (jA_sub2 jA_in21 jA_in22 (fun q9 h9 => Or.inr (show N ≤ q9 by omega))) (fun H locs hp hz hk hS => ?_)
  have hvl := hv.lt
  replace hv := hv.keep (hk _ hv.lt (jA_not2 (by omega) (by omega) (by have := hv.lt; omega)))
  obtain ⟨hO4, hO5⟩ := hp
  refine lv_iconst (v := 1) hx hb d_AL_add_r_23 (by decide) ?_
  exact W.zret (v := 1) hx hb hr (by decide) (fun t ht hW => ⟨⟨1, H, rfl, ⟨rfl, _, hO4, hO5⟩, ht⟩, hS.F ht⟩) hS.2.2 d_AL_add_r_24
def y_AL_add_e : MethodName := ⟨"java/util/ArrayList", "add", "(Ljava/lang/Object;)Z"⟩
abbrev w_AL_add_e : List Cond := Cond.code y_AL_add_e prog_29_method_25_code 2 (Option.some Jvm.ClassFile.FieldType.boolean) :: gw
theorem d_AL_add_e_0 : decode prog_29_method_25_code 0 = .ok (.aload_n 0, 1) := by decide +kernel
theorem d_AL_add_e_1 : decode prog_29_method_25_code 1 = .ok (.dup, 1) := by decide +kernel
theorem d_AL_add_e_2 : decode prog_29_method_25_code 2 = .ok (.getfield 63, 3) := by decide +kernel
theorem d_AL_add_e_5 : decode prog_29_method_25_code 5 = .ok (.iconst 1, 1) := by decide +kernel
theorem d_AL_add_e_6 : decode prog_29_method_25_code 6 = .ok (.iadd, 1) := by decide +kernel
theorem d_AL_add_e_7 : decode prog_29_method_25_code 7 = .ok (.putfield 63, 3) := by decide +kernel
theorem d_AL_add_e_10 : decode prog_29_method_25_code 10 = .ok (.aload_n 0, 1) := by decide +kernel
theorem d_AL_add_e_11 : decode prog_29_method_25_code 11 = .ok (.aload_n 1, 1) := by decide +kernel
theorem d_AL_add_e_12 : decode prog_29_method_25_code 12 = .ok (.aload_n 0, 1) := by decide +kernel
theorem d_AL_add_e_13 : decode prog_29_method_25_code 13 = .ok (.getfield 9, 3) := by decide +kernel
theorem d_AL_add_e_16 : decode prog_29_method_25_code 16 = .ok (.aload_n 0, 1) := by decide +kernel
theorem d_AL_add_e_17 : decode prog_29_method_25_code 17 = .ok (.getfield 48, 3) := by decide +kernel
theorem d_AL_add_e_20 : decode prog_29_method_25_code 20 = .ok (.invokevirtual 131, 3) := by decide +kernel
theorem d_AL_add_e_23 : decode prog_29_method_25_code 23 = .ok (.iconst 1, 1) := by decide +kernel
theorem d_AL_add_e_24 : decode prog_29_method_25_code 24 = .ok (.ireturn, 1) := by decide +kernel
set_option maxHeartbeats 4000000 in
set_option maxRecDepth 100000 in
theorem c_AL_add_e (l : Launch) (D : va_G) (cs : Nat → ClassId) (N0 : Nat) (H : Heap) (x N ci v : Nat) (mc : Int32) (qc : vw_C) (h1 : va_at D vwCl (x, .inr (6, [.ref (cs 9), .int 0, .int mc])) H) (hN : N = H.size) (hx0 : N0 ≤ x) (hci : vwCl[ci]? = some qc) (hca : (qc.1, "java/lang/Object") ∈ zCst) (hv : isE D H ci v) (hvx : v ≠ x) : Met l y_AL_add_e w_AL_add_e ({ frames := 4, cells := 1, slots := 10, locals := 88 }) (hPre D cs N0 [.ref x, .ref v] H) (hQi (fun r H' => r = 1 ∧ ∃ mc' : Int32, va_at D vwCl (x, .inr (6, [.ref N, .int 1, .int mc'])) H' ∧ va_at D vwCl (N, .inl (cs 4, (10, .inr (.inr (.inr (.inr (va_up (fun _ => none) 0 (some v)))))))) H') (jA [x] N)) 1 10 (jA [x] N) := by
  refine Met.ofW (cc := prog_29_method_25_code) (maxL := 2) (ret := (Option.some Jvm.ClassFile.FieldType.boolean)) (by decide) rfl ?_
  intro p e s m args below meth c s₁ B hml hv
  obtain ⟨rfl, rfl, hB⟩ := hv
  have hx := B.exec
  have hb := B.bytes
  have hr := B.returns
  have hts := atoms_spec (ws := w_AL_add_e) B.pre
  have htg : ∀ w ∈ gw, w.before _ s = true := fun w h => hts w (List.mem_cons_of_mem _ h)
  have hown : s.vm.findClass "java/util/ArrayList" = some m.cls := findClass_of_methodNamed B.named
  have hlocks := B.notSynchronized
  have hAN : ∀ q, (jA [x] N) q → N0 ≤ q := jA_sub1 hx0 (fun q9 h9 => Nat.le_trans hB.2.1 (hN ▸ h9))
  have hK := hB.1
  obtain ⟨H, hH⟩ : ∃ z : Heap, z = s.heap := ⟨_, rfl⟩
  have hz0 : H.size = s.heap.size := by rw [hH]
  have hN0 := hB.2.1
  rw [← hH] at h1 hv
  have hS : va_S (jA [x] N) s.heap H [] := by rw [hH]; exact va_S.rf
  have hl := lv_entry ([.ref x, .ref v]) (n := 2) (Nat.le_of_ble_eq_true rfl)
  rw [lg_entry_eq, ← hH]
  generalize (lg_sl ([.ref x, .ref v]) ++ List.replicate (2 - (lg_sl ([.ref x, .ref v])).length) Slot.unset).toArray = ls at hl ⊢
  have hl : lv_has ls 2 [(0, .ref x), (1, .ref v)] := hl
  refine lv_aload_n hx hb d_AL_add_e_0 rfl (lv_at hl 0 rfl) ?_
  refine lv_dup hx hb d_AL_add_e_1 rfl ?_
  refine hx_get (ref := "java/util/ArrayList") (v := .int mc) hx hb htg iAL hown hK h1 rfl 2 (by decide) (htg _ (gw_mem (i := 117) (by decide +kernel) rfl)) (fun x9 h9 => u_same (htg _ (gw_mem (i := 118) (by decide +kernel) rfl)) x9 h9) rfl d_AL_add_e_2 ?_
  refine lv_iconst (v := 1) hx hb d_AL_add_e_5 (by decide) ?_
  refine lv_iadd (x := mc) (y := 1) hx hb d_AL_add_e_6 ?_
  refine hx_put (ref := "java/util/ArrayList") (ty := .int) (v := .int (mc + 1)) hx hb htg iAL tAL tAL_ok nAL hown hK h1 hS jA_in1 rfl 2 (by decide) (htg _ (gw_mem (i := 117) (by decide +kernel) rfl)) (fun x9 h9 => u_same (htg _ (gw_mem (i := 118) (by decide +kernel) rfl)) x9 h9) rfl (by decide +kernel) rfl rfl (Nat.le_of_ble_eq_true rfl) d_AL_add_e_7 (fun H locs hat hz ho hS => ?_)
  replace h1 : va_at D vwCl (x, .inr (6, [.ref (cs 9), .int 0, .int (mc + 1)])) H := hat
  replace hv := hv.keep (ho _ (by have := hv.lt; omega))
  refine lv_aload_n hx hb d_AL_add_e_10 rfl (lv_at hl 0 rfl) ?_
  refine lv_aload_n hx hb d_AL_add_e_11 rfl (lv_at hl 1 rfl) ?_
  refine lv_aload_n hx hb d_AL_add_e_12 rfl (lv_at hl 0 rfl) ?_
  refine hx_get (ref := "java/util/ArrayList") (v := .ref (cs 9)) hx hb htg iAL hown hK h1 rfl 0 (by decide) (htg _ (gw_mem (i := 114) (by decide +kernel) rfl)) (fun _ h9 => h9) rfl d_AL_add_e_13 ?_
  refine lv_aload_n hx hb d_AL_add_e_16 rfl (lv_at hl 0 rfl) ?_
  refine hx_get (ref := "java/util/ArrayList") (v := .int 0) hx hb htg iAL hown hK h1 rfl 1 (by decide) (htg _ (gw_mem (i := 115) (by decide +kernel) rfl)) (fun _ h9 => h9) rfl d_AL_add_e_17 ?_
  obtain ⟨nq1, hnq1⟩ : ∃ z : Nat, z = H.size := ⟨_, rfl⟩
  have hlt_q2 := hx_lt h1
  refine h_callv (va_runV (As := [.ref v, .ref (cs 9), .int 0]) (rest := []) ⟨hx, hb, hml, hown, htg⟩ (c_AL_add3_e l D cs N0 H x nq1 ci v (mc + 1) qc h1 hnq1 (by omega) hci hca hv hvx) ⟨x_cwB 3 htg (gw_mem (i := 688) (by decide +kernel) rfl) (gw_mem (i := 37) (by decide +kernel) rfl) (gw_mem (i := 685) (by decide +kernel) rfl) (by decide +kernel) ⟨Nat.le_of_ble_eq_true rfl, Nat.le_of_ble_eq_true rfl⟩, htg _ (gw_mem (i := 687) (by decide +kernel) rfl), htg _ (gw_mem (i := 8) (by decide +kernel) rfl)⟩ ⟨hPre.blind, hx_recv hK (ci := 6) rfl h1, hPre.at hB hS hAN⟩ rfl rfl hl.1 rfl (lv_room (Nat.le_of_ble_eq_true rfl)) d_AL_add_e_20 ⟨Nat.le_of_ble_eq_true rfl, Nat.le_of_ble_eq_true rfl⟩) hS (jA_sub1 jA_in1 (fun q9 h9 => Or.inr (show N ≤ q9 by omega))) (fun H locs hp hz hk hS => ?_)
  have hvl := hv.lt
  replace hv := hv.keep (hk _ hv.lt (jA_not1 (by omega) (by have := hv.lt; omega)))
  obtain ⟨hO3, hO4⟩ := hp
  refine lv_iconst (v := 1) hx hb d_AL_add_e_23 (by decide) ?_
  exact W.zret (v := 1) hx hb hr (by decide) (fun t ht hW => ⟨⟨1, H, rfl, ⟨rfl, _, (show nq1 = N by omega) ▸ hO3, (show nq1 = N by omega) ▸ hO4⟩, ht⟩, hS.F ht⟩) hS.2.2 d_AL_add_e_24
