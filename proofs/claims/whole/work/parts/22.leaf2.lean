def minV (a b : Int32) : Int32 := if b < a then b else a
def maxV (a b : Int32) : Int32 := if a < b then b else a
def plcV (a b : Int32) : Int32 := minV a b * 24 + maxV a b
def y_Nm_placeOf : MethodName := ⟨"NameMerges", "placeOf", "(II)I"⟩
abbrev w_Nm_placeOf : List Cond := Cond.code y_Nm_placeOf prog_1_method_30_code 2 (Option.some Jvm.ClassFile.FieldType.int) :: gw
theorem d_Nm_placeOf_0 : decode prog_1_method_30_code 0 = .ok (.iload_n 0, 1) := by decide +kernel
theorem d_Nm_placeOf_1 : decode prog_1_method_30_code 1 = .ok (.iload_n 1, 1) := by decide +kernel
theorem d_Nm_placeOf_2 : decode prog_1_method_30_code 2 = .ok (.invokestatic 253, 3) := by decide +kernel
theorem d_Nm_placeOf_5 : decode prog_1_method_30_code 5 = .ok (.bipush 24, 2) := by decide +kernel
theorem d_Nm_placeOf_7 : decode prog_1_method_30_code 7 = .ok (.imul, 1) := by decide +kernel
theorem d_Nm_placeOf_8 : decode prog_1_method_30_code 8 = .ok (.iload_n 0, 1) := by decide +kernel
theorem d_Nm_placeOf_9 : decode prog_1_method_30_code 9 = .ok (.iload_n 1, 1) := by decide +kernel
theorem d_Nm_placeOf_10 : decode prog_1_method_30_code 10 = .ok (.invokestatic 258, 3) := by decide +kernel
theorem d_Nm_placeOf_13 : decode prog_1_method_30_code 13 = .ok (.iadd, 1) := by decide +kernel
theorem d_Nm_placeOf_14 : decode prog_1_method_30_code 14 = .ok (.ireturn, 1) := by decide +kernel
set_option maxHeartbeats 4000000 in
set_option maxRecDepth 100000 in
theorem c_Nm_placeOf (l : Launch) (D : va_G) (cs : Nat → ClassId) (N0 : Nat) (H : Heap) (a b : Int32) : Met l y_Nm_placeOf w_Nm_placeOf ({ frames := 1, cells := 0, slots := 0, locals := 21 }) (hPre D cs N0 [.int a, .int b] H) (hQi (fun r H' => H' = H ∧ r = plcV a b) noA) 0 0 noA := by
  refine Met.ofW (cc := prog_1_method_30_code) (maxL := 2) (ret := (Option.some Jvm.ClassFile.FieldType.int)) (by decide) rfl ?_
  intro p e s m args below meth c s₁ B hml hv
  obtain ⟨rfl, rfl, hB⟩ := hv
  have hx := B.exec
  have hb := B.bytes
  have hr := B.returns
  have hts := atoms_spec (ws := w_Nm_placeOf) B.pre
  have htg : ∀ w ∈ gw, w.before _ s = true := fun w h => hts w (List.mem_cons_of_mem _ h)
  have hown : s.vm.findClass "NameMerges" = some m.cls := findClass_of_methodNamed B.named
  have hlocks := B.notSynchronized
  have hK := hB.1
  obtain ⟨H, hH⟩ : ∃ z : Heap, z = s.heap := ⟨_, rfl⟩
  have hS : va_S noA s.heap H [] := by rw [hH]; exact va_S.rf
  have hl := lv_entry ([.int a, .int b]) (n := 2) (Nat.le_of_ble_eq_true rfl)
  rw [lg_entry_eq, ← hH]
  generalize (lg_sl ([.int a, .int b]) ++ List.replicate (2 - (lg_sl ([.int a, .int b])).length) Slot.unset).toArray = ls at hl ⊢
  have hl : lv_has ls 2 [(0, .int a), (1, .int b)] := hl
  refine lv_iload_n hx hb d_Nm_placeOf_0 rfl (lv_at hl 0 rfl) ?_
  refine lv_iload_n hx hb d_Nm_placeOf_1 rfl (lv_at hl 1 rfl) ?_
  refine va_mmin (x := a) (y := b) hx hb (hml.trans hl.1.symm) hown (htg _ (gw_mem (i := 534) (by decide +kernel) rfl)) (htg _ (gw_mem (i := 219) (by decide +kernel) rfl)) (htg _ (gw_mem (i := 45) (by decide +kernel) rfl)) (htg _ (gw_mem (w := Cond.code Lib.Math.min.name Lib.Math.min.code 2 (some .int)) (i := 220) (by decide +kernel) rfl)) (Nat.le_of_ble_eq_true rfl) (Nat.le_of_ble_eq_true rfl) (Nat.zero_le _) (Nat.zero_le _) d_Nm_placeOf_2 ?_
  refine lv_eqi (y := (minV a b)) rfl ?_
  refine lv_bipush (v := 24) hx hb d_Nm_placeOf_5 (by decide) ?_
  refine lv_imul (x := (minV a b)) (y := 24) hx hb d_Nm_placeOf_7 ?_
  refine lv_iload_n hx hb d_Nm_placeOf_8 rfl (lv_at hl 0 rfl) ?_
  refine lv_iload_n hx hb d_Nm_placeOf_9 rfl (lv_at hl 1 rfl) ?_
  refine va_mmax (x := a) (y := b) hx hb (hml.trans hl.1.symm) hown (htg _ (gw_mem (i := 535) (by decide +kernel) rfl)) (htg _ (gw_mem (i := 201) (by decide +kernel) rfl)) (htg _ (gw_mem (i := 45) (by decide +kernel) rfl)) (htg _ (gw_mem (w := Cond.code Lib.Math.max.name Lib.Math.max.code 2 (some .int)) (i := 202) (by decide +kernel) rfl)) (Nat.le_of_ble_eq_true rfl) (Nat.le_of_ble_eq_true rfl) (Nat.zero_le _) (Nat.zero_le _) d_Nm_placeOf_10 ?_
  refine lv_eqi (y := (maxV a b)) rfl ?_
  refine lv_iadd (x := ((minV a b) * 24)) (y := (maxV a b)) hx hb d_Nm_placeOf_13 ?_
  exact W.iret (v := (((minV a b) * 24) + (maxV a b))) hx hb hr (fun t ht hW => ⟨⟨(((minV a b) * 24) + (maxV a b)), H, rfl, ⟨rfl, rfl⟩, ht⟩, hS.F ht⟩) hS.2.2 d_Nm_placeOf_14
def ush (a b : Int32) : Int32 := (a.toUInt32 >>> (b.toUInt32 &&& Int32.toUInt32 31)).toInt32
def bc1 (x : Int32) : Int32 := x - (ush x 1 &&& 1431655765)
def bc2 (x : Int32) : Int32 := (x &&& 858993459) + (ush x 2 &&& 858993459)
def bc3 (x : Int32) : Int32 := (x + ush x 4) &&& 252645135
def bc4 (x : Int32) : Int32 := x + ush x 8
def bc5 (x : Int32) : Int32 := x + ush x 16
def bcV (x : Int32) : Int32 := bc5 (bc4 (bc3 (bc2 (bc1 x)))) &&& 63
def y_In_bitCount : MethodName := ⟨"java/lang/Integer", "bitCount", "(I)I"⟩
abbrev w_In_bitCount : List Cond := Cond.code y_In_bitCount prog_16_method_49_code 1 (Option.some Jvm.ClassFile.FieldType.int) :: gw
theorem d_In_bitCount_0 : decode prog_16_method_49_code 0 = .ok (.iload_n 0, 1) := by decide +kernel
theorem d_In_bitCount_1 : decode prog_16_method_49_code 1 = .ok (.iload_n 0, 1) := by decide +kernel
theorem d_In_bitCount_2 : decode prog_16_method_49_code 2 = .ok (.iconst 1, 1) := by decide +kernel
theorem d_In_bitCount_3 : decode prog_16_method_49_code 3 = .ok (.iushr, 1) := by decide +kernel
theorem d_In_bitCount_4 : decode prog_16_method_49_code 4 = .ok (.ldc_w 265, 3) := by decide +kernel
theorem d_In_bitCount_7 : decode prog_16_method_49_code 7 = .ok (.iand, 1) := by decide +kernel
theorem d_In_bitCount_8 : decode prog_16_method_49_code 8 = .ok (.isub, 1) := by decide +kernel
theorem d_In_bitCount_9 : decode prog_16_method_49_code 9 = .ok (.istore_n 0, 1) := by decide +kernel
theorem d_In_bitCount_10 : decode prog_16_method_49_code 10 = .ok (.iload_n 0, 1) := by decide +kernel
theorem d_In_bitCount_11 : decode prog_16_method_49_code 11 = .ok (.ldc_w 266, 3) := by decide +kernel
theorem d_In_bitCount_14 : decode prog_16_method_49_code 14 = .ok (.iand, 1) := by decide +kernel
theorem d_In_bitCount_15 : decode prog_16_method_49_code 15 = .ok (.iload_n 0, 1) := by decide +kernel
theorem d_In_bitCount_16 : decode prog_16_method_49_code 16 = .ok (.iconst 2, 1) := by decide +kernel
theorem d_In_bitCount_17 : decode prog_16_method_49_code 17 = .ok (.iushr, 1) := by decide +kernel
theorem d_In_bitCount_18 : decode prog_16_method_49_code 18 = .ok (.ldc_w 266, 3) := by decide +kernel
theorem d_In_bitCount_21 : decode prog_16_method_49_code 21 = .ok (.iand, 1) := by decide +kernel
theorem d_In_bitCount_22 : decode prog_16_method_49_code 22 = .ok (.iadd, 1) := by decide +kernel
theorem d_In_bitCount_23 : decode prog_16_method_49_code 23 = .ok (.istore_n 0, 1) := by decide +kernel
theorem d_In_bitCount_24 : decode prog_16_method_49_code 24 = .ok (.iload_n 0, 1) := by decide +kernel
theorem d_In_bitCount_25 : decode prog_16_method_49_code 25 = .ok (.iload_n 0, 1) := by decide +kernel
theorem d_In_bitCount_26 : decode prog_16_method_49_code 26 = .ok (.iconst 4, 1) := by decide +kernel
theorem d_In_bitCount_27 : decode prog_16_method_49_code 27 = .ok (.iushr, 1) := by decide +kernel
theorem d_In_bitCount_28 : decode prog_16_method_49_code 28 = .ok (.iadd, 1) := by decide +kernel
theorem d_In_bitCount_29 : decode prog_16_method_49_code 29 = .ok (.ldc_w 267, 3) := by decide +kernel
theorem d_In_bitCount_32 : decode prog_16_method_49_code 32 = .ok (.iand, 1) := by decide +kernel
theorem d_In_bitCount_33 : decode prog_16_method_49_code 33 = .ok (.istore_n 0, 1) := by decide +kernel
theorem d_In_bitCount_34 : decode prog_16_method_49_code 34 = .ok (.iload_n 0, 1) := by decide +kernel
theorem d_In_bitCount_35 : decode prog_16_method_49_code 35 = .ok (.iload_n 0, 1) := by decide +kernel
theorem d_In_bitCount_36 : decode prog_16_method_49_code 36 = .ok (.bipush 8, 2) := by decide +kernel
theorem d_In_bitCount_38 : decode prog_16_method_49_code 38 = .ok (.iushr, 1) := by decide +kernel
theorem d_In_bitCount_39 : decode prog_16_method_49_code 39 = .ok (.iadd, 1) := by decide +kernel
theorem d_In_bitCount_40 : decode prog_16_method_49_code 40 = .ok (.istore_n 0, 1) := by decide +kernel
theorem d_In_bitCount_41 : decode prog_16_method_49_code 41 = .ok (.iload_n 0, 1) := by decide +kernel
theorem d_In_bitCount_42 : decode prog_16_method_49_code 42 = .ok (.iload_n 0, 1) := by decide +kernel
theorem d_In_bitCount_43 : decode prog_16_method_49_code 43 = .ok (.bipush 16, 2) := by decide +kernel
theorem d_In_bitCount_45 : decode prog_16_method_49_code 45 = .ok (.iushr, 1) := by decide +kernel
theorem d_In_bitCount_46 : decode prog_16_method_49_code 46 = .ok (.iadd, 1) := by decide +kernel
theorem d_In_bitCount_47 : decode prog_16_method_49_code 47 = .ok (.istore_n 0, 1) := by decide +kernel
theorem d_In_bitCount_48 : decode prog_16_method_49_code 48 = .ok (.iload_n 0, 1) := by decide +kernel
theorem d_In_bitCount_49 : decode prog_16_method_49_code 49 = .ok (.bipush 63, 2) := by decide +kernel
theorem d_In_bitCount_51 : decode prog_16_method_49_code 51 = .ok (.iand, 1) := by decide +kernel
theorem d_In_bitCount_52 : decode prog_16_method_49_code 52 = .ok (.ireturn, 1) := by decide +kernel
set_option maxHeartbeats 4000000 in
set_option maxRecDepth 100000 in
theorem c_In_bitCount (l : Launch) (D : va_G) (cs : Nat → ClassId) (N0 : Nat) (H : Heap) (x : Int32) : Met l y_In_bitCount w_In_bitCount ({ frames := 0, cells := 0, slots := 0, locals := 0 }) (hPre D cs N0 [.int x] H) (hQi (fun r H' => H' = H ∧ r = bcV x) noA) 0 0 noA := by
  refine Met.ofW (cc := prog_16_method_49_code) (maxL := 1) (ret := (Option.some Jvm.ClassFile.FieldType.int)) (by decide) rfl ?_
  intro p e s m args below meth c s₁ B hml hv
  obtain ⟨rfl, rfl, hB⟩ := hv
  have hx := B.exec
  have hb := B.bytes
  have hr := B.returns
  have hts := atoms_spec (ws := w_In_bitCount) B.pre
  have htg : ∀ w ∈ gw, w.before _ s = true := fun w h => hts w (List.mem_cons_of_mem _ h)
  have hown : s.vm.findClass "java/lang/Integer" = some m.cls := findClass_of_methodNamed B.named
  have hlocks := B.notSynchronized
  have hK := hB.1
  obtain ⟨H, hH⟩ : ∃ z : Heap, z = s.heap := ⟨_, rfl⟩
  have hS : va_S noA s.heap H [] := by rw [hH]; exact va_S.rf
  have hl := lv_entry ([.int x]) (n := 1) (Nat.le_of_ble_eq_true rfl)
  rw [lg_entry_eq, ← hH]
  generalize (lg_sl ([.int x]) ++ List.replicate (1 - (lg_sl ([.int x])).length) Slot.unset).toArray = ls at hl ⊢
  have hl : lv_has ls 1 [(0, .int x)] := hl
  refine lv_iload_n hx hb d_In_bitCount_0 rfl (lv_at hl 0 rfl) ?_
  refine lv_iload_n hx hb d_In_bitCount_1 rfl (lv_at hl 0 rfl) ?_
  refine lv_iconst (v := 1) hx hb d_In_bitCount_2 (by decide) ?_
  refine lv_iushr (x := x) (y := 1) (v := (ush x 1)) hx hb d_In_bitCount_3 rfl ?_
  refine lv_ldcw (v := 1431655765) hx hb hown (htg _ (gw_mem (i := 934) (by decide +kernel) rfl)) d_In_bitCount_4 ?_
  refine lv_iand (x := (ush x 1)) (y := 1431655765) hx hb d_In_bitCount_7 ?_
  refine lv_isub (x := x) (y := ((ush x 1) &&& 1431655765)) hx hb d_In_bitCount_8 ?_
  refine lv_topi (fun x1 e1 => ?_)
  refine lv_istore_n (lv' := [(0, .int x1)]) hx hb d_In_bitCount_9 rfl hl (by decide) rfl (fun ls hl => ?_)
  refine lv_iload_n hx hb d_In_bitCount_10 rfl (lv_at hl 0 rfl) ?_
  refine lv_ldcw (v := 858993459) hx hb hown (htg _ (gw_mem (i := 935) (by decide +kernel) rfl)) d_In_bitCount_11 ?_
  refine lv_iand (x := x1) (y := 858993459) hx hb d_In_bitCount_14 ?_
  refine lv_iload_n hx hb d_In_bitCount_15 rfl (lv_at hl 0 rfl) ?_
  refine lv_iconst (v := 2) hx hb d_In_bitCount_16 (by decide) ?_
  refine lv_iushr (x := x1) (y := 2) (v := (ush x1 2)) hx hb d_In_bitCount_17 rfl ?_
  refine lv_ldcw (v := 858993459) hx hb hown (htg _ (gw_mem (i := 935) (by decide +kernel) rfl)) d_In_bitCount_18 ?_
  refine lv_iand (x := (ush x1 2)) (y := 858993459) hx hb d_In_bitCount_21 ?_
  refine lv_iadd (x := (x1 &&& 858993459)) (y := ((ush x1 2) &&& 858993459)) hx hb d_In_bitCount_22 ?_
  refine lv_topi (fun x2 e2 => ?_)
  refine lv_istore_n (lv' := [(0, .int x2)]) hx hb d_In_bitCount_23 rfl hl (by decide) rfl (fun ls hl => ?_)
  refine lv_iload_n hx hb d_In_bitCount_24 rfl (lv_at hl 0 rfl) ?_
  refine lv_iload_n hx hb d_In_bitCount_25 rfl (lv_at hl 0 rfl) ?_
  refine lv_iconst (v := 4) hx hb d_In_bitCount_26 (by decide) ?_
  refine lv_iushr (x := x2) (y := 4) (v := (ush x2 4)) hx hb d_In_bitCount_27 rfl ?_
  refine lv_iadd (x := x2) (y := (ush x2 4)) hx hb d_In_bitCount_28 ?_
  refine lv_ldcw (v := 252645135) hx hb hown (htg _ (gw_mem (i := 936) (by decide +kernel) rfl)) d_In_bitCount_29 ?_
  refine lv_iand (x := (x2 + (ush x2 4))) (y := 252645135) hx hb d_In_bitCount_32 ?_
  refine lv_topi (fun x3 e3 => ?_)
  refine lv_istore_n (lv' := [(0, .int x3)]) hx hb d_In_bitCount_33 rfl hl (by decide) rfl (fun ls hl => ?_)
  refine lv_iload_n hx hb d_In_bitCount_34 rfl (lv_at hl 0 rfl) ?_
  refine lv_iload_n hx hb d_In_bitCount_35 rfl (lv_at hl 0 rfl) ?_
  refine lv_bipush (v := 8) hx hb d_In_bitCount_36 (by decide) ?_
  refine lv_iushr (x := x3) (y := 8) (v := (ush x3 8)) hx hb d_In_bitCount_38 rfl ?_
  refine lv_iadd (x := x3) (y := (ush x3 8)) hx hb d_In_bitCount_39 ?_
  refine lv_topi (fun x4 e4 => ?_)
  refine lv_istore_n (lv' := [(0, .int x4)]) hx hb d_In_bitCount_40 rfl hl (by decide) rfl (fun ls hl => ?_)
  refine lv_iload_n hx hb d_In_bitCount_41 rfl (lv_at hl 0 rfl) ?_
  refine lv_iload_n hx hb d_In_bitCount_42 rfl (lv_at hl 0 rfl) ?_
  refine lv_bipush (v := 16) hx hb d_In_bitCount_43 (by decide) ?_
  refine lv_iushr (x := x4) (y := 16) (v := (ush x4 16)) hx hb d_In_bitCount_45 rfl ?_
  refine lv_iadd (x := x4) (y := (ush x4 16)) hx hb d_In_bitCount_46 ?_
  refine lv_topi (fun x5 e5 => ?_)
  refine lv_istore_n (lv' := [(0, .int x5)]) hx hb d_In_bitCount_47 rfl hl (by decide) rfl (fun ls hl => ?_)
  refine lv_iload_n hx hb d_In_bitCount_48 rfl (lv_at hl 0 rfl) ?_
  refine lv_bipush (v := 63) hx hb d_In_bitCount_49 (by decide) ?_
  refine lv_iand (x := x5) (y := 63) hx hb d_In_bitCount_51 ?_
  exact W.iret (v := (x5 &&& 63)) hx hb hr (fun t ht hW => ⟨⟨(x5 &&& 63), H, rfl, ⟨rfl, by rw [e5, e4, e3, e2, e1]; rfl⟩, ht⟩, hS.F ht⟩) hS.2.2 d_In_bitCount_52
def nt4 (n i : Int32) : Int32 := n + ush i 1
def nt3 (n i : Int32) : Int32 := if i ≤ 4 then nt4 n i else nt4 (n + 2) (ush i 2)
def nt2 (n i : Int32) : Int32 := if i ≤ 16 then nt3 n i else nt3 (n + 4) (ush i 4)
def nt1 (n i : Int32) : Int32 := if i ≤ 256 then nt2 n i else nt2 (n + 8) (ush i 8)
def nt0 (n i : Int32) : Int32 := if i ≤ 65536 then nt1 n i else nt1 (n + 16) (ush i 16)
def ntS (i : Int32) : Int32 := if 0 < i then nt0 1 i else i &&& 32
def ntV (x : Int32) : Int32 := ntS ((x ^^^ (-1)) &&& (x - 1))
theorem ntS_ones : ∀ k, k < 31 → ntS (nI (2 ^ k - 1)) = nI k := by decide +kernel
def y_In_ntz : MethodName := ⟨"java/lang/Integer", "numberOfTrailingZeros", "(I)I"⟩
abbrev w_In_ntz : List Cond := Cond.code y_In_ntz prog_16_method_48_code 2 (Option.some Jvm.ClassFile.FieldType.int) :: gw
theorem d_In_ntz_0 : decode prog_16_method_48_code 0 = .ok (.iload_n 0, 1) := by decide +kernel
theorem d_In_ntz_1 : decode prog_16_method_48_code 1 = .ok (.iconst (-1), 1) := by decide +kernel
theorem d_In_ntz_2 : decode prog_16_method_48_code 2 = .ok (.ixor, 1) := by decide +kernel
theorem d_In_ntz_3 : decode prog_16_method_48_code 3 = .ok (.iload_n 0, 1) := by decide +kernel
theorem d_In_ntz_4 : decode prog_16_method_48_code 4 = .ok (.iconst 1, 1) := by decide +kernel
theorem d_In_ntz_5 : decode prog_16_method_48_code 5 = .ok (.isub, 1) := by decide +kernel
theorem d_In_ntz_6 : decode prog_16_method_48_code 6 = .ok (.iand, 1) := by decide +kernel
theorem d_In_ntz_7 : decode prog_16_method_48_code 7 = .ok (.istore_n 0, 1) := by decide +kernel
theorem d_In_ntz_8 : decode prog_16_method_48_code 8 = .ok (.iload_n 0, 1) := by decide +kernel
theorem d_In_ntz_9 : decode prog_16_method_48_code 9 = .ok (.ifCond .gt 8, 3) := by decide +kernel
theorem d_In_ntz_12 : decode prog_16_method_48_code 12 = .ok (.iload_n 0, 1) := by decide +kernel
theorem d_In_ntz_13 : decode prog_16_method_48_code 13 = .ok (.bipush 32, 2) := by decide +kernel
theorem d_In_ntz_15 : decode prog_16_method_48_code 15 = .ok (.iand, 1) := by decide +kernel
theorem d_In_ntz_16 : decode prog_16_method_48_code 16 = .ok (.ireturn, 1) := by decide +kernel
theorem d_In_ntz_17 : decode prog_16_method_48_code 17 = .ok (.iconst 1, 1) := by decide +kernel
theorem d_In_ntz_18 : decode prog_16_method_48_code 18 = .ok (.istore_n 1, 1) := by decide +kernel
theorem d_In_ntz_19 : decode prog_16_method_48_code 19 = .ok (.iload_n 0, 1) := by decide +kernel
theorem d_In_ntz_20 : decode prog_16_method_48_code 20 = .ok (.ldc_w 264, 3) := by decide +kernel
theorem d_In_ntz_23 : decode prog_16_method_48_code 23 = .ok (.if_icmp .le 11, 3) := by decide +kernel
theorem d_In_ntz_26 : decode prog_16_method_48_code 26 = .ok (.iinc 1 16, 3) := by decide +kernel
theorem d_In_ntz_29 : decode prog_16_method_48_code 29 = .ok (.iload_n 0, 1) := by decide +kernel
theorem d_In_ntz_30 : decode prog_16_method_48_code 30 = .ok (.bipush 16, 2) := by decide +kernel
theorem d_In_ntz_32 : decode prog_16_method_48_code 32 = .ok (.iushr, 1) := by decide +kernel
theorem d_In_ntz_33 : decode prog_16_method_48_code 33 = .ok (.istore_n 0, 1) := by decide +kernel
theorem d_In_ntz_34 : decode prog_16_method_48_code 34 = .ok (.iload_n 0, 1) := by decide +kernel
theorem d_In_ntz_35 : decode prog_16_method_48_code 35 = .ok (.sipush 256, 3) := by decide +kernel
theorem d_In_ntz_38 : decode prog_16_method_48_code 38 = .ok (.if_icmp .le 11, 3) := by decide +kernel
theorem d_In_ntz_41 : decode prog_16_method_48_code 41 = .ok (.iinc 1 8, 3) := by decide +kernel
theorem d_In_ntz_44 : decode prog_16_method_48_code 44 = .ok (.iload_n 0, 1) := by decide +kernel
theorem d_In_ntz_45 : decode prog_16_method_48_code 45 = .ok (.bipush 8, 2) := by decide +kernel
theorem d_In_ntz_47 : decode prog_16_method_48_code 47 = .ok (.iushr, 1) := by decide +kernel
theorem d_In_ntz_48 : decode prog_16_method_48_code 48 = .ok (.istore_n 0, 1) := by decide +kernel
theorem d_In_ntz_49 : decode prog_16_method_48_code 49 = .ok (.iload_n 0, 1) := by decide +kernel
theorem d_In_ntz_50 : decode prog_16_method_48_code 50 = .ok (.bipush 16, 2) := by decide +kernel
theorem d_In_ntz_52 : decode prog_16_method_48_code 52 = .ok (.if_icmp .le 10, 3) := by decide +kernel
theorem d_In_ntz_55 : decode prog_16_method_48_code 55 = .ok (.iinc 1 4, 3) := by decide +kernel
theorem d_In_ntz_58 : decode prog_16_method_48_code 58 = .ok (.iload_n 0, 1) := by decide +kernel
theorem d_In_ntz_59 : decode prog_16_method_48_code 59 = .ok (.iconst 4, 1) := by decide +kernel
theorem d_In_ntz_60 : decode prog_16_method_48_code 60 = .ok (.iushr, 1) := by decide +kernel
theorem d_In_ntz_61 : decode prog_16_method_48_code 61 = .ok (.istore_n 0, 1) := by decide +kernel
theorem d_In_ntz_62 : decode prog_16_method_48_code 62 = .ok (.iload_n 0, 1) := by decide +kernel
theorem d_In_ntz_63 : decode prog_16_method_48_code 63 = .ok (.iconst 4, 1) := by decide +kernel
theorem d_In_ntz_64 : decode prog_16_method_48_code 64 = .ok (.if_icmp .le 10, 3) := by decide +kernel
theorem d_In_ntz_67 : decode prog_16_method_48_code 67 = .ok (.iinc 1 2, 3) := by decide +kernel
theorem d_In_ntz_70 : decode prog_16_method_48_code 70 = .ok (.iload_n 0, 1) := by decide +kernel
theorem d_In_ntz_71 : decode prog_16_method_48_code 71 = .ok (.iconst 2, 1) := by decide +kernel
theorem d_In_ntz_72 : decode prog_16_method_48_code 72 = .ok (.iushr, 1) := by decide +kernel
theorem d_In_ntz_73 : decode prog_16_method_48_code 73 = .ok (.istore_n 0, 1) := by decide +kernel
theorem d_In_ntz_74 : decode prog_16_method_48_code 74 = .ok (.iload_n 1, 1) := by decide +kernel
theorem d_In_ntz_75 : decode prog_16_method_48_code 75 = .ok (.iload_n 0, 1) := by decide +kernel
theorem d_In_ntz_76 : decode prog_16_method_48_code 76 = .ok (.iconst 1, 1) := by decide +kernel
theorem d_In_ntz_77 : decode prog_16_method_48_code 77 = .ok (.iushr, 1) := by decide +kernel
theorem d_In_ntz_78 : decode prog_16_method_48_code 78 = .ok (.iadd, 1) := by decide +kernel
theorem d_In_ntz_79 : decode prog_16_method_48_code 79 = .ok (.ireturn, 1) := by decide +kernel
set_option maxHeartbeats 4000000 in
set_option maxRecDepth 100000 in
theorem c_In_ntz (l : Launch) (D : va_G) (cs : Nat → ClassId) (N0 : Nat) (H : Heap) (x : Int32) : Met l y_In_ntz w_In_ntz ({ frames := 0, cells := 0, slots := 0, locals := 0 }) (hPre D cs N0 [.int x] H) (hQi (fun r H' => H' = H ∧ r = ntV x) noA) 0 0 noA := by
  refine Met.ofW (cc := prog_16_method_48_code) (maxL := 2) (ret := (Option.some Jvm.ClassFile.FieldType.int)) (by decide) rfl ?_
  intro p e s m args below meth c s₁ B hml hv
  obtain ⟨rfl, rfl, hB⟩ := hv
  have hx := B.exec
  have hb := B.bytes
  have hr := B.returns
  have hts := atoms_spec (ws := w_In_ntz) B.pre
  have htg : ∀ w ∈ gw, w.before _ s = true := fun w h => hts w (List.mem_cons_of_mem _ h)
  have hown : s.vm.findClass "java/lang/Integer" = some m.cls := findClass_of_methodNamed B.named
  have hlocks := B.notSynchronized
  have hK := hB.1
  obtain ⟨H, hH⟩ : ∃ z : Heap, z = s.heap := ⟨_, rfl⟩
  have hS : va_S noA s.heap H [] := by rw [hH]; exact va_S.rf
  have hl := lv_entry ([.int x]) (n := 2) (Nat.le_of_ble_eq_true rfl)
  rw [lg_entry_eq, ← hH]
  generalize (lg_sl ([.int x]) ++ List.replicate (2 - (lg_sl ([.int x])).length) Slot.unset).toArray = ls at hl ⊢
  have hl : lv_has ls 2 [(0, .int x)] := hl
  refine lv_iload_n hx hb d_In_ntz_0 rfl (lv_at hl 0 rfl) ?_
  refine lv_iconst (v := (-1)) hx hb d_In_ntz_1 (by decide) ?_
  refine lv_ixor (x := x) (y := (-1)) hx hb d_In_ntz_2 ?_
  refine lv_iload_n hx hb d_In_ntz_3 rfl (lv_at hl 0 rfl) ?_
  refine lv_iconst (v := 1) hx hb d_In_ntz_4 (by decide) ?_
  refine lv_isub (x := x) (y := 1) hx hb d_In_ntz_5 ?_
  refine lv_iand (x := (x ^^^ (-1))) (y := (x - 1)) hx hb d_In_ntz_6 ?_
  refine lv_topi (fun i0 e0 => ?_)
  refine lv_istore_n (lv' := [(0, .int i0)]) hx hb d_In_ntz_7 rfl hl (by decide) rfl (fun ls hl => ?_)
  refine lv_iload_n hx hb d_In_ntz_8 rfl (lv_at hl 0 rfl) ?_
  refine lv_if_gt (x := i0) (tgt := 17) hx hb d_In_ntz_9 (by decide) (fun c9 => ?_) (fun c9 => ?_)
  · skip
    refine lv_iconst (v := 1) hx hb d_In_ntz_17 (by decide) ?_
    refine lv_istore_n (lv' := [(1, .int 1), (0, .int i0)]) hx hb d_In_ntz_18 rfl hl (by decide) rfl (fun ls hl => ?_)
    refine lv_iload_n hx hb d_In_ntz_19 rfl (lv_at hl 1 rfl) ?_
    refine lv_ldcw (v := 65536) hx hb hown (htg _ (gw_mem (i := 890) (by decide +kernel) rfl)) d_In_ntz_20 ?_
    refine lv_icmp_le (x := i0) (y := 65536) (tgt := 34) hx hb d_In_ntz_23 (by decide) (fun c23 => ?_) (fun c23 => ?_)
    · skip
      refine lv_iload_n hx hb d_In_ntz_34 rfl (lv_at hl 1 rfl) ?_
      refine lv_sipush (v := 256) hx hb d_In_ntz_35 (by decide) ?_
      refine lv_icmp_le (x := i0) (y := 256) (tgt := 49) hx hb d_In_ntz_38 (by decide) (fun c38 => ?_) (fun c38 => ?_)
      · skip
        refine lv_iload_n hx hb d_In_ntz_49 rfl (lv_at hl 1 rfl) ?_
        refine lv_bipush (v := 16) hx hb d_In_ntz_50 (by decide) ?_
        refine lv_icmp_le (x := i0) (y := 16) (tgt := 62) hx hb d_In_ntz_52 (by decide) (fun c52 => ?_) (fun c52 => ?_)
        · skip
          refine lv_iload_n hx hb d_In_ntz_62 rfl (lv_at hl 1 rfl) ?_
          refine lv_iconst (v := 4) hx hb d_In_ntz_63 (by decide) ?_
          refine lv_icmp_le (x := i0) (y := 4) (tgt := 74) hx hb d_In_ntz_64 (by decide) (fun c64 => ?_) (fun c64 => ?_)
          · skip
            refine lv_iload_n hx hb d_In_ntz_74 rfl (lv_at hl 0 rfl) ?_
            refine lv_iload_n hx hb d_In_ntz_75 rfl (lv_at hl 1 rfl) ?_
            refine lv_iconst (v := 1) hx hb d_In_ntz_76 (by decide) ?_
            refine lv_iushr (x := i0) (y := 1) (v := (ush i0 1)) hx hb d_In_ntz_77 rfl ?_
            refine lv_iadd (x := 1) (y := (ush i0 1)) hx hb d_In_ntz_78 ?_
            exact W.iret (v := (1 + (ush i0 1))) hx hb hr (fun t ht hW => ⟨⟨(1 + (ush i0 1)), H, rfl, ⟨rfl, by subst e0; rw [ntV, ntS, if_pos c9, nt0, if_pos c23, nt1, if_pos c38, nt2, if_pos c52, nt3, if_pos c64]; rfl⟩, ht⟩, hS.F ht⟩) hS.2.2 d_In_ntz_79
          · skip
            refine lv_iinc (v := (nI (1 + 2))) (lv' := [(1, .int (nI (1 + 2))), (0, .int i0)]) hx hb d_In_ntz_67 hl (k := 0) rfl (nI_add 1 2) (by decide) rfl (fun ls hl => ?_)
            refine lv_iload_n hx hb d_In_ntz_70 rfl (lv_at hl 1 rfl) ?_
            refine lv_iconst (v := 2) hx hb d_In_ntz_71 (by decide) ?_
            refine lv_iushr (x := i0) (y := 2) (v := (ush i0 2)) hx hb d_In_ntz_72 rfl ?_
            refine lv_topi (fun i4 e4 => ?_)
            refine lv_istore_n (lv' := [(0, .int i4), (1, .int (nI (1 + 2)))]) hx hb d_In_ntz_73 rfl hl (by decide) rfl (fun ls hl => ?_)
            refine lv_iload_n hx hb d_In_ntz_74 rfl (lv_at hl 1 rfl) ?_
            refine lv_iload_n hx hb d_In_ntz_75 rfl (lv_at hl 0 rfl) ?_
            refine lv_iconst (v := 1) hx hb d_In_ntz_76 (by decide) ?_
            refine lv_iushr (x := i4) (y := 1) (v := (ush i4 1)) hx hb d_In_ntz_77 rfl ?_
            refine lv_iadd (x := (nI (1 + 2))) (y := (ush i4 1)) hx hb d_In_ntz_78 ?_
            exact W.iret (v := ((nI (1 + 2)) + (ush i4 1))) hx hb hr (fun t ht hW => ⟨⟨((nI (1 + 2)) + (ush i4 1)), H, rfl, ⟨rfl, by subst e4; subst e0; rw [ntV, ntS, if_pos c9, nt0, if_pos c23, nt1, if_pos c38, nt2, if_pos c52, nt3, if_neg c64]; rfl⟩, ht⟩, hS.F ht⟩) hS.2.2 d_In_ntz_79
        · skip
          refine lv_iinc (v := (nI (1 + 4))) (lv' := [(1, .int (nI (1 + 4))), (0, .int i0)]) hx hb d_In_ntz_55 hl (k := 0) rfl (nI_add 1 4) (by decide) rfl (fun ls hl => ?_)
          refine lv_iload_n hx hb d_In_ntz_58 rfl (lv_at hl 1 rfl) ?_
          refine lv_iconst (v := 4) hx hb d_In_ntz_59 (by decide) ?_
          refine lv_iushr (x := i0) (y := 4) (v := (ush i0 4)) hx hb d_In_ntz_60 rfl ?_
          refine lv_topi (fun i3 e3 => ?_)
          refine lv_istore_n (lv' := [(0, .int i3), (1, .int (nI (1 + 4)))]) hx hb d_In_ntz_61 rfl hl (by decide) rfl (fun ls hl => ?_)
          refine lv_iload_n hx hb d_In_ntz_62 rfl (lv_at hl 0 rfl) ?_
          refine lv_iconst (v := 4) hx hb d_In_ntz_63 (by decide) ?_
          refine lv_icmp_le (x := i3) (y := 4) (tgt := 74) hx hb d_In_ntz_64 (by decide) (fun c64 => ?_) (fun c64 => ?_)
          · skip
            refine lv_iload_n hx hb d_In_ntz_74 rfl (lv_at hl 1 rfl) ?_
            refine lv_iload_n hx hb d_In_ntz_75 rfl (lv_at hl 0 rfl) ?_
            refine lv_iconst (v := 1) hx hb d_In_ntz_76 (by decide) ?_
            refine lv_iushr (x := i3) (y := 1) (v := (ush i3 1)) hx hb d_In_ntz_77 rfl ?_
            refine lv_iadd (x := (nI (1 + 4))) (y := (ush i3 1)) hx hb d_In_ntz_78 ?_
            exact W.iret (v := ((nI (1 + 4)) + (ush i3 1))) hx hb hr (fun t ht hW => ⟨⟨((nI (1 + 4)) + (ush i3 1)), H, rfl, ⟨rfl, by subst e3; subst e0; rw [ntV, ntS, if_pos c9, nt0, if_pos c23, nt1, if_pos c38, nt2, if_neg c52, nt3, if_pos c64]; rfl⟩, ht⟩, hS.F ht⟩) hS.2.2 d_In_ntz_79
          · skip
            refine lv_iinc (v := (nI (1 + 4 + 2))) (lv' := [(1, .int (nI (1 + 4 + 2))), (0, .int i3)]) hx hb d_In_ntz_67 hl (k := 1) rfl (nI_add (1 + 4) 2) (by decide) rfl (fun ls hl => ?_)
            refine lv_iload_n hx hb d_In_ntz_70 rfl (lv_at hl 1 rfl) ?_
            refine lv_iconst (v := 2) hx hb d_In_ntz_71 (by decide) ?_
            refine lv_iushr (x := i3) (y := 2) (v := (ush i3 2)) hx hb d_In_ntz_72 rfl ?_
            refine lv_topi (fun i4 e4 => ?_)
            refine lv_istore_n (lv' := [(0, .int i4), (1, .int (nI (1 + 4 + 2)))]) hx hb d_In_ntz_73 rfl hl (by decide) rfl (fun ls hl => ?_)
            refine lv_iload_n hx hb d_In_ntz_74 rfl (lv_at hl 1 rfl) ?_
            refine lv_iload_n hx hb d_In_ntz_75 rfl (lv_at hl 0 rfl) ?_
            refine lv_iconst (v := 1) hx hb d_In_ntz_76 (by decide) ?_
            refine lv_iushr (x := i4) (y := 1) (v := (ush i4 1)) hx hb d_In_ntz_77 rfl ?_
            refine lv_iadd (x := (nI (1 + 4 + 2))) (y := (ush i4 1)) hx hb d_In_ntz_78 ?_
            exact W.iret (v := ((nI (1 + 4 + 2)) + (ush i4 1))) hx hb hr (fun t ht hW => ⟨⟨((nI (1 + 4 + 2)) + (ush i4 1)), H, rfl, ⟨rfl, by subst e4; subst e3; subst e0; rw [ntV, ntS, if_pos c9, nt0, if_pos c23, nt1, if_pos c38, nt2, if_neg c52, nt3, if_neg c64]; rfl⟩, ht⟩, hS.F ht⟩) hS.2.2 d_In_ntz_79
      · skip
        refine lv_iinc (v := (nI (1 + 8))) (lv' := [(1, .int (nI (1 + 8))), (0, .int i0)]) hx hb d_In_ntz_41 hl (k := 0) rfl (nI_add 1 8) (by decide) rfl (fun ls hl => ?_)
        refine lv_iload_n hx hb d_In_ntz_44 rfl (lv_at hl 1 rfl) ?_
        refine lv_bipush (v := 8) hx hb d_In_ntz_45 (by decide) ?_
        refine lv_iushr (x := i0) (y := 8) (v := (ush i0 8)) hx hb d_In_ntz_47 rfl ?_
        refine lv_topi (fun i2 e2 => ?_)
        refine lv_istore_n (lv' := [(0, .int i2), (1, .int (nI (1 + 8)))]) hx hb d_In_ntz_48 rfl hl (by decide) rfl (fun ls hl => ?_)
        refine lv_iload_n hx hb d_In_ntz_49 rfl (lv_at hl 0 rfl) ?_
        refine lv_bipush (v := 16) hx hb d_In_ntz_50 (by decide) ?_
        refine lv_icmp_le (x := i2) (y := 16) (tgt := 62) hx hb d_In_ntz_52 (by decide) (fun c52 => ?_) (fun c52 => ?_)
        · skip
          refine lv_iload_n hx hb d_In_ntz_62 rfl (lv_at hl 0 rfl) ?_
          refine lv_iconst (v := 4) hx hb d_In_ntz_63 (by decide) ?_
          refine lv_icmp_le (x := i2) (y := 4) (tgt := 74) hx hb d_In_ntz_64 (by decide) (fun c64 => ?_) (fun c64 => ?_)
          · skip
            refine lv_iload_n hx hb d_In_ntz_74 rfl (lv_at hl 1 rfl) ?_
            refine lv_iload_n hx hb d_In_ntz_75 rfl (lv_at hl 0 rfl) ?_
            refine lv_iconst (v := 1) hx hb d_In_ntz_76 (by decide) ?_
            refine lv_iushr (x := i2) (y := 1) (v := (ush i2 1)) hx hb d_In_ntz_77 rfl ?_
            refine lv_iadd (x := (nI (1 + 8))) (y := (ush i2 1)) hx hb d_In_ntz_78 ?_
            exact W.iret (v := ((nI (1 + 8)) + (ush i2 1))) hx hb hr (fun t ht hW => ⟨⟨((nI (1 + 8)) + (ush i2 1)), H, rfl, ⟨rfl, by subst e2; subst e0; rw [ntV, ntS, if_pos c9, nt0, if_pos c23, nt1, if_neg c38, nt2, if_pos c52, nt3, if_pos c64]; rfl⟩, ht⟩, hS.F ht⟩) hS.2.2 d_In_ntz_79
          · skip
            refine lv_iinc (v := (nI (1 + 8 + 2))) (lv' := [(1, .int (nI (1 + 8 + 2))), (0, .int i2)]) hx hb d_In_ntz_67 hl (k := 1) rfl (nI_add (1 + 8) 2) (by decide) rfl (fun ls hl => ?_)
            refine lv_iload_n hx hb d_In_ntz_70 rfl (lv_at hl 1 rfl) ?_
            refine lv_iconst (v := 2) hx hb d_In_ntz_71 (by decide) ?_
            refine lv_iushr (x := i2) (y := 2) (v := (ush i2 2)) hx hb d_In_ntz_72 rfl ?_
            refine lv_topi (fun i4 e4 => ?_)
            refine lv_istore_n (lv' := [(0, .int i4), (1, .int (nI (1 + 8 + 2)))]) hx hb d_In_ntz_73 rfl hl (by decide) rfl (fun ls hl => ?_)
            refine lv_iload_n hx hb d_In_ntz_74 rfl (lv_at hl 1 rfl) ?_
            refine lv_iload_n hx hb d_In_ntz_75 rfl (lv_at hl 0 rfl) ?_
            refine lv_iconst (v := 1) hx hb d_In_ntz_76 (by decide) ?_
            refine lv_iushr (x := i4) (y := 1) (v := (ush i4 1)) hx hb d_In_ntz_77 rfl ?_
            refine lv_iadd (x := (nI (1 + 8 + 2))) (y := (ush i4 1)) hx hb d_In_ntz_78 ?_
            exact W.iret (v := ((nI (1 + 8 + 2)) + (ush i4 1))) hx hb hr (fun t ht hW => ⟨⟨((nI (1 + 8 + 2)) + (ush i4 1)), H, rfl, ⟨rfl, by subst e4; subst e2; subst e0; rw [ntV, ntS, if_pos c9, nt0, if_pos c23, nt1, if_neg c38, nt2, if_pos c52, nt3, if_neg c64]; rfl⟩, ht⟩, hS.F ht⟩) hS.2.2 d_In_ntz_79
        · skip
          refine lv_iinc (v := (nI (1 + 8 + 4))) (lv' := [(1, .int (nI (1 + 8 + 4))), (0, .int i2)]) hx hb d_In_ntz_55 hl (k := 1) rfl (nI_add (1 + 8) 4) (by decide) rfl (fun ls hl => ?_)
          refine lv_iload_n hx hb d_In_ntz_58 rfl (lv_at hl 1 rfl) ?_
          refine lv_iconst (v := 4) hx hb d_In_ntz_59 (by decide) ?_
          refine lv_iushr (x := i2) (y := 4) (v := (ush i2 4)) hx hb d_In_ntz_60 rfl ?_
          refine lv_topi (fun i3 e3 => ?_)
          refine lv_istore_n (lv' := [(0, .int i3), (1, .int (nI (1 + 8 + 4)))]) hx hb d_In_ntz_61 rfl hl (by decide) rfl (fun ls hl => ?_)
          refine lv_iload_n hx hb d_In_ntz_62 rfl (lv_at hl 0 rfl) ?_
          refine lv_iconst (v := 4) hx hb d_In_ntz_63 (by decide) ?_
          refine lv_icmp_le (x := i3) (y := 4) (tgt := 74) hx hb d_In_ntz_64 (by decide) (fun c64 => ?_) (fun c64 => ?_)
          · skip
            refine lv_iload_n hx hb d_In_ntz_74 rfl (lv_at hl 1 rfl) ?_
            refine lv_iload_n hx hb d_In_ntz_75 rfl (lv_at hl 0 rfl) ?_
            refine lv_iconst (v := 1) hx hb d_In_ntz_76 (by decide) ?_
            refine lv_iushr (x := i3) (y := 1) (v := (ush i3 1)) hx hb d_In_ntz_77 rfl ?_
            refine lv_iadd (x := (nI (1 + 8 + 4))) (y := (ush i3 1)) hx hb d_In_ntz_78 ?_
            exact W.iret (v := ((nI (1 + 8 + 4)) + (ush i3 1))) hx hb hr (fun t ht hW => ⟨⟨((nI (1 + 8 + 4)) + (ush i3 1)), H, rfl, ⟨rfl, by subst e3; subst e2; subst e0; rw [ntV, ntS, if_pos c9, nt0, if_pos c23, nt1, if_neg c38, nt2, if_neg c52, nt3, if_pos c64]; rfl⟩, ht⟩, hS.F ht⟩) hS.2.2 d_In_ntz_79
          · skip
            refine lv_iinc (v := (nI (1 + 8 + 4 + 2))) (lv' := [(1, .int (nI (1 + 8 + 4 + 2))), (0, .int i3)]) hx hb d_In_ntz_67 hl (k := 1) rfl (nI_add (1 + 8 + 4) 2) (by decide) rfl (fun ls hl => ?_)
            refine lv_iload_n hx hb d_In_ntz_70 rfl (lv_at hl 1 rfl) ?_
            refine lv_iconst (v := 2) hx hb d_In_ntz_71 (by decide) ?_
            refine lv_iushr (x := i3) (y := 2) (v := (ush i3 2)) hx hb d_In_ntz_72 rfl ?_
            refine lv_topi (fun i4 e4 => ?_)
            refine lv_istore_n (lv' := [(0, .int i4), (1, .int (nI (1 + 8 + 4 + 2)))]) hx hb d_In_ntz_73 rfl hl (by decide) rfl (fun ls hl => ?_)
            refine lv_iload_n hx hb d_In_ntz_74 rfl (lv_at hl 1 rfl) ?_
            refine lv_iload_n hx hb d_In_ntz_75 rfl (lv_at hl 0 rfl) ?_
            refine lv_iconst (v := 1) hx hb d_In_ntz_76 (by decide) ?_
            refine lv_iushr (x := i4) (y := 1) (v := (ush i4 1)) hx hb d_In_ntz_77 rfl ?_
            refine lv_iadd (x := (nI (1 + 8 + 4 + 2))) (y := (ush i4 1)) hx hb d_In_ntz_78 ?_
            exact W.iret (v := ((nI (1 + 8 + 4 + 2)) + (ush i4 1))) hx hb hr (fun t ht hW => ⟨⟨((nI (1 + 8 + 4 + 2)) + (ush i4 1)), H, rfl, ⟨rfl, by subst e4; subst e3; subst e2; subst e0; rw [ntV, ntS, if_pos c9, nt0, if_pos c23, nt1, if_neg c38, nt2, if_neg c52, nt3, if_neg c64]; rfl⟩, ht⟩, hS.F ht⟩) hS.2.2 d_In_ntz_79
    · skip
      refine lv_iinc (v := (nI (1 + 16))) (lv' := [(1, .int (nI (1 + 16))), (0, .int i0)]) hx hb d_In_ntz_26 hl (k := 0) rfl (nI_add 1 16) (by decide) rfl (fun ls hl => ?_)
      refine lv_iload_n hx hb d_In_ntz_29 rfl (lv_at hl 1 rfl) ?_
      refine lv_bipush (v := 16) hx hb d_In_ntz_30 (by decide) ?_
      refine lv_iushr (x := i0) (y := 16) (v := (ush i0 16)) hx hb d_In_ntz_32 rfl ?_
      refine lv_topi (fun i1 e1 => ?_)
      refine lv_istore_n (lv' := [(0, .int i1), (1, .int (nI (1 + 16)))]) hx hb d_In_ntz_33 rfl hl (by decide) rfl (fun ls hl => ?_)
      refine lv_iload_n hx hb d_In_ntz_34 rfl (lv_at hl 0 rfl) ?_
      refine lv_sipush (v := 256) hx hb d_In_ntz_35 (by decide) ?_
      refine lv_icmp_le (x := i1) (y := 256) (tgt := 49) hx hb d_In_ntz_38 (by decide) (fun c38 => ?_) (fun c38 => ?_)
      · skip
        refine lv_iload_n hx hb d_In_ntz_49 rfl (lv_at hl 0 rfl) ?_
        refine lv_bipush (v := 16) hx hb d_In_ntz_50 (by decide) ?_
        refine lv_icmp_le (x := i1) (y := 16) (tgt := 62) hx hb d_In_ntz_52 (by decide) (fun c52 => ?_) (fun c52 => ?_)
        · skip
          refine lv_iload_n hx hb d_In_ntz_62 rfl (lv_at hl 0 rfl) ?_
          refine lv_iconst (v := 4) hx hb d_In_ntz_63 (by decide) ?_
          refine lv_icmp_le (x := i1) (y := 4) (tgt := 74) hx hb d_In_ntz_64 (by decide) (fun c64 => ?_) (fun c64 => ?_)
          · skip
            refine lv_iload_n hx hb d_In_ntz_74 rfl (lv_at hl 1 rfl) ?_
            refine lv_iload_n hx hb d_In_ntz_75 rfl (lv_at hl 0 rfl) ?_
            refine lv_iconst (v := 1) hx hb d_In_ntz_76 (by decide) ?_
            refine lv_iushr (x := i1) (y := 1) (v := (ush i1 1)) hx hb d_In_ntz_77 rfl ?_
            refine lv_iadd (x := (nI (1 + 16))) (y := (ush i1 1)) hx hb d_In_ntz_78 ?_
            exact W.iret (v := ((nI (1 + 16)) + (ush i1 1))) hx hb hr (fun t ht hW => ⟨⟨((nI (1 + 16)) + (ush i1 1)), H, rfl, ⟨rfl, by subst e1; subst e0; rw [ntV, ntS, if_pos c9, nt0, if_neg c23, nt1, if_pos c38, nt2, if_pos c52, nt3, if_pos c64]; rfl⟩, ht⟩, hS.F ht⟩) hS.2.2 d_In_ntz_79
          · skip
            refine lv_iinc (v := (nI (1 + 16 + 2))) (lv' := [(1, .int (nI (1 + 16 + 2))), (0, .int i1)]) hx hb d_In_ntz_67 hl (k := 1) rfl (nI_add (1 + 16) 2) (by decide) rfl (fun ls hl => ?_)
            refine lv_iload_n hx hb d_In_ntz_70 rfl (lv_at hl 1 rfl) ?_
            refine lv_iconst (v := 2) hx hb d_In_ntz_71 (by decide) ?_
            refine lv_iushr (x := i1) (y := 2) (v := (ush i1 2)) hx hb d_In_ntz_72 rfl ?_
            refine lv_topi (fun i4 e4 => ?_)
            refine lv_istore_n (lv' := [(0, .int i4), (1, .int (nI (1 + 16 + 2)))]) hx hb d_In_ntz_73 rfl hl (by decide) rfl (fun ls hl => ?_)
            refine lv_iload_n hx hb d_In_ntz_74 rfl (lv_at hl 1 rfl) ?_
            refine lv_iload_n hx hb d_In_ntz_75 rfl (lv_at hl 0 rfl) ?_
            refine lv_iconst (v := 1) hx hb d_In_ntz_76 (by decide) ?_
            refine lv_iushr (x := i4) (y := 1) (v := (ush i4 1)) hx hb d_In_ntz_77 rfl ?_
            refine lv_iadd (x := (nI (1 + 16 + 2))) (y := (ush i4 1)) hx hb d_In_ntz_78 ?_
            exact W.iret (v := ((nI (1 + 16 + 2)) + (ush i4 1))) hx hb hr (fun t ht hW => ⟨⟨((nI (1 + 16 + 2)) + (ush i4 1)), H, rfl, ⟨rfl, by subst e4; subst e1; subst e0; rw [ntV, ntS, if_pos c9, nt0, if_neg c23, nt1, if_pos c38, nt2, if_pos c52, nt3, if_neg c64]; rfl⟩, ht⟩, hS.F ht⟩) hS.2.2 d_In_ntz_79
        · skip
          refine lv_iinc (v := (nI (1 + 16 + 4))) (lv' := [(1, .int (nI (1 + 16 + 4))), (0, .int i1)]) hx hb d_In_ntz_55 hl (k := 1) rfl (nI_add (1 + 16) 4) (by decide) rfl (fun ls hl => ?_)
          refine lv_iload_n hx hb d_In_ntz_58 rfl (lv_at hl 1 rfl) ?_
          refine lv_iconst (v := 4) hx hb d_In_ntz_59 (by decide) ?_
          refine lv_iushr (x := i1) (y := 4) (v := (ush i1 4)) hx hb d_In_ntz_60 rfl ?_
          refine lv_topi (fun i3 e3 => ?_)
          refine lv_istore_n (lv' := [(0, .int i3), (1, .int (nI (1 + 16 + 4)))]) hx hb d_In_ntz_61 rfl hl (by decide) rfl (fun ls hl => ?_)
          refine lv_iload_n hx hb d_In_ntz_62 rfl (lv_at hl 0 rfl) ?_
          refine lv_iconst (v := 4) hx hb d_In_ntz_63 (by decide) ?_
          refine lv_icmp_le (x := i3) (y := 4) (tgt := 74) hx hb d_In_ntz_64 (by decide) (fun c64 => ?_) (fun c64 => ?_)
          · skip
            refine lv_iload_n hx hb d_In_ntz_74 rfl (lv_at hl 1 rfl) ?_
            refine lv_iload_n hx hb d_In_ntz_75 rfl (lv_at hl 0 rfl) ?_
            refine lv_iconst (v := 1) hx hb d_In_ntz_76 (by decide) ?_
            refine lv_iushr (x := i3) (y := 1) (v := (ush i3 1)) hx hb d_In_ntz_77 rfl ?_
            refine lv_iadd (x := (nI (1 + 16 + 4))) (y := (ush i3 1)) hx hb d_In_ntz_78 ?_
            exact W.iret (v := ((nI (1 + 16 + 4)) + (ush i3 1))) hx hb hr (fun t ht hW => ⟨⟨((nI (1 + 16 + 4)) + (ush i3 1)), H, rfl, ⟨rfl, by subst e3; subst e1; subst e0; rw [ntV, ntS, if_pos c9, nt0, if_neg c23, nt1, if_pos c38, nt2, if_neg c52, nt3, if_pos c64]; rfl⟩, ht⟩, hS.F ht⟩) hS.2.2 d_In_ntz_79
          · skip
            refine lv_iinc (v := (nI (1 + 16 + 4 + 2))) (lv' := [(1, .int (nI (1 + 16 + 4 + 2))), (0, .int i3)]) hx hb d_In_ntz_67 hl (k := 1) rfl (nI_add (1 + 16 + 4) 2) (by decide) rfl (fun ls hl => ?_)
            refine lv_iload_n hx hb d_In_ntz_70 rfl (lv_at hl 1 rfl) ?_
            refine lv_iconst (v := 2) hx hb d_In_ntz_71 (by decide) ?_
            refine lv_iushr (x := i3) (y := 2) (v := (ush i3 2)) hx hb d_In_ntz_72 rfl ?_
            refine lv_topi (fun i4 e4 => ?_)
            refine lv_istore_n (lv' := [(0, .int i4), (1, .int (nI (1 + 16 + 4 + 2)))]) hx hb d_In_ntz_73 rfl hl (by decide) rfl (fun ls hl => ?_)
            refine lv_iload_n hx hb d_In_ntz_74 rfl (lv_at hl 1 rfl) ?_
            refine lv_iload_n hx hb d_In_ntz_75 rfl (lv_at hl 0 rfl) ?_
            refine lv_iconst (v := 1) hx hb d_In_ntz_76 (by decide) ?_
            refine lv_iushr (x := i4) (y := 1) (v := (ush i4 1)) hx hb d_In_ntz_77 rfl ?_
            refine lv_iadd (x := (nI (1 + 16 + 4 + 2))) (y := (ush i4 1)) hx hb d_In_ntz_78 ?_
            exact W.iret (v := ((nI (1 + 16 + 4 + 2)) + (ush i4 1))) hx hb hr (fun t ht hW => ⟨⟨((nI (1 + 16 + 4 + 2)) + (ush i4 1)), H, rfl, ⟨rfl, by subst e4; subst e3; subst e1; subst e0; rw [ntV, ntS, if_pos c9, nt0, if_neg c23, nt1, if_pos c38, nt2, if_neg c52, nt3, if_neg c64]; rfl⟩, ht⟩, hS.F ht⟩) hS.2.2 d_In_ntz_79
      · skip
        refine lv_iinc (v := (nI (1 + 16 + 8))) (lv' := [(1, .int (nI (1 + 16 + 8))), (0, .int i1)]) hx hb d_In_ntz_41 hl (k := 1) rfl (nI_add (1 + 16) 8) (by decide) rfl (fun ls hl => ?_)
        refine lv_iload_n hx hb d_In_ntz_44 rfl (lv_at hl 1 rfl) ?_
        refine lv_bipush (v := 8) hx hb d_In_ntz_45 (by decide) ?_
        refine lv_iushr (x := i1) (y := 8) (v := (ush i1 8)) hx hb d_In_ntz_47 rfl ?_
        refine lv_topi (fun i2 e2 => ?_)
        refine lv_istore_n (lv' := [(0, .int i2), (1, .int (nI (1 + 16 + 8)))]) hx hb d_In_ntz_48 rfl hl (by decide) rfl (fun ls hl => ?_)
        refine lv_iload_n hx hb d_In_ntz_49 rfl (lv_at hl 0 rfl) ?_
        refine lv_bipush (v := 16) hx hb d_In_ntz_50 (by decide) ?_
        refine lv_icmp_le (x := i2) (y := 16) (tgt := 62) hx hb d_In_ntz_52 (by decide) (fun c52 => ?_) (fun c52 => ?_)
        · skip
          refine lv_iload_n hx hb d_In_ntz_62 rfl (lv_at hl 0 rfl) ?_
          refine lv_iconst (v := 4) hx hb d_In_ntz_63 (by decide) ?_
          refine lv_icmp_le (x := i2) (y := 4) (tgt := 74) hx hb d_In_ntz_64 (by decide) (fun c64 => ?_) (fun c64 => ?_)
          · skip
            refine lv_iload_n hx hb d_In_ntz_74 rfl (lv_at hl 1 rfl) ?_
            refine lv_iload_n hx hb d_In_ntz_75 rfl (lv_at hl 0 rfl) ?_
            refine lv_iconst (v := 1) hx hb d_In_ntz_76 (by decide) ?_
            refine lv_iushr (x := i2) (y := 1) (v := (ush i2 1)) hx hb d_In_ntz_77 rfl ?_
            refine lv_iadd (x := (nI (1 + 16 + 8))) (y := (ush i2 1)) hx hb d_In_ntz_78 ?_
            exact W.iret (v := ((nI (1 + 16 + 8)) + (ush i2 1))) hx hb hr (fun t ht hW => ⟨⟨((nI (1 + 16 + 8)) + (ush i2 1)), H, rfl, ⟨rfl, by subst e2; subst e1; subst e0; rw [ntV, ntS, if_pos c9, nt0, if_neg c23, nt1, if_neg c38, nt2, if_pos c52, nt3, if_pos c64]; rfl⟩, ht⟩, hS.F ht⟩) hS.2.2 d_In_ntz_79
          · skip
            refine lv_iinc (v := (nI (1 + 16 + 8 + 2))) (lv' := [(1, .int (nI (1 + 16 + 8 + 2))), (0, .int i2)]) hx hb d_In_ntz_67 hl (k := 1) rfl (nI_add (1 + 16 + 8) 2) (by decide) rfl (fun ls hl => ?_)
            refine lv_iload_n hx hb d_In_ntz_70 rfl (lv_at hl 1 rfl) ?_
            refine lv_iconst (v := 2) hx hb d_In_ntz_71 (by decide) ?_
            refine lv_iushr (x := i2) (y := 2) (v := (ush i2 2)) hx hb d_In_ntz_72 rfl ?_
            refine lv_topi (fun i4 e4 => ?_)
            refine lv_istore_n (lv' := [(0, .int i4), (1, .int (nI (1 + 16 + 8 + 2)))]) hx hb d_In_ntz_73 rfl hl (by decide) rfl (fun ls hl => ?_)
            refine lv_iload_n hx hb d_In_ntz_74 rfl (lv_at hl 1 rfl) ?_
            refine lv_iload_n hx hb d_In_ntz_75 rfl (lv_at hl 0 rfl) ?_
            refine lv_iconst (v := 1) hx hb d_In_ntz_76 (by decide) ?_
            refine lv_iushr (x := i4) (y := 1) (v := (ush i4 1)) hx hb d_In_ntz_77 rfl ?_
            refine lv_iadd (x := (nI (1 + 16 + 8 + 2))) (y := (ush i4 1)) hx hb d_In_ntz_78 ?_
            exact W.iret (v := ((nI (1 + 16 + 8 + 2)) + (ush i4 1))) hx hb hr (fun t ht hW => ⟨⟨((nI (1 + 16 + 8 + 2)) + (ush i4 1)), H, rfl, ⟨rfl, by subst e4; subst e2; subst e1; subst e0; rw [ntV, ntS, if_pos c9, nt0, if_neg c23, nt1, if_neg c38, nt2, if_pos c52, nt3, if_neg c64]; rfl⟩, ht⟩, hS.F ht⟩) hS.2.2 d_In_ntz_79
        · skip
          refine lv_iinc (v := (nI (1 + 16 + 8 + 4))) (lv' := [(1, .int (nI (1 + 16 + 8 + 4))), (0, .int i2)]) hx hb d_In_ntz_55 hl (k := 1) rfl (nI_add (1 + 16 + 8) 4) (by decide) rfl (fun ls hl => ?_)
          refine lv_iload_n hx hb d_In_ntz_58 rfl (lv_at hl 1 rfl) ?_
          refine lv_iconst (v := 4) hx hb d_In_ntz_59 (by decide) ?_
          refine lv_iushr (x := i2) (y := 4) (v := (ush i2 4)) hx hb d_In_ntz_60 rfl ?_
          refine lv_topi (fun i3 e3 => ?_)
          refine lv_istore_n (lv' := [(0, .int i3), (1, .int (nI (1 + 16 + 8 + 4)))]) hx hb d_In_ntz_61 rfl hl (by decide) rfl (fun ls hl => ?_)
          refine lv_iload_n hx hb d_In_ntz_62 rfl (lv_at hl 0 rfl) ?_
          refine lv_iconst (v := 4) hx hb d_In_ntz_63 (by decide) ?_
          refine lv_icmp_le (x := i3) (y := 4) (tgt := 74) hx hb d_In_ntz_64 (by decide) (fun c64 => ?_) (fun c64 => ?_)
          · skip
            refine lv_iload_n hx hb d_In_ntz_74 rfl (lv_at hl 1 rfl) ?_
            refine lv_iload_n hx hb d_In_ntz_75 rfl (lv_at hl 0 rfl) ?_
            refine lv_iconst (v := 1) hx hb d_In_ntz_76 (by decide) ?_
            refine lv_iushr (x := i3) (y := 1) (v := (ush i3 1)) hx hb d_In_ntz_77 rfl ?_
            refine lv_iadd (x := (nI (1 + 16 + 8 + 4))) (y := (ush i3 1)) hx hb d_In_ntz_78 ?_
            exact W.iret (v := ((nI (1 + 16 + 8 + 4)) + (ush i3 1))) hx hb hr (fun t ht hW => ⟨⟨((nI (1 + 16 + 8 + 4)) + (ush i3 1)), H, rfl, ⟨rfl, by subst e3; subst e2; subst e1; subst e0; rw [ntV, ntS, if_pos c9, nt0, if_neg c23, nt1, if_neg c38, nt2, if_neg c52, nt3, if_pos c64]; rfl⟩, ht⟩, hS.F ht⟩) hS.2.2 d_In_ntz_79
          · skip
            refine lv_iinc (v := (nI (1 + 16 + 8 + 4 + 2))) (lv' := [(1, .int (nI (1 + 16 + 8 + 4 + 2))), (0, .int i3)]) hx hb d_In_ntz_67 hl (k := 1) rfl (nI_add (1 + 16 + 8 + 4) 2) (by decide) rfl (fun ls hl => ?_)
            refine lv_iload_n hx hb d_In_ntz_70 rfl (lv_at hl 1 rfl) ?_
            refine lv_iconst (v := 2) hx hb d_In_ntz_71 (by decide) ?_
            refine lv_iushr (x := i3) (y := 2) (v := (ush i3 2)) hx hb d_In_ntz_72 rfl ?_
            refine lv_topi (fun i4 e4 => ?_)
            refine lv_istore_n (lv' := [(0, .int i4), (1, .int (nI (1 + 16 + 8 + 4 + 2)))]) hx hb d_In_ntz_73 rfl hl (by decide) rfl (fun ls hl => ?_)
            refine lv_iload_n hx hb d_In_ntz_74 rfl (lv_at hl 1 rfl) ?_
            refine lv_iload_n hx hb d_In_ntz_75 rfl (lv_at hl 0 rfl) ?_
            refine lv_iconst (v := 1) hx hb d_In_ntz_76 (by decide) ?_
            refine lv_iushr (x := i4) (y := 1) (v := (ush i4 1)) hx hb d_In_ntz_77 rfl ?_
            refine lv_iadd (x := (nI (1 + 16 + 8 + 4 + 2))) (y := (ush i4 1)) hx hb d_In_ntz_78 ?_
            exact W.iret (v := ((nI (1 + 16 + 8 + 4 + 2)) + (ush i4 1))) hx hb hr (fun t ht hW => ⟨⟨((nI (1 + 16 + 8 + 4 + 2)) + (ush i4 1)), H, rfl, ⟨rfl, by subst e4; subst e3; subst e2; subst e1; subst e0; rw [ntV, ntS, if_pos c9, nt0, if_neg c23, nt1, if_neg c38, nt2, if_neg c52, nt3, if_neg c64]; rfl⟩, ht⟩, hS.F ht⟩) hS.2.2 d_In_ntz_79
  · skip
    refine lv_iload_n hx hb d_In_ntz_12 rfl (lv_at hl 0 rfl) ?_
    refine lv_bipush (v := 32) hx hb d_In_ntz_13 (by decide) ?_
    refine lv_iand (x := i0) (y := 32) hx hb d_In_ntz_15 ?_
    exact W.iret (v := (i0 &&& 32)) hx hb hr (fun t ht hW => ⟨⟨(i0 &&& 32), H, rfl, ⟨rfl, by subst e0; rw [ntV, ntS, if_neg c9]⟩, ht⟩, hS.F ht⟩) hS.2.2 d_In_ntz_16
