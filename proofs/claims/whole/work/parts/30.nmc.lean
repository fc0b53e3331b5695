def y_Da_init : MethodName := ⟨"NameMerges$Days", "<init>", "(II)V"⟩
abbrev w_Da_init : List Cond := Cond.code y_Da_init prog_2_method_1_code 3 (Option.none : Option Jvm.ClassFile.FieldType) :: gw
theorem d_Da_init_0 : decode prog_2_method_1_code 0 = .ok (.aload_n 0, 1) := by decide +kernel
theorem d_Da_init_1 : decode prog_2_method_1_code 1 = .ok (.invokespecial 1, 3) := by decide +kernel
theorem d_Da_init_4 : decode prog_2_method_1_code 4 = .ok (.aload_n 0, 1) := by decide +kernel
theorem d_Da_init_5 : decode prog_2_method_1_code 5 = .ok (.iload_n 1, 1) := by decide +kernel
theorem d_Da_init_6 : decode prog_2_method_1_code 6 = .ok (.putfield 7, 3) := by decide +kernel
theorem d_Da_init_9 : decode prog_2_method_1_code 9 = .ok (.aload_n 0, 1) := by decide +kernel
theorem d_Da_init_10 : decode prog_2_method_1_code 10 = .ok (.iload_n 2, 1) := by decide +kernel
theorem d_Da_init_11 : decode prog_2_method_1_code 11 = .ok (.putfield 13, 3) := by decide +kernel
theorem d_Da_init_14 : decode prog_2_method_1_code 14 = .ok (.return_, 1) := by decide +kernel
set_option maxHeartbeats 4000000 in
set_option maxRecDepth 100000 in
theorem c_Da_init (l : Launch) (D : va_G) (cs : Nat → ClassId) (N0 : Nat) (H : Heap) (x N : Nat) (a b : Int32) (h1 : va_at D vwCl (x, .inr (4, [.int 0, .int 0])) H) (hN : N = H.size) (hx0 : N0 ≤ x) : Met l y_Da_init w_Da_init ({ frames := 1, cells := 0, slots := 0, locals := 12 }) (hPre D cs N0 [.ref x, .int a, .int b] H) (hQv (fun H' => va_at D vwCl (x, .inr (4, [.int a, .int b])) H') (jA [x] N)) 0 0 (jA [x] N) := by
  refine Met.ofW (cc := prog_2_method_1_code) (maxL := 3) (ret := (Option.none : Option Jvm.ClassFile.FieldType)) (by decide) rfl ?_
  intro p e s m args below meth c s₁ B hml hv
  obtain ⟨rfl, rfl, hB⟩ := hv
  have hx := B.exec
  have hb := B.bytes
  have hr := B.returns
  have hts := atoms_spec (ws := w_Da_init) B.pre
  have htg : ∀ w ∈ gw, w.before _ s = true := fun w h => hts w (List.mem_cons_of_mem _ h)
  have hown : s.vm.findClass "NameMerges$Days" = some m.cls := findClass_of_methodNamed B.named
  have hlocks := B.notSynchronized
  have hin : meth.name = "<init>" := (name_of_methodNamed B.named B.method).1
  have hAN : ∀ q, (jA [x] N) q → N0 ≤ q := jA_sub1 hx0 (fun q9 h9 => Nat.le_trans hB.2.1 (hN ▸ h9))
  have hK := hB.1
  obtain ⟨H, hH⟩ : ∃ z : Heap, z = s.heap := ⟨_, rfl⟩
  have hz0 : H.size = s.heap.size := by rw [hH]
  have hN0 := hB.2.1
  rw [← hH] at h1
  have hS : va_S (jA [x] N) s.heap H [] := by rw [hH]; exact va_S.rf
  have hl := lv_entry ([.ref x, .int a, .int b]) (n := 3) (Nat.le_of_ble_eq_true rfl)
  rw [lg_entry_eq, ← hH]
  generalize (lg_sl ([.ref x, .int a, .int b]) ++ List.replicate (3 - (lg_sl ([.ref x, .int a, .int b])).length) Slot.unset).toArray = ls at hl ⊢
  have hl : lv_has ls 3 [(0, .ref x), (1, .int a), (2, .int b)] := hl
  refine lv_aload_n hx hb d_Da_init_0 rfl (lv_at hl 0 rfl) ?_
  refine W.objInit hx hb hown (htg _ (gw_mem (i := 770) (by decide +kernel) rfl)) (htg _ (gw_mem (i := 65) (by decide +kernel) rfl)) (htg _ (gw_mem (i := 66) (by decide +kernel) rfl)) rfl (by rw [hml]; exact hl.1) rfl d_Da_init_1 (Nat.le_of_ble_eq_true rfl) (Nat.le_of_ble_eq_true rfl) ?_
  refine W.eq (g2 := F0 m 4 ls []) rfl ?_
  refine lv_aload_n hx hb d_Da_init_4 rfl (lv_at hl 0 rfl) ?_
  refine lv_iload_n hx hb d_Da_init_5 rfl (lv_at hl 1 rfl) ?_
  refine hx_putF (ref := "NameMerges$Days") (ty := .int) (v := .int a) hx hb htg iDa tDa tDa_ok nDa hown hK h1 hS jA_in1 rfl 0 (by decide) (htg _ (gw_mem (i := 771) (by decide +kernel) rfl)) (fun _ h9 => h9) rfl hin rfl (by decide +kernel) rfl rfl (Nat.le_of_ble_eq_true rfl) d_Da_init_6 (fun H locs hat hz ho hS => ?_)
  replace h1 : va_at D vwCl (x, .inr (4, [.int a, .int 0])) H := hat
  refine lv_aload_n hx hb d_Da_init_9 rfl (lv_at hl 0 rfl) ?_
  refine lv_iload_n hx hb d_Da_init_10 rfl (lv_at hl 2 rfl) ?_
  refine hx_putF (ref := "NameMerges$Days") (ty := .int) (v := .int b) hx hb htg iDa tDa tDa_ok nDa hown hK h1 hS jA_in1 rfl 1 (by decide) (htg _ (gw_mem (i := 773) (by decide +kernel) rfl)) (fun _ h9 => h9) rfl hin rfl (by decide +kernel) rfl rfl (Nat.le_of_ble_eq_true rfl) d_Da_init_11 (fun H locs hat hz ho hS => ?_)
  replace h1 : va_at D vwCl (x, .inr (4, [.int a, .int b])) H := hat
  exact W.vret hx hb hr (fun t ht hW => ⟨⟨H, rfl, h1, ht⟩, hS.F ht⟩) hS.2.2 d_Da_init_14
def y_Me_init : MethodName := ⟨"NameMerges$Merge", "<init>", "(II)V"⟩
abbrev w_Me_init : List Cond := Cond.code y_Me_init prog_3_method_1_code 3 (Option.none : Option Jvm.ClassFile.FieldType) :: gw
theorem d_Me_init_0 : decode prog_3_method_1_code 0 = .ok (.aload_n 0, 1) := by decide +kernel
theorem d_Me_init_1 : decode prog_3_method_1_code 1 = .ok (.invokespecial 3, 3) := by decide +kernel
theorem d_Me_init_4 : decode prog_3_method_1_code 4 = .ok (.aload_n 0, 1) := by decide +kernel
theorem d_Me_init_5 : decode prog_3_method_1_code 5 = .ok (.ldc 9, 2) := by decide +kernel
theorem d_Me_init_7 : decode prog_3_method_1_code 7 = .ok (.putfield 10, 3) := by decide +kernel
theorem d_Me_init_10 : decode prog_3_method_1_code 10 = .ok (.aload_n 0, 1) := by decide +kernel
theorem d_Me_init_11 : decode prog_3_method_1_code 11 = .ok (.iload_n 1, 1) := by decide +kernel
theorem d_Me_init_12 : decode prog_3_method_1_code 12 = .ok (.putfield 16, 3) := by decide +kernel
theorem d_Me_init_15 : decode prog_3_method_1_code 15 = .ok (.aload_n 0, 1) := by decide +kernel
theorem d_Me_init_16 : decode prog_3_method_1_code 16 = .ok (.iload_n 2, 1) := by decide +kernel
theorem d_Me_init_17 : decode prog_3_method_1_code 17 = .ok (.putfield 19, 3) := by decide +kernel
theorem d_Me_init_20 : decode prog_3_method_1_code 20 = .ok (.return_, 1) := by decide +kernel
set_option maxHeartbeats 4000000 in
set_option maxRecDepth 100000 in
theorem c_Me_init (l : Launch) (D : va_G) (cs : Nat → ClassId) (N0 : Nat) (H : Heap) (x N : Nat) (a b : Int32) (h1 : va_at D vwCl (x, .inr (5, [.int 0, .int 0, .int 0])) H) (hN : N = H.size) (hx0 : N0 ≤ x) : Met l y_Me_init w_Me_init ({ frames := 1, cells := 0, slots := 0, locals := 12 }) (hPre D cs N0 [.ref x, .int a, .int b] H) (hQv (fun H' => va_at D vwCl (x, .inr (5, [.int a, .int b, .int 100001])) H') (jA [x] N)) 0 0 (jA [x] N) := by
  refine Met.ofW (cc := prog_3_method_1_code) (maxL := 3) (ret := (Option.none : Option Jvm.ClassFile.FieldType)) (by decide) rfl ?_
  intro p e s m args below meth c s₁ B hml hv
  obtain ⟨rfl, rfl, hB⟩ := hv
  have hx := B.exec
  have hb := B.bytes
  have hr := B.returns
  have hts := atoms_spec (ws := w_Me_init) B.pre
  have htg : ∀ w ∈ gw, w.before _ s = true := fun w h => hts w (List.mem_cons_of_mem _ h)
  have hown : s.vm.findClass "NameMerges$Merge" = some m.cls := findClass_of_methodNamed B.named
  have hlocks := B.notSynchronized
  have hin : meth.name = "<init>" := (name_of_methodNamed B.named B.method).1
  have hAN : ∀ q, (jA [x] N) q → N0 ≤ q := jA_sub1 hx0 (fun q9 h9 => Nat.le_trans hB.2.1 (hN ▸ h9))
  have hK := hB.1
  obtain ⟨H, hH⟩ : ∃ z : Heap, z = s.heap := ⟨_, rfl⟩
  have hz0 : H.size = s.heap.size := by rw [hH]
  have hN0 := hB.2.1
  rw [← hH] at h1
  have hS : va_S (jA [x] N) s.heap H [] := by rw [hH]; exact va_S.rf
  have hl := lv_entry ([.ref x, .int a, .int b]) (n := 3) (Nat.le_of_ble_eq_true rfl)
  rw [lg_entry_eq, ← hH]
  generalize (lg_sl ([.ref x, .int a, .int b]) ++ List.replicate (3 - (lg_sl ([.ref x, .int a, .int b])).length) Slot.unset).toArray = ls at hl ⊢
  have hl : lv_has ls 3 [(0, .ref x), (1, .int a), (2, .int b)] := hl
  refine lv_aload_n hx hb d_Me_init_0 rfl (lv_at hl 0 rfl) ?_
  refine W.objInit hx hb hown (htg _ (gw_mem (i := 857) (by decide +kernel) rfl)) (htg _ (gw_mem (i := 65) (by decide +kernel) rfl)) (htg _ (gw_mem (i := 66) (by decide +kernel) rfl)) rfl (by rw [hml]; exact hl.1) rfl d_Me_init_1 (Nat.le_of_ble_eq_true rfl) (Nat.le_of_ble_eq_true rfl) ?_
  refine W.eq (g2 := F0 m 4 ls []) rfl ?_
  refine lv_aload_n hx hb d_Me_init_4 rfl (lv_at hl 0 rfl) ?_
  refine lv_ldc (v := 100001) hx hb hown (htg _ (gw_mem (i := 858) (by decide +kernel) rfl)) d_Me_init_5 ?_
  refine hx_put (ref := "NameMerges$Merge") (ty := .int) (v := .int 100001) hx hb htg iMe tMe tMe_ok nMe hown hK h1 hS jA_in1 rfl 2 (by decide) (htg _ (gw_mem (i := 863) (by decide +kernel) rfl)) (fun _ h9 => h9) rfl (by decide +kernel) rfl rfl (Nat.le_of_ble_eq_true rfl) d_Me_init_7 (fun H locs hat hz ho hS => ?_)
  replace h1 : va_at D vwCl (x, .inr (5, [.int 0, .int 0, .int 100001])) H := hat
  refine lv_aload_n hx hb d_Me_init_10 rfl (lv_at hl 0 rfl) ?_
  refine lv_iload_n hx hb d_Me_init_11 rfl (lv_at hl 1 rfl) ?_
  refine hx_putF (ref := "NameMerges$Merge") (ty := .int) (v := .int a) hx hb htg iMe tMe tMe_ok nMe hown hK h1 hS jA_in1 rfl 0 (by decide) (htg _ (gw_mem (i := 859) (by decide +kernel) rfl)) (fun _ h9 => h9) rfl hin rfl (by decide +kernel) rfl rfl (Nat.le_of_ble_eq_true rfl) d_Me_init_12 (fun H locs hat hz ho hS => ?_)
  replace h1 : va_at D vwCl (x, .inr (5, [.int a, .int 0, .int 100001])) H := hat
  refine lv_aload_n hx hb d_Me_init_15 rfl (lv_at hl 0 rfl) ?_
  refine lv_iload_n hx hb d_Me_init_16 rfl (lv_at hl 2 rfl) ?_
  refine hx_putF (ref := "NameMerges$Merge") (ty := .int) (v := .int b) hx hb htg iMe tMe tMe_ok nMe hown hK h1 hS jA_in1 rfl 1 (by decide) (htg _ (gw_mem (i := 861) (by decide +kernel) rfl)) (fun _ h9 => h9) rfl hin rfl (by decide +kernel) rfl rfl (Nat.le_of_ble_eq_true rfl) d_Me_init_17 (fun H locs hat hz ho hS => ?_)
  replace h1 : va_at D vwCl (x, .inr (5, [.int a, .int b, .int 100001])) H := hat
  exact W.vret hx hb hr (fun t ht hW => ⟨⟨H, rfl, h1, ht⟩, hS.F ht⟩) hS.2.2 d_Me_init_20
def y_Va_init : MethodName := ⟨"NameMerges$Variant", "<init>", "(Ljava/lang/String;LNameMerges$Days;)V"⟩
abbrev w_Va_init : List Cond := Cond.code y_Va_init prog_5_method_1_code 3 (Option.none : Option Jvm.ClassFile.FieldType) :: gw
theorem d_Va_init_0 : decode prog_5_method_1_code 0 = .ok (.aload_n 0, 1) := by decide +kernel
theorem d_Va_init_1 : decode prog_5_method_1_code 1 = .ok (.invokespecial 1, 3) := by decide +kernel
theorem d_Va_init_4 : decode prog_5_method_1_code 4 = .ok (.aload_n 0, 1) := by decide +kernel
theorem d_Va_init_5 : decode prog_5_method_1_code 5 = .ok (.aload_n 1, 1) := by decide +kernel
theorem d_Va_init_6 : decode prog_5_method_1_code 6 = .ok (.putfield 7, 3) := by decide +kernel
theorem d_Va_init_9 : decode prog_5_method_1_code 9 = .ok (.aload_n 0, 1) := by decide +kernel
theorem d_Va_init_10 : decode prog_5_method_1_code 10 = .ok (.aload_n 2, 1) := by decide +kernel
theorem d_Va_init_11 : decode prog_5_method_1_code 11 = .ok (.putfield 13, 3) := by decide +kernel
theorem d_Va_init_14 : decode prog_5_method_1_code 14 = .ok (.return_, 1) := by decide +kernel
set_option maxHeartbeats 4000000 in
set_option maxRecDepth 100000 in
theorem c_Va_init (l : Launch) (D : va_G) (cs : Nat → ClassId) (N0 : Nat) (H : Heap) (x N : Nat) (t9 d9 : Nat) (h1 : va_at D vwCl (x, .inr (3, [.null, .null])) H) (hN : N = H.size) (hx0 : N0 ≤ x) : Met l y_Va_init w_Va_init ({ frames := 1, cells := 0, slots := 0, locals := 12 }) (hPre D cs N0 [.ref x, .ref t9, .ref d9] H) (hQv (fun H' => va_at D vwCl (x, .inr (3, [.ref t9, .ref d9])) H') (jA [x] N)) 0 0 (jA [x] N) := by
  refine Met.ofW (cc := prog_5_method_1_code) (maxL := 3) (ret := (Option.none : Option Jvm.ClassFile.FieldType)) (by decide) rfl ?_
  intro p e s m args below meth c s₁ B hml hv
  obtain ⟨rfl, rfl, hB⟩ := hv
  have hx := B.exec
  have hb := B.bytes
  have hr := B.returns
  have hts := atoms_spec (ws := w_Va_init) B.pre
  have htg : ∀ w ∈ gw, w.before _ s = true := fun w h => hts w (List.mem_cons_of_mem _ h)
  have hown : s.vm.findClass "NameMerges$Variant" = some m.cls := findClass_of_methodNamed B.named
  have hlocks := B.notSynchronized
  have hin : meth.name = "<init>" := (name_of_methodNamed B.named B.method).1
  have hAN : ∀ q, (jA [x] N) q → N0 ≤ q := jA_sub1 hx0 (fun q9 h9 => Nat.le_trans hB.2.1 (hN ▸ h9))
  have hK := hB.1
  obtain ⟨H, hH⟩ : ∃ z : Heap, z = s.heap := ⟨_, rfl⟩
  have hz0 : H.size = s.heap.size := by rw [hH]
  have hN0 := hB.2.1
  rw [← hH] at h1
  have hS : va_S (jA [x] N) s.heap H [] := by rw [hH]; exact va_S.rf
  have hl := lv_entry ([.ref x, .ref t9, .ref d9]) (n := 3) (Nat.le_of_ble_eq_true rfl)
  rw [lg_entry_eq, ← hH]
  generalize (lg_sl ([.ref x, .ref t9, .ref d9]) ++ List.replicate (3 - (lg_sl ([.ref x, .ref t9, .ref d9])).length) Slot.unset).toArray = ls at hl ⊢
  have hl : lv_has ls 3 [(0, .ref x), (1, .ref t9), (2, .ref d9)] := hl
  refine lv_aload_n hx hb d_Va_init_0 rfl (lv_at hl 0 rfl) ?_
  refine W.objInit hx hb hown (htg _ (gw_mem (i := 783) (by decide +kernel) rfl)) (htg _ (gw_mem (i := 65) (by decide +kernel) rfl)) (htg _ (gw_mem (i := 66) (by decide +kernel) rfl)) rfl (by rw [hml]; exact hl.1) rfl d_Va_init_1 (Nat.le_of_ble_eq_true rfl) (Nat.le_of_ble_eq_true rfl) ?_
  refine W.eq (g2 := F0 m 4 ls []) rfl ?_
  refine lv_aload_n hx hb d_Va_init_4 rfl (lv_at hl 0 rfl) ?_
  refine lv_aload_n hx hb d_Va_init_5 rfl (lv_at hl 1 rfl) ?_
  refine hx_putF (ref := "NameMerges$Variant") (ty := .object "java/lang/String") (v := .ref t9) hx hb htg iVa tVa tVa_ok nVa hown hK h1 hS jA_in1 rfl 0 (by decide) (htg _ (gw_mem (i := 784) (by decide +kernel) rfl)) (fun _ h9 => h9) rfl hin rfl (by decide +kernel) rfl rfl (Nat.le_of_ble_eq_true rfl) d_Va_init_6 (fun H locs hat hz ho hS => ?_)
  replace h1 : va_at D vwCl (x, .inr (3, [.ref t9, .null])) H := hat
  refine lv_aload_n hx hb d_Va_init_9 rfl (lv_at hl 0 rfl) ?_
  refine lv_aload_n hx hb d_Va_init_10 rfl (lv_at hl 2 rfl) ?_
  refine hx_putF (ref := "NameMerges$Variant") (ty := .object "NameMerges$Days") (v := .ref d9) hx hb htg iVa tVa tVa_ok nVa hown hK h1 hS jA_in1 rfl 1 (by decide) (htg _ (gw_mem (i := 786) (by decide +kernel) rfl)) (fun _ h9 => h9) rfl hin rfl (by decide +kernel) rfl rfl (Nat.le_of_ble_eq_true rfl) d_Va_init_11 (fun H locs hat hz ho hS => ?_)
  replace h1 : va_at D vwCl (x, .inr (3, [.ref t9, .ref d9])) H := hat
  exact W.vret hx hb hr (fun t ht hW => ⟨⟨H, rfl, h1, ht⟩, hS.F ht⟩) hS.2.2 d_Va_init_14
def y_Na_init : MethodName := ⟨"NameMerges$Name", "<init>", "()V"⟩
abbrev w_Na_init : List Cond := Cond.code y_Na_init prog_4_method_1_code 1 (Option.none : Option Jvm.ClassFile.FieldType) :: gw
theorem d_Na_init_0 : decode prog_4_method_1_code 0 = .ok (.aload_n 0, 1) := by decide +kernel
theorem d_Na_init_1 : decode prog_4_method_1_code 1 = .ok (.invokespecial 3, 3) := by decide +kernel
theorem d_Na_init_4 : decode prog_4_method_1_code 4 = .ok (.aload_n 0, 1) := by decide +kernel
theorem d_Na_init_5 : decode prog_4_method_1_code 5 = .ok (.new 9, 3) := by decide +kernel
theorem d_Na_init_8 : decode prog_4_method_1_code 8 = .ok (.dup, 1) := by decide +kernel
theorem d_Na_init_9 : decode prog_4_method_1_code 9 = .ok (.invokespecial 11, 3) := by decide +kernel
theorem d_Na_init_12 : decode prog_4_method_1_code 12 = .ok (.putfield 12, 3) := by decide +kernel
theorem d_Na_init_15 : decode prog_4_method_1_code 15 = .ok (.aload_n 0, 1) := by decide +kernel
theorem d_Na_init_16 : decode prog_4_method_1_code 16 = .ok (.iconst 4, 1) := by decide +kernel
theorem d_Na_init_17 : decode prog_4_method_1_code 17 = .ok (.newarray .int, 2) := by decide +kernel
theorem d_Na_init_19 : decode prog_4_method_1_code 19 = .ok (.putfield 18, 3) := by decide +kernel
theorem d_Na_init_22 : decode prog_4_method_1_code 22 = .ok (.aload_n 0, 1) := by decide +kernel
theorem d_Na_init_23 : decode prog_4_method_1_code 23 = .ok (.aconst_null, 1) := by decide +kernel
theorem d_Na_init_24 : decode prog_4_method_1_code 24 = .ok (.putfield 22, 3) := by decide +kernel
theorem d_Na_init_27 : decode prog_4_method_1_code 27 = .ok (.aload_n 0, 1) := by decide +kernel
theorem d_Na_init_28 : decode prog_4_method_1_code 28 = .ok (.iconst 0, 1) := by decide +kernel
theorem d_Na_init_29 : decode prog_4_method_1_code 29 = .ok (.putfield 26, 3) := by decide +kernel
theorem d_Na_init_32 : decode prog_4_method_1_code 32 = .ok (.aload_n 0, 1) := by decide +kernel
theorem d_Na_init_33 : decode prog_4_method_1_code 33 = .ok (.iconst 0, 1) := by decide +kernel
theorem d_Na_init_34 : decode prog_4_method_1_code 34 = .ok (.putfield 30, 3) := by decide +kernel
theorem d_Na_init_37 : decode prog_4_method_1_code 37 = .ok (.aload_n 0, 1) := by decide +kernel
theorem d_Na_init_38 : decode prog_4_method_1_code 38 = .ok (.iconst 0, 1) := by decide +kernel
theorem d_Na_init_39 : decode prog_4_method_1_code 39 = .ok (.putfield 33, 3) := by decide +kernel
theorem d_Na_init_42 : decode prog_4_method_1_code 42 = .ok (.aload_n 0, 1) := by decide +kernel
theorem d_Na_init_43 : decode prog_4_method_1_code 43 = .ok (.iconst 0, 1) := by decide +kernel
theorem d_Na_init_44 : decode prog_4_method_1_code 44 = .ok (.putfield 36, 3) := by decide +kernel
theorem d_Na_init_47 : decode prog_4_method_1_code 47 = .ok (.return_, 1) := by decide +kernel
set_option maxHeartbeats 4000000 in
set_option maxRecDepth 100000 in
theorem c_Na_init (l : Launch) (D : va_G) (cs : Nat → ClassId) (N0 : Nat) (H : Heap) (x N : Nat) (h1 : va_at D vwCl (x, .inr (2, [.null, .null, .null, .int 0, .int 0, .int 0, .int 0])) H) (hN : N = H.size) (hx0 : N0 ≤ x) : Met l y_Na_init w_Na_init ({ frames := 4, cells := 2, slots := 7, locals := 72 }) (hPre D cs N0 [.ref x] H) (hQv (fun H' => ∃ a1 a2 : Nat, N ≤ a1 ∧ a1 < a2 ∧ va_at D vwCl (x, .inr (2, [.ref a1, .ref a2, .null, .int 0, .int 0, .int 0, .int 0])) H' ∧ va_at D vwCl (a1, .inr (6, [.ref (cs 9), .int 0, .int 0])) H' ∧ va_at D vwCl (a2, .inl (cs 0, (4, .inl (fun _ => 0)))) H') (jA [x] N)) 2 7 (jA [x] N) := by
  refine Met.ofW (cc := prog_4_method_1_code) (maxL := 1) (ret := (Option.none : Option Jvm.ClassFile.FieldType)) (by decide) rfl ?_
  intro p e s m args below meth c s₁ B hml hv
  obtain ⟨rfl, rfl, hB⟩ := hv
  have hx := B.exec
  have hb := B.bytes
  have hr := B.returns
  have hts := atoms_spec (ws := w_Na_init) B.pre
  have htg : ∀ w ∈ gw, w.before _ s = true := fun w h => hts w (List.mem_cons_of_mem _ h)
  have hown : s.vm.findClass "NameMerges$Name" = some m.cls := findClass_of_methodNamed B.named
  have hlocks := B.notSynchronized
  have hin : meth.name = "<init>" := (name_of_methodNamed B.named B.method).1
  have hAN : ∀ q, (jA [x] N) q → N0 ≤ q := jA_sub1 hx0 (fun q9 h9 => Nat.le_trans hB.2.1 (hN ▸ h9))
  have hK := hB.1
  obtain ⟨H, hH⟩ : ∃ z : Heap, z = s.heap := ⟨_, rfl⟩
  have hz0 : H.size = s.heap.size := by rw [hH]
  have hN0 := hB.2.1
  rw [← hH] at h1
  have hS : va_S (jA [x] N) s.heap H [] := by rw [hH]; exact va_S.rf
  have hl := lv_entry ([.ref x]) (n := 1) (Nat.le_of_ble_eq_true rfl)
  rw [lg_entry_eq, ← hH]
  generalize (lg_sl ([.ref x]) ++ List.replicate (1 - (lg_sl ([.ref x])).length) Slot.unset).toArray = ls at hl ⊢
  have hl : lv_has ls 1 [(0, .ref x)] := hl
  refine lv_aload_n hx hb d_Na_init_0 rfl (lv_at hl 0 rfl) ?_
  refine W.objInit hx hb hown (htg _ (gw_mem (i := 649) (by decide +kernel) rfl)) (htg _ (gw_mem (i := 65) (by decide +kernel) rfl)) (htg _ (gw_mem (i := 66) (by decide +kernel) rfl)) rfl (by rw [hml]; exact hl.1) rfl d_Na_init_1 (Nat.le_of_ble_eq_true rfl) (Nat.le_of_ble_eq_true rfl) ?_
  refine W.eq (g2 := F0 m 4 ls []) rfl ?_
  refine lv_aload_n hx hb d_Na_init_4 rfl (lv_at hl 0 rfl) ?_
  obtain ⟨a1, ha1⟩ : ∃ z : Nat, z = H.size := ⟨_, rfl⟩
  have hlt_q2 : x < a1 := ha1 ▸ hx_lt h1
  refine hx_new hx hb htg iAL tAL tAL_ok hown (htg _ (gw_mem (i := 650) (by decide +kernel) rfl)) (htg _ (gw_mem (i := 101) (by decide +kernel) rfl)) (htg _ (gw_mem (i := 37) (by decide +kernel) rfl)) hK hS (ci := 6) rfl (fs := [.null, .int 0, .int 0]) (by decide +kernel) (Nat.le_of_ble_eq_true rfl) (Nat.le_of_ble_eq_true rfl) d_Na_init_5 (fun H hat hz ho hS => ?_)
  rw [← ha1] at hat hz ho
  rw [← ha1]
  have hO1 : va_at D vwCl (a1, .inr (6, [.null, .int 0, .int 0])) H := hat
  replace h1 := hx_keep h1 (ho _ (by omega))
  refine lv_dup hx hb d_Na_init_8 rfl ?_
  obtain ⟨nq3, hnq3⟩ : ∃ z : Nat, z = H.size := ⟨_, rfl⟩
  have hlt_q4 := hx_lt h1
  have hlt_q5 := hx_lt hO1
  refine h_callv (va_runI (As := []) (rest := [.ref a1, .ref x]) ⟨hx, hb, hml, hown, htg⟩ (c_AL_init l D cs N0 H a1 nq3 hO1 hnq3 (by omega)) ⟨x_cwB 0 htg (gw_mem (i := 104) (by decide +kernel) rfl) (gw_mem (i := 37) (by decide +kernel) rfl) (gw_mem (i := 651) (by decide +kernel) rfl) (by decide +kernel) ⟨Nat.le_of_ble_eq_true rfl, Nat.le_of_ble_eq_true rfl⟩, rfl, htg _ (gw_mem (i := 103) (by decide +kernel) rfl)⟩ ⟨hPre.blind, hPre.at hB hS hAN⟩ rfl rfl hl.1 rfl (lv_room (Nat.le_of_ble_eq_true rfl)) d_Na_init_9 ⟨Nat.le_of_ble_eq_true rfl, Nat.le_of_ble_eq_true rfl⟩) hS (jA_sub1 (Or.inr (show N ≤ a1 by omega)) (fun q9 h9 => Or.inr (show N ≤ q9 by omega))) (fun H locs hp hz hk hS => ?_)
  replace h1 := hx_keep h1 (hk _ hlt_q4 (jA_not1 (show x ≠ a1 by omega) (show x < nq3 by omega)))
  have hO6 := hp
  refine hx_putF (ref := "NameMerges$Name") (ty := .object "java/util/ArrayList") (v := .ref a1) hx hb htg iNa tNa tNa_ok nNa hown hK h1 hS jA_in1 rfl 0 (by decide) (htg _ (gw_mem (i := 652) (by decide +kernel) rfl)) (fun _ h9 => h9) rfl hin rfl (by decide +kernel) rfl rfl (Nat.le_of_ble_eq_true rfl) d_Na_init_12 (fun H locs hat hz ho hS => ?_)
  replace h1 : va_at D vwCl (x, .inr (2, [.ref a1, .null, .null, .int 0, .int 0, .int 0, .int 0])) H := hat
  replace hO6 := hx_keep hO6 (ho _ (show a1 ≠ x by omega))
  refine lv_aload_n hx hb d_Na_init_15 rfl (lv_at hl 0 rfl) ?_
  refine lv_iconst (v := 4) hx hb d_Na_init_16 (by decide) ?_
  obtain ⟨a2, ha2⟩ : ∃ z : Nat, z = H.size := ⟨_, rfl⟩
  have hlt_q8 : x < a2 := ha2 ▸ hx_lt h1
  have hlt_q9 : a1 < a2 := ha2 ▸ hx_lt hO6
  refine hx_newa (atype := .int) (cA := cs 0) (N' := 4) (a0 := (4, .inl (fun _ => 0))) hx hb (htg _ (gw_mem (i := 151) (by decide +kernel) rfl)) hK hS 0 rfl rfl (by decide) (by decide) (show 4 * 4 ≤ 536870912 by decide) (Nat.le_of_ble_eq_true rfl) (Nat.le_of_ble_eq_true rfl) d_Na_init_17 (fun H hat hz ho hS => ?_)
  rw [← ha2] at hat hz ho
  rw [← ha2]
  have hO7 : va_at D vwCl (a2, .inl (cs 0, (4, .inl (fun _ => 0)))) H := hat
  replace h1 := hx_keep h1 (ho _ (by omega))
  replace hO6 := hx_keep hO6 (ho _ (by omega))
  refine hx_putF (ref := "NameMerges$Name") (ty := .array (.int)) (v := .ref a2) hx hb htg iNa tNa tNa_ok nNa hown hK h1 hS jA_in1 rfl 1 (by decide) (htg _ (gw_mem (i := 654) (by decide +kernel) rfl)) (fun _ h9 => h9) rfl hin rfl (by decide +kernel) rfl rfl (Nat.le_of_ble_eq_true rfl) d_Na_init_19 (fun H locs hat hz ho hS => ?_)
  replace h1 : va_at D vwCl (x, .inr (2, [.ref a1, .ref a2, .null, .int 0, .int 0, .int 0, .int 0])) H := hat
  replace hO6 := hx_keep hO6 (ho _ (show a1 ≠ x by omega))
  replace hO7 := hx_keep hO7 (ho _ (show a2 ≠ x by omega))
  refine lv_aload_n hx hb d_Na_init_22 rfl (lv_at hl 0 rfl) ?_
  refine lv_null hx hb d_Na_init_23 ?_
  refine hx_put (ref := "NameMerges$Name") (ty := .object "NameMerges$Days") (v := .null) hx hb htg iNa tNa tNa_ok nNa hown hK h1 hS jA_in1 rfl 2 (by decide) (htg _ (gw_mem (i := 656) (by decide +kernel) rfl)) (fun _ h9 => h9) rfl (by decide +kernel) rfl rfl (Nat.le_of_ble_eq_true rfl) d_Na_init_24 (fun H locs hat hz ho hS => ?_)
  replace h1 : va_at D vwCl (x, .inr (2, [.ref a1, .ref a2, .null, .int 0, .int 0, .int 0, .int 0])) H := hat
  replace hO6 := hx_keep hO6 (ho _ (show a1 ≠ x by omega))
  replace hO7 := hx_keep hO7 (ho _ (show a2 ≠ x by omega))
  refine lv_aload_n hx hb d_Na_init_27 rfl (lv_at hl 0 rfl) ?_
  refine lv_iconst (v := 0) hx hb d_Na_init_28 (by decide) ?_
  refine hx_put (ref := "NameMerges$Name") (ty := .int) (v := .int 0) hx hb htg iNa tNa tNa_ok nNa hown hK h1 hS jA_in1 rfl 3 (by decide) (htg _ (gw_mem (i := 658) (by decide +kernel) rfl)) (fun _ h9 => h9) rfl (by decide +kernel) rfl rfl (Nat.le_of_ble_eq_true rfl) d_Na_init_29 (fun H locs hat hz ho hS => ?_)
  replace h1 : va_at D vwCl (x, .inr (2, [.ref a1, .ref a2, .null, .int 0, .int 0, .int 0, .int 0])) H := hat
  replace hO6 := hx_keep hO6 (ho _ (show a1 ≠ x by omega))
  replace hO7 := hx_keep hO7 (ho _ (show a2 ≠ x by omega))
  refine lv_aload_n hx hb d_Na_init_32 rfl (lv_at hl 0 rfl) ?_
  refine lv_iconst (v := 0) hx hb d_Na_init_33 (by decide) ?_
  refine hx_put (ref := "NameMerges$Name") (ty := .int) (v := .int 0) hx hb htg iNa tNa tNa_ok nNa hown hK h1 hS jA_in1 rfl 4 (by decide) (htg _ (gw_mem (i := 660) (by decide +kernel) rfl)) (fun _ h9 => h9) rfl (by decide +kernel) rfl rfl (Nat.le_of_ble_eq_true rfl) d_Na_init_34 (fun H locs hat hz ho hS => ?_)
  replace h1 : va_at D vwCl (x, .inr (2, [.ref a1, .ref a2, .null, .int 0, .int 0, .int 0, .int 0])) H := hat
  replace hO6 := hx_keep hO6 (ho _ (show a1 ≠ x by omega))
  replace hO7 := hx_keep hO7 (ho _ (show a2 ≠ x by omega))
  refine lv_aload_n hx hb d_Na_init_37 rfl (lv_at hl 0 rfl) ?_
  refine lv_iconst (v := 0) hx hb d_Na_init_38 (by decide) ?_
  refine hx_put (ref := "NameMerges$Name") (ty := .int) (v := .int 0) hx hb htg iNa tNa tNa_ok nNa hown hK h1 hS jA_in1 rfl 5 (by decide) (htg _ (gw_mem (i := 662) (by decide +kernel) rfl)) (fun _ h9 => h9) rfl (by decide +kernel) rfl rfl (Nat.le_of_ble_eq_true rfl) d_Na_init_39 (fun H locs hat hz ho hS => ?_)
  replace h1 : va_at D vwCl (x, .inr (2, [.ref a1, .ref a2, .null, .int 0, .int 0, .int 0, .int 0])) H := hat
  replace hO6 := hx_keep hO6 (ho _ (show a1 ≠ x by omega))
  replace hO7 := hx_keep hO7 (ho _ (show a2 ≠ x by omega))
  refine lv_aload_n hx hb d_Na_init_42 rfl (lv_at hl 0 rfl) ?_
  refine lv_iconst (v := 0) hx hb d_Na_init_43 (by decide) ?_
  refine hx_put (ref := "NameMerges$Name") (ty := .int) (v := .int 0) hx hb htg iNa tNa tNa_ok nNa hown hK h1 hS jA_in1 rfl 6 (by decide) (htg _ (gw_mem (i := 664) (by decide +kernel) rfl)) (fun _ h9 => h9) rfl (by decide +kernel) rfl rfl (Nat.le_of_ble_eq_true rfl) d_Na_init_44 (fun H locs hat hz ho hS => ?_)
  replace h1 : va_at D vwCl (x, .inr (2, [.ref a1, .ref a2, .null, .int 0, .int 0, .int 0, .int 0])) H := hat
  replace hO6 := hx_keep hO6 (ho _ (show a1 ≠ x by omega))
  replace hO7 := hx_keep hO7 (ho _ (show a2 ≠ x by omega))
  exact W.vret hx hb hr (fun t ht hW => ⟨⟨H, rfl, ⟨a1, a2, by omega, by omega, h1, hO6, hO7⟩, ht⟩, hS.F ht⟩) hS.2.2 d_Na_init_47
def y_Nm_init : MethodName := ⟨"NameMerges", "<init>", "()V"⟩
abbrev w_Nm_init : List Cond := Cond.code y_Nm_init prog_1_method_1_code 1 (Option.none : Option Jvm.ClassFile.FieldType) :: gw
theorem d_Nm_init_0 : decode prog_1_method_1_code 0 = .ok (.aload_n 0, 1) := by decide +kernel
theorem d_Nm_init_1 : decode prog_1_method_1_code 1 = .ok (.invokespecial 3, 3) := by decide +kernel
theorem d_Nm_init_4 : decode prog_1_method_1_code 4 = .ok (.aload_n 0, 1) := by decide +kernel
theorem d_Nm_init_5 : decode prog_1_method_1_code 5 = .ok (.new 9, 3) := by decide +kernel
theorem d_Nm_init_8 : decode prog_1_method_1_code 8 = .ok (.dup, 1) := by decide +kernel
theorem d_Nm_init_9 : decode prog_1_method_1_code 9 = .ok (.invokespecial 11, 3) := by decide +kernel
theorem d_Nm_init_12 : decode prog_1_method_1_code 12 = .ok (.putfield 12, 3) := by decide +kernel
theorem d_Nm_init_15 : decode prog_1_method_1_code 15 = .ok (.aload_n 0, 1) := by decide +kernel
theorem d_Nm_init_16 : decode prog_1_method_1_code 16 = .ok (.new 16, 3) := by decide +kernel
theorem d_Nm_init_19 : decode prog_1_method_1_code 19 = .ok (.dup, 1) := by decide +kernel
theorem d_Nm_init_20 : decode prog_1_method_1_code 20 = .ok (.invokespecial 18, 3) := by decide +kernel
theorem d_Nm_init_23 : decode prog_1_method_1_code 23 = .ok (.putfield 19, 3) := by decide +kernel
theorem d_Nm_init_26 : decode prog_1_method_1_code 26 = .ok (.aload_n 0, 1) := by decide +kernel
theorem d_Nm_init_27 : decode prog_1_method_1_code 27 = .ok (.new 16, 3) := by decide +kernel
theorem d_Nm_init_30 : decode prog_1_method_1_code 30 = .ok (.dup, 1) := by decide +kernel
theorem d_Nm_init_31 : decode prog_1_method_1_code 31 = .ok (.invokespecial 18, 3) := by decide +kernel
theorem d_Nm_init_34 : decode prog_1_method_1_code 34 = .ok (.putfield 23, 3) := by decide +kernel
theorem d_Nm_init_37 : decode prog_1_method_1_code 37 = .ok (.aload_n 0, 1) := by decide +kernel
theorem d_Nm_init_38 : decode prog_1_method_1_code 38 = .ok (.sipush 576, 3) := by decide +kernel
theorem d_Nm_init_41 : decode prog_1_method_1_code 41 = .ok (.newarray .int, 2) := by decide +kernel
theorem d_Nm_init_43 : decode prog_1_method_1_code 43 = .ok (.putfield 26, 3) := by decide +kernel
theorem d_Nm_init_46 : decode prog_1_method_1_code 46 = .ok (.aload_n 0, 1) := by decide +kernel
theorem d_Nm_init_47 : decode prog_1_method_1_code 47 = .ok (.sipush 276, 3) := by decide +kernel
theorem d_Nm_init_50 : decode prog_1_method_1_code 50 = .ok (.newarray .int, 2) := by decide +kernel
theorem d_Nm_init_52 : decode prog_1_method_1_code 52 = .ok (.putfield 30, 3) := by decide +kernel
theorem d_Nm_init_55 : decode prog_1_method_1_code 55 = .ok (.aload_n 0, 1) := by decide +kernel
theorem d_Nm_init_56 : decode prog_1_method_1_code 56 = .ok (.iconst 0, 1) := by decide +kernel
theorem d_Nm_init_57 : decode prog_1_method_1_code 57 = .ok (.putfield 33, 3) := by decide +kernel
theorem d_Nm_init_60 : decode prog_1_method_1_code 60 = .ok (.aload_n 0, 1) := by decide +kernel
theorem d_Nm_init_61 : decode prog_1_method_1_code 61 = .ok (.iconst 0, 1) := by decide +kernel
theorem d_Nm_init_62 : decode prog_1_method_1_code 62 = .ok (.putfield 37, 3) := by decide +kernel
theorem d_Nm_init_65 : decode prog_1_method_1_code 65 = .ok (.aload_n 0, 1) := by decide +kernel
theorem d_Nm_init_66 : decode prog_1_method_1_code 66 = .ok (.bipush 13, 2) := by decide +kernel
theorem d_Nm_init_68 : decode prog_1_method_1_code 68 = .ok (.newarray .int, 2) := by decide +kernel
theorem d_Nm_init_70 : decode prog_1_method_1_code 70 = .ok (.putfield 40, 3) := by decide +kernel
theorem d_Nm_init_73 : decode prog_1_method_1_code 73 = .ok (.return_, 1) := by decide +kernel
set_option maxHeartbeats 4000000 in
set_option maxRecDepth 100000 in
theorem c_Nm_init (l : Launch) (D : va_G) (cs : Nat → ClassId) (N0 : Nat) (H : Heap) (x N : Nat) (h1 : va_at D vwCl (x, .inr (1, [.null, .null, .null, .null, .null, .int 0, .int 0, .null])) H) (hN : N = H.size) (hx0 : N0 ≤ x) : Met l y_Nm_init w_Nm_init ({ frames := 4, cells := 7, slots := 891, locals := 72 }) (hPre D cs N0 [.ref x] H) (hQv (fun H' => ∃ a1 bb a2 a3 a4 a5 a6 : Nat, N ≤ a1 ∧ a1 < bb ∧ bb < a2 ∧ a2 < a3 ∧ a3 < a4 ∧ a4 < a5 ∧ a5 < a6 ∧ va_at D vwCl (x, .inr (1, [.ref a1, .ref a2, .ref a3, .ref a4, .ref a5, .int 0, .int 0, .ref a6])) H' ∧ va_at D vwCl (a1, .inr (7, [.ref bb, .int 0, .int 0, .int 0])) H' ∧ va_at D vwCl (bb, .inl (cs 2, (16, .inl (fun _ => 0)))) H' ∧ va_at D vwCl (a2, .inr (6, [.ref (cs 9), .int 0, .int 0])) H' ∧ va_at D vwCl (a3, .inr (6, [.ref (cs 9), .int 0, .int 0])) H' ∧ va_at D vwCl (a4, .inl (cs 0, (576, .inl (fun _ => 0)))) H' ∧ va_at D vwCl (a5, .inl (cs 0, (276, .inl (fun _ => 0)))) H' ∧ va_at D vwCl (a6, .inl (cs 0, (13, .inl (fun _ => 0)))) H') (jA [x] N)) 7 891 (jA [x] N) := by
  refine Met.ofW (cc := prog_1_method_1_code) (maxL := 1) (ret := (Option.none : Option Jvm.ClassFile.FieldType)) (by decide) rfl ?_
  intro p e s m args below meth c s₁ B hml hv
  obtain ⟨rfl, rfl, hB⟩ := hv
  have hx := B.exec
  have hb := B.bytes
  have hr := B.returns
  have hts := atoms_spec (ws := w_Nm_init) B.pre
  have htg : ∀ w ∈ gw, w.before _ s = true := fun w h => hts w (List.mem_cons_of_mem _ h)
  have hown : s.vm.findClass "NameMerges" = some m.cls := findClass_of_methodNamed B.named
  have hlocks := B.notSynchronized
  have hin : meth.name = "<init>" := (name_of_methodNamed B.named B.method).1
  have hAN : ∀ q, (jA [x] N) q → N0 ≤ q := jA_sub1 hx0 (fun q9 h9 => Nat.le_trans hB.2.1 (hN ▸ h9))
  have hK := hB.1
  obtain ⟨H, hH⟩ : ∃ z : Heap, z = s.heap := ⟨_, rfl⟩
  have hz0 : H.size = s.heap.size := by rw [hH]
  have hN0 := hB.2.1
  rw [← hH] at h1
  have hS : va_S (jA [x] N) s.heap H [] := by rw [hH]; exact va_S.rf
  have hl := lv_entry ([.ref x]) (n := 1) (Nat.le_of_ble_eq_true rfl)
  rw [lg_entry_eq, ← hH]
  generalize (lg_sl ([.ref x]) ++ List.replicate (1 - (lg_sl ([.ref x])).length) Slot.unset).toArray = ls at hl ⊢
  have hl : lv_has ls 1 [(0, .ref x)] := hl
  refine lv_aload_n hx hb d_Nm_init_0 rfl (lv_at hl 0 rfl) ?_
  refine W.objInit hx hb hown (htg _ (gw_mem (i := 64) (by decide +kernel) rfl)) (htg _ (gw_mem (i := 65) (by decide +kernel) rfl)) (htg _ (gw_mem (i := 66) (by decide +kernel) rfl)) rfl (by rw [hml]; exact hl.1) rfl d_Nm_init_1 (Nat.le_of_ble_eq_true rfl) (Nat.le_of_ble_eq_true rfl) ?_
  refine W.eq (g2 := F0 m 4 ls []) rfl ?_
  refine lv_aload_n hx hb d_Nm_init_4 rfl (lv_at hl 0 rfl) ?_
  obtain ⟨a1, ha1⟩ : ∃ z : Nat, z = H.size := ⟨_, rfl⟩
  have hlt_q2 : x < a1 := ha1 ▸ hx_lt h1
  refine hx_new hx hb htg iSB tSB tSB_ok hown (htg _ (gw_mem (i := 67) (by decide +kernel) rfl)) (htg _ (gw_mem (i := 68) (by decide +kernel) rfl)) (htg _ (gw_mem (i := 32) (by decide +kernel) rfl)) hK hS (ci := 7) rfl (fs := [.null, .int 0, .int 0, .int 0]) (by decide +kernel) (Nat.le_of_ble_eq_true rfl) (Nat.le_of_ble_eq_true rfl) d_Nm_init_5 (fun H hat hz ho hS => ?_)
  rw [← ha1] at hat hz ho
  rw [← ha1]
  have hO1 : va_at D vwCl (a1, .inr (7, [.null, .int 0, .int 0, .int 0])) H := hat
  replace h1 := hx_keep h1 (ho _ (by omega))
  refine lv_dup hx hb d_Nm_init_8 rfl ?_
  obtain ⟨nq3, hnq3⟩ : ∃ z : Nat, z = H.size := ⟨_, rfl⟩
  have hlt_q4 := hx_lt h1
  have hlt_q5 := hx_lt hO1
  refine h_callv (va_runI (As := []) (rest := [.ref a1, .ref x]) ⟨hx, hb, hml, hown, htg⟩ (c_SB_init l D cs N0 H a1 nq3 hO1 hnq3 (by omega)) ⟨x_cwB 0 htg (gw_mem (i := 71) (by decide +kernel) rfl) (gw_mem (i := 32) (by decide +kernel) rfl) (gw_mem (i := 69) (by decide +kernel) rfl) (by decide +kernel) ⟨Nat.le_of_ble_eq_true rfl, Nat.le_of_ble_eq_true rfl⟩, rfl, htg _ (gw_mem (i := 70) (by decide +kernel) rfl)⟩ ⟨hPre.blind, hPre.at hB hS hAN⟩ rfl rfl hl.1 rfl (lv_room (Nat.le_of_ble_eq_true rfl)) d_Nm_init_9 ⟨Nat.le_of_ble_eq_true rfl, Nat.le_of_ble_eq_true rfl⟩) hS (jA_sub1 (Or.inr (show N ≤ a1 by omega)) (fun q9 h9 => Or.inr (show N ≤ q9 by omega))) (fun H locs hp hz hk hS => ?_)
  replace h1 := hx_keep h1 (hk _ hlt_q4 (jA_not1 (show x ≠ a1 by omega) (show x < nq3 by omega)))
  obtain ⟨hO6, hO7⟩ := hp
  refine hx_putF (ref := "NameMerges") (ty := .object "java/lang/StringBuilder") (v := .ref a1) hx hb htg iNm tNm tNm_ok nNm hown hK h1 hS jA_in1 rfl 0 (by decide) (htg _ (gw_mem (i := 126) (by decide +kernel) rfl)) (fun _ h9 => h9) rfl hin rfl (by decide +kernel) rfl rfl (Nat.le_of_ble_eq_true rfl) d_Nm_init_12 (fun H locs hat hz ho hS => ?_)
  replace h1 : va_at D vwCl (x, .inr (1, [.ref a1, .null, .null, .null, .null, .int 0, .int 0, .null])) H := hat
  replace hO6 := hx_keep hO6 (ho _ (show a1 ≠ x by omega))
  replace hO7 := hx_keep hO7 (ho _ (show nq3 ≠ x by omega))
  refine lv_aload_n hx hb d_Nm_init_15 rfl (lv_at hl 0 rfl) ?_
  obtain ⟨a2, ha2⟩ : ∃ z : Nat, z = H.size := ⟨_, rfl⟩
  have hlt_q9 : x < a2 := ha2 ▸ hx_lt h1
  have hlt_q10 : a1 < a2 := ha2 ▸ hx_lt hO6
  have hlt_q11 : nq3 < a2 := ha2 ▸ hx_lt hO7
  refine hx_new hx hb htg iAL tAL tAL_ok hown (htg _ (gw_mem (i := 100) (by decide +kernel) rfl)) (htg _ (gw_mem (i := 101) (by decide +kernel) rfl)) (htg _ (gw_mem (i := 37) (by decide +kernel) rfl)) hK hS (ci := 6) rfl (fs := [.null, .int 0, .int 0]) (by decide +kernel) (Nat.le_of_ble_eq_true rfl) (Nat.le_of_ble_eq_true rfl) d_Nm_init_16 (fun H hat hz ho hS => ?_)
  rw [← ha2] at hat hz ho
  rw [← ha2]
  have hO8 : va_at D vwCl (a2, .inr (6, [.null, .int 0, .int 0])) H := hat
  replace h1 := hx_keep h1 (ho _ (by omega))
  replace hO6 := hx_keep hO6 (ho _ (by omega))
  replace hO7 := hx_keep hO7 (ho _ (by omega))
  refine lv_dup hx hb d_Nm_init_19 rfl ?_
  obtain ⟨nq12, hnq12⟩ : ∃ z : Nat, z = H.size := ⟨_, rfl⟩
  have hlt_q13 := hx_lt h1
  have hlt_q14 := hx_lt hO6
  have hlt_q15 := hx_lt hO8
  have hlt_q16 := hx_lt hO7
  refine h_callv (va_runI (As := []) (rest := [.ref a2, .ref x]) ⟨hx, hb, hml, hown, htg⟩ (c_AL_init l D cs N0 H a2 nq12 hO8 hnq12 (by omega)) ⟨x_cwB 0 htg (gw_mem (i := 104) (by decide +kernel) rfl) (gw_mem (i := 37) (by decide +kernel) rfl) (gw_mem (i := 102) (by decide +kernel) rfl) (by decide +kernel) ⟨Nat.le_of_ble_eq_true rfl, Nat.le_of_ble_eq_true rfl⟩, rfl, htg _ (gw_mem (i := 103) (by decide +kernel) rfl)⟩ ⟨hPre.blind, hPre.at hB hS hAN⟩ rfl rfl hl.1 rfl (lv_room (Nat.le_of_ble_eq_true rfl)) d_Nm_init_20 ⟨Nat.le_of_ble_eq_true rfl, Nat.le_of_ble_eq_true rfl⟩) hS (jA_sub1 (Or.inr (show N ≤ a2 by omega)) (fun q9 h9 => Or.inr (show N ≤ q9 by omega))) (fun H locs hp hz hk hS => ?_)
  replace h1 := hx_keep h1 (hk _ hlt_q13 (jA_not1 (show x ≠ a2 by omega) (show x < nq12 by omega)))
  replace hO6 := hx_keep hO6 (hk _ hlt_q14 (jA_not1 (show a1 ≠ a2 by omega) (show a1 < nq12 by omega)))
  replace hO7 := hx_keep hO7 (hk _ hlt_q16 (jA_not1 (show nq3 ≠ a2 by omega) (show nq3 < nq12 by omega)))
  have hO17 := hp
  refine hx_putF (ref := "NameMerges") (ty := .object "java/util/ArrayList") (v := .ref a2) hx hb htg iNm tNm tNm_ok nNm hown hK h1 hS jA_in1 rfl 1 (by decide) (htg _ (gw_mem (i := 127) (by decide +kernel) rfl)) (fun _ h9 => h9) rfl hin rfl (by decide +kernel) rfl rfl (Nat.le_of_ble_eq_true rfl) d_Nm_init_23 (fun H locs hat hz ho hS => ?_)
  replace h1 : va_at D vwCl (x, .inr (1, [.ref a1, .ref a2, .null, .null, .null, .int 0, .int 0, .null])) H := hat
  replace hO6 := hx_keep hO6 (ho _ (show a1 ≠ x by omega))
  replace hO17 := hx_keep hO17 (ho _ (show a2 ≠ x by omega))
  replace hO7 := hx_keep hO7 (ho _ (show nq3 ≠ x by omega))
  refine lv_aload_n hx hb d_Nm_init_26 rfl (lv_at hl 0 rfl) ?_
  obtain ⟨a3, ha3⟩ : ∃ z : Nat, z = H.size := ⟨_, rfl⟩
  have hlt_q19 : x < a3 := ha3 ▸ hx_lt h1
  have hlt_q20 : a1 < a3 := ha3 ▸ hx_lt hO6
  have hlt_q21 : a2 < a3 := ha3 ▸ hx_lt hO17
  have hlt_q22 : nq3 < a3 := ha3 ▸ hx_lt hO7
  refine hx_new hx hb htg iAL tAL tAL_ok hown (htg _ (gw_mem (i := 100) (by decide +kernel) rfl)) (htg _ (gw_mem (i := 101) (by decide +kernel) rfl)) (htg _ (gw_mem (i := 37) (by decide +kernel) rfl)) hK hS (ci := 6) rfl (fs := [.null, .int 0, .int 0]) (by decide +kernel) (Nat.le_of_ble_eq_true rfl) (Nat.le_of_ble_eq_true rfl) d_Nm_init_27 (fun H hat hz ho hS => ?_)
  rw [← ha3] at hat hz ho
  rw [← ha3]
  have hO18 : va_at D vwCl (a3, .inr (6, [.null, .int 0, .int 0])) H := hat
  replace h1 := hx_keep h1 (ho _ (by omega))
  replace hO6 := hx_keep hO6 (ho _ (by omega))
  replace hO17 := hx_keep hO17 (ho _ (by omega))
  replace hO7 := hx_keep hO7 (ho _ (by omega))
  refine lv_dup hx hb d_Nm_init_30 rfl ?_
  obtain ⟨nq23, hnq23⟩ : ∃ z : Nat, z = H.size := ⟨_, rfl⟩
  have hlt_q24 := hx_lt h1
  have hlt_q25 := hx_lt hO6
  have hlt_q26 := hx_lt hO17
  have hlt_q27 := hx_lt hO18
  have hlt_q28 := hx_lt hO7
  refine h_callv (va_runI (As := []) (rest := [.ref a3, .ref x]) ⟨hx, hb, hml, hown, htg⟩ (c_AL_init l D cs N0 H a3 nq23 hO18 hnq23 (by omega)) ⟨x_cwB 0 htg (gw_mem (i := 104) (by decide +kernel) rfl) (gw_mem (i := 37) (by decide +kernel) rfl) (gw_mem (i := 102) (by decide +kernel) rfl) (by decide +kernel) ⟨Nat.le_of_ble_eq_true rfl, Nat.le_of_ble_eq_true rfl⟩, rfl, htg _ (gw_mem (i := 103) (by decide +kernel) rfl)⟩ ⟨hPre.blind, hPre.at hB hS hAN⟩ rfl rfl hl.1 rfl (lv_room (Nat.le_of_ble_eq_true rfl)) d_Nm_init_31 ⟨Nat.le_of_ble_eq_true rfl, Nat.le_of_ble_eq_true rfl⟩) hS (jA_sub1 (Or.inr (show N ≤ a3 by omega)) (fun q9 h9 => Or.inr (show N ≤ q9 by omega))) (fun H locs hp hz hk hS => ?_)
  replace h1 := hx_keep h1 (hk _ hlt_q24 (jA_not1 (show x ≠ a3 by omega) (show x < nq23 by omega)))
  replace hO6 := hx_keep hO6 (hk _ hlt_q25 (jA_not1 (show a1 ≠ a3 by omega) (show a1 < nq23 by omega)))
  replace hO17 := hx_keep hO17 (hk _ hlt_q26 (jA_not1 (show a2 ≠ a3 by omega) (show a2 < nq23 by omega)))
  replace hO7 := hx_keep hO7 (hk _ hlt_q28 (jA_not1 (show nq3 ≠ a3 by omega) (show nq3 < nq23 by omega)))
  have hO29 := hp
  refine hx_putF (ref := "NameMerges") (ty := .object "java/util/ArrayList") (v := .ref a3) hx hb htg iNm tNm tNm_ok nNm hown hK h1 hS jA_in1 rfl 2 (by decide) (htg _ (gw_mem (i := 128) (by decide +kernel) rfl)) (fun _ h9 => h9) rfl hin rfl (by decide +kernel) rfl rfl (Nat.le_of_ble_eq_true rfl) d_Nm_init_34 (fun H locs hat hz ho hS => ?_)
  replace h1 : va_at D vwCl (x, .inr (1, [.ref a1, .ref a2, .ref a3, .null, .null, .int 0, .int 0, .null])) H := hat
  replace hO6 := hx_keep hO6 (ho _ (show a1 ≠ x by omega))
  replace hO17 := hx_keep hO17 (ho _ (show a2 ≠ x by omega))
  replace hO29 := hx_keep hO29 (ho _ (show a3 ≠ x by omega))
  replace hO7 := hx_keep hO7 (ho _ (show nq3 ≠ x by omega))
  refine lv_aload_n hx hb d_Nm_init_37 rfl (lv_at hl 0 rfl) ?_
  refine lv_sipush (v := 576) hx hb d_Nm_init_38 (by decide) ?_
  obtain ⟨a4, ha4⟩ : ∃ z : Nat, z = H.size := ⟨_, rfl⟩
  have hlt_q31 : x < a4 := ha4 ▸ hx_lt h1
  have hlt_q32 : a1 < a4 := ha4 ▸ hx_lt hO6
  have hlt_q33 : a2 < a4 := ha4 ▸ hx_lt hO17
  have hlt_q34 : a3 < a4 := ha4 ▸ hx_lt hO29
  have hlt_q35 : nq3 < a4 := ha4 ▸ hx_lt hO7
  refine hx_newa (atype := .int) (cA := cs 0) (N' := 576) (a0 := (576, .inl (fun _ => 0))) hx hb (htg _ (gw_mem (i := 151) (by decide +kernel) rfl)) hK hS 0 rfl rfl (by decide) (by decide) (show 576 * 4 ≤ 536870912 by decide) (Nat.le_of_ble_eq_true rfl) (Nat.le_of_ble_eq_true rfl) d_Nm_init_41 (fun H hat hz ho hS => ?_)
  rw [← ha4] at hat hz ho
  rw [← ha4]
  have hO30 : va_at D vwCl (a4, .inl (cs 0, (576, .inl (fun _ => 0)))) H := hat
  replace h1 := hx_keep h1 (ho _ (by omega))
  replace hO6 := hx_keep hO6 (ho _ (by omega))
  replace hO17 := hx_keep hO17 (ho _ (by omega))
  replace hO29 := hx_keep hO29 (ho _ (by omega))
  replace hO7 := hx_keep hO7 (ho _ (by omega))
  refine hx_putF (ref := "NameMerges") (ty := .array (.int)) (v := .ref a4) hx hb htg iNm tNm tNm_ok nNm hown hK h1 hS jA_in1 rfl 3 (by decide) (htg _ (gw_mem (i := 129) (by decide +kernel) rfl)) (fun _ h9 => h9) rfl hin rfl (by decide +kernel) rfl rfl (Nat.le_of_ble_eq_true rfl) d_Nm_init_43 (fun H locs hat hz ho hS => ?_)
  replace h1 : va_at D vwCl (x, .inr (1, [.ref a1, .ref a2, .ref a3, .ref a4, .null, .int 0, .int 0, .null])) H := hat
  replace hO6 := hx_keep hO6 (ho _ (show a1 ≠ x by omega))
  replace hO17 := hx_keep hO17 (ho _ (show a2 ≠ x by omega))
  replace hO29 := hx_keep hO29 (ho _ (show a3 ≠ x by omega))
  replace hO7 := hx_keep hO7 (ho _ (show nq3 ≠ x by omega))
  replace hO30 := hx_keep hO30 (ho _ (show a4 ≠ x by omega))
  refine lv_aload_n hx hb d_Nm_init_46 rfl (lv_at hl 0 rfl) ?_
  refine lv_sipush (v := 276) hx hb d_Nm_init_47 (by decide) ?_
  obtain ⟨a5, ha5⟩ : ∃ z : Nat, z = H.size := ⟨_, rfl⟩
  have hlt_q37 : x < a5 := ha5 ▸ hx_lt h1
  have hlt_q38 : a1 < a5 := ha5 ▸ hx_lt hO6
  have hlt_q39 : a2 < a5 := ha5 ▸ hx_lt hO17
  have hlt_q40 : a3 < a5 := ha5 ▸ hx_lt hO29
  have hlt_q41 : nq3 < a5 := ha5 ▸ hx_lt hO7
  have hlt_q42 : a4 < a5 := ha5 ▸ hx_lt hO30
  refine hx_newa (atype := .int) (cA := cs 0) (N' := 276) (a0 := (276, .inl (fun _ => 0))) hx hb (htg _ (gw_mem (i := 151) (by decide +kernel) rfl)) hK hS 0 rfl rfl (by decide) (by decide) (show 276 * 4 ≤ 536870912 by decide) (Nat.le_of_ble_eq_true rfl) (Nat.le_of_ble_eq_true rfl) d_Nm_init_50 (fun H hat hz ho hS => ?_)
  rw [← ha5] at hat hz ho
  rw [← ha5]
  have hO36 : va_at D vwCl (a5, .inl (cs 0, (276, .inl (fun _ => 0)))) H := hat
  replace h1 := hx_keep h1 (ho _ (by omega))
  replace hO6 := hx_keep hO6 (ho _ (by omega))
  replace hO17 := hx_keep hO17 (ho _ (by omega))
  replace hO29 := hx_keep hO29 (ho _ (by omega))
  replace hO7 := hx_keep hO7 (ho _ (by omega))
  replace hO30 := hx_keep hO30 (ho _ (by omega))
  refine hx_putF (ref := "NameMerges") (ty := .array (.int)) (v := .ref a5) hx hb htg iNm tNm tNm_ok nNm hown hK h1 hS jA_in1 rfl 4 (by decide) (htg _ (gw_mem (i := 130) (by decide +kernel) rfl)) (fun _ h9 => h9) rfl hin rfl (by decide +kernel) rfl rfl (Nat.le_of_ble_eq_true rfl) d_Nm_init_52 (fun H locs hat hz ho hS => ?_)
  replace h1 : va_at D vwCl (x, .inr (1, [.ref a1, .ref a2, .ref a3, .ref a4, .ref a5, .int 0, .int 0, .null])) H := hat
  replace hO6 := hx_keep hO6 (ho _ (show a1 ≠ x by omega))
  replace hO17 := hx_keep hO17 (ho _ (show a2 ≠ x by omega))
  replace hO29 := hx_keep hO29 (ho _ (show a3 ≠ x by omega))
  replace hO7 := hx_keep hO7 (ho _ (show nq3 ≠ x by omega))
  replace hO30 := hx_keep hO30 (ho _ (show a4 ≠ x by omega))
  replace hO36 := hx_keep hO36 (ho _ (show a5 ≠ x by omega))
  refine lv_aload_n hx hb d_Nm_init_55 rfl (lv_at hl 0 rfl) ?_
  refine lv_iconst (v := 0) hx hb d_Nm_init_56 (by decide) ?_
  refine hx_put (ref := "NameMerges") (ty := .int) (v := .int 0) hx hb htg iNm tNm tNm_ok nNm hown hK h1 hS jA_in1 rfl 5 (by decide) (htg _ (gw_mem (i := 131) (by decide +kernel) rfl)) (fun _ h9 => h9) rfl (by decide +kernel) rfl rfl (Nat.le_of_ble_eq_true rfl) d_Nm_init_57 (fun H locs hat hz ho hS => ?_)
  replace h1 : va_at D vwCl (x, .inr (1, [.ref a1, .ref a2, .ref a3, .ref a4, .ref a5, .int 0, .int 0, .null])) H := hat
  replace hO6 := hx_keep hO6 (ho _ (show a1 ≠ x by omega))
  replace hO17 := hx_keep hO17 (ho _ (show a2 ≠ x by omega))
  replace hO29 := hx_keep hO29 (ho _ (show a3 ≠ x by omega))
  replace hO7 := hx_keep hO7 (ho _ (show nq3 ≠ x by omega))
  replace hO30 := hx_keep hO30 (ho _ (show a4 ≠ x by omega))
  replace hO36 := hx_keep hO36 (ho _ (show a5 ≠ x by omega))
  refine lv_aload_n hx hb d_Nm_init_60 rfl (lv_at hl 0 rfl) ?_
  refine lv_iconst (v := 0) hx hb d_Nm_init_61 (by decide) ?_
  refine hx_put (ref := "NameMerges") (ty := .int) (v := .int 0) hx hb htg iNm tNm tNm_ok nNm hown hK h1 hS jA_in1 rfl 6 (by decide) (htg _ (gw_mem (i := 132) (by decide +kernel) rfl)) (fun _ h9 => h9) rfl (by decide +kernel) rfl rfl (Nat.le_of_ble_eq_true rfl) d_Nm_init_62 (fun H locs hat hz ho hS => ?_)
  replace h1 : va_at D vwCl (x, .inr (1, [.ref a1, .ref a2, .ref a3, .ref a4, .ref a5, .int 0, .int 0, .null])) H := hat
  replace hO6 := hx_keep hO6 (ho _ (show a1 ≠ x by omega))
  replace hO17 := hx_keep hO17 (ho _ (show a2 ≠ x by omega))
  replace hO29 := hx_keep hO29 (ho _ (show a3 ≠ x by omega))
  replace hO7 := hx_keep hO7 (ho _ (show nq3 ≠ x by omega))
  replace hO30 := hx_keep hO30 (ho _ (show a4 ≠ x by omega))
  replace hO36 := hx_keep hO36 (ho _ (show a5 ≠ x by omega))
  refine lv_aload_n hx hb d_Nm_init_65 rfl (lv_at hl 0 rfl) ?_
  refine lv_bipush (v := 13) hx hb d_Nm_init_66 (by decide) ?_
  obtain ⟨a6, ha6⟩ : ∃ z : Nat, z = H.size := ⟨_, rfl⟩
  have hlt_q44 : x < a6 := ha6 ▸ hx_lt h1
  have hlt_q45 : a1 < a6 := ha6 ▸ hx_lt hO6
  have hlt_q46 : a2 < a6 := ha6 ▸ hx_lt hO17
  have hlt_q47 : a3 < a6 := ha6 ▸ hx_lt hO29
  have hlt_q48 : nq3 < a6 := ha6 ▸ hx_lt hO7
  have hlt_q49 : a4 < a6 := ha6 ▸ hx_lt hO30
  have hlt_q50 : a5 < a6 := ha6 ▸ hx_lt hO36
  refine hx_newa (atype := .int) (cA := cs 0) (N' := 13) (a0 := (13, .inl (fun _ => 0))) hx hb (htg _ (gw_mem (i := 151) (by decide +kernel) rfl)) hK hS 0 rfl rfl (by decide) (by decide) (show 13 * 4 ≤ 536870912 by decide) (Nat.le_of_ble_eq_true rfl) (Nat.le_of_ble_eq_true rfl) d_Nm_init_68 (fun H hat hz ho hS => ?_)
  rw [← ha6] at hat hz ho
  rw [← ha6]
  have hO43 : va_at D vwCl (a6, .inl (cs 0, (13, .inl (fun _ => 0)))) H := hat
  replace h1 := hx_keep h1 (ho _ (by omega))
  replace hO6 := hx_keep hO6 (ho _ (by omega))
  replace hO17 := hx_keep hO17 (ho _ (by omega))
  replace hO29 := hx_keep hO29 (ho _ (by omega))
  replace hO7 := hx_keep hO7 (ho _ (by omega))
  replace hO30 := hx_keep hO30 (ho _ (by omega))
  replace hO36 := hx_keep hO36 (ho _ (by omega))
  refine hx_putF (ref := "NameMerges") (ty := .array (.int)) (v := .ref a6) hx hb htg iNm tNm tNm_ok nNm hown hK h1 hS jA_in1 rfl 7 (by decide) (htg _ (gw_mem (i := 133) (by decide +kernel) rfl)) (fun _ h9 => h9) rfl hin rfl (by decide +kernel) rfl rfl (Nat.le_of_ble_eq_true rfl) d_Nm_init_70 (fun H locs hat hz ho hS => ?_)
  replace h1 : va_at D vwCl (x, .inr (1, [.ref a1, .ref a2, .ref a3, .ref a4, .ref a5, .int 0, .int 0, .ref a6])) H := hat
  replace hO6 := hx_keep hO6 (ho _ (show a1 ≠ x by omega))
  replace hO17 := hx_keep hO17 (ho _ (show a2 ≠ x by omega))
  replace hO29 := hx_keep hO29 (ho _ (show a3 ≠ x by omega))
  replace hO7 := hx_keep hO7 (ho _ (show nq3 ≠ x by omega))
  replace hO30 := hx_keep hO30 (ho _ (show a4 ≠ x by omega))
  replace hO36 := hx_keep hO36 (ho _ (show a5 ≠ x by omega))
  replace hO43 := hx_keep hO43 (ho _ (show a6 ≠ x by omega))
  exact W.vret hx hb hr (fun t ht hW => ⟨⟨H, rfl, ⟨a1, nq3, a2, a3, a4, a5, a6, by omega, by omega, by omega, by omega, by omega, by omega, by omega, h1, hO6, hO7, hO17, hO29, hO30, hO36, hO43⟩, ht⟩, hS.F ht⟩) hS.2.2 d_Nm_init_73
