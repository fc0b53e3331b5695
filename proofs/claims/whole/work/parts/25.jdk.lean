def y_ASB_init : MethodName := ⟨"java/lang/AbstractStringBuilder", "<init>", "(I)V"⟩
abbrev w_ASB_init : List Cond := Cond.code y_ASB_init prog_9_method_2_code 2 (Option.none : Option Jvm.ClassFile.FieldType) :: gw
theorem d_ASB_init_0 : decode prog_9_method_2_code 0 = .ok (.aload_n 0, 1) := by decide +kernel
theorem d_ASB_init_1 : decode prog_9_method_2_code 1 = .ok (.invokespecial 3, 3) := by decide +kernel
theorem d_ASB_init_4 : decode prog_9_method_2_code 4 = .ok (.getstatic 18, 3) := by decide +kernel
theorem d_ASB_init_7 : decode prog_9_method_2_code 7 = .ok (.ifCond .eq 18, 3) := by decide +kernel
theorem d_ASB_init_10 : decode prog_9_method_2_code 10 = .ok (.aload_n 0, 1) := by decide +kernel
theorem d_ASB_init_11 : decode prog_9_method_2_code 11 = .ok (.iload_n 1, 1) := by decide +kernel
theorem d_ASB_init_12 : decode prog_9_method_2_code 12 = .ok (.newarray .byte, 2) := by decide +kernel
theorem d_ASB_init_14 : decode prog_9_method_2_code 14 = .ok (.putfield 15, 3) := by decide +kernel
theorem d_ASB_init_17 : decode prog_9_method_2_code 17 = .ok (.aload_n 0, 1) := by decide +kernel
theorem d_ASB_init_18 : decode prog_9_method_2_code 18 = .ok (.iconst 0, 1) := by decide +kernel
theorem d_ASB_init_19 : decode prog_9_method_2_code 19 = .ok (.putfield 22, 3) := by decide +kernel
theorem d_ASB_init_22 : decode prog_9_method_2_code 22 = .ok (.goto 16, 3) := by decide +kernel
theorem d_ASB_init_38 : decode prog_9_method_2_code 38 = .ok (.return_, 1) := by decide +kernel
set_option maxHeartbeats 4000000 in
set_option maxRecDepth 100000 in
theorem c_ASB_init (l : Launch) (D : va_G) (cs : Nat → ClassId) (N0 : Nat) (H : Heap) (x N : Nat) (h1 : va_at D vwCl (x, .inr (7, [.null, .int 0, .int 0, .int 0])) H) (hN : N = H.size) (hx0 : N0 ≤ x) : Met l y_ASB_init w_ASB_init ({ frames := 1, cells := 1, slots := 16, locals := 12 }) (hPre D cs N0 [.ref x, .int 16] H) (hQv (fun H' => va_at D vwCl (x, .inr (7, [.ref N, .int 0, .int 0, .int 0])) H' ∧ va_at D vwCl (N, .inl (cs 2, (16, .inl (fun _ => 0)))) H') (jA [x] N)) 1 16 (jA [x] N) := by
  refine Met.ofW (cc := prog_9_method_2_code) (maxL := 2) (ret := (Option.none : Option Jvm.ClassFile.FieldType)) (by decide) rfl ?_
  intro p e s m args below meth c s₁ B hml hv
  obtain ⟨rfl, rfl, hB⟩ := hv
  have hx := B.exec
  have hb := B.bytes
  have hr := B.returns
  have hts := atoms_spec (ws := w_ASB_init) B.pre
  have htg : ∀ w ∈ gw, w.before _ s = true := fun w h => hts w (List.mem_cons_of_mem _ h)
  have hown : s.vm.findClass "java/lang/AbstractStringBuilder" = some m.cls := findClass_of_methodNamed B.named
  have hlocks := B.notSynchronized
  have hin : meth.name = "<init>" := (name_of_methodNamed B.named B.method).1
  have hAN : ∀ q, (jA [x] N) q → N0 ≤ q := jA_sub1 hx0 (fun q9 h9 => Nat.le_trans hB.2.1 (hN ▸ h9))
  have hK := hB.1
  obtain ⟨H, hH⟩ : ∃ z : Heap, z = s.heap := ⟨_, rfl⟩
  have hz0 : H.size = s.heap.size := by rw [hH]
  have hN0 := hB.2.1
  rw [← hH] at h1
  have hS : va_S (jA [x] N) s.heap H [] := by rw [hH]; exact va_S.rf
  have hl := lv_entry ([.ref x, .int 16]) (n := 2) (Nat.le_of_ble_eq_true rfl)
  rw [lg_entry_eq, ← hH]
  generalize (lg_sl ([.ref x, .int 16]) ++ List.replicate (2 - (lg_sl ([.ref x, .int 16])).length) Slot.unset).toArray = ls at hl ⊢
  have hl : lv_has ls 2 [(0, .ref x), (1, .int 16)] := hl
  refine lv_aload_n hx hb d_ASB_init_0 rfl (lv_at hl 0 rfl) ?_
  refine W.objInit hx hb hown (htg _ (gw_mem (i := 75) (by decide +kernel) rfl)) (htg _ (gw_mem (i := 65) (by decide +kernel) rfl)) (htg _ (gw_mem (i := 66) (by decide +kernel) rfl)) rfl (by rw [hml]; exact hl.1) rfl d_ASB_init_1 (Nat.le_of_ble_eq_true rfl) (Nat.le_of_ble_eq_true rfl) ?_
  refine W.eq (g2 := F0 m 4 ls []) rfl ?_
  refine va_gets (v := .int 1) hx hb (va_Z.narrow hB.2.2.2.2.2.1 hAN) hS hown (htg _ (gw_mem (i := 76) (by decide +kernel) rfl)) (fun _ h9 => h9) d_ASB_init_4 ?_
  refine lv_if_eq (x := 1) (tgt := 25) hx hb d_ASB_init_7 (by decide) (fun c7 => ?_) (fun c7 => ?_)
  · exact absurd c7 (by decide)
  · skip
    refine lv_aload_n hx hb d_ASB_init_10 rfl (lv_at hl 0 rfl) ?_
    refine lv_iload_n hx hb d_ASB_init_11 rfl (lv_at hl 1 rfl) ?_
    obtain ⟨va, hva⟩ : ∃ z : Nat, z = H.size := ⟨_, rfl⟩
    have hlt_q2 : x < va := hva ▸ hx_lt h1
    refine hx_newa (atype := .byte) (cA := cs 2) (N' := 16) (a0 := (16, .inl (fun _ => 0))) hx hb (htg _ (gw_mem (i := 99) (by decide +kernel) rfl)) hK hS 2 rfl rfl (by decide) (by decide) (show 16 * 1 ≤ 536870912 by decide) (Nat.le_of_ble_eq_true rfl) (Nat.le_of_ble_eq_true rfl) d_ASB_init_12 (fun H hat hz ho hS => ?_)
    rw [← hva] at hat hz ho
    rw [← hva]
    have hO1 : va_at D vwCl (va, .inl (cs 2, (16, .inl (fun _ => 0)))) H := hat
    replace h1 := hx_keep h1 (ho _ (by omega))
    refine hx_put (ref := "java/lang/AbstractStringBuilder") (ty := .array (.byte)) (v := .ref va) hx hb htg iSB tSB tSB_ok nSB hown hK h1 hS jA_in1 rfl 0 (by decide) (htg _ (gw_mem (i := 85) (by decide +kernel) rfl)) (fun _ h9 => h9) rfl (by decide +kernel) rfl rfl (Nat.le_of_ble_eq_true rfl) d_ASB_init_14 (fun H locs hat hz ho hS => ?_)
    replace h1 : va_at D vwCl (x, .inr (7, [.ref va, .int 0, .int 0, .int 0])) H := hat
    replace hO1 := hx_keep hO1 (ho _ (show va ≠ x by omega))
    refine lv_aload_n hx hb d_ASB_init_17 rfl (lv_at hl 0 rfl) ?_
    refine lv_iconst (v := 0) hx hb d_ASB_init_18 (by decide) ?_
    refine hx_put (ref := "java/lang/AbstractStringBuilder") (ty := .byte) (v := .int 0) hx hb htg iSB tSB tSB_ok nSB hown hK h1 hS jA_in1 rfl 1 (by decide) (htg _ (gw_mem (i := 86) (by decide +kernel) rfl)) (fun _ h9 => h9) rfl (by decide +kernel) rfl rfl (Nat.le_of_ble_eq_true rfl) d_ASB_init_19 (fun H locs hat hz ho hS => ?_)
    replace h1 : va_at D vwCl (x, .inr (7, [.ref va, .int 0, .int 0, .int 0])) H := hat
    replace hO1 := hx_keep hO1 (ho _ (show va ≠ x by omega))
    refine lv_goto (tgt := 38) hx hb d_ASB_init_22 (by decide) ?_
    exact W.vret hx hb hr (fun t ht hW => ⟨⟨H, rfl, ⟨(show va = N by omega) ▸ h1, (show va = N by omega) ▸ hO1⟩, ht⟩, hS.F ht⟩) hS.2.2 d_ASB_init_38
def y_SB_init : MethodName := ⟨"java/lang/StringBuilder", "<init>", "()V"⟩
abbrev w_SB_init : List Cond := Cond.code y_SB_init prog_21_method_1_code 1 (Option.none : Option Jvm.ClassFile.FieldType) :: gw
theorem d_SB_init_0 : decode prog_21_method_1_code 0 = .ok (.aload_n 0, 1) := by decide +kernel
theorem d_SB_init_1 : decode prog_21_method_1_code 1 = .ok (.bipush 16, 2) := by decide +kernel
theorem d_SB_init_3 : decode prog_21_method_1_code 3 = .ok (.invokespecial 1, 3) := by decide +kernel
theorem d_SB_init_6 : decode prog_21_method_1_code 6 = .ok (.return_, 1) := by decide +kernel
set_option maxHeartbeats 4000000 in
set_option maxRecDepth 100000 in
theorem c_SB_init (l : Launch) (D : va_G) (cs : Nat → ClassId) (N0 : Nat) (H : Heap) (x N : Nat) (h1 : va_at D vwCl (x, .inr (7, [.null, .int 0, .int 0, .int 0])) H) (hN : N = H.size) (hx0 : N0 ≤ x) : Met l y_SB_init w_SB_init ({ frames := 2, cells := 1, slots := 16, locals := 33 }) (hPre D cs N0 [.ref x] H) (hQv (fun H' => va_at D vwCl (x, .inr (7, [.ref N, .int 0, .int 0, .int 0])) H' ∧ va_at D vwCl (N, .inl (cs 2, (16, .inl (fun _ => 0)))) H') (jA [x] N)) 1 16 (jA [x] N) := by
  refine Met.ofW (cc := prog_21_method_1_code) (maxL := 1) (ret := (Option.none : Option Jvm.ClassFile.FieldType)) (by decide) rfl ?_
  intro p e s m args below meth c s₁ B hml hv
  obtain ⟨rfl, rfl, hB⟩ := hv
  have hx := B.exec
  have hb := B.bytes
  have hr := B.returns
  have hts := atoms_spec (ws := w_SB_init) B.pre
  have htg : ∀ w ∈ gw, w.before _ s = true := fun w h => hts w (List.mem_cons_of_mem _ h)
  have hown : s.vm.findClass "java/lang/StringBuilder" = some m.cls := findClass_of_methodNamed B.named
  have hlocks := B.notSynchronized
  have hin : meth.name = "<init>" := (name_of_methodNamed B.named B.method).1
  have hAN : ∀ q, (jA [x] N) q → N0 ≤ q := jA_sub1 hx0 (fun q9 h9 => Nat.le_trans hB.2.1 (hN ▸ h9))
  have hK := hB.1
  obtain ⟨H, hH⟩ : ∃ z : Heap, z = s.heap := ⟨_, rfl⟩
  have hz0 : H.size = s.heap.size := by rw [hH]
  have hN0 := hB.2.1
  rw [← hH] at h1
  have hS : va_S (jA [x] N) s.heap H [] := by rw [hH]; exact va_S.rf
  have hl := lv_entry ([.ref x]) (n := 1) (Nat.le_of_ble_eq_true rfl)
  rw [lg_entry_eq, ← hH]
  generalize (lg_sl ([.ref x]) ++ List.replicate (1 - (lg_sl ([.ref x])).length) Slot.unset).toArray = ls at hl ⊢
  have hl : lv_has ls 1 [(0, .ref x)] := hl
  refine lv_aload_n hx hb d_SB_init_0 rfl (lv_at hl 0 rfl) ?_
  refine lv_bipush (v := 16) hx hb d_SB_init_1 (by decide) ?_
  obtain ⟨nq1, hnq1⟩ : ∃ z : Nat, z = H.size := ⟨_, rfl⟩
  have hlt_q2 := hx_lt h1
  refine h_callv (va_runI (As := [.int 16]) (rest := []) ⟨hx, hb, hml, hown, htg⟩ (c_ASB_init l D cs N0 H x nq1 h1 hnq1 (by omega)) ⟨x_cwB 1 htg (gw_mem (i := 74) (by decide +kernel) rfl) (gw_mem (i := 31) (by decide +kernel) rfl) (gw_mem (i := 72) (by decide +kernel) rfl) (by decide +kernel) ⟨Nat.le_of_ble_eq_true rfl, Nat.le_of_ble_eq_true rfl⟩, rfl, htg _ (gw_mem (i := 73) (by decide +kernel) rfl)⟩ ⟨hPre.blind, hPre.at hB hS hAN⟩ rfl rfl hl.1 rfl (lv_room (Nat.le_of_ble_eq_true rfl)) d_SB_init_3 ⟨Nat.le_of_ble_eq_true rfl, Nat.le_of_ble_eq_true rfl⟩) hS (jA_sub1 jA_in1 (fun q9 h9 => Or.inr (show N ≤ q9 by omega))) (fun H locs hp hz hk hS => ?_)
  obtain ⟨hO3, hO4⟩ := hp
  exact W.vret hx hb hr (fun t ht hW => ⟨⟨H, rfl, (show nq1 = N by omega) ▸ ⟨hO3, hO4⟩, ht⟩, hS.F ht⟩) hS.2.2 d_SB_init_6
def y_ASB_length : MethodName := ⟨"java/lang/AbstractStringBuilder", "length", "()I"⟩
abbrev w_ASB_length : List Cond := Cond.code y_ASB_length prog_9_method_6_code 1 (Option.some Jvm.ClassFile.FieldType.int) :: gw
theorem d_ASB_length_0 : decode prog_9_method_6_code 0 = .ok (.aload_n 0, 1) := by decide +kernel
theorem d_ASB_length_1 : decode prog_9_method_6_code 1 = .ok (.getfield 79, 3) := by decide +kernel
theorem d_ASB_length_4 : decode prog_9_method_6_code 4 = .ok (.ireturn, 1) := by decide +kernel
set_option maxHeartbeats 4000000 in
set_option maxRecDepth 100000 in
theorem c_ASB_length (l : Launch) (D : va_G) (cs : Nat → ClassId) (N0 : Nat) (H : Heap) (x va n : Nat) (ml : Int32) (h1 : va_at D vwCl (x, .inr (7, [.ref va, .int 0, .int ml, .int (nI n)])) H) : Met l y_ASB_length w_ASB_length ({ frames := 0, cells := 0, slots := 0, locals := 0 }) (hPre D cs N0 [.ref x] H) (hQi (fun r H' => H' = H ∧ r = nI n) noA) 0 0 noA := by
  refine Met.ofW (cc := prog_9_method_6_code) (maxL := 1) (ret := (Option.some Jvm.ClassFile.FieldType.int)) (by decide) rfl ?_
  intro p e s m args below meth c s₁ B hml hv
  obtain ⟨rfl, rfl, hB⟩ := hv
  have hx := B.exec
  have hb := B.bytes
  have hr := B.returns
  have hts := atoms_spec (ws := w_ASB_length) B.pre
  have htg : ∀ w ∈ gw, w.before _ s = true := fun w h => hts w (List.mem_cons_of_mem _ h)
  have hown : s.vm.findClass "java/lang/AbstractStringBuilder" = some m.cls := findClass_of_methodNamed B.named
  have hlocks := B.notSynchronized
  have hK := hB.1
  obtain ⟨H, hH⟩ : ∃ z : Heap, z = s.heap := ⟨_, rfl⟩
  have hz0 : H.size = s.heap.size := by rw [hH]
  have hN0 := hB.2.1
  rw [← hH] at h1
  have hS : va_S noA s.heap H [] := by rw [hH]; exact va_S.rf
  have hl := lv_entry ([.ref x]) (n := 1) (Nat.le_of_ble_eq_true rfl)
  rw [lg_entry_eq, ← hH]
  generalize (lg_sl ([.ref x]) ++ List.replicate (1 - (lg_sl ([.ref x])).length) Slot.unset).toArray = ls at hl ⊢
  have hl : lv_has ls 1 [(0, .ref x)] := hl
  refine lv_aload_n hx hb d_ASB_length_0 rfl (lv_at hl 0 rfl) ?_
  refine hx_get (ref := "java/lang/AbstractStringBuilder") (v := .int (nI n)) hx hb htg iSB hown hK h1 rfl 3 (by decide) (htg _ (gw_mem (i := 89) (by decide +kernel) rfl)) (fun _ h9 => h9) rfl d_ASB_length_1 ?_
  exact W.iret (v := (nI n)) hx hb hr (fun t ht hW => ⟨⟨(nI n), H, rfl, ⟨rfl, rfl⟩, ht⟩, hS.F ht⟩) hS.2.2 d_ASB_length_4
def y_SB_length : MethodName := ⟨"java/lang/StringBuilder", "length", "()I"⟩
abbrev w_SB_length : List Cond := Cond.code y_SB_length prog_21_method_93_code 1 (Option.some Jvm.ClassFile.FieldType.int) :: gw
theorem d_SB_length_0 : decode prog_21_method_93_code 0 = .ok (.aload_n 0, 1) := by decide +kernel
theorem d_SB_length_1 : decode prog_21_method_93_code 1 = .ok (.invokespecial 343, 3) := by decide +kernel
theorem d_SB_length_4 : decode prog_21_method_93_code 4 = .ok (.ireturn, 1) := by decide +kernel
set_option maxHeartbeats 4000000 in
set_option maxRecDepth 100000 in
theorem c_SB_length (l : Launch) (D : va_G) (cs : Nat → ClassId) (N0 : Nat) (H : Heap) (x va n : Nat) (ml : Int32) (h1 : va_at D vwCl (x, .inr (7, [.ref va, .int 0, .int ml, .int (nI n)])) H) : Met l y_SB_length w_SB_length ({ frames := 1, cells := 0, slots := 0, locals := 20 }) (hPre D cs N0 [.ref x] H) (hQi (fun r H' => H' = H ∧ r = nI n) noA) 0 0 noA := by
  refine Met.ofW (cc := prog_21_method_93_code) (maxL := 1) (ret := (Option.some Jvm.ClassFile.FieldType.int)) (by decide) rfl ?_
  intro p e s m args below meth c s₁ B hml hv
  obtain ⟨rfl, rfl, hB⟩ := hv
  have hx := B.exec
  have hb := B.bytes
  have hr := B.returns
  have hts := atoms_spec (ws := w_SB_length) B.pre
  have htg : ∀ w ∈ gw, w.before _ s = true := fun w h => hts w (List.mem_cons_of_mem _ h)
  have hown : s.vm.findClass "java/lang/StringBuilder" = some m.cls := findClass_of_methodNamed B.named
  have hlocks := B.notSynchronized
  have hK := hB.1
  obtain ⟨H, hH⟩ : ∃ z : Heap, z = s.heap := ⟨_, rfl⟩
  have hz0 : H.size = s.heap.size := by rw [hH]
  have hN0 := hB.2.1
  rw [← hH] at h1
  have hS : va_S noA s.heap H [] := by rw [hH]; exact va_S.rf
  have hl := lv_entry ([.ref x]) (n := 1) (Nat.le_of_ble_eq_true rfl)
  rw [lg_entry_eq, ← hH]
  generalize (lg_sl ([.ref x]) ++ List.replicate (1 - (lg_sl ([.ref x])).length) Slot.unset).toArray = ls at hl ⊢
  have hl : lv_has ls 1 [(0, .ref x)] := hl
  refine lv_aload_n hx hb d_SB_length_0 rfl (lv_at hl 0 rfl) ?_
  refine h_purei (va_runSU (x_at hK (ci := 7) rfl) (As := []) (rest := []) ⟨hx, hb, hml, hown, htg⟩ (c_ASB_length l D cs N0 H x va n ml h1) (va_cwSU 0 htg (gw_sub (gw_cons (gw_mem (i := 160) (by decide +kernel) rfl) (gw_cons (gw_mem (i := 1221) (by decide +kernel) rfl) (gw_cons (gw_mem (i := 98) (by decide +kernel) rfl) (gw_cons (gw_mem (i := 161) (by decide +kernel) rfl) (gw_cons (gw_mem (i := 31) (by decide +kernel) rfl) (gw_cons (gw_mem (i := 162) (by decide +kernel) rfl) (fun _ h => h)))))))) rfl rfl rfl (by decide +kernel) ⟨Nat.le_of_ble_eq_true rfl, Nat.le_of_ble_eq_true rfl⟩) ⟨hPre.blind, hx_recv hK (ci := 7) rfl h1, hPre.at hB hS noA_in⟩ rfl rfl hl.1 rfl (lv_room (Nat.le_of_ble_eq_true rfl)) d_SB_length_1 ⟨Nat.le_of_ble_eq_true rfl, Nat.le_of_ble_eq_true rfl⟩) hS (fun locs hS => ?_)
  exact W.iret (v := (nI n)) hx hb hr (fun t ht hW => ⟨⟨(nI n), H, rfl, ⟨rfl, rfl⟩, ht⟩, hS.F ht⟩) hS.2.2 d_SB_length_4
def y_ASB_isLatin1 : MethodName := ⟨"java/lang/AbstractStringBuilder", "isLatin1", "()Z"⟩
abbrev w_ASB_isLatin1 : List Cond := Cond.code y_ASB_isLatin1 prog_9_method_68_code 1 (Option.some Jvm.ClassFile.FieldType.boolean) :: gw
theorem d_ASB_isLatin1_0 : decode prog_9_method_68_code 0 = .ok (.getstatic 18, 3) := by decide +kernel
theorem d_ASB_isLatin1_3 : decode prog_9_method_68_code 3 = .ok (.ifCond .eq 14, 3) := by decide +kernel
theorem d_ASB_isLatin1_6 : decode prog_9_method_68_code 6 = .ok (.aload_n 0, 1) := by decide +kernel
theorem d_ASB_isLatin1_7 : decode prog_9_method_68_code 7 = .ok (.getfield 22, 3) := by decide +kernel
theorem d_ASB_isLatin1_10 : decode prog_9_method_68_code 10 = .ok (.ifCond .ne 7, 3) := by decide +kernel
theorem d_ASB_isLatin1_13 : decode prog_9_method_68_code 13 = .ok (.iconst 1, 1) := by decide +kernel
theorem d_ASB_isLatin1_14 : decode prog_9_method_68_code 14 = .ok (.goto 4, 3) := by decide +kernel
theorem d_ASB_isLatin1_18 : decode prog_9_method_68_code 18 = .ok (.ireturn, 1) := by decide +kernel
set_option maxHeartbeats 4000000 in
set_option maxRecDepth 100000 in
theorem c_ASB_isLatin1 (l : Launch) (D : va_G) (cs : Nat → ClassId) (N0 : Nat) (H : Heap) (x va n : Nat) (ml : Int32) (h1 : va_at D vwCl (x, .inr (7, [.ref va, .int 0, .int ml, .int (nI n)])) H) : Met l y_ASB_isLatin1 w_ASB_isLatin1 ({ frames := 0, cells := 0, slots := 0, locals := 0 }) (hPre D cs N0 [.ref x] H) (hQi (fun r H' => H' = H ∧ r = 1) noA) 0 0 noA := by
  refine Met.ofW (cc := prog_9_method_68_code) (maxL := 1) (ret := (Option.some Jvm.ClassFile.FieldType.boolean)) (by decide) rfl ?_
  intro p e s m args below meth c s₁ B hml hv
  obtain ⟨rfl, rfl, hB⟩ := hv
  have hx := B.exec
  have hb := B.bytes
  have hr := B.returns
  have hts := atoms_spec (ws := w_ASB_isLatin1) B.pre
  have htg : ∀ w ∈ gw, w.before _ s = true := fun w h => hts w (List.mem_cons_of_mem _ h)
  have hown : s.vm.findClass "java/lang/AbstractStringBuilder" = some m.cls := findClass_of_methodNamed B.named
  have hlocks := B.notSynchronized
  have hK := hB.1
  obtain ⟨H, hH⟩ : ∃ z : Heap, z = s.heap := ⟨_, rfl⟩
  have hz0 : H.size = s.heap.size := by rw [hH]
  have hN0 := hB.2.1
  rw [← hH] at h1
  have hS : va_S noA s.heap H [] := by rw [hH]; exact va_S.rf
  have hl := lv_entry ([.ref x]) (n := 1) (Nat.le_of_ble_eq_true rfl)
  rw [lg_entry_eq, ← hH]
  generalize (lg_sl ([.ref x]) ++ List.replicate (1 - (lg_sl ([.ref x])).length) Slot.unset).toArray = ls at hl ⊢
  have hl : lv_has ls 1 [(0, .ref x)] := hl
  refine va_gets (v := .int 1) hx hb (va_Z.narrow hB.2.2.2.2.2.1 noA_in) hS hown (htg _ (gw_mem (i := 76) (by decide +kernel) rfl)) (fun _ h9 => h9) d_ASB_isLatin1_0 ?_
  refine lv_if_eq (x := 1) (tgt := 17) hx hb d_ASB_isLatin1_3 (by decide) (fun c3 => ?_) (fun c3 => ?_)
  · exact absurd c3 (by decide)
  · skip
    refine lv_aload_n hx hb d_ASB_isLatin1_6 rfl (lv_at hl 0 rfl) ?_
    refine hx_get (ref := "java/lang/AbstractStringBuilder") (v := .int 0) hx hb htg iSB hown hK h1 rfl 1 (by decide) (htg _ (gw_mem (i := 86) (by decide +kernel) rfl)) (fun _ h9 => h9) rfl d_ASB_isLatin1_7 ?_
    refine lv_if_ne (x := 0) (tgt := 17) hx hb d_ASB_isLatin1_10 (by decide) (fun c10 => ?_) (fun c10 => ?_)
    · exact absurd c10 (by decide)
    · skip
      refine lv_iconst (v := 1) hx hb d_ASB_isLatin1_13 (by decide) ?_
      refine lv_goto (tgt := 18) hx hb d_ASB_isLatin1_14 (by decide) ?_
      exact W.zret (v := 1) hx hb hr (by decide) (fun t ht hW => ⟨⟨1, H, rfl, ⟨rfl, rfl⟩, ht⟩, hS.F ht⟩) hS.2.2 d_ASB_isLatin1_18
def y_ASB_getValue : MethodName := ⟨"java/lang/AbstractStringBuilder", "getValue", "()[B"⟩
abbrev w_ASB_getValue : List Cond := Cond.code y_ASB_getValue prog_9_method_64_code 1 (Option.some (Jvm.ClassFile.FieldType.array Jvm.ClassFile.FieldType.byte)) :: gw
theorem d_ASB_getValue_0 : decode prog_9_method_64_code 0 = .ok (.aload_n 0, 1) := by decide +kernel
theorem d_ASB_getValue_1 : decode prog_9_method_64_code 1 = .ok (.getfield 15, 3) := by decide +kernel
theorem d_ASB_getValue_4 : decode prog_9_method_64_code 4 = .ok (.areturn, 1) := by decide +kernel
set_option maxHeartbeats 4000000 in
set_option maxRecDepth 100000 in
theorem c_ASB_getValue (l : Launch) (D : va_G) (cs : Nat → ClassId) (N0 : Nat) (H : Heap) (x va n : Nat) (ml : Int32) (h1 : va_at D vwCl (x, .inr (7, [.ref va, .int 0, .int ml, .int (nI n)])) H) : Met l y_ASB_getValue w_ASB_getValue ({ frames := 0, cells := 0, slots := 0, locals := 0 }) (hPre D cs N0 [.ref x] H) (hQq (fun r H' => H' = H ∧ r = some va) noA) 0 0 noA := by
  refine Met.ofW (cc := prog_9_method_64_code) (maxL := 1) (ret := (Option.some (Jvm.ClassFile.FieldType.array Jvm.ClassFile.FieldType.byte))) (by decide) rfl ?_
  intro p e s m args below meth c s₁ B hml hv
  obtain ⟨rfl, rfl, hB⟩ := hv
  have hx := B.exec
  have hb := B.bytes
  have hr := B.returns
  have hts := atoms_spec (ws := w_ASB_getValue) B.pre
  have htg : ∀ w ∈ gw, w.before _ s = true := fun w h => hts w (List.mem_cons_of_mem _ h)
  have hown : s.vm.findClass "java/lang/AbstractStringBuilder" = some m.cls := findClass_of_methodNamed B.named
  have hlocks := B.notSynchronized
  have hK := hB.1
  obtain ⟨H, hH⟩ : ∃ z : Heap, z = s.heap := ⟨_, rfl⟩
  have hz0 : H.size = s.heap.size := by rw [hH]
  have hN0 := hB.2.1
  rw [← hH] at h1
  have hS : va_S noA s.heap H [] := by rw [hH]; exact va_S.rf
  have hl := lv_entry ([.ref x]) (n := 1) (Nat.le_of_ble_eq_true rfl)
  rw [lg_entry_eq, ← hH]
  generalize (lg_sl ([.ref x]) ++ List.replicate (1 - (lg_sl ([.ref x])).length) Slot.unset).toArray = ls at hl ⊢
  have hl : lv_has ls 1 [(0, .ref x)] := hl
  refine lv_aload_n hx hb d_ASB_getValue_0 rfl (lv_at hl 0 rfl) ?_
  refine hx_get (ref := "java/lang/AbstractStringBuilder") (v := .ref va) hx hb htg iSB hown hK h1 rfl 0 (by decide) (htg _ (gw_mem (i := 85) (by decide +kernel) rfl)) (fun _ h9 => h9) rfl d_ASB_getValue_1 ?_
  exact W.aret (v := .ref va) hx hb hr (Or.inr ⟨_, rfl⟩) (Or.inr ⟨_, rfl⟩) (fun t ht hW => ⟨⟨some va, H, rfl, ⟨rfl, rfl⟩, ht⟩, hS.F ht⟩) hS.2.2 d_ASB_getValue_4
def y_ASB_ensure : MethodName := ⟨"java/lang/AbstractStringBuilder", "ensureCapacityInternal", "(I)V"⟩
abbrev w_ASB_ensure : List Cond := Cond.code y_ASB_ensure prog_9_method_9_code 3 (Option.none : Option Jvm.ClassFile.FieldType) :: gw
theorem d_ASB_ensure_0 : decode prog_9_method_9_code 0 = .ok (.aload_n 0, 1) := by decide +kernel
theorem d_ASB_ensure_1 : decode prog_9_method_9_code 1 = .ok (.getfield 15, 3) := by decide +kernel
theorem d_ASB_ensure_4 : decode prog_9_method_9_code 4 = .ok (.arraylength, 1) := by decide +kernel
theorem d_ASB_ensure_5 : decode prog_9_method_9_code 5 = .ok (.aload_n 0, 1) := by decide +kernel
theorem d_ASB_ensure_6 : decode prog_9_method_9_code 6 = .ok (.getfield 22, 3) := by decide +kernel
theorem d_ASB_ensure_9 : decode prog_9_method_9_code 9 = .ok (.ishr, 1) := by decide +kernel
theorem d_ASB_ensure_10 : decode prog_9_method_9_code 10 = .ok (.istore_n 2, 1) := by decide +kernel
theorem d_ASB_ensure_11 : decode prog_9_method_9_code 11 = .ok (.iload_n 1, 1) := by decide +kernel
theorem d_ASB_ensure_12 : decode prog_9_method_9_code 12 = .ok (.iload_n 2, 1) := by decide +kernel
theorem d_ASB_ensure_13 : decode prog_9_method_9_code 13 = .ok (.isub, 1) := by decide +kernel
theorem d_ASB_ensure_14 : decode prog_9_method_9_code 14 = .ok (.ifCond .le 24, 3) := by decide +kernel
theorem d_ASB_ensure_38 : decode prog_9_method_9_code 38 = .ok (.return_, 1) := by decide +kernel
set_option maxHeartbeats 4000000 in
set_option maxRecDepth 100000 in
theorem c_ASB_ensure (l : Launch) (D : va_G) (cs : Nat → ClassId) (N0 : Nat) (H : Heap) (x va n j : Nat) (ml : Int32) (f : Nat → Int32) (h1 : va_at D vwCl (x, .inr (7, [.ref va, .int 0, .int ml, .int (nI n)])) H) (h2 : va_at D vwCl (va, .inl (cs 2, (16, .inl f))) H) (hj : j < 17) : Met l y_ASB_ensure w_ASB_ensure ({ frames := 0, cells := 0, slots := 0, locals := 0 }) (hPre D cs N0 [.ref x, .int (nI j)] H) (hQv (fun H' => H' = H) noA) 0 0 noA := by
  refine Met.ofW (cc := prog_9_method_9_code) (maxL := 3) (ret := (Option.none : Option Jvm.ClassFile.FieldType)) (by decide) rfl ?_
  intro p e s m args below meth c s₁ B hml hv
  obtain ⟨rfl, rfl, hB⟩ := hv
  have hx := B.exec
  have hb := B.bytes
  have hr := B.returns
  have hts := atoms_spec (ws := w_ASB_ensure) B.pre
  have htg : ∀ w ∈ gw, w.before _ s = true := fun w h => hts w (List.mem_cons_of_mem _ h)
  have hown : s.vm.findClass "java/lang/AbstractStringBuilder" = some m.cls := findClass_of_methodNamed B.named
  have hlocks := B.notSynchronized
  have hK := hB.1
  obtain ⟨H, hH⟩ : ∃ z : Heap, z = s.heap := ⟨_, rfl⟩
  have hz0 : H.size = s.heap.size := by rw [hH]
  have hN0 := hB.2.1
  rw [← hH] at h1 h2
  have hS : va_S noA s.heap H [] := by rw [hH]; exact va_S.rf
  have hl := lv_entry ([.ref x, .int (nI j)]) (n := 3) (Nat.le_of_ble_eq_true rfl)
  rw [lg_entry_eq, ← hH]
  generalize (lg_sl ([.ref x, .int (nI j)]) ++ List.replicate (3 - (lg_sl ([.ref x, .int (nI j)])).length) Slot.unset).toArray = ls at hl ⊢
  have hl : lv_has ls 3 [(0, .ref x), (1, .int (nI j))] := hl
  refine lv_aload_n hx hb d_ASB_ensure_0 rfl (lv_at hl 0 rfl) ?_
  refine hx_get (ref := "java/lang/AbstractStringBuilder") (v := .ref va) hx hb htg iSB hown hK h1 rfl 0 (by decide) (htg _ (gw_mem (i := 85) (by decide +kernel) rfl)) (fun _ h9 => h9) rfl d_ASB_ensure_1 ?_
  refine hx_alen (v := 16) hx hb hK 2 h2 rfl rfl d_ASB_ensure_4 ?_
  refine lv_aload_n hx hb d_ASB_ensure_5 rfl (lv_at hl 0 rfl) ?_
  refine hx_get (ref := "java/lang/AbstractStringBuilder") (v := .int 0) hx hb htg iSB hown hK h1 rfl 1 (by decide) (htg _ (gw_mem (i := 86) (by decide +kernel) rfl)) (fun _ h9 => h9) rfl d_ASB_ensure_6 ?_
  refine lv_ishr (x := 16) (y := 0) hx hb d_ASB_ensure_9 ?_
  refine lv_eqi (y := 16) (by decide) ?_
  refine lv_istore_n (lv' := [(2, .int 16), (0, .ref x), (1, .int (nI j))]) hx hb d_ASB_ensure_10 rfl hl (by decide) rfl (fun ls hl => ?_)
  refine lv_iload_n hx hb d_ASB_ensure_11 rfl (lv_at hl 2 rfl) ?_
  refine lv_iload_n hx hb d_ASB_ensure_12 rfl (lv_at hl 0 rfl) ?_
  refine lv_isub (x := (nI j)) (y := 16) hx hb d_ASB_ensure_13 ?_
  refine lv_if_le (x := ((nI j) - 16)) (tgt := 38) hx hb d_ASB_ensure_14 (by decide) (fun c14 => ?_) (fun c14 => ?_)
  · skip
    exact W.vret hx hb hr (fun t ht hW => ⟨⟨H, rfl, rfl, ht⟩, hS.F ht⟩) hS.2.2 d_ASB_ensure_38
  · skip
    exact absurd (x_sub16 j (by omega)) c14
def y_ASB_setLength : MethodName := ⟨"java/lang/AbstractStringBuilder", "setLength", "(I)V"⟩
abbrev w_ASB_setLength : List Cond := Cond.code y_ASB_setLength prog_9_method_13_code 2 (Option.none : Option Jvm.ClassFile.FieldType) :: gw
theorem d_ASB_setLength_0 : decode prog_9_method_13_code 0 = .ok (.iload_n 1, 1) := by decide +kernel
theorem d_ASB_setLength_1 : decode prog_9_method_13_code 1 = .ok (.ifCond .ge 12, 3) := by decide +kernel
theorem d_ASB_setLength_13 : decode prog_9_method_13_code 13 = .ok (.aload_n 0, 1) := by decide +kernel
theorem d_ASB_setLength_14 : decode prog_9_method_13_code 14 = .ok (.iload_n 1, 1) := by decide +kernel
theorem d_ASB_setLength_15 : decode prog_9_method_13_code 15 = .ok (.invokevirtual 100, 3) := by decide +kernel
theorem d_ASB_setLength_18 : decode prog_9_method_13_code 18 = .ok (.aload_n 0, 1) := by decide +kernel
theorem d_ASB_setLength_19 : decode prog_9_method_13_code 19 = .ok (.getfield 79, 3) := by decide +kernel
theorem d_ASB_setLength_22 : decode prog_9_method_13_code 22 = .ok (.iload_n 1, 1) := by decide +kernel
theorem d_ASB_setLength_23 : decode prog_9_method_13_code 23 = .ok (.if_icmp .ge 40, 3) := by decide +kernel
theorem d_ASB_setLength_63 : decode prog_9_method_13_code 63 = .ok (.aload_n 0, 1) := by decide +kernel
theorem d_ASB_setLength_64 : decode prog_9_method_13_code 64 = .ok (.getfield 79, 3) := by decide +kernel
theorem d_ASB_setLength_67 : decode prog_9_method_13_code 67 = .ok (.iload_n 1, 1) := by decide +kernel
theorem d_ASB_setLength_68 : decode prog_9_method_13_code 68 = .ok (.if_icmp .le 8, 3) := by decide +kernel
theorem d_ASB_setLength_71 : decode prog_9_method_13_code 71 = .ok (.aload_n 0, 1) := by decide +kernel
theorem d_ASB_setLength_72 : decode prog_9_method_13_code 72 = .ok (.iconst 1, 1) := by decide +kernel
theorem d_ASB_setLength_73 : decode prog_9_method_13_code 73 = .ok (.putfield 73, 3) := by decide +kernel
theorem d_ASB_setLength_76 : decode prog_9_method_13_code 76 = .ok (.aload_n 0, 1) := by decide +kernel
theorem d_ASB_setLength_77 : decode prog_9_method_13_code 77 = .ok (.iload_n 1, 1) := by decide +kernel
theorem d_ASB_setLength_78 : decode prog_9_method_13_code 78 = .ok (.putfield 79, 3) := by decide +kernel
theorem d_ASB_setLength_81 : decode prog_9_method_13_code 81 = .ok (.return_, 1) := by decide +kernel
set_option maxHeartbeats 4000000 in
set_option maxRecDepth 100000 in
theorem c_ASB_setLength (l : Launch) (D : va_G) (cs : Nat → ClassId) (N0 : Nat) (H : Heap) (x va n N : Nat) (ml : Int32) (f : Nat → Int32) (h1 : va_at D vwCl (x, .inr (7, [.ref va, .int 0, .int ml, .int (nI n)])) H) (h2 : va_at D vwCl (va, .inl (cs 2, (16, .inl f))) H) (hN : N = H.size) (hx0 : N0 ≤ x) (hxv : x ≠ va) (hn : n < 17) : Met l y_ASB_setLength w_ASB_setLength ({ frames := 1, cells := 0, slots := 0, locals := 22 }) (hPre D cs N0 [.ref x, .int 0] H) (hQv (fun H' => ∃ ml' : Int32, va_at D vwCl (x, .inr (7, [.ref va, .int 0, .int ml', .int 0])) H') (jA [x] N)) 0 0 (jA [x] N) := by
  refine Met.ofW (cc := prog_9_method_13_code) (maxL := 2) (ret := (Option.none : Option Jvm.ClassFile.FieldType)) (by decide) rfl ?_
  intro p e s m args below meth c s₁ B hml hv
  obtain ⟨rfl, rfl, hB⟩ := hv
  have hx := B.exec
  have hb := B.bytes
  have hr := B.returns
  have hts := atoms_spec (ws := w_ASB_setLength) B.pre
  have htg : ∀ w ∈ gw, w.before _ s = true := fun w h => hts w (List.mem_cons_of_mem _ h)
  have hown : s.vm.findClass "java/lang/AbstractStringBuilder" = some m.cls := findClass_of_methodNamed B.named
  have hlocks := B.notSynchronized
  have hAN : ∀ q, (jA [x] N) q → N0 ≤ q := jA_sub1 hx0 (fun q9 h9 => Nat.le_trans hB.2.1 (hN ▸ h9))
  have hK := hB.1
  obtain ⟨H, hH⟩ : ∃ z : Heap, z = s.heap := ⟨_, rfl⟩
  have hz0 : H.size = s.heap.size := by rw [hH]
  have hN0 := hB.2.1
  rw [← hH] at h1 h2
  have hS : va_S (jA [x] N) s.heap H [] := by rw [hH]; exact va_S.rf
  have hl := lv_entry ([.ref x, .int 0]) (n := 2) (Nat.le_of_ble_eq_true rfl)
  rw [lg_entry_eq, ← hH]
  generalize (lg_sl ([.ref x, .int 0]) ++ List.replicate (2 - (lg_sl ([.ref x, .int 0])).length) Slot.unset).toArray = ls at hl ⊢
  have hl : lv_has ls 2 [(0, .ref x), (1, .int 0)] := hl
  refine lv_iload_n hx hb d_ASB_setLength_0 rfl (lv_at hl 1 rfl) ?_
  refine lv_if_ge (x := 0) (tgt := 13) hx hb d_ASB_setLength_1 (by decide) (fun c1 => ?_) (fun c1 => ?_)
  · skip
    refine lv_aload_n hx hb d_ASB_setLength_13 rfl (lv_at hl 0 rfl) ?_
    refine lv_iload_n hx hb d_ASB_setLength_14 rfl (lv_at hl 1 rfl) ?_
    refine h_purev (va_runV (As := [.int 0]) (rest := []) ⟨hx, hb, hml, hown, htg⟩ (c_ASB_ensure l D cs N0 H x va n 0 ml f h1 h2 (by omega)) ⟨x_cwB 1 htg (gw_mem (i := 192) (by decide +kernel) rfl) (gw_mem (i := 31) (by decide +kernel) rfl) (gw_mem (i := 189) (by decide +kernel) rfl) (by decide +kernel) ⟨Nat.le_of_ble_eq_true rfl, Nat.le_of_ble_eq_true rfl⟩, htg _ (gw_mem (i := 191) (by decide +kernel) rfl), va_Nw.use rfl hB.2.2.1.2.2.2.2.2.2⟩ ⟨hPre.blind, hx_recv hK (ci := 7) rfl h1, hPre.at hB hS hAN⟩ rfl rfl hl.1 rfl (lv_room (Nat.le_of_ble_eq_true rfl)) d_ASB_setLength_15 ⟨Nat.le_of_ble_eq_true rfl, Nat.le_of_ble_eq_true rfl⟩) hS (fun locs hS => ?_)
    refine lv_aload_n hx hb d_ASB_setLength_18 rfl (lv_at hl 0 rfl) ?_
    refine hx_get (ref := "java/lang/AbstractStringBuilder") (v := .int (nI n)) hx hb htg iSB hown hK h1 rfl 3 (by decide) (htg _ (gw_mem (i := 89) (by decide +kernel) rfl)) (fun _ h9 => h9) rfl d_ASB_setLength_19 ?_
    refine lv_iload_n hx hb d_ASB_setLength_22 rfl (lv_at hl 1 rfl) ?_
    refine lv_icmp_ge (x := (nI n)) (y := 0) (tgt := 63) hx hb d_ASB_setLength_23 (by decide) (fun c23 => ?_) (fun c23 => ?_)
    · skip
      replace c23 : 0 ≤ n := (nI_leI (a := 0) (b := n) (by omega) (by omega)).mp c23
      refine lv_aload_n hx hb d_ASB_setLength_63 rfl (lv_at hl 0 rfl) ?_
      refine hx_get (ref := "java/lang/AbstractStringBuilder") (v := .int (nI n)) hx hb htg iSB hown hK h1 rfl 3 (by decide) (htg _ (gw_mem (i := 89) (by decide +kernel) rfl)) (fun _ h9 => h9) rfl d_ASB_setLength_64 ?_
      refine lv_iload_n hx hb d_ASB_setLength_67 rfl (lv_at hl 1 rfl) ?_
      refine lv_icmp_le (x := (nI n)) (y := 0) (tgt := 76) hx hb d_ASB_setLength_68 (by decide) (fun c68 => ?_) (fun c68 => ?_)
      · skip
        replace c68 : n ≤ 0 := (nI_leI (a := n) (b := 0) (by omega) (by omega)).mp c68
        refine lv_aload_n hx hb d_ASB_setLength_76 rfl (lv_at hl 0 rfl) ?_
        refine lv_iload_n hx hb d_ASB_setLength_77 rfl (lv_at hl 1 rfl) ?_
        refine hx_put (ref := "java/lang/AbstractStringBuilder") (ty := .int) (v := .int 0) hx hb htg iSB tSB tSB_ok nSB hown hK h1 hS jA_in1 rfl 3 (by decide) (htg _ (gw_mem (i := 89) (by decide +kernel) rfl)) (fun _ h9 => h9) rfl (by decide +kernel) rfl rfl (Nat.le_of_ble_eq_true rfl) d_ASB_setLength_78 (fun H locs hat hz ho hS => ?_)
        replace h1 : va_at D vwCl (x, .inr (7, [.ref va, .int 0, .int ml, .int 0])) H := hat
        replace h2 := hx_keep h2 (ho _ (show va ≠ x by omega))
        exact W.vret hx hb hr (fun t ht hW => ⟨⟨H, rfl, ⟨_, h1⟩, ht⟩, hS.F ht⟩) hS.2.2 d_ASB_setLength_81
      · skip
        replace c68 : ¬ (n ≤ 0) := fun z9 => c68 ((nI_leI (a := n) (b := 0) (by omega) (by omega)).mpr z9)
        refine lv_aload_n hx hb d_ASB_setLength_71 rfl (lv_at hl 0 rfl) ?_
        refine lv_iconst (v := 1) hx hb d_ASB_setLength_72 (by decide) ?_
        refine hx_put (ref := "java/lang/AbstractStringBuilder") (ty := .boolean) (v := .int 1) hx hb htg iSB tSB tSB_ok nSB hown hK h1 hS jA_in1 rfl 2 (by decide) (htg _ (gw_mem (i := 87) (by decide +kernel) rfl)) (fun _ h9 => h9) rfl (by decide +kernel) rfl rfl (Nat.le_of_ble_eq_true rfl) d_ASB_setLength_73 (fun H locs hat hz ho hS => ?_)
        replace h1 : va_at D vwCl (x, .inr (7, [.ref va, .int 0, .int 1, .int (nI n)])) H := hat
        replace h2 := hx_keep h2 (ho _ (show va ≠ x by omega))
        refine lv_aload_n hx hb d_ASB_setLength_76 rfl (lv_at hl 0 rfl) ?_
        refine lv_iload_n hx hb d_ASB_setLength_77 rfl (lv_at hl 1 rfl) ?_
        refine hx_put (ref := "java/lang/AbstractStringBuilder") (ty := .int) (v := .int 0) hx hb htg iSB tSB tSB_ok nSB hown hK h1 hS jA_in1 rfl 3 (by decide) (htg _ (gw_mem (i := 89) (by decide +kernel) rfl)) (fun _ h9 => h9) rfl (by decide +kernel) rfl rfl (Nat.le_of_ble_eq_true rfl) d_ASB_setLength_78 (fun H locs hat hz ho hS => ?_)
        replace h1 : va_at D vwCl (x, .inr (7, [.ref va, .int 0, .int 1, .int 0])) H := hat
        replace h2 := hx_keep h2 (ho _ (show va ≠ x by omega))
        exact W.vret hx hb hr (fun t ht hW => ⟨⟨H, rfl, ⟨_, h1⟩, ht⟩, hS.F ht⟩) hS.2.2 d_ASB_setLength_81
    · skip
      replace c23 : ¬ (0 ≤ n) := fun z9 => c23 ((nI_leI (a := 0) (b := n) (by omega) (by omega)).mpr z9)
      exact absurd (Nat.zero_le n) c23
  · exact absurd c1 (by decide)
def y_SB_setLength : MethodName := ⟨"java/lang/StringBuilder", "setLength", "(I)V"⟩
abbrev w_SB_setLength : List Cond := Cond.code y_SB_setLength prog_21_method_89_code 2 (Option.none : Option Jvm.ClassFile.FieldType) :: gw
theorem d_SB_setLength_0 : decode prog_21_method_89_code 0 = .ok (.aload_n 0, 1) := by decide +kernel
theorem d_SB_setLength_1 : decode prog_21_method_89_code 1 = .ok (.iload_n 1, 1) := by decide +kernel
theorem d_SB_setLength_2 : decode prog_21_method_89_code 2 = .ok (.invokespecial 333, 3) := by decide +kernel
theorem d_SB_setLength_5 : decode prog_21_method_89_code 5 = .ok (.return_, 1) := by decide +kernel
set_option maxHeartbeats 4000000 in
set_option maxRecDepth 100000 in
theorem c_SB_setLength (l : Launch) (D : va_G) (cs : Nat → ClassId) (N0 : Nat) (H : Heap) (x va n N : Nat) (ml : Int32) (f : Nat → Int32) (h1 : va_at D vwCl (x, .inr (7, [.ref va, .int 0, .int ml, .int (nI n)])) H) (h2 : va_at D vwCl (va, .inl (cs 2, (16, .inl f))) H) (hN : N = H.size) (hx0 : N0 ≤ x) (hxv : x ≠ va) (hn : n < 17) : Met l y_SB_setLength w_SB_setLength ({ frames := 2, cells := 0, slots := 0, locals := 43 }) (hPre D cs N0 [.ref x, .int 0] H) (hQv (fun H' => ∃ ml' : Int32, va_at D vwCl (x, .inr (7, [.ref va, .int 0, .int ml', .int 0])) H') (jA [x] N)) 0 0 (jA [x] N) := by
  refine Met.ofW (cc := prog_21_method_89_code) (maxL := 2) (ret := (Option.none : Option Jvm.ClassFile.FieldType)) (by decide) rfl ?_
  intro p e s m args below meth c s₁ B hml hv
  obtain ⟨rfl, rfl, hB⟩ := hv
  have hx := B.exec
  have hb := B.bytes
  have hr := B.returns
  have hts := atoms_spec (ws := w_SB_setLength) B.pre
  have htg : ∀ w ∈ gw, w.before _ s = true := fun w h => hts w (List.mem_cons_of_mem _ h)
  have hown : s.vm.findClass "java/lang/StringBuilder" = some m.cls := findClass_of_methodNamed B.named
  have hlocks := B.notSynchronized
  have hAN : ∀ q, (jA [x] N) q → N0 ≤ q := jA_sub1 hx0 (fun q9 h9 => Nat.le_trans hB.2.1 (hN ▸ h9))
  have hK := hB.1
  obtain ⟨H, hH⟩ : ∃ z : Heap, z = s.heap := ⟨_, rfl⟩
  have hz0 : H.size = s.heap.size := by rw [hH]
  have hN0 := hB.2.1
  rw [← hH] at h1 h2
  have hS : va_S (jA [x] N) s.heap H [] := by rw [hH]; exact va_S.rf
  have hl := lv_entry ([.ref x, .int 0]) (n := 2) (Nat.le_of_ble_eq_true rfl)
  rw [lg_entry_eq, ← hH]
  generalize (lg_sl ([.ref x, .int 0]) ++ List.replicate (2 - (lg_sl ([.ref x, .int 0])).length) Slot.unset).toArray = ls at hl ⊢
  have hl : lv_has ls 2 [(0, .ref x), (1, .int 0)] := hl
  refine lv_aload_n hx hb d_SB_setLength_0 rfl (lv_at hl 0 rfl) ?_
  refine lv_iload_n hx hb d_SB_setLength_1 rfl (lv_at hl 1 rfl) ?_
  obtain ⟨nq1, hnq1⟩ : ∃ z : Nat, z = H.size := ⟨_, rfl⟩
  have hlt_q2 := hx_lt h1
  have hlt_q3 := hx_lt h2
  refine h_callv (va_runSU (x_at hK (ci := 7) rfl) (As := [.int 0]) (rest := []) ⟨hx, hb, hml, hown, htg⟩ (c_ASB_setLength l D cs N0 H x va n nq1 ml f h1 h2 hnq1 (by omega) (show x ≠ va by omega) (by omega)) (va_cwSU 1 htg (gw_sub (gw_cons (gw_mem (i := 167) (by decide +kernel) rfl) (gw_cons (gw_mem (i := 1222) (by decide +kernel) rfl) (gw_cons (gw_mem (i := 98) (by decide +kernel) rfl) (gw_cons (gw_mem (i := 168) (by decide +kernel) rfl) (gw_cons (gw_mem (i := 31) (by decide +kernel) rfl) (gw_cons (gw_mem (i := 169) (by decide +kernel) rfl) (fun _ h => h)))))))) rfl rfl rfl (by decide +kernel) ⟨Nat.le_of_ble_eq_true rfl, Nat.le_of_ble_eq_true rfl⟩) ⟨hPre.blind, hx_recv hK (ci := 7) rfl h1, hPre.at hB hS hAN⟩ rfl rfl hl.1 rfl (lv_room (Nat.le_of_ble_eq_true rfl)) d_SB_setLength_2 ⟨Nat.le_of_ble_eq_true rfl, Nat.le_of_ble_eq_true rfl⟩) hS (jA_sub1 jA_in1 (fun q9 h9 => Or.inr (show N ≤ q9 by omega))) (fun H locs hp hz hk hS => ?_)
  replace h2 := hx_keep h2 (hk _ hlt_q3 (jA_not1 (show va ≠ x by omega) (show va < nq1 by omega)))
  obtain ⟨ml5, hO4⟩ := hp
  exact W.vret hx hb hr (fun t ht hW => ⟨⟨H, rfl, ⟨_, hO4⟩, ht⟩, hS.F ht⟩) hS.2.2 d_SB_setLength_5
def y_L1_canEncode : MethodName := ⟨"java/lang/StringLatin1", "canEncode", "(C)Z"⟩
abbrev w_L1_canEncode : List Cond := Cond.code y_L1_canEncode prog_23_method_3_code 1 (Option.some Jvm.ClassFile.FieldType.boolean) :: gw
theorem d_L1_canEncode_0 : decode prog_23_method_3_code 0 = .ok (.iload_n 0, 1) := by decide +kernel
theorem d_L1_canEncode_1 : decode prog_23_method_3_code 1 = .ok (.sipush 255, 3) := by decide +kernel
theorem d_L1_canEncode_4 : decode prog_23_method_3_code 4 = .ok (.if_icmp .gt 7, 3) := by decide +kernel
theorem d_L1_canEncode_7 : decode prog_23_method_3_code 7 = .ok (.iconst 1, 1) := by decide +kernel
theorem d_L1_canEncode_8 : decode prog_23_method_3_code 8 = .ok (.goto 4, 3) := by decide +kernel
theorem d_L1_canEncode_12 : decode prog_23_method_3_code 12 = .ok (.ireturn, 1) := by decide +kernel
set_option maxHeartbeats 4000000 in
set_option maxRecDepth 100000 in
theorem c_L1_canEncode (l : Launch) (D : va_G) (cs : Nat → ClassId) (N0 : Nat) (H : Heap) (ch : Nat) (hc : ch < 128) : Met l y_L1_canEncode w_L1_canEncode ({ frames := 0, cells := 0, slots := 0, locals := 0 }) (hPre D cs N0 [.int (nI ch)] H) (hQi (fun r H' => H' = H ∧ r = 1) noA) 0 0 noA := by
  refine Met.ofW (cc := prog_23_method_3_code) (maxL := 1) (ret := (Option.some Jvm.ClassFile.FieldType.boolean)) (by decide) rfl ?_
  intro p e s m args below meth c s₁ B hml hv
  obtain ⟨rfl, rfl, hB⟩ := hv
  have hx := B.exec
  have hb := B.bytes
  have hr := B.returns
  have hts := atoms_spec (ws := w_L1_canEncode) B.pre
  have htg : ∀ w ∈ gw, w.before _ s = true := fun w h => hts w (List.mem_cons_of_mem _ h)
  have hown : s.vm.findClass "java/lang/StringLatin1" = some m.cls := findClass_of_methodNamed B.named
  have hlocks := B.notSynchronized
  have hK := hB.1
  obtain ⟨H, hH⟩ : ∃ z : Heap, z = s.heap := ⟨_, rfl⟩
  have hz0 : H.size = s.heap.size := by rw [hH]
  have hN0 := hB.2.1
  have hS : va_S noA s.heap H [] := by rw [hH]; exact va_S.rf
  have hl := lv_entry ([.int (nI ch)]) (n := 1) (Nat.le_of_ble_eq_true rfl)
  rw [lg_entry_eq, ← hH]
  generalize (lg_sl ([.int (nI ch)]) ++ List.replicate (1 - (lg_sl ([.int (nI ch)])).length) Slot.unset).toArray = ls at hl ⊢
  have hl : lv_has ls 1 [(0, .int (nI ch))] := hl
  refine lv_iload_n hx hb d_L1_canEncode_0 rfl (lv_at hl 0 rfl) ?_
  refine lv_sipush (v := 255) hx hb d_L1_canEncode_1 (by decide) ?_
  refine lv_icmp_gt (x := (nI ch)) (y := 255) (tgt := 11) hx hb d_L1_canEncode_4 (by decide) (fun c4 => ?_) (fun c4 => ?_)
  · skip
    replace c4 : 255 < ch := (nI_ltI (a := 255) (b := ch) (by omega) (by omega)).mp c4
    exact absurd c4 (by omega)
  · skip
    replace c4 : ¬ (255 < ch) := fun z9 => c4 ((nI_ltI (a := 255) (b := ch) (by omega) (by omega)).mpr z9)
    refine lv_iconst (v := 1) hx hb d_L1_canEncode_7 (by decide) ?_
    refine lv_goto (tgt := 12) hx hb d_L1_canEncode_8 (by decide) ?_
    exact W.zret (v := 1) hx hb hr (by decide) (fun t ht hW => ⟨⟨1, H, rfl, ⟨rfl, rfl⟩, ht⟩, hS.F ht⟩) hS.2.2 d_L1_canEncode_12
def y_ASB_append : MethodName := ⟨"java/lang/AbstractStringBuilder", "append", "(C)Ljava/lang/AbstractStringBuilder;"⟩
abbrev w_ASB_append : List Cond := Cond.code y_ASB_append prog_9_method_31_code 2 (Option.some (Jvm.ClassFile.FieldType.object "java/lang/AbstractStringBuilder")) :: gw
theorem d_ASB_append_0 : decode prog_9_method_31_code 0 = .ok (.aload_n 0, 1) := by decide +kernel
theorem d_ASB_append_1 : decode prog_9_method_31_code 1 = .ok (.aload_n 0, 1) := by decide +kernel
theorem d_ASB_append_2 : decode prog_9_method_31_code 2 = .ok (.getfield 79, 3) := by decide +kernel
theorem d_ASB_append_5 : decode prog_9_method_31_code 5 = .ok (.iconst 1, 1) := by decide +kernel
theorem d_ASB_append_6 : decode prog_9_method_31_code 6 = .ok (.iadd, 1) := by decide +kernel
theorem d_ASB_append_7 : decode prog_9_method_31_code 7 = .ok (.invokevirtual 100, 3) := by decide +kernel
theorem d_ASB_append_10 : decode prog_9_method_31_code 10 = .ok (.aload_n 0, 1) := by decide +kernel
theorem d_ASB_append_11 : decode prog_9_method_31_code 11 = .ok (.invokevirtual 83, 3) := by decide +kernel
theorem d_ASB_append_14 : decode prog_9_method_31_code 14 = .ok (.ifCond .eq 31, 3) := by decide +kernel
theorem d_ASB_append_17 : decode prog_9_method_31_code 17 = .ok (.iload_n 1, 1) := by decide +kernel
theorem d_ASB_append_18 : decode prog_9_method_31_code 18 = .ok (.invokestatic 191, 3) := by decide +kernel
theorem d_ASB_append_21 : decode prog_9_method_31_code 21 = .ok (.ifCond .eq 24, 3) := by decide +kernel
theorem d_ASB_append_24 : decode prog_9_method_31_code 24 = .ok (.aload_n 0, 1) := by decide +kernel
theorem d_ASB_append_25 : decode prog_9_method_31_code 25 = .ok (.getfield 15, 3) := by decide +kernel
theorem d_ASB_append_28 : decode prog_9_method_31_code 28 = .ok (.aload_n 0, 1) := by decide +kernel
theorem d_ASB_append_29 : decode prog_9_method_31_code 29 = .ok (.dup, 1) := by decide +kernel
theorem d_ASB_append_30 : decode prog_9_method_31_code 30 = .ok (.getfield 79, 3) := by decide +kernel
theorem d_ASB_append_33 : decode prog_9_method_31_code 33 = .ok (.dup_x1, 1) := by decide +kernel
theorem d_ASB_append_34 : decode prog_9_method_31_code 34 = .ok (.iconst 1, 1) := by decide +kernel
theorem d_ASB_append_35 : decode prog_9_method_31_code 35 = .ok (.iadd, 1) := by decide +kernel
theorem d_ASB_append_36 : decode prog_9_method_31_code 36 = .ok (.putfield 79, 3) := by decide +kernel
theorem d_ASB_append_39 : decode prog_9_method_31_code 39 = .ok (.iload_n 1, 1) := by decide +kernel
theorem d_ASB_append_40 : decode prog_9_method_31_code 40 = .ok (.i2b, 1) := by decide +kernel
theorem d_ASB_append_41 : decode prog_9_method_31_code 41 = .ok (.bastore, 1) := by decide +kernel
theorem d_ASB_append_42 : decode prog_9_method_31_code 42 = .ok (.goto 33, 3) := by decide +kernel
theorem d_ASB_append_75 : decode prog_9_method_31_code 75 = .ok (.aload_n 0, 1) := by decide +kernel
theorem d_ASB_append_76 : decode prog_9_method_31_code 76 = .ok (.areturn, 1) := by decide +kernel
set_option maxHeartbeats 4000000 in
set_option maxRecDepth 100000 in
theorem c_ASB_append (l : Launch) (D : va_G) (cs : Nat → ClassId) (N0 : Nat) (H : Heap) (x va n N ch : Nat) (ml : Int32) (f : Nat → Int32) (h1 : va_at D vwCl (x, .inr (7, [.ref va, .int 0, .int ml, .int (nI n)])) H) (h2 : va_at D vwCl (va, .inl (cs 2, (16, .inl f))) H) (hN : N = H.size) (hx0 : N0 ≤ x) (hv0 : N0 ≤ va) (hxv : x ≠ va) (hn : n < 16) (hc : ch < 128) : Met l y_ASB_append w_ASB_append ({ frames := 1, cells := 0, slots := 0, locals := 22 }) (hPre D cs N0 [.ref x, .int (nI ch)] H) (hQq (fun r H' => r = some x ∧ va_at D vwCl (x, .inr (7, [.ref va, .int 0, .int ml, .int (nI (n + 1))])) H' ∧ va_at D vwCl (va, .inl (cs 2, (16, .inl (upd f n (nI ch))))) H') (jA [x, va] N)) 0 0 (jA [x, va] N) := by
  refine Met.ofW (cc := prog_9_method_31_code) (maxL := 2) (ret := (Option.some (Jvm.ClassFile.FieldType.object "java/lang/AbstractStringBuilder"))) (by decide) rfl ?_
  intro p e s m args below meth c s₁ B hml hv
  obtain ⟨rfl, rfl, hB⟩ := hv
  have hx := B.exec
  have hb := B.bytes
  have hr := B.returns
  have hts := atoms_spec (ws := w_ASB_append) B.pre
  have htg : ∀ w ∈ gw, w.before _ s = true := fun w h => hts w (List.mem_cons_of_mem _ h)
  have hown : s.vm.findClass "java/lang/AbstractStringBuilder" = some m.cls := findClass_of_methodNamed B.named
  have hlocks := B.notSynchronized
  have hAN : ∀ q, (jA [x, va] N) q → N0 ≤ q := jA_sub2 hx0 hv0 (fun q9 h9 => Nat.le_trans hB.2.1 (hN ▸ h9))
  have hK := hB.1
  obtain ⟨H, hH⟩ : ∃ z : Heap, z = s.heap := ⟨_, rfl⟩
  have hz0 : H.size = s.heap.size := by rw [hH]
  have hN0 := hB.2.1
  rw [← hH] at h1 h2
  have hS : va_S (jA [x, va] N) s.heap H [] := by rw [hH]; exact va_S.rf
  have hl := lv_entry ([.ref x, .int (nI ch)]) (n := 2) (Nat.le_of_ble_eq_true rfl)
  rw [lg_entry_eq, ← hH]
  generalize (lg_sl ([.ref x, .int (nI ch)]) ++ List.replicate (2 - (lg_sl ([.ref x, .int (nI ch)])).length) Slot.unset).toArray = ls at hl ⊢
  have hl : lv_has ls 2 [(0, .ref x), (1, .int (nI ch))] := hl
  refine lv_aload_n hx hb d_ASB_append_0 rfl (lv_at hl 0 rfl) ?_
  refine lv_aload_n hx hb d_ASB_append_1 rfl (lv_at hl 0 rfl) ?_
  refine hx_get (ref := "java/lang/AbstractStringBuilder") (v := .int (nI n)) hx hb htg iSB hown hK h1 rfl 3 (by decide) (htg _ (gw_mem (i := 89) (by decide +kernel) rfl)) (fun _ h9 => h9) rfl d_ASB_append_2 ?_
  refine lv_iconst (v := 1) hx hb d_ASB_append_5 (by decide) ?_
  refine lv_iadd (x := (nI n)) (y := 1) hx hb d_ASB_append_6 ?_
  refine lv_eqi (y := (nI (n + 1))) (nI_add n 1) ?_
  refine h_purev (va_runV (As := [.int (nI (n + 1))]) (rest := []) ⟨hx, hb, hml, hown, htg⟩ (c_ASB_ensure l D cs N0 H x va n (n + 1) ml f h1 h2 (by omega)) ⟨x_cwB 1 htg (gw_mem (i := 192) (by decide +kernel) rfl) (gw_mem (i := 31) (by decide +kernel) rfl) (gw_mem (i := 189) (by decide +kernel) rfl) (by decide +kernel) ⟨Nat.le_of_ble_eq_true rfl, Nat.le_of_ble_eq_true rfl⟩, htg _ (gw_mem (i := 191) (by decide +kernel) rfl), va_Nw.use rfl hB.2.2.1.2.2.2.2.2.2⟩ ⟨hPre.blind, hx_recv hK (ci := 7) rfl h1, hPre.at hB hS hAN⟩ rfl rfl hl.1 rfl (lv_room (Nat.le_of_ble_eq_true rfl)) d_ASB_append_7 ⟨Nat.le_of_ble_eq_true rfl, Nat.le_of_ble_eq_true rfl⟩) hS (fun locs hS => ?_)
  refine lv_aload_n hx hb d_ASB_append_10 rfl (lv_at hl 0 rfl) ?_
  refine h_purei (va_runV (As := []) (rest := []) ⟨hx, hb, hml, hown, htg⟩ (c_ASB_isLatin1 l D cs N0 H x va n ml h1) ⟨x_cwB 0 htg (gw_mem (i := 228) (by decide +kernel) rfl) (gw_mem (i := 31) (by decide +kernel) rfl) (gw_mem (i := 224) (by decide +kernel) rfl) (by decide +kernel) ⟨Nat.le_of_ble_eq_true rfl, Nat.le_of_ble_eq_true rfl⟩, htg _ (gw_mem (i := 225) (by decide +kernel) rfl), htg _ (gw_mem (i := 227) (by decide +kernel) rfl)⟩ ⟨hPre.blind, hx_recv hK (ci := 7) rfl h1, hPre.at hB hS hAN⟩ rfl rfl hl.1 rfl (lv_room (Nat.le_of_ble_eq_true rfl)) d_ASB_append_11 ⟨Nat.le_of_ble_eq_true rfl, Nat.le_of_ble_eq_true rfl⟩) hS (fun locs hS => ?_)
  refine lv_if_eq (x := 1) (tgt := 45) hx hb d_ASB_append_14 (by decide) (fun c14 => ?_) (fun c14 => ?_)
  · exact absurd c14 (by decide)
  · skip
    refine lv_iload_n hx hb d_ASB_append_17 rfl (lv_at hl 1 rfl) ?_
    refine h_purei (va_runS (As := [.int (nI ch)]) (rest := []) ⟨hx, hb, hml, hown, htg⟩ (c_L1_canEncode l D cs N0 H ch (by omega)) ⟨x_cwB 1 htg (gw_mem (i := 633) (by decide +kernel) rfl) (gw_mem (i := 48) (by decide +kernel) rfl) (gw_mem (i := 631) (by decide +kernel) rfl) (by decide +kernel) ⟨Nat.le_of_ble_eq_true rfl, Nat.le_of_ble_eq_true rfl⟩, htg _ (gw_mem (i := 632) (by decide +kernel) rfl)⟩ ⟨hPre.blind, hPre.at hB hS hAN⟩ rfl rfl hl.1 rfl (lv_room (Nat.le_of_ble_eq_true rfl)) d_ASB_append_18 ⟨Nat.le_of_ble_eq_true rfl, Nat.le_of_ble_eq_true rfl⟩) hS (fun locs hS => ?_)
    refine lv_if_eq (x := 1) (tgt := 45) hx hb d_ASB_append_21 (by decide) (fun c21 => ?_) (fun c21 => ?_)
    · exact absurd c21 (by decide)
    · skip
      refine lv_aload_n hx hb d_ASB_append_24 rfl (lv_at hl 0 rfl) ?_
      refine hx_get (ref := "java/lang/AbstractStringBuilder") (v := .ref va) hx hb htg iSB hown hK h1 rfl 0 (by decide) (htg _ (gw_mem (i := 85) (by decide +kernel) rfl)) (fun _ h9 => h9) rfl d_ASB_append_25 ?_
      refine lv_aload_n hx hb d_ASB_append_28 rfl (lv_at hl 0 rfl) ?_
      refine lv_dup hx hb d_ASB_append_29 rfl ?_
      refine hx_get (ref := "java/lang/AbstractStringBuilder") (v := .int (nI n)) hx hb htg iSB hown hK h1 rfl 3 (by decide) (htg _ (gw_mem (i := 89) (by decide +kernel) rfl)) (fun _ h9 => h9) rfl d_ASB_append_30 ?_
      refine lv_dup_x1 hx hb d_ASB_append_33 rfl rfl ?_
      refine lv_iconst (v := 1) hx hb d_ASB_append_34 (by decide) ?_
      refine lv_iadd (x := (nI n)) (y := 1) hx hb d_ASB_append_35 ?_
      refine lv_eqi (y := (nI (n + 1))) (nI_add n 1) ?_
      refine hx_put (ref := "java/lang/AbstractStringBuilder") (ty := .int) (v := .int (nI (n + 1))) hx hb htg iSB tSB tSB_ok nSB hown hK h1 hS jA_in21 rfl 3 (by decide) (htg _ (gw_mem (i := 89) (by decide +kernel) rfl)) (fun _ h9 => h9) rfl (by decide +kernel) rfl rfl (Nat.le_of_ble_eq_true rfl) d_ASB_append_36 (fun H locs hat hz ho hS => ?_)
      replace h1 : va_at D vwCl (x, .inr (7, [.ref va, .int 0, .int ml, .int (nI (n + 1))])) H := hat
      replace h2 := hx_keep h2 (ho _ (show va ≠ x by omega))
      refine lv_iload_n hx hb d_ASB_append_39 rfl (lv_at hl 1 rfl) ?_
      refine lv_i2b (x := (nI ch)) (v := (nI ch)) hx hb d_ASB_append_40 (x_i2b ch hc) ?_
      refine hx_bast hx hb hK hS jA_in22 2 h2 rfl (show vp_in (nI n) 16 from vp_in_nI (n := n) (by omega) (by omega)) d_ASB_append_41 (fun H locs hat hz ho hS => ?_)
      replace h2 : va_at D vwCl (va, .inl (cs 2, (16, .inl (upd f n (nI ch))))) H := by rw [show (nI n).toNatClampNeg = n from nI_clamp (n := n) (by omega), x_narb ch hc] at hat; exact hat
      replace h1 := hx_keep h1 (ho _ (show x ≠ va by omega))
      refine lv_goto (tgt := 75) hx hb d_ASB_append_42 (by decide) ?_
      refine lv_aload_n hx hb d_ASB_append_75 rfl (lv_at hl 0 rfl) ?_
      exact W.aret (v := .ref x) hx hb hr (Or.inl ⟨_, rfl⟩) (Or.inr ⟨_, rfl⟩) (fun t ht hW => ⟨⟨some x, H, rfl, ⟨rfl, h1, h2⟩, ht⟩, hS.F ht⟩) hS.2.2 d_ASB_append_76
def y_SB_append : MethodName := ⟨"java/lang/StringBuilder", "append", "(C)Ljava/lang/StringBuilder;"⟩
abbrev w_SB_append : List Cond := Cond.code y_SB_append prog_21_method_14_code 2 (Option.some (Jvm.ClassFile.FieldType.object "java/lang/StringBuilder")) :: gw
theorem d_SB_append_0 : decode prog_21_method_14_code 0 = .ok (.aload_n 0, 1) := by decide +kernel
theorem d_SB_append_1 : decode prog_21_method_14_code 1 = .ok (.iload_n 1, 1) := by decide +kernel
theorem d_SB_append_2 : decode prog_21_method_14_code 2 = .ok (.invokespecial 50, 3) := by decide +kernel
theorem d_SB_append_5 : decode prog_21_method_14_code 5 = .ok (.pop, 1) := by decide +kernel
theorem d_SB_append_6 : decode prog_21_method_14_code 6 = .ok (.aload_n 0, 1) := by decide +kernel
theorem d_SB_append_7 : decode prog_21_method_14_code 7 = .ok (.areturn, 1) := by decide +kernel
set_option maxHeartbeats 4000000 in
set_option maxRecDepth 100000 in
theorem c_SB_append (l : Launch) (D : va_G) (cs : Nat → ClassId) (N0 : Nat) (H : Heap) (x va n N ch : Nat) (ml : Int32) (f : Nat → Int32) (h1 : va_at D vwCl (x, .inr (7, [.ref va, .int 0, .int ml, .int (nI n)])) H) (h2 : va_at D vwCl (va, .inl (cs 2, (16, .inl f))) H) (hN : N = H.size) (hx0 : N0 ≤ x) (hv0 : N0 ≤ va) (hxv : x ≠ va) (hn : n < 16) (hc : ch < 128) : Met l y_SB_append w_SB_append ({ frames := 2, cells := 0, slots := 0, locals := 43 }) (hPre D cs N0 [.ref x, .int (nI ch)] H) (hQq (fun r H' => r = some x ∧ va_at D vwCl (x, .inr (7, [.ref va, .int 0, .int ml, .int (nI (n + 1))])) H' ∧ va_at D vwCl (va, .inl (cs 2, (16, .inl (upd f n (nI ch))))) H') (jA [x, va] N)) 0 0 (jA [x, va] N) := by
  refine Met.ofW (cc := prog_21_method_14_code) (maxL := 2) (ret := (Option.some (Jvm.ClassFile.FieldType.object "java/lang/StringBuilder"))) (by decide) rfl ?_
  intro p e s m args below meth c s₁ B hml hv
  obtain ⟨rfl, rfl, hB⟩ := hv
  have hx := B.exec
  have hb := B.bytes
  have hr := B.returns
  have hts := atoms_spec (ws := w_SB_append) B.pre
  have htg : ∀ w ∈ gw, w.before _ s = true := fun w h => hts w (List.mem_cons_of_mem _ h)
  have hown : s.vm.findClass "java/lang/StringBuilder" = some m.cls := findClass_of_methodNamed B.named
  have hlocks := B.notSynchronized
  have hAN : ∀ q, (jA [x, va] N) q → N0 ≤ q := jA_sub2 hx0 hv0 (fun q9 h9 => Nat.le_trans hB.2.1 (hN ▸ h9))
  have hK := hB.1
  obtain ⟨H, hH⟩ : ∃ z : Heap, z = s.heap := ⟨_, rfl⟩
  have hz0 : H.size = s.heap.size := by rw [hH]
  have hN0 := hB.2.1
  rw [← hH] at h1 h2
  have hS : va_S (jA [x, va] N) s.heap H [] := by rw [hH]; exact va_S.rf
  have hl := lv_entry ([.ref x, .int (nI ch)]) (n := 2) (Nat.le_of_ble_eq_true rfl)
  rw [lg_entry_eq, ← hH]
  generalize (lg_sl ([.ref x, .int (nI ch)]) ++ List.replicate (2 - (lg_sl ([.ref x, .int (nI ch)])).length) Slot.unset).toArray = ls at hl ⊢
  have hl : lv_has ls 2 [(0, .ref x), (1, .int (nI ch))] := hl
  refine lv_aload_n hx hb d_SB_append_0 rfl (lv_at hl 0 rfl) ?_
  refine lv_iload_n hx hb d_SB_append_1 rfl (lv_at hl 1 rfl) ?_
  obtain ⟨nq1, hnq1⟩ : ∃ z : Nat, z = H.size := ⟨_, rfl⟩
  have hlt_q2 := hx_lt h1
  have hlt_q3 := hx_lt h2
  refine h_callq (va_runSU (x_at hK (ci := 7) rfl) (As := [.int (nI ch)]) (rest := []) ⟨hx, hb, hml, hown, htg⟩ (c_ASB_append l D cs N0 H x va n nq1 ch ml f h1 h2 hnq1 (by omega) (by omega) (show x ≠ va by omega) (by omega) (by omega)) (va_cwSU 1 htg (gw_sub (gw_cons (gw_mem (i := 628) (by decide +kernel) rfl) (gw_cons (gw_mem (i := 1233) (by decide +kernel) rfl) (gw_cons (gw_mem (i := 98) (by decide +kernel) rfl) (gw_cons (gw_mem (i := 629) (by decide +kernel) rfl) (gw_cons (gw_mem (i := 31) (by decide +kernel) rfl) (gw_cons (gw_mem (i := 630) (by decide +kernel) rfl) (fun _ h => h)))))))) rfl rfl rfl (by decide +kernel) ⟨Nat.le_of_ble_eq_true rfl, Nat.le_of_ble_eq_true rfl⟩) ⟨hPre.blind, hx_recv hK (ci := 7) rfl h1, hPre.at hB hS hAN⟩ rfl rfl hl.1 rfl (lv_room (Nat.le_of_ble_eq_true rfl)) d_SB_append_2 ⟨Nat.le_of_ble_eq_true rfl, Nat.le_of_ble_eq_true rfl⟩) hS (jA_sub2 jA_in21 jA_in22 (fun q9 h9 => Or.inr (show N ≤ q9 by omega))) (fun r2 H locs hp hz hk hS => ?_)
  obtain ⟨hr9, hO4, hO5⟩ := hp
  subst hr9
  refine lv_eqv (y := .ref x) rfl ?_
  refine lv_pop hx hb d_SB_append_5 rfl ?_
  refine lv_aload_n hx hb d_SB_append_6 rfl (lv_at hl 0 rfl) ?_
  exact W.aret (v := .ref x) hx hb hr (Or.inl ⟨_, rfl⟩) (Or.inr ⟨_, rfl⟩) (fun t ht hW => ⟨⟨some x, H, rfl, ⟨rfl, hO4, hO5⟩, ht⟩, hS.F ht⟩) hS.2.2 d_SB_append_7
def y_Pr_checkIndexR : MethodName := ⟨"jdk/internal/util/Preconditions", "checkIndex", "(IILjava/util/function/BiFunction;)I"⟩
abbrev w_Pr_checkIndexR : List Cond := Cond.code y_Pr_checkIndexR prog_37_method_11_code 3 (Option.some Jvm.ClassFile.FieldType.int) :: gw
theorem d_Pr_checkIndexR_0 : decode prog_37_method_11_code 0 = .ok (.iload_n 0, 1) := by decide +kernel
theorem d_Pr_checkIndexR_1 : decode prog_37_method_11_code 1 = .ok (.ifCond .lt 8, 3) := by decide +kernel
theorem d_Pr_checkIndexR_4 : decode prog_37_method_11_code 4 = .ok (.iload_n 0, 1) := by decide +kernel
theorem d_Pr_checkIndexR_5 : decode prog_37_method_11_code 5 = .ok (.iload_n 1, 1) := by decide +kernel
theorem d_Pr_checkIndexR_6 : decode prog_37_method_11_code 6 = .ok (.if_icmp .lt 10, 3) := by decide +kernel
theorem d_Pr_checkIndexR_16 : decode prog_37_method_11_code 16 = .ok (.iload_n 0, 1) := by decide +kernel
theorem d_Pr_checkIndexR_17 : decode prog_37_method_11_code 17 = .ok (.ireturn, 1) := by decide +kernel
set_option maxHeartbeats 4000000 in
set_option maxRecDepth 100000 in
theorem c_Pr_checkIndexR (l : Launch) (D : va_G) (cs : Nat → ClassId) (N0 : Nat) (H : Heap) (j n rr : Nat) (hj : j < n) (hn : n < 2147483648) : Met l y_Pr_checkIndexR w_Pr_checkIndexR ({ frames := 0, cells := 0, slots := 0, locals := 0 }) (hPre D cs N0 [.int (nI j), .int (nI n), .ref rr] H) (hQi (fun r H' => H' = H ∧ r = nI j) noA) 0 0 noA := by
  refine Met.ofW (cc := prog_37_method_11_code) (maxL := 3) (ret := (Option.some Jvm.ClassFile.FieldType.int)) (by decide) rfl ?_
  intro p e s m args below meth c s₁ B hml hv
  obtain ⟨rfl, rfl, hB⟩ := hv
  have hx := B.exec
  have hb := B.bytes
  have hr := B.returns
  have hts := atoms_spec (ws := w_Pr_checkIndexR) B.pre
  have htg : ∀ w ∈ gw, w.before _ s = true := fun w h => hts w (List.mem_cons_of_mem _ h)
  have hown : s.vm.findClass "jdk/internal/util/Preconditions" = some m.cls := findClass_of_methodNamed B.named
  have hlocks := B.notSynchronized
  have hK := hB.1
  obtain ⟨H, hH⟩ : ∃ z : Heap, z = s.heap := ⟨_, rfl⟩
  have hz0 : H.size = s.heap.size := by rw [hH]
  have hN0 := hB.2.1
  have hS : va_S noA s.heap H [] := by rw [hH]; exact va_S.rf
  have hl := lv_entry ([.int (nI j), .int (nI n), .ref rr]) (n := 3) (Nat.le_of_ble_eq_true rfl)
  rw [lg_entry_eq, ← hH]
  generalize (lg_sl ([.int (nI j), .int (nI n), .ref rr]) ++ List.replicate (3 - (lg_sl ([.int (nI j), .int (nI n), .ref rr])).length) Slot.unset).toArray = ls at hl ⊢
  have hl : lv_has ls 3 [(0, .int (nI j)), (1, .int (nI n)), (2, .ref rr)] := hl
  refine lv_iload_n hx hb d_Pr_checkIndexR_0 rfl (lv_at hl 0 rfl) ?_
  refine lv_if_lt (x := (nI j)) (tgt := 9) hx hb d_Pr_checkIndexR_1 (by decide) (fun c1 => ?_) (fun c1 => ?_)
  · skip
    replace c1 : j < 0 := (nI_ltI (a := j) (b := 0) (by omega) (by omega)).mp c1
    exact absurd c1 (by omega)
  · skip
    replace c1 : ¬ (j < 0) := fun z9 => c1 ((nI_ltI (a := j) (b := 0) (by omega) (by omega)).mpr z9)
    refine lv_iload_n hx hb d_Pr_checkIndexR_4 rfl (lv_at hl 0 rfl) ?_
    refine lv_iload_n hx hb d_Pr_checkIndexR_5 rfl (lv_at hl 1 rfl) ?_
    refine lv_icmp_lt (x := (nI j)) (y := (nI n)) (tgt := 16) hx hb d_Pr_checkIndexR_6 (by decide) (fun c6 => ?_) (fun c6 => ?_)
    · skip
      replace c6 : j < n := (nI_ltI (a := j) (b := n) (by omega) (by omega)).mp c6
      refine lv_iload_n hx hb d_Pr_checkIndexR_16 rfl (lv_at hl 0 rfl) ?_
      exact W.iret (v := (nI j)) hx hb hr (fun t ht hW => ⟨⟨(nI j), H, rfl, ⟨rfl, rfl⟩, ht⟩, hS.F ht⟩) hS.2.2 d_Pr_checkIndexR_17
    · skip
      replace c6 : ¬ (j < n) := fun z9 => c6 ((nI_ltI (a := j) (b := n) (by omega) (by omega)).mpr z9)
      exact absurd (show j < n from hj) c6
def y_Sg_checkIndex : MethodName := ⟨"java/lang/String", "checkIndex", "(II)V"⟩
abbrev w_Sg_checkIndex : List Cond := Cond.code y_Sg_checkIndex prog_20_method_155_code 2 (Option.none : Option Jvm.ClassFile.FieldType) :: gw
theorem d_Sg_checkIndex_0 : decode prog_20_method_155_code 0 = .ok (.iload_n 0, 1) := by decide +kernel
theorem d_Sg_checkIndex_1 : decode prog_20_method_155_code 1 = .ok (.iload_n 1, 1) := by decide +kernel
theorem d_Sg_checkIndex_2 : decode prog_20_method_155_code 2 = .ok (.getstatic 1053, 3) := by decide +kernel
theorem d_Sg_checkIndex_5 : decode prog_20_method_155_code 5 = .ok (.invokestatic 1059, 3) := by decide +kernel
theorem d_Sg_checkIndex_8 : decode prog_20_method_155_code 8 = .ok (.pop, 1) := by decide +kernel
theorem d_Sg_checkIndex_9 : decode prog_20_method_155_code 9 = .ok (.return_, 1) := by decide +kernel
set_option maxHeartbeats 4000000 in
set_option maxRecDepth 100000 in
theorem c_Sg_checkIndex (l : Launch) (D : va_G) (cs : Nat → ClassId) (N0 : Nat) (H : Heap) (j n : Nat) (hj : j < n) (hn : n < 2147483648) : Met l y_Sg_checkIndex w_Sg_checkIndex ({ frames := 1, cells := 0, slots := 0, locals := 22 }) (hPre D cs N0 [.int (nI j), .int (nI n)] H) (hQv (fun H' => H' = H) noA) 0 0 noA := by
  refine Met.ofW (cc := prog_20_method_155_code) (maxL := 2) (ret := (Option.none : Option Jvm.ClassFile.FieldType)) (by decide) rfl ?_
  intro p e s m args below meth c s₁ B hml hv
  obtain ⟨rfl, rfl, hB⟩ := hv
  have hx := B.exec
  have hb := B.bytes
  have hr := B.returns
  have hts := atoms_spec (ws := w_Sg_checkIndex) B.pre
  have htg : ∀ w ∈ gw, w.before _ s = true := fun w h => hts w (List.mem_cons_of_mem _ h)
  have hown : s.vm.findClass "java/lang/String" = some m.cls := findClass_of_methodNamed B.named
  have hlocks := B.notSynchronized
  have hK := hB.1
  obtain ⟨H, hH⟩ : ∃ z : Heap, z = s.heap := ⟨_, rfl⟩
  have hz0 : H.size = s.heap.size := by rw [hH]
  have hN0 := hB.2.1
  have hS : va_S noA s.heap H [] := by rw [hH]; exact va_S.rf
  have hl := lv_entry ([.int (nI j), .int (nI n)]) (n := 2) (Nat.le_of_ble_eq_true rfl)
  rw [lg_entry_eq, ← hH]
  generalize (lg_sl ([.int (nI j), .int (nI n)]) ++ List.replicate (2 - (lg_sl ([.int (nI j), .int (nI n)])).length) Slot.unset).toArray = ls at hl ⊢
  have hl : lv_has ls 2 [(0, .int (nI j)), (1, .int (nI n))] := hl
  obtain ⟨rS, hSI⟩ := hB.2.2.2.2.2.2.2.2.2
  rcases rS with _ | rr
  · skip
    refine lv_iload_n hx hb d_Sg_checkIndex_0 rfl (lv_at hl 0 rfl) ?_
    refine lv_iload_n hx hb d_Sg_checkIndex_1 rfl (lv_at hl 1 rfl) ?_
    refine va_gets (v := .null) hx hb (va_Z.narrow hSI noA_in) hS hown (htg _ (gw_mem (i := 241) (by decide +kernel) rfl)) (fun _ h9 => h9) d_Sg_checkIndex_2 ?_
    refine h_purei (va_runS (As := [.int (nI j), .int (nI n), .null]) (rest := []) ⟨hx, hb, hml, hown, htg⟩ (c_Pr_checkIndex l D cs N0 H j n (by omega) (by omega)) ⟨x_cwB 3 htg (gw_mem (i := 518) (by decide +kernel) rfl) (gw_mem (i := 49) (by decide +kernel) rfl) (gw_mem (i := 572) (by decide +kernel) rfl) (by decide +kernel) ⟨Nat.le_of_ble_eq_true rfl, Nat.le_of_ble_eq_true rfl⟩, htg _ (gw_mem (i := 517) (by decide +kernel) rfl)⟩ ⟨hPre.blind, hPre.at hB hS noA_in⟩ rfl rfl hl.1 rfl (lv_room (Nat.le_of_ble_eq_true rfl)) d_Sg_checkIndex_5 ⟨Nat.le_of_ble_eq_true rfl, Nat.le_of_ble_eq_true rfl⟩) hS (fun locs hS => ?_)
    refine lv_pop hx hb d_Sg_checkIndex_8 rfl ?_
    exact W.vret hx hb hr (fun t ht hW => ⟨⟨H, rfl, rfl, ht⟩, hS.F ht⟩) hS.2.2 d_Sg_checkIndex_9
  · skip
    refine lv_iload_n hx hb d_Sg_checkIndex_0 rfl (lv_at hl 0 rfl) ?_
    refine lv_iload_n hx hb d_Sg_checkIndex_1 rfl (lv_at hl 1 rfl) ?_
    refine va_gets (v := .ref rr) hx hb (va_Z.narrow hSI noA_in) hS hown (htg _ (gw_mem (i := 241) (by decide +kernel) rfl)) (fun _ h9 => h9) d_Sg_checkIndex_2 ?_
    refine h_purei (va_runS (As := [.int (nI j), .int (nI n), .ref rr]) (rest := []) ⟨hx, hb, hml, hown, htg⟩ (c_Pr_checkIndexR l D cs N0 H j n rr (by omega) (by omega)) ⟨x_cwB 3 htg (gw_mem (i := 518) (by decide +kernel) rfl) (gw_mem (i := 49) (by decide +kernel) rfl) (gw_mem (i := 572) (by decide +kernel) rfl) (by decide +kernel) ⟨Nat.le_of_ble_eq_true rfl, Nat.le_of_ble_eq_true rfl⟩, htg _ (gw_mem (i := 517) (by decide +kernel) rfl)⟩ ⟨hPre.blind, hPre.at hB hS noA_in⟩ rfl rfl hl.1 rfl (lv_room (Nat.le_of_ble_eq_true rfl)) d_Sg_checkIndex_5 ⟨Nat.le_of_ble_eq_true rfl, Nat.le_of_ble_eq_true rfl⟩) hS (fun locs hS => ?_)
    refine lv_pop hx hb d_Sg_checkIndex_8 rfl ?_
    exact W.vret hx hb hr (fun t ht hW => ⟨⟨H, rfl, rfl, ht⟩, hS.F ht⟩) hS.2.2 d_Sg_checkIndex_9
def y_ASB_charAt : MethodName := ⟨"java/lang/AbstractStringBuilder", "charAt", "(I)C"⟩
abbrev w_ASB_charAt : List Cond := Cond.code y_ASB_charAt prog_9_method_14_code 5 (Option.some Jvm.ClassFile.FieldType.char) :: gw
theorem d_ASB_charAt_0 : decode prog_9_method_14_code 0 = .ok (.aload_n 0, 1) := by decide +kernel
theorem d_ASB_charAt_1 : decode prog_9_method_14_code 1 = .ok (.getfield 22, 3) := by decide +kernel
theorem d_ASB_charAt_4 : decode prog_9_method_14_code 4 = .ok (.istore_n 2, 1) := by decide +kernel
theorem d_ASB_charAt_5 : decode prog_9_method_14_code 5 = .ok (.aload_n 0, 1) := by decide +kernel
theorem d_ASB_charAt_6 : decode prog_9_method_14_code 6 = .ok (.getfield 15, 3) := by decide +kernel
theorem d_ASB_charAt_9 : decode prog_9_method_14_code 9 = .ok (.astore_n 3, 1) := by decide +kernel
theorem d_ASB_charAt_10 : decode prog_9_method_14_code 10 = .ok (.aload_n 0, 1) := by decide +kernel
theorem d_ASB_charAt_11 : decode prog_9_method_14_code 11 = .ok (.getfield 79, 3) := by decide +kernel
theorem d_ASB_charAt_14 : decode prog_9_method_14_code 14 = .ok (.aload_n 3, 1) := by decide +kernel
theorem d_ASB_charAt_15 : decode prog_9_method_14_code 15 = .ok (.arraylength, 1) := by decide +kernel
theorem d_ASB_charAt_16 : decode prog_9_method_14_code 16 = .ok (.iload_n 2, 1) := by decide +kernel
theorem d_ASB_charAt_17 : decode prog_9_method_14_code 17 = .ok (.ishr, 1) := by decide +kernel
theorem d_ASB_charAt_18 : decode prog_9_method_14_code 18 = .ok (.invokestatic 138, 3) := by decide +kernel
theorem d_ASB_charAt_21 : decode prog_9_method_14_code 21 = .ok (.istore 4, 2) := by decide +kernel
theorem d_ASB_charAt_23 : decode prog_9_method_14_code 23 = .ok (.iload_n 1, 1) := by decide +kernel
theorem d_ASB_charAt_24 : decode prog_9_method_14_code 24 = .ok (.iload 4, 2) := by decide +kernel
theorem d_ASB_charAt_26 : decode prog_9_method_14_code 26 = .ok (.invokestatic 144, 3) := by decide +kernel
theorem d_ASB_charAt_29 : decode prog_9_method_14_code 29 = .ok (.iload_n 2, 1) := by decide +kernel
theorem d_ASB_charAt_30 : decode prog_9_method_14_code 30 = .ok (.ifCond .ne 12, 3) := by decide +kernel
theorem d_ASB_charAt_33 : decode prog_9_method_14_code 33 = .ok (.aload_n 3, 1) := by decide +kernel
theorem d_ASB_charAt_34 : decode prog_9_method_14_code 34 = .ok (.iload_n 1, 1) := by decide +kernel
theorem d_ASB_charAt_35 : decode prog_9_method_14_code 35 = .ok (.baload, 1) := by decide +kernel
theorem d_ASB_charAt_36 : decode prog_9_method_14_code 36 = .ok (.sipush 255, 3) := by decide +kernel
theorem d_ASB_charAt_39 : decode prog_9_method_14_code 39 = .ok (.iand, 1) := by decide +kernel
theorem d_ASB_charAt_40 : decode prog_9_method_14_code 40 = .ok (.i2c, 1) := by decide +kernel
theorem d_ASB_charAt_41 : decode prog_9_method_14_code 41 = .ok (.ireturn, 1) := by decide +kernel
set_option maxHeartbeats 4000000 in
set_option maxRecDepth 100000 in
theorem c_ASB_charAt (l : Launch) (D : va_G) (cs : Nat → ClassId) (N0 : Nat) (H : Heap) (x va n j : Nat) (ml : Int32) (f : Nat → Int32) (h1 : va_at D vwCl (x, .inr (7, [.ref va, .int 0, .int ml, .int (nI n)])) H) (h2 : va_at D vwCl (va, .inl (cs 2, (16, .inl f))) H) (hj : j < n) (hn : n < 17) : Met l y_ASB_charAt w_ASB_charAt ({ frames := 2, cells := 0, slots := 0, locals := 43 }) (hPre D cs N0 [.ref x, .int (nI j)] H) (hQi (fun r H' => H' = H ∧ r = chV (f j)) noA) 0 0 noA := by
  refine Met.ofW (cc := prog_9_method_14_code) (maxL := 5) (ret := (Option.some Jvm.ClassFile.FieldType.char)) (by decide) rfl ?_
  intro p e s m args below meth c s₁ B hml hv
  obtain ⟨rfl, rfl, hB⟩ := hv
  have hx := B.exec
  have hb := B.bytes
  have hr := B.returns
  have hts := atoms_spec (ws := w_ASB_charAt) B.pre
  have htg : ∀ w ∈ gw, w.before _ s = true := fun w h => hts w (List.mem_cons_of_mem _ h)
  have hown : s.vm.findClass "java/lang/AbstractStringBuilder" = some m.cls := findClass_of_methodNamed B.named
  have hlocks := B.notSynchronized
  have hK := hB.1
  obtain ⟨H, hH⟩ : ∃ z : Heap, z = s.heap := ⟨_, rfl⟩
  have hz0 : H.size = s.heap.size := by rw [hH]
  have hN0 := hB.2.1
  rw [← hH] at h1 h2
  have hS : va_S noA s.heap H [] := by rw [hH]; exact va_S.rf
  have hl := lv_entry ([.ref x, .int (nI j)]) (n := 5) (Nat.le_of_ble_eq_true rfl)
  rw [lg_entry_eq, ← hH]
  generalize (lg_sl ([.ref x, .int (nI j)]) ++ List.replicate (5 - (lg_sl ([.ref x, .int (nI j)])).length) Slot.unset).toArray = ls at hl ⊢
  have hl : lv_has ls 5 [(0, .ref x), (1, .int (nI j))] := hl
  refine lv_aload_n hx hb d_ASB_charAt_0 rfl (lv_at hl 0 rfl) ?_
  refine hx_get (ref := "java/lang/AbstractStringBuilder") (v := .int 0) hx hb htg iSB hown hK h1 rfl 1 (by decide) (htg _ (gw_mem (i := 86) (by decide +kernel) rfl)) (fun _ h9 => h9) rfl d_ASB_charAt_1 ?_
  refine lv_istore_n (lv' := [(2, .int 0), (0, .ref x), (1, .int (nI j))]) hx hb d_ASB_charAt_4 rfl hl (by decide) rfl (fun ls hl => ?_)
  refine lv_aload_n hx hb d_ASB_charAt_5 rfl (lv_at hl 1 rfl) ?_
  refine hx_get (ref := "java/lang/AbstractStringBuilder") (v := .ref va) hx hb htg iSB hown hK h1 rfl 0 (by decide) (htg _ (gw_mem (i := 85) (by decide +kernel) rfl)) (fun _ h9 => h9) rfl d_ASB_charAt_6 ?_
  refine lv_astore_n (lv' := [(3, .ref va), (2, .int 0), (0, .ref x), (1, .int (nI j))]) hx hb d_ASB_charAt_9 rfl hl (by decide) rfl (fun ls hl => ?_)
  refine lv_aload_n hx hb d_ASB_charAt_10 rfl (lv_at hl 2 rfl) ?_
  refine hx_get (ref := "java/lang/AbstractStringBuilder") (v := .int (nI n)) hx hb htg iSB hown hK h1 rfl 3 (by decide) (htg _ (gw_mem (i := 89) (by decide +kernel) rfl)) (fun _ h9 => h9) rfl d_ASB_charAt_11 ?_
  refine lv_aload_n hx hb d_ASB_charAt_14 rfl (lv_at hl 0 rfl) ?_
  refine hx_alen (v := 16) hx hb hK 2 h2 rfl rfl d_ASB_charAt_15 ?_
  refine lv_iload_n hx hb d_ASB_charAt_16 rfl (lv_at hl 1 rfl) ?_
  refine lv_ishr (x := 16) (y := 0) hx hb d_ASB_charAt_17 ?_
  refine lv_eqi (y := 16) (by decide) ?_
  refine va_mmin (x := (nI n)) (y := 16) hx hb (hml.trans hl.1.symm) hown (htg _ (gw_mem (i := 800) (by decide +kernel) rfl)) (htg _ (gw_mem (i := 219) (by decide +kernel) rfl)) (htg _ (gw_mem (i := 45) (by decide +kernel) rfl)) (htg _ (gw_mem (w := Cond.code Lib.Math.min.name Lib.Math.min.code 2 (some .int)) (i := 220) (by decide +kernel) rfl)) (by exact Nat.le_of_ble_eq_true rfl) (by exact Nat.le_of_ble_eq_true rfl) (by exact Nat.le_of_ble_eq_true rfl) (by exact Nat.le_of_ble_eq_true rfl) d_ASB_charAt_18 ?_
  refine lv_eqi (y := (minV (nI n) 16)) rfl ?_
  refine lv_eqi (y := (nI n)) (x_min2 (a := n) (b := 16) (by omega) (by omega)) ?_
  refine lv_istore (lv' := [(4, .int (nI n)), (3, .ref va), (2, .int 0), (0, .ref x), (1, .int (nI j))]) hx hb d_ASB_charAt_21 hl (by decide) rfl (fun ls hl => ?_)
  refine lv_iload_n hx hb d_ASB_charAt_23 rfl (lv_at hl 4 rfl) ?_
  refine lv_iload hx hb d_ASB_charAt_24 (lv_at hl 0 rfl) ?_
  refine h_purev (va_runS (As := [.int (nI j), .int (nI n)]) (rest := []) ⟨hx, hb, hml, hown, htg⟩ (c_Sg_checkIndex l D cs N0 H j n (by omega) (by omega)) ⟨x_cwB 2 htg (gw_mem (i := 571) (by decide +kernel) rfl) (gw_mem (i := 33) (by decide +kernel) rfl) (gw_mem (i := 801) (by decide +kernel) rfl) (by decide +kernel) ⟨Nat.le_of_ble_eq_true rfl, Nat.le_of_ble_eq_true rfl⟩, htg _ (gw_mem (i := 570) (by decide +kernel) rfl)⟩ ⟨hPre.blind, hPre.at hB hS noA_in⟩ rfl rfl hl.1 rfl (lv_room (Nat.le_of_ble_eq_true rfl)) d_ASB_charAt_26 ⟨Nat.le_of_ble_eq_true rfl, Nat.le_of_ble_eq_true rfl⟩) hS (fun locs hS => ?_)
  refine lv_iload_n hx hb d_ASB_charAt_29 rfl (lv_at hl 2 rfl) ?_
  refine lv_if_ne (x := 0) (tgt := 42) hx hb d_ASB_charAt_30 (by decide) (fun c30 => ?_) (fun c30 => ?_)
  · exact absurd c30 (by decide)
  · skip
    refine lv_aload_n hx hb d_ASB_charAt_33 rfl (lv_at hl 1 rfl) ?_
    refine lv_iload_n hx hb d_ASB_charAt_34 rfl (lv_at hl 4 rfl) ?_
    refine hx_bald hx hb hK 2 h2 rfl (show vp_in (nI j) 16 from vp_in_nI (n := j) (by omega) (by omega)) d_ASB_charAt_35 ?_
    refine lv_eqi (y := (f j)) (show f (nI j).toNatClampNeg = _ by rw [nI_clamp (by omega)]) ?_
    refine lv_sipush (v := 255) hx hb d_ASB_charAt_36 (by decide) ?_
    refine lv_iand (x := (f j)) (y := 255) hx hb d_ASB_charAt_39 ?_
    refine lv_i2c (x := ((f j) &&& 255)) (v := (chV (f j))) hx hb d_ASB_charAt_40 rfl ?_
    exact W.zret (v := (chV (f j))) hx hb hr (x_narc _) (fun t ht hW => ⟨⟨(chV (f j)), H, rfl, ⟨rfl, rfl⟩, ht⟩, hS.F ht⟩) hS.2.2 d_ASB_charAt_41
def y_SB_charAt : MethodName := ⟨"java/lang/StringBuilder", "charAt", "(I)C"⟩
abbrev w_SB_charAt : List Cond := Cond.code y_SB_charAt prog_21_method_88_code 2 (Option.some Jvm.ClassFile.FieldType.char) :: gw
theorem d_SB_charAt_0 : decode prog_21_method_88_code 0 = .ok (.aload_n 0, 1) := by decide +kernel
theorem d_SB_charAt_1 : decode prog_21_method_88_code 1 = .ok (.iload_n 1, 1) := by decide +kernel
theorem d_SB_charAt_2 : decode prog_21_method_88_code 2 = .ok (.invokespecial 329, 3) := by decide +kernel
theorem d_SB_charAt_5 : decode prog_21_method_88_code 5 = .ok (.ireturn, 1) := by decide +kernel
set_option maxHeartbeats 4000000 in
set_option maxRecDepth 100000 in
theorem c_SB_charAt (l : Launch) (D : va_G) (cs : Nat → ClassId) (N0 : Nat) (H : Heap) (x va n j : Nat) (ml : Int32) (f : Nat → Int32) (h1 : va_at D vwCl (x, .inr (7, [.ref va, .int 0, .int ml, .int (nI n)])) H) (h2 : va_at D vwCl (va, .inl (cs 2, (16, .inl f))) H) (hj : j < n) (hn : n < 17) : Met l y_SB_charAt w_SB_charAt ({ frames := 3, cells := 0, slots := 0, locals := 67 }) (hPre D cs N0 [.ref x, .int (nI j)] H) (hQi (fun r H' => H' = H ∧ r = chV (f j)) noA) 0 0 noA := by
  refine Met.ofW (cc := prog_21_method_88_code) (maxL := 2) (ret := (Option.some Jvm.ClassFile.FieldType.char)) (by decide) rfl ?_
  intro p e s m args below meth c s₁ B hml hv
  obtain ⟨rfl, rfl, hB⟩ := hv
  have hx := B.exec
  have hb := B.bytes
  have hr := B.returns
  have hts := atoms_spec (ws := w_SB_charAt) B.pre
  have htg : ∀ w ∈ gw, w.before _ s = true := fun w h => hts w (List.mem_cons_of_mem _ h)
  have hown : s.vm.findClass "java/lang/StringBuilder" = some m.cls := findClass_of_methodNamed B.named
  have hlocks := B.notSynchronized
  have hK := hB.1
  obtain ⟨H, hH⟩ : ∃ z : Heap, z = s.heap := ⟨_, rfl⟩
  have hz0 : H.size = s.heap.size := by rw [hH]
  have hN0 := hB.2.1
  rw [← hH] at h1 h2
  have hS : va_S noA s.heap H [] := by rw [hH]; exact va_S.rf
  have hl := lv_entry ([.ref x, .int (nI j)]) (n := 2) (Nat.le_of_ble_eq_true rfl)
  rw [lg_entry_eq, ← hH]
  generalize (lg_sl ([.ref x, .int (nI j)]) ++ List.replicate (2 - (lg_sl ([.ref x, .int (nI j)])).length) Slot.unset).toArray = ls at hl ⊢
  have hl : lv_has ls 2 [(0, .ref x), (1, .int (nI j))] := hl
  refine lv_aload_n hx hb d_SB_charAt_0 rfl (lv_at hl 0 rfl) ?_
  refine lv_iload_n hx hb d_SB_charAt_1 rfl (lv_at hl 1 rfl) ?_
  refine h_purei (va_runSU (x_at hK (ci := 7) rfl) (As := [.int (nI j)]) (rest := []) ⟨hx, hb, hml, hown, htg⟩ (c_ASB_charAt l D cs N0 H x va n j ml f h1 h2 (by omega) (by omega)) (va_cwSU 1 htg (gw_sub (gw_cons (gw_mem (i := 797) (by decide +kernel) rfl) (gw_cons (gw_mem (i := 1234) (by decide +kernel) rfl) (gw_cons (gw_mem (i := 98) (by decide +kernel) rfl) (gw_cons (gw_mem (i := 798) (by decide +kernel) rfl) (gw_cons (gw_mem (i := 31) (by decide +kernel) rfl) (gw_cons (gw_mem (i := 799) (by decide +kernel) rfl) (fun _ h => h)))))))) rfl rfl rfl (by decide +kernel) ⟨Nat.le_of_ble_eq_true rfl, Nat.le_of_ble_eq_true rfl⟩) ⟨hPre.blind, hx_recv hK (ci := 7) rfl h1, hPre.at hB hS noA_in⟩ rfl rfl hl.1 rfl (lv_room (Nat.le_of_ble_eq_true rfl)) d_SB_charAt_2 ⟨Nat.le_of_ble_eq_true rfl, Nat.le_of_ble_eq_true rfl⟩) hS (fun locs hS => ?_)
  exact W.zret (v := (chV (f j))) hx hb hr (x_narc _) (fun t ht hW => ⟨⟨(chV (f j)), H, rfl, ⟨rfl, rfl⟩, ht⟩, hS.F ht⟩) hS.2.2 d_SB_charAt_5
def y_Ar_checkLength : MethodName := ⟨"java/util/Arrays", "checkLength", "(II)V"⟩
abbrev w_Ar_checkLength : List Cond := Cond.code y_Ar_checkLength prog_30_method_131_code 2 (Option.none : Option Jvm.ClassFile.FieldType) :: gw
theorem d_Ar_checkLength_0 : decode prog_30_method_131_code 0 = .ok (.iload_n 1, 1) := by decide +kernel
theorem d_Ar_checkLength_1 : decode prog_30_method_131_code 1 = .ok (.iload_n 0, 1) := by decide +kernel
theorem d_Ar_checkLength_2 : decode prog_30_method_131_code 2 = .ok (.if_icmp .ge 35, 3) := by decide +kernel
theorem d_Ar_checkLength_37 : decode prog_30_method_131_code 37 = .ok (.return_, 1) := by decide +kernel
set_option maxHeartbeats 4000000 in
set_option maxRecDepth 100000 in
theorem c_Ar_checkLength (l : Launch) (D : va_G) (cs : Nat → ClassId) (N0 : Nat) (H : Heap) (n : Nat) (hn : n < 2147483648) : Met l y_Ar_checkLength w_Ar_checkLength ({ frames := 0, cells := 0, slots := 0, locals := 0 }) (hPre D cs N0 [.int 0, .int (nI n)] H) (hQv (fun H' => H' = H) noA) 0 0 noA := by
  refine Met.ofW (cc := prog_30_method_131_code) (maxL := 2) (ret := (Option.none : Option Jvm.ClassFile.FieldType)) (by decide) rfl ?_
  intro p e s m args below meth c s₁ B hml hv
  obtain ⟨rfl, rfl, hB⟩ := hv
  have hx := B.exec
  have hb := B.bytes
  have hr := B.returns
  have hts := atoms_spec (ws := w_Ar_checkLength) B.pre
  have htg : ∀ w ∈ gw, w.before _ s = true := fun w h => hts w (List.mem_cons_of_mem _ h)
  have hown : s.vm.findClass "java/util/Arrays" = some m.cls := findClass_of_methodNamed B.named
  have hlocks := B.notSynchronized
  have hK := hB.1
  obtain ⟨H, hH⟩ : ∃ z : Heap, z = s.heap := ⟨_, rfl⟩
  have hz0 : H.size = s.heap.size := by rw [hH]
  have hN0 := hB.2.1
  have hS : va_S noA s.heap H [] := by rw [hH]; exact va_S.rf
  have hl := lv_entry ([.int 0, .int (nI n)]) (n := 2) (Nat.le_of_ble_eq_true rfl)
  rw [lg_entry_eq, ← hH]
  generalize (lg_sl ([.int 0, .int (nI n)]) ++ List.replicate (2 - (lg_sl ([.int 0, .int (nI n)])).length) Slot.unset).toArray = ls at hl ⊢
  have hl : lv_has ls 2 [(0, .int 0), (1, .int (nI n))] := hl
  refine lv_iload_n hx hb d_Ar_checkLength_0 rfl (lv_at hl 1 rfl) ?_
  refine lv_iload_n hx hb d_Ar_checkLength_1 rfl (lv_at hl 0 rfl) ?_
  refine lv_icmp_ge (x := (nI n)) (y := 0) (tgt := 37) hx hb d_Ar_checkLength_2 (by decide) (fun c2 => ?_) (fun c2 => ?_)
  · skip
    replace c2 : 0 ≤ n := (nI_leI (a := 0) (b := n) (by omega) (by omega)).mp c2
    exact W.vret hx hb hr (fun t ht hW => ⟨⟨H, rfl, rfl, ht⟩, hS.F ht⟩) hS.2.2 d_Ar_checkLength_37
  · skip
    replace c2 : ¬ (0 ≤ n) := fun z9 => c2 ((nI_leI (a := 0) (b := n) (by omega) (by omega)).mpr z9)
    exact absurd (Nat.zero_le n) c2
def y_Ar_copyRB : MethodName := ⟨"java/util/Arrays", "copyOfRangeByte", "([BII)[B"⟩
abbrev w_Ar_copyRB : List Cond := Cond.code y_Ar_copyRB prog_30_method_133_code 5 (Option.some (Jvm.ClassFile.FieldType.array Jvm.ClassFile.FieldType.byte)) :: gw
theorem d_Ar_copyRB_0 : decode prog_30_method_133_code 0 = .ok (.iload_n 1, 1) := by decide +kernel
theorem d_Ar_copyRB_1 : decode prog_30_method_133_code 1 = .ok (.iload_n 2, 1) := by decide +kernel
theorem d_Ar_copyRB_2 : decode prog_30_method_133_code 2 = .ok (.invokestatic 343, 3) := by decide +kernel
theorem d_Ar_copyRB_5 : decode prog_30_method_133_code 5 = .ok (.iload_n 2, 1) := by decide +kernel
theorem d_Ar_copyRB_6 : decode prog_30_method_133_code 6 = .ok (.iload_n 1, 1) := by decide +kernel
theorem d_Ar_copyRB_7 : decode prog_30_method_133_code 7 = .ok (.isub, 1) := by decide +kernel
theorem d_Ar_copyRB_8 : decode prog_30_method_133_code 8 = .ok (.istore_n 3, 1) := by decide +kernel
theorem d_Ar_copyRB_9 : decode prog_30_method_133_code 9 = .ok (.iload_n 3, 1) := by decide +kernel
theorem d_Ar_copyRB_10 : decode prog_30_method_133_code 10 = .ok (.newarray .byte, 2) := by decide +kernel
theorem d_Ar_copyRB_12 : decode prog_30_method_133_code 12 = .ok (.astore 4, 2) := by decide +kernel
theorem d_Ar_copyRB_14 : decode prog_30_method_133_code 14 = .ok (.aload_n 0, 1) := by decide +kernel
theorem d_Ar_copyRB_15 : decode prog_30_method_133_code 15 = .ok (.iload_n 1, 1) := by decide +kernel
theorem d_Ar_copyRB_16 : decode prog_30_method_133_code 16 = .ok (.aload 4, 2) := by decide +kernel
theorem d_Ar_copyRB_18 : decode prog_30_method_133_code 18 = .ok (.iconst 0, 1) := by decide +kernel
theorem d_Ar_copyRB_19 : decode prog_30_method_133_code 19 = .ok (.aload_n 0, 1) := by decide +kernel
theorem d_Ar_copyRB_20 : decode prog_30_method_133_code 20 = .ok (.arraylength, 1) := by decide +kernel
theorem d_Ar_copyRB_21 : decode prog_30_method_133_code 21 = .ok (.iload_n 1, 1) := by decide +kernel
theorem d_Ar_copyRB_22 : decode prog_30_method_133_code 22 = .ok (.isub, 1) := by decide +kernel
theorem d_Ar_copyRB_23 : decode prog_30_method_133_code 23 = .ok (.iload_n 3, 1) := by decide +kernel
theorem d_Ar_copyRB_24 : decode prog_30_method_133_code 24 = .ok (.invokestatic 304, 3) := by decide +kernel
theorem d_Ar_copyRB_27 : decode prog_30_method_133_code 27 = .ok (.invokestatic 150, 3) := by decide +kernel
theorem d_Ar_copyRB_30 : decode prog_30_method_133_code 30 = .ok (.aload 4, 2) := by decide +kernel
theorem d_Ar_copyRB_32 : decode prog_30_method_133_code 32 = .ok (.areturn, 1) := by decide +kernel
set_option maxHeartbeats 4000000 in
set_option maxRecDepth 100000 in
theorem c_Ar_copyRB (l : Launch) (D : va_G) (cs : Nat → ClassId) (N0 : Nat) (H : Heap) (va n N : Nat) (f : Nat → Int32) (h2 : va_at D vwCl (va, .inl (cs 2, (16, .inl f))) H) (hN : N = H.size) (hv0 : N0 ≤ va) (hn : n < 16) (hfit : ∀ i, i < n → fits .byte (.int (f i)) = true) : Met l y_Ar_copyRB w_Ar_copyRB ({ frames := 1, cells := 1, slots := 16, locals := 40 }) (hPre D cs N0 [.ref va, .int 0, .int (nI n)] H) (hQq (fun r H' => r = some N ∧ va_at D vwCl (va, .inl (cs 2, (16, .inl f))) H' ∧ va_at D vwCl (N, .inl (cs 2, (n, .inl (va_cpy f (fun _ => 0) 0 0 n)))) H') (jA [va] N)) 1 16 (jA [va] N) := by
  refine Met.ofW (cc := prog_30_method_133_code) (maxL := 5) (ret := (Option.some (Jvm.ClassFile.FieldType.array Jvm.ClassFile.FieldType.byte))) (by decide) rfl ?_
  intro p e s m args below meth c s₁ B hml hv
  obtain ⟨rfl, rfl, hB⟩ := hv
  have hx := B.exec
  have hb := B.bytes
  have hr := B.returns
  have hts := atoms_spec (ws := w_Ar_copyRB) B.pre
  have htg : ∀ w ∈ gw, w.before _ s = true := fun w h => hts w (List.mem_cons_of_mem _ h)
  have hown : s.vm.findClass "java/util/Arrays" = some m.cls := findClass_of_methodNamed B.named
  have hlocks := B.notSynchronized
  have hAN : ∀ q, (jA [va] N) q → N0 ≤ q := jA_sub1 hv0 (fun q9 h9 => Nat.le_trans hB.2.1 (hN ▸ h9))
  have hK := hB.1
  obtain ⟨H, hH⟩ : ∃ z : Heap, z = s.heap := ⟨_, rfl⟩
  have hz0 : H.size = s.heap.size := by rw [hH]
  have hN0 := hB.2.1
  rw [← hH] at h2
  have hS : va_S (jA [va] N) s.heap H [] := by rw [hH]; exact va_S.rf
  have hl := lv_entry ([.ref va, .int 0, .int (nI n)]) (n := 5) (Nat.le_of_ble_eq_true rfl)
  rw [lg_entry_eq, ← hH]
  generalize (lg_sl ([.ref va, .int 0, .int (nI n)]) ++ List.replicate (5 - (lg_sl ([.ref va, .int 0, .int (nI n)])).length) Slot.unset).toArray = ls at hl ⊢
  have hl : lv_has ls 5 [(0, .ref va), (1, .int 0), (2, .int (nI n))] := hl
  refine lv_iload_n hx hb d_Ar_copyRB_0 rfl (lv_at hl 1 rfl) ?_
  refine lv_iload_n hx hb d_Ar_copyRB_1 rfl (lv_at hl 2 rfl) ?_
  refine h_purev (va_runS (As := [.int 0, .int (nI n)]) (rest := []) ⟨hx, hb, hml, hown, htg⟩ (c_Ar_checkLength l D cs N0 H n (by omega)) ⟨x_cwB 2 htg (gw_mem (i := 351) (by decide +kernel) rfl) (gw_mem (i := 46) (by decide +kernel) rfl) (gw_mem (i := 349) (by decide +kernel) rfl) (by decide +kernel) ⟨Nat.le_of_ble_eq_true rfl, Nat.le_of_ble_eq_true rfl⟩, htg _ (gw_mem (i := 350) (by decide +kernel) rfl)⟩ ⟨hPre.blind, hPre.at hB hS hAN⟩ rfl rfl hl.1 rfl (lv_room (Nat.le_of_ble_eq_true rfl)) d_Ar_copyRB_2 ⟨Nat.le_of_ble_eq_true rfl, Nat.le_of_ble_eq_true rfl⟩) hS (fun locs hS => ?_)
  refine lv_iload_n hx hb d_Ar_copyRB_5 rfl (lv_at hl 2 rfl) ?_
  refine lv_iload_n hx hb d_Ar_copyRB_6 rfl (lv_at hl 1 rfl) ?_
  refine lv_isub (x := (nI n)) (y := 0) hx hb d_Ar_copyRB_7 ?_
  refine lv_eqi (y := (nI n)) (Int32.sub_zero _) ?_
  refine lv_istore_n (lv' := [(3, .int (nI n)), (0, .ref va), (1, .int 0), (2, .int (nI n))]) hx hb d_Ar_copyRB_8 rfl hl (by decide) rfl (fun ls hl => ?_)
  refine lv_iload_n hx hb d_Ar_copyRB_9 rfl (lv_at hl 0 rfl) ?_
  obtain ⟨bq, hbq⟩ : ∃ z : Nat, z = H.size := ⟨_, rfl⟩
  have hlt_q2 : va < bq := hbq ▸ hx_lt h2
  refine hx_newa (atype := .byte) (cA := cs 2) (N' := n) (a0 := (n, .inl (fun _ => 0))) hx hb (htg _ (gw_mem (i := 99) (by decide +kernel) rfl)) hK hS 2 rfl rfl (nI_pos (by omega)) (nI_clamp (by omega)) (show n * 1 ≤ 536870912 by omega) (Nat.le_of_ble_eq_true rfl) (Nat.le_trans (show 0 + n ≤ 16 by omega) (Nat.le_of_ble_eq_true rfl)) d_Ar_copyRB_10 (fun H hat hz ho hS => ?_)
  refine W.widen (k := 1) (n := 16) (Nat.le_refl _) (by omega) ?_
  rw [← hbq] at hat hz ho
  rw [← hbq]
  have hO1 : va_at D vwCl (bq, .inl (cs 2, (n, .inl (fun _ => 0)))) H := hat
  replace h2 := hx_keep h2 (ho _ (by omega))
  refine lv_astore (lv' := [(4, .ref bq), (3, .int (nI n)), (0, .ref va), (1, .int 0), (2, .int (nI n))]) hx hb d_Ar_copyRB_12 hl (by decide) rfl (fun ls hl => ?_)
  refine lv_aload_n hx hb d_Ar_copyRB_14 rfl (lv_at hl 2 rfl) ?_
  refine lv_iload_n hx hb d_Ar_copyRB_15 rfl (lv_at hl 3 rfl) ?_
  refine lv_aload hx hb d_Ar_copyRB_16 (lv_at hl 0 rfl) ?_
  refine lv_iconst (v := 0) hx hb d_Ar_copyRB_18 (by decide) ?_
  refine lv_aload_n hx hb d_Ar_copyRB_19 rfl (lv_at hl 2 rfl) ?_
  refine hx_alen (v := 16) hx hb hK 2 h2 rfl rfl d_Ar_copyRB_20 ?_
  refine lv_iload_n hx hb d_Ar_copyRB_21 rfl (lv_at hl 3 rfl) ?_
  refine lv_isub (x := 16) (y := 0) hx hb d_Ar_copyRB_22 ?_
  refine lv_eqi (y := 16) (by decide) ?_
  refine lv_iload_n hx hb d_Ar_copyRB_23 rfl (lv_at hl 1 rfl) ?_
  refine va_mmin (x := 16) (y := (nI n)) hx hb (hml.trans hl.1.symm) hown (htg _ (gw_mem (i := 218) (by decide +kernel) rfl)) (htg _ (gw_mem (i := 219) (by decide +kernel) rfl)) (htg _ (gw_mem (i := 45) (by decide +kernel) rfl)) (htg _ (gw_mem (w := Cond.code Lib.Math.min.name Lib.Math.min.code 2 (some .int)) (i := 220) (by decide +kernel) rfl)) (by exact Nat.le_of_ble_eq_true rfl) (by exact Nat.le_of_ble_eq_true rfl) (by exact Nat.le_of_ble_eq_true rfl) (by exact Nat.le_of_ble_eq_true rfl) d_Ar_copyRB_24 ?_
  refine lv_eqi (y := (minV 16 (nI n))) rfl ?_
  refine lv_eqi (y := (nI n)) (x_min (a := 16) (b := n) (by omega) (by omega)) ?_
  refine hx_copyi hx hb (hml.trans hl.1.symm) hown (htg _ (gw_mem (i := 221) (by decide +kernel) rfl)) (htg _ (gw_mem (i := 223) (by decide +kernel) rfl)) (htg _ (gw_mem (i := 222) (by decide +kernel) rfl)) (htg _ (gw_mem (i := 47) (by decide +kernel) rfl)) hK 2 h2 hO1 (show va ≠ bq by omega) jA_in1 (Or.inr (show N ≤ bq by omega)) hS rfl rfl (show n ≤ 16 by omega) (show n ≤ n by omega) (by omega) hfit (Nat.le_of_ble_eq_true rfl) (Nat.le_of_ble_eq_true rfl) d_Ar_copyRB_27 (fun H locs h0c h1c hS => ?_)
  replace h2 := h0c
  replace hO1 : va_at D vwCl (bq, .inl (cs 2, (n, .inl (va_cpy f ((fun _ => 0)) 0 0 n)))) H := h1c
  refine lv_aload hx hb d_Ar_copyRB_30 (lv_at hl 0 rfl) ?_
  exact W.aret (v := .ref bq) hx hb hr (Or.inr ⟨_, rfl⟩) (Or.inr ⟨_, rfl⟩) (fun t ht hW => ⟨⟨some bq, H, rfl, (show bq = N by omega) ▸ ⟨rfl, h2, hO1⟩, ht⟩, hS.F ht⟩) hS.2.2 d_Ar_copyRB_32
def y_Ar_copyR : MethodName := ⟨"java/util/Arrays", "copyOfRange", "([BII)[B"⟩
abbrev w_Ar_copyR : List Cond := Cond.code y_Ar_copyR prog_30_method_132_code 3 (Option.some (Jvm.ClassFile.FieldType.array Jvm.ClassFile.FieldType.byte)) :: gw
theorem d_Ar_copyR_0 : decode prog_30_method_132_code 0 = .ok (.iload_n 1, 1) := by decide +kernel
theorem d_Ar_copyR_1 : decode prog_30_method_132_code 1 = .ok (.ifCond .ne 9, 3) := by decide +kernel
theorem d_Ar_copyR_4 : decode prog_30_method_132_code 4 = .ok (.iload_n 2, 1) := by decide +kernel
theorem d_Ar_copyR_5 : decode prog_30_method_132_code 5 = .ok (.aload_n 0, 1) := by decide +kernel
theorem d_Ar_copyR_6 : decode prog_30_method_132_code 6 = .ok (.arraylength, 1) := by decide +kernel
theorem d_Ar_copyR_7 : decode prog_30_method_132_code 7 = .ok (.if_icmp .eq 10, 3) := by decide +kernel
theorem d_Ar_copyR_10 : decode prog_30_method_132_code 10 = .ok (.aload_n 0, 1) := by decide +kernel
theorem d_Ar_copyR_11 : decode prog_30_method_132_code 11 = .ok (.iload_n 1, 1) := by decide +kernel
theorem d_Ar_copyR_12 : decode prog_30_method_132_code 12 = .ok (.iload_n 2, 1) := by decide +kernel
theorem d_Ar_copyR_13 : decode prog_30_method_132_code 13 = .ok (.invokestatic 339, 3) := by decide +kernel
theorem d_Ar_copyR_16 : decode prog_30_method_132_code 16 = .ok (.areturn, 1) := by decide +kernel
set_option maxHeartbeats 4000000 in
set_option maxRecDepth 100000 in
theorem c_Ar_copyR (l : Launch) (D : va_G) (cs : Nat → ClassId) (N0 : Nat) (H : Heap) (va n N : Nat) (f : Nat → Int32) (h2 : va_at D vwCl (va, .inl (cs 2, (16, .inl f))) H) (hN : N = H.size) (hv0 : N0 ≤ va) (hn : n < 16) (hfit : ∀ i, i < n → fits .byte (.int (f i)) = true) : Met l y_Ar_copyR w_Ar_copyR ({ frames := 2, cells := 1, slots := 16, locals := 64 }) (hPre D cs N0 [.ref va, .int 0, .int (nI n)] H) (hQq (fun r H' => r = some N ∧ va_at D vwCl (va, .inl (cs 2, (16, .inl f))) H' ∧ va_at D vwCl (N, .inl (cs 2, (n, .inl (va_cpy f (fun _ => 0) 0 0 n)))) H') (jA [va] N)) 1 16 (jA [va] N) := by
  refine Met.ofW (cc := prog_30_method_132_code) (maxL := 3) (ret := (Option.some (Jvm.ClassFile.FieldType.array Jvm.ClassFile.FieldType.byte))) (by decide) rfl ?_
  intro p e s m args below meth c s₁ B hml hv
  obtain ⟨rfl, rfl, hB⟩ := hv
  have hx := B.exec
  have hb := B.bytes
  have hr := B.returns
  have hts := atoms_spec (ws := w_Ar_copyR) B.pre
  have htg : ∀ w ∈ gw, w.before _ s = true := fun w h => hts w (List.mem_cons_of_mem _ h)
  have hown : s.vm.findClass "java/util/Arrays" = some m.cls := findClass_of_methodNamed B.named
  have hlocks := B.notSynchronized
  have hAN : ∀ q, (jA [va] N) q → N0 ≤ q := jA_sub1 hv0 (fun q9 h9 => Nat.le_trans hB.2.1 (hN ▸ h9))
  have hK := hB.1
  obtain ⟨H, hH⟩ : ∃ z : Heap, z = s.heap := ⟨_, rfl⟩
  have hz0 : H.size = s.heap.size := by rw [hH]
  have hN0 := hB.2.1
  rw [← hH] at h2
  have hS : va_S (jA [va] N) s.heap H [] := by rw [hH]; exact va_S.rf
  have hl := lv_entry ([.ref va, .int 0, .int (nI n)]) (n := 3) (Nat.le_of_ble_eq_true rfl)
  rw [lg_entry_eq, ← hH]
  generalize (lg_sl ([.ref va, .int 0, .int (nI n)]) ++ List.replicate (3 - (lg_sl ([.ref va, .int 0, .int (nI n)])).length) Slot.unset).toArray = ls at hl ⊢
  have hl : lv_has ls 3 [(0, .ref va), (1, .int 0), (2, .int (nI n))] := hl
  refine lv_iload_n hx hb d_Ar_copyR_0 rfl (lv_at hl 1 rfl) ?_
  refine lv_if_ne (x := 0) (tgt := 10) hx hb d_Ar_copyR_1 (by decide) (fun c1 => ?_) (fun c1 => ?_)
  · exact absurd c1 (by decide)
  · skip
    refine lv_iload_n hx hb d_Ar_copyR_4 rfl (lv_at hl 2 rfl) ?_
    refine lv_aload_n hx hb d_Ar_copyR_5 rfl (lv_at hl 0 rfl) ?_
    refine hx_alen (v := 16) hx hb hK 2 h2 rfl rfl d_Ar_copyR_6 ?_
    refine lv_icmp_eq (x := (nI n)) (y := 16) (tgt := 17) hx hb d_Ar_copyR_7 (by decide) (fun c7 => ?_) (fun c7 => ?_)
    · skip
      replace c7 : n = 16 := (nI_eq (a := n) (b := 16) (by omega) (by omega)).mp c7
      exact absurd c7 (by omega)
    · skip
      replace c7 : ¬ (n = 16) := fun z9 => c7 ((nI_eq (a := n) (b := 16) (by omega) (by omega)).mpr z9)
      refine lv_aload_n hx hb d_Ar_copyR_10 rfl (lv_at hl 0 rfl) ?_
      refine lv_iload_n hx hb d_Ar_copyR_11 rfl (lv_at hl 1 rfl) ?_
      refine lv_iload_n hx hb d_Ar_copyR_12 rfl (lv_at hl 2 rfl) ?_
      obtain ⟨nq1, hnq1⟩ : ∃ z : Nat, z = H.size := ⟨_, rfl⟩
      have hlt_q2 := hx_lt h2
      refine h_callq (va_runS (As := [.ref va, .int 0, .int (nI n)]) (rest := []) ⟨hx, hb, hml, hown, htg⟩ (c_Ar_copyRB l D cs N0 H va n nq1 f h2 hnq1 (by omega) (by omega) hfit) ⟨x_cwB 3 htg (gw_mem (i := 348) (by decide +kernel) rfl) (gw_mem (i := 46) (by decide +kernel) rfl) (gw_mem (i := 346) (by decide +kernel) rfl) (by decide +kernel) ⟨Nat.le_of_ble_eq_true rfl, Nat.le_of_ble_eq_true rfl⟩, htg _ (gw_mem (i := 347) (by decide +kernel) rfl)⟩ ⟨hPre.blind, hPre.at hB hS hAN⟩ rfl rfl hl.1 rfl (lv_room (Nat.le_of_ble_eq_true rfl)) d_Ar_copyR_13 ⟨Nat.le_of_ble_eq_true rfl, Nat.le_of_ble_eq_true rfl⟩) hS (jA_sub1 jA_in1 (fun q9 h9 => Or.inr (show N ≤ q9 by omega))) (fun r13 H locs hp hz hk hS => ?_)
      obtain ⟨hr9, hO3, hO4⟩ := hp
      subst hr9
      refine lv_eqv (y := .ref nq1) rfl ?_
      exact W.aret (v := .ref nq1) hx hb hr (Or.inr ⟨_, rfl⟩) (Or.inr ⟨_, rfl⟩) (fun t ht hW => ⟨⟨some nq1, H, rfl, (show nq1 = N by omega) ▸ ⟨rfl, hO3, hO4⟩, ht⟩, hS.F ht⟩) hS.2.2 d_Ar_copyR_16
def y_Sg_initA : MethodName := ⟨"java/lang/String", "<init>", "(Ljava/lang/AbstractStringBuilder;Ljava/lang/Void;)V"⟩
abbrev w_Sg_initA : List Cond := Cond.code y_Sg_initA prog_20_method_150_code 5 (Option.none : Option Jvm.ClassFile.FieldType) :: gw
theorem d_Sg_initA_0 : decode prog_20_method_150_code 0 = .ok (.aload_n 0, 1) := by decide +kernel
theorem d_Sg_initA_1 : decode prog_20_method_150_code 1 = .ok (.invokespecial 1, 3) := by decide +kernel
theorem d_Sg_initA_4 : decode prog_20_method_150_code 4 = .ok (.aload_n 1, 1) := by decide +kernel
theorem d_Sg_initA_5 : decode prog_20_method_150_code 5 = .ok (.invokevirtual 552, 3) := by decide +kernel
theorem d_Sg_initA_8 : decode prog_20_method_150_code 8 = .ok (.astore_n 3, 1) := by decide +kernel
theorem d_Sg_initA_9 : decode prog_20_method_150_code 9 = .ok (.aload_n 1, 1) := by decide +kernel
theorem d_Sg_initA_10 : decode prog_20_method_150_code 10 = .ok (.invokevirtual 549, 3) := by decide +kernel
theorem d_Sg_initA_13 : decode prog_20_method_150_code 13 = .ok (.istore 4, 2) := by decide +kernel
theorem d_Sg_initA_15 : decode prog_20_method_150_code 15 = .ok (.aload_n 1, 1) := by decide +kernel
theorem d_Sg_initA_16 : decode prog_20_method_150_code 16 = .ok (.invokevirtual 1047, 3) := by decide +kernel
theorem d_Sg_initA_19 : decode prog_20_method_150_code 19 = .ok (.ifCond .eq 22, 3) := by decide +kernel
theorem d_Sg_initA_22 : decode prog_20_method_150_code 22 = .ok (.aload_n 0, 1) := by decide +kernel
theorem d_Sg_initA_23 : decode prog_20_method_150_code 23 = .ok (.iconst 0, 1) := by decide +kernel
theorem d_Sg_initA_24 : decode prog_20_method_150_code 24 = .ok (.putfield 15, 3) := by decide +kernel
theorem d_Sg_initA_27 : decode prog_20_method_150_code 27 = .ok (.aload_n 0, 1) := by decide +kernel
theorem d_Sg_initA_28 : decode prog_20_method_150_code 28 = .ok (.aload_n 3, 1) := by decide +kernel
theorem d_Sg_initA_29 : decode prog_20_method_150_code 29 = .ok (.iconst 0, 1) := by decide +kernel
theorem d_Sg_initA_30 : decode prog_20_method_150_code 30 = .ok (.iload 4, 2) := by decide +kernel
theorem d_Sg_initA_32 : decode prog_20_method_150_code 32 = .ok (.invokestatic 54, 3) := by decide +kernel
theorem d_Sg_initA_35 : decode prog_20_method_150_code 35 = .ok (.putfield 9, 3) := by decide +kernel
theorem d_Sg_initA_38 : decode prog_20_method_150_code 38 = .ok (.goto 59, 3) := by decide +kernel
theorem d_Sg_initA_97 : decode prog_20_method_150_code 97 = .ok (.return_, 1) := by decide +kernel
set_option maxHeartbeats 4000000 in
set_option maxRecDepth 100000 in
theorem c_Sg_initA (l : Launch) (D : va_G) (cs : Nat → ClassId) (N0 : Nat) (H : Heap) (x y va n N : Nat) (ml : Int32) (f : Nat → Int32) (h0 : va_at D vwCl (x, .inr (8, [.null, .int 0, .int 0, .int 0])) H) (h1 : va_at D vwCl (y, .inr (7, [.ref va, .int 0, .int ml, .int (nI n)])) H) (h2 : va_at D vwCl (va, .inl (cs 2, (16, .inl f))) H) (hN : N = H.size) (hx0 : N0 ≤ x) (hv0 : N0 ≤ va) (hxy : x ≠ y) (hxv : x ≠ va) (hyv : y ≠ va) (hn : n < 16) (hfit : ∀ i, i < n → fits .byte (.int (f i)) = true) : Met l y_Sg_initA w_Sg_initA ({ frames := 3, cells := 1, slots := 16, locals := 86 }) (hPre D cs N0 [.ref x, .ref y, .null] H) (hQv (fun H' => va_at D vwCl (x, .inr (8, [.ref N, .int 0, .int 0, .int 0])) H' ∧ va_at D vwCl (va, .inl (cs 2, (16, .inl f))) H' ∧ va_at D vwCl (N, .inl (cs 2, (n, .inl (va_cpy f (fun _ => 0) 0 0 n)))) H') (jA [x, va] N)) 1 16 (jA [x, va] N) := by
  refine Met.ofW (cc := prog_20_method_150_code) (maxL := 5) (ret := (Option.none : Option Jvm.ClassFile.FieldType)) (by decide) rfl ?_
  intro p e s m args below meth c s₁ B hml hv
  obtain ⟨rfl, rfl, hB⟩ := hv
  have hx := B.exec
  have hb := B.bytes
  have hr := B.returns
  have hts := atoms_spec (ws := w_Sg_initA) B.pre
  have htg : ∀ w ∈ gw, w.before _ s = true := fun w h => hts w (List.mem_cons_of_mem _ h)
  have hown : s.vm.findClass "java/lang/String" = some m.cls := findClass_of_methodNamed B.named
  have hlocks := B.notSynchronized
  have hin : meth.name = "<init>" := (name_of_methodNamed B.named B.method).1
  have hAN : ∀ q, (jA [x, va] N) q → N0 ≤ q := jA_sub2 hx0 hv0 (fun q9 h9 => Nat.le_trans hB.2.1 (hN ▸ h9))
  have hK := hB.1
  obtain ⟨H, hH⟩ : ∃ z : Heap, z = s.heap := ⟨_, rfl⟩
  have hz0 : H.size = s.heap.size := by rw [hH]
  have hN0 := hB.2.1
  rw [← hH] at h0 h1 h2
  have hS : va_S (jA [x, va] N) s.heap H [] := by rw [hH]; exact va_S.rf
  have hl := lv_entry ([.ref x, .ref y, .null]) (n := 5) (Nat.le_of_ble_eq_true rfl)
  rw [lg_entry_eq, ← hH]
  generalize (lg_sl ([.ref x, .ref y, .null]) ++ List.replicate (5 - (lg_sl ([.ref x, .ref y, .null])).length) Slot.unset).toArray = ls at hl ⊢
  have hl : lv_has ls 5 [(0, .ref x), (1, .ref y), (2, .null)] := hl
  refine lv_aload_n hx hb d_Sg_initA_0 rfl (lv_at hl 0 rfl) ?_
  refine W.objInit hx hb hown (htg _ (gw_mem (i := 335) (by decide +kernel) rfl)) (htg _ (gw_mem (i := 65) (by decide +kernel) rfl)) (htg _ (gw_mem (i := 66) (by decide +kernel) rfl)) rfl (by rw [hml]; exact hl.1) rfl d_Sg_initA_1 (Nat.le_of_ble_eq_true rfl) (Nat.le_of_ble_eq_true rfl) ?_
  refine W.eq (g2 := F0 m 4 ls []) rfl ?_
  refine lv_aload_n hx hb d_Sg_initA_4 rfl (lv_at hl 1 rfl) ?_
  refine h_pureq (va_runV (As := []) (rest := []) ⟨hx, hb, hml, hown, htg⟩ (c_ASB_getValue l D cs N0 H y va n ml h1) ⟨x_cwB 0 htg (gw_mem (i := 340) (by decide +kernel) rfl) (gw_mem (i := 31) (by decide +kernel) rfl) (gw_mem (i := 336) (by decide +kernel) rfl) (by decide +kernel) ⟨Nat.le_of_ble_eq_true rfl, Nat.le_of_ble_eq_true rfl⟩, htg _ (gw_mem (i := 337) (by decide +kernel) rfl), htg _ (gw_mem (i := 339) (by decide +kernel) rfl)⟩ ⟨hPre.blind, hx_recv hK (ci := 7) rfl h1, hPre.at hB hS hAN⟩ rfl rfl hl.1 rfl (lv_room (Nat.le_of_ble_eq_true rfl)) d_Sg_initA_5 ⟨Nat.le_of_ble_eq_true rfl, Nat.le_of_ble_eq_true rfl⟩) hS (fun locs hS => ?_)
  refine lv_eqv (y := .ref va) rfl ?_
  refine lv_astore_n (lv' := [(3, .ref va), (0, .ref x), (1, .ref y), (2, .null)]) hx hb d_Sg_initA_8 rfl hl (by decide) rfl (fun ls hl => ?_)
  refine lv_aload_n hx hb d_Sg_initA_9 rfl (lv_at hl 2 rfl) ?_
  refine h_purei (va_runU (As := []) (rest := []) ⟨hx, hb, hml, hown, htg⟩ (c_SB_length l D cs N0 H y va n ml h1) (va_cwO (x := ⟨"java/lang/AbstractStringBuilder", "length", "()I"⟩) (owner := "java/lang/AbstractStringBuilder") (b0 := prog_9_method_6_code) (m0 := 1) (r0 := (Option.some Jvm.ClassFile.FieldType.int)) 0 htg (gw_sub (gw_cons (gw_mem (i := 341) (by decide +kernel) rfl) (gw_cons (gw_mem (i := 1221) (by decide +kernel) rfl) (gw_cons (gw_mem (i := 161) (by decide +kernel) rfl) (gw_cons (gw_mem (i := 1231) (by decide +kernel) rfl) (gw_cons (gw_mem (i := 157) (by decide +kernel) rfl) (gw_cons (gw_mem (i := 32) (by decide +kernel) rfl) (gw_cons (gw_mem (i := 159) (by decide +kernel) rfl) (fun _ h => h))))))))) rfl rfl rfl (gw_mem (i := 162) (by decide +kernel) rfl) (by decide +kernel) ⟨Nat.le_of_ble_eq_true rfl, Nat.le_of_ble_eq_true rfl⟩) ⟨hPre.blind, hx_recv hK (ci := 7) rfl h1, hPre.at hB hS hAN⟩ rfl rfl hl.1 rfl (lv_room (Nat.le_of_ble_eq_true rfl)) d_Sg_initA_10 ⟨Nat.le_of_ble_eq_true rfl, Nat.le_of_ble_eq_true rfl⟩) hS (fun locs hS => ?_)
  refine lv_istore (lv' := [(4, .int (nI n)), (3, .ref va), (0, .ref x), (1, .ref y), (2, .null)]) hx hb d_Sg_initA_13 hl (by decide) rfl (fun ls hl => ?_)
  refine lv_aload_n hx hb d_Sg_initA_15 rfl (lv_at hl 3 rfl) ?_
  refine h_purei (va_runV (As := []) (rest := []) ⟨hx, hb, hml, hown, htg⟩ (c_ASB_isLatin1 l D cs N0 H y va n ml h1) ⟨x_cwB 0 htg (gw_mem (i := 228) (by decide +kernel) rfl) (gw_mem (i := 31) (by decide +kernel) rfl) (gw_mem (i := 342) (by decide +kernel) rfl) (by decide +kernel) ⟨Nat.le_of_ble_eq_true rfl, Nat.le_of_ble_eq_true rfl⟩, htg _ (gw_mem (i := 225) (by decide +kernel) rfl), htg _ (gw_mem (i := 227) (by decide +kernel) rfl)⟩ ⟨hPre.blind, hx_recv hK (ci := 7) rfl h1, hPre.at hB hS hAN⟩ rfl rfl hl.1 rfl (lv_room (Nat.le_of_ble_eq_true rfl)) d_Sg_initA_16 ⟨Nat.le_of_ble_eq_true rfl, Nat.le_of_ble_eq_true rfl⟩) hS (fun locs hS => ?_)
  refine lv_if_eq (x := 1) (tgt := 41) hx hb d_Sg_initA_19 (by decide) (fun c19 => ?_) (fun c19 => ?_)
  · exact absurd c19 (by decide)
  · skip
    refine lv_aload_n hx hb d_Sg_initA_22 rfl (lv_at hl 2 rfl) ?_
    refine lv_iconst (v := 0) hx hb d_Sg_initA_23 (by decide) ?_
    refine hx_putF (ref := "java/lang/String") (ty := .byte) (v := .int 0) hx hb htg iSg tSg tSg_ok nSg hown hK h0 hS jA_in21 rfl 1 (by decide) (htg _ (gw_mem (i := 440) (by decide +kernel) rfl)) (fun _ h9 => h9) rfl hin rfl (by decide +kernel) rfl rfl (Nat.le_of_ble_eq_true rfl) d_Sg_initA_24 (fun H locs hat hz ho hS => ?_)
    replace h0 : va_at D vwCl (x, .inr (8, [.null, .int 0, .int 0, .int 0])) H := hat
    replace h1 := hx_keep h1 (ho _ (show y ≠ x by omega))
    replace h2 := hx_keep h2 (ho _ (show va ≠ x by omega))
    refine lv_aload_n hx hb d_Sg_initA_27 rfl (lv_at hl 2 rfl) ?_
    refine lv_aload_n hx hb d_Sg_initA_28 rfl (lv_at hl 1 rfl) ?_
    refine lv_iconst (v := 0) hx hb d_Sg_initA_29 (by decide) ?_
    refine lv_iload hx hb d_Sg_initA_30 (lv_at hl 0 rfl) ?_
    obtain ⟨nq1, hnq1⟩ : ∃ z : Nat, z = H.size := ⟨_, rfl⟩
    have hlt_q2 := hx_lt h0
    have hlt_q3 := hx_lt h1
    have hlt_q4 := hx_lt h2
    refine h_callq (va_runS (As := [.ref va, .int 0, .int (nI n)]) (rest := [.ref x]) ⟨hx, hb, hml, hown, htg⟩ (c_Ar_copyR l D cs N0 H va n nq1 f h2 hnq1 (by omega) (by omega) hfit) ⟨x_cwB 3 htg (gw_mem (i := 345) (by decide +kernel) rfl) (gw_mem (i := 46) (by decide +kernel) rfl) (gw_mem (i := 343) (by decide +kernel) rfl) (by decide +kernel) ⟨Nat.le_of_ble_eq_true rfl, Nat.le_of_ble_eq_true rfl⟩, htg _ (gw_mem (i := 344) (by decide +kernel) rfl)⟩ ⟨hPre.blind, hPre.at hB hS hAN⟩ rfl rfl hl.1 rfl (lv_room (Nat.le_of_ble_eq_true rfl)) d_Sg_initA_32 ⟨Nat.le_of_ble_eq_true rfl, Nat.le_of_ble_eq_true rfl⟩) hS (jA_sub1 jA_in22 (fun q9 h9 => Or.inr (show N ≤ q9 by omega))) (fun r32 H locs hp hz hk hS => ?_)
    replace h0 := hx_keep h0 (hk _ hlt_q2 (jA_not1 (show x ≠ va by omega) (show x < nq1 by omega)))
    replace h1 := hx_keep h1 (hk _ hlt_q3 (jA_not1 (show y ≠ va by omega) (show y < nq1 by omega)))
    obtain ⟨hr9, hO5, hO6⟩ := hp
    subst hr9
    refine lv_eqv (y := .ref nq1) rfl ?_
    refine hx_putF (ref := "java/lang/String") (ty := .array (.byte)) (v := .ref nq1) hx hb htg iSg tSg tSg_ok nSg hown hK h0 hS jA_in21 rfl 0 (by decide) (htg _ (gw_mem (i := 439) (by decide +kernel) rfl)) (fun _ h9 => h9) rfl hin rfl (by decide +kernel) rfl rfl (Nat.le_of_ble_eq_true rfl) d_Sg_initA_35 (fun H locs hat hz ho hS => ?_)
    replace h0 : va_at D vwCl (x, .inr (8, [.ref nq1, .int 0, .int 0, .int 0])) H := hat
    replace h1 := hx_keep h1 (ho _ (show y ≠ x by omega))
    replace hO5 := hx_keep hO5 (ho _ (show va ≠ x by omega))
    replace hO6 := hx_keep hO6 (ho _ (show nq1 ≠ x by omega))
    refine lv_goto (tgt := 97) hx hb d_Sg_initA_38 (by decide) ?_
    exact W.vret hx hb hr (fun t ht hW => ⟨⟨H, rfl, (show nq1 = N by omega) ▸ ⟨h0, hO5, hO6⟩, ht⟩, hS.F ht⟩) hS.2.2 d_Sg_initA_97
def y_Sg_init : MethodName := ⟨"java/lang/String", "<init>", "(Ljava/lang/StringBuilder;)V"⟩
abbrev w_Sg_init : List Cond := Cond.code y_Sg_init prog_20_method_53_code 2 (Option.none : Option Jvm.ClassFile.FieldType) :: gw
theorem d_Sg_init_0 : decode prog_20_method_53_code 0 = .ok (.aload_n 0, 1) := by decide +kernel
theorem d_Sg_init_1 : decode prog_20_method_53_code 1 = .ok (.aload_n 1, 1) := by decide +kernel
theorem d_Sg_init_2 : decode prog_20_method_53_code 2 = .ok (.aconst_null, 1) := by decide +kernel
theorem d_Sg_init_3 : decode prog_20_method_53_code 3 = .ok (.invokespecial 489, 3) := by decide +kernel
theorem d_Sg_init_6 : decode prog_20_method_53_code 6 = .ok (.return_, 1) := by decide +kernel
set_option maxHeartbeats 4000000 in
set_option maxRecDepth 100000 in
theorem c_Sg_init (l : Launch) (D : va_G) (cs : Nat → ClassId) (N0 : Nat) (H : Heap) (x y va n N : Nat) (ml : Int32) (f : Nat → Int32) (h0 : va_at D vwCl (x, .inr (8, [.null, .int 0, .int 0, .int 0])) H) (h1 : va_at D vwCl (y, .inr (7, [.ref va, .int 0, .int ml, .int (nI n)])) H) (h2 : va_at D vwCl (va, .inl (cs 2, (16, .inl f))) H) (hN : N = H.size) (hx0 : N0 ≤ x) (hv0 : N0 ≤ va) (hxy : x ≠ y) (hxv : x ≠ va) (hyv : y ≠ va) (hn : n < 16) (hfit : ∀ i, i < n → fits .byte (.int (f i)) = true) : Met l y_Sg_init w_Sg_init ({ frames := 4, cells := 1, slots := 16, locals := 110 }) (hPre D cs N0 [.ref x, .ref y] H) (hQv (fun H' => va_at D vwCl (x, .inr (8, [.ref N, .int 0, .int 0, .int 0])) H' ∧ va_at D vwCl (va, .inl (cs 2, (16, .inl f))) H' ∧ va_at D vwCl (N, .inl (cs 2, (n, .inl (va_cpy f (fun _ => 0) 0 0 n)))) H') (jA [x, va] N)) 1 16 (jA [x, va] N) := by
  refine Met.ofW (cc := prog_20_method_53_code) (maxL := 2) (ret := (Option.none : Option Jvm.ClassFile.FieldType)) (by decide) rfl ?_
  intro p e s m args below meth c s₁ B hml hv
  obtain ⟨rfl, rfl, hB⟩ := hv
  have hx := B.exec
  have hb := B.bytes
  have hr := B.returns
  have hts := atoms_spec (ws := w_Sg_init) B.pre
  have htg : ∀ w ∈ gw, w.before _ s = true := fun w h => hts w (List.mem_cons_of_mem _ h)
  have hown : s.vm.findClass "java/lang/String" = some m.cls := findClass_of_methodNamed B.named
  have hlocks := B.notSynchronized
  have hin : meth.name = "<init>" := (name_of_methodNamed B.named B.method).1
  have hAN : ∀ q, (jA [x, va] N) q → N0 ≤ q := jA_sub2 hx0 hv0 (fun q9 h9 => Nat.le_trans hB.2.1 (hN ▸ h9))
  have hK := hB.1
  obtain ⟨H, hH⟩ : ∃ z : Heap, z = s.heap := ⟨_, rfl⟩
  have hz0 : H.size = s.heap.size := by rw [hH]
  have hN0 := hB.2.1
  rw [← hH] at h0 h1 h2
  have hS : va_S (jA [x, va] N) s.heap H [] := by rw [hH]; exact va_S.rf
  have hl := lv_entry ([.ref x, .ref y]) (n := 2) (Nat.le_of_ble_eq_true rfl)
  rw [lg_entry_eq, ← hH]
  generalize (lg_sl ([.ref x, .ref y]) ++ List.replicate (2 - (lg_sl ([.ref x, .ref y])).length) Slot.unset).toArray = ls at hl ⊢
  have hl : lv_has ls 2 [(0, .ref x), (1, .ref y)] := hl
  refine lv_aload_n hx hb d_Sg_init_0 rfl (lv_at hl 0 rfl) ?_
  refine lv_aload_n hx hb d_Sg_init_1 rfl (lv_at hl 1 rfl) ?_
  refine lv_null hx hb d_Sg_init_2 ?_
  obtain ⟨nq1, hnq1⟩ : ∃ z : Nat, z = H.size := ⟨_, rfl⟩
  have hlt_q2 := hx_lt h0
  have hlt_q3 := hx_lt h1
  have hlt_q4 := hx_lt h2
  refine h_callv (va_runI (As := [.ref y, .null]) (rest := []) ⟨hx, hb, hml, hown, htg⟩ (c_Sg_initA l D cs N0 H x y va n nq1 ml f h0 h1 h2 hnq1 (by omega) (by omega) (show x ≠ y by omega) (show x ≠ va by omega) (show y ≠ va by omega) (by omega) hfit) ⟨x_cwB 2 htg (gw_mem (i := 334) (by decide +kernel) rfl) (gw_mem (i := 33) (by decide +kernel) rfl) (gw_mem (i := 332) (by decide +kernel) rfl) (by decide +kernel) ⟨Nat.le_of_ble_eq_true rfl, Nat.le_of_ble_eq_true rfl⟩, rfl, htg _ (gw_mem (i := 333) (by decide +kernel) rfl)⟩ ⟨hPre.blind, hPre.at hB hS hAN⟩ rfl rfl hl.1 rfl (lv_room (Nat.le_of_ble_eq_true rfl)) d_Sg_init_3 ⟨Nat.le_of_ble_eq_true rfl, Nat.le_of_ble_eq_true rfl⟩) hS (jA_sub2 jA_in21 jA_in22 (fun q9 h9 => Or.inr (show N ≤ q9 by omega))) (fun H locs hp hz hk hS => ?_)
  replace h1 := hx_keep h1 (hk _ hlt_q3 (jA_not2 (show y ≠ x by omega) (show y ≠ va by omega) (show y < nq1 by omega)))
  obtain ⟨hO5, hO6, hO7⟩ := hp
  exact W.vret hx hb hr (fun t ht hW => ⟨⟨H, rfl, (show nq1 = N by omega) ▸ ⟨hO5, hO6, hO7⟩, ht⟩, hS.F ht⟩) hS.2.2 d_Sg_init_6
def y_SB_toString : MethodName := ⟨"java/lang/StringBuilder", "toString", "()Ljava/lang/String;"⟩
abbrev w_SB_toString : List Cond := Cond.code y_SB_toString prog_21_method_42_code 1 (Option.some (Jvm.ClassFile.FieldType.object "java/lang/String")) :: gw
theorem d_SB_toString_0 : decode prog_21_method_42_code 0 = .ok (.new 18, 3) := by decide +kernel
theorem d_SB_toString_3 : decode prog_21_method_42_code 3 = .ok (.dup, 1) := by decide +kernel
theorem d_SB_toString_4 : decode prog_21_method_42_code 4 = .ok (.aload_n 0, 1) := by decide +kernel
theorem d_SB_toString_5 : decode prog_21_method_42_code 5 = .ok (.invokespecial 137, 3) := by decide +kernel
theorem d_SB_toString_8 : decode prog_21_method_42_code 8 = .ok (.areturn, 1) := by decide +kernel
set_option maxHeartbeats 4000000 in
set_option maxRecDepth 100000 in
theorem c_SB_toString (l : Launch) (D : va_G) (cs : Nat → ClassId) (N0 : Nat) (H : Heap) (x va n N : Nat) (ml : Int32) (f : Nat → Int32) (h1 : va_at D vwCl (x, .inr (7, [.ref va, .int 0, .int ml, .int (nI n)])) H) (h2 : va_at D vwCl (va, .inl (cs 2, (16, .inl f))) H) (hN : N = H.size) (hv0 : N0 ≤ va) (hxv : x ≠ va) (hn : n < 16) (hfit : ∀ i, i < n → fits .byte (.int (f i)) = true) : Met l y_SB_toString w_SB_toString ({ frames := 5, cells := 2, slots := 20, locals := 131 }) (hPre D cs N0 [.ref x] H) (hQq (fun r H' => r = some N ∧ va_at D vwCl (N, .inr (8, [.ref (N + 1), .int 0, .int 0, .int 0])) H' ∧ va_at D vwCl (va, .inl (cs 2, (16, .inl f))) H' ∧ va_at D vwCl (N + 1, .inl (cs 2, (n, .inl (va_cpy f (fun _ => 0) 0 0 n)))) H') (jA [va] N)) 2 20 (jA [va] N) := by
  refine Met.ofW (cc := prog_21_method_42_code) (maxL := 1) (ret := (Option.some (Jvm.ClassFile.FieldType.object "java/lang/String"))) (by decide) rfl ?_
  intro p e s m args below meth c s₁ B hml hv
  obtain ⟨rfl, rfl, hB⟩ := hv
  have hx := B.exec
  have hb := B.bytes
  have hr := B.returns
  have hts := atoms_spec (ws := w_SB_toString) B.pre
  have htg : ∀ w ∈ gw, w.before _ s = true := fun w h => hts w (List.mem_cons_of_mem _ h)
  have hown : s.vm.findClass "java/lang/StringBuilder" = some m.cls := findClass_of_methodNamed B.named
  have hlocks := B.notSynchronized
  have hAN : ∀ q, (jA [va] N) q → N0 ≤ q := jA_sub1 hv0 (fun q9 h9 => Nat.le_trans hB.2.1 (hN ▸ h9))
  have hK := hB.1
  obtain ⟨H, hH⟩ : ∃ z : Heap, z = s.heap := ⟨_, rfl⟩
  have hz0 : H.size = s.heap.size := by rw [hH]
  have hN0 := hB.2.1
  rw [← hH] at h1 h2
  have hS : va_S (jA [va] N) s.heap H [] := by rw [hH]; exact va_S.rf
  have hl := lv_entry ([.ref x]) (n := 1) (Nat.le_of_ble_eq_true rfl)
  rw [lg_entry_eq, ← hH]
  generalize (lg_sl ([.ref x]) ++ List.replicate (1 - (lg_sl ([.ref x])).length) Slot.unset).toArray = ls at hl ⊢
  have hl : lv_has ls 1 [(0, .ref x)] := hl
  obtain ⟨sg, hsg⟩ : ∃ z : Nat, z = H.size := ⟨_, rfl⟩
  have hlt_q2 : x < sg := hsg ▸ hx_lt h1
  have hlt_q3 : va < sg := hsg ▸ hx_lt h2
  refine hx_new hx hb htg iSg tSg tSg_ok hown (htg _ (gw_mem (i := 327) (by decide +kernel) rfl)) (htg _ (gw_mem (i := 328) (by decide +kernel) rfl)) (htg _ (gw_mem (i := 33) (by decide +kernel) rfl)) hK hS (ci := 8) rfl (fs := [.null, .int 0, .int 0, .int 0]) (by decide +kernel) (Nat.le_of_ble_eq_true rfl) (Nat.le_of_ble_eq_true rfl) d_SB_toString_0 (fun H hat hz ho hS => ?_)
  rw [← hsg] at hat hz ho
  rw [← hsg]
  have hO1 : va_at D vwCl (sg, .inr (8, [.null, .int 0, .int 0, .int 0])) H := hat
  replace h1 := hx_keep h1 (ho _ (by omega))
  replace h2 := hx_keep h2 (ho _ (by omega))
  refine lv_dup hx hb d_SB_toString_3 rfl ?_
  refine lv_aload_n hx hb d_SB_toString_4 rfl (lv_at hl 0 rfl) ?_
  obtain ⟨nq4, hnq4⟩ : ∃ z : Nat, z = H.size := ⟨_, rfl⟩
  have hlt_q5 := hx_lt h1
  have hlt_q6 := hx_lt hO1
  have hlt_q7 := hx_lt h2
  refine h_callv (va_runI (As := [.ref x]) (rest := [.ref sg]) ⟨hx, hb, hml, hown, htg⟩ (c_Sg_init l D cs N0 H sg x va n nq4 ml f hO1 h1 h2 hnq4 (by omega) (by omega) (show sg ≠ x by omega) (show sg ≠ va by omega) (show x ≠ va by omega) (by omega) hfit) ⟨x_cwB 1 htg (gw_mem (i := 331) (by decide +kernel) rfl) (gw_mem (i := 33) (by decide +kernel) rfl) (gw_mem (i := 329) (by decide +kernel) rfl) (by decide +kernel) ⟨Nat.le_of_ble_eq_true rfl, Nat.le_of_ble_eq_true rfl⟩, rfl, htg _ (gw_mem (i := 330) (by decide +kernel) rfl)⟩ ⟨hPre.blind, hPre.at hB hS hAN⟩ rfl rfl hl.1 rfl (lv_room (Nat.le_of_ble_eq_true rfl)) d_SB_toString_5 ⟨Nat.le_of_ble_eq_true rfl, Nat.le_of_ble_eq_true rfl⟩) hS (jA_sub2 (Or.inr (show N ≤ sg by omega)) jA_in1 (fun q9 h9 => Or.inr (show N ≤ q9 by omega))) (fun H locs hp hz hk hS => ?_)
  replace h1 := hx_keep h1 (hk _ hlt_q5 (jA_not2 (show x ≠ sg by omega) (show x ≠ va by omega) (show x < nq4 by omega)))
  obtain ⟨hO8, hO9, hO10⟩ := hp
  exact W.aret (v := .ref sg) hx hb hr (Or.inl ⟨_, rfl⟩) (Or.inr ⟨_, rfl⟩) (fun t ht hW => ⟨⟨some sg, H, rfl, (show nq4 = N + 1 by omega) ▸ (show sg = N by omega) ▸ ⟨rfl, hO8, hO9, hO10⟩, ht⟩, hS.F ht⟩) hS.2.2 d_SB_toString_8
def y_Sg_coder : MethodName := ⟨"java/lang/String", "coder", "()B"⟩
abbrev w_Sg_coder : List Cond := Cond.code y_Sg_coder prog_20_method_152_code 1 (Option.some Jvm.ClassFile.FieldType.byte) :: gw
theorem d_Sg_coder_0 : decode prog_20_method_152_code 0 = .ok (.getstatic 38, 3) := by decide +kernel
theorem d_Sg_coder_3 : decode prog_20_method_152_code 3 = .ok (.ifCond .eq 10, 3) := by decide +kernel
theorem d_Sg_coder_6 : decode prog_20_method_152_code 6 = .ok (.aload_n 0, 1) := by decide +kernel
theorem d_Sg_coder_7 : decode prog_20_method_152_code 7 = .ok (.getfield 15, 3) := by decide +kernel
theorem d_Sg_coder_10 : decode prog_20_method_152_code 10 = .ok (.goto 4, 3) := by decide +kernel
theorem d_Sg_coder_14 : decode prog_20_method_152_code 14 = .ok (.ireturn, 1) := by decide +kernel
set_option maxHeartbeats 4000000 in
set_option maxRecDepth 100000 in
theorem c_Sg_coder (l : Launch) (D : va_G) (cs : Nat → ClassId) (N0 : Nat) (H : Heap) (x va : Nat) (hs hz : Int32) (h1 : va_at D vwCl (x, .inr (8, [.ref va, .int 0, .int hs, .int hz])) H) : Met l y_Sg_coder w_Sg_coder ({ frames := 0, cells := 0, slots := 0, locals := 0 }) (hPre D cs N0 [.ref x] H) (hQi (fun r H' => H' = H ∧ r = 0) noA) 0 0 noA := by
  refine Met.ofW (cc := prog_20_method_152_code) (maxL := 1) (ret := (Option.some Jvm.ClassFile.FieldType.byte)) (by decide) rfl ?_
  intro p e s m args below meth c s₁ B hml hv
  obtain ⟨rfl, rfl, hB⟩ := hv
  have hx := B.exec
  have hb := B.bytes
  have hr := B.returns
  have hts := atoms_spec (ws := w_Sg_coder) B.pre
  have htg : ∀ w ∈ gw, w.before _ s = true := fun w h => hts w (List.mem_cons_of_mem _ h)
  have hown : s.vm.findClass "java/lang/String" = some m.cls := findClass_of_methodNamed B.named
  have hlocks := B.notSynchronized
  have hK := hB.1
  obtain ⟨H, hH⟩ : ∃ z : Heap, z = s.heap := ⟨_, rfl⟩
  have hz0 : H.size = s.heap.size := by rw [hH]
  have hN0 := hB.2.1
  rw [← hH] at h1
  have hS : va_S noA s.heap H [] := by rw [hH]; exact va_S.rf
  have hl := lv_entry ([.ref x]) (n := 1) (Nat.le_of_ble_eq_true rfl)
  rw [lg_entry_eq, ← hH]
  generalize (lg_sl ([.ref x]) ++ List.replicate (1 - (lg_sl ([.ref x])).length) Slot.unset).toArray = ls at hl ⊢
  have hl : lv_has ls 1 [(0, .ref x)] := hl
  refine va_gets (v := .int 1) hx hb (va_Z.narrow hB.2.2.2.2.2.1 noA_in) hS hown (htg _ (gw_mem (i := 263) (by decide +kernel) rfl)) (fun _ h9 => h9) d_Sg_coder_0 ?_
  refine lv_if_eq (x := 1) (tgt := 13) hx hb d_Sg_coder_3 (by decide) (fun c3 => ?_) (fun c3 => ?_)
  · exact absurd c3 (by decide)
  · skip
    refine lv_aload_n hx hb d_Sg_coder_6 rfl (lv_at hl 0 rfl) ?_
    refine hx_get (ref := "java/lang/String") (v := .int 0) hx hb htg iSg hown hK h1 rfl 1 (by decide) (htg _ (gw_mem (i := 440) (by decide +kernel) rfl)) (fun _ h9 => h9) rfl d_Sg_coder_7 ?_
    refine lv_goto (tgt := 14) hx hb d_Sg_coder_10 (by decide) ?_
    exact W.zret (v := 0) hx hb hr (by decide) (fun t ht hW => ⟨⟨0, H, rfl, ⟨rfl, rfl⟩, ht⟩, hS.F ht⟩) hS.2.2 d_Sg_coder_14
def y_Sg_isLatin1 : MethodName := ⟨"java/lang/String", "isLatin1", "()Z"⟩
abbrev w_Sg_isLatin1 : List Cond := Cond.code y_Sg_isLatin1 prog_20_method_154_code 1 (Option.some Jvm.ClassFile.FieldType.boolean) :: gw
theorem d_Sg_isLatin1_0 : decode prog_20_method_154_code 0 = .ok (.getstatic 38, 3) := by decide +kernel
theorem d_Sg_isLatin1_3 : decode prog_20_method_154_code 3 = .ok (.ifCond .eq 14, 3) := by decide +kernel
theorem d_Sg_isLatin1_6 : decode prog_20_method_154_code 6 = .ok (.aload_n 0, 1) := by decide +kernel
theorem d_Sg_isLatin1_7 : decode prog_20_method_154_code 7 = .ok (.getfield 15, 3) := by decide +kernel
theorem d_Sg_isLatin1_10 : decode prog_20_method_154_code 10 = .ok (.ifCond .ne 7, 3) := by decide +kernel
theorem d_Sg_isLatin1_13 : decode prog_20_method_154_code 13 = .ok (.iconst 1, 1) := by decide +kernel
theorem d_Sg_isLatin1_14 : decode prog_20_method_154_code 14 = .ok (.goto 4, 3) := by decide +kernel
theorem d_Sg_isLatin1_18 : decode prog_20_method_154_code 18 = .ok (.ireturn, 1) := by decide +kernel
set_option maxHeartbeats 4000000 in
set_option maxRecDepth 100000 in
theorem c_Sg_isLatin1 (l : Launch) (D : va_G) (cs : Nat → ClassId) (N0 : Nat) (H : Heap) (x va : Nat) (hs hz : Int32) (h1 : va_at D vwCl (x, .inr (8, [.ref va, .int 0, .int hs, .int hz])) H) : Met l y_Sg_isLatin1 w_Sg_isLatin1 ({ frames := 0, cells := 0, slots := 0, locals := 0 }) (hPre D cs N0 [.ref x] H) (hQi (fun r H' => H' = H ∧ r = 1) noA) 0 0 noA := by
  refine Met.ofW (cc := prog_20_method_154_code) (maxL := 1) (ret := (Option.some Jvm.ClassFile.FieldType.boolean)) (by decide) rfl ?_
  intro p e s m args below meth c s₁ B hml hv
  obtain ⟨rfl, rfl, hB⟩ := hv
  have hx := B.exec
  have hb := B.bytes
  have hr := B.returns
  have hts := atoms_spec (ws := w_Sg_isLatin1) B.pre
  have htg : ∀ w ∈ gw, w.before _ s = true := fun w h => hts w (List.mem_cons_of_mem _ h)
  have hown : s.vm.findClass "java/lang/String" = some m.cls := findClass_of_methodNamed B.named
  have hlocks := B.notSynchronized
  have hK := hB.1
  obtain ⟨H, hH⟩ : ∃ z : Heap, z = s.heap := ⟨_, rfl⟩
  have hz0 : H.size = s.heap.size := by rw [hH]
  have hN0 := hB.2.1
  rw [← hH] at h1
  have hS : va_S noA s.heap H [] := by rw [hH]; exact va_S.rf
  have hl := lv_entry ([.ref x]) (n := 1) (Nat.le_of_ble_eq_true rfl)
  rw [lg_entry_eq, ← hH]
  generalize (lg_sl ([.ref x]) ++ List.replicate (1 - (lg_sl ([.ref x])).length) Slot.unset).toArray = ls at hl ⊢
  have hl : lv_has ls 1 [(0, .ref x)] := hl
  refine va_gets (v := .int 1) hx hb (va_Z.narrow hB.2.2.2.2.2.1 noA_in) hS hown (htg _ (gw_mem (i := 263) (by decide +kernel) rfl)) (fun _ h9 => h9) d_Sg_isLatin1_0 ?_
  refine lv_if_eq (x := 1) (tgt := 17) hx hb d_Sg_isLatin1_3 (by decide) (fun c3 => ?_) (fun c3 => ?_)
  · exact absurd c3 (by decide)
  · skip
    refine lv_aload_n hx hb d_Sg_isLatin1_6 rfl (lv_at hl 0 rfl) ?_
    refine hx_get (ref := "java/lang/String") (v := .int 0) hx hb htg iSg hown hK h1 rfl 1 (by decide) (htg _ (gw_mem (i := 440) (by decide +kernel) rfl)) (fun _ h9 => h9) rfl d_Sg_isLatin1_7 ?_
    refine lv_if_ne (x := 0) (tgt := 17) hx hb d_Sg_isLatin1_10 (by decide) (fun c10 => ?_) (fun c10 => ?_)
    · exact absurd c10 (by decide)
    · skip
      refine lv_iconst (v := 1) hx hb d_Sg_isLatin1_13 (by decide) ?_
      refine lv_goto (tgt := 18) hx hb d_Sg_isLatin1_14 (by decide) ?_
      exact W.zret (v := 1) hx hb hr (by decide) (fun t ht hW => ⟨⟨1, H, rfl, ⟨rfl, rfl⟩, ht⟩, hS.F ht⟩) hS.2.2 d_Sg_isLatin1_18
def y_Sg_length : MethodName := ⟨"java/lang/String", "length", "()I"⟩
abbrev w_Sg_length : List Cond := Cond.code y_Sg_length prog_20_method_54_code 1 (Option.some Jvm.ClassFile.FieldType.int) :: gw
theorem d_Sg_length_0 : decode prog_20_method_54_code 0 = .ok (.aload_n 0, 1) := by decide +kernel
theorem d_Sg_length_1 : decode prog_20_method_54_code 1 = .ok (.getfield 9, 3) := by decide +kernel
theorem d_Sg_length_4 : decode prog_20_method_54_code 4 = .ok (.arraylength, 1) := by decide +kernel
theorem d_Sg_length_5 : decode prog_20_method_54_code 5 = .ok (.aload_n 0, 1) := by decide +kernel
theorem d_Sg_length_6 : decode prog_20_method_54_code 6 = .ok (.invokevirtual 335, 3) := by decide +kernel
theorem d_Sg_length_9 : decode prog_20_method_54_code 9 = .ok (.ishr, 1) := by decide +kernel
theorem d_Sg_length_10 : decode prog_20_method_54_code 10 = .ok (.ireturn, 1) := by decide +kernel
set_option maxHeartbeats 4000000 in
set_option maxRecDepth 100000 in
theorem c_Sg_length (l : Launch) (D : va_G) (cs : Nat → ClassId) (N0 : Nat) (H : Heap) (x va k : Nat) (hs hz : Int32) (f : Nat → Int32) (h1 : va_at D vwCl (x, .inr (8, [.ref va, .int 0, .int hs, .int hz])) H) (h2 : va_at D vwCl (va, .inl (cs 2, (k, .inl f))) H) : Met l y_Sg_length w_Sg_length ({ frames := 1, cells := 0, slots := 0, locals := 20 }) (hPre D cs N0 [.ref x] H) (hQi (fun r H' => H' = H ∧ r = nI k) noA) 0 0 noA := by
  refine Met.ofW (cc := prog_20_method_54_code) (maxL := 1) (ret := (Option.some Jvm.ClassFile.FieldType.int)) (by decide) rfl ?_
  intro p e s m args below meth c s₁ B hml hv
  obtain ⟨rfl, rfl, hB⟩ := hv
  have hx := B.exec
  have hb := B.bytes
  have hr := B.returns
  have hts := atoms_spec (ws := w_Sg_length) B.pre
  have htg : ∀ w ∈ gw, w.before _ s = true := fun w h => hts w (List.mem_cons_of_mem _ h)
  have hown : s.vm.findClass "java/lang/String" = some m.cls := findClass_of_methodNamed B.named
  have hlocks := B.notSynchronized
  have hK := hB.1
  obtain ⟨H, hH⟩ : ∃ z : Heap, z = s.heap := ⟨_, rfl⟩
  have hz0 : H.size = s.heap.size := by rw [hH]
  have hN0 := hB.2.1
  rw [← hH] at h1 h2
  have hS : va_S noA s.heap H [] := by rw [hH]; exact va_S.rf
  have hl := lv_entry ([.ref x]) (n := 1) (Nat.le_of_ble_eq_true rfl)
  rw [lg_entry_eq, ← hH]
  generalize (lg_sl ([.ref x]) ++ List.replicate (1 - (lg_sl ([.ref x])).length) Slot.unset).toArray = ls at hl ⊢
  have hl : lv_has ls 1 [(0, .ref x)] := hl
  refine lv_aload_n hx hb d_Sg_length_0 rfl (lv_at hl 0 rfl) ?_
  refine hx_get (ref := "java/lang/String") (v := .ref va) hx hb htg iSg hown hK h1 rfl 0 (by decide) (htg _ (gw_mem (i := 439) (by decide +kernel) rfl)) (fun _ h9 => h9) rfl d_Sg_length_1 ?_
  refine hx_alen (v := (nI k)) hx hb hK 2 h2 rfl rfl d_Sg_length_4 ?_
  refine lv_aload_n hx hb d_Sg_length_5 rfl (lv_at hl 0 rfl) ?_
  refine h_purei (va_runV (As := []) (rest := [.int (nI k)]) ⟨hx, hb, hml, hown, htg⟩ (c_Sg_coder l D cs N0 H x va hs hz h1) ⟨x_cwB 0 htg (gw_mem (i := 262) (by decide +kernel) rfl) (gw_mem (i := 33) (by decide +kernel) rfl) (gw_mem (i := 259) (by decide +kernel) rfl) (by decide +kernel) ⟨Nat.le_of_ble_eq_true rfl, Nat.le_of_ble_eq_true rfl⟩, htg _ (gw_mem (i := 260) (by decide +kernel) rfl), htg _ (gw_mem (i := 261) (by decide +kernel) rfl)⟩ ⟨hPre.blind, hx_recv hK (ci := 8) rfl h1, hPre.at hB hS noA_in⟩ rfl rfl hl.1 rfl (lv_room (Nat.le_of_ble_eq_true rfl)) d_Sg_length_6 ⟨Nat.le_of_ble_eq_true rfl, Nat.le_of_ble_eq_true rfl⟩) hS (fun locs hS => ?_)
  refine lv_ishr (x := (nI k)) (y := 0) hx hb d_Sg_length_9 ?_
  refine lv_eqi (y := (nI k)) (by simp) ?_
  exact W.iret (v := (nI k)) hx hb hr (fun t ht hW => ⟨⟨(nI k), H, rfl, ⟨rfl, rfl⟩, ht⟩, hS.F ht⟩) hS.2.2 d_Sg_length_10
def y_L1_charAt : MethodName := ⟨"java/lang/StringLatin1", "charAt", "([BI)C"⟩
abbrev w_L1_charAt : List Cond := Cond.code y_L1_charAt prog_23_method_2_code 2 (Option.some Jvm.ClassFile.FieldType.char) :: gw
theorem d_L1_charAt_0 : decode prog_23_method_2_code 0 = .ok (.iload_n 1, 1) := by decide +kernel
theorem d_L1_charAt_1 : decode prog_23_method_2_code 1 = .ok (.aload_n 0, 1) := by decide +kernel
theorem d_L1_charAt_2 : decode prog_23_method_2_code 2 = .ok (.arraylength, 1) := by decide +kernel
theorem d_L1_charAt_3 : decode prog_23_method_2_code 3 = .ok (.invokestatic 9, 3) := by decide +kernel
theorem d_L1_charAt_6 : decode prog_23_method_2_code 6 = .ok (.aload_n 0, 1) := by decide +kernel
theorem d_L1_charAt_7 : decode prog_23_method_2_code 7 = .ok (.iload_n 1, 1) := by decide +kernel
theorem d_L1_charAt_8 : decode prog_23_method_2_code 8 = .ok (.baload, 1) := by decide +kernel
theorem d_L1_charAt_9 : decode prog_23_method_2_code 9 = .ok (.sipush 255, 3) := by decide +kernel
theorem d_L1_charAt_12 : decode prog_23_method_2_code 12 = .ok (.iand, 1) := by decide +kernel
theorem d_L1_charAt_13 : decode prog_23_method_2_code 13 = .ok (.i2c, 1) := by decide +kernel
theorem d_L1_charAt_14 : decode prog_23_method_2_code 14 = .ok (.ireturn, 1) := by decide +kernel
set_option maxHeartbeats 4000000 in
set_option maxRecDepth 100000 in
theorem c_L1_charAt (l : Launch) (D : va_G) (cs : Nat → ClassId) (N0 : Nat) (H : Heap) (va k j : Nat) (f : Nat → Int32) (h2 : va_at D vwCl (va, .inl (cs 2, (k, .inl f))) H) (hj : j < k) (hk : k < 2147483648) : Met l y_L1_charAt w_L1_charAt ({ frames := 2, cells := 0, slots := 0, locals := 43 }) (hPre D cs N0 [.ref va, .int (nI j)] H) (hQi (fun r H' => H' = H ∧ r = chV (f j)) noA) 0 0 noA := by
  refine Met.ofW (cc := prog_23_method_2_code) (maxL := 2) (ret := (Option.some Jvm.ClassFile.FieldType.char)) (by decide) rfl ?_
  intro p e s m args below meth c s₁ B hml hv
  obtain ⟨rfl, rfl, hB⟩ := hv
  have hx := B.exec
  have hb := B.bytes
  have hr := B.returns
  have hts := atoms_spec (ws := w_L1_charAt) B.pre
  have htg : ∀ w ∈ gw, w.before _ s = true := fun w h => hts w (List.mem_cons_of_mem _ h)
  have hown : s.vm.findClass "java/lang/StringLatin1" = some m.cls := findClass_of_methodNamed B.named
  have hlocks := B.notSynchronized
  have hK := hB.1
  obtain ⟨H, hH⟩ : ∃ z : Heap, z = s.heap := ⟨_, rfl⟩
  have hz0 : H.size = s.heap.size := by rw [hH]
  have hN0 := hB.2.1
  rw [← hH] at h2
  have hS : va_S noA s.heap H [] := by rw [hH]; exact va_S.rf
  have hl := lv_entry ([.ref va, .int (nI j)]) (n := 2) (Nat.le_of_ble_eq_true rfl)
  rw [lg_entry_eq, ← hH]
  generalize (lg_sl ([.ref va, .int (nI j)]) ++ List.replicate (2 - (lg_sl ([.ref va, .int (nI j)])).length) Slot.unset).toArray = ls at hl ⊢
  have hl : lv_has ls 2 [(0, .ref va), (1, .int (nI j))] := hl
  refine lv_iload_n hx hb d_L1_charAt_0 rfl (lv_at hl 1 rfl) ?_
  refine lv_aload_n hx hb d_L1_charAt_1 rfl (lv_at hl 0 rfl) ?_
  refine hx_alen (v := (nI k)) hx hb hK 2 h2 rfl rfl d_L1_charAt_2 ?_
  refine h_purev (va_runS (As := [.int (nI j), .int (nI k)]) (rest := []) ⟨hx, hb, hml, hown, htg⟩ (c_Sg_checkIndex l D cs N0 H j k (by omega) (by omega)) ⟨x_cwB 2 htg (gw_mem (i := 571) (by decide +kernel) rfl) (gw_mem (i := 33) (by decide +kernel) rfl) (gw_mem (i := 569) (by decide +kernel) rfl) (by decide +kernel) ⟨Nat.le_of_ble_eq_true rfl, Nat.le_of_ble_eq_true rfl⟩, htg _ (gw_mem (i := 570) (by decide +kernel) rfl)⟩ ⟨hPre.blind, hPre.at hB hS noA_in⟩ rfl rfl hl.1 rfl (lv_room (Nat.le_of_ble_eq_true rfl)) d_L1_charAt_3 ⟨Nat.le_of_ble_eq_true rfl, Nat.le_of_ble_eq_true rfl⟩) hS (fun locs hS => ?_)
  refine lv_aload_n hx hb d_L1_charAt_6 rfl (lv_at hl 0 rfl) ?_
  refine lv_iload_n hx hb d_L1_charAt_7 rfl (lv_at hl 1 rfl) ?_
  refine hx_bald hx hb hK 2 h2 rfl (show vp_in (nI j) k from vp_in_nI (n := j) (by omega) (by omega)) d_L1_charAt_8 ?_
  refine lv_eqi (y := (f j)) (show f (nI j).toNatClampNeg = _ by rw [nI_clamp (by omega)]) ?_
  refine lv_sipush (v := 255) hx hb d_L1_charAt_9 (by decide) ?_
  refine lv_iand (x := (f j)) (y := 255) hx hb d_L1_charAt_12 ?_
  refine lv_i2c (x := ((f j) &&& 255)) (v := (chV (f j))) hx hb d_L1_charAt_13 rfl ?_
  exact W.zret (v := (chV (f j))) hx hb hr (x_narc _) (fun t ht hW => ⟨⟨(chV (f j)), H, rfl, ⟨rfl, rfl⟩, ht⟩, hS.F ht⟩) hS.2.2 d_L1_charAt_14
def y_Sg_charAt : MethodName := ⟨"java/lang/String", "charAt", "(I)C"⟩
abbrev w_Sg_charAt : List Cond := Cond.code y_Sg_charAt prog_20_method_56_code 2 (Option.some Jvm.ClassFile.FieldType.char) :: gw
theorem d_Sg_charAt_0 : decode prog_20_method_56_code 0 = .ok (.aload_n 0, 1) := by decide +kernel
theorem d_Sg_charAt_1 : decode prog_20_method_56_code 1 = .ok (.invokevirtual 492, 3) := by decide +kernel
theorem d_Sg_charAt_4 : decode prog_20_method_56_code 4 = .ok (.ifCond .eq 12, 3) := by decide +kernel
theorem d_Sg_charAt_7 : decode prog_20_method_56_code 7 = .ok (.aload_n 0, 1) := by decide +kernel
theorem d_Sg_charAt_8 : decode prog_20_method_56_code 8 = .ok (.getfield 9, 3) := by decide +kernel
theorem d_Sg_charAt_11 : decode prog_20_method_56_code 11 = .ok (.iload_n 1, 1) := by decide +kernel
theorem d_Sg_charAt_12 : decode prog_20_method_56_code 12 = .ok (.invokestatic 495, 3) := by decide +kernel
theorem d_Sg_charAt_15 : decode prog_20_method_56_code 15 = .ok (.ireturn, 1) := by decide +kernel
set_option maxHeartbeats 4000000 in
set_option maxRecDepth 100000 in
theorem c_Sg_charAt (l : Launch) (D : va_G) (cs : Nat → ClassId) (N0 : Nat) (H : Heap) (x va k j : Nat) (hs hz : Int32) (f : Nat → Int32) (h1 : va_at D vwCl (x, .inr (8, [.ref va, .int 0, .int hs, .int hz])) H) (h2 : va_at D vwCl (va, .inl (cs 2, (k, .inl f))) H) (hj : j < k) (hk : k < 2147483648) : Met l y_Sg_charAt w_Sg_charAt ({ frames := 3, cells := 0, slots := 0, locals := 64 }) (hPre D cs N0 [.ref x, .int (nI j)] H) (hQi (fun r H' => H' = H ∧ r = chV (f j)) noA) 0 0 noA := by
  refine Met.ofW (cc := prog_20_method_56_code) (maxL := 2) (ret := (Option.some Jvm.ClassFile.FieldType.char)) (by decide) rfl ?_
  intro p e s m args below meth c s₁ B hml hv
  obtain ⟨rfl, rfl, hB⟩ := hv
  have hx := B.exec
  have hb := B.bytes
  have hr := B.returns
  have hts := atoms_spec (ws := w_Sg_charAt) B.pre
  have htg : ∀ w ∈ gw, w.before _ s = true := fun w h => hts w (List.mem_cons_of_mem _ h)
  have hown : s.vm.findClass "java/lang/String" = some m.cls := findClass_of_methodNamed B.named
  have hlocks := B.notSynchronized
  have hK := hB.1
  obtain ⟨H, hH⟩ : ∃ z : Heap, z = s.heap := ⟨_, rfl⟩
  have hz0 : H.size = s.heap.size := by rw [hH]
  have hN0 := hB.2.1
  rw [← hH] at h1 h2
  have hS : va_S noA s.heap H [] := by rw [hH]; exact va_S.rf
  have hl := lv_entry ([.ref x, .int (nI j)]) (n := 2) (Nat.le_of_ble_eq_true rfl)
  rw [lg_entry_eq, ← hH]
  generalize (lg_sl ([.ref x, .int (nI j)]) ++ List.replicate (2 - (lg_sl ([.ref x, .int (nI j)])).length) Slot.unset).toArray = ls at hl ⊢
  have hl : lv_has ls 2 [(0, .ref x), (1, .int (nI j))] := hl
  refine lv_aload_n hx hb d_Sg_charAt_0 rfl (lv_at hl 0 rfl) ?_
  refine h_purei (va_runV (As := []) (rest := []) ⟨hx, hb, hml, hown, htg⟩ (c_Sg_isLatin1 l D cs N0 H x va hs hz h1) ⟨x_cwB 0 htg (gw_mem (i := 565) (by decide +kernel) rfl) (gw_mem (i := 33) (by decide +kernel) rfl) (gw_mem (i := 562) (by decide +kernel) rfl) (by decide +kernel) ⟨Nat.le_of_ble_eq_true rfl, Nat.le_of_ble_eq_true rfl⟩, htg _ (gw_mem (i := 563) (by decide +kernel) rfl), htg _ (gw_mem (i := 564) (by decide +kernel) rfl)⟩ ⟨hPre.blind, hx_recv hK (ci := 8) rfl h1, hPre.at hB hS noA_in⟩ rfl rfl hl.1 rfl (lv_room (Nat.le_of_ble_eq_true rfl)) d_Sg_charAt_1 ⟨Nat.le_of_ble_eq_true rfl, Nat.le_of_ble_eq_true rfl⟩) hS (fun locs hS => ?_)
  refine lv_if_eq (x := 1) (tgt := 16) hx hb d_Sg_charAt_4 (by decide) (fun c4 => ?_) (fun c4 => ?_)
  · exact absurd c4 (by decide)
  · skip
    refine lv_aload_n hx hb d_Sg_charAt_7 rfl (lv_at hl 0 rfl) ?_
    refine hx_get (ref := "java/lang/String") (v := .ref va) hx hb htg iSg hown hK h1 rfl 0 (by decide) (htg _ (gw_mem (i := 439) (by decide +kernel) rfl)) (fun _ h9 => h9) rfl d_Sg_charAt_8 ?_
    refine lv_iload_n hx hb d_Sg_charAt_11 rfl (lv_at hl 1 rfl) ?_
    refine h_purei (va_runS (As := [.ref va, .int (nI j)]) (rest := []) ⟨hx, hb, hml, hown, htg⟩ (c_L1_charAt l D cs N0 H va k j f h2 (by omega) (by omega)) ⟨x_cwB 2 htg (gw_mem (i := 568) (by decide +kernel) rfl) (gw_mem (i := 48) (by decide +kernel) rfl) (gw_mem (i := 566) (by decide +kernel) rfl) (by decide +kernel) ⟨Nat.le_of_ble_eq_true rfl, Nat.le_of_ble_eq_true rfl⟩, htg _ (gw_mem (i := 567) (by decide +kernel) rfl)⟩ ⟨hPre.blind, hPre.at hB hS noA_in⟩ rfl rfl hl.1 rfl (lv_room (Nat.le_of_ble_eq_true rfl)) d_Sg_charAt_12 ⟨Nat.le_of_ble_eq_true rfl, Nat.le_of_ble_eq_true rfl⟩) hS (fun locs hS => ?_)
    exact W.zret (v := (chV (f j))) hx hb hr (x_narc _) (fun t ht hW => ⟨⟨(chV (f j)), H, rfl, ⟨rfl, rfl⟩, ht⟩, hS.F ht⟩) hS.2.2 d_Sg_charAt_15
def eqB (k k' : Nat) (f f' : Nat → Int32) : Bool := decide (k = k' ∧ ∀ i, i < k → f i = f' i)
theorem eqB_no {k k' : Nat} {f f' : Nat → Int32} (h : k ≠ k') : (0 : Int32) = bI (eqB k k' f f') := by rw [show eqB k k' f f' = false from decide_eq_false (fun h9 => h h9.1)]; rfl
theorem eqB_at {k k' i : Nat} {f f' : Nat → Int32} (hi : i < k) (h : ¬ f i = f' i) : (0 : Int32) = bI (eqB k k' f f') := by rw [show eqB k k' f f' = false from decide_eq_false (fun h9 => h (h9.2 i hi))]; rfl
theorem eqB_yes {k k' i : Nat} {f f' : Nat → Int32} (h : k = k') (hi : k ≤ i) (hp : ∀ j, j < i → f j = f' j) : (1 : Int32) = bI (eqB k k' f f') := by rw [show eqB k k' f f' = true from decide_eq_true ⟨h, fun j hj => hp j (by omega)⟩]; rfl
def y_L1_equals : MethodName := ⟨"java/lang/StringLatin1", "equals", "([B[B)Z"⟩
abbrev w_L1_equals : List Cond := Cond.code y_L1_equals prog_23_method_13_code 3 (Option.some Jvm.ClassFile.FieldType.boolean) :: gw
theorem d_L1_equals_0 : decode prog_23_method_13_code 0 = .ok (.aload_n 0, 1) := by decide +kernel
theorem d_L1_equals_1 : decode prog_23_method_13_code 1 = .ok (.arraylength, 1) := by decide +kernel
theorem d_L1_equals_2 : decode prog_23_method_13_code 2 = .ok (.aload_n 1, 1) := by decide +kernel
theorem d_L1_equals_3 : decode prog_23_method_13_code 3 = .ok (.arraylength, 1) := by decide +kernel
theorem d_L1_equals_4 : decode prog_23_method_13_code 4 = .ok (.if_icmp .ne 30, 3) := by decide +kernel
theorem d_L1_equals_7 : decode prog_23_method_13_code 7 = .ok (.iconst 0, 1) := by decide +kernel
theorem d_L1_equals_8 : decode prog_23_method_13_code 8 = .ok (.istore_n 2, 1) := by decide +kernel
theorem d_L1_equals_9 : decode prog_23_method_13_code 9 = .ok (.iload_n 2, 1) := by decide +kernel
theorem d_L1_equals_10 : decode prog_23_method_13_code 10 = .ok (.aload_n 0, 1) := by decide +kernel
theorem d_L1_equals_11 : decode prog_23_method_13_code 11 = .ok (.arraylength, 1) := by decide +kernel
theorem d_L1_equals_12 : decode prog_23_method_13_code 12 = .ok (.if_icmp .ge 20, 3) := by decide +kernel
theorem d_L1_equals_15 : decode prog_23_method_13_code 15 = .ok (.aload_n 0, 1) := by decide +kernel
theorem d_L1_equals_16 : decode prog_23_method_13_code 16 = .ok (.iload_n 2, 1) := by decide +kernel
theorem d_L1_equals_17 : decode prog_23_method_13_code 17 = .ok (.baload, 1) := by decide +kernel
theorem d_L1_equals_18 : decode prog_23_method_13_code 18 = .ok (.aload_n 1, 1) := by decide +kernel
theorem d_L1_equals_19 : decode prog_23_method_13_code 19 = .ok (.iload_n 2, 1) := by decide +kernel
theorem d_L1_equals_20 : decode prog_23_method_13_code 20 = .ok (.baload, 1) := by decide +kernel
theorem d_L1_equals_21 : decode prog_23_method_13_code 21 = .ok (.if_icmp .eq 5, 3) := by decide +kernel
theorem d_L1_equals_24 : decode prog_23_method_13_code 24 = .ok (.iconst 0, 1) := by decide +kernel
theorem d_L1_equals_25 : decode prog_23_method_13_code 25 = .ok (.ireturn, 1) := by decide +kernel
theorem d_L1_equals_26 : decode prog_23_method_13_code 26 = .ok (.iinc 2 1, 3) := by decide +kernel
theorem d_L1_equals_29 : decode prog_23_method_13_code 29 = .ok (.goto (-20), 3) := by decide +kernel
theorem d_L1_equals_32 : decode prog_23_method_13_code 32 = .ok (.iconst 1, 1) := by decide +kernel
theorem d_L1_equals_33 : decode prog_23_method_13_code 33 = .ok (.ireturn, 1) := by decide +kernel
theorem d_L1_equals_34 : decode prog_23_method_13_code 34 = .ok (.iconst 0, 1) := by decide +kernel
theorem d_L1_equals_35 : decode prog_23_method_13_code 35 = .ok (.ireturn, 1) := by decide +kernel
set_option maxHeartbeats 4000000 in
set_option maxRecDepth 100000 in
theorem c_L1_equals (l : Launch) (D : va_G) (cs : Nat → ClassId) (N0 : Nat) (H : Heap) (va vb k k' : Nat) (f f' : Nat → Int32) (h1 : va_at D vwCl (va, .inl (cs 2, (k, .inl f))) H) (h2 : va_at D vwCl (vb, .inl (cs 2, (k', .inl f'))) H) (hk : k < 2147483648) (hk2 : k' < 2147483648) : Met l y_L1_equals w_L1_equals ({ frames := 0, cells := 0, slots := 0, locals := 0 }) (hPre D cs N0 [.ref va, .ref vb] H) (hQi (fun r H' => H' = H ∧ r = bI (eqB k k' f f')) noA) 0 0 noA := by
  refine Met.ofW (cc := prog_23_method_13_code) (maxL := 3) (ret := (Option.some Jvm.ClassFile.FieldType.boolean)) (by decide) rfl ?_
  intro p e s m args below meth c s₁ B hml hv
  obtain ⟨rfl, rfl, hB⟩ := hv
  have hx := B.exec
  have hb := B.bytes
  have hr := B.returns
  have hts := atoms_spec (ws := w_L1_equals) B.pre
  have htg : ∀ w ∈ gw, w.before _ s = true := fun w h => hts w (List.mem_cons_of_mem _ h)
  have hown : s.vm.findClass "java/lang/StringLatin1" = some m.cls := findClass_of_methodNamed B.named
  have hlocks := B.notSynchronized
  have hK := hB.1
  obtain ⟨H, hH⟩ : ∃ z : Heap, z = s.heap := ⟨_, rfl⟩
  have hz0 : H.size = s.heap.size := by rw [hH]
  have hN0 := hB.2.1
  rw [← hH] at h1 h2
  have hS : va_S noA s.heap H [] := by rw [hH]; exact va_S.rf
  have hl := lv_entry ([.ref va, .ref vb]) (n := 3) (Nat.le_of_ble_eq_true rfl)
  rw [lg_entry_eq, ← hH]
  generalize (lg_sl ([.ref va, .ref vb]) ++ List.replicate (3 - (lg_sl ([.ref va, .ref vb])).length) Slot.unset).toArray = ls at hl ⊢
  have hl : lv_has ls 3 [(0, .ref va), (1, .ref vb)] := hl
  refine lv_aload_n hx hb d_L1_equals_0 rfl (lv_at hl 0 rfl) ?_
  refine hx_alen (v := (nI k)) hx hb hK 2 h1 rfl rfl d_L1_equals_1 ?_
  refine lv_aload_n hx hb d_L1_equals_2 rfl (lv_at hl 1 rfl) ?_
  refine hx_alen (v := (nI (k'))) hx hb hK 2 h2 rfl rfl d_L1_equals_3 ?_
  refine lv_icmp_ne (x := (nI k)) (y := (nI (k'))) (tgt := 34) hx hb d_L1_equals_4 (by decide) (fun c4 => ?_) (fun c4 => ?_)
  · skip
    replace c4 : ¬ (k = (k')) := fun z9 => c4 ((nI_eq (a := k) (b := (k')) (by omega) (by omega)).mpr z9)
    refine lv_iconst (v := 0) hx hb d_L1_equals_34 (by decide) ?_
    exact W.zret (v := 0) hx hb hr (by decide) (fun t ht hW => ⟨⟨0, H, rfl, ⟨rfl, eqB_no (by omega)⟩, ht⟩, hS.F ht⟩) hS.2.2 d_L1_equals_35
  · skip
    replace c4 : k = (k') := (nI_eq (a := k) (b := (k')) (by omega) (by omega)).mp c4
    refine lv_iconst (v := 0) hx hb d_L1_equals_7 (by decide) ?_
    refine lv_istore_n (lv' := [(2, .int 0), (0, .ref va), (1, .ref vb)]) hx hb d_L1_equals_8 rfl hl (by decide) rfl (fun ls hl => ?_)
    have loop9 : ∀ (fuel : Nat) (i : Nat), k - i < fuel → (i ≤ k) → (∀ j, j < i → f j = f' j) → ∀ (locs : List Loc), va_S noA s.heap H locs → ∀ (ls : Array Slot), lv_has ls 3 [(0, .ref va), (1, .ref vb), (2, .int (nI i))] → W p l e (headSpec w_L1_equals ({ frames := 0, cells := 0, slots := 0, locals := 0 })).room s m ([.ref va, .ref vb] : List Value).toArray below meth c H locs 0 0 (MQ below (hQi (fun r H' => H' = H ∧ r = bI (eqB k k' f f')) noA) ([.ref va, .ref vb] : List Value).toArray s 0 0 noA) (F0 m 9 ls []) := by
      intro fuel9
      induction fuel9 with
      | zero => intro i hn; exact absurd hn (Nat.not_lt_zero _)
      | succ fuel9 ih9 =>
        intro i hn9 hi hp9 locs hS ls hl
        refine lv_iload_n hx hb d_L1_equals_9 rfl (lv_at hl 2 rfl) ?_
        refine lv_aload_n hx hb d_L1_equals_10 rfl (lv_at hl 0 rfl) ?_
        refine hx_alen (v := (nI k)) hx hb hK 2 h1 rfl rfl d_L1_equals_11 ?_
        refine lv_icmp_ge (x := (nI i)) (y := (nI k)) (tgt := 32) hx hb d_L1_equals_12 (by decide) (fun c12 => ?_) (fun c12 => ?_)
        · skip
          replace c12 : k ≤ i := (nI_leI (a := k) (b := i) (by omega) (by omega)).mp c12
          refine lv_iconst (v := 1) hx hb d_L1_equals_32 (by decide) ?_
          exact W.zret (v := 1) hx hb hr (by decide) (fun t ht hW => ⟨⟨1, H, rfl, ⟨rfl, eqB_yes (by omega) (by omega) hp9⟩, ht⟩, hS.F ht⟩) hS.2.2 d_L1_equals_33
        · skip
          replace c12 : ¬ (k ≤ i) := fun z9 => c12 ((nI_leI (a := k) (b := i) (by omega) (by omega)).mpr z9)
          refine lv_aload_n hx hb d_L1_equals_15 rfl (lv_at hl 0 rfl) ?_
          refine lv_iload_n hx hb d_L1_equals_16 rfl (lv_at hl 2 rfl) ?_
          refine hx_bald hx hb hK 2 h1 rfl (show vp_in (nI i) k from vp_in_nI (n := i) (by omega) (by omega)) d_L1_equals_17 ?_
          refine lv_eqi (y := (f i)) (show f (nI i).toNatClampNeg = _ by rw [nI_clamp (by omega)]) ?_
          refine lv_aload_n hx hb d_L1_equals_18 rfl (lv_at hl 1 rfl) ?_
          refine lv_iload_n hx hb d_L1_equals_19 rfl (lv_at hl 2 rfl) ?_
          refine hx_bald hx hb hK 2 h2 rfl (show vp_in (nI i) (k') from vp_in_nI (n := i) (by omega) (by omega)) d_L1_equals_20 ?_
          refine lv_eqi (y := (f' i)) (show f' (nI i).toNatClampNeg = _ by rw [nI_clamp (by omega)]) ?_
          refine lv_icmp_eq (x := (f i)) (y := (f' i)) (tgt := 26) hx hb d_L1_equals_21 (by decide) (fun c21 => ?_) (fun c21 => ?_)
          · skip
            refine lv_iinc (v := (nI (i + 1))) (lv' := [(2, .int (nI (i + 1))), (0, .ref va), (1, .ref vb)]) hx hb d_L1_equals_26 hl (k := 2) rfl (nI_1 i) (by decide) rfl (fun ls hl => ?_)
            refine lv_goto (tgt := 9) hx hb d_L1_equals_29 (by decide) ?_
            exact ih9  (i + 1) (by omega) (by omega) (fun j hj => if h9 : j = i then h9 ▸ c21 else hp9 j (by omega)) _ hS ls (lv_sub hl [1, 2, 0] rfl)
          · skip
            refine lv_iconst (v := 0) hx hb d_L1_equals_24 (by decide) ?_
            exact W.zret (v := 0) hx hb hr (by decide) (fun t ht hW => ⟨⟨0, H, rfl, ⟨rfl, eqB_at (by omega) c21⟩, ht⟩, hS.F ht⟩) hS.2.2 d_L1_equals_25
    exact loop9 ((k - 0) + 1) 0 (Nat.lt_succ_self _) (Nat.zero_le _) (fun j hj => absurd hj (Nat.not_lt_zero _)) _ hS ls (lv_sub hl [1, 2, 0] rfl)
def y_Sg_equals : MethodName := ⟨"java/lang/String", "equals", "(Ljava/lang/Object;)Z"⟩
abbrev w_Sg_equals : List Cond := Cond.code y_Sg_equals prog_20_method_66_code 3 (Option.some Jvm.ClassFile.FieldType.boolean) :: gw
theorem d_Sg_equals_0 : decode prog_20_method_66_code 0 = .ok (.aload_n 0, 1) := by decide +kernel
theorem d_Sg_equals_1 : decode prog_20_method_66_code 1 = .ok (.aload_n 1, 1) := by decide +kernel
theorem d_Sg_equals_2 : decode prog_20_method_66_code 2 = .ok (.if_acmp .ne 5, 3) := by decide +kernel
theorem d_Sg_equals_7 : decode prog_20_method_66_code 7 = .ok (.aload_n 1, 1) := by decide +kernel
theorem d_Sg_equals_8 : decode prog_20_method_66_code 8 = .ok (.instanceof 10, 3) := by decide +kernel
theorem d_Sg_equals_11 : decode prog_20_method_66_code 11 = .ok (.ifCond .eq 43, 3) := by decide +kernel
theorem d_Sg_equals_14 : decode prog_20_method_66_code 14 = .ok (.aload_n 1, 1) := by decide +kernel
theorem d_Sg_equals_15 : decode prog_20_method_66_code 15 = .ok (.checkcast 10, 3) := by decide +kernel
theorem d_Sg_equals_18 : decode prog_20_method_66_code 18 = .ok (.astore_n 2, 1) := by decide +kernel
theorem d_Sg_equals_19 : decode prog_20_method_66_code 19 = .ok (.getstatic 38, 3) := by decide +kernel
theorem d_Sg_equals_22 : decode prog_20_method_66_code 22 = .ok (.ifCond .eq 14, 3) := by decide +kernel
theorem d_Sg_equals_25 : decode prog_20_method_66_code 25 = .ok (.aload_n 0, 1) := by decide +kernel
theorem d_Sg_equals_26 : decode prog_20_method_66_code 26 = .ok (.getfield 15, 3) := by decide +kernel
theorem d_Sg_equals_29 : decode prog_20_method_66_code 29 = .ok (.aload_n 2, 1) := by decide +kernel
theorem d_Sg_equals_30 : decode prog_20_method_66_code 30 = .ok (.getfield 15, 3) := by decide +kernel
theorem d_Sg_equals_33 : decode prog_20_method_66_code 33 = .ok (.if_icmp .ne 21, 3) := by decide +kernel
theorem d_Sg_equals_36 : decode prog_20_method_66_code 36 = .ok (.aload_n 0, 1) := by decide +kernel
theorem d_Sg_equals_37 : decode prog_20_method_66_code 37 = .ok (.getfield 9, 3) := by decide +kernel
theorem d_Sg_equals_40 : decode prog_20_method_66_code 40 = .ok (.aload_n 2, 1) := by decide +kernel
theorem d_Sg_equals_41 : decode prog_20_method_66_code 41 = .ok (.getfield 9, 3) := by decide +kernel
theorem d_Sg_equals_44 : decode prog_20_method_66_code 44 = .ok (.invokestatic 541, 3) := by decide +kernel
theorem d_Sg_equals_47 : decode prog_20_method_66_code 47 = .ok (.ifCond .eq 7, 3) := by decide +kernel
theorem d_Sg_equals_50 : decode prog_20_method_66_code 50 = .ok (.iconst 1, 1) := by decide +kernel
theorem d_Sg_equals_51 : decode prog_20_method_66_code 51 = .ok (.goto 4, 3) := by decide +kernel
theorem d_Sg_equals_54 : decode prog_20_method_66_code 54 = .ok (.iconst 0, 1) := by decide +kernel
theorem d_Sg_equals_55 : decode prog_20_method_66_code 55 = .ok (.ireturn, 1) := by decide +kernel
set_option maxHeartbeats 4000000 in
set_option maxRecDepth 100000 in
theorem c_Sg_equals (l : Launch) (D : va_G) (cs : Nat → ClassId) (N0 : Nat) (H : Heap) (x va y vb k k' : Nat) (hs hz hs' hz' : Int32) (f f' : Nat → Int32) (h1 : va_at D vwCl (x, .inr (8, [.ref va, .int 0, .int hs, .int hz])) H) (h2 : va_at D vwCl (y, .inr (8, [.ref vb, .int 0, .int hs', .int hz'])) H) (h3 : va_at D vwCl (va, .inl (cs 2, (k, .inl f))) H) (h4 : va_at D vwCl (vb, .inl (cs 2, (k', .inl f'))) H) (hxy : x ≠ y) (hk : k < 2147483648) (hk2 : k' < 2147483648) : Met l y_Sg_equals w_Sg_equals ({ frames := 1, cells := 0, slots := 0, locals := 22 }) (hPre D cs N0 [.ref x, .ref y] H) (hQi (fun r H' => H' = H ∧ r = bI (eqB k k' f f')) noA) 0 0 noA := by
  refine Met.ofW (cc := prog_20_method_66_code) (maxL := 3) (ret := (Option.some Jvm.ClassFile.FieldType.boolean)) (by decide) rfl ?_
  intro p e s m args below meth c s₁ B hml hv
  obtain ⟨rfl, rfl, hB⟩ := hv
  have hx := B.exec
  have hb := B.bytes
  have hr := B.returns
  have hts := atoms_spec (ws := w_Sg_equals) B.pre
  have htg : ∀ w ∈ gw, w.before _ s = true := fun w h => hts w (List.mem_cons_of_mem _ h)
  have hown : s.vm.findClass "java/lang/String" = some m.cls := findClass_of_methodNamed B.named
  have hlocks := B.notSynchronized
  have hK := hB.1
  obtain ⟨H, hH⟩ : ∃ z : Heap, z = s.heap := ⟨_, rfl⟩
  have hz0 : H.size = s.heap.size := by rw [hH]
  have hN0 := hB.2.1
  rw [← hH] at h1 h2 h3 h4
  have hS : va_S noA s.heap H [] := by rw [hH]; exact va_S.rf
  have hl := lv_entry ([.ref x, .ref y]) (n := 3) (Nat.le_of_ble_eq_true rfl)
  rw [lg_entry_eq, ← hH]
  generalize (lg_sl ([.ref x, .ref y]) ++ List.replicate (3 - (lg_sl ([.ref x, .ref y])).length) Slot.unset).toArray = ls at hl ⊢
  have hl : lv_has ls 3 [(0, .ref x), (1, .ref y)] := hl
  refine lv_aload_n hx hb d_Sg_equals_0 rfl (lv_at hl 0 rfl) ?_
  refine lv_aload_n hx hb d_Sg_equals_1 rfl (lv_at hl 1 rfl) ?_
  refine lv_acmp_ne (rx := some x) (ry := some y) (tgt := 7) hx hb d_Sg_equals_2 (by decide) (fun c2 => ?_) (fun c2 => ?_)
  · skip
    refine lv_aload_n hx hb d_Sg_equals_7 rfl (lv_at hl 1 rfl) ?_
    refine va_instS hx hb hown (htg _ (gw_mem (i := 927) (by decide +kernel) rfl)) (x_at hK (ci := 8) rfl) (hx_recv hK (ci := 8) rfl h2) d_Sg_equals_8 ?_
    refine lv_if_eq (x := 1) (tgt := 54) hx hb d_Sg_equals_11 (by decide) (fun c11 => ?_) (fun c11 => ?_)
    · exact absurd c11 (by decide)
    · skip
      refine lv_aload_n hx hb d_Sg_equals_14 rfl (lv_at hl 1 rfl) ?_
      refine va_castS hx hb hown (htg _ (gw_mem (i := 927) (by decide +kernel) rfl)) (x_at hK (ci := 8) rfl) (hx_recv hK (ci := 8) rfl h2) d_Sg_equals_15 ?_
      refine lv_astore_n (lv' := [(2, .ref y), (0, .ref x), (1, .ref y)]) hx hb d_Sg_equals_18 rfl hl (by decide) rfl (fun ls hl => ?_)
      refine va_gets (v := .int 1) hx hb (va_Z.narrow hB.2.2.2.2.2.1 noA_in) hS hown (htg _ (gw_mem (i := 263) (by decide +kernel) rfl)) (fun _ h9 => h9) d_Sg_equals_19 ?_
      refine lv_if_eq (x := 1) (tgt := 36) hx hb d_Sg_equals_22 (by decide) (fun c22 => ?_) (fun c22 => ?_)
      · exact absurd c22 (by decide)
      · skip
        refine lv_aload_n hx hb d_Sg_equals_25 rfl (lv_at hl 1 rfl) ?_
        refine hx_get (ref := "java/lang/String") (v := .int 0) hx hb htg iSg hown hK h1 rfl 1 (by decide) (htg _ (gw_mem (i := 440) (by decide +kernel) rfl)) (fun _ h9 => h9) rfl d_Sg_equals_26 ?_
        refine lv_aload_n hx hb d_Sg_equals_29 rfl (lv_at hl 0 rfl) ?_
        refine hx_get (ref := "java/lang/String") (v := .int 0) hx hb htg iSg hown hK h2 rfl 1 (by decide) (htg _ (gw_mem (i := 440) (by decide +kernel) rfl)) (fun _ h9 => h9) rfl d_Sg_equals_30 ?_
        refine lv_icmp_ne (x := 0) (y := 0) (tgt := 54) hx hb d_Sg_equals_33 (by decide) (fun c33 => ?_) (fun c33 => ?_)
        · exact absurd c33 (by decide)
        · skip
          refine lv_aload_n hx hb d_Sg_equals_36 rfl (lv_at hl 1 rfl) ?_
          refine hx_get (ref := "java/lang/String") (v := .ref va) hx hb htg iSg hown hK h1 rfl 0 (by decide) (htg _ (gw_mem (i := 439) (by decide +kernel) rfl)) (fun _ h9 => h9) rfl d_Sg_equals_37 ?_
          refine lv_aload_n hx hb d_Sg_equals_40 rfl (lv_at hl 0 rfl) ?_
          refine hx_get (ref := "java/lang/String") (v := .ref vb) hx hb htg iSg hown hK h2 rfl 0 (by decide) (htg _ (gw_mem (i := 439) (by decide +kernel) rfl)) (fun _ h9 => h9) rfl d_Sg_equals_41 ?_
          refine h_purei (va_runS (As := [.ref va, .ref vb]) (rest := []) ⟨hx, hb, hml, hown, htg⟩ (c_L1_equals l D cs N0 H va vb k (k') f f' h3 h4 (by omega) (by omega)) ⟨x_cwB 2 htg (gw_mem (i := 930) (by decide +kernel) rfl) (gw_mem (i := 48) (by decide +kernel) rfl) (gw_mem (i := 928) (by decide +kernel) rfl) (by decide +kernel) ⟨Nat.le_of_ble_eq_true rfl, Nat.le_of_ble_eq_true rfl⟩, htg _ (gw_mem (i := 929) (by decide +kernel) rfl)⟩ ⟨hPre.blind, hPre.at hB hS noA_in⟩ rfl rfl hl.1 rfl (lv_room (Nat.le_of_ble_eq_true rfl)) d_Sg_equals_44 ⟨Nat.le_of_ble_eq_true rfl, Nat.le_of_ble_eq_true rfl⟩) hS (fun locs hS => ?_)
          refine lv_if_eq (x := (bI (eqB k (k') f f'))) (tgt := 54) hx hb d_Sg_equals_47 (by decide) (fun c47 => ?_) (fun c47 => ?_)
          · skip
            replace c47 : (eqB k (k') f f') = false := bI_0 c47
            refine lv_iconst (v := 0) hx hb d_Sg_equals_54 (by decide) ?_
            exact W.zret (v := 0) hx hb hr (by decide) (fun t ht hW => ⟨⟨0, H, rfl, ⟨rfl, by rw [c47]; rfl⟩, ht⟩, hS.F ht⟩) hS.2.2 d_Sg_equals_55
          · skip
            replace c47 : (eqB k (k') f f') = true := bI_1 c47
            refine lv_iconst (v := 1) hx hb d_Sg_equals_50 (by decide) ?_
            refine lv_goto (tgt := 55) hx hb d_Sg_equals_51 (by decide) ?_
            exact W.zret (v := 1) hx hb hr (by decide) (fun t ht hW => ⟨⟨1, H, rfl, ⟨rfl, by rw [c47]; rfl⟩, ht⟩, hS.F ht⟩) hS.2.2 d_Sg_equals_55
  · skip
    exact absurd (Option.some.inj c2) hxy
theorem x_fill {f : Nat → Int32} {v : Int32} {j : Nat} : upd (fun i => if i < j then v else f i) j v = (fun i => if i < j + 1 then v else f i) := by
  funext i
  unfold upd
  by_cases h : i = j
  · rw [if_pos h, if_pos (by omega)]
  · rw [if_neg h]
    show (if i < j then v else f i) = (if i < j + 1 then v else f i)
    by_cases h2 : i < j
    · rw [if_pos h2, if_pos (by omega)]
    · rw [if_neg h2, if_neg (by omega)]
def y_Ar_fill : MethodName := ⟨"java/util/Arrays", "fill", "([II)V"⟩
abbrev w_Ar_fill : List Cond := Cond.code y_Ar_fill prog_30_method_103_code 4 (Option.none : Option Jvm.ClassFile.FieldType) :: gw
theorem d_Ar_fill_0 : decode prog_30_method_103_code 0 = .ok (.iconst 0, 1) := by decide +kernel
theorem d_Ar_fill_1 : decode prog_30_method_103_code 1 = .ok (.istore_n 2, 1) := by decide +kernel
theorem d_Ar_fill_2 : decode prog_30_method_103_code 2 = .ok (.aload_n 0, 1) := by decide +kernel
theorem d_Ar_fill_3 : decode prog_30_method_103_code 3 = .ok (.arraylength, 1) := by decide +kernel
theorem d_Ar_fill_4 : decode prog_30_method_103_code 4 = .ok (.istore_n 3, 1) := by decide +kernel
theorem d_Ar_fill_5 : decode prog_30_method_103_code 5 = .ok (.iload_n 2, 1) := by decide +kernel
theorem d_Ar_fill_6 : decode prog_30_method_103_code 6 = .ok (.iload_n 3, 1) := by decide +kernel
theorem d_Ar_fill_7 : decode prog_30_method_103_code 7 = .ok (.if_icmp .ge 13, 3) := by decide +kernel
theorem d_Ar_fill_10 : decode prog_30_method_103_code 10 = .ok (.aload_n 0, 1) := by decide +kernel
theorem d_Ar_fill_11 : decode prog_30_method_103_code 11 = .ok (.iload_n 2, 1) := by decide +kernel
theorem d_Ar_fill_12 : decode prog_30_method_103_code 12 = .ok (.iload_n 1, 1) := by decide +kernel
theorem d_Ar_fill_13 : decode prog_30_method_103_code 13 = .ok (.iastore, 1) := by decide +kernel
theorem d_Ar_fill_14 : decode prog_30_method_103_code 14 = .ok (.iinc 2 1, 3) := by decide +kernel
theorem d_Ar_fill_17 : decode prog_30_method_103_code 17 = .ok (.goto (-12), 3) := by decide +kernel
theorem d_Ar_fill_20 : decode prog_30_method_103_code 20 = .ok (.return_, 1) := by decide +kernel
set_option maxHeartbeats 4000000 in
set_option maxRecDepth 100000 in
theorem c_Ar_fill (l : Launch) (D : va_G) (cs : Nat → ClassId) (N0 : Nat) (H : Heap) (x k N : Nat) (v : Int32) (f : Nat → Int32) (h1 : va_at D vwCl (x, .inl (cs 0, (k, .inl f))) H) (hN : N = H.size) (hx0 : N0 ≤ x) (hk : k < 2147483648) : Met l y_Ar_fill w_Ar_fill ({ frames := 0, cells := 0, slots := 0, locals := 0 }) (hPre D cs N0 [.ref x, .int v] H) (hQv (fun H' => va_at D vwCl (x, .inl (cs 0, (k, .inl (fun _ => v)))) H') (jA [x] N)) 0 0 (jA [x] N) := by
  refine Met.ofW (cc := prog_30_method_103_code) (maxL := 4) (ret := (Option.none : Option Jvm.ClassFile.FieldType)) (by decide) rfl ?_
  intro p e s m args below meth c s₁ B hml hv
  obtain ⟨rfl, rfl, hB⟩ := hv
  have hx := B.exec
  have hb := B.bytes
  have hr := B.returns
  have hts := atoms_spec (ws := w_Ar_fill) B.pre
  have htg : ∀ w ∈ gw, w.before _ s = true := fun w h => hts w (List.mem_cons_of_mem _ h)
  have hown : s.vm.findClass "java/util/Arrays" = some m.cls := findClass_of_methodNamed B.named
  have hlocks := B.notSynchronized
  have hAN : ∀ q, (jA [x] N) q → N0 ≤ q := jA_sub1 hx0 (fun q9 h9 => Nat.le_trans hB.2.1 (hN ▸ h9))
  have hK := hB.1
  obtain ⟨H, hH⟩ : ∃ z : Heap, z = s.heap := ⟨_, rfl⟩
  have hz0 : H.size = s.heap.size := by rw [hH]
  have hN0 := hB.2.1
  rw [← hH] at h1
  have hS : va_S (jA [x] N) s.heap H [] := by rw [hH]; exact va_S.rf
  have hl := lv_entry ([.ref x, .int v]) (n := 4) (Nat.le_of_ble_eq_true rfl)
  rw [lg_entry_eq, ← hH]
  generalize (lg_sl ([.ref x, .int v]) ++ List.replicate (4 - (lg_sl ([.ref x, .int v])).length) Slot.unset).toArray = ls at hl ⊢
  have hl : lv_has ls 4 [(0, .ref x), (1, .int v)] := hl
  refine lv_iconst (v := 0) hx hb d_Ar_fill_0 (by decide) ?_
  refine lv_istore_n (lv' := [(2, .int 0), (0, .ref x), (1, .int v)]) hx hb d_Ar_fill_1 rfl hl (by decide) rfl (fun ls hl => ?_)
  refine lv_aload_n hx hb d_Ar_fill_2 rfl (lv_at hl 1 rfl) ?_
  refine hx_alen (v := (nI k)) hx hb hK 0 h1 rfl rfl d_Ar_fill_3 ?_
  refine lv_istore_n (lv' := [(3, .int (nI k)), (2, .int 0), (0, .ref x), (1, .int v)]) hx hb d_Ar_fill_4 rfl hl (by decide) rfl (fun ls hl => ?_)
  have loop5 : ∀ (fuel : Nat) (j : Nat), k - j < fuel → (j ≤ k) → ∀ (H : Heap) (locs : List Loc), va_at D vwCl (x, .inl (cs 0, (k, .inl (fun i => if i < j then v else f i)))) H → va_S (jA [x] N) s.heap H locs → ∀ (ls : Array Slot), lv_has ls 4 [(0, .ref x), (1, .int v), (2, .int (nI j)), (3, .int (nI k))] → W p l e (headSpec w_Ar_fill ({ frames := 0, cells := 0, slots := 0, locals := 0 })).room s m ([.ref x, .int v] : List Value).toArray below meth c H locs 0 0 (MQ below (hQv (fun H' => va_at D vwCl (x, .inl (cs 0, (k, .inl (fun _ => v)))) H') (jA [x] N)) ([.ref x, .int v] : List Value).toArray s 0 0 (jA [x] N)) (F0 m 5 ls []) := by
    intro fuel5
    induction fuel5 with
    | zero => intro j hn; exact absurd hn (Nat.not_lt_zero _)
    | succ fuel5 ih5 =>
      intro j hn5 hj H locs h1 hS ls hl
      refine lv_iload_n hx hb d_Ar_fill_5 rfl (lv_at hl 2 rfl) ?_
      refine lv_iload_n hx hb d_Ar_fill_6 rfl (lv_at hl 3 rfl) ?_
      refine lv_icmp_ge (x := (nI j)) (y := (nI k)) (tgt := 20) hx hb d_Ar_fill_7 (by decide) (fun c7 => ?_) (fun c7 => ?_)
      · skip
        replace c7 : k ≤ j := (nI_leI (a := k) (b := j) (by omega) (by omega)).mp c7
        exact W.vret hx hb hr (fun t ht hW => ⟨⟨H, rfl, (x_aext h1 (fun i9 h9 => if_pos (show i9 < j by omega))), ht⟩, hS.F ht⟩) hS.2.2 d_Ar_fill_20
      · skip
        replace c7 : ¬ (k ≤ j) := fun z9 => c7 ((nI_leI (a := k) (b := j) (by omega) (by omega)).mpr z9)
        refine lv_aload_n hx hb d_Ar_fill_10 rfl (lv_at hl 0 rfl) ?_
        refine lv_iload_n hx hb d_Ar_fill_11 rfl (lv_at hl 2 rfl) ?_
        refine lv_iload_n hx hb d_Ar_fill_12 rfl (lv_at hl 1 rfl) ?_
        refine hx_iast hx hb hK hS jA_in1 0 h1 rfl (show vp_in (nI j) k from vp_in_nI (n := j) (by omega) (by omega)) d_Ar_fill_13 (fun H locs hat hz ho hS => ?_)
        replace h1 : va_at D vwCl (x, .inl (cs 0, (k, .inl (upd ((fun i => if i < j then v else f i)) j (v))))) H := by rw [show (nI j).toNatClampNeg = j from nI_clamp (n := j) (by omega)] at hat; exact hat
        refine lv_iinc (v := (nI (j + 1))) (lv' := [(2, .int (nI (j + 1))), (0, .ref x), (1, .int v), (3, .int (nI k))]) hx hb d_Ar_fill_14 hl (k := 2) rfl (nI_1 j) (by decide) rfl (fun ls hl => ?_)
        refine lv_goto (tgt := 5) hx hb d_Ar_fill_17 (by decide) ?_
        exact ih5  (j + 1) (by omega) (by omega) _ _ (x_fill ▸ h1) hS ls (lv_sub hl [1, 2, 0, 3] rfl)
  exact loop5 ((k - 0) + 1) 0 (Nat.lt_succ_self _) (Nat.zero_le _) _ _ (show va_at D vwCl (x, .inl (cs 0, (k, .inl (fun i => if i < 0 then v else f i)))) H from h1) hS ls (lv_sub hl [2, 3, 1, 0] rfl)
def y_AC_init : MethodName := ⟨"java/util/AbstractCollection", "<init>", "()V"⟩
abbrev w_AC_init : List Cond := Cond.code y_AC_init prog_27_method_1_code 1 (Option.none : Option Jvm.ClassFile.FieldType) :: gw
theorem d_AC_init_0 : decode prog_27_method_1_code 0 = .ok (.aload_n 0, 1) := by decide +kernel
theorem d_AC_init_1 : decode prog_27_method_1_code 1 = .ok (.invokespecial 1, 3) := by decide +kernel
theorem d_AC_init_4 : decode prog_27_method_1_code 4 = .ok (.return_, 1) := by decide +kernel
set_option maxHeartbeats 4000000 in
set_option maxRecDepth 100000 in
theorem c_AC_init (l : Launch) (D : va_G) (cs : Nat → ClassId) (N0 : Nat) (H : Heap) (x : Nat) (h1 : va_at D vwCl (x, .inr (6, [.null, .int 0, .int 0])) H) : Met l y_AC_init w_AC_init ({ frames := 1, cells := 0, slots := 0, locals := 12 }) (hPre D cs N0 [.ref x] H) (hQv (fun H' => H' = H) noA) 0 0 noA := by
  refine Met.ofW (cc := prog_27_method_1_code) (maxL := 1) (ret := (Option.none : Option Jvm.ClassFile.FieldType)) (by decide) rfl ?_
  intro p e s m args below meth c s₁ B hml hv
  obtain ⟨rfl, rfl, hB⟩ := hv
  have hx := B.exec
  have hb := B.bytes
  have hr := B.returns
  have hts := atoms_spec (ws := w_AC_init) B.pre
  have htg : ∀ w ∈ gw, w.before _ s = true := fun w h => hts w (List.mem_cons_of_mem _ h)
  have hown : s.vm.findClass "java/util/AbstractCollection" = some m.cls := findClass_of_methodNamed B.named
  have hlocks := B.notSynchronized
  have hin : meth.name = "<init>" := (name_of_methodNamed B.named B.method).1
  have hK := hB.1
  obtain ⟨H, hH⟩ : ∃ z : Heap, z = s.heap := ⟨_, rfl⟩
  have hz0 : H.size = s.heap.size := by rw [hH]
  have hN0 := hB.2.1
  rw [← hH] at h1
  have hS : va_S noA s.heap H [] := by rw [hH]; exact va_S.rf
  have hl := lv_entry ([.ref x]) (n := 1) (Nat.le_of_ble_eq_true rfl)
  rw [lg_entry_eq, ← hH]
  generalize (lg_sl ([.ref x]) ++ List.replicate (1 - (lg_sl ([.ref x])).length) Slot.unset).toArray = ls at hl ⊢
  have hl : lv_has ls 1 [(0, .ref x)] := hl
  refine lv_aload_n hx hb d_AC_init_0 rfl (lv_at hl 0 rfl) ?_
  refine W.objInit hx hb hown (htg _ (gw_mem (i := 111) (by decide +kernel) rfl)) (htg _ (gw_mem (i := 65) (by decide +kernel) rfl)) (htg _ (gw_mem (i := 66) (by decide +kernel) rfl)) rfl (by rw [hml]; exact hl.1) rfl d_AC_init_1 (Nat.le_of_ble_eq_true rfl) (Nat.le_of_ble_eq_true rfl) ?_
  refine W.eq (g2 := F0 m 4 ls []) rfl ?_
  exact W.vret hx hb hr (fun t ht hW => ⟨⟨H, rfl, rfl, ht⟩, hS.F ht⟩) hS.2.2 d_AC_init_4
def y_AbL_init : MethodName := ⟨"java/util/AbstractList", "<init>", "()V"⟩
abbrev w_AbL_init : List Cond := Cond.code y_AbL_init prog_28_method_1_code 1 (Option.none : Option Jvm.ClassFile.FieldType) :: gw
theorem d_AbL_init_0 : decode prog_28_method_1_code 0 = .ok (.aload_n 0, 1) := by decide +kernel
theorem d_AbL_init_1 : decode prog_28_method_1_code 1 = .ok (.invokespecial 1, 3) := by decide +kernel
theorem d_AbL_init_4 : decode prog_28_method_1_code 4 = .ok (.aload_n 0, 1) := by decide +kernel
theorem d_AbL_init_5 : decode prog_28_method_1_code 5 = .ok (.iconst 0, 1) := by decide +kernel
theorem d_AbL_init_6 : decode prog_28_method_1_code 6 = .ok (.putfield 7, 3) := by decide +kernel
theorem d_AbL_init_9 : decode prog_28_method_1_code 9 = .ok (.return_, 1) := by decide +kernel
set_option maxHeartbeats 4000000 in
set_option maxRecDepth 100000 in
theorem c_AbL_init (l : Launch) (D : va_G) (cs : Nat → ClassId) (N0 : Nat) (H : Heap) (x N : Nat) (h1 : va_at D vwCl (x, .inr (6, [.null, .int 0, .int 0])) H) (hN : N = H.size) (hx0 : N0 ≤ x) : Met l y_AbL_init w_AbL_init ({ frames := 2, cells := 0, slots := 0, locals := 32 }) (hPre D cs N0 [.ref x] H) (hQv (fun H' => va_at D vwCl (x, .inr (6, [.null, .int 0, .int 0])) H') (jA [x] N)) 0 0 (jA [x] N) := by
  refine Met.ofW (cc := prog_28_method_1_code) (maxL := 1) (ret := (Option.none : Option Jvm.ClassFile.FieldType)) (by decide) rfl ?_
  intro p e s m args below meth c s₁ B hml hv
  obtain ⟨rfl, rfl, hB⟩ := hv
  have hx := B.exec
  have hb := B.bytes
  have hr := B.returns
  have hts := atoms_spec (ws := w_AbL_init) B.pre
  have htg : ∀ w ∈ gw, w.before _ s = true := fun w h => hts w (List.mem_cons_of_mem _ h)
  have hown : s.vm.findClass "java/util/AbstractList" = some m.cls := findClass_of_methodNamed B.named
  have hlocks := B.notSynchronized
  have hin : meth.name = "<init>" := (name_of_methodNamed B.named B.method).1
  have hAN : ∀ q, (jA [x] N) q → N0 ≤ q := jA_sub1 hx0 (fun q9 h9 => Nat.le_trans hB.2.1 (hN ▸ h9))
  have hK := hB.1
  obtain ⟨H, hH⟩ : ∃ z : Heap, z = s.heap := ⟨_, rfl⟩
  have hz0 : H.size = s.heap.size := by rw [hH]
  have hN0 := hB.2.1
  rw [← hH] at h1
  have hS : va_S (jA [x] N) s.heap H [] := by rw [hH]; exact va_S.rf
  have hl := lv_entry ([.ref x]) (n := 1) (Nat.le_of_ble_eq_true rfl)
  rw [lg_entry_eq, ← hH]
  generalize (lg_sl ([.ref x]) ++ List.replicate (1 - (lg_sl ([.ref x])).length) Slot.unset).toArray = ls at hl ⊢
  have hl : lv_has ls 1 [(0, .ref x)] := hl
  refine lv_aload_n hx hb d_AbL_init_0 rfl (lv_at hl 0 rfl) ?_
  refine h_purev (va_runI (As := []) (rest := []) ⟨hx, hb, hml, hown, htg⟩ (c_AC_init l D cs N0 H x h1) ⟨x_cwB 0 htg (gw_mem (i := 110) (by decide +kernel) rfl) (gw_mem (i := 35) (by decide +kernel) rfl) (gw_mem (i := 108) (by decide +kernel) rfl) (by decide +kernel) ⟨Nat.le_of_ble_eq_true rfl, Nat.le_of_ble_eq_true rfl⟩, rfl, htg _ (gw_mem (i := 109) (by decide +kernel) rfl)⟩ ⟨hPre.blind, hPre.at hB hS hAN⟩ rfl rfl hl.1 rfl (lv_room (Nat.le_of_ble_eq_true rfl)) d_AbL_init_1 ⟨Nat.le_of_ble_eq_true rfl, Nat.le_of_ble_eq_true rfl⟩) hS (fun locs hS => ?_)
  refine lv_aload_n hx hb d_AbL_init_4 rfl (lv_at hl 0 rfl) ?_
  refine lv_iconst (v := 0) hx hb d_AbL_init_5 (by decide) ?_
  refine hx_put (ref := "java/util/AbstractList") (ty := .int) (v := .int 0) hx hb htg iAL tAL tAL_ok nAL hown hK h1 hS jA_in1 rfl 2 (by decide) (htg _ (gw_mem (i := 116) (by decide +kernel) rfl)) (fun _ h9 => h9) rfl (by decide +kernel) rfl rfl (Nat.le_of_ble_eq_true rfl) d_AbL_init_6 (fun H locs hat hz ho hS => ?_)
  replace h1 : va_at D vwCl (x, .inr (6, [.null, .int 0, .int 0])) H := hat
  exact W.vret hx hb hr (fun t ht hW => ⟨⟨H, rfl, h1, ht⟩, hS.F ht⟩) hS.2.2 d_AbL_init_9
def y_AL_init : MethodName := ⟨"java/util/ArrayList", "<init>", "()V"⟩
abbrev w_AL_init : List Cond := Cond.code y_AL_init prog_29_method_2_code 1 (Option.none : Option Jvm.ClassFile.FieldType) :: gw
theorem d_AL_init_0 : decode prog_29_method_2_code 0 = .ok (.aload_n 0, 1) := by decide +kernel
theorem d_AL_init_1 : decode prog_29_method_2_code 1 = .ok (.invokespecial 1, 3) := by decide +kernel
theorem d_AL_init_4 : decode prog_29_method_2_code 4 = .ok (.aload_n 0, 1) := by decide +kernel
theorem d_AL_init_5 : decode prog_29_method_2_code 5 = .ok (.getstatic 39, 3) := by decide +kernel
theorem d_AL_init_8 : decode prog_29_method_2_code 8 = .ok (.putfield 9, 3) := by decide +kernel
theorem d_AL_init_11 : decode prog_29_method_2_code 11 = .ok (.return_, 1) := by decide +kernel
set_option maxHeartbeats 4000000 in
set_option maxRecDepth 100000 in
theorem c_AL_init (l : Launch) (D : va_G) (cs : Nat → ClassId) (N0 : Nat) (H : Heap) (x N : Nat) (h1 : va_at D vwCl (x, .inr (6, [.null, .int 0, .int 0])) H) (hN : N = H.size) (hx0 : N0 ≤ x) : Met l y_AL_init w_AL_init ({ frames := 3, cells := 0, slots := 0, locals := 52 }) (hPre D cs N0 [.ref x] H) (hQv (fun H' => va_at D vwCl (x, .inr (6, [.ref (cs 9), .int 0, .int 0])) H') (jA [x] N)) 0 0 (jA [x] N) := by
  refine Met.ofW (cc := prog_29_method_2_code) (maxL := 1) (ret := (Option.none : Option Jvm.ClassFile.FieldType)) (by decide) rfl ?_
  intro p e s m args below meth c s₁ B hml hv
  obtain ⟨rfl, rfl, hB⟩ := hv
  have hx := B.exec
  have hb := B.bytes
  have hr := B.returns
  have hts := atoms_spec (ws := w_AL_init) B.pre
  have htg : ∀ w ∈ gw, w.before _ s = true := fun w h => hts w (List.mem_cons_of_mem _ h)
  have hown : s.vm.findClass "java/util/ArrayList" = some m.cls := findClass_of_methodNamed B.named
  have hlocks := B.notSynchronized
  have hin : meth.name = "<init>" := (name_of_methodNamed B.named B.method).1
  have hAN : ∀ q, (jA [x] N) q → N0 ≤ q := jA_sub1 hx0 (fun q9 h9 => Nat.le_trans hB.2.1 (hN ▸ h9))
  have hK := hB.1
  obtain ⟨H, hH⟩ : ∃ z : Heap, z = s.heap := ⟨_, rfl⟩
  have hz0 : H.size = s.heap.size := by rw [hH]
  have hN0 := hB.2.1
  rw [← hH] at h1
  have hS : va_S (jA [x] N) s.heap H [] := by rw [hH]; exact va_S.rf
  have hl := lv_entry ([.ref x]) (n := 1) (Nat.le_of_ble_eq_true rfl)
  rw [lg_entry_eq, ← hH]
  generalize (lg_sl ([.ref x]) ++ List.replicate (1 - (lg_sl ([.ref x])).length) Slot.unset).toArray = ls at hl ⊢
  have hl : lv_has ls 1 [(0, .ref x)] := hl
  refine lv_aload_n hx hb d_AL_init_0 rfl (lv_at hl 0 rfl) ?_
  obtain ⟨nq1, hnq1⟩ : ∃ z : Nat, z = H.size := ⟨_, rfl⟩
  have hlt_q2 := hx_lt h1
  refine h_callv (va_runI (As := []) (rest := []) ⟨hx, hb, hml, hown, htg⟩ (c_AbL_init l D cs N0 H x nq1 h1 hnq1 (by omega)) ⟨x_cwB 0 htg (gw_mem (i := 107) (by decide +kernel) rfl) (gw_mem (i := 36) (by decide +kernel) rfl) (gw_mem (i := 105) (by decide +kernel) rfl) (by decide +kernel) ⟨Nat.le_of_ble_eq_true rfl, Nat.le_of_ble_eq_true rfl⟩, rfl, htg _ (gw_mem (i := 106) (by decide +kernel) rfl)⟩ ⟨hPre.blind, hPre.at hB hS hAN⟩ rfl rfl hl.1 rfl (lv_room (Nat.le_of_ble_eq_true rfl)) d_AL_init_1 ⟨Nat.le_of_ble_eq_true rfl, Nat.le_of_ble_eq_true rfl⟩) hS (jA_sub1 jA_in1 (fun q9 h9 => Or.inr (show N ≤ q9 by omega))) (fun H locs hp hz hk hS => ?_)
  have hO3 := hp
  refine lv_aload_n hx hb d_AL_init_4 rfl (lv_at hl 0 rfl) ?_
  refine va_gets (v := .ref (cs 9)) hx hb (va_Z.narrow hB.2.2.2.2.2.2.1 hAN) hS hown (htg _ (gw_mem (i := 112) (by decide +kernel) rfl)) (fun _ h9 => h9) d_AL_init_5 ?_
  refine hx_put (ref := "java/util/ArrayList") (ty := .array (.object "java/lang/Object")) (v := .ref (cs 9)) hx hb htg iAL tAL tAL_ok nAL hown hK hO3 hS jA_in1 rfl 0 (by decide) (htg _ (gw_mem (i := 114) (by decide +kernel) rfl)) (fun _ h9 => h9) rfl (by decide +kernel) rfl rfl (Nat.le_of_ble_eq_true rfl) d_AL_init_8 (fun H locs hat hz ho hS => ?_)
  replace hO3 : va_at D vwCl (x, .inr (6, [.ref (cs 9), .int 0, .int 0])) H := hat
  exact W.vret hx hb hr (fun t ht hW => ⟨⟨H, rfl, hO3, ht⟩, hS.F ht⟩) hS.2.2 d_AL_init_11
