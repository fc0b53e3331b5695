def hasB (a q : Int32) : Bool := !decide (a &&& ((1 : Int32) <<< (q &&& 31)) = 0)
def setV (a b : Int32) : Int32 := ((1 : Int32) <<< (a &&& 31)) ||| ((1 : Int32) <<< (b &&& 31))
def numB (q : Int32) : Bool := !decide (q ≤ 0) && !decide (999999 < q)
def inB (u v q : Int32) : Bool := !decide (q < u) && !decide (v < q)
def meetB (u v a b : Int32) : Bool := !decide (b < u) && !decide (v < a)
def holdV (u v q : Int32) : Bool := !decide (q < u) && !decide (v ≤ q)
def y_Nm_has : MethodName := ⟨"NameMerges", "has", "(II)Z"⟩
abbrev w_Nm_has : List Cond := Cond.code y_Nm_has prog_1_method_29_code 2 (Option.some Jvm.ClassFile.FieldType.boolean) :: gw
theorem d_Nm_has_0 : decode prog_1_method_29_code 0 = .ok (.iload_n 0, 1) := by decide +kernel
theorem d_Nm_has_1 : decode prog_1_method_29_code 1 = .ok (.iconst 1, 1) := by decide +kernel
theorem d_Nm_has_2 : decode prog_1_method_29_code 2 = .ok (.iload_n 1, 1) := by decide +kernel
theorem d_Nm_has_3 : decode prog_1_method_29_code 3 = .ok (.ishl, 1) := by decide +kernel
theorem d_Nm_has_4 : decode prog_1_method_29_code 4 = .ok (.iand, 1) := by decide +kernel
theorem d_Nm_has_5 : decode prog_1_method_29_code 5 = .ok (.ifCond .eq 7, 3) := by decide +kernel
theorem d_Nm_has_8 : decode prog_1_method_29_code 8 = .ok (.iconst 1, 1) := by decide +kernel
theorem d_Nm_has_9 : decode prog_1_method_29_code 9 = .ok (.goto 4, 3) := by decide +kernel
theorem d_Nm_has_12 : decode prog_1_method_29_code 12 = .ok (.iconst 0, 1) := by decide +kernel
theorem d_Nm_has_13 : decode prog_1_method_29_code 13 = .ok (.ireturn, 1) := by decide +kernel
set_option maxHeartbeats 4000000 in
set_option maxRecDepth 100000 in
theorem c_Nm_has (l : Launch) (D : va_G) (cs : Nat → ClassId) (N0 : Nat) (H : Heap) (a q : Int32) : Met l y_Nm_has w_Nm_has ({ frames := 0, cells := 0, slots := 0, locals := 0 }) (hPre D cs N0 [.int a, .int q] H) (hQi (fun r H' => H' = H ∧ r = bI (hasB a q)) noA) 0 0 noA := by
  refine Met.ofW (cc := prog_1_method_29_code) (maxL := 2) (ret := (Option.some Jvm.ClassFile.FieldType.boolean)) (by decide) rfl ?_
  intro p e s m args below meth c s₁ B hml hv
  obtain ⟨rfl, rfl, hB⟩ := hv
  have hx := B.exec
  have hb := B.bytes
  have hr := B.returns
  have hts := atoms_spec (ws := w_Nm_has) B.pre
  have htg : ∀ w ∈ gw, w.before _ s = true := fun w h => hts w (List.mem_cons_of_mem _ h)
  have hown : s.vm.findClass "NameMerges" = some m.cls := findClass_of_methodNamed B.named
  have hlocks := B.notSynchronized
  have hK := hB.1
  obtain ⟨H, hH⟩ : ∃ z : Heap, z = s.heap := ⟨_, rfl⟩
  have hS : va_S noA s.heap H [] := by rw [hH]; exact va_S.rf
  have hl := lv_entry ([.int a, .int q]) (n := 2) (Nat.le_of_ble_eq_true rfl)
  rw [lg_entry_eq, ← hH]
  generalize (lg_sl ([.int a, .int q]) ++ List.replicate (2 - (lg_sl ([.int a, .int q])).length) Slot.unset).toArray = ls at hl ⊢
  have hl : lv_has ls 2 [(0, .int a), (1, .int q)] := hl
  refine lv_iload_n hx hb d_Nm_has_0 rfl (lv_at hl 0 rfl) ?_
  refine lv_iconst (v := 1) hx hb d_Nm_has_1 (by decide) ?_
  refine lv_iload_n hx hb d_Nm_has_2 rfl (lv_at hl 1 rfl) ?_
  refine lv_ishl (x := 1) (y := q) hx hb d_Nm_has_3 ?_
  refine lv_iand (x := a) (y := (1 <<< (q &&& 31))) hx hb d_Nm_has_4 ?_
  refine lv_if_eq (x := (a &&& (1 <<< (q &&& 31)))) (tgt := 12) hx hb d_Nm_has_5 (by decide) (fun c5 => ?_) (fun c5 => ?_)
  · skip
    refine lv_iconst (v := 0) hx hb d_Nm_has_12 (by decide) ?_
    exact W.zret (v := 0) hx hb hr (by decide) (fun t ht hW => ⟨⟨0, H, rfl, ⟨rfl, by simp [hasB, bI, c5]⟩, ht⟩, hS.F ht⟩) hS.2.2 d_Nm_has_13
  · skip
    refine lv_iconst (v := 1) hx hb d_Nm_has_8 (by decide) ?_
    refine lv_goto (tgt := 13) hx hb d_Nm_has_9 (by decide) ?_
    exact W.zret (v := 1) hx hb hr (by decide) (fun t ht hW => ⟨⟨1, H, rfl, ⟨rfl, by simp [hasB, bI, c5]⟩, ht⟩, hS.F ht⟩) hS.2.2 d_Nm_has_13
def y_Nm_setOf : MethodName := ⟨"NameMerges", "setOf", "(II)I"⟩
abbrev w_Nm_setOf : List Cond := Cond.code y_Nm_setOf prog_1_method_28_code 2 (Option.some Jvm.ClassFile.FieldType.int) :: gw
theorem d_Nm_setOf_0 : decode prog_1_method_28_code 0 = .ok (.iconst 1, 1) := by decide +kernel
theorem d_Nm_setOf_1 : decode prog_1_method_28_code 1 = .ok (.iload_n 0, 1) := by decide +kernel
theorem d_Nm_setOf_2 : decode prog_1_method_28_code 2 = .ok (.ishl, 1) := by decide +kernel
theorem d_Nm_setOf_3 : decode prog_1_method_28_code 3 = .ok (.iconst 1, 1) := by decide +kernel
theorem d_Nm_setOf_4 : decode prog_1_method_28_code 4 = .ok (.iload_n 1, 1) := by decide +kernel
theorem d_Nm_setOf_5 : decode prog_1_method_28_code 5 = .ok (.ishl, 1) := by decide +kernel
theorem d_Nm_setOf_6 : decode prog_1_method_28_code 6 = .ok (.ior, 1) := by decide +kernel
theorem d_Nm_setOf_7 : decode prog_1_method_28_code 7 = .ok (.ireturn, 1) := by decide +kernel
set_option maxHeartbeats 4000000 in
set_option maxRecDepth 100000 in
theorem c_Nm_setOf (l : Launch) (D : va_G) (cs : Nat → ClassId) (N0 : Nat) (H : Heap) (a b : Int32) : Met l y_Nm_setOf w_Nm_setOf ({ frames := 0, cells := 0, slots := 0, locals := 0 }) (hPre D cs N0 [.int a, .int b] H) (hQi (fun r H' => H' = H ∧ r = setV a b) noA) 0 0 noA := by
  refine Met.ofW (cc := prog_1_method_28_code) (maxL := 2) (ret := (Option.some Jvm.ClassFile.FieldType.int)) (by decide) rfl ?_
  intro p e s m args below meth c s₁ B hml hv
  obtain ⟨rfl, rfl, hB⟩ := hv
  have hx := B.exec
  have hb := B.bytes
  have hr := B.returns
  have hts := atoms_spec (ws := w_Nm_setOf) B.pre
  have htg : ∀ w ∈ gw, w.before _ s = true := fun w h => hts w (List.mem_cons_of_mem _ h)
  have hown : s.vm.findClass "NameMerges" = some m.cls := findClass_of_methodNamed B.named
  have hlocks := B.notSynchronized
  have hK := hB.1
  obtain ⟨H, hH⟩ : ∃ z : Heap, z = s.heap := ⟨_, rfl⟩
  have hS : va_S noA s.heap H [] := by rw [hH]; exact va_S.rf
  have hl := lv_entry ([.int a, .int b]) (n := 2) (Nat.le_of_ble_eq_true rfl)
  rw [lg_entry_eq, ← hH]
  generalize (lg_sl ([.int a, .int b]) ++ List.replicate (2 - (lg_sl ([.int a, .int b])).length) Slot.unset).toArray = ls at hl ⊢
  have hl : lv_has ls 2 [(0, .int a), (1, .int b)] := hl
  refine lv_iconst (v := 1) hx hb d_Nm_setOf_0 (by decide) ?_
  refine lv_iload_n hx hb d_Nm_setOf_1 rfl (lv_at hl 0 rfl) ?_
  refine lv_ishl (x := 1) (y := a) hx hb d_Nm_setOf_2 ?_
  refine lv_iconst (v := 1) hx hb d_Nm_setOf_3 (by decide) ?_
  refine lv_iload_n hx hb d_Nm_setOf_4 rfl (lv_at hl 1 rfl) ?_
  refine lv_ishl (x := 1) (y := b) hx hb d_Nm_setOf_5 ?_
  refine lv_ior (x := (1 <<< (a &&& 31))) (y := (1 <<< (b &&& 31))) hx hb d_Nm_setOf_6 ?_
  exact W.iret (v := ((1 <<< (a &&& 31)) ||| (1 <<< (b &&& 31)))) hx hb hr (fun t ht hW => ⟨⟨((1 <<< (a &&& 31)) ||| (1 <<< (b &&& 31))), H, rfl, ⟨rfl, rfl⟩, ht⟩, hS.F ht⟩) hS.2.2 d_Nm_setOf_7
def y_Nm_isNumber : MethodName := ⟨"NameMerges", "isNumber", "(I)Z"⟩
abbrev w_Nm_isNumber : List Cond := Cond.code y_Nm_isNumber prog_1_method_27_code 1 (Option.some Jvm.ClassFile.FieldType.boolean) :: gw
theorem d_Nm_isNumber_0 : decode prog_1_method_27_code 0 = .ok (.iload_n 0, 1) := by decide +kernel
theorem d_Nm_isNumber_1 : decode prog_1_method_27_code 1 = .ok (.ifCond .le 13, 3) := by decide +kernel
theorem d_Nm_isNumber_4 : decode prog_1_method_27_code 4 = .ok (.iload_n 0, 1) := by decide +kernel
theorem d_Nm_isNumber_5 : decode prog_1_method_27_code 5 = .ok (.ldc 252, 2) := by decide +kernel
theorem d_Nm_isNumber_7 : decode prog_1_method_27_code 7 = .ok (.if_icmp .gt 7, 3) := by decide +kernel
theorem d_Nm_isNumber_10 : decode prog_1_method_27_code 10 = .ok (.iconst 1, 1) := by decide +kernel
theorem d_Nm_isNumber_11 : decode prog_1_method_27_code 11 = .ok (.goto 4, 3) := by decide +kernel
theorem d_Nm_isNumber_14 : decode prog_1_method_27_code 14 = .ok (.iconst 0, 1) := by decide +kernel
theorem d_Nm_isNumber_15 : decode prog_1_method_27_code 15 = .ok (.ireturn, 1) := by decide +kernel
set_option maxHeartbeats 4000000 in
set_option maxRecDepth 100000 in
theorem c_Nm_isNumber (l : Launch) (D : va_G) (cs : Nat → ClassId) (N0 : Nat) (H : Heap) (q : Int32) : Met l y_Nm_isNumber w_Nm_isNumber ({ frames := 0, cells := 0, slots := 0, locals := 0 }) (hPre D cs N0 [.int q] H) (hQi (fun r H' => H' = H ∧ r = bI (numB q)) noA) 0 0 noA := by
  refine Met.ofW (cc := prog_1_method_27_code) (maxL := 1) (ret := (Option.some Jvm.ClassFile.FieldType.boolean)) (by decide) rfl ?_
  intro p e s m args below meth c s₁ B hml hv
  obtain ⟨rfl, rfl, hB⟩ := hv
  have hx := B.exec
  have hb := B.bytes
  have hr := B.returns
  have hts := atoms_spec (ws := w_Nm_isNumber) B.pre
  have htg : ∀ w ∈ gw, w.before _ s = true := fun w h => hts w (List.mem_cons_of_mem _ h)
  have hown : s.vm.findClass "NameMerges" = some m.cls := findClass_of_methodNamed B.named
  have hlocks := B.notSynchronized
  have hK := hB.1
  obtain ⟨H, hH⟩ : ∃ z : Heap, z = s.heap := ⟨_, rfl⟩
  have hS : va_S noA s.heap H [] := by rw [hH]; exact va_S.rf
  have hl := lv_entry ([.int q]) (n := 1) (Nat.le_of_ble_eq_true rfl)
  rw [lg_entry_eq, ← hH]
  generalize (lg_sl ([.int q]) ++ List.replicate (1 - (lg_sl ([.int q])).length) Slot.unset).toArray = ls at hl ⊢
  have hl : lv_has ls 1 [(0, .int q)] := hl
  refine lv_iload_n hx hb d_Nm_isNumber_0 rfl (lv_at hl 0 rfl) ?_
  refine lv_if_le (x := q) (tgt := 14) hx hb d_Nm_isNumber_1 (by decide) (fun c1 => ?_) (fun c1 => ?_)
  · skip
    refine lv_iconst (v := 0) hx hb d_Nm_isNumber_14 (by decide) ?_
    exact W.zret (v := 0) hx hb hr (by decide) (fun t ht hW => ⟨⟨0, H, rfl, ⟨rfl, by simp [numB, bI, c1]⟩, ht⟩, hS.F ht⟩) hS.2.2 d_Nm_isNumber_15
  · skip
    refine lv_iload_n hx hb d_Nm_isNumber_4 rfl (lv_at hl 0 rfl) ?_
    refine lv_ldc (v := 999999) hx hb hown (htg _ (gw_mem (i := 959) (by decide +kernel) rfl)) d_Nm_isNumber_5 ?_
    refine lv_icmp_gt (x := q) (y := 999999) (tgt := 14) hx hb d_Nm_isNumber_7 (by decide) (fun c7 => ?_) (fun c7 => ?_)
    · skip
      refine lv_iconst (v := 0) hx hb d_Nm_isNumber_14 (by decide) ?_
      exact W.zret (v := 0) hx hb hr (by decide) (fun t ht hW => ⟨⟨0, H, rfl, ⟨rfl, by simp [numB, bI, c1, c7]⟩, ht⟩, hS.F ht⟩) hS.2.2 d_Nm_isNumber_15
    · skip
      refine lv_iconst (v := 1) hx hb d_Nm_isNumber_10 (by decide) ?_
      refine lv_goto (tgt := 15) hx hb d_Nm_isNumber_11 (by decide) ?_
      exact W.zret (v := 1) hx hb hr (by decide) (fun t ht hW => ⟨⟨1, H, rfl, ⟨rfl, by simp [numB, bI, c1, c7]⟩, ht⟩, hS.F ht⟩) hS.2.2 d_Nm_isNumber_15
def y_Da_contain : MethodName := ⟨"NameMerges$Days", "contain", "(I)Z"⟩
abbrev w_Da_contain : List Cond := Cond.code y_Da_contain prog_2_method_2_code 2 (Option.some Jvm.ClassFile.FieldType.boolean) :: gw
theorem d_Da_contain_0 : decode prog_2_method_2_code 0 = .ok (.aload_n 0, 1) := by decide +kernel
theorem d_Da_contain_1 : decode prog_2_method_2_code 1 = .ok (.getfield 7, 3) := by decide +kernel
theorem d_Da_contain_4 : decode prog_2_method_2_code 4 = .ok (.iload_n 1, 1) := by decide +kernel
theorem d_Da_contain_5 : decode prog_2_method_2_code 5 = .ok (.if_icmp .gt 15, 3) := by decide +kernel
theorem d_Da_contain_8 : decode prog_2_method_2_code 8 = .ok (.iload_n 1, 1) := by decide +kernel
theorem d_Da_contain_9 : decode prog_2_method_2_code 9 = .ok (.aload_n 0, 1) := by decide +kernel
theorem d_Da_contain_10 : decode prog_2_method_2_code 10 = .ok (.getfield 13, 3) := by decide +kernel
theorem d_Da_contain_13 : decode prog_2_method_2_code 13 = .ok (.if_icmp .gt 7, 3) := by decide +kernel
theorem d_Da_contain_16 : decode prog_2_method_2_code 16 = .ok (.iconst 1, 1) := by decide +kernel
theorem d_Da_contain_17 : decode prog_2_method_2_code 17 = .ok (.goto 4, 3) := by decide +kernel
theorem d_Da_contain_20 : decode prog_2_method_2_code 20 = .ok (.iconst 0, 1) := by decide +kernel
theorem d_Da_contain_21 : decode prog_2_method_2_code 21 = .ok (.ireturn, 1) := by decide +kernel
set_option maxHeartbeats 4000000 in
set_option maxRecDepth 100000 in
theorem c_Da_contain (l : Launch) (D : va_G) (cs : Nat → ClassId) (N0 : Nat) (H : Heap) (x : Nat) (u v q : Int32) (h1 : va_at D vwCl (x, .inr (4, [.int u, .int v])) H) : Met l y_Da_contain w_Da_contain ({ frames := 0, cells := 0, slots := 0, locals := 0 }) (hPre D cs N0 [.ref x, .int q] H) (hQi (fun r H' => H' = H ∧ r = bI (inB u v q)) noA) 0 0 noA := by
  refine Met.ofW (cc := prog_2_method_2_code) (maxL := 2) (ret := (Option.some Jvm.ClassFile.FieldType.boolean)) (by decide) rfl ?_
  intro p e s m args below meth c s₁ B hml hv
  obtain ⟨rfl, rfl, hB⟩ := hv
  have hx := B.exec
  have hb := B.bytes
  have hr := B.returns
  have hts := atoms_spec (ws := w_Da_contain) B.pre
  have htg : ∀ w ∈ gw, w.before _ s = true := fun w h => hts w (List.mem_cons_of_mem _ h)
  have hown : s.vm.findClass "NameMerges$Days" = some m.cls := findClass_of_methodNamed B.named
  have hlocks := B.notSynchronized
  have hK := hB.1
  obtain ⟨H, hH⟩ : ∃ z : Heap, z = s.heap := ⟨_, rfl⟩
  rw [← hH] at h1
  have hS : va_S noA s.heap H [] := by rw [hH]; exact va_S.rf
  have hl := lv_entry ([.ref x, .int q]) (n := 2) (Nat.le_of_ble_eq_true rfl)
  rw [lg_entry_eq, ← hH]
  generalize (lg_sl ([.ref x, .int q]) ++ List.replicate (2 - (lg_sl ([.ref x, .int q])).length) Slot.unset).toArray = ls at hl ⊢
  have hl : lv_has ls 2 [(0, .ref x), (1, .int q)] := hl
  refine lv_aload_n hx hb d_Da_contain_0 rfl (lv_at hl 0 rfl) ?_
  refine hx_get (v := .int u) hx hb htg iDa hown hK h1 rfl 0 (by decide) (htg _ (gw_mem (i := 771) (by decide +kernel) rfl)) (fun _ h9 => h9) rfl d_Da_contain_1 ?_
  refine lv_iload_n hx hb d_Da_contain_4 rfl (lv_at hl 1 rfl) ?_
  refine lv_icmp_gt (x := u) (y := q) (tgt := 20) hx hb d_Da_contain_5 (by decide) (fun c5 => ?_) (fun c5 => ?_)
  · skip
    refine lv_iconst (v := 0) hx hb d_Da_contain_20 (by decide) ?_
    exact W.zret (v := 0) hx hb hr (by decide) (fun t ht hW => ⟨⟨0, H, rfl, ⟨rfl, by simp [inB, bI, c5]⟩, ht⟩, hS.F ht⟩) hS.2.2 d_Da_contain_21
  · skip
    refine lv_iload_n hx hb d_Da_contain_8 rfl (lv_at hl 1 rfl) ?_
    refine lv_aload_n hx hb d_Da_contain_9 rfl (lv_at hl 0 rfl) ?_
    refine hx_get (v := .int v) hx hb htg iDa hown hK h1 rfl 1 (by decide) (htg _ (gw_mem (i := 773) (by decide +kernel) rfl)) (fun _ h9 => h9) rfl d_Da_contain_10 ?_
    refine lv_icmp_gt (x := q) (y := v) (tgt := 20) hx hb d_Da_contain_13 (by decide) (fun c13 => ?_) (fun c13 => ?_)
    · skip
      refine lv_iconst (v := 0) hx hb d_Da_contain_20 (by decide) ?_
      exact W.zret (v := 0) hx hb hr (by decide) (fun t ht hW => ⟨⟨0, H, rfl, ⟨rfl, by simp [inB, bI, c5, c13]⟩, ht⟩, hS.F ht⟩) hS.2.2 d_Da_contain_21
    · skip
      refine lv_iconst (v := 1) hx hb d_Da_contain_16 (by decide) ?_
      refine lv_goto (tgt := 21) hx hb d_Da_contain_17 (by decide) ?_
      exact W.zret (v := 1) hx hb hr (by decide) (fun t ht hW => ⟨⟨1, H, rfl, ⟨rfl, by simp [inB, bI, c5, c13]⟩, ht⟩, hS.F ht⟩) hS.2.2 d_Da_contain_21
def y_Da_meet : MethodName := ⟨"NameMerges$Days", "meet", "(LNameMerges$Days;)Z"⟩
abbrev w_Da_meet : List Cond := Cond.code y_Da_meet prog_2_method_3_code 2 (Option.some Jvm.ClassFile.FieldType.boolean) :: gw
theorem d_Da_meet_0 : decode prog_2_method_3_code 0 = .ok (.aload_n 0, 1) := by decide +kernel
theorem d_Da_meet_1 : decode prog_2_method_3_code 1 = .ok (.getfield 7, 3) := by decide +kernel
theorem d_Da_meet_4 : decode prog_2_method_3_code 4 = .ok (.aload_n 1, 1) := by decide +kernel
theorem d_Da_meet_5 : decode prog_2_method_3_code 5 = .ok (.getfield 13, 3) := by decide +kernel
theorem d_Da_meet_8 : decode prog_2_method_3_code 8 = .ok (.if_icmp .gt 18, 3) := by decide +kernel
theorem d_Da_meet_11 : decode prog_2_method_3_code 11 = .ok (.aload_n 1, 1) := by decide +kernel
theorem d_Da_meet_12 : decode prog_2_method_3_code 12 = .ok (.getfield 7, 3) := by decide +kernel
theorem d_Da_meet_15 : decode prog_2_method_3_code 15 = .ok (.aload_n 0, 1) := by decide +kernel
theorem d_Da_meet_16 : decode prog_2_method_3_code 16 = .ok (.getfield 13, 3) := by decide +kernel
theorem d_Da_meet_19 : decode prog_2_method_3_code 19 = .ok (.if_icmp .gt 7, 3) := by decide +kernel
theorem d_Da_meet_22 : decode prog_2_method_3_code 22 = .ok (.iconst 1, 1) := by decide +kernel
theorem d_Da_meet_23 : decode prog_2_method_3_code 23 = .ok (.goto 4, 3) := by decide +kernel
theorem d_Da_meet_26 : decode prog_2_method_3_code 26 = .ok (.iconst 0, 1) := by decide +kernel
theorem d_Da_meet_27 : decode prog_2_method_3_code 27 = .ok (.ireturn, 1) := by decide +kernel
set_option maxHeartbeats 4000000 in
set_option maxRecDepth 100000 in
theorem c_Da_meet (l : Launch) (D : va_G) (cs : Nat → ClassId) (N0 : Nat) (H : Heap) (x y : Nat) (u v a b : Int32) (h1 : va_at D vwCl (x, .inr (4, [.int u, .int v])) H) (h2 : va_at D vwCl (y, .inr (4, [.int a, .int b])) H) : Met l y_Da_meet w_Da_meet ({ frames := 0, cells := 0, slots := 0, locals := 0 }) (hPre D cs N0 [.ref x, .ref y] H) (hQi (fun r H' => H' = H ∧ r = bI (meetB u v a b)) noA) 0 0 noA := by
  refine Met.ofW (cc := prog_2_method_3_code) (maxL := 2) (ret := (Option.some Jvm.ClassFile.FieldType.boolean)) (by decide) rfl ?_
  intro p e s m args below meth c s₁ B hml hv
  obtain ⟨rfl, rfl, hB⟩ := hv
  have hx := B.exec
  have hb := B.bytes
  have hr := B.returns
  have hts := atoms_spec (ws := w_Da_meet) B.pre
  have htg : ∀ w ∈ gw, w.before _ s = true := fun w h => hts w (List.mem_cons_of_mem _ h)
  have hown : s.vm.findClass "NameMerges$Days" = some m.cls := findClass_of_methodNamed B.named
  have hlocks := B.notSynchronized
  have hK := hB.1
  obtain ⟨H, hH⟩ : ∃ z : Heap, z = s.heap := ⟨_, rfl⟩
  rw [← hH] at h1 h2
  have hS : va_S noA s.heap H [] := by rw [hH]; exact va_S.rf
  have hl := lv_entry ([.ref x, .ref y]) (n := 2) (Nat.le_of_ble_eq_true rfl)
  rw [lg_entry_eq, ← hH]
  generalize (lg_sl ([.ref x, .ref y]) ++ List.replicate (2 - (lg_sl ([.ref x, .ref y])).length) Slot.unset).toArray = ls at hl ⊢
  have hl : lv_has ls 2 [(0, .ref x), (1, .ref y)] := hl
  refine lv_aload_n hx hb d_Da_meet_0 rfl (lv_at hl 0 rfl) ?_
  refine hx_get (v := .int u) hx hb htg iDa hown hK h1 rfl 0 (by decide) (htg _ (gw_mem (i := 771) (by decide +kernel) rfl)) (fun _ h9 => h9) rfl d_Da_meet_1 ?_
  refine lv_aload_n hx hb d_Da_meet_4 rfl (lv_at hl 1 rfl) ?_
  refine hx_get (v := .int b) hx hb htg iDa hown hK h2 rfl 1 (by decide) (htg _ (gw_mem (i := 773) (by decide +kernel) rfl)) (fun _ h9 => h9) rfl d_Da_meet_5 ?_
  refine lv_icmp_gt (x := u) (y := b) (tgt := 26) hx hb d_Da_meet_8 (by decide) (fun c8 => ?_) (fun c8 => ?_)
  · skip
    refine lv_iconst (v := 0) hx hb d_Da_meet_26 (by decide) ?_
    exact W.zret (v := 0) hx hb hr (by decide) (fun t ht hW => ⟨⟨0, H, rfl, ⟨rfl, by simp [meetB, bI, c8]⟩, ht⟩, hS.F ht⟩) hS.2.2 d_Da_meet_27
  · skip
    refine lv_aload_n hx hb d_Da_meet_11 rfl (lv_at hl 1 rfl) ?_
    refine hx_get (v := .int a) hx hb htg iDa hown hK h2 rfl 0 (by decide) (htg _ (gw_mem (i := 771) (by decide +kernel) rfl)) (fun _ h9 => h9) rfl d_Da_meet_12 ?_
    refine lv_aload_n hx hb d_Da_meet_15 rfl (lv_at hl 0 rfl) ?_
    refine hx_get (v := .int v) hx hb htg iDa hown hK h1 rfl 1 (by decide) (htg _ (gw_mem (i := 773) (by decide +kernel) rfl)) (fun _ h9 => h9) rfl d_Da_meet_16 ?_
    refine lv_icmp_gt (x := a) (y := v) (tgt := 26) hx hb d_Da_meet_19 (by decide) (fun c19 => ?_) (fun c19 => ?_)
    · skip
      refine lv_iconst (v := 0) hx hb d_Da_meet_26 (by decide) ?_
      exact W.zret (v := 0) hx hb hr (by decide) (fun t ht hW => ⟨⟨0, H, rfl, ⟨rfl, by simp [meetB, bI, c8, c19]⟩, ht⟩, hS.F ht⟩) hS.2.2 d_Da_meet_27
    · skip
      refine lv_iconst (v := 1) hx hb d_Da_meet_22 (by decide) ?_
      refine lv_goto (tgt := 27) hx hb d_Da_meet_23 (by decide) ?_
      exact W.zret (v := 1) hx hb hr (by decide) (fun t ht hW => ⟨⟨1, H, rfl, ⟨rfl, by simp [meetB, bI, c8, c19]⟩, ht⟩, hS.F ht⟩) hS.2.2 d_Da_meet_27
def y_Me_holdsOn : MethodName := ⟨"NameMerges$Merge", "holdsOn", "(I)Z"⟩
abbrev w_Me_holdsOn : List Cond := Cond.code y_Me_holdsOn prog_3_method_2_code 2 (Option.some Jvm.ClassFile.FieldType.boolean) :: gw
theorem d_Me_holdsOn_0 : decode prog_3_method_2_code 0 = .ok (.aload_n 0, 1) := by decide +kernel
theorem d_Me_holdsOn_1 : decode prog_3_method_2_code 1 = .ok (.getfield 19, 3) := by decide +kernel
theorem d_Me_holdsOn_4 : decode prog_3_method_2_code 4 = .ok (.iload_n 1, 1) := by decide +kernel
theorem d_Me_holdsOn_5 : decode prog_3_method_2_code 5 = .ok (.if_icmp .gt 15, 3) := by decide +kernel
theorem d_Me_holdsOn_8 : decode prog_3_method_2_code 8 = .ok (.iload_n 1, 1) := by decide +kernel
theorem d_Me_holdsOn_9 : decode prog_3_method_2_code 9 = .ok (.aload_n 0, 1) := by decide +kernel
theorem d_Me_holdsOn_10 : decode prog_3_method_2_code 10 = .ok (.getfield 10, 3) := by decide +kernel
theorem d_Me_holdsOn_13 : decode prog_3_method_2_code 13 = .ok (.if_icmp .ge 7, 3) := by decide +kernel
theorem d_Me_holdsOn_16 : decode prog_3_method_2_code 16 = .ok (.iconst 1, 1) := by decide +kernel
theorem d_Me_holdsOn_17 : decode prog_3_method_2_code 17 = .ok (.goto 4, 3) := by decide +kernel
theorem d_Me_holdsOn_20 : decode prog_3_method_2_code 20 = .ok (.iconst 0, 1) := by decide +kernel
theorem d_Me_holdsOn_21 : decode prog_3_method_2_code 21 = .ok (.ireturn, 1) := by decide +kernel
set_option maxHeartbeats 4000000 in
set_option maxRecDepth 100000 in
theorem c_Me_holdsOn (l : Launch) (D : va_G) (cs : Nat → ClassId) (N0 : Nat) (H : Heap) (x : Nat) (b u v q : Int32) (h1 : va_at D vwCl (x, .inr (5, [.int b, .int u, .int v])) H) : Met l y_Me_holdsOn w_Me_holdsOn ({ frames := 0, cells := 0, slots := 0, locals := 0 }) (hPre D cs N0 [.ref x, .int q] H) (hQi (fun r H' => H' = H ∧ r = bI (holdV u v q)) noA) 0 0 noA := by
  refine Met.ofW (cc := prog_3_method_2_code) (maxL := 2) (ret := (Option.some Jvm.ClassFile.FieldType.boolean)) (by decide) rfl ?_
  intro p e s m args below meth c s₁ B hml hv
  obtain ⟨rfl, rfl, hB⟩ := hv
  have hx := B.exec
  have hb := B.bytes
  have hr := B.returns
  have hts := atoms_spec (ws := w_Me_holdsOn) B.pre
  have htg : ∀ w ∈ gw, w.before _ s = true := fun w h => hts w (List.mem_cons_of_mem _ h)
  have hown : s.vm.findClass "NameMerges$Merge" = some m.cls := findClass_of_methodNamed B.named
  have hlocks := B.notSynchronized
  have hK := hB.1
  obtain ⟨H, hH⟩ : ∃ z : Heap, z = s.heap := ⟨_, rfl⟩
  rw [← hH] at h1
  have hS : va_S noA s.heap H [] := by rw [hH]; exact va_S.rf
  have hl := lv_entry ([.ref x, .int q]) (n := 2) (Nat.le_of_ble_eq_true rfl)
  rw [lg_entry_eq, ← hH]
  generalize (lg_sl ([.ref x, .int q]) ++ List.replicate (2 - (lg_sl ([.ref x, .int q])).length) Slot.unset).toArray = ls at hl ⊢
  have hl : lv_has ls 2 [(0, .ref x), (1, .int q)] := hl
  refine lv_aload_n hx hb d_Me_holdsOn_0 rfl (lv_at hl 0 rfl) ?_
  refine hx_get (v := .int u) hx hb htg iMe hown hK h1 rfl 1 (by decide) (htg _ (gw_mem (i := 861) (by decide +kernel) rfl)) (fun _ h9 => h9) rfl d_Me_holdsOn_1 ?_
  refine lv_iload_n hx hb d_Me_holdsOn_4 rfl (lv_at hl 1 rfl) ?_
  refine lv_icmp_gt (x := u) (y := q) (tgt := 20) hx hb d_Me_holdsOn_5 (by decide) (fun c5 => ?_) (fun c5 => ?_)
  · skip
    refine lv_iconst (v := 0) hx hb d_Me_holdsOn_20 (by decide) ?_
    exact W.zret (v := 0) hx hb hr (by decide) (fun t ht hW => ⟨⟨0, H, rfl, ⟨rfl, by simp [holdV, bI, c5]⟩, ht⟩, hS.F ht⟩) hS.2.2 d_Me_holdsOn_21
  · skip
    refine lv_iload_n hx hb d_Me_holdsOn_8 rfl (lv_at hl 1 rfl) ?_
    refine lv_aload_n hx hb d_Me_holdsOn_9 rfl (lv_at hl 0 rfl) ?_
    refine hx_get (v := .int v) hx hb htg iMe hown hK h1 rfl 2 (by decide) (htg _ (gw_mem (i := 863) (by decide +kernel) rfl)) (fun _ h9 => h9) rfl d_Me_holdsOn_10 ?_
    refine lv_icmp_ge (x := q) (y := v) (tgt := 20) hx hb d_Me_holdsOn_13 (by decide) (fun c13 => ?_) (fun c13 => ?_)
    · skip
      refine lv_iconst (v := 0) hx hb d_Me_holdsOn_20 (by decide) ?_
      exact W.zret (v := 0) hx hb hr (by decide) (fun t ht hW => ⟨⟨0, H, rfl, ⟨rfl, by simp [holdV, bI, c5, c13]⟩, ht⟩, hS.F ht⟩) hS.2.2 d_Me_holdsOn_21
    · skip
      refine lv_iconst (v := 1) hx hb d_Me_holdsOn_16 (by decide) ?_
      refine lv_goto (tgt := 21) hx hb d_Me_holdsOn_17 (by decide) ?_
      exact W.zret (v := 1) hx hb hr (by decide) (fun t ht hW => ⟨⟨1, H, rfl, ⟨rfl, by simp [holdV, bI, c5, c13]⟩, ht⟩, hS.F ht⟩) hS.2.2 d_Me_holdsOn_21
def y_AL_size : MethodName := ⟨"java/util/ArrayList", "size", "()I"⟩
abbrev w_AL_size : List Cond := Cond.code y_AL_size prog_29_method_8_code 1 (Option.some Jvm.ClassFile.FieldType.int) :: gw
theorem d_AL_size_0 : decode prog_29_method_8_code 0 = .ok (.aload_n 0, 1) := by decide +kernel
theorem d_AL_size_1 : decode prog_29_method_8_code 1 = .ok (.getfield 48, 3) := by decide +kernel
theorem d_AL_size_4 : decode prog_29_method_8_code 4 = .ok (.ireturn, 1) := by decide +kernel
set_option maxHeartbeats 4000000 in
set_option maxRecDepth 100000 in
theorem c_AL_size (l : Launch) (D : va_G) (cs : Nat → ClassId) (N0 : Nat) (H : Heap) (x ea n : Nat) (mc : Int32) (h1 : va_at D vwCl (x, .inr (6, [.ref ea, .int (nI n), .int mc])) H) : Met l y_AL_size w_AL_size ({ frames := 0, cells := 0, slots := 0, locals := 0 }) (hPre D cs N0 [.ref x] H) (hQi (fun r H' => H' = H ∧ r = nI n) noA) 0 0 noA := by
  refine Met.ofW (cc := prog_29_method_8_code) (maxL := 1) (ret := (Option.some Jvm.ClassFile.FieldType.int)) (by decide) rfl ?_
  intro p e s m args below meth c s₁ B hml hv
  obtain ⟨rfl, rfl, hB⟩ := hv
  have hx := B.exec
  have hb := B.bytes
  have hr := B.returns
  have hts := atoms_spec (ws := w_AL_size) B.pre
  have htg : ∀ w ∈ gw, w.before _ s = true := fun w h => hts w (List.mem_cons_of_mem _ h)
  have hown : s.vm.findClass "java/util/ArrayList" = some m.cls := findClass_of_methodNamed B.named
  have hlocks := B.notSynchronized
  have hK := hB.1
  obtain ⟨H, hH⟩ : ∃ z : Heap, z = s.heap := ⟨_, rfl⟩
  rw [← hH] at h1
  have hS : va_S noA s.heap H [] := by rw [hH]; exact va_S.rf
  have hl := lv_entry ([.ref x]) (n := 1) (Nat.le_of_ble_eq_true rfl)
  rw [lg_entry_eq, ← hH]
  generalize (lg_sl ([.ref x]) ++ List.replicate (1 - (lg_sl ([.ref x])).length) Slot.unset).toArray = ls at hl ⊢
  have hl : lv_has ls 1 [(0, .ref x)] := hl
  refine lv_aload_n hx hb d_AL_size_0 rfl (lv_at hl 0 rfl) ?_
  refine hx_get (v := .int (nI n)) hx hb htg iAL hown hK h1 rfl 1 (by decide) (htg _ (gw_mem (i := 115) (by decide +kernel) rfl)) (fun _ h9 => h9) rfl d_AL_size_1 ?_
  exact W.iret (v := (nI n)) hx hb hr (fun t ht hW => ⟨⟨(nI n), H, rfl, ⟨rfl, rfl⟩, ht⟩, hS.F ht⟩) hS.2.2 d_AL_size_4
def y_AL_elementData : MethodName := ⟨"java/util/ArrayList", "elementData", "(I)Ljava/lang/Object;"⟩
abbrev w_AL_elementData : List Cond := Cond.code y_AL_elementData prog_29_method_18_code 2 (Option.some (Jvm.ClassFile.FieldType.object "java/lang/Object")) :: gw
theorem d_AL_elementData_0 : decode prog_29_method_18_code 0 = .ok (.aload_n 0, 1) := by decide +kernel
theorem d_AL_elementData_1 : decode prog_29_method_18_code 1 = .ok (.getfield 9, 3) := by decide +kernel
theorem d_AL_elementData_4 : decode prog_29_method_18_code 4 = .ok (.iload_n 1, 1) := by decide +kernel
theorem d_AL_elementData_5 : decode prog_29_method_18_code 5 = .ok (.aaload, 1) := by decide +kernel
theorem d_AL_elementData_6 : decode prog_29_method_18_code 6 = .ok (.areturn, 1) := by decide +kernel
set_option maxHeartbeats 4000000 in
set_option maxRecDepth 100000 in
theorem c_AL_elementData (l : Launch) (D : va_G) (cs : Nat → ClassId) (N0 : Nat) (H : Heap) (x ea n cap j : Nat) (mc : Int32) (el : Nat → Option Nat) (h1 : va_at D vwCl (x, .inr (6, [.ref ea, .int (nI n), .int mc])) H) (h2 : va_at D vwCl (ea, .inl (cs 4, (cap, .inr (.inr (.inr (.inr el)))))) H) (hj : j < cap) (hc : cap < 2147483648) : Met l y_AL_elementData w_AL_elementData ({ frames := 0, cells := 0, slots := 0, locals := 0 }) (hPre D cs N0 [.ref x, .int (nI j)] H) (hQq (fun r H' => H' = H ∧ r = el j) noA) 0 0 noA := by
  refine Met.ofW (cc := prog_29_method_18_code) (maxL := 2) (ret := (Option.some (Jvm.ClassFile.FieldType.object "java/lang/Object"))) (by decide) rfl ?_
  intro p e s m args below meth c s₁ B hml hv
  obtain ⟨rfl, rfl, hB⟩ := hv
  have hx := B.exec
  have hb := B.bytes
  have hr := B.returns
  have hts := atoms_spec (ws := w_AL_elementData) B.pre
  have htg : ∀ w ∈ gw, w.before _ s = true := fun w h => hts w (List.mem_cons_of_mem _ h)
  have hown : s.vm.findClass "java/util/ArrayList" = some m.cls := findClass_of_methodNamed B.named
  have hlocks := B.notSynchronized
  have hK := hB.1
  obtain ⟨H, hH⟩ : ∃ z : Heap, z = s.heap := ⟨_, rfl⟩
  rw [← hH] at h1 h2
  have hS : va_S noA s.heap H [] := by rw [hH]; exact va_S.rf
  have hl := lv_entry ([.ref x, .int (nI j)]) (n := 2) (Nat.le_of_ble_eq_true rfl)
  rw [lg_entry_eq, ← hH]
  generalize (lg_sl ([.ref x, .int (nI j)]) ++ List.replicate (2 - (lg_sl ([.ref x, .int (nI j)])).length) Slot.unset).toArray = ls at hl ⊢
  have hl : lv_has ls 2 [(0, .ref x), (1, .int (nI j))] := hl
  refine lv_aload_n hx hb d_AL_elementData_0 rfl (lv_at hl 0 rfl) ?_
  refine hx_get (v := .ref ea) hx hb htg iAL hown hK h1 rfl 0 (by decide) (htg _ (gw_mem (i := 114) (by decide +kernel) rfl)) (fun _ h9 => h9) rfl d_AL_elementData_1 ?_
  refine lv_iload_n hx hb d_AL_elementData_4 rfl (lv_at hl 1 rfl) ?_
  refine hx_aald hx hb hK 4 h2 rfl (show vp_in (nI j) cap from vp_in_nI (n := j) (by omega) (by omega)) d_AL_elementData_5 ?_
  refine lv_eqv (y := va_rf (el j)) (show va_rf (el (nI j).toNatClampNeg) = _ by rw [nI_clamp (by omega)]) ?_
  exact W.aret (v := va_rf (el j)) hx hb hr (Or.inl ⟨_, rfl⟩) (va_rf_or _) (fun t ht hW => ⟨⟨_, H, rfl, ⟨rfl, rfl⟩, ht⟩, hS.F ht⟩) hS.2.2 d_AL_elementData_6
def y_Pr_checkIndex : MethodName := ⟨"jdk/internal/util/Preconditions", "checkIndex", "(IILjava/util/function/BiFunction;)I"⟩
abbrev w_Pr_checkIndex : List Cond := Cond.code y_Pr_checkIndex prog_37_method_11_code 3 (Option.some Jvm.ClassFile.FieldType.int) :: gw
theorem d_Pr_checkIndex_0 : decode prog_37_method_11_code 0 = .ok (.iload_n 0, 1) := by decide +kernel
theorem d_Pr_checkIndex_1 : decode prog_37_method_11_code 1 = .ok (.ifCond .lt 8, 3) := by decide +kernel
theorem d_Pr_checkIndex_4 : decode prog_37_method_11_code 4 = .ok (.iload_n 0, 1) := by decide +kernel
theorem d_Pr_checkIndex_5 : decode prog_37_method_11_code 5 = .ok (.iload_n 1, 1) := by decide +kernel
theorem d_Pr_checkIndex_6 : decode prog_37_method_11_code 6 = .ok (.if_icmp .lt 10, 3) := by decide +kernel
theorem d_Pr_checkIndex_16 : decode prog_37_method_11_code 16 = .ok (.iload_n 0, 1) := by decide +kernel
theorem d_Pr_checkIndex_17 : decode prog_37_method_11_code 17 = .ok (.ireturn, 1) := by decide +kernel
set_option maxHeartbeats 4000000 in
set_option maxRecDepth 100000 in
theorem c_Pr_checkIndex (l : Launch) (D : va_G) (cs : Nat → ClassId) (N0 : Nat) (H : Heap) (j n : Nat) (hj : j < n) (hn : n < 2147483648) : Met l y_Pr_checkIndex w_Pr_checkIndex ({ frames := 0, cells := 0, slots := 0, locals := 0 }) (hPre D cs N0 [.int (nI j), .int (nI n), .null] H) (hQi (fun r H' => H' = H ∧ r = nI j) noA) 0 0 noA := by
  refine Met.ofW (cc := prog_37_method_11_code) (maxL := 3) (ret := (Option.some Jvm.ClassFile.FieldType.int)) (by decide) rfl ?_
  intro p e s m args below meth c s₁ B hml hv
  obtain ⟨rfl, rfl, hB⟩ := hv
  have hx := B.exec
  have hb := B.bytes
  have hr := B.returns
  have hts := atoms_spec (ws := w_Pr_checkIndex) B.pre
  have htg : ∀ w ∈ gw, w.before _ s = true := fun w h => hts w (List.mem_cons_of_mem _ h)
  have hown : s.vm.findClass "jdk/internal/util/Preconditions" = some m.cls := findClass_of_methodNamed B.named
  have hlocks := B.notSynchronized
  have hK := hB.1
  obtain ⟨H, hH⟩ : ∃ z : Heap, z = s.heap := ⟨_, rfl⟩
  have hS : va_S noA s.heap H [] := by rw [hH]; exact va_S.rf
  have hl := lv_entry ([.int (nI j), .int (nI n), .null]) (n := 3) (Nat.le_of_ble_eq_true rfl)
  rw [lg_entry_eq, ← hH]
  generalize (lg_sl ([.int (nI j), .int (nI n), .null]) ++ List.replicate (3 - (lg_sl ([.int (nI j), .int (nI n), .null])).length) Slot.unset).toArray = ls at hl ⊢
  have hl : lv_has ls 3 [(0, .int (nI j)), (1, .int (nI n)), (2, .null)] := hl
  refine lv_iload_n hx hb d_Pr_checkIndex_0 rfl (lv_at hl 0 rfl) ?_
  refine lv_if_lt (x := (nI j)) (tgt := 9) hx hb d_Pr_checkIndex_1 (by decide) (fun c1 => ?_) (fun c1 => ?_)
  · skip
    replace c1 : j < 0 := (nI_ltI (a := j) (b := 0) (by omega) (by omega)).mp c1
    exact absurd c1 (by omega)
  · skip
    replace c1 : ¬ (j < 0) := fun z9 => c1 ((nI_ltI (a := j) (b := 0) (by omega) (by omega)).mpr z9)
    refine lv_iload_n hx hb d_Pr_checkIndex_4 rfl (lv_at hl 0 rfl) ?_
    refine lv_iload_n hx hb d_Pr_checkIndex_5 rfl (lv_at hl 1 rfl) ?_
    refine lv_icmp_lt (x := (nI j)) (y := (nI n)) (tgt := 16) hx hb d_Pr_checkIndex_6 (by decide) (fun c6 => ?_) (fun c6 => ?_)
    · skip
      replace c6 : j < n := (nI_ltI (a := j) (b := n) (by omega) (by omega)).mp c6
      refine lv_iload_n hx hb d_Pr_checkIndex_16 rfl (lv_at hl 0 rfl) ?_
      exact W.iret (v := (nI j)) hx hb hr (fun t ht hW => ⟨⟨(nI j), H, rfl, ⟨rfl, rfl⟩, ht⟩, hS.F ht⟩) hS.2.2 d_Pr_checkIndex_17
    · skip
      replace c6 : ¬ (j < n) := fun z9 => c6 ((nI_ltI (a := j) (b := n) (by omega) (by omega)).mpr z9)
      exact absurd (show j < n from hj) c6
def y_Ob_checkIndex : MethodName := ⟨"java/util/Objects", "checkIndex", "(II)I"⟩
abbrev w_Ob_checkIndex : List Cond := Cond.code y_Ob_checkIndex prog_33_method_17_code 2 (Option.some Jvm.ClassFile.FieldType.int) :: gw
theorem d_Ob_checkIndex_0 : decode prog_33_method_17_code 0 = .ok (.iload_n 0, 1) := by decide +kernel
theorem d_Ob_checkIndex_1 : decode prog_33_method_17_code 1 = .ok (.iload_n 1, 1) := by decide +kernel
theorem d_Ob_checkIndex_2 : decode prog_33_method_17_code 2 = .ok (.aconst_null, 1) := by decide +kernel
theorem d_Ob_checkIndex_3 : decode prog_33_method_17_code 3 = .ok (.invokestatic 105, 3) := by decide +kernel
theorem d_Ob_checkIndex_6 : decode prog_33_method_17_code 6 = .ok (.ireturn, 1) := by decide +kernel
set_option maxHeartbeats 4000000 in
set_option maxRecDepth 100000 in
theorem c_Ob_checkIndex (l : Launch) (D : va_G) (cs : Nat → ClassId) (N0 : Nat) (H : Heap) (j n : Nat) (hj : j < n) (hn : n < 2147483648) : Met l y_Ob_checkIndex w_Ob_checkIndex ({ frames := 1, cells := 0, slots := 0, locals := 22 }) (hPre D cs N0 [.int (nI j), .int (nI n)] H) (hQi (fun r H' => H' = H ∧ r = nI j) noA) 0 0 noA := by
  refine Met.ofW (cc := prog_33_method_17_code) (maxL := 2) (ret := (Option.some Jvm.ClassFile.FieldType.int)) (by decide) rfl ?_
  intro p e s m args below meth c s₁ B hml hv
  obtain ⟨rfl, rfl, hB⟩ := hv
  have hx := B.exec
  have hb := B.bytes
  have hr := B.returns
  have hts := atoms_spec (ws := w_Ob_checkIndex) B.pre
  have htg : ∀ w ∈ gw, w.before _ s = true := fun w h => hts w (List.mem_cons_of_mem _ h)
  have hown : s.vm.findClass "java/util/Objects" = some m.cls := findClass_of_methodNamed B.named
  have hlocks := B.notSynchronized
  have hK := hB.1
  obtain ⟨H, hH⟩ : ∃ z : Heap, z = s.heap := ⟨_, rfl⟩
  have hS : va_S noA s.heap H [] := by rw [hH]; exact va_S.rf
  have hl := lv_entry ([.int (nI j), .int (nI n)]) (n := 2) (Nat.le_of_ble_eq_true rfl)
  rw [lg_entry_eq, ← hH]
  generalize (lg_sl ([.int (nI j), .int (nI n)]) ++ List.replicate (2 - (lg_sl ([.int (nI j), .int (nI n)])).length) Slot.unset).toArray = ls at hl ⊢
  have hl : lv_has ls 2 [(0, .int (nI j)), (1, .int (nI n))] := hl
  refine lv_iload_n hx hb d_Ob_checkIndex_0 rfl (lv_at hl 0 rfl) ?_
  refine lv_iload_n hx hb d_Ob_checkIndex_1 rfl (lv_at hl 1 rfl) ?_
  refine lv_null hx hb d_Ob_checkIndex_2 ?_
  refine h_purei (va_runS (As := [.int (nI j), .int (nI n), .null]) (rest := []) ⟨hx, hb, hml, hown, htg⟩ (c_Pr_checkIndex l D cs N0 H j n (by omega) (by omega)) (va_cwS 3 htg (gw_T (gw_mem (i := 516) (by decide +kernel) rfl) (gw_mem (i := 517) (by decide +kernel) rfl) (gw_mem (i := 49) (by decide +kernel) rfl) (gw_mem (i := 518) (by decide +kernel) rfl)) rfl rfl rfl (by decide +kernel) ⟨Nat.le_of_ble_eq_true rfl, Nat.le_of_ble_eq_true rfl⟩) ⟨hPre.blind, hPre.at hB hS noA_in⟩ rfl rfl hl.1 rfl (lv_room (Nat.le_of_ble_eq_true rfl)) d_Ob_checkIndex_3 ⟨Nat.zero_le _, Nat.zero_le _⟩) hS (fun locs hS => ?_)
  exact W.iret (v := (nI j)) hx hb hr (fun t ht hW => ⟨⟨(nI j), H, rfl, ⟨rfl, rfl⟩, ht⟩, hS.F ht⟩) hS.2.2 d_Ob_checkIndex_6
def y_AL_get : MethodName := ⟨"java/util/ArrayList", "get", "(I)Ljava/lang/Object;"⟩
abbrev w_AL_get : List Cond := Cond.code y_AL_get prog_29_method_20_code 2 (Option.some (Jvm.ClassFile.FieldType.object "java/lang/Object")) :: gw
theorem d_AL_get_0 : decode prog_29_method_20_code 0 = .ok (.iload_n 1, 1) := by decide +kernel
theorem d_AL_get_1 : decode prog_29_method_20_code 1 = .ok (.aload_n 0, 1) := by decide +kernel
theorem d_AL_get_2 : decode prog_29_method_20_code 2 = .ok (.getfield 48, 3) := by decide +kernel
theorem d_AL_get_5 : decode prog_29_method_20_code 5 = .ok (.invokestatic 118, 3) := by decide +kernel
theorem d_AL_get_8 : decode prog_29_method_20_code 8 = .ok (.pop, 1) := by decide +kernel
theorem d_AL_get_9 : decode prog_29_method_20_code 9 = .ok (.aload_n 0, 1) := by decide +kernel
theorem d_AL_get_10 : decode prog_29_method_20_code 10 = .ok (.iload_n 1, 1) := by decide +kernel
theorem d_AL_get_11 : decode prog_29_method_20_code 11 = .ok (.invokevirtual 123, 3) := by decide +kernel
theorem d_AL_get_14 : decode prog_29_method_20_code 14 = .ok (.areturn, 1) := by decide +kernel
set_option maxHeartbeats 4000000 in
set_option maxRecDepth 100000 in
theorem c_AL_get (l : Launch) (D : va_G) (cs : Nat → ClassId) (N0 : Nat) (H : Heap) (x ea n cap j : Nat) (mc : Int32) (el : Nat → Option Nat) (h1 : va_at D vwCl (x, .inr (6, [.ref ea, .int (nI n), .int mc])) H) (h2 : va_at D vwCl (ea, .inl (cs 4, (cap, .inr (.inr (.inr (.inr el)))))) H) (hj : j < n) (hnc : n ≤ cap) (hc : cap < 2147483648) : Met l y_AL_get w_AL_get ({ frames := 2, cells := 0, slots := 0, locals := 43 }) (hPre D cs N0 [.ref x, .int (nI j)] H) (hQq (fun r H' => H' = H ∧ r = el j) noA) 0 0 noA := by
  refine Met.ofW (cc := prog_29_method_20_code) (maxL := 2) (ret := (Option.some (Jvm.ClassFile.FieldType.object "java/lang/Object"))) (by decide) rfl ?_
  intro p e s m args below meth c s₁ B hml hv
  obtain ⟨rfl, rfl, hB⟩ := hv
  have hx := B.exec
  have hb := B.bytes
  have hr := B.returns
  have hts := atoms_spec (ws := w_AL_get) B.pre
  have htg : ∀ w ∈ gw, w.before _ s = true := fun w h => hts w (List.mem_cons_of_mem _ h)
  have hown : s.vm.findClass "java/util/ArrayList" = some m.cls := findClass_of_methodNamed B.named
  have hlocks := B.notSynchronized
  have hK := hB.1
  obtain ⟨H, hH⟩ : ∃ z : Heap, z = s.heap := ⟨_, rfl⟩
  rw [← hH] at h1 h2
  have hS : va_S noA s.heap H [] := by rw [hH]; exact va_S.rf
  have hl := lv_entry ([.ref x, .int (nI j)]) (n := 2) (Nat.le_of_ble_eq_true rfl)
  rw [lg_entry_eq, ← hH]
  generalize (lg_sl ([.ref x, .int (nI j)]) ++ List.replicate (2 - (lg_sl ([.ref x, .int (nI j)])).length) Slot.unset).toArray = ls at hl ⊢
  have hl : lv_has ls 2 [(0, .ref x), (1, .int (nI j))] := hl
  refine lv_iload_n hx hb d_AL_get_0 rfl (lv_at hl 1 rfl) ?_
  refine lv_aload_n hx hb d_AL_get_1 rfl (lv_at hl 0 rfl) ?_
  refine hx_get (v := .int (nI n)) hx hb htg iAL hown hK h1 rfl 1 (by decide) (htg _ (gw_mem (i := 115) (by decide +kernel) rfl)) (fun _ h9 => h9) rfl d_AL_get_2 ?_
  refine h_purei (va_runS (As := [.int (nI j), .int (nI n)]) (rest := []) ⟨hx, hb, hml, hown, htg⟩ (c_Ob_checkIndex l D cs N0 H j n (by omega) (by omega)) (va_cwS 2 htg (gw_T (gw_mem (i := 513) (by decide +kernel) rfl) (gw_mem (i := 514) (by decide +kernel) rfl) (gw_mem (i := 55) (by decide +kernel) rfl) (gw_mem (i := 515) (by decide +kernel) rfl)) rfl rfl rfl (by decide +kernel) ⟨Nat.le_of_ble_eq_true rfl, Nat.le_of_ble_eq_true rfl⟩) ⟨hPre.blind, hPre.at hB hS noA_in⟩ rfl rfl hl.1 rfl (lv_room (Nat.le_of_ble_eq_true rfl)) d_AL_get_5 ⟨Nat.zero_le _, Nat.zero_le _⟩) hS (fun locs hS => ?_)
  refine lv_pop hx hb d_AL_get_8 rfl ?_
  refine lv_aload_n hx hb d_AL_get_9 rfl (lv_at hl 0 rfl) ?_
  refine lv_iload_n hx hb d_AL_get_10 rfl (lv_at hl 1 rfl) ?_
  refine h_pureq (va_runV (As := [.int (nI j)]) (rest := []) ⟨hx, hb, hml, hown, htg⟩ (c_AL_elementData l D cs N0 H x ea n cap j mc el h1 h2 (by omega) (by omega)) (cwV 1 htg (gw_V (gw_mem (i := 519) (by decide +kernel) rfl) (gw_mem (i := 520) (by decide +kernel) rfl) (gw_mem (i := 521) (by decide +kernel) rfl) (gw_mem (i := 37) (by decide +kernel) rfl) (gw_mem (i := 522) (by decide +kernel) rfl)) rfl rfl rfl (by decide +kernel) ⟨Nat.le_of_ble_eq_true rfl, Nat.le_of_ble_eq_true rfl⟩) ⟨hPre.blind, hx_recv hK (ci := 6) rfl h1, hPre.at hB hS noA_in⟩ rfl rfl hl.1 rfl (lv_room (Nat.le_of_ble_eq_true rfl)) d_AL_get_11 ⟨Nat.zero_le _, Nat.zero_le _⟩) hS (fun locs hS => ?_)
  exact W.aret (v := va_rf (el j)) hx hb hr (Or.inl ⟨_, rfl⟩) (va_rf_or _) (fun t ht hW => ⟨⟨_, H, rfl, ⟨rfl, rfl⟩, ht⟩, hS.F ht⟩) hS.2.2 d_AL_get_14
