def zStat : List Cond := [.laysStatic "java/lang/Throwable" "UNASSIGNED_STACK" "[Ljava/lang/StackTraceElement;", .laysStatic "java/lang/Throwable" "SUPPRESSED_SENTINEL" "Ljava/util/List;", .isRef (.static "java/lang/Throwable" "UNASSIGNED_STACK" "[Ljava/lang/StackTraceElement;"), .isRef (.static "java/lang/Throwable" "SUPPRESSED_SENTINEL" "Ljava/util/List;")]
def zOk (w : Cond) : Bool := decide (w ∈ gw) || decide (w ∈ zDcl.map Cond.declares) || decide (w ∈ zCst.map (fun q => Cond.castable q.1 q.2)) || decide (w ∈ zStat)
theorem zOk_before {D : va_G} {cs : Nat → ClassId} {N0 : Nat} {s : State} {args : Array Value} {w : Cond} (htg : ∀ w ∈ gw, w.before args s = true) (hB : gB D cs N0 s) (h : zOk w = true) : w.before args s = true := by
  simp only [zOk, Bool.or_eq_true, decide_eq_true_eq] at h
  rcases h with ((h | h) | h) | h
  · exact htg w h
  · obtain ⟨x, hx, rfl⟩ := List.mem_map.mp h
    exact va_Nw.use rfl (hB.2.2.1.1 x hx)
  · obtain ⟨q, hq, rfl⟩ := List.mem_map.mp h
    exact va_Nw.use rfl (hB.2.2.1.2.1 q hq)
  · rcases List.mem_cons.mp h with rfl | h
    · exact hB.2.2.2.1.lays
    rcases List.mem_cons.mp h with rfl | h
    · exact hB.2.2.2.2.1.lays
    rcases List.mem_cons.mp h with rfl | h
    · exact hB.2.2.2.1.isRef
    rcases List.mem_cons.mp h with rfl | h
    · exact hB.2.2.2.2.1.isRef
    cases h
theorem zStr {D : va_G} {cs : Nat → ClassId} {N0 : Nat} {s : State} {args : Array Value} {q : String × Nat × String} (hB : gB D cs N0 s) (h : q ∈ zSts) : (Cond.stringRef q.1 q.2.1 q.2.2).before args s = true := by
  obtain ⟨a, h1, -⟩ := hB.2.2.1.2.2.2.1 q h
  exact h1
abbrev exUp : List String := ["java/lang/RuntimeException", "java/lang/Exception"]
theorem own_iob : (Bundle.ownAtoms "NameMerges" 155 "java/lang/IndexOutOfBoundsException" exUp).all zOk = true := by decide +kernel
theorem own_iae : (Bundle.ownAtoms "NameMerges" 58 "java/lang/IllegalArgumentException" exUp).all zOk = true := by decide +kernel
theorem own_ise : (Bundle.ownAtoms "NameMerges" 51 "java/lang/IllegalStateException" exUp).all zOk = true := by decide +kernel
def y_Nm_checkSet : MethodName := ⟨"NameMerges", "checkSet", "(I)V"⟩
abbrev w_Nm_checkSet : List Cond := Cond.code y_Nm_checkSet prog_1_method_23_code 1 (Option.none : Option Jvm.ClassFile.FieldType) :: gw
theorem d_Nm_checkSet_0 : decode prog_1_method_23_code 0 = .ok (.iload_n 0, 1) := by decide +kernel
theorem d_Nm_checkSet_1 : decode prog_1_method_23_code 1 = .ok (.ifCond .lt 8, 3) := by decide +kernel
theorem d_Nm_checkSet_4 : decode prog_1_method_23_code 4 = .ok (.iload_n 0, 1) := by decide +kernel
theorem d_Nm_checkSet_5 : decode prog_1_method_23_code 5 = .ok (.iconst 4, 1) := by decide +kernel
theorem d_Nm_checkSet_6 : decode prog_1_method_23_code 6 = .ok (.if_icmp .lt 13, 3) := by decide +kernel
theorem d_Nm_checkSet_9 : decode prog_1_method_23_code 9 = .ok (.new 151, 3) := by decide +kernel
theorem d_Nm_checkSet_12 : decode prog_1_method_23_code 12 = .ok (.dup, 1) := by decide +kernel
theorem d_Nm_checkSet_13 : decode prog_1_method_23_code 13 = .ok (.ldc 244, 2) := by decide +kernel
theorem d_Nm_checkSet_15 : decode prog_1_method_23_code 15 = .ok (.invokespecial 155, 3) := by decide +kernel
theorem d_Nm_checkSet_18 : decode prog_1_method_23_code 18 = .ok (.athrow, 1) := by decide +kernel
theorem d_Nm_checkSet_19 : decode prog_1_method_23_code 19 = .ok (.return_, 1) := by decide +kernel
set_option maxHeartbeats 4000000 in
set_option maxRecDepth 100000 in
theorem c_Nm_checkSet (l : Launch) (D : va_G) (cs : Nat → ClassId) (N0 : Nat) (H : Heap) (hl9 : l.stackTraces = false) (q : Int32) : tMet l y_Nm_checkSet w_Nm_checkSet ({ frames := 6, cells := 1, slots := 6, locals := 82 }) (hPre D cs N0 [.int q] H) (hT (fun v H' => v = none ∧ H' = H ∧ isSt q = true) (fun E => E = "java/lang/IndexOutOfBoundsException" ∧ isSt q = false) noA) 1 6 noA := by
  refine tMet.ofW (cc := prog_1_method_23_code) (maxL := 1) (ret := (Option.none : Option Jvm.ClassFile.FieldType)) (by decide) rfl ?_
  intro p e s m args below meth c s₁ B hml hno hv
  obtain ⟨rfl, rfl, hB⟩ := hv
  have hx := B.exec
  have hb := B.bytes
  have hr := B.returns
  have hts := atoms_spec (ws := w_Nm_checkSet) B.pre
  have htg : ∀ w ∈ gw, w.before _ s = true := fun w h => hts w (List.mem_cons_of_mem _ h)
  have hown : s.vm.findClass "NameMerges" = some m.cls := findClass_of_methodNamed B.named
  have hlocks := B.notSynchronized
  have hK := hB.1
  obtain ⟨H, hH⟩ : ∃ z : Heap, z = s.heap := ⟨_, rfl⟩
  have hS : va_S noA s.heap H [] := by rw [hH]; exact va_S.rf
  have hl := lv_entry ([.int q]) (n := 1) (Nat.le_of_ble_eq_true rfl)
  rw [lg_entry_eq, ← hH]
  generalize (lg_sl ([.int q]) ++ List.replicate (1 - (lg_sl ([.int q])).length) Slot.unset).toArray = ls at hl ⊢
  have hl : lv_has ls 1 [(0, .int q)] := hl
  refine lv_iload_n hx hb d_Nm_checkSet_0 rfl (lv_at hl 0 rfl) ?_
  refine lv_if_lt (x := q) (tgt := 9) hx hb d_Nm_checkSet_1 (by decide) (fun c1 => ?_) (fun c1 => ?_)
  · skip
    have hnil := noL hS.2.2
    first | subst hnil | skip
    exact t_throw (A := noA) (text := "there is no such set") (names := exUp) hx hb hl9 hown (by decide) (by decide) (htg _ (gw_mem (i := 739) (by decide +kernel) rfl)) (htg _ (gw_mem (i := 50) (by decide +kernel) rfl)) (zStr (q := ("NameMerges", 244, "there is no such set")) hB (by decide)) (fun a ha => zOk_before htg hB (List.all_eq_true.mp own_iob a ha)) hS.1 (hl.1.trans hml.symm) d_Nm_checkSet_9 d_Nm_checkSet_12 d_Nm_checkSet_13 d_Nm_checkSet_15 d_Nm_checkSet_18 hno (Nat.le_of_ble_eq_true rfl) (Nat.le_of_ble_eq_true rfl) (Nat.le_of_ble_eq_true rfl) (Nat.le_of_ble_eq_true rfl) hlocks ⟨rfl, (by simp [isSt, c1])⟩ (Nat.le_refl _) (Nat.le_refl _)
  · skip
    refine lv_iload_n hx hb d_Nm_checkSet_4 rfl (lv_at hl 0 rfl) ?_
    refine lv_iconst (v := 4) hx hb d_Nm_checkSet_5 (by decide) ?_
    refine lv_icmp_lt (x := q) (y := 4) (tgt := 19) hx hb d_Nm_checkSet_6 (by decide) (fun c6 => ?_) (fun c6 => ?_)
    · skip
      refine t_ret ?_
      refine W.widen (k := 1) (n := 6) (Nat.le_of_ble_eq_true rfl) (Nat.le_of_ble_eq_true rfl) ?_
      exact W.vret hx hb hr (fun t ht hW => Or.inl ⟨none, rfl, ⟨rfl, ht, (by simp [isSt, c1, Int32.not_lt.mp c1, c6])⟩, hS.F ht⟩) hS.2.2 d_Nm_checkSet_19
    · skip
      have hnil := noL hS.2.2
      first | subst hnil | skip
      exact t_throw (A := noA) (text := "there is no such set") (names := exUp) hx hb hl9 hown (by decide) (by decide) (htg _ (gw_mem (i := 739) (by decide +kernel) rfl)) (htg _ (gw_mem (i := 50) (by decide +kernel) rfl)) (zStr (q := ("NameMerges", 244, "there is no such set")) hB (by decide)) (fun a ha => zOk_before htg hB (List.all_eq_true.mp own_iob a ha)) hS.1 (hl.1.trans hml.symm) d_Nm_checkSet_9 d_Nm_checkSet_12 d_Nm_checkSet_13 d_Nm_checkSet_15 d_Nm_checkSet_18 hno (Nat.le_of_ble_eq_true rfl) (Nat.le_of_ble_eq_true rfl) (Nat.le_of_ble_eq_true rfl) (Nat.le_of_ble_eq_true rfl) hlocks ⟨rfl, (by simp [isSt, c1, Int32.not_lt.mp c1, c6, Int32.not_lt.mp c6])⟩ (Nat.le_refl _) (Nat.le_refl _)
def y_Nm_checkDay : MethodName := ⟨"NameMerges", "checkDay", "(I)V"⟩
abbrev w_Nm_checkDay : List Cond := Cond.code y_Nm_checkDay prog_1_method_25_code 1 (Option.none : Option Jvm.ClassFile.FieldType) :: gw
theorem d_Nm_checkDay_0 : decode prog_1_method_25_code 0 = .ok (.iload_n 0, 1) := by decide +kernel
theorem d_Nm_checkDay_1 : decode prog_1_method_25_code 1 = .ok (.ifCond .lt 9, 3) := by decide +kernel
theorem d_Nm_checkDay_4 : decode prog_1_method_25_code 4 = .ok (.iload_n 0, 1) := by decide +kernel
theorem d_Nm_checkDay_5 : decode prog_1_method_25_code 5 = .ok (.ldc 136, 2) := by decide +kernel
theorem d_Nm_checkDay_7 : decode prog_1_method_25_code 7 = .ok (.if_icmp .le 13, 3) := by decide +kernel
theorem d_Nm_checkDay_10 : decode prog_1_method_25_code 10 = .ok (.new 54, 3) := by decide +kernel
theorem d_Nm_checkDay_13 : decode prog_1_method_25_code 13 = .ok (.dup, 1) := by decide +kernel
theorem d_Nm_checkDay_14 : decode prog_1_method_25_code 14 = .ok (.ldc 248, 2) := by decide +kernel
theorem d_Nm_checkDay_16 : decode prog_1_method_25_code 16 = .ok (.invokespecial 58, 3) := by decide +kernel
theorem d_Nm_checkDay_19 : decode prog_1_method_25_code 19 = .ok (.athrow, 1) := by decide +kernel
theorem d_Nm_checkDay_20 : decode prog_1_method_25_code 20 = .ok (.return_, 1) := by decide +kernel
set_option maxHeartbeats 4000000 in
set_option maxRecDepth 100000 in
theorem c_Nm_checkDay (l : Launch) (D : va_G) (cs : Nat → ClassId) (N0 : Nat) (H : Heap) (hl9 : l.stackTraces = false) (q : Int32) : tMet l y_Nm_checkDay w_Nm_checkDay ({ frames := 6, cells := 1, slots := 6, locals := 82 }) (hPre D cs N0 [.int q] H) (hT (fun v H' => v = none ∧ H' = H ∧ isD q = true) (fun E => E = "java/lang/IllegalArgumentException" ∧ isD q = false) noA) 1 6 noA := by
  refine tMet.ofW (cc := prog_1_method_25_code) (maxL := 1) (ret := (Option.none : Option Jvm.ClassFile.FieldType)) (by decide) rfl ?_
  intro p e s m args below meth c s₁ B hml hno hv
  obtain ⟨rfl, rfl, hB⟩ := hv
  have hx := B.exec
  have hb := B.bytes
  have hr := B.returns
  have hts := atoms_spec (ws := w_Nm_checkDay) B.pre
  have htg : ∀ w ∈ gw, w.before _ s = true := fun w h => hts w (List.mem_cons_of_mem _ h)
  have hown : s.vm.findClass "NameMerges" = some m.cls := findClass_of_methodNamed B.named
  have hlocks := B.notSynchronized
  have hK := hB.1
  obtain ⟨H, hH⟩ : ∃ z : Heap, z = s.heap := ⟨_, rfl⟩
  have hS : va_S noA s.heap H [] := by rw [hH]; exact va_S.rf
  have hl := lv_entry ([.int q]) (n := 1) (Nat.le_of_ble_eq_true rfl)
  rw [lg_entry_eq, ← hH]
  generalize (lg_sl ([.int q]) ++ List.replicate (1 - (lg_sl ([.int q])).length) Slot.unset).toArray = ls at hl ⊢
  have hl : lv_has ls 1 [(0, .int q)] := hl
  refine lv_iload_n hx hb d_Nm_checkDay_0 rfl (lv_at hl 0 rfl) ?_
  refine lv_if_lt (x := q) (tgt := 10) hx hb d_Nm_checkDay_1 (by decide) (fun c1 => ?_) (fun c1 => ?_)
  · skip
    have hnil := noL hS.2.2
    first | subst hnil | skip
    exact t_throw (A := noA) (text := "this is no day") (names := exUp) hx hb hl9 hown (by decide) (by decide) (htg _ (gw_mem (i := 621) (by decide +kernel) rfl)) (htg _ (gw_mem (i := 43) (by decide +kernel) rfl)) (zStr (q := ("NameMerges", 248, "this is no day")) hB (by decide)) (fun a ha => zOk_before htg hB (List.all_eq_true.mp own_iae a ha)) hS.1 (hl.1.trans hml.symm) d_Nm_checkDay_10 d_Nm_checkDay_13 d_Nm_checkDay_14 d_Nm_checkDay_16 d_Nm_checkDay_19 hno (Nat.le_of_ble_eq_true rfl) (Nat.le_of_ble_eq_true rfl) (Nat.le_of_ble_eq_true rfl) (Nat.le_of_ble_eq_true rfl) hlocks ⟨rfl, (by simp [isD, c1])⟩ (Nat.le_refl _) (Nat.le_refl _)
  · skip
    refine lv_iload_n hx hb d_Nm_checkDay_4 rfl (lv_at hl 0 rfl) ?_
    refine lv_ldc (v := 100000) hx hb hown (htg _ (gw_mem (i := 504) (by decide +kernel) rfl)) d_Nm_checkDay_5 ?_
    refine lv_icmp_le (x := q) (y := 100000) (tgt := 20) hx hb d_Nm_checkDay_7 (by decide) (fun c7 => ?_) (fun c7 => ?_)
    · skip
      refine t_ret ?_
      refine W.widen (k := 1) (n := 6) (Nat.le_of_ble_eq_true rfl) (Nat.le_of_ble_eq_true rfl) ?_
      exact W.vret hx hb hr (fun t ht hW => Or.inl ⟨none, rfl, ⟨rfl, ht, (by simp [isD, c1, Int32.not_lt.mp c1, c7])⟩, hS.F ht⟩) hS.2.2 d_Nm_checkDay_20
    · skip
      have hnil := noL hS.2.2
      first | subst hnil | skip
      exact t_throw (A := noA) (text := "this is no day") (names := exUp) hx hb hl9 hown (by decide) (by decide) (htg _ (gw_mem (i := 621) (by decide +kernel) rfl)) (htg _ (gw_mem (i := 43) (by decide +kernel) rfl)) (zStr (q := ("NameMerges", 248, "this is no day")) hB (by decide)) (fun a ha => zOk_before htg hB (List.all_eq_true.mp own_iae a ha)) hS.1 (hl.1.trans hml.symm) d_Nm_checkDay_10 d_Nm_checkDay_13 d_Nm_checkDay_14 d_Nm_checkDay_16 d_Nm_checkDay_19 hno (Nat.le_of_ble_eq_true rfl) (Nat.le_of_ble_eq_true rfl) (Nat.le_of_ble_eq_true rfl) (Nat.le_of_ble_eq_true rfl) hlocks ⟨rfl, (by simp [isD, c1, Int32.not_lt.mp c1, c7, Int32.not_le.mp c7])⟩ (Nat.le_refl _) (Nat.le_refl _)
def y_Nm_checkDiffer : MethodName := ⟨"NameMerges", "checkDiffer", "(II)V"⟩
abbrev w_Nm_checkDiffer : List Cond := Cond.code y_Nm_checkDiffer prog_1_method_24_code 2 (Option.none : Option Jvm.ClassFile.FieldType) :: gw
theorem d_Nm_checkDiffer_0 : decode prog_1_method_24_code 0 = .ok (.iload_n 0, 1) := by decide +kernel
theorem d_Nm_checkDiffer_1 : decode prog_1_method_24_code 1 = .ok (.iload_n 1, 1) := by decide +kernel
theorem d_Nm_checkDiffer_2 : decode prog_1_method_24_code 2 = .ok (.if_icmp .ne 13, 3) := by decide +kernel
theorem d_Nm_checkDiffer_5 : decode prog_1_method_24_code 5 = .ok (.new 54, 3) := by decide +kernel
theorem d_Nm_checkDiffer_8 : decode prog_1_method_24_code 8 = .ok (.dup, 1) := by decide +kernel
theorem d_Nm_checkDiffer_9 : decode prog_1_method_24_code 9 = .ok (.ldc 246, 2) := by decide +kernel
theorem d_Nm_checkDiffer_11 : decode prog_1_method_24_code 11 = .ok (.invokespecial 58, 3) := by decide +kernel
theorem d_Nm_checkDiffer_14 : decode prog_1_method_24_code 14 = .ok (.athrow, 1) := by decide +kernel
theorem d_Nm_checkDiffer_15 : decode prog_1_method_24_code 15 = .ok (.return_, 1) := by decide +kernel
set_option maxHeartbeats 4000000 in
set_option maxRecDepth 100000 in
theorem c_Nm_checkDiffer (l : Launch) (D : va_G) (cs : Nat → ClassId) (N0 : Nat) (H : Heap) (hl9 : l.stackTraces = false) (qa qb : Int32) : tMet l y_Nm_checkDiffer w_Nm_checkDiffer ({ frames := 6, cells := 1, slots := 6, locals := 82 }) (hPre D cs N0 [.int qa, .int qb] H) (hT (fun v H' => v = none ∧ H' = H ∧ (!decide (qa = qb)) = true) (fun E => E = "java/lang/IllegalArgumentException" ∧ (!decide (qa = qb)) = false) noA) 1 6 noA := by
  refine tMet.ofW (cc := prog_1_method_24_code) (maxL := 2) (ret := (Option.none : Option Jvm.ClassFile.FieldType)) (by decide) rfl ?_
  intro p e s m args below meth c s₁ B hml hno hv
  obtain ⟨rfl, rfl, hB⟩ := hv
  have hx := B.exec
  have hb := B.bytes
  have hr := B.returns
  have hts := atoms_spec (ws := w_Nm_checkDiffer) B.pre
  have htg : ∀ w ∈ gw, w.before _ s = true := fun w h => hts w (List.mem_cons_of_mem _ h)
  have hown : s.vm.findClass "NameMerges" = some m.cls := findClass_of_methodNamed B.named
  have hlocks := B.notSynchronized
  have hK := hB.1
  obtain ⟨H, hH⟩ : ∃ z : Heap, z = s.heap := ⟨_, rfl⟩
  have hS : va_S noA s.heap H [] := by rw [hH]; exact va_S.rf
  have hl := lv_entry ([.int qa, .int qb]) (n := 2) (Nat.le_of_ble_eq_true rfl)
  rw [lg_entry_eq, ← hH]
  generalize (lg_sl ([.int qa, .int qb]) ++ List.replicate (2 - (lg_sl ([.int qa, .int qb])).length) Slot.unset).toArray = ls at hl ⊢
  have hl : lv_has ls 2 [(0, .int qa), (1, .int qb)] := hl
  refine lv_iload_n hx hb d_Nm_checkDiffer_0 rfl (lv_at hl 0 rfl) ?_
  refine lv_iload_n hx hb d_Nm_checkDiffer_1 rfl (lv_at hl 1 rfl) ?_
  refine lv_icmp_ne (x := qa) (y := qb) (tgt := 15) hx hb d_Nm_checkDiffer_2 (by decide) (fun c2 => ?_) (fun c2 => ?_)
  · skip
    refine t_ret ?_
    refine W.widen (k := 1) (n := 6) (Nat.le_of_ble_eq_true rfl) (Nat.le_of_ble_eq_true rfl) ?_
    exact W.vret hx hb hr (fun t ht hW => Or.inl ⟨none, rfl, ⟨rfl, ht, (by simp [c2])⟩, hS.F ht⟩) hS.2.2 d_Nm_checkDiffer_15
  · skip
    have hnil := noL hS.2.2
    first | subst hnil | skip
    exact t_throw (A := noA) (text := "both are the same name") (names := exUp) hx hb hl9 hown (by decide) (by decide) (htg _ (gw_mem (i := 621) (by decide +kernel) rfl)) (htg _ (gw_mem (i := 43) (by decide +kernel) rfl)) (zStr (q := ("NameMerges", 246, "both are the same name")) hB (by decide)) (fun a ha => zOk_before htg hB (List.all_eq_true.mp own_iae a ha)) hS.1 (hl.1.trans hml.symm) d_Nm_checkDiffer_5 d_Nm_checkDiffer_8 d_Nm_checkDiffer_9 d_Nm_checkDiffer_11 d_Nm_checkDiffer_14 hno (Nat.le_of_ble_eq_true rfl) (Nat.le_of_ble_eq_true rfl) (Nat.le_of_ble_eq_true rfl) (Nat.le_of_ble_eq_true rfl) hlocks ⟨rfl, (by simp [c2])⟩ (Nat.le_refl _) (Nat.le_refl _)
