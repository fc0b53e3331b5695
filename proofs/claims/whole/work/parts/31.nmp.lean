theorem isN_of {n : Nat} {q : Int32} (h : isN n q = true) (hn : n < 2147483648) : ∃ j : Nat, j < n ∧ q = nI j := by
  simp only [isN, Bool.and_eq_true, Bool.not_eq_true', decide_eq_false_iff_not] at h
  obtain ⟨j, hj, rfl⟩ := nI_of h.1
  refine ⟨j, ?_, rfl⟩
  rcases Nat.lt_or_ge j n with h9 | h9
  · exact h9
  · exact absurd ((nI_leI (by omega) (by omega)).mpr h9) h.2
theorem isSt_of {q : Int32} (h : isSt q = true) : ∃ j : Nat, j < 4 ∧ q = nI j := isN_of (n := 4) h (by decide)
theorem tnI {j : Nat} (h : j < 2147483648) : tn (nI j) = j := nI_clamp h
theorem x_tab5 {w : Int32} (h0 : ¬ w = 0) (h1 : ¬ w = 1) (h2 : ¬ w = 2) (h3 : ¬ w = 3) (h4 : ¬ w = 4) (h5 : ¬ w = 5) : w.toInt < 0 ∨ 5 < w.toInt := by
  have e : ∀ (k : Int32) (i : Int), k.toInt = i → ¬ w = k → w.toInt ≠ i := fun k i hk h h9 => h (Int32.toInt_inj.mp (h9.trans hk.symm))
  have a0 := e 0 0 rfl h0
  have a1 := e 1 1 rfl h1
  have a2 := e 2 2 rfl h2
  have a3 := e 3 3 rfl h3
  have a4 := e 4 4 rfl h4
  have a5 := e 5 5 rfl h5
  omega
theorem x_tab5b {w : Int32} (h : w.toInt < 0 ∨ 5 < w.toInt) : (!decide (w < 0) && !decide (5 < w)) = false := by
  rcases h with h | h
  · rw [decide_eq_true (Int32.lt_iff_toInt_lt.mpr (show w.toInt < (0 : Int32).toInt from h))]; rfl
  · rw [decide_eq_true (p := (5 : Int32) < w) (Int32.lt_iff_toInt_lt.mpr (show (5 : Int32).toInt < w.toInt from h))]; simp
theorem plc_nI {a b : Nat} (ha : a < 1000) (hb : b < 1000) : plcV (nI a) (nI b) = nI (min a b * 24 + max a b) := by
  unfold plcV
  rw [x_max (by omega) (by omega)]
  rcases Nat.le_total a b with h | h
  · rw [x_min2 h (by omega), Nat.min_eq_left h, show (24 : Int32) = nI 24 from rfl, pk_mul, nI_add]
  · rw [x_min h (by omega), Nat.min_eq_right h, show (24 : Int32) = nI 24 from rfl, pk_mul, nI_add]
def y_Nm_checkName : MethodName := ⟨"NameMerges", "checkName", "(I)V"⟩
abbrev w_Nm_checkName : List Cond := Cond.code y_Nm_checkName prog_1_method_22_code 2 (Option.none : Option Jvm.ClassFile.FieldType) :: gw
theorem d_Nm_checkName_0 : decode prog_1_method_22_code 0 = .ok (.iload_n 1, 1) := by decide +kernel
theorem d_Nm_checkName_1 : decode prog_1_method_22_code 1 = .ok (.ifCond .lt 14, 3) := by decide +kernel
theorem d_Nm_checkName_4 : decode prog_1_method_22_code 4 = .ok (.iload_n 1, 1) := by decide +kernel
theorem d_Nm_checkName_5 : decode prog_1_method_22_code 5 = .ok (.aload_n 0, 1) := by decide +kernel
theorem d_Nm_checkName_6 : decode prog_1_method_22_code 6 = .ok (.getfield 19, 3) := by decide +kernel
theorem d_Nm_checkName_9 : decode prog_1_method_22_code 9 = .ok (.invokevirtual 67, 3) := by decide +kernel
theorem d_Nm_checkName_12 : decode prog_1_method_22_code 12 = .ok (.if_icmp .lt 13, 3) := by decide +kernel
theorem d_Nm_checkName_15 : decode prog_1_method_22_code 15 = .ok (.new 151, 3) := by decide +kernel
theorem d_Nm_checkName_18 : decode prog_1_method_22_code 18 = .ok (.dup, 1) := by decide +kernel
theorem d_Nm_checkName_19 : decode prog_1_method_22_code 19 = .ok (.ldc 242, 2) := by decide +kernel
theorem d_Nm_checkName_21 : decode prog_1_method_22_code 21 = .ok (.invokespecial 155, 3) := by decide +kernel
theorem d_Nm_checkName_24 : decode prog_1_method_22_code 24 = .ok (.athrow, 1) := by decide +kernel
theorem d_Nm_checkName_25 : decode prog_1_method_22_code 25 = .ok (.return_, 1) := by decide +kernel
set_option maxHeartbeats 4000000 in
set_option maxRecDepth 100000 in
theorem c_Nm_checkName (l : Launch) (D : va_G) (cs : Nat → ClassId) (N0 : Nat) (H : Heap) (hl9 : l.stackTraces = false) (o z : Nat → Nat → Nat) (K : Nat → Nat → Nat → Int32) (r : Nat → Nat × Nat) (q : Int32) (hI : nmP D cs N0 H o z K r) : tMet l y_Nm_checkName w_Nm_checkName ({ frames := 6, cells := 1, slots := 6, locals := 82 }) (hPre D cs N0 [.ref (o 0 0), .int q] H) (hT (fun v H' => v = none ∧ H' = H ∧ isN (z 3 0) q = true) (fun E => E = "java/lang/IndexOutOfBoundsException" ∧ isN (z 3 0) q = false) noA) 1 6 noA := by
  refine tMet.ofW (cc := prog_1_method_22_code) (maxL := 2) (ret := (Option.none : Option Jvm.ClassFile.FieldType)) (by decide) rfl ?_
  intro p e s m args below meth c s₁ B hml hno hv
  obtain ⟨rfl, rfl, hB⟩ := hv
  have hx := B.exec
  have hb := B.bytes
  have hr := B.returns
  have hts := atoms_spec (ws := w_Nm_checkName) B.pre
  have htg : ∀ w ∈ gw, w.before _ s = true := fun w h => hts w (List.mem_cons_of_mem _ h)
  have hown : s.vm.findClass "NameMerges" = some m.cls := findClass_of_methodNamed B.named
  have hlocks := B.notSynchronized
  have hK := hB.1
  obtain ⟨H, hH⟩ : ∃ z : Heap, z = s.heap := ⟨_, rfl⟩
  have hz0 : H.size = s.heap.size := by rw [hH]
  have hN0 := hB.2.1
  rw [← hH] at hI
  have hS : va_S noA s.heap H [] := by rw [hH]; exact va_S.rf
  have hl := lv_entry ([.ref (o 0 0), .int q]) (n := 2) (Nat.le_of_ble_eq_true rfl)
  rw [lg_entry_eq, ← hH]
  generalize (lg_sl ([.ref (o 0 0), .int q]) ++ List.replicate (2 - (lg_sl ([.ref (o 0 0), .int q])).length) Slot.unset).toArray = ls at hl ⊢
  have hl : lv_has ls 2 [(0, .ref (o 0 0)), (1, .int q)] := hl
  obtain ⟨hb0, hb1, hb3, hb5, hb4, hb6, hb11, hb17⟩ := hI.2.2.1
  refine lv_iload_n hx hb d_Nm_checkName_0 rfl (lv_at hl 1 rfl) ?_
  refine lv_if_lt (x := q) (tgt := 15) hx hb d_Nm_checkName_1 (by decide) (fun c1 => ?_) (fun c1 => ?_)
  · skip
    have hnil := noL hS.2.2
    first | subst hnil | skip
    exact t_throw (A := noA) (text := "there is no such name") (names := exUp) hx hb hl9 hown (by decide) (by decide) (htg _ (gw_mem (i := 739) (by decide +kernel) rfl)) (htg _ (gw_mem (i := 50) (by decide +kernel) rfl)) (zStr (q := ("NameMerges", 242, "there is no such name")) hB (by decide)) (fun a ha => zOk_before htg hB (List.all_eq_true.mp own_iob a ha)) hS.1 (hl.1.trans hml.symm) d_Nm_checkName_15 d_Nm_checkName_18 d_Nm_checkName_19 d_Nm_checkName_21 d_Nm_checkName_24 hno (Nat.le_of_ble_eq_true rfl) (Nat.le_of_ble_eq_true rfl) (Nat.le_of_ble_eq_true rfl) (Nat.le_of_ble_eq_true rfl) hlocks ⟨rfl, by simp [isN, c1, Int32.not_le.mpr c1]⟩ (Nat.le_of_ble_eq_true rfl) (Nat.le_of_ble_eq_true rfl)
  · skip
    refine lv_iload_n hx hb d_Nm_checkName_4 rfl (lv_at hl 1 rfl) ?_
    refine lv_aload_n hx hb d_Nm_checkName_5 rfl (lv_at hl 0 rfl) ?_
    refine hx_get (ref := "NameMerges") (v := .ref (o 3 0)) hx hb htg iNm hown hK (show va_at D vwCl (o 0 0, .inr (1, [.ref (o 1 0), .ref (o 3 0), .ref (o 5 0), .ref (o 7 0), .ref (o 8 0), .int (nI (z 0 0)), .int (K 0 0 0), .ref (o 9 0)])) H from hI.at (k := 0) (n := 0) (show nmv z 0 0 from rfl)) rfl 1 (by decide) (htg _ (gw_mem (i := 127) (by decide +kernel) rfl)) (fun _ h9 => h9) rfl d_Nm_checkName_6 ?_
    refine h_purei (va_runV (As := []) (rest := [.int q]) ⟨hx, hb, hml, hown, htg⟩ (c_AL_size l D cs N0 H (o 3 0) (nmL cs (z 3 0) (o 4 0)) (z 3 0) (K 3 0 0) (show va_at D vwCl (o 3 0, .inr (6, [.ref (nmL cs (z 3 0) (o 4 0)), .int (nI (z 3 0)), .int (K 3 0 0)])) H from hI.at (k := 3) (n := 0) (show nmv z 3 0 from rfl))) ⟨x_cwB 0 htg (gw_mem (i := 503) (by decide +kernel) rfl) (gw_mem (i := 37) (by decide +kernel) rfl) (gw_mem (i := 500) (by decide +kernel) rfl) (by decide +kernel) ⟨Nat.le_of_ble_eq_true rfl, Nat.le_of_ble_eq_true rfl⟩, htg _ (gw_mem (i := 501) (by decide +kernel) rfl), htg _ (gw_mem (i := 502) (by decide +kernel) rfl)⟩ ⟨hPre.blind, hx_recv hK (ci := 6) rfl (show va_at D vwCl (o 3 0, .inr (6, [.ref (nmL cs (z 3 0) (o 4 0)), .int (nI (z 3 0)), .int (K 3 0 0)])) H from hI.at (k := 3) (n := 0) (show nmv z 3 0 from rfl)), hPre.at hB hS noA_in⟩ rfl rfl hl.1 rfl (lv_room (Nat.le_of_ble_eq_true rfl)) d_Nm_checkName_9 ⟨Nat.le_of_ble_eq_true rfl, Nat.le_of_ble_eq_true rfl⟩) hS (fun locs hS => ?_)
    refine lv_icmp_lt (x := q) (y := (nI (z 3 0))) (tgt := 25) hx hb d_Nm_checkName_12 (by decide) (fun c12 => ?_) (fun c12 => ?_)
    · skip
      refine t_ret ?_
      refine W.widen (k := 1) (n := 6) (Nat.le_of_ble_eq_true rfl) (Nat.le_of_ble_eq_true rfl) ?_
      exact W.vret hx hb hr (fun t ht hW => Or.inl ⟨none, rfl, (by rw [ht]; exact ⟨rfl, rfl, by simp [isN, c1, Int32.not_lt.mp c1, c12, Int32.not_le.mpr c12]⟩), hS.F ht⟩) hS.2.2 d_Nm_checkName_25
    · skip
      have hnil := noL hS.2.2
      first | subst hnil | skip
      exact t_throw (A := noA) (text := "there is no such name") (names := exUp) hx hb hl9 hown (by decide) (by decide) (htg _ (gw_mem (i := 739) (by decide +kernel) rfl)) (htg _ (gw_mem (i := 50) (by decide +kernel) rfl)) (zStr (q := ("NameMerges", 242, "there is no such name")) hB (by decide)) (fun a ha => zOk_before htg hB (List.all_eq_true.mp own_iob a ha)) hS.1 (hl.1.trans hml.symm) d_Nm_checkName_15 d_Nm_checkName_18 d_Nm_checkName_19 d_Nm_checkName_21 d_Nm_checkName_24 hno (Nat.le_of_ble_eq_true rfl) (Nat.le_of_ble_eq_true rfl) (Nat.le_of_ble_eq_true rfl) (Nat.le_of_ble_eq_true rfl) hlocks ⟨rfl, by simp [isN, c1, Int32.not_lt.mp c1, c12, Int32.not_lt.mp c12]⟩ (Nat.le_of_ble_eq_true rfl) (Nat.le_of_ble_eq_true rfl)
def daysB (u v : Int32) : Bool := isD u && isD v && !decide (v < u)
def y_Nm_checkDays : MethodName := ⟨"NameMerges", "checkDays", "(II)V"⟩
abbrev w_Nm_checkDays : List Cond := Cond.code y_Nm_checkDays prog_1_method_26_code 2 (Option.none : Option Jvm.ClassFile.FieldType) :: gw
theorem d_Nm_checkDays_0 : decode prog_1_method_26_code 0 = .ok (.iload_n 0, 1) := by decide +kernel
theorem d_Nm_checkDays_1 : decode prog_1_method_26_code 1 = .ok (.invokestatic 169, 3) := by decide +kernel
theorem d_Nm_checkDays_4 : decode prog_1_method_26_code 4 = .ok (.iload_n 1, 1) := by decide +kernel
theorem d_Nm_checkDays_5 : decode prog_1_method_26_code 5 = .ok (.invokestatic 169, 3) := by decide +kernel
theorem d_Nm_checkDays_8 : decode prog_1_method_26_code 8 = .ok (.iload_n 0, 1) := by decide +kernel
theorem d_Nm_checkDays_9 : decode prog_1_method_26_code 9 = .ok (.iload_n 1, 1) := by decide +kernel
theorem d_Nm_checkDays_10 : decode prog_1_method_26_code 10 = .ok (.if_icmp .le 13, 3) := by decide +kernel
theorem d_Nm_checkDays_13 : decode prog_1_method_26_code 13 = .ok (.new 54, 3) := by decide +kernel
theorem d_Nm_checkDays_16 : decode prog_1_method_26_code 16 = .ok (.dup, 1) := by decide +kernel
theorem d_Nm_checkDays_17 : decode prog_1_method_26_code 17 = .ok (.ldc 250, 2) := by decide +kernel
theorem d_Nm_checkDays_19 : decode prog_1_method_26_code 19 = .ok (.invokespecial 58, 3) := by decide +kernel
theorem d_Nm_checkDays_22 : decode prog_1_method_26_code 22 = .ok (.athrow, 1) := by decide +kernel
theorem d_Nm_checkDays_23 : decode prog_1_method_26_code 23 = .ok (.return_, 1) := by decide +kernel
set_option maxHeartbeats 4000000 in
set_option maxRecDepth 100000 in
theorem c_Nm_checkDays (l : Launch) (D : va_G) (cs : Nat → ClassId) (N0 : Nat) (H : Heap) (hl9 : l.stackTraces = false) (a b : Int32) : tMet l y_Nm_checkDays w_Nm_checkDays ({ frames := 7, cells := 3, slots := 18, locals := 102 }) (hPre D cs N0 [.int a, .int b] H) (hT (fun v H' => v = none ∧ H' = H ∧ daysB a b = true) (fun E => E = "java/lang/IllegalArgumentException" ∧ daysB a b = false) noA) 3 18 noA := by
  refine tMet.ofW (cc := prog_1_method_26_code) (maxL := 2) (ret := (Option.none : Option Jvm.ClassFile.FieldType)) (by decide) rfl ?_
  intro p e s m args below meth c s₁ B hml hno hv
  obtain ⟨rfl, rfl, hB⟩ := hv
  have hx := B.exec
  have hb := B.bytes
  have hr := B.returns
  have hts := atoms_spec (ws := w_Nm_checkDays) B.pre
  have htg : ∀ w ∈ gw, w.before _ s = true := fun w h => hts w (List.mem_cons_of_mem _ h)
  have hown : s.vm.findClass "NameMerges" = some m.cls := findClass_of_methodNamed B.named
  have hlocks := B.notSynchronized
  have hK := hB.1
  obtain ⟨H, hH⟩ : ∃ z : Heap, z = s.heap := ⟨_, rfl⟩
  have hz0 : H.size = s.heap.size := by rw [hH]
  have hN0 := hB.2.1
  have hS : va_S noA s.heap H [] := by rw [hH]; exact va_S.rf
  have hl := lv_entry ([.int a, .int b]) (n := 2) (Nat.le_of_ble_eq_true rfl)
  rw [lg_entry_eq, ← hH]
  generalize (lg_sl ([.int a, .int b]) ++ List.replicate (2 - (lg_sl ([.int a, .int b])).length) Slot.unset).toArray = ls at hl ⊢
  have hl : lv_has ls 2 [(0, .int a), (1, .int b)] := hl
  refine lv_iload_n hx hb d_Nm_checkDays_0 rfl (lv_at hl 0 rfl) ?_
  refine t_S (As := [.int a]) (rest := []) ⟨hx, hb, hml, hown, htg⟩ (c_Nm_checkDay l D cs N0 H hl9 a) ⟨x_cwB 1 htg (gw_mem (i := 760) (by decide +kernel) rfl) (gw_mem (i := 30) (by decide +kernel) rfl) (gw_mem (i := 758) (by decide +kernel) rfl) (by decide +kernel) ⟨Nat.le_of_ble_eq_true rfl, Nat.le_of_ble_eq_true rfl⟩, htg _ (gw_mem (i := 759) (by decide +kernel) rfl)⟩ ⟨hPre.blind, hPre.at hB hS noA_in⟩ rfl hl.1 rfl (lv_room (Nat.le_of_ble_eq_true rfl)) d_Nm_checkDays_1 ⟨Nat.le_of_ble_eq_true rfl, Nat.le_of_ble_eq_true rfl⟩ (fun x9 E9 ce9 H9 L9 hL9 hb9 hc9 hv9 hf9 hz9 hk9 => ?_) (fun v9 H9 L9 hL9 hp9 hz9 hk9 => ?_)
  · have hn9 := noL hL9
    subst hn9
    have hnil := noL hS.2.2
    first | subst hnil | skip
    exact t_out (A := noA) rfl hno hlocks (⟨hb9.1, by simp [daysB, hb9.2]⟩) hc9 hv9 hf9 (Nat.le_of_ble_eq_true rfl) (Nat.le_of_ble_eq_true rfl)
  · skip
    obtain ⟨hv9, hH9, hq1⟩ := hp9
    have hn8 := noL hL9
    subst hn8
    rw [hv9, hH9, List.append_nil]
    refine W.eq (g2 := F0 m 4 ls []) rfl ?_
    refine lv_iload_n hx hb d_Nm_checkDays_4 rfl (lv_at hl 1 rfl) ?_
    refine t_S (As := [.int b]) (rest := []) ⟨hx, hb, hml, hown, htg⟩ (c_Nm_checkDay l D cs N0 H hl9 b) ⟨x_cwB 1 htg (gw_mem (i := 760) (by decide +kernel) rfl) (gw_mem (i := 30) (by decide +kernel) rfl) (gw_mem (i := 758) (by decide +kernel) rfl) (by decide +kernel) ⟨Nat.le_of_ble_eq_true rfl, Nat.le_of_ble_eq_true rfl⟩, htg _ (gw_mem (i := 759) (by decide +kernel) rfl)⟩ ⟨hPre.blind, hPre.at hB hS noA_in⟩ rfl hl.1 rfl (lv_room (Nat.le_of_ble_eq_true rfl)) d_Nm_checkDays_5 ⟨Nat.le_of_ble_eq_true rfl, Nat.le_of_ble_eq_true rfl⟩ (fun x9 E9 ce9 H9 L9 hL9 hb9 hc9 hv9 hf9 hz9 hk9 => ?_) (fun v9 H9 L9 hL9 hp9 hz9 hk9 => ?_)
    · have hn9 := noL hL9
      subst hn9
      have hnil := noL hS.2.2
      first | subst hnil | skip
      exact t_out (A := noA) rfl hno hlocks (⟨hb9.1, by simp [daysB, hb9.2, hq1]⟩) hc9 hv9 hf9 (Nat.le_of_ble_eq_true rfl) (Nat.le_of_ble_eq_true rfl)
    · skip
      obtain ⟨hv9, hH9, hq2⟩ := hp9
      have hn8 := noL hL9
      subst hn8
      rw [hv9, hH9, List.append_nil]
      refine W.eq (g2 := F0 m 8 ls []) rfl ?_
      refine lv_iload_n hx hb d_Nm_checkDays_8 rfl (lv_at hl 0 rfl) ?_
      refine lv_iload_n hx hb d_Nm_checkDays_9 rfl (lv_at hl 1 rfl) ?_
      refine lv_icmp_le (x := a) (y := b) (tgt := 23) hx hb d_Nm_checkDays_10 (by decide) (fun c10 => ?_) (fun c10 => ?_)
      · skip
        refine t_ret ?_
        refine W.widen (k := 3) (n := 18) (Nat.le_of_ble_eq_true rfl) (Nat.le_of_ble_eq_true rfl) ?_
        exact W.vret hx hb hr (fun t ht hW => Or.inl ⟨none, rfl, (by rw [ht]; exact ⟨rfl, rfl, by simp [daysB, c10, Int32.not_lt.mpr c10, hq1, hq2]⟩), hS.F ht⟩) hS.2.2 d_Nm_checkDays_23
      · skip
        have hnil := noL hS.2.2
        first | subst hnil | skip
        exact t_throw (A := noA) (text := "the days end ahead of their beginning") (names := exUp) hx hb hl9 hown (by decide) (by decide) (htg _ (gw_mem (i := 621) (by decide +kernel) rfl)) (htg _ (gw_mem (i := 43) (by decide +kernel) rfl)) (zStr (q := ("NameMerges", 250, "the days end ahead of their beginning")) hB (by decide)) (fun a ha => zOk_before htg hB (List.all_eq_true.mp own_iae a ha)) hS.1 (hl.1.trans hml.symm) d_Nm_checkDays_13 d_Nm_checkDays_16 d_Nm_checkDays_17 d_Nm_checkDays_19 d_Nm_checkDays_22 hno (Nat.le_of_ble_eq_true rfl) (Nat.le_of_ble_eq_true rfl) (Nat.le_of_ble_eq_true rfl) (Nat.le_of_ble_eq_true rfl) hlocks ⟨rfl, by simp [daysB, c10, Int32.not_le.mp c10, hq1, hq2]⟩ (Nat.le_of_ble_eq_true rfl) (Nat.le_of_ble_eq_true rfl)
def y_Nm_covers : MethodName := ⟨"NameMerges", "covers", "(II)Z"⟩
abbrev w_Nm_covers : List Cond := Cond.code y_Nm_covers prog_1_method_16_code 3 (Option.some Jvm.ClassFile.FieldType.boolean) :: gw
theorem d_Nm_covers_0 : decode prog_1_method_16_code 0 = .ok (.aload_n 0, 1) := by decide +kernel
theorem d_Nm_covers_1 : decode prog_1_method_16_code 1 = .ok (.iload_n 1, 1) := by decide +kernel
theorem d_Nm_covers_2 : decode prog_1_method_16_code 2 = .ok (.invokevirtual 79, 3) := by decide +kernel
theorem d_Nm_covers_5 : decode prog_1_method_16_code 5 = .ok (.aload_n 0, 1) := by decide +kernel
theorem d_Nm_covers_6 : decode prog_1_method_16_code 6 = .ok (.iload_n 2, 1) := by decide +kernel
theorem d_Nm_covers_7 : decode prog_1_method_16_code 7 = .ok (.invokevirtual 79, 3) := by decide +kernel
theorem d_Nm_covers_10 : decode prog_1_method_16_code 10 = .ok (.aload_n 0, 1) := by decide +kernel
theorem d_Nm_covers_11 : decode prog_1_method_16_code 11 = .ok (.getfield 19, 3) := by decide +kernel
theorem d_Nm_covers_14 : decode prog_1_method_16_code 14 = .ok (.iload_n 1, 1) := by decide +kernel
theorem d_Nm_covers_15 : decode prog_1_method_16_code 15 = .ok (.invokevirtual 82, 3) := by decide +kernel
theorem d_Nm_covers_18 : decode prog_1_method_16_code 18 = .ok (.checkcast 72, 3) := by decide +kernel
theorem d_Nm_covers_21 : decode prog_1_method_16_code 21 = .ok (.getfield 198, 3) := by decide +kernel
theorem d_Nm_covers_24 : decode prog_1_method_16_code 24 = .ok (.iload_n 2, 1) := by decide +kernel
theorem d_Nm_covers_25 : decode prog_1_method_16_code 25 = .ok (.invokestatic 141, 3) := by decide +kernel
theorem d_Nm_covers_28 : decode prog_1_method_16_code 28 = .ok (.ireturn, 1) := by decide +kernel
set_option maxHeartbeats 4000000 in
set_option maxRecDepth 100000 in
theorem c_Nm_covers (l : Launch) (D : va_G) (cs : Nat → ClassId) (N0 : Nat) (H : Heap) (hl9 : l.stackTraces = false) (o z : Nat → Nat → Nat) (K : Nat → Nat → Nat → Int32) (r : Nat → Nat × Nat) (qa qb : Int32) (hI : nmP D cs N0 H o z K r) : tMet l y_Nm_covers w_Nm_covers ({ frames := 7, cells := 2, slots := 12, locals := 103 }) (hPre D cs N0 [.ref (o 0 0), .int qa, .int qb] H) (hT (fun v H' => goV (isN (z 3 0) qa && isN (z 3 0) qb) true true = 0 ∧ H' = H ∧ v = some (.int (bI (hasB (K 10 (tn qa) 3) qb)))) (fun E => (E = "java/lang/IndexOutOfBoundsException" ∧ goV (isN (z 3 0) qa && isN (z 3 0) qb) true true = 1)) noA) 2 12 noA := by
  refine tMet.ofW (cc := prog_1_method_16_code) (maxL := 3) (ret := (Option.some Jvm.ClassFile.FieldType.boolean)) (by decide) rfl ?_
  intro p e s m args below meth c s₁ B hml hno hv
  obtain ⟨rfl, rfl, hB⟩ := hv
  have hx := B.exec
  have hb := B.bytes
  have hr := B.returns
  have hts := atoms_spec (ws := w_Nm_covers) B.pre
  have htg : ∀ w ∈ gw, w.before _ s = true := fun w h => hts w (List.mem_cons_of_mem _ h)
  have hown : s.vm.findClass "NameMerges" = some m.cls := findClass_of_methodNamed B.named
  have hlocks := B.notSynchronized
  have hK := hB.1
  obtain ⟨H, hH⟩ : ∃ z : Heap, z = s.heap := ⟨_, rfl⟩
  have hz0 : H.size = s.heap.size := by rw [hH]
  have hN0 := hB.2.1
  rw [← hH] at hI
  have hS : va_S noA s.heap H [] := by rw [hH]; exact va_S.rf
  have hl := lv_entry ([.ref (o 0 0), .int qa, .int qb]) (n := 3) (Nat.le_of_ble_eq_true rfl)
  rw [lg_entry_eq, ← hH]
  generalize (lg_sl ([.ref (o 0 0), .int qa, .int qb]) ++ List.replicate (3 - (lg_sl ([.ref (o 0 0), .int qa, .int qb])).length) Slot.unset).toArray = ls at hl ⊢
  have hl : lv_has ls 3 [(0, .ref (o 0 0)), (1, .int qa), (2, .int qb)] := hl
  obtain ⟨hb0, hb1, hb3, hb5, hb4, hb6, hb11, hb17⟩ := hI.2.2.1
  refine lv_aload_n hx hb d_Nm_covers_0 rfl (lv_at hl 0 rfl) ?_
  refine lv_iload_n hx hb d_Nm_covers_1 rfl (lv_at hl 1 rfl) ?_
  refine t_V (As := [.int qa]) (rest := []) ⟨hx, hb, hml, hown, htg⟩ (c_Nm_checkName l D cs N0 H hl9 o z K r qa hI) ⟨x_cwB 1 htg (gw_mem (i := 738) (by decide +kernel) rfl) (gw_mem (i := 30) (by decide +kernel) rfl) (gw_mem (i := 735) (by decide +kernel) rfl) (by decide +kernel) ⟨Nat.le_of_ble_eq_true rfl, Nat.le_of_ble_eq_true rfl⟩, htg _ (gw_mem (i := 737) (by decide +kernel) rfl), htg _ (gw_mem (i := 11) (by decide +kernel) rfl)⟩ ⟨hPre.blind, hx_recv hK (ci := 1) rfl (show va_at D vwCl (o 0 0, .inr (1, [.ref (o 1 0), .ref (o 3 0), .ref (o 5 0), .ref (o 7 0), .ref (o 8 0), .int (nI (z 0 0)), .int (K 0 0 0), .ref (o 9 0)])) H from hI.at (k := 0) (n := 0) (show nmv z 0 0 from rfl)), hPre.at hB hS noA_in⟩ rfl hl.1 rfl (lv_room (Nat.le_of_ble_eq_true rfl)) d_Nm_covers_2 ⟨Nat.le_of_ble_eq_true rfl, Nat.le_of_ble_eq_true rfl⟩ (fun x9 E9 ce9 H9 L9 hL9 hb9 hc9 hv9 hf9 hz9 hk9 => ?_) (fun v9 H9 L9 hL9 hp9 hz9 hk9 => ?_)
  · have hn9 := noL hL9
    subst hn9
    have hnil := noL hS.2.2
    first | subst hnil | skip
    exact t_out (A := noA) rfl hno hlocks ((⟨hb9.1, by simp [goV, hb9.2]⟩)) hc9 hv9 hf9 (Nat.le_of_ble_eq_true rfl) (Nat.le_of_ble_eq_true rfl)
  · skip
    obtain ⟨hv9, hH9, hq1⟩ := hp9
    have hn8 := noL hL9
    subst hn8
    rw [hv9, hH9, List.append_nil]
    refine W.eq (g2 := F0 m 5 ls []) rfl ?_
    obtain ⟨j_qa, hj_qa, e_qa⟩ := isN_of hq1 (by omega)
    rw [e_qa] at hq1
    refine lv_aload_n hx hb d_Nm_covers_5 rfl (lv_at hl 0 rfl) ?_
    refine lv_iload_n hx hb d_Nm_covers_6 rfl (lv_at hl 2 rfl) ?_
    refine t_V (As := [.int qb]) (rest := []) ⟨hx, hb, hml, hown, htg⟩ (c_Nm_checkName l D cs N0 H hl9 o z K r qb hI) ⟨x_cwB 1 htg (gw_mem (i := 738) (by decide +kernel) rfl) (gw_mem (i := 30) (by decide +kernel) rfl) (gw_mem (i := 735) (by decide +kernel) rfl) (by decide +kernel) ⟨Nat.le_of_ble_eq_true rfl, Nat.le_of_ble_eq_true rfl⟩, htg _ (gw_mem (i := 737) (by decide +kernel) rfl), htg _ (gw_mem (i := 11) (by decide +kernel) rfl)⟩ ⟨hPre.blind, hx_recv hK (ci := 1) rfl (show va_at D vwCl (o 0 0, .inr (1, [.ref (o 1 0), .ref (o 3 0), .ref (o 5 0), .ref (o 7 0), .ref (o 8 0), .int (nI (z 0 0)), .int (K 0 0 0), .ref (o 9 0)])) H from hI.at (k := 0) (n := 0) (show nmv z 0 0 from rfl)), hPre.at hB hS noA_in⟩ rfl hl.1 rfl (lv_room (Nat.le_of_ble_eq_true rfl)) d_Nm_covers_7 ⟨Nat.le_of_ble_eq_true rfl, Nat.le_of_ble_eq_true rfl⟩ (fun x9 E9 ce9 H9 L9 hL9 hb9 hc9 hv9 hf9 hz9 hk9 => ?_) (fun v9 H9 L9 hL9 hp9 hz9 hk9 => ?_)
    · have hn9 := noL hL9
      subst hn9
      have hnil := noL hS.2.2
      first | subst hnil | skip
      exact t_out (A := noA) rfl hno hlocks ((⟨hb9.1, by simp [goV, e_qa, hq1, hb9.2]⟩)) hc9 hv9 hf9 (Nat.le_of_ble_eq_true rfl) (Nat.le_of_ble_eq_true rfl)
    · skip
      obtain ⟨hv9, hH9, hq2⟩ := hp9
      have hn8 := noL hL9
      subst hn8
      rw [hv9, hH9, List.append_nil]
      refine W.eq (g2 := F0 m 10 ls []) rfl ?_
      obtain ⟨j_qb, hj_qb, e_qb⟩ := isN_of hq2 (by omega)
      rw [e_qb] at hq2
      refine lv_aload_n hx hb d_Nm_covers_10 rfl (lv_at hl 0 rfl) ?_
      refine hx_get (ref := "NameMerges") (v := .ref (o 3 0)) hx hb htg iNm hown hK (show va_at D vwCl (o 0 0, .inr (1, [.ref (o 1 0), .ref (o 3 0), .ref (o 5 0), .ref (o 7 0), .ref (o 8 0), .int (nI (z 0 0)), .int (K 0 0 0), .ref (o 9 0)])) H from hI.at (k := 0) (n := 0) (show nmv z 0 0 from rfl)) rfl 1 (by decide) (htg _ (gw_mem (i := 127) (by decide +kernel) rfl)) (fun _ h9 => h9) rfl d_Nm_covers_11 ?_
      refine lv_iload_n hx hb d_Nm_covers_14 rfl (lv_at hl 1 rfl) ?_
      refine lv_eqi (y := (nI j_qa)) e_qa ?_
      refine h_pureq (va_runV (As := [.int (nI j_qa)]) (rest := []) ⟨hx, hb, hml, hown, htg⟩ (c_names_get l D cs N0 H o z K r j_qa hI (show j_qa < z 3 0 by omega)) ⟨x_cwB 1 htg (gw_mem (i := 512) (by decide +kernel) rfl) (gw_mem (i := 37) (by decide +kernel) rfl) (gw_mem (i := 509) (by decide +kernel) rfl) (by decide +kernel) ⟨Nat.le_of_ble_eq_true rfl, Nat.le_of_ble_eq_true rfl⟩, htg _ (gw_mem (i := 510) (by decide +kernel) rfl), htg _ (gw_mem (i := 511) (by decide +kernel) rfl)⟩ ⟨hPre.blind, hx_recv hK (ci := 6) rfl (show va_at D vwCl (o 3 0, .inr (6, [.ref (nmL cs (z 3 0) (o 4 0)), .int (nI (z 3 0)), .int (K 3 0 0)])) H from hI.at (k := 3) (n := 0) (show nmv z 3 0 from rfl)), hPre.at hB hS noA_in⟩ rfl rfl hl.1 rfl (lv_room (Nat.le_of_ble_eq_true rfl)) d_Nm_covers_15 ⟨Nat.le_of_ble_eq_true rfl, Nat.le_of_ble_eq_true rfl⟩) hS (fun locs hS => ?_)
      refine lv_eqv (y := .ref (o 10 j_qa)) rfl ?_
      refine va_castS hx hb hown (htg _ (gw_mem (i := 536) (by decide +kernel) rfl)) (x_at hK (ci := 2) rfl) (hx_recv hK (ci := 2) rfl (show va_at D vwCl (o 10 j_qa, .inr (2, [.ref (o 11 j_qa), .ref (o 13 j_qa), va_rf (if z 14 j_qa = 0 then none else some (o 14 j_qa)), .int (K 10 j_qa 0), .int (K 10 j_qa 1), .int (K 10 j_qa 2), .int (K 10 j_qa 3)])) H from hI.at (k := 10) (n := j_qa) (show nmv z 10 j_qa from (show j_qa < z 3 0 by omega)))) d_Nm_covers_18 ?_
      refine hx_get (ref := "NameMerges$Name") (v := .int (K 10 j_qa 3)) hx hb htg iNa hown hK (show va_at D vwCl (o 10 j_qa, .inr (2, [.ref (o 11 j_qa), .ref (o 13 j_qa), va_rf (if z 14 j_qa = 0 then none else some (o 14 j_qa)), .int (K 10 j_qa 0), .int (K 10 j_qa 1), .int (K 10 j_qa 2), .int (K 10 j_qa 3)])) H from hI.at (k := 10) (n := j_qa) (show nmv z 10 j_qa from (show j_qa < z 3 0 by omega))) rfl 6 (by decide) (htg _ (gw_mem (i := 665) (by decide +kernel) rfl)) (fun _ h9 => h9) rfl d_Nm_covers_21 ?_
      refine lv_iload_n hx hb d_Nm_covers_24 rfl (lv_at hl 2 rfl) ?_
      refine lv_eqi (y := (nI j_qb)) e_qb ?_
      refine h_purei (va_runS (As := [.int (K 10 j_qa 3), .int (nI j_qb)]) (rest := []) ⟨hx, hb, hml, hown, htg⟩ (c_Nm_has l D cs N0 H (K 10 j_qa 3) (nI j_qb)) ⟨x_cwB 2 htg (gw_mem (i := 530) (by decide +kernel) rfl) (gw_mem (i := 30) (by decide +kernel) rfl) (gw_mem (i := 528) (by decide +kernel) rfl) (by decide +kernel) ⟨Nat.le_of_ble_eq_true rfl, Nat.le_of_ble_eq_true rfl⟩, htg _ (gw_mem (i := 529) (by decide +kernel) rfl)⟩ ⟨hPre.blind, hPre.at hB hS noA_in⟩ rfl rfl hl.1 rfl (lv_room (Nat.le_of_ble_eq_true rfl)) d_Nm_covers_25 ⟨Nat.le_of_ble_eq_true rfl, Nat.le_of_ble_eq_true rfl⟩) hS (fun locs hS => ?_)
      refine t_ret ?_
      exact W.zret (v := (bI (hasB (K 10 j_qa 3) (nI j_qb)))) hx hb hr (bI_z _) (fun t ht hW => Or.inl ⟨some (.int ((bI (hasB (K 10 j_qa 3) (nI j_qb))))), rfl, (by rw [ht]; exact ⟨(by simp [goV, e_qa, e_qb, hq1, hq2]), rfl, by simp only [e_qa, e_qb, tnI (j := j_qa) (by omega), tnI (j := j_qb) (by omega)]⟩), hS.F ht⟩) hS.2.2 d_Nm_covers_28
def y_Nm_as : MethodName := ⟨"NameMerges", "as", "(II)I"⟩
abbrev w_Nm_as : List Cond := Cond.code y_Nm_as prog_1_method_14_code 3 (Option.some Jvm.ClassFile.FieldType.int) :: gw
theorem d_Nm_as_0 : decode prog_1_method_14_code 0 = .ok (.aload_n 0, 1) := by decide +kernel
theorem d_Nm_as_1 : decode prog_1_method_14_code 1 = .ok (.iload_n 1, 1) := by decide +kernel
theorem d_Nm_as_2 : decode prog_1_method_14_code 2 = .ok (.invokevirtual 79, 3) := by decide +kernel
theorem d_Nm_as_5 : decode prog_1_method_14_code 5 = .ok (.iload_n 2, 1) := by decide +kernel
theorem d_Nm_as_6 : decode prog_1_method_14_code 6 = .ok (.invokestatic 169, 3) := by decide +kernel
theorem d_Nm_as_9 : decode prog_1_method_14_code 9 = .ok (.aload_n 0, 1) := by decide +kernel
theorem d_Nm_as_10 : decode prog_1_method_14_code 10 = .ok (.iload_n 1, 1) := by decide +kernel
theorem d_Nm_as_11 : decode prog_1_method_14_code 11 = .ok (.iload_n 2, 1) := by decide +kernel
theorem d_Nm_as_12 : decode prog_1_method_14_code 12 = .ok (.invokevirtual 137, 3) := by decide +kernel
theorem d_Nm_as_15 : decode prog_1_method_14_code 15 = .ok (.invokestatic 192, 3) := by decide +kernel
theorem d_Nm_as_18 : decode prog_1_method_14_code 18 = .ok (.ireturn, 1) := by decide +kernel
set_option maxHeartbeats 4000000 in
set_option maxRecDepth 100000 in
theorem c_Nm_as (l : Launch) (D : va_G) (cs : Nat → ClassId) (N0 : Nat) (H : Heap) (hl9 : l.stackTraces = false) (o z : Nat → Nat → Nat) (K : Nat → Nat → Nat → Int32) (r : Nat → Nat × Nat) (q day : Int32) (hI : nmP D cs N0 H o z K r) : tMet l y_Nm_as w_Nm_as ({ frames := 7, cells := 2, slots := 12, locals := 103 }) (hPre D cs N0 [.ref (o 0 0), .int q, .int day] H) (hT (fun v H' => goV (isN (z 3 0) q) (isD day) true = 0 ∧ H' = H ∧ v = some (.int (ntV (owV z K q day)))) (fun E => (E = "java/lang/IndexOutOfBoundsException" ∧ goV (isN (z 3 0) q) (isD day) true = 1) ∨ (E = "java/lang/IllegalArgumentException" ∧ goV (isN (z 3 0) q) (isD day) true = 2)) noA) 2 12 noA := by
  refine tMet.ofW (cc := prog_1_method_14_code) (maxL := 3) (ret := (Option.some Jvm.ClassFile.FieldType.int)) (by decide) rfl ?_
  intro p e s m args below meth c s₁ B hml hno hv
  obtain ⟨rfl, rfl, hB⟩ := hv
  have hx := B.exec
  have hb := B.bytes
  have hr := B.returns
  have hts := atoms_spec (ws := w_Nm_as) B.pre
  have htg : ∀ w ∈ gw, w.before _ s = true := fun w h => hts w (List.mem_cons_of_mem _ h)
  have hown : s.vm.findClass "NameMerges" = some m.cls := findClass_of_methodNamed B.named
  have hlocks := B.notSynchronized
  have hK := hB.1
  obtain ⟨H, hH⟩ : ∃ z : Heap, z = s.heap := ⟨_, rfl⟩
  have hz0 : H.size = s.heap.size := by rw [hH]
  have hN0 := hB.2.1
  rw [← hH] at hI
  have hS : va_S noA s.heap H [] := by rw [hH]; exact va_S.rf
  have hl := lv_entry ([.ref (o 0 0), .int q, .int day]) (n := 3) (Nat.le_of_ble_eq_true rfl)
  rw [lg_entry_eq, ← hH]
  generalize (lg_sl ([.ref (o 0 0), .int q, .int day]) ++ List.replicate (3 - (lg_sl ([.ref (o 0 0), .int q, .int day])).length) Slot.unset).toArray = ls at hl ⊢
  have hl : lv_has ls 3 [(0, .ref (o 0 0)), (1, .int q), (2, .int day)] := hl
  obtain ⟨hb0, hb1, hb3, hb5, hb4, hb6, hb11, hb17⟩ := hI.2.2.1
  refine lv_aload_n hx hb d_Nm_as_0 rfl (lv_at hl 0 rfl) ?_
  refine lv_iload_n hx hb d_Nm_as_1 rfl (lv_at hl 1 rfl) ?_
  refine t_V (As := [.int q]) (rest := []) ⟨hx, hb, hml, hown, htg⟩ (c_Nm_checkName l D cs N0 H hl9 o z K r q hI) ⟨x_cwB 1 htg (gw_mem (i := 738) (by decide +kernel) rfl) (gw_mem (i := 30) (by decide +kernel) rfl) (gw_mem (i := 735) (by decide +kernel) rfl) (by decide +kernel) ⟨Nat.le_of_ble_eq_true rfl, Nat.le_of_ble_eq_true rfl⟩, htg _ (gw_mem (i := 737) (by decide +kernel) rfl), htg _ (gw_mem (i := 11) (by decide +kernel) rfl)⟩ ⟨hPre.blind, hx_recv hK (ci := 1) rfl (show va_at D vwCl (o 0 0, .inr (1, [.ref (o 1 0), .ref (o 3 0), .ref (o 5 0), .ref (o 7 0), .ref (o 8 0), .int (nI (z 0 0)), .int (K 0 0 0), .ref (o 9 0)])) H from hI.at (k := 0) (n := 0) (show nmv z 0 0 from rfl)), hPre.at hB hS noA_in⟩ rfl hl.1 rfl (lv_room (Nat.le_of_ble_eq_true rfl)) d_Nm_as_2 ⟨Nat.le_of_ble_eq_true rfl, Nat.le_of_ble_eq_true rfl⟩ (fun x9 E9 ce9 H9 L9 hL9 hb9 hc9 hv9 hf9 hz9 hk9 => ?_) (fun v9 H9 L9 hL9 hp9 hz9 hk9 => ?_)
  · have hn9 := noL hL9
    subst hn9
    have hnil := noL hS.2.2
    first | subst hnil | skip
    exact t_out (A := noA) rfl hno hlocks ((Or.inl ⟨hb9.1, by simp [goV, hb9.2]⟩)) hc9 hv9 hf9 (Nat.le_of_ble_eq_true rfl) (Nat.le_of_ble_eq_true rfl)
  · skip
    obtain ⟨hv9, hH9, hq1⟩ := hp9
    have hn8 := noL hL9
    subst hn8
    rw [hv9, hH9, List.append_nil]
    refine W.eq (g2 := F0 m 5 ls []) rfl ?_
    obtain ⟨j_q, hj_q, e_q⟩ := isN_of hq1 (by omega)
    rw [e_q] at hq1
    refine lv_iload_n hx hb d_Nm_as_5 rfl (lv_at hl 2 rfl) ?_
    refine t_S (As := [.int day]) (rest := []) ⟨hx, hb, hml, hown, htg⟩ (c_Nm_checkDay l D cs N0 H hl9 day) ⟨x_cwB 1 htg (gw_mem (i := 760) (by decide +kernel) rfl) (gw_mem (i := 30) (by decide +kernel) rfl) (gw_mem (i := 758) (by decide +kernel) rfl) (by decide +kernel) ⟨Nat.le_of_ble_eq_true rfl, Nat.le_of_ble_eq_true rfl⟩, htg _ (gw_mem (i := 759) (by decide +kernel) rfl)⟩ ⟨hPre.blind, hPre.at hB hS noA_in⟩ rfl hl.1 rfl (lv_room (Nat.le_of_ble_eq_true rfl)) d_Nm_as_6 ⟨Nat.le_of_ble_eq_true rfl, Nat.le_of_ble_eq_true rfl⟩ (fun x9 E9 ce9 H9 L9 hL9 hb9 hc9 hv9 hf9 hz9 hk9 => ?_) (fun v9 H9 L9 hL9 hp9 hz9 hk9 => ?_)
    · have hn9 := noL hL9
      subst hn9
      have hnil := noL hS.2.2
      first | subst hnil | skip
      exact t_out (A := noA) rfl hno hlocks ((Or.inr (⟨hb9.1, by simp [goV, e_q, hq1, hb9.2]⟩))) hc9 hv9 hf9 (Nat.le_of_ble_eq_true rfl) (Nat.le_of_ble_eq_true rfl)
    · skip
      obtain ⟨hv9, hH9, hq2⟩ := hp9
      have hn8 := noL hL9
      subst hn8
      rw [hv9, hH9, List.append_nil]
      refine W.eq (g2 := F0 m 9 ls []) rfl ?_
      refine lv_aload_n hx hb d_Nm_as_9 rfl (lv_at hl 0 rfl) ?_
      refine lv_iload_n hx hb d_Nm_as_10 rfl (lv_at hl 1 rfl) ?_
      refine lv_eqi (y := (nI j_q)) e_q ?_
      refine lv_iload_n hx hb d_Nm_as_11 rfl (lv_at hl 2 rfl) ?_
      refine h_purei (va_runV (As := [.int (nI j_q), .int day]) (rest := []) ⟨hx, hb, hml, hown, htg⟩ (c_Nm_oneWith l D cs N0 H o z K r (nI j_q) day hI) ⟨x_cwB 2 htg (gw_mem (i := 508) (by decide +kernel) rfl) (gw_mem (i := 30) (by decide +kernel) rfl) (gw_mem (i := 505) (by decide +kernel) rfl) (by decide +kernel) ⟨Nat.le_of_ble_eq_true rfl, Nat.le_of_ble_eq_true rfl⟩, htg _ (gw_mem (i := 507) (by decide +kernel) rfl), htg _ (gw_mem (i := 1) (by decide +kernel) rfl)⟩ ⟨hPre.blind, hx_recv hK (ci := 1) rfl (show va_at D vwCl (o 0 0, .inr (1, [.ref (o 1 0), .ref (o 3 0), .ref (o 5 0), .ref (o 7 0), .ref (o 8 0), .int (nI (z 0 0)), .int (K 0 0 0), .ref (o 9 0)])) H from hI.at (k := 0) (n := 0) (show nmv z 0 0 from rfl)), hPre.at hB hS noA_in⟩ rfl rfl hl.1 rfl (lv_room (Nat.le_of_ble_eq_true rfl)) d_Nm_as_12 ⟨Nat.le_of_ble_eq_true rfl, Nat.le_of_ble_eq_true rfl⟩) hS (fun locs hS => ?_)
      refine h_purei (va_runS (As := [.int (owV z K (nI j_q) day)]) (rest := []) ⟨hx, hb, hml, hown, htg⟩ (c_In_ntz l D cs N0 H ((owV z K (nI j_q) day))) ⟨x_cwB 1 htg (gw_mem (i := 889) (by decide +kernel) rfl) (gw_mem (i := 52) (by decide +kernel) rfl) (gw_mem (i := 887) (by decide +kernel) rfl) (by decide +kernel) ⟨Nat.le_of_ble_eq_true rfl, Nat.le_of_ble_eq_true rfl⟩, htg _ (gw_mem (i := 888) (by decide +kernel) rfl)⟩ ⟨hPre.blind, hPre.at hB hS noA_in⟩ rfl rfl hl.1 rfl (lv_room (Nat.le_of_ble_eq_true rfl)) d_Nm_as_15 ⟨Nat.le_of_ble_eq_true rfl, Nat.le_of_ble_eq_true rfl⟩) hS (fun locs hS => ?_)
      refine t_ret ?_
      exact W.iret (v := (ntV ((owV z K (nI j_q) day)))) hx hb hr (fun t ht hW => Or.inl ⟨some (.int ((ntV ((owV z K (nI j_q) day))))), rfl, (by rw [ht]; exact ⟨(by simp [goV, e_q, hq1, hq2]), rfl, by simp only [e_q, tnI (j := j_q) (by omega)]⟩), hS.F ht⟩) hS.2.2 d_Nm_as_18
def y_Nm_whose : MethodName := ⟨"NameMerges", "whose", "(II)I"⟩
abbrev w_Nm_whose : List Cond := Cond.code y_Nm_whose prog_1_method_20_code 3 (Option.some Jvm.ClassFile.FieldType.int) :: gw
theorem d_Nm_whose_0 : decode prog_1_method_20_code 0 = .ok (.iload_n 1, 1) := by decide +kernel
theorem d_Nm_whose_1 : decode prog_1_method_20_code 1 = .ok (.invokestatic 216, 3) := by decide +kernel
theorem d_Nm_whose_4 : decode prog_1_method_20_code 4 = .ok (.aload_n 0, 1) := by decide +kernel
theorem d_Nm_whose_5 : decode prog_1_method_20_code 5 = .ok (.iload_n 1, 1) := by decide +kernel
theorem d_Nm_whose_6 : decode prog_1_method_20_code 6 = .ok (.iload_n 2, 1) := by decide +kernel
theorem d_Nm_whose_7 : decode prog_1_method_20_code 7 = .ok (.invokevirtual 225, 3) := by decide +kernel
theorem d_Nm_whose_10 : decode prog_1_method_20_code 10 = .ok (.ireturn, 1) := by decide +kernel
set_option maxHeartbeats 4000000 in
set_option maxRecDepth 100000 in
theorem c_Nm_whose (l : Launch) (D : va_G) (cs : Nat → ClassId) (N0 : Nat) (H : Heap) (hl9 : l.stackTraces = false) (o z : Nat → Nat → Nat) (K : Nat → Nat → Nat → Int32) (r : Nat → Nat × Nat) (st q : Int32) (hI : nmP D cs N0 H o z K r) : tMet l y_Nm_whose w_Nm_whose ({ frames := 7, cells := 1, slots := 6, locals := 102 }) (hPre D cs N0 [.ref (o 0 0), .int st, .int q] H) (hT (fun v H' => goV (isSt st) true true = 0 ∧ H' = H ∧ v = some (.int (ownV z K (tn st) q))) (fun E => (E = "java/lang/IndexOutOfBoundsException" ∧ goV (isSt st) true true = 1)) noA) 1 6 noA := by
  refine tMet.ofW (cc := prog_1_method_20_code) (maxL := 3) (ret := (Option.some Jvm.ClassFile.FieldType.int)) (by decide) rfl ?_
  intro p e s m args below meth c s₁ B hml hno hv
  obtain ⟨rfl, rfl, hB⟩ := hv
  have hx := B.exec
  have hb := B.bytes
  have hr := B.returns
  have hts := atoms_spec (ws := w_Nm_whose) B.pre
  have htg : ∀ w ∈ gw, w.before _ s = true := fun w h => hts w (List.mem_cons_of_mem _ h)
  have hown : s.vm.findClass "NameMerges" = some m.cls := findClass_of_methodNamed B.named
  have hlocks := B.notSynchronized
  have hK := hB.1
  obtain ⟨H, hH⟩ : ∃ z : Heap, z = s.heap := ⟨_, rfl⟩
  have hz0 : H.size = s.heap.size := by rw [hH]
  have hN0 := hB.2.1
  rw [← hH] at hI
  have hS : va_S noA s.heap H [] := by rw [hH]; exact va_S.rf
  have hl := lv_entry ([.ref (o 0 0), .int st, .int q]) (n := 3) (Nat.le_of_ble_eq_true rfl)
  rw [lg_entry_eq, ← hH]
  generalize (lg_sl ([.ref (o 0 0), .int st, .int q]) ++ List.replicate (3 - (lg_sl ([.ref (o 0 0), .int st, .int q])).length) Slot.unset).toArray = ls at hl ⊢
  have hl : lv_has ls 3 [(0, .ref (o 0 0)), (1, .int st), (2, .int q)] := hl
  obtain ⟨hb0, hb1, hb3, hb5, hb4, hb6, hb11, hb17⟩ := hI.2.2.1
  refine lv_iload_n hx hb d_Nm_whose_0 rfl (lv_at hl 1 rfl) ?_
  refine t_S (As := [.int st]) (rest := []) ⟨hx, hb, hml, hown, htg⟩ (c_Nm_checkSet l D cs N0 H hl9 st) ⟨x_cwB 1 htg (gw_mem (i := 954) (by decide +kernel) rfl) (gw_mem (i := 30) (by decide +kernel) rfl) (gw_mem (i := 952) (by decide +kernel) rfl) (by decide +kernel) ⟨Nat.le_of_ble_eq_true rfl, Nat.le_of_ble_eq_true rfl⟩, htg _ (gw_mem (i := 953) (by decide +kernel) rfl)⟩ ⟨hPre.blind, hPre.at hB hS noA_in⟩ rfl hl.1 rfl (lv_room (Nat.le_of_ble_eq_true rfl)) d_Nm_whose_1 ⟨Nat.le_of_ble_eq_true rfl, Nat.le_of_ble_eq_true rfl⟩ (fun x9 E9 ce9 H9 L9 hL9 hb9 hc9 hv9 hf9 hz9 hk9 => ?_) (fun v9 H9 L9 hL9 hp9 hz9 hk9 => ?_)
  · have hn9 := noL hL9
    subst hn9
    have hnil := noL hS.2.2
    first | subst hnil | skip
    exact t_out (A := noA) rfl hno hlocks ((⟨hb9.1, by simp [goV, hb9.2]⟩)) hc9 hv9 hf9 (Nat.le_of_ble_eq_true rfl) (Nat.le_of_ble_eq_true rfl)
  · skip
    obtain ⟨hv9, hH9, hq1⟩ := hp9
    have hn8 := noL hL9
    subst hn8
    rw [hv9, hH9, List.append_nil]
    refine W.eq (g2 := F0 m 4 ls []) rfl ?_
    obtain ⟨j_st, hj_st, e_st⟩ := isSt_of hq1
    rw [e_st] at hq1
    refine lv_aload_n hx hb d_Nm_whose_4 rfl (lv_at hl 0 rfl) ?_
    refine lv_iload_n hx hb d_Nm_whose_5 rfl (lv_at hl 1 rfl) ?_
    refine lv_eqi (y := (nI j_st)) e_st ?_
    refine lv_iload_n hx hb d_Nm_whose_6 rfl (lv_at hl 2 rfl) ?_
    refine h_purei (va_runV (As := [.int (nI j_st), .int q]) (rest := []) ⟨hx, hb, hml, hown, htg⟩ (c_Nm_ownerOf l D cs N0 H o z K r j_st q hI (by omega)) ⟨x_cwB 2 htg (gw_mem (i := 964) (by decide +kernel) rfl) (gw_mem (i := 30) (by decide +kernel) rfl) (gw_mem (i := 961) (by decide +kernel) rfl) (by decide +kernel) ⟨Nat.le_of_ble_eq_true rfl, Nat.le_of_ble_eq_true rfl⟩, htg _ (gw_mem (i := 963) (by decide +kernel) rfl), htg _ (gw_mem (i := 14) (by decide +kernel) rfl)⟩ ⟨hPre.blind, hx_recv hK (ci := 1) rfl (show va_at D vwCl (o 0 0, .inr (1, [.ref (o 1 0), .ref (o 3 0), .ref (o 5 0), .ref (o 7 0), .ref (o 8 0), .int (nI (z 0 0)), .int (K 0 0 0), .ref (o 9 0)])) H from hI.at (k := 0) (n := 0) (show nmv z 0 0 from rfl)), hPre.at hB hS noA_in⟩ rfl rfl hl.1 rfl (lv_room (Nat.le_of_ble_eq_true rfl)) d_Nm_whose_7 ⟨Nat.le_of_ble_eq_true rfl, Nat.le_of_ble_eq_true rfl⟩) hS (fun locs hS => ?_)
    refine t_ret ?_
    exact W.iret (v := (ownV z K j_st q)) hx hb hr (fun t ht hW => Or.inl ⟨some (.int ((ownV z K j_st q))), rfl, (by rw [ht]; exact ⟨(by simp [goV, e_st, hq1]), rfl, by simp only [e_st, tnI (j := j_st) (by omega)]⟩), hS.F ht⟩) hS.2.2 d_Nm_whose_10
def cntC (z : Nat → Nat → Nat) (K : Nat → Nat → Nat → Int32) (w : Int32) : Int32 := if w = 0 then nI (z 1 0) else if w = 1 then nI (z 3 0) else if w = 2 then upt (cvS z) (z 3 0) 0 else if w = 3 then nI (z 5 0) else if w = 4 then upt (cdS K) 576 0 else upt (cbS K) (z 3 0) 0
def y_Nm_count : MethodName := ⟨"NameMerges", "count", "(I)I"⟩
abbrev w_Nm_count : List Cond := Cond.code y_Nm_count prog_1_method_21_code 2 (Option.some Jvm.ClassFile.FieldType.int) :: gw
theorem d_Nm_count_0 : decode prog_1_method_21_code 0 = .ok (.iload_n 1, 1) := by decide +kernel
theorem d_Nm_count_1 : decode prog_1_method_21_code 1 = .ok (.tableswitch 78 0 5 #[39, 47, 55, 60, 68, 73], 39) := by decide +kernel
theorem d_Nm_count_40 : decode prog_1_method_21_code 40 = .ok (.aload_n 0, 1) := by decide +kernel
theorem d_Nm_count_41 : decode prog_1_method_21_code 41 = .ok (.getfield 12, 3) := by decide +kernel
theorem d_Nm_count_44 : decode prog_1_method_21_code 44 = .ok (.invokevirtual 43, 3) := by decide +kernel
theorem d_Nm_count_47 : decode prog_1_method_21_code 47 = .ok (.ireturn, 1) := by decide +kernel
theorem d_Nm_count_48 : decode prog_1_method_21_code 48 = .ok (.aload_n 0, 1) := by decide +kernel
theorem d_Nm_count_49 : decode prog_1_method_21_code 49 = .ok (.getfield 19, 3) := by decide +kernel
theorem d_Nm_count_52 : decode prog_1_method_21_code 52 = .ok (.invokevirtual 67, 3) := by decide +kernel
theorem d_Nm_count_55 : decode prog_1_method_21_code 55 = .ok (.ireturn, 1) := by decide +kernel
theorem d_Nm_count_56 : decode prog_1_method_21_code 56 = .ok (.aload_n 0, 1) := by decide +kernel
theorem d_Nm_count_57 : decode prog_1_method_21_code 57 = .ok (.invokevirtual 231, 3) := by decide +kernel
theorem d_Nm_count_60 : decode prog_1_method_21_code 60 = .ok (.ireturn, 1) := by decide +kernel
theorem d_Nm_count_61 : decode prog_1_method_21_code 61 = .ok (.aload_n 0, 1) := by decide +kernel
theorem d_Nm_count_62 : decode prog_1_method_21_code 62 = .ok (.getfield 23, 3) := by decide +kernel
theorem d_Nm_count_65 : decode prog_1_method_21_code 65 = .ok (.invokevirtual 67, 3) := by decide +kernel
theorem d_Nm_count_68 : decode prog_1_method_21_code 68 = .ok (.ireturn, 1) := by decide +kernel
theorem d_Nm_count_69 : decode prog_1_method_21_code 69 = .ok (.aload_n 0, 1) := by decide +kernel
theorem d_Nm_count_70 : decode prog_1_method_21_code 70 = .ok (.invokevirtual 234, 3) := by decide +kernel
theorem d_Nm_count_73 : decode prog_1_method_21_code 73 = .ok (.ireturn, 1) := by decide +kernel
theorem d_Nm_count_74 : decode prog_1_method_21_code 74 = .ok (.aload_n 0, 1) := by decide +kernel
theorem d_Nm_count_75 : decode prog_1_method_21_code 75 = .ok (.invokevirtual 237, 3) := by decide +kernel
theorem d_Nm_count_78 : decode prog_1_method_21_code 78 = .ok (.ireturn, 1) := by decide +kernel
theorem d_Nm_count_79 : decode prog_1_method_21_code 79 = .ok (.new 151, 3) := by decide +kernel
theorem d_Nm_count_82 : decode prog_1_method_21_code 82 = .ok (.dup, 1) := by decide +kernel
theorem d_Nm_count_83 : decode prog_1_method_21_code 83 = .ok (.ldc 240, 2) := by decide +kernel
theorem d_Nm_count_85 : decode prog_1_method_21_code 85 = .ok (.invokespecial 155, 3) := by decide +kernel
theorem d_Nm_count_88 : decode prog_1_method_21_code 88 = .ok (.athrow, 1) := by decide +kernel
set_option maxHeartbeats 4000000 in
set_option maxRecDepth 100000 in
theorem c_Nm_count (l : Launch) (D : va_G) (cs : Nat → ClassId) (N0 : Nat) (H : Heap) (hl9 : l.stackTraces = false) (o z : Nat → Nat → Nat) (K : Nat → Nat → Nat → Int32) (r : Nat → Nat × Nat) (q : Int32) (hI : nmP D cs N0 H o z K r) : tMet l y_Nm_count w_Nm_count ({ frames := 6, cells := 1, slots := 6, locals := 86 }) (hPre D cs N0 [.ref (o 0 0), .int q] H) (hT (fun v H' => goV (!decide (q < 0) && !decide (5 < q)) true true = 0 ∧ H' = H ∧ v = some (.int (cntC z K q))) (fun E => (E = "java/lang/IndexOutOfBoundsException" ∧ goV (!decide (q < 0) && !decide (5 < q)) true true = 1)) noA) 1 6 noA := by
  refine tMet.ofW (cc := prog_1_method_21_code) (maxL := 2) (ret := (Option.some Jvm.ClassFile.FieldType.int)) (by decide) rfl ?_
  intro p e s m args below meth c s₁ B hml hno hv
  obtain ⟨rfl, rfl, hB⟩ := hv
  have hx := B.exec
  have hb := B.bytes
  have hr := B.returns
  have hts := atoms_spec (ws := w_Nm_count) B.pre
  have htg : ∀ w ∈ gw, w.before _ s = true := fun w h => hts w (List.mem_cons_of_mem _ h)
  have hown : s.vm.findClass "NameMerges" = some m.cls := findClass_of_methodNamed B.named
  have hlocks := B.notSynchronized
  have hK := hB.1
  obtain ⟨H, hH⟩ : ∃ z : Heap, z = s.heap := ⟨_, rfl⟩
  have hz0 : H.size = s.heap.size := by rw [hH]
  have hN0 := hB.2.1
  rw [← hH] at hI
  have hS : va_S noA s.heap H [] := by rw [hH]; exact va_S.rf
  have hl := lv_entry ([.ref (o 0 0), .int q]) (n := 2) (Nat.le_of_ble_eq_true rfl)
  rw [lg_entry_eq, ← hH]
  generalize (lg_sl ([.ref (o 0 0), .int q]) ++ List.replicate (2 - (lg_sl ([.ref (o 0 0), .int q])).length) Slot.unset).toArray = ls at hl ⊢
  have hl : lv_has ls 2 [(0, .ref (o 0 0)), (1, .int q)] := hl
  obtain ⟨hb0, hb1, hb3, hb5, hb4, hb6, hb11, hb17⟩ := hI.2.2.1
  refine lv_iload_n hx hb d_Nm_count_0 rfl (lv_at hl 1 rfl) ?_
  by_cases q1_0 : q = 0
  · subst q1_0
    refine lv_tableIn (off := 39) (tgt := 40) hx hb d_Nm_count_1 (by decide) (by decide) (by decide) (by decide) ?_
    refine lv_aload_n hx hb d_Nm_count_40 rfl (lv_at hl 0 rfl) ?_
    refine hx_get (ref := "NameMerges") (v := .ref (o 1 0)) hx hb htg iNm hown hK (show va_at D vwCl (o 0 0, .inr (1, [.ref (o 1 0), .ref (o 3 0), .ref (o 5 0), .ref (o 7 0), .ref (o 8 0), .int (nI (z 0 0)), .int (K 0 0 0), .ref (o 9 0)])) H from hI.at (k := 0) (n := 0) (show nmv z 0 0 from rfl)) rfl 0 (by decide) (htg _ (gw_mem (i := 126) (by decide +kernel) rfl)) (fun _ h9 => h9) rfl d_Nm_count_41 ?_
    refine h_purei (va_runV (As := []) (rest := []) ⟨hx, hb, hml, hown, htg⟩ (c_SB_length l D cs N0 H (o 1 0) (o 2 0) (z 1 0) (K 1 0 0) (show va_at D vwCl (o 1 0, .inr (7, [.ref (o 2 0), .int 0, .int (K 1 0 0), .int (nI (z 1 0))])) H from hI.at (k := 1) (n := 0) (show nmv z 1 0 from rfl))) ⟨x_cwB 0 htg (gw_mem (i := 159) (by decide +kernel) rfl) (gw_mem (i := 32) (by decide +kernel) rfl) (gw_mem (i := 156) (by decide +kernel) rfl) (by decide +kernel) ⟨Nat.le_of_ble_eq_true rfl, Nat.le_of_ble_eq_true rfl⟩, htg _ (gw_mem (i := 157) (by decide +kernel) rfl), htg _ (gw_mem (i := 158) (by decide +kernel) rfl)⟩ ⟨hPre.blind, hx_recv hK (ci := 7) rfl (show va_at D vwCl (o 1 0, .inr (7, [.ref (o 2 0), .int 0, .int (K 1 0 0), .int (nI (z 1 0))])) H from hI.at (k := 1) (n := 0) (show nmv z 1 0 from rfl)), hPre.at hB hS noA_in⟩ rfl rfl hl.1 rfl (lv_room (Nat.le_of_ble_eq_true rfl)) d_Nm_count_44 ⟨Nat.le_of_ble_eq_true rfl, Nat.le_of_ble_eq_true rfl⟩) hS (fun locs hS => ?_)
    refine t_ret ?_
    refine W.widen (k := 1) (n := 6) (Nat.le_of_ble_eq_true rfl) (Nat.le_of_ble_eq_true rfl) ?_
    exact W.iret (v := (nI (z 1 0))) hx hb hr (fun t ht hW => Or.inl ⟨some (.int ((nI (z 1 0)))), rfl, (by rw [ht]; exact ⟨by decide, rfl, rfl⟩), hS.F ht⟩) hS.2.2 d_Nm_count_47
  by_cases q1_1 : q = 1
  · subst q1_1
    refine lv_tableIn (off := 47) (tgt := 48) hx hb d_Nm_count_1 (by decide) (by decide) (by decide) (by decide) ?_
    refine lv_aload_n hx hb d_Nm_count_48 rfl (lv_at hl 0 rfl) ?_
    refine hx_get (ref := "NameMerges") (v := .ref (o 3 0)) hx hb htg iNm hown hK (show va_at D vwCl (o 0 0, .inr (1, [.ref (o 1 0), .ref (o 3 0), .ref (o 5 0), .ref (o 7 0), .ref (o 8 0), .int (nI (z 0 0)), .int (K 0 0 0), .ref (o 9 0)])) H from hI.at (k := 0) (n := 0) (show nmv z 0 0 from rfl)) rfl 1 (by decide) (htg _ (gw_mem (i := 127) (by decide +kernel) rfl)) (fun _ h9 => h9) rfl d_Nm_count_49 ?_
    refine h_purei (va_runV (As := []) (rest := []) ⟨hx, hb, hml, hown, htg⟩ (c_AL_size l D cs N0 H (o 3 0) (nmL cs (z 3 0) (o 4 0)) (z 3 0) (K 3 0 0) (show va_at D vwCl (o 3 0, .inr (6, [.ref (nmL cs (z 3 0) (o 4 0)), .int (nI (z 3 0)), .int (K 3 0 0)])) H from hI.at (k := 3) (n := 0) (show nmv z 3 0 from rfl))) ⟨x_cwB 0 htg (gw_mem (i := 503) (by decide +kernel) rfl) (gw_mem (i := 37) (by decide +kernel) rfl) (gw_mem (i := 500) (by decide +kernel) rfl) (by decide +kernel) ⟨Nat.le_of_ble_eq_true rfl, Nat.le_of_ble_eq_true rfl⟩, htg _ (gw_mem (i := 501) (by decide +kernel) rfl), htg _ (gw_mem (i := 502) (by decide +kernel) rfl)⟩ ⟨hPre.blind, hx_recv hK (ci := 6) rfl (show va_at D vwCl (o 3 0, .inr (6, [.ref (nmL cs (z 3 0) (o 4 0)), .int (nI (z 3 0)), .int (K 3 0 0)])) H from hI.at (k := 3) (n := 0) (show nmv z 3 0 from rfl)), hPre.at hB hS noA_in⟩ rfl rfl hl.1 rfl (lv_room (Nat.le_of_ble_eq_true rfl)) d_Nm_count_52 ⟨Nat.le_of_ble_eq_true rfl, Nat.le_of_ble_eq_true rfl⟩) hS (fun locs hS => ?_)
    refine t_ret ?_
    refine W.widen (k := 1) (n := 6) (Nat.le_of_ble_eq_true rfl) (Nat.le_of_ble_eq_true rfl) ?_
    exact W.iret (v := (nI (z 3 0))) hx hb hr (fun t ht hW => Or.inl ⟨some (.int ((nI (z 3 0)))), rfl, (by rw [ht]; exact ⟨by decide, rfl, rfl⟩), hS.F ht⟩) hS.2.2 d_Nm_count_55
  by_cases q1_2 : q = 2
  · subst q1_2
    refine lv_tableIn (off := 55) (tgt := 56) hx hb d_Nm_count_1 (by decide) (by decide) (by decide) (by decide) ?_
    refine lv_aload_n hx hb d_Nm_count_56 rfl (lv_at hl 0 rfl) ?_
    refine h_purei (va_runV (As := []) (rest := []) ⟨hx, hb, hml, hown, htg⟩ (c_Nm_countVariants l D cs N0 H o z K r hI) ⟨x_cwB 0 htg (gw_mem (i := 982) (by decide +kernel) rfl) (gw_mem (i := 30) (by decide +kernel) rfl) (gw_mem (i := 979) (by decide +kernel) rfl) (by decide +kernel) ⟨Nat.le_of_ble_eq_true rfl, Nat.le_of_ble_eq_true rfl⟩, htg _ (gw_mem (i := 981) (by decide +kernel) rfl), htg _ (gw_mem (i := 15) (by decide +kernel) rfl)⟩ ⟨hPre.blind, hx_recv hK (ci := 1) rfl (show va_at D vwCl (o 0 0, .inr (1, [.ref (o 1 0), .ref (o 3 0), .ref (o 5 0), .ref (o 7 0), .ref (o 8 0), .int (nI (z 0 0)), .int (K 0 0 0), .ref (o 9 0)])) H from hI.at (k := 0) (n := 0) (show nmv z 0 0 from rfl)), hPre.at hB hS noA_in⟩ rfl rfl hl.1 rfl (lv_room (Nat.le_of_ble_eq_true rfl)) d_Nm_count_57 ⟨Nat.le_of_ble_eq_true rfl, Nat.le_of_ble_eq_true rfl⟩) hS (fun locs hS => ?_)
    refine t_ret ?_
    refine W.widen (k := 1) (n := 6) (Nat.le_of_ble_eq_true rfl) (Nat.le_of_ble_eq_true rfl) ?_
    exact W.iret (v := (upt (cvS z) (z 3 0) 0)) hx hb hr (fun t ht hW => Or.inl ⟨some (.int ((upt (cvS z) (z 3 0) 0))), rfl, (by rw [ht]; exact ⟨by decide, rfl, rfl⟩), hS.F ht⟩) hS.2.2 d_Nm_count_60
  by_cases q1_3 : q = 3
  · subst q1_3
    refine lv_tableIn (off := 60) (tgt := 61) hx hb d_Nm_count_1 (by decide) (by decide) (by decide) (by decide) ?_
    refine lv_aload_n hx hb d_Nm_count_61 rfl (lv_at hl 0 rfl) ?_
    refine hx_get (ref := "NameMerges") (v := .ref (o 5 0)) hx hb htg iNm hown hK (show va_at D vwCl (o 0 0, .inr (1, [.ref (o 1 0), .ref (o 3 0), .ref (o 5 0), .ref (o 7 0), .ref (o 8 0), .int (nI (z 0 0)), .int (K 0 0 0), .ref (o 9 0)])) H from hI.at (k := 0) (n := 0) (show nmv z 0 0 from rfl)) rfl 2 (by decide) (htg _ (gw_mem (i := 128) (by decide +kernel) rfl)) (fun _ h9 => h9) rfl d_Nm_count_62 ?_
    refine h_purei (va_runV (As := []) (rest := []) ⟨hx, hb, hml, hown, htg⟩ (c_AL_size l D cs N0 H (o 5 0) (nmL cs (z 5 0) (o 6 0)) (z 5 0) (K 5 0 0) (show va_at D vwCl (o 5 0, .inr (6, [.ref (nmL cs (z 5 0) (o 6 0)), .int (nI (z 5 0)), .int (K 5 0 0)])) H from hI.at (k := 5) (n := 0) (show nmv z 5 0 from rfl))) ⟨x_cwB 0 htg (gw_mem (i := 503) (by decide +kernel) rfl) (gw_mem (i := 37) (by decide +kernel) rfl) (gw_mem (i := 500) (by decide +kernel) rfl) (by decide +kernel) ⟨Nat.le_of_ble_eq_true rfl, Nat.le_of_ble_eq_true rfl⟩, htg _ (gw_mem (i := 501) (by decide +kernel) rfl), htg _ (gw_mem (i := 502) (by decide +kernel) rfl)⟩ ⟨hPre.blind, hx_recv hK (ci := 6) rfl (show va_at D vwCl (o 5 0, .inr (6, [.ref (nmL cs (z 5 0) (o 6 0)), .int (nI (z 5 0)), .int (K 5 0 0)])) H from hI.at (k := 5) (n := 0) (show nmv z 5 0 from rfl)), hPre.at hB hS noA_in⟩ rfl rfl hl.1 rfl (lv_room (Nat.le_of_ble_eq_true rfl)) d_Nm_count_65 ⟨Nat.le_of_ble_eq_true rfl, Nat.le_of_ble_eq_true rfl⟩) hS (fun locs hS => ?_)
    refine t_ret ?_
    refine W.widen (k := 1) (n := 6) (Nat.le_of_ble_eq_true rfl) (Nat.le_of_ble_eq_true rfl) ?_
    exact W.iret (v := (nI (z 5 0))) hx hb hr (fun t ht hW => Or.inl ⟨some (.int ((nI (z 5 0)))), rfl, (by rw [ht]; exact ⟨by decide, rfl, rfl⟩), hS.F ht⟩) hS.2.2 d_Nm_count_68
  by_cases q1_4 : q = 4
  · subst q1_4
    refine lv_tableIn (off := 68) (tgt := 69) hx hb d_Nm_count_1 (by decide) (by decide) (by decide) (by decide) ?_
    refine lv_aload_n hx hb d_Nm_count_69 rfl (lv_at hl 0 rfl) ?_
    refine h_purei (va_runV (As := []) (rest := []) ⟨hx, hb, hml, hown, htg⟩ (c_Nm_countDecided l D cs N0 H o z K r hI) ⟨x_cwB 0 htg (gw_mem (i := 986) (by decide +kernel) rfl) (gw_mem (i := 30) (by decide +kernel) rfl) (gw_mem (i := 983) (by decide +kernel) rfl) (by decide +kernel) ⟨Nat.le_of_ble_eq_true rfl, Nat.le_of_ble_eq_true rfl⟩, htg _ (gw_mem (i := 985) (by decide +kernel) rfl), htg _ (gw_mem (i := 16) (by decide +kernel) rfl)⟩ ⟨hPre.blind, hx_recv hK (ci := 1) rfl (show va_at D vwCl (o 0 0, .inr (1, [.ref (o 1 0), .ref (o 3 0), .ref (o 5 0), .ref (o 7 0), .ref (o 8 0), .int (nI (z 0 0)), .int (K 0 0 0), .ref (o 9 0)])) H from hI.at (k := 0) (n := 0) (show nmv z 0 0 from rfl)), hPre.at hB hS noA_in⟩ rfl rfl hl.1 rfl (lv_room (Nat.le_of_ble_eq_true rfl)) d_Nm_count_70 ⟨Nat.le_of_ble_eq_true rfl, Nat.le_of_ble_eq_true rfl⟩) hS (fun locs hS => ?_)
    refine t_ret ?_
    refine W.widen (k := 1) (n := 6) (Nat.le_of_ble_eq_true rfl) (Nat.le_of_ble_eq_true rfl) ?_
    exact W.iret (v := (upt (cdS K) 576 0)) hx hb hr (fun t ht hW => Or.inl ⟨some (.int ((upt (cdS K) 576 0))), rfl, (by rw [ht]; exact ⟨by decide, rfl, rfl⟩), hS.F ht⟩) hS.2.2 d_Nm_count_73
  by_cases q1_5 : q = 5
  · subst q1_5
    refine lv_tableIn (off := 73) (tgt := 74) hx hb d_Nm_count_1 (by decide) (by decide) (by decide) (by decide) ?_
    refine lv_aload_n hx hb d_Nm_count_74 rfl (lv_at hl 0 rfl) ?_
    refine h_purei (va_runV (As := []) (rest := []) ⟨hx, hb, hml, hown, htg⟩ (c_Nm_countBroader l D cs N0 H o z K r hI) ⟨x_cwB 0 htg (gw_mem (i := 990) (by decide +kernel) rfl) (gw_mem (i := 30) (by decide +kernel) rfl) (gw_mem (i := 987) (by decide +kernel) rfl) (by decide +kernel) ⟨Nat.le_of_ble_eq_true rfl, Nat.le_of_ble_eq_true rfl⟩, htg _ (gw_mem (i := 989) (by decide +kernel) rfl), htg _ (gw_mem (i := 17) (by decide +kernel) rfl)⟩ ⟨hPre.blind, hx_recv hK (ci := 1) rfl (show va_at D vwCl (o 0 0, .inr (1, [.ref (o 1 0), .ref (o 3 0), .ref (o 5 0), .ref (o 7 0), .ref (o 8 0), .int (nI (z 0 0)), .int (K 0 0 0), .ref (o 9 0)])) H from hI.at (k := 0) (n := 0) (show nmv z 0 0 from rfl)), hPre.at hB hS noA_in⟩ rfl rfl hl.1 rfl (lv_room (Nat.le_of_ble_eq_true rfl)) d_Nm_count_75 ⟨Nat.le_of_ble_eq_true rfl, Nat.le_of_ble_eq_true rfl⟩) hS (fun locs hS => ?_)
    refine t_ret ?_
    refine W.widen (k := 1) (n := 6) (Nat.le_of_ble_eq_true rfl) (Nat.le_of_ble_eq_true rfl) ?_
    exact W.iret (v := (upt (cbS K) (z 3 0) 0)) hx hb hr (fun t ht hW => Or.inl ⟨some (.int ((upt (cbS K) (z 3 0) 0))), rfl, (by rw [ht]; exact ⟨by decide, rfl, rfl⟩), hS.F ht⟩) hS.2.2 d_Nm_count_78
  refine lv_tableOut (tgt := 79) hx hb d_Nm_count_1 (x_tab5 q1_0 q1_1 q1_2 q1_3 q1_4 q1_5) (by decide) ?_
  have hnil := noL hS.2.2
  first | subst hnil | skip
  exact t_throw (A := noA) (text := "nothing is counted there") (names := exUp) hx hb hl9 hown (by decide) (by decide) (htg _ (gw_mem (i := 739) (by decide +kernel) rfl)) (htg _ (gw_mem (i := 50) (by decide +kernel) rfl)) (zStr (q := ("NameMerges", 240, "nothing is counted there")) hB (by decide)) (fun a ha => zOk_before htg hB (List.all_eq_true.mp own_iob a ha)) hS.1 (hl.1.trans hml.symm) d_Nm_count_79 d_Nm_count_82 d_Nm_count_83 d_Nm_count_85 d_Nm_count_88 hno (Nat.le_of_ble_eq_true rfl) (Nat.le_of_ble_eq_true rfl) (Nat.le_of_ble_eq_true rfl) (Nat.le_of_ble_eq_true rfl) hlocks ⟨rfl, by rw [x_tab5b (x_tab5 q1_0 q1_1 q1_2 q1_3 q1_4 q1_5)]; rfl⟩ (Nat.le_of_ble_eq_true rfl) (Nat.le_of_ble_eq_true rfl)
def clrS (x : Int32) (_ : Nat) : Int32 := x &&& (x - 1)
def y_Nm_found : MethodName := ⟨"NameMerges", "found", "(I)I"⟩
abbrev w_Nm_found : List Cond := Cond.code y_Nm_found prog_1_method_18_code 4 (Option.some Jvm.ClassFile.FieldType.int) :: gw
theorem d_Nm_found_0 : decode prog_1_method_18_code 0 = .ok (.iload_n 1, 1) := by decide +kernel
theorem d_Nm_found_1 : decode prog_1_method_18_code 1 = .ok (.ifCond .lt 14, 3) := by decide +kernel
theorem d_Nm_found_4 : decode prog_1_method_18_code 4 = .ok (.iload_n 1, 1) := by decide +kernel
theorem d_Nm_found_5 : decode prog_1_method_18_code 5 = .ok (.aload_n 0, 1) := by decide +kernel
theorem d_Nm_found_6 : decode prog_1_method_18_code 6 = .ok (.getfield 37, 3) := by decide +kernel
theorem d_Nm_found_9 : decode prog_1_method_18_code 9 = .ok (.invokestatic 211, 3) := by decide +kernel
theorem d_Nm_found_12 : decode prog_1_method_18_code 12 = .ok (.if_icmp .lt 13, 3) := by decide +kernel
theorem d_Nm_found_15 : decode prog_1_method_18_code 15 = .ok (.new 151, 3) := by decide +kernel
theorem d_Nm_found_18 : decode prog_1_method_18_code 18 = .ok (.dup, 1) := by decide +kernel
theorem d_Nm_found_19 : decode prog_1_method_18_code 19 = .ok (.ldc 214, 2) := by decide +kernel
theorem d_Nm_found_21 : decode prog_1_method_18_code 21 = .ok (.invokespecial 155, 3) := by decide +kernel
theorem d_Nm_found_24 : decode prog_1_method_18_code 24 = .ok (.athrow, 1) := by decide +kernel
theorem d_Nm_found_25 : decode prog_1_method_18_code 25 = .ok (.aload_n 0, 1) := by decide +kernel
theorem d_Nm_found_26 : decode prog_1_method_18_code 26 = .ok (.getfield 37, 3) := by decide +kernel
theorem d_Nm_found_29 : decode prog_1_method_18_code 29 = .ok (.istore_n 2, 1) := by decide +kernel
theorem d_Nm_found_30 : decode prog_1_method_18_code 30 = .ok (.iconst 0, 1) := by decide +kernel
theorem d_Nm_found_31 : decode prog_1_method_18_code 31 = .ok (.istore_n 3, 1) := by decide +kernel
theorem d_Nm_found_32 : decode prog_1_method_18_code 32 = .ok (.iload_n 3, 1) := by decide +kernel
theorem d_Nm_found_33 : decode prog_1_method_18_code 33 = .ok (.iload_n 1, 1) := by decide +kernel
theorem d_Nm_found_34 : decode prog_1_method_18_code 34 = .ok (.if_icmp .ge 15, 3) := by decide +kernel
theorem d_Nm_found_37 : decode prog_1_method_18_code 37 = .ok (.iload_n 2, 1) := by decide +kernel
theorem d_Nm_found_38 : decode prog_1_method_18_code 38 = .ok (.iload_n 2, 1) := by decide +kernel
theorem d_Nm_found_39 : decode prog_1_method_18_code 39 = .ok (.iconst 1, 1) := by decide +kernel
theorem d_Nm_found_40 : decode prog_1_method_18_code 40 = .ok (.isub, 1) := by decide +kernel
theorem d_Nm_found_41 : decode prog_1_method_18_code 41 = .ok (.iand, 1) := by decide +kernel
theorem d_Nm_found_42 : decode prog_1_method_18_code 42 = .ok (.istore_n 2, 1) := by decide +kernel
theorem d_Nm_found_43 : decode prog_1_method_18_code 43 = .ok (.iinc 3 1, 3) := by decide +kernel
theorem d_Nm_found_46 : decode prog_1_method_18_code 46 = .ok (.goto (-14), 3) := by decide +kernel
theorem d_Nm_found_49 : decode prog_1_method_18_code 49 = .ok (.iload_n 2, 1) := by decide +kernel
theorem d_Nm_found_50 : decode prog_1_method_18_code 50 = .ok (.invokestatic 192, 3) := by decide +kernel
theorem d_Nm_found_53 : decode prog_1_method_18_code 53 = .ok (.ireturn, 1) := by decide +kernel
set_option maxHeartbeats 4000000 in
set_option maxRecDepth 100000 in
theorem c_Nm_found (l : Launch) (D : va_G) (cs : Nat → ClassId) (N0 : Nat) (H : Heap) (hl9 : l.stackTraces = false) (o z : Nat → Nat → Nat) (K : Nat → Nat → Nat → Int32) (r : Nat → Nat × Nat) (q : Int32) (hI : nmP D cs N0 H o z K r) : tMet l y_Nm_found w_Nm_found ({ frames := 6, cells := 1, slots := 6, locals := 82 }) (hPre D cs N0 [.ref (o 0 0), .int q] H) (hT (fun v H' => goV (!decide (q < 0) && !decide (bcV (K 0 0 0) ≤ q)) true true = 0 ∧ H' = H ∧ v = some (.int (ntV (upt clrS (tn q) (K 0 0 0))))) (fun E => (E = "java/lang/IndexOutOfBoundsException" ∧ goV (!decide (q < 0) && !decide (bcV (K 0 0 0) ≤ q)) true true = 1)) noA) 1 6 noA := by
  refine tMet.ofW (cc := prog_1_method_18_code) (maxL := 4) (ret := (Option.some Jvm.ClassFile.FieldType.int)) (by decide) rfl ?_
  intro p e s m args below meth c s₁ B hml hno hv
  obtain ⟨rfl, rfl, hB⟩ := hv
  have hx := B.exec
  have hb := B.bytes
  have hr := B.returns
  have hts := atoms_spec (ws := w_Nm_found) B.pre
  have htg : ∀ w ∈ gw, w.before _ s = true := fun w h => hts w (List.mem_cons_of_mem _ h)
  have hown : s.vm.findClass "NameMerges" = some m.cls := findClass_of_methodNamed B.named
  have hlocks := B.notSynchronized
  have hK := hB.1
  obtain ⟨H, hH⟩ : ∃ z : Heap, z = s.heap := ⟨_, rfl⟩
  have hz0 : H.size = s.heap.size := by rw [hH]
  have hN0 := hB.2.1
  rw [← hH] at hI
  have hS : va_S noA s.heap H [] := by rw [hH]; exact va_S.rf
  have hl := lv_entry ([.ref (o 0 0), .int q]) (n := 4) (Nat.le_of_ble_eq_true rfl)
  rw [lg_entry_eq, ← hH]
  generalize (lg_sl ([.ref (o 0 0), .int q]) ++ List.replicate (4 - (lg_sl ([.ref (o 0 0), .int q])).length) Slot.unset).toArray = ls at hl ⊢
  have hl : lv_has ls 4 [(0, .ref (o 0 0)), (1, .int q)] := hl
  obtain ⟨hb0, hb1, hb3, hb5, hb4, hb6, hb11, hb17⟩ := hI.2.2.1
  refine lv_iload_n hx hb d_Nm_found_0 rfl (lv_at hl 1 rfl) ?_
  refine lv_if_lt (x := q) (tgt := 15) hx hb d_Nm_found_1 (by decide) (fun c1 => ?_) (fun c1 => ?_)
  · skip
    have hnil := noL hS.2.2
    first | subst hnil | skip
    exact t_throw (A := noA) (text := "no such name was found") (names := exUp) hx hb hl9 hown (by decide) (by decide) (htg _ (gw_mem (i := 739) (by decide +kernel) rfl)) (htg _ (gw_mem (i := 50) (by decide +kernel) rfl)) (zStr (q := ("NameMerges", 214, "no such name was found")) hB (by decide)) (fun a ha => zOk_before htg hB (List.all_eq_true.mp own_iob a ha)) hS.1 (hl.1.trans hml.symm) d_Nm_found_15 d_Nm_found_18 d_Nm_found_19 d_Nm_found_21 d_Nm_found_24 hno (Nat.le_of_ble_eq_true rfl) (Nat.le_of_ble_eq_true rfl) (Nat.le_of_ble_eq_true rfl) (Nat.le_of_ble_eq_true rfl) hlocks (⟨rfl, by simp [goV, c1, Int32.not_le.mpr c1]⟩) (Nat.le_of_ble_eq_true rfl) (Nat.le_of_ble_eq_true rfl)
  · skip
    refine lv_iload_n hx hb d_Nm_found_4 rfl (lv_at hl 1 rfl) ?_
    refine lv_aload_n hx hb d_Nm_found_5 rfl (lv_at hl 0 rfl) ?_
    refine hx_get (ref := "NameMerges") (v := .int (K 0 0 0)) hx hb htg iNm hown hK (show va_at D vwCl (o 0 0, .inr (1, [.ref (o 1 0), .ref (o 3 0), .ref (o 5 0), .ref (o 7 0), .ref (o 8 0), .int (nI (z 0 0)), .int (K 0 0 0), .ref (o 9 0)])) H from hI.at (k := 0) (n := 0) (show nmv z 0 0 from rfl)) rfl 6 (by decide) (htg _ (gw_mem (i := 132) (by decide +kernel) rfl)) (fun _ h9 => h9) rfl d_Nm_found_6 ?_
    refine h_purei (va_runS (As := [.int (K 0 0 0)]) (rest := [.int q]) ⟨hx, hb, hml, hown, htg⟩ (c_In_bitCount l D cs N0 H (K 0 0 0)) ⟨x_cwB 1 htg (gw_mem (i := 933) (by decide +kernel) rfl) (gw_mem (i := 52) (by decide +kernel) rfl) (gw_mem (i := 931) (by decide +kernel) rfl) (by decide +kernel) ⟨Nat.le_of_ble_eq_true rfl, Nat.le_of_ble_eq_true rfl⟩, htg _ (gw_mem (i := 932) (by decide +kernel) rfl)⟩ ⟨hPre.blind, hPre.at hB hS noA_in⟩ rfl rfl hl.1 rfl (lv_room (Nat.le_of_ble_eq_true rfl)) d_Nm_found_9 ⟨Nat.le_of_ble_eq_true rfl, Nat.le_of_ble_eq_true rfl⟩) hS (fun locs hS => ?_)
    refine lv_icmp_lt (x := q) (y := (bcV (K 0 0 0))) (tgt := 25) hx hb d_Nm_found_12 (by decide) (fun c12 => ?_) (fun c12 => ?_)
    · skip
      refine lv_aload_n hx hb d_Nm_found_25 rfl (lv_at hl 0 rfl) ?_
      refine hx_get (ref := "NameMerges") (v := .int (K 0 0 0)) hx hb htg iNm hown hK (show va_at D vwCl (o 0 0, .inr (1, [.ref (o 1 0), .ref (o 3 0), .ref (o 5 0), .ref (o 7 0), .ref (o 8 0), .int (nI (z 0 0)), .int (K 0 0 0), .ref (o 9 0)])) H from hI.at (k := 0) (n := 0) (show nmv z 0 0 from rfl)) rfl 6 (by decide) (htg _ (gw_mem (i := 132) (by decide +kernel) rfl)) (fun _ h9 => h9) rfl d_Nm_found_26 ?_
      refine lv_istore_n (lv' := [(2, .int (K 0 0 0)), (0, .ref (o 0 0)), (1, .int q)]) hx hb d_Nm_found_29 rfl hl (by decide) rfl (fun ls hl => ?_)
      obtain ⟨j_q, hj_q, e_q⟩ := nI_of c1
      refine lv_iconst (v := 0) hx hb d_Nm_found_30 (by decide) ?_
      refine lv_istore_n (lv' := [(3, .int 0), (2, .int (K 0 0 0)), (0, .ref (o 0 0)), (1, .int q)]) hx hb d_Nm_found_31 rfl hl (by decide) rfl (fun ls hl => ?_)
      have loop32 : ∀ (fuel : Nat) (i : Nat) (rs : Int32), j_q - i < fuel → (i ≤ j_q) → (rs = upt clrS i (K 0 0 0)) → ∀ (locs : List Loc), va_S noA s.heap H locs → ∀ (ls : Array Slot), lv_has ls 4 [(0, .ref (o 0 0)), (1, .int q), (2, .int rs), (3, .int (nI i))] → W p l e (headSpec w_Nm_found ({ frames := 6, cells := 1, slots := 6, locals := 82 })).room s m ([.ref (o 0 0), .int q] : List Value).toArray below meth c H locs 0 0 (tMQ below (hT (fun v H' => goV (!decide (q < 0) && !decide (bcV (K 0 0 0) ≤ q)) true true = 0 ∧ H' = H ∧ v = some (.int (ntV (upt clrS (tn q) (K 0 0 0))))) (fun E => (E = "java/lang/IndexOutOfBoundsException" ∧ goV (!decide (q < 0) && !decide (bcV (K 0 0 0) ≤ q)) true true = 1)) noA) ([.ref (o 0 0), .int q] : List Value).toArray s 1 6 noA) (F0 m 32 ls []) := by
        intro fuel32
        induction fuel32 with
        | zero => intro i rs hn; exact absurd hn (Nat.not_lt_zero _)
        | succ fuel32 ih32 =>
          intro i rs hn32 hi hrs locs hS ls hl
          refine lv_iload_n hx hb d_Nm_found_32 rfl (lv_at hl 3 rfl) ?_
          refine lv_iload_n hx hb d_Nm_found_33 rfl (lv_at hl 1 rfl) ?_
          refine lv_eqi (y := (nI j_q)) e_q ?_
          refine lv_icmp_ge (x := (nI i)) (y := (nI j_q)) (tgt := 49) hx hb d_Nm_found_34 (by decide) (fun c34 => ?_) (fun c34 => ?_)
          · skip
            replace c34 : j_q ≤ i := (nI_leI (a := j_q) (b := i) (by omega) (by omega)).mp c34
            refine lv_iload_n hx hb d_Nm_found_49 rfl (lv_at hl 2 rfl) ?_
            refine h_purei (va_runS (As := [.int rs]) (rest := []) ⟨hx, hb, hml, hown, htg⟩ (c_In_ntz l D cs N0 H rs) ⟨x_cwB 1 htg (gw_mem (i := 889) (by decide +kernel) rfl) (gw_mem (i := 52) (by decide +kernel) rfl) (gw_mem (i := 887) (by decide +kernel) rfl) (by decide +kernel) ⟨Nat.le_of_ble_eq_true rfl, Nat.le_of_ble_eq_true rfl⟩, htg _ (gw_mem (i := 888) (by decide +kernel) rfl)⟩ ⟨hPre.blind, hPre.at hB hS noA_in⟩ rfl rfl hl.1 rfl (lv_room (Nat.le_of_ble_eq_true rfl)) d_Nm_found_50 ⟨Nat.le_of_ble_eq_true rfl, Nat.le_of_ble_eq_true rfl⟩) hS (fun locs hS => ?_)
            refine t_ret ?_
            refine W.widen (k := 1) (n := 6) (Nat.le_of_ble_eq_true rfl) (Nat.le_of_ble_eq_true rfl) ?_
            exact W.iret (v := (ntV rs)) hx hb hr (fun t ht hW => Or.inl ⟨some (.int ((ntV rs))), rfl, (by rw [ht]; exact ⟨(by simp [goV, c1, Int32.not_lt.mp c1, c12, Int32.not_le.mpr c12, c34]), rfl, by rw [e_q, tnI (j := j_q) (by omega), hrs, show i = j_q by omega]⟩), hS.F ht⟩) hS.2.2 d_Nm_found_53
          · skip
            replace c34 : ¬ (j_q ≤ i) := fun z9 => c34 ((nI_leI (a := j_q) (b := i) (by omega) (by omega)).mpr z9)
            refine lv_iload_n hx hb d_Nm_found_37 rfl (lv_at hl 2 rfl) ?_
            refine lv_iload_n hx hb d_Nm_found_38 rfl (lv_at hl 2 rfl) ?_
            refine lv_iconst (v := 1) hx hb d_Nm_found_39 (by decide) ?_
            refine lv_isub (x := rs) (y := 1) hx hb d_Nm_found_40 ?_
            refine lv_iand (x := rs) (y := (rs - 1)) hx hb d_Nm_found_41 ?_
            refine lv_istore_n (lv' := [(2, .int (rs &&& (rs - 1))), (0, .ref (o 0 0)), (1, .int q), (3, .int (nI i))]) hx hb d_Nm_found_42 rfl hl (by decide) rfl (fun ls hl => ?_)
            refine lv_iinc (v := (nI (i + 1))) (lv' := [(3, .int (nI (i + 1))), (2, .int (rs &&& (rs - 1))), (0, .ref (o 0 0)), (1, .int q)]) hx hb d_Nm_found_43 hl (k := 3) rfl (nI_1 i) (by decide) rfl (fun ls hl => ?_)
            refine lv_goto (tgt := 32) hx hb d_Nm_found_46 (by decide) ?_
            exact ih32  (i + 1) (rs &&& (rs - 1)) (by omega) (by omega) (by rw [show upt clrS (i + 1) (K 0 0 0) = clrS (upt clrS i (K 0 0 0)) i from rfl, ← hrs]; rfl) _ hS ls (lv_sub hl [2, 3, 1, 0] rfl)
      exact loop32 ((j_q - 0) + 1) 0 (K 0 0 0) (Nat.lt_succ_self _) (Nat.zero_le _) rfl _ hS ls (lv_sub hl [2, 3, 1, 0] rfl)
    · skip
      have hnil := noL hS.2.2
      first | subst hnil | skip
      exact t_throw (A := noA) (text := "no such name was found") (names := exUp) hx hb hl9 hown (by decide) (by decide) (htg _ (gw_mem (i := 739) (by decide +kernel) rfl)) (htg _ (gw_mem (i := 50) (by decide +kernel) rfl)) (zStr (q := ("NameMerges", 214, "no such name was found")) hB (by decide)) (fun a ha => zOk_before htg hB (List.all_eq_true.mp own_iob a ha)) hS.1 (hl.1.trans hml.symm) d_Nm_found_15 d_Nm_found_18 d_Nm_found_19 d_Nm_found_21 d_Nm_found_24 hno (Nat.le_of_ble_eq_true rfl) (Nat.le_of_ble_eq_true rfl) (Nat.le_of_ble_eq_true rfl) (Nat.le_of_ble_eq_true rfl) hlocks (⟨rfl, by simp [goV, c1, Int32.not_lt.mp c1, c12, Int32.not_lt.mp c12]⟩) (Nat.le_of_ble_eq_true rfl) (Nat.le_of_ble_eq_true rfl)
def cndV (K : Nat → Nat → Nat → Int32) (j : Nat) (sd : Int32) : Int32 := if sd = 0 then K 8 0 j / 24 else K 8 0 j - K 8 0 j / 24 * 24
def y_Nm_candidate : MethodName := ⟨"NameMerges", "candidate", "(II)I"⟩
abbrev w_Nm_candidate : List Cond := Cond.code y_Nm_candidate prog_1_method_9_code 3 (Option.some Jvm.ClassFile.FieldType.int) :: gw
theorem d_Nm_candidate_0 : decode prog_1_method_9_code 0 = .ok (.iload_n 1, 1) := by decide +kernel
theorem d_Nm_candidate_1 : decode prog_1_method_9_code 1 = .ok (.ifCond .lt 11, 3) := by decide +kernel
theorem d_Nm_candidate_4 : decode prog_1_method_9_code 4 = .ok (.iload_n 1, 1) := by decide +kernel
theorem d_Nm_candidate_5 : decode prog_1_method_9_code 5 = .ok (.aload_n 0, 1) := by decide +kernel
theorem d_Nm_candidate_6 : decode prog_1_method_9_code 6 = .ok (.getfield 33, 3) := by decide +kernel
theorem d_Nm_candidate_9 : decode prog_1_method_9_code 9 = .ok (.if_icmp .lt 13, 3) := by decide +kernel
theorem d_Nm_candidate_12 : decode prog_1_method_9_code 12 = .ok (.new 151, 3) := by decide +kernel
theorem d_Nm_candidate_15 : decode prog_1_method_9_code 15 = .ok (.dup, 1) := by decide +kernel
theorem d_Nm_candidate_16 : decode prog_1_method_9_code 16 = .ok (.ldc 153, 2) := by decide +kernel
theorem d_Nm_candidate_18 : decode prog_1_method_9_code 18 = .ok (.invokespecial 155, 3) := by decide +kernel
theorem d_Nm_candidate_21 : decode prog_1_method_9_code 21 = .ok (.athrow, 1) := by decide +kernel
theorem d_Nm_candidate_22 : decode prog_1_method_9_code 22 = .ok (.iload_n 2, 1) := by decide +kernel
theorem d_Nm_candidate_23 : decode prog_1_method_9_code 23 = .ok (.ifCond .lt 8, 3) := by decide +kernel
theorem d_Nm_candidate_26 : decode prog_1_method_9_code 26 = .ok (.iload_n 2, 1) := by decide +kernel
theorem d_Nm_candidate_27 : decode prog_1_method_9_code 27 = .ok (.iconst 1, 1) := by decide +kernel
theorem d_Nm_candidate_28 : decode prog_1_method_9_code 28 = .ok (.if_icmp .le 13, 3) := by decide +kernel
theorem d_Nm_candidate_31 : decode prog_1_method_9_code 31 = .ok (.new 151, 3) := by decide +kernel
theorem d_Nm_candidate_34 : decode prog_1_method_9_code 34 = .ok (.dup, 1) := by decide +kernel
theorem d_Nm_candidate_35 : decode prog_1_method_9_code 35 = .ok (.ldc 156, 2) := by decide +kernel
theorem d_Nm_candidate_37 : decode prog_1_method_9_code 37 = .ok (.invokespecial 155, 3) := by decide +kernel
theorem d_Nm_candidate_40 : decode prog_1_method_9_code 40 = .ok (.athrow, 1) := by decide +kernel
theorem d_Nm_candidate_41 : decode prog_1_method_9_code 41 = .ok (.iload_n 2, 1) := by decide +kernel
theorem d_Nm_candidate_42 : decode prog_1_method_9_code 42 = .ok (.ifCond .ne 15, 3) := by decide +kernel
theorem d_Nm_candidate_45 : decode prog_1_method_9_code 45 = .ok (.aload_n 0, 1) := by decide +kernel
theorem d_Nm_candidate_46 : decode prog_1_method_9_code 46 = .ok (.getfield 30, 3) := by decide +kernel
theorem d_Nm_candidate_49 : decode prog_1_method_9_code 49 = .ok (.iload_n 1, 1) := by decide +kernel
theorem d_Nm_candidate_50 : decode prog_1_method_9_code 50 = .ok (.iaload, 1) := by decide +kernel
theorem d_Nm_candidate_51 : decode prog_1_method_9_code 51 = .ok (.bipush 24, 2) := by decide +kernel
theorem d_Nm_candidate_53 : decode prog_1_method_9_code 53 = .ok (.idiv, 1) := by decide +kernel
theorem d_Nm_candidate_54 : decode prog_1_method_9_code 54 = .ok (.goto 12, 3) := by decide +kernel
theorem d_Nm_candidate_57 : decode prog_1_method_9_code 57 = .ok (.aload_n 0, 1) := by decide +kernel
theorem d_Nm_candidate_58 : decode prog_1_method_9_code 58 = .ok (.getfield 30, 3) := by decide +kernel
theorem d_Nm_candidate_61 : decode prog_1_method_9_code 61 = .ok (.iload_n 1, 1) := by decide +kernel
theorem d_Nm_candidate_62 : decode prog_1_method_9_code 62 = .ok (.iaload, 1) := by decide +kernel
theorem d_Nm_candidate_63 : decode prog_1_method_9_code 63 = .ok (.bipush 24, 2) := by decide +kernel
theorem d_Nm_candidate_65 : decode prog_1_method_9_code 65 = .ok (.irem, 1) := by decide +kernel
theorem d_Nm_candidate_66 : decode prog_1_method_9_code 66 = .ok (.ireturn, 1) := by decide +kernel
set_option maxHeartbeats 4000000 in
set_option maxRecDepth 100000 in
theorem c_Nm_candidate (l : Launch) (D : va_G) (cs : Nat → ClassId) (N0 : Nat) (H : Heap) (hl9 : l.stackTraces = false) (o z : Nat → Nat → Nat) (K : Nat → Nat → Nat → Int32) (r : Nat → Nat × Nat) (q sd : Int32) (hI : nmP D cs N0 H o z K r) : tMet l y_Nm_candidate w_Nm_candidate ({ frames := 6, cells := 1, slots := 6, locals := 82 }) (hPre D cs N0 [.ref (o 0 0), .int q, .int sd] H) (hT (fun v H' => goV (isN (z 0 0) q && (!decide (sd < 0) && !decide (1 < sd))) true true = 0 ∧ H' = H ∧ v = some (.int (cndV K (tn q) sd))) (fun E => (E = "java/lang/IndexOutOfBoundsException" ∧ goV (isN (z 0 0) q && (!decide (sd < 0) && !decide (1 < sd))) true true = 1)) noA) 1 6 noA := by
  refine tMet.ofW (cc := prog_1_method_9_code) (maxL := 3) (ret := (Option.some Jvm.ClassFile.FieldType.int)) (by decide) rfl ?_
  intro p e s m args below meth c s₁ B hml hno hv
  obtain ⟨rfl, rfl, hB⟩ := hv
  have hx := B.exec
  have hb := B.bytes
  have hr := B.returns
  have hts := atoms_spec (ws := w_Nm_candidate) B.pre
  have htg : ∀ w ∈ gw, w.before _ s = true := fun w h => hts w (List.mem_cons_of_mem _ h)
  have hown : s.vm.findClass "NameMerges" = some m.cls := findClass_of_methodNamed B.named
  have hlocks := B.notSynchronized
  have hK := hB.1
  obtain ⟨H, hH⟩ : ∃ z : Heap, z = s.heap := ⟨_, rfl⟩
  have hz0 : H.size = s.heap.size := by rw [hH]
  have hN0 := hB.2.1
  rw [← hH] at hI
  have hS : va_S noA s.heap H [] := by rw [hH]; exact va_S.rf
  have hl := lv_entry ([.ref (o 0 0), .int q, .int sd]) (n := 3) (Nat.le_of_ble_eq_true rfl)
  rw [lg_entry_eq, ← hH]
  generalize (lg_sl ([.ref (o 0 0), .int q, .int sd]) ++ List.replicate (3 - (lg_sl ([.ref (o 0 0), .int q, .int sd])).length) Slot.unset).toArray = ls at hl ⊢
  have hl : lv_has ls 3 [(0, .ref (o 0 0)), (1, .int q), (2, .int sd)] := hl
  obtain ⟨hb0, hb1, hb3, hb5, hb4, hb6, hb11, hb17⟩ := hI.2.2.1
  refine lv_iload_n hx hb d_Nm_candidate_0 rfl (lv_at hl 1 rfl) ?_
  refine lv_if_lt (x := q) (tgt := 12) hx hb d_Nm_candidate_1 (by decide) (fun c1 => ?_) (fun c1 => ?_)
  · skip
    have hnil := noL hS.2.2
    first | subst hnil | skip
    exact t_throw (A := noA) (text := "there is no such pair") (names := exUp) hx hb hl9 hown (by decide) (by decide) (htg _ (gw_mem (i := 739) (by decide +kernel) rfl)) (htg _ (gw_mem (i := 50) (by decide +kernel) rfl)) (zStr (q := ("NameMerges", 153, "there is no such pair")) hB (by decide)) (fun a ha => zOk_before htg hB (List.all_eq_true.mp own_iob a ha)) hS.1 (hl.1.trans hml.symm) d_Nm_candidate_12 d_Nm_candidate_15 d_Nm_candidate_16 d_Nm_candidate_18 d_Nm_candidate_21 hno (Nat.le_of_ble_eq_true rfl) (Nat.le_of_ble_eq_true rfl) (Nat.le_of_ble_eq_true rfl) (Nat.le_of_ble_eq_true rfl) hlocks (⟨rfl, by simp [goV, isN, c1, Int32.not_le.mpr c1]⟩) (Nat.le_of_ble_eq_true rfl) (Nat.le_of_ble_eq_true rfl)
  · skip
    refine lv_iload_n hx hb d_Nm_candidate_4 rfl (lv_at hl 1 rfl) ?_
    refine lv_aload_n hx hb d_Nm_candidate_5 rfl (lv_at hl 0 rfl) ?_
    refine hx_get (ref := "NameMerges") (v := .int (nI (z 0 0))) hx hb htg iNm hown hK (show va_at D vwCl (o 0 0, .inr (1, [.ref (o 1 0), .ref (o 3 0), .ref (o 5 0), .ref (o 7 0), .ref (o 8 0), .int (nI (z 0 0)), .int (K 0 0 0), .ref (o 9 0)])) H from hI.at (k := 0) (n := 0) (show nmv z 0 0 from rfl)) rfl 5 (by decide) (htg _ (gw_mem (i := 131) (by decide +kernel) rfl)) (fun _ h9 => h9) rfl d_Nm_candidate_6 ?_
    refine lv_icmp_lt (x := q) (y := (nI (z 0 0))) (tgt := 22) hx hb d_Nm_candidate_9 (by decide) (fun c9 => ?_) (fun c9 => ?_)
    · skip
      refine lv_iload_n hx hb d_Nm_candidate_22 rfl (lv_at hl 2 rfl) ?_
      refine lv_if_lt (x := sd) (tgt := 31) hx hb d_Nm_candidate_23 (by decide) (fun c23 => ?_) (fun c23 => ?_)
      · skip
        have hnil := noL hS.2.2
        first | subst hnil | skip
        exact t_throw (A := noA) (text := "there is no such side") (names := exUp) hx hb hl9 hown (by decide) (by decide) (htg _ (gw_mem (i := 739) (by decide +kernel) rfl)) (htg _ (gw_mem (i := 50) (by decide +kernel) rfl)) (zStr (q := ("NameMerges", 156, "there is no such side")) hB (by decide)) (fun a ha => zOk_before htg hB (List.all_eq_true.mp own_iob a ha)) hS.1 (hl.1.trans hml.symm) d_Nm_candidate_31 d_Nm_candidate_34 d_Nm_candidate_35 d_Nm_candidate_37 d_Nm_candidate_40 hno (Nat.le_of_ble_eq_true rfl) (Nat.le_of_ble_eq_true rfl) (Nat.le_of_ble_eq_true rfl) (Nat.le_of_ble_eq_true rfl) hlocks (⟨rfl, by simp [goV, isN, c1, Int32.not_lt.mp c1, c9, Int32.not_le.mpr c9, c23, Int32.not_le.mpr c23]⟩) (Nat.le_of_ble_eq_true rfl) (Nat.le_of_ble_eq_true rfl)
      · skip
        refine lv_iload_n hx hb d_Nm_candidate_26 rfl (lv_at hl 2 rfl) ?_
        refine lv_iconst (v := 1) hx hb d_Nm_candidate_27 (by decide) ?_
        refine lv_icmp_le (x := sd) (y := 1) (tgt := 41) hx hb d_Nm_candidate_28 (by decide) (fun c28 => ?_) (fun c28 => ?_)
        · skip
          refine lv_iload_n hx hb d_Nm_candidate_41 rfl (lv_at hl 2 rfl) ?_
          obtain ⟨j_q, hj_q, e_q⟩ := isN_of (n := z 0 0) (q := q) (by simp [isN, c1, Int32.not_lt.mp c1, c9, Int32.not_le.mpr c9, c23, Int32.not_lt.mp c23, c28, Int32.not_lt.mpr c28]) (by omega)
          refine lv_if_ne (x := sd) (tgt := 57) hx hb d_Nm_candidate_42 (by decide) (fun c42 => ?_) (fun c42 => ?_)
          · skip
            refine lv_aload_n hx hb d_Nm_candidate_57 rfl (lv_at hl 0 rfl) ?_
            refine hx_get (ref := "NameMerges") (v := .ref (o 8 0)) hx hb htg iNm hown hK (show va_at D vwCl (o 0 0, .inr (1, [.ref (o 1 0), .ref (o 3 0), .ref (o 5 0), .ref (o 7 0), .ref (o 8 0), .int (nI (z 0 0)), .int (K 0 0 0), .ref (o 9 0)])) H from hI.at (k := 0) (n := 0) (show nmv z 0 0 from rfl)) rfl 4 (by decide) (htg _ (gw_mem (i := 130) (by decide +kernel) rfl)) (fun _ h9 => h9) rfl d_Nm_candidate_58 ?_
            refine lv_iload_n hx hb d_Nm_candidate_61 rfl (lv_at hl 1 rfl) ?_
            refine lv_eqi (y := (nI j_q)) e_q ?_
            refine hx_iald hx hb hK 0 (show va_at D vwCl (o 8 0, .inl (cs 0, (276, .inl (K 8 0)))) H from hI.at (k := 8) (n := 0) (show nmv z 8 0 from rfl)) rfl (show vp_in (nI j_q) 276 from vp_in_nI (n := j_q) (by omega) (by omega)) d_Nm_candidate_62 ?_
            refine lv_eqi (y := ((K 8 0) j_q)) (show (K 8 0) (nI j_q).toNatClampNeg = _ by rw [nI_clamp (by omega)]) ?_
            refine lv_bipush (v := 24) hx hb d_Nm_candidate_63 (by decide) ?_
            refine lv_irem (x := ((K 8 0) j_q)) (y := 24) hx hb d_Nm_candidate_65 (by decide) ?_
            refine t_ret ?_
            refine W.widen (k := 1) (n := 6) (Nat.le_of_ble_eq_true rfl) (Nat.le_of_ble_eq_true rfl) ?_
            exact W.iret (v := (((K 8 0) j_q) - ((K 8 0) j_q) / 24 * 24)) hx hb hr (fun t ht hW => Or.inl ⟨some (.int ((((K 8 0) j_q) - ((K 8 0) j_q) / 24 * 24))), rfl, (by rw [ht]; exact ⟨(by simp [goV, isN, c1, Int32.not_lt.mp c1, c9, Int32.not_le.mpr c9, c23, Int32.not_lt.mp c23, c28, Int32.not_lt.mpr c28, c42]), rfl, by rw [e_q, tnI (j := j_q) (by omega)]; simp [cndV, c42]⟩), hS.F ht⟩) hS.2.2 d_Nm_candidate_66
          · skip
            refine lv_aload_n hx hb d_Nm_candidate_45 rfl (lv_at hl 0 rfl) ?_
            refine hx_get (ref := "NameMerges") (v := .ref (o 8 0)) hx hb htg iNm hown hK (show va_at D vwCl (o 0 0, .inr (1, [.ref (o 1 0), .ref (o 3 0), .ref (o 5 0), .ref (o 7 0), .ref (o 8 0), .int (nI (z 0 0)), .int (K 0 0 0), .ref (o 9 0)])) H from hI.at (k := 0) (n := 0) (show nmv z 0 0 from rfl)) rfl 4 (by decide) (htg _ (gw_mem (i := 130) (by decide +kernel) rfl)) (fun _ h9 => h9) rfl d_Nm_candidate_46 ?_
            refine lv_iload_n hx hb d_Nm_candidate_49 rfl (lv_at hl 1 rfl) ?_
            refine lv_eqi (y := (nI j_q)) e_q ?_
            refine hx_iald hx hb hK 0 (show va_at D vwCl (o 8 0, .inl (cs 0, (276, .inl (K 8 0)))) H from hI.at (k := 8) (n := 0) (show nmv z 8 0 from rfl)) rfl (show vp_in (nI j_q) 276 from vp_in_nI (n := j_q) (by omega) (by omega)) d_Nm_candidate_50 ?_
            refine lv_eqi (y := ((K 8 0) j_q)) (show (K 8 0) (nI j_q).toNatClampNeg = _ by rw [nI_clamp (by omega)]) ?_
            refine lv_bipush (v := 24) hx hb d_Nm_candidate_51 (by decide) ?_
            refine lv_idiv (x := ((K 8 0) j_q)) (y := 24) hx hb d_Nm_candidate_53 (by decide) ?_
            refine lv_goto (tgt := 66) hx hb d_Nm_candidate_54 (by decide) ?_
            refine t_ret ?_
            refine W.widen (k := 1) (n := 6) (Nat.le_of_ble_eq_true rfl) (Nat.le_of_ble_eq_true rfl) ?_
            exact W.iret (v := (((K 8 0) j_q) / 24)) hx hb hr (fun t ht hW => Or.inl ⟨some (.int ((((K 8 0) j_q) / 24))), rfl, (by rw [ht]; exact ⟨(by simp [goV, isN, c1, Int32.not_lt.mp c1, c9, Int32.not_le.mpr c9, c23, Int32.not_lt.mp c23, c28, Int32.not_lt.mpr c28, c42]), rfl, by rw [e_q, tnI (j := j_q) (by omega)]; simp [cndV, c42]⟩), hS.F ht⟩) hS.2.2 d_Nm_candidate_66
        · skip
          have hnil := noL hS.2.2
          first | subst hnil | skip
          exact t_throw (A := noA) (text := "there is no such side") (names := exUp) hx hb hl9 hown (by decide) (by decide) (htg _ (gw_mem (i := 739) (by decide +kernel) rfl)) (htg _ (gw_mem (i := 50) (by decide +kernel) rfl)) (zStr (q := ("NameMerges", 156, "there is no such side")) hB (by decide)) (fun a ha => zOk_before htg hB (List.all_eq_true.mp own_iob a ha)) hS.1 (hl.1.trans hml.symm) d_Nm_candidate_31 d_Nm_candidate_34 d_Nm_candidate_35 d_Nm_candidate_37 d_Nm_candidate_40 hno (Nat.le_of_ble_eq_true rfl) (Nat.le_of_ble_eq_true rfl) (Nat.le_of_ble_eq_true rfl) (Nat.le_of_ble_eq_true rfl) hlocks (⟨rfl, by simp [goV, isN, c1, Int32.not_lt.mp c1, c9, Int32.not_le.mpr c9, c23, Int32.not_lt.mp c23, c28, Int32.not_le.mp c28]⟩) (Nat.le_of_ble_eq_true rfl) (Nat.le_of_ble_eq_true rfl)
    · skip
      have hnil := noL hS.2.2
      first | subst hnil | skip
      exact t_throw (A := noA) (text := "there is no such pair") (names := exUp) hx hb hl9 hown (by decide) (by decide) (htg _ (gw_mem (i := 739) (by decide +kernel) rfl)) (htg _ (gw_mem (i := 50) (by decide +kernel) rfl)) (zStr (q := ("NameMerges", 153, "there is no such pair")) hB (by decide)) (fun a ha => zOk_before htg hB (List.all_eq_true.mp own_iob a ha)) hS.1 (hl.1.trans hml.symm) d_Nm_candidate_12 d_Nm_candidate_15 d_Nm_candidate_16 d_Nm_candidate_18 d_Nm_candidate_21 hno (Nat.le_of_ble_eq_true rfl) (Nat.le_of_ble_eq_true rfl) (Nat.le_of_ble_eq_true rfl) (Nat.le_of_ble_eq_true rfl) hlocks (⟨rfl, by simp [goV, isN, c1, Int32.not_lt.mp c1, c9, Int32.not_lt.mp c9]⟩) (Nat.le_of_ble_eq_true rfl) (Nat.le_of_ble_eq_true rfl)
