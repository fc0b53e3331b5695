def y_Nm_score : MethodName := ⟨"NameMerges", "score", "(II)I"⟩
abbrev w_Nm_score : List Cond := Cond.code y_Nm_score prog_1_method_7_code 3 (Option.some Jvm.ClassFile.FieldType.int) :: gw
theorem d_Nm_score_0 : decode prog_1_method_7_code 0 = .ok (.aload_n 0, 1) := by decide +kernel
theorem d_Nm_score_1 : decode prog_1_method_7_code 1 = .ok (.iload_n 1, 1) := by decide +kernel
theorem d_Nm_score_2 : decode prog_1_method_7_code 2 = .ok (.invokevirtual 79, 3) := by decide +kernel
theorem d_Nm_score_5 : decode prog_1_method_7_code 5 = .ok (.aload_n 0, 1) := by decide +kernel
theorem d_Nm_score_6 : decode prog_1_method_7_code 6 = .ok (.iload_n 2, 1) := by decide +kernel
theorem d_Nm_score_7 : decode prog_1_method_7_code 7 = .ok (.invokevirtual 79, 3) := by decide +kernel
theorem d_Nm_score_10 : decode prog_1_method_7_code 10 = .ok (.aload_n 0, 1) := by decide +kernel
theorem d_Nm_score_11 : decode prog_1_method_7_code 11 = .ok (.aload_n 0, 1) := by decide +kernel
theorem d_Nm_score_12 : decode prog_1_method_7_code 12 = .ok (.getfield 19, 3) := by decide +kernel
theorem d_Nm_score_15 : decode prog_1_method_7_code 15 = .ok (.iload_n 1, 1) := by decide +kernel
theorem d_Nm_score_16 : decode prog_1_method_7_code 16 = .ok (.invokevirtual 82, 3) := by decide +kernel
theorem d_Nm_score_19 : decode prog_1_method_7_code 19 = .ok (.checkcast 72, 3) := by decide +kernel
theorem d_Nm_score_22 : decode prog_1_method_7_code 22 = .ok (.aload_n 0, 1) := by decide +kernel
theorem d_Nm_score_23 : decode prog_1_method_7_code 23 = .ok (.getfield 19, 3) := by decide +kernel
theorem d_Nm_score_26 : decode prog_1_method_7_code 26 = .ok (.iload_n 2, 1) := by decide +kernel
theorem d_Nm_score_27 : decode prog_1_method_7_code 27 = .ok (.invokevirtual 82, 3) := by decide +kernel
theorem d_Nm_score_30 : decode prog_1_method_7_code 30 = .ok (.checkcast 72, 3) := by decide +kernel
theorem d_Nm_score_33 : decode prog_1_method_7_code 33 = .ok (.invokevirtual 132, 3) := by decide +kernel
theorem d_Nm_score_36 : decode prog_1_method_7_code 36 = .ok (.ireturn, 1) := by decide +kernel
set_option maxHeartbeats 4000000 in
set_option maxRecDepth 100000 in
theorem c_Nm_score (l : Launch) (D : va_G) (cs : Nat → ClassId) (N0 : Nat) (H : Heap) (hl9 : l.stackTraces = false) (o z : Nat → Nat → Nat) (K : Nat → Nat → Nat → Int32) (r : Nat → Nat × Nat) (N : Nat) (qa qb : Int32) (hI : nmP D cs N0 H o z K r) (hN : N = H.size) : tMet l y_Nm_score w_Nm_score ({ frames := 8, cells := 2, slots := 12, locals := 185 }) (hPre D cs N0 [.ref (o 0 0), .int qa, .int qb] H) (hT (fun v H' => goV (isN (z 3 0) qa && isN (z 3 0) qb) true true = 0 ∧ v = some (.int (lkV z K (tn qa) (tn qb))) ∧ ∃ w : Nat → Int32, nmP D cs N0 H' o z (upK K 9 0 w) r) (fun E => (E = "java/lang/IndexOutOfBoundsException" ∧ goV (isN (z 3 0) qa && isN (z 3 0) qb) true true = 1)) (jA [o 9 0] N)) 2 12 (jA [o 9 0] N) := by
  refine tMet.ofW (cc := prog_1_method_7_code) (maxL := 3) (ret := (Option.some Jvm.ClassFile.FieldType.int)) (by decide) rfl ?_
  intro p e s m args below meth c s₁ B hml hno hv
  obtain ⟨rfl, rfl, hB⟩ := hv
  have hx := B.exec
  have hb := B.bytes
  have hr := B.returns
  have hts := atoms_spec (ws := w_Nm_score) B.pre
  have htg : ∀ w ∈ gw, w.before _ s = true := fun w h => hts w (List.mem_cons_of_mem _ h)
  have hown : s.vm.findClass "NameMerges" = some m.cls := findClass_of_methodNamed B.named
  have hlocks := B.notSynchronized
  have hAN : ∀ q, (jA [o 9 0] N) q → N0 ≤ q := jA_sub1 (hI.ge (k := 9) (n := 0) rfl) (fun q9 h9 => Nat.le_trans hB.2.1 (hN ▸ h9))
  have hK := hB.1
  obtain ⟨H, hH⟩ : ∃ z : Heap, z = s.heap := ⟨_, rfl⟩
  have hz0 : H.size = s.heap.size := by rw [hH]
  have hN0 := hB.2.1
  rw [← hH] at hI
  have hS : va_S noA s.heap H [] := by rw [hH]; exact va_S.rf
  have hl := lv_entry ([.ref (o 0 0), .int qa, .int qb]) (n := 3) (Nat.le_of_ble_eq_true rfl)
  rw [lg_entry_eq, ← hH]
  generalize (lg_sl ([.ref (o 0 0), .int qa, .int qb]) ++ List.replicate (3 - (lg_sl ([.ref (o 0 0), .int qa, .int qb])).length) Slot.unset).toArray = ls at hl ⊢
  have hl : lv_has ls 3 [(0, .ref (o 0 0)), (1, .int qa), (2, .int qb)] := hl
  obtain ⟨hb0, hb1, hb3, hb5, hb4, hb6, hb11, hb17⟩ := hI.2.2.1
  replace hI := hI.to9
  refine lv_aload_n hx hb d_Nm_score_0 rfl (lv_at hl 0 rfl) ?_
  refine lv_iload_n hx hb d_Nm_score_1 rfl (lv_at hl 1 rfl) ?_
  refine t_V (As := [.int qa]) (rest := []) ⟨hx, hb, hml, hown, htg⟩ (c_Nm_checkName l D cs N0 H hl9 o z (upK K 9 0 (K 9 0)) r qa hI) ⟨x_cwB 1 htg (gw_mem (i := 738) (by decide +kernel) rfl) (gw_mem (i := 30) (by decide +kernel) rfl) (gw_mem (i := 735) (by decide +kernel) rfl) (by decide +kernel) ⟨Nat.le_of_ble_eq_true rfl, Nat.le_of_ble_eq_true rfl⟩, htg _ (gw_mem (i := 737) (by decide +kernel) rfl), htg _ (gw_mem (i := 11) (by decide +kernel) rfl)⟩ ⟨hPre.blind, hx_recv hK (ci := 1) rfl (show va_at D vwCl (o 0 0, .inr (1, [.ref (o 1 0), .ref (o 3 0), .ref (o 5 0), .ref (o 7 0), .ref (o 8 0), .int (nI (z 0 0)), .int (K 0 0 0), .ref (o 9 0)])) H from hI.at (k := 0) (n := 0) (show nmv z 0 0 from rfl)), hPre.at hB hS noA_in⟩ rfl hl.1 rfl (lv_room (Nat.le_of_ble_eq_true rfl)) d_Nm_score_2 ⟨Nat.le_of_ble_eq_true rfl, Nat.le_of_ble_eq_true rfl⟩ (fun x9 E9 ce9 H9 L9 hL9 hb9 hc9 hv9 hf9 hz9 hk9 => ?_) (fun v9 H9 L9 hL9 hp9 hz9 hk9 => ?_)
  · have hn9 := noL hL9
    subst hn9
    have hnil := noL hS.2.2
    first | subst hnil | skip
    exact t_out (A := (jA [o 9 0] N)) rfl hno hlocks ((⟨hb9.1, by simp [goV, hb9.2]⟩)) hc9 hv9 hf9 (Nat.le_of_ble_eq_true rfl) (Nat.le_of_ble_eq_true rfl)
  · skip
    obtain ⟨hv9, hH9, hq1⟩ := hp9
    have hn8 := noL hL9
    subst hn8
    rw [hv9, hH9, List.append_nil]
    refine W.eq (g2 := F0 m 5 ls []) rfl ?_
    obtain ⟨j_qa, hj_qa, e_qa⟩ := isN_of hq1 (by omega)
    rw [e_qa] at hq1
    refine lv_aload_n hx hb d_Nm_score_5 rfl (lv_at hl 0 rfl) ?_
    refine lv_iload_n hx hb d_Nm_score_6 rfl (lv_at hl 2 rfl) ?_
    refine t_V (As := [.int qb]) (rest := []) ⟨hx, hb, hml, hown, htg⟩ (c_Nm_checkName l D cs N0 H hl9 o z (upK K 9 0 (K 9 0)) r qb hI) ⟨x_cwB 1 htg (gw_mem (i := 738) (by decide +kernel) rfl) (gw_mem (i := 30) (by decide +kernel) rfl) (gw_mem (i := 735) (by decide +kernel) rfl) (by decide +kernel) ⟨Nat.le_of_ble_eq_true rfl, Nat.le_of_ble_eq_true rfl⟩, htg _ (gw_mem (i := 737) (by decide +kernel) rfl), htg _ (gw_mem (i := 11) (by decide +kernel) rfl)⟩ ⟨hPre.blind, hx_recv hK (ci := 1) rfl (show va_at D vwCl (o 0 0, .inr (1, [.ref (o 1 0), .ref (o 3 0), .ref (o 5 0), .ref (o 7 0), .ref (o 8 0), .int (nI (z 0 0)), .int (K 0 0 0), .ref (o 9 0)])) H from hI.at (k := 0) (n := 0) (show nmv z 0 0 from rfl)), hPre.at hB hS noA_in⟩ rfl hl.1 rfl (lv_room (Nat.le_of_ble_eq_true rfl)) d_Nm_score_7 ⟨Nat.le_of_ble_eq_true rfl, Nat.le_of_ble_eq_true rfl⟩ (fun x9 E9 ce9 H9 L9 hL9 hb9 hc9 hv9 hf9 hz9 hk9 => ?_) (fun v9 H9 L9 hL9 hp9 hz9 hk9 => ?_)
    · have hn9 := noL hL9
      subst hn9
      have hnil := noL hS.2.2
      first | subst hnil | skip
      exact t_out (A := (jA [o 9 0] N)) rfl hno hlocks ((⟨hb9.1, by simp [goV, e_qa, hq1, hb9.2]⟩)) hc9 hv9 hf9 (Nat.le_of_ble_eq_true rfl) (Nat.le_of_ble_eq_true rfl)
    · skip
      obtain ⟨hv9, hH9, hq2⟩ := hp9
      have hn8 := noL hL9
      subst hn8
      rw [hv9, hH9, List.append_nil]
      refine W.eq (g2 := F0 m 10 ls []) rfl ?_
      obtain ⟨j_qb, hj_qb, e_qb⟩ := isN_of hq2 (by omega)
      rw [e_qb] at hq2
      refine lv_aload_n hx hb d_Nm_score_10 rfl (lv_at hl 0 rfl) ?_
      refine lv_aload_n hx hb d_Nm_score_11 rfl (lv_at hl 0 rfl) ?_
      refine hx_get (ref := "NameMerges") (v := .ref (o 3 0)) hx hb htg iNm hown hK (show va_at D vwCl (o 0 0, .inr (1, [.ref (o 1 0), .ref (o 3 0), .ref (o 5 0), .ref (o 7 0), .ref (o 8 0), .int (nI (z 0 0)), .int (K 0 0 0), .ref (o 9 0)])) H from hI.at (k := 0) (n := 0) (show nmv z 0 0 from rfl)) rfl 1 (by decide) (htg _ (gw_mem (i := 127) (by decide +kernel) rfl)) (fun _ h9 => h9) rfl d_Nm_score_12 ?_
      refine lv_iload_n hx hb d_Nm_score_15 rfl (lv_at hl 1 rfl) ?_
      refine lv_eqi (y := (nI j_qa)) e_qa ?_
      refine h_pureq (va_runV (As := [.int (nI j_qa)]) (rest := [.ref (o 0 0)]) ⟨hx, hb, hml, hown, htg⟩ (c_names_get l D cs N0 H o z (upK K 9 0 (K 9 0)) r j_qa hI (show j_qa < z 3 0 by omega)) ⟨x_cwB 1 htg (gw_mem (i := 512) (by decide +kernel) rfl) (gw_mem (i := 37) (by decide +kernel) rfl) (gw_mem (i := 509) (by decide +kernel) rfl) (by decide +kernel) ⟨Nat.le_of_ble_eq_true rfl, Nat.le_of_ble_eq_true rfl⟩, htg _ (gw_mem (i := 510) (by decide +kernel) rfl), htg _ (gw_mem (i := 511) (by decide +kernel) rfl)⟩ ⟨hPre.blind, hx_recv hK (ci := 6) rfl (show va_at D vwCl (o 3 0, .inr (6, [.ref (nmL cs (z 3 0) (o 4 0)), .int (nI (z 3 0)), .int (K 3 0 0)])) H from hI.at (k := 3) (n := 0) (show nmv z 3 0 from rfl)), hPre.at hB hS noA_in⟩ rfl rfl hl.1 rfl (lv_room (Nat.le_of_ble_eq_true rfl)) d_Nm_score_16 ⟨Nat.le_of_ble_eq_true rfl, Nat.le_of_ble_eq_true rfl⟩) hS (fun locs hS => ?_)
      refine lv_eqv (y := .ref (o 10 j_qa)) rfl ?_
      refine va_castS hx hb hown (htg _ (gw_mem (i := 536) (by decide +kernel) rfl)) (x_at hK (ci := 2) rfl) (hx_recv hK (ci := 2) rfl (show va_at D vwCl (o 10 j_qa, .inr (2, [.ref (o 11 j_qa), .ref (o 13 j_qa), va_rf (if z 14 j_qa = 0 then none else some (o 14 j_qa)), .int (K 10 j_qa 0), .int (K 10 j_qa 1), .int (K 10 j_qa 2), .int (K 10 j_qa 3)])) H from hI.at (k := 10) (n := j_qa) (show nmv z 10 j_qa from (show j_qa < z 3 0 by omega)))) d_Nm_score_19 ?_
      refine lv_aload_n hx hb d_Nm_score_22 rfl (lv_at hl 0 rfl) ?_
      refine hx_get (ref := "NameMerges") (v := .ref (o 3 0)) hx hb htg iNm hown hK (show va_at D vwCl (o 0 0, .inr (1, [.ref (o 1 0), .ref (o 3 0), .ref (o 5 0), .ref (o 7 0), .ref (o 8 0), .int (nI (z 0 0)), .int (K 0 0 0), .ref (o 9 0)])) H from hI.at (k := 0) (n := 0) (show nmv z 0 0 from rfl)) rfl 1 (by decide) (htg _ (gw_mem (i := 127) (by decide +kernel) rfl)) (fun _ h9 => h9) rfl d_Nm_score_23 ?_
      refine lv_iload_n hx hb d_Nm_score_26 rfl (lv_at hl 2 rfl) ?_
      refine lv_eqi (y := (nI j_qb)) e_qb ?_
      refine h_pureq (va_runV (As := [.int (nI j_qb)]) (rest := [.ref (o 10 j_qa), .ref (o 0 0)]) ⟨hx, hb, hml, hown, htg⟩ (c_names_get l D cs N0 H o z (upK K 9 0 (K 9 0)) r j_qb hI (show j_qb < z 3 0 by omega)) ⟨x_cwB 1 htg (gw_mem (i := 512) (by decide +kernel) rfl) (gw_mem (i := 37) (by decide +kernel) rfl) (gw_mem (i := 509) (by decide +kernel) rfl) (by decide +kernel) ⟨Nat.le_of_ble_eq_true rfl, Nat.le_of_ble_eq_true rfl⟩, htg _ (gw_mem (i := 510) (by decide +kernel) rfl), htg _ (gw_mem (i := 511) (by decide +kernel) rfl)⟩ ⟨hPre.blind, hx_recv hK (ci := 6) rfl (show va_at D vwCl (o 3 0, .inr (6, [.ref (nmL cs (z 3 0) (o 4 0)), .int (nI (z 3 0)), .int (K 3 0 0)])) H from hI.at (k := 3) (n := 0) (show nmv z 3 0 from rfl)), hPre.at hB hS noA_in⟩ rfl rfl hl.1 rfl (lv_room (Nat.le_of_ble_eq_true rfl)) d_Nm_score_27 ⟨Nat.le_of_ble_eq_true rfl, Nat.le_of_ble_eq_true rfl⟩) hS (fun locs hS => ?_)
      refine lv_eqv (y := .ref (o 10 j_qb)) rfl ?_
      refine va_castS hx hb hown (htg _ (gw_mem (i := 536) (by decide +kernel) rfl)) (x_at hK (ci := 2) rfl) (hx_recv hK (ci := 2) rfl (show va_at D vwCl (o 10 j_qb, .inr (2, [.ref (o 11 j_qb), .ref (o 13 j_qb), va_rf (if z 14 j_qb = 0 then none else some (o 14 j_qb)), .int (K 10 j_qb 0), .int (K 10 j_qb 1), .int (K 10 j_qb 2), .int (K 10 j_qb 3)])) H from hI.at (k := 10) (n := j_qb) (show nmv z 10 j_qb from (show j_qb < z 3 0 by omega)))) d_Nm_score_30 ?_
      replace hS := x_wk (A' := (jA [o 9 0] N)) hS (fun _ h9 => h9.elim)
      obtain ⟨nq3, hnq3⟩ : ∃ z : Nat, z = H.size := ⟨_, rfl⟩
      refine h_calli (va_runV (As := [.ref (o 10 j_qa), .ref (o 10 j_qb)]) (rest := []) ⟨hx, hb, hml, hown, htg⟩ (c_Nm_likeness l D cs N0 H o z K r (K 9 0) nq3 j_qa j_qb hI hnq3 (show j_qa < z 3 0 by omega) (show j_qb < z 3 0 by omega)) ⟨x_cwB 2 htg (gw_mem (i := 540) (by decide +kernel) rfl) (gw_mem (i := 30) (by decide +kernel) rfl) (gw_mem (i := 537) (by decide +kernel) rfl) (by decide +kernel) ⟨Nat.le_of_ble_eq_true rfl, Nat.le_of_ble_eq_true rfl⟩, htg _ (gw_mem (i := 539) (by decide +kernel) rfl), htg _ (gw_mem (i := 2) (by decide +kernel) rfl)⟩ ⟨hPre.blind, hx_recv hK (ci := 1) rfl (show va_at D vwCl (o 0 0, .inr (1, [.ref (o 1 0), .ref (o 3 0), .ref (o 5 0), .ref (o 7 0), .ref (o 8 0), .int (nI (z 0 0)), .int (K 0 0 0), .ref (o 9 0)])) H from hI.at (k := 0) (n := 0) (show nmv z 0 0 from rfl)), hPre.at hB hS hAN⟩ rfl rfl hl.1 rfl (lv_room (Nat.le_of_ble_eq_true rfl)) d_Nm_score_33 ⟨Nat.le_of_ble_eq_true rfl, Nat.le_of_ble_eq_true rfl⟩) hS (jA_sub1 jA_in1 (fun q9 h9 => Or.inr (show N ≤ q9 by omega))) (fun r33 H locs hp hz hk hS => ?_)
      obtain ⟨hr9, w4, hI⟩ := hp
      subst hr9
      refine t_ret ?_
      exact W.iret (v := (lkV z K j_qa j_qb)) hx hb hr (fun t ht hW => Or.inl ⟨some (.int ((lkV z K j_qa j_qb))), rfl, (by rw [ht]; exact (by simp only [e_qa, e_qb, tnI (j := j_qa) (by omega), tnI (j := j_qb) (by omega)]; exact ⟨(by simp [goV, e_qa, e_qb, hq1, hq2]), (by first | trivial | rfl), _, hI⟩)), hS.F ht⟩) hS.2.2 d_Nm_score_36
def lostQ (z : Nat → Nat → Nat) (K : Nat → Nat → Nat → Int32) (q : Int32) (a b : Nat) : Bool := lostP z K a b q
def lostV (z : Nat → Nat → Nat) (K : Nat → Nat → Nat → Int32) (q : Int32) : Bool := anyTo (fun a => anyTo (lowP a (lostQ z K q a)) (z 3 0)) (z 3 0)
def y_Nm_lost : MethodName := ⟨"NameMerges", "lost", "(I)Z"⟩
abbrev w_Nm_lost : List Cond := Cond.code y_Nm_lost prog_1_method_10_code 4 (Option.some Jvm.ClassFile.FieldType.boolean) :: gw
theorem d_Nm_lost_0 : decode prog_1_method_10_code 0 = .ok (.iconst 0, 1) := by decide +kernel
theorem d_Nm_lost_1 : decode prog_1_method_10_code 1 = .ok (.istore_n 2, 1) := by decide +kernel
theorem d_Nm_lost_2 : decode prog_1_method_10_code 2 = .ok (.iload_n 2, 1) := by decide +kernel
theorem d_Nm_lost_3 : decode prog_1_method_10_code 3 = .ok (.aload_n 0, 1) := by decide +kernel
theorem d_Nm_lost_4 : decode prog_1_method_10_code 4 = .ok (.getfield 19, 3) := by decide +kernel
theorem d_Nm_lost_7 : decode prog_1_method_10_code 7 = .ok (.invokevirtual 67, 3) := by decide +kernel
theorem d_Nm_lost_10 : decode prog_1_method_10_code 10 = .ok (.if_icmp .ge 62, 3) := by decide +kernel
theorem d_Nm_lost_13 : decode prog_1_method_10_code 13 = .ok (.iload_n 2, 1) := by decide +kernel
theorem d_Nm_lost_14 : decode prog_1_method_10_code 14 = .ok (.iconst 1, 1) := by decide +kernel
theorem d_Nm_lost_15 : decode prog_1_method_10_code 15 = .ok (.iadd, 1) := by decide +kernel
theorem d_Nm_lost_16 : decode prog_1_method_10_code 16 = .ok (.istore_n 3, 1) := by decide +kernel
theorem d_Nm_lost_17 : decode prog_1_method_10_code 17 = .ok (.iload_n 3, 1) := by decide +kernel
theorem d_Nm_lost_18 : decode prog_1_method_10_code 18 = .ok (.aload_n 0, 1) := by decide +kernel
theorem d_Nm_lost_19 : decode prog_1_method_10_code 19 = .ok (.getfield 19, 3) := by decide +kernel
theorem d_Nm_lost_22 : decode prog_1_method_10_code 22 = .ok (.invokevirtual 67, 3) := by decide +kernel
theorem d_Nm_lost_25 : decode prog_1_method_10_code 25 = .ok (.if_icmp .ge 41, 3) := by decide +kernel
theorem d_Nm_lost_28 : decode prog_1_method_10_code 28 = .ok (.aload_n 0, 1) := by decide +kernel
theorem d_Nm_lost_29 : decode prog_1_method_10_code 29 = .ok (.aload_n 0, 1) := by decide +kernel
theorem d_Nm_lost_30 : decode prog_1_method_10_code 30 = .ok (.getfield 19, 3) := by decide +kernel
theorem d_Nm_lost_33 : decode prog_1_method_10_code 33 = .ok (.iload_n 2, 1) := by decide +kernel
theorem d_Nm_lost_34 : decode prog_1_method_10_code 34 = .ok (.invokevirtual 82, 3) := by decide +kernel
theorem d_Nm_lost_37 : decode prog_1_method_10_code 37 = .ok (.checkcast 72, 3) := by decide +kernel
theorem d_Nm_lost_40 : decode prog_1_method_10_code 40 = .ok (.aload_n 0, 1) := by decide +kernel
theorem d_Nm_lost_41 : decode prog_1_method_10_code 41 = .ok (.getfield 19, 3) := by decide +kernel
theorem d_Nm_lost_44 : decode prog_1_method_10_code 44 = .ok (.iload_n 3, 1) := by decide +kernel
theorem d_Nm_lost_45 : decode prog_1_method_10_code 45 = .ok (.invokevirtual 82, 3) := by decide +kernel
theorem d_Nm_lost_48 : decode prog_1_method_10_code 48 = .ok (.checkcast 72, 3) := by decide +kernel
theorem d_Nm_lost_51 : decode prog_1_method_10_code 51 = .ok (.iload_n 1, 1) := by decide +kernel
theorem d_Nm_lost_52 : decode prog_1_method_10_code 52 = .ok (.invokevirtual 158, 3) := by decide +kernel
theorem d_Nm_lost_55 : decode prog_1_method_10_code 55 = .ok (.ifCond .eq 5, 3) := by decide +kernel
theorem d_Nm_lost_58 : decode prog_1_method_10_code 58 = .ok (.iconst 1, 1) := by decide +kernel
theorem d_Nm_lost_59 : decode prog_1_method_10_code 59 = .ok (.ireturn, 1) := by decide +kernel
theorem d_Nm_lost_60 : decode prog_1_method_10_code 60 = .ok (.iinc 3 1, 3) := by decide +kernel
theorem d_Nm_lost_63 : decode prog_1_method_10_code 63 = .ok (.goto (-46), 3) := by decide +kernel
theorem d_Nm_lost_66 : decode prog_1_method_10_code 66 = .ok (.iinc 2 1, 3) := by decide +kernel
theorem d_Nm_lost_69 : decode prog_1_method_10_code 69 = .ok (.goto (-67), 3) := by decide +kernel
theorem d_Nm_lost_72 : decode prog_1_method_10_code 72 = .ok (.iconst 0, 1) := by decide +kernel
theorem d_Nm_lost_73 : decode prog_1_method_10_code 73 = .ok (.ireturn, 1) := by decide +kernel
set_option maxHeartbeats 4000000 in
set_option maxRecDepth 100000 in
theorem c_Nm_lost (l : Launch) (D : va_G) (cs : Nat → ClassId) (N0 : Nat) (H : Heap) (o z : Nat → Nat → Nat) (K : Nat → Nat → Nat → Int32) (r : Nat → Nat × Nat) (N : Nat) (q : Int32) (hI : nmP D cs N0 H o z K r) (hN : N = H.size) : Met l y_Nm_lost w_Nm_lost ({ frames := 9, cells := 0, slots := 0, locals := 208 }) (hPre D cs N0 [.ref (o 0 0), .int q] H) (hQi (fun r9 H' => r9 = bI (lostV z K q) ∧ ∃ w : Nat → Int32, nmP D cs N0 H' o z (upK K 9 0 w) r) (jA [o 9 0] N)) 0 0 (jA [o 9 0] N) := by
  refine Met.ofW (cc := prog_1_method_10_code) (maxL := 4) (ret := (Option.some Jvm.ClassFile.FieldType.boolean)) (by decide) rfl ?_
  intro p e s m args below meth c s₁ B hml hv
  obtain ⟨rfl, rfl, hB⟩ := hv
  have hx := B.exec
  have hb := B.bytes
  have hr := B.returns
  have hts := atoms_spec (ws := w_Nm_lost) B.pre
  have htg : ∀ w ∈ gw, w.before _ s = true := fun w h => hts w (List.mem_cons_of_mem _ h)
  have hown : s.vm.findClass "NameMerges" = some m.cls := findClass_of_methodNamed B.named
  have hlocks := B.notSynchronized
  have hAN : ∀ q, (jA [o 9 0] N) q → N0 ≤ q := jA_sub1 (hI.ge (k := 9) (n := 0) rfl) (fun q9 h9 => Nat.le_trans hB.2.1 (hN ▸ h9))
  have hK := hB.1
  obtain ⟨H, hH⟩ : ∃ z : Heap, z = s.heap := ⟨_, rfl⟩
  have hz0 : H.size = s.heap.size := by rw [hH]
  have hN0 := hB.2.1
  rw [← hH] at hI
  have hS : va_S (jA [o 9 0] N) s.heap H [] := by rw [hH]; exact va_S.rf
  have hl := lv_entry ([.ref (o 0 0), .int q]) (n := 4) (Nat.le_of_ble_eq_true rfl)
  rw [lg_entry_eq, ← hH]
  generalize (lg_sl ([.ref (o 0 0), .int q]) ++ List.replicate (4 - (lg_sl ([.ref (o 0 0), .int q])).length) Slot.unset).toArray = ls at hl ⊢
  have hl : lv_has ls 4 [(0, .ref (o 0 0)), (1, .int q)] := hl
  obtain ⟨hb0, hb1, hb3, hb5, hb4, hb6, hb11, hb17⟩ := hI.2.2.1
  replace hI := hI.to9
  refine lv_iconst (v := 0) hx hb d_Nm_lost_0 (by decide) ?_
  refine lv_istore_n (lv' := [(2, .int 0), (0, .ref (o 0 0)), (1, .int q)]) hx hb d_Nm_lost_1 rfl hl (by decide) rfl (fun ls hl => ?_)
  have loop2 : ∀ (fuel : Nat) (a : Nat) (w : Nat → Int32), z 3 0 - a < fuel → (a ≤ z 3 0) → (anyTo (fun a => anyTo (lowP a (lostQ z K q a)) (z 3 0)) a = false) → ∀ (H : Heap) (locs : List Loc), nmP D cs N0 H o z (upK K 9 0 w) r → va_S (jA [o 9 0] N) s.heap H locs → ∀ (ls : Array Slot), lv_has ls 4 [(0, .ref (o 0 0)), (1, .int q), (2, .int (nI a))] → W p l e (headSpec w_Nm_lost ({ frames := 9, cells := 0, slots := 0, locals := 208 })).room s m ([.ref (o 0 0), .int q] : List Value).toArray below meth c H locs 0 0 (MQ below (hQi (fun r9 H' => r9 = bI (lostV z K q) ∧ ∃ w : Nat → Int32, nmP D cs N0 H' o z (upK K 9 0 w) r) (jA [o 9 0] N)) ([.ref (o 0 0), .int q] : List Value).toArray s 0 0 (jA [o 9 0] N)) (F0 m 2 ls []) := by
    intro fuel2
    induction fuel2 with
    | zero => intro a w hn; exact absurd hn (Nat.not_lt_zero _)
    | succ fuel2 ih2 =>
      intro a w hn2 ha hp H locs hI hS ls hl
      have hz9 := hS.1
      refine lv_iload_n hx hb d_Nm_lost_2 rfl (lv_at hl 2 rfl) ?_
      refine lv_aload_n hx hb d_Nm_lost_3 rfl (lv_at hl 0 rfl) ?_
      refine hx_get (ref := "NameMerges") (v := .ref (o 3 0)) hx hb htg iNm hown hK (show va_at D vwCl (o 0 0, .inr (1, [.ref (o 1 0), .ref (o 3 0), .ref (o 5 0), .ref (o 7 0), .ref (o 8 0), .int (nI (z 0 0)), .int (K 0 0 0), .ref (o 9 0)])) H from hI.at (k := 0) (n := 0) (show nmv z 0 0 from rfl)) rfl 1 (by decide) (htg _ (gw_mem (i := 127) (by decide +kernel) rfl)) (fun _ h9 => h9) rfl d_Nm_lost_4 ?_
      refine h_purei (va_runV (As := []) (rest := [.int (nI a)]) ⟨hx, hb, hml, hown, htg⟩ (c_AL_size l D cs N0 H (o 3 0) (nmL cs (z 3 0) (o 4 0)) (z 3 0) (K 3 0 0) (show va_at D vwCl (o 3 0, .inr (6, [.ref (nmL cs (z 3 0) (o 4 0)), .int (nI (z 3 0)), .int (K 3 0 0)])) H from hI.at (k := 3) (n := 0) (show nmv z 3 0 from rfl))) ⟨x_cwB 0 htg (gw_mem (i := 503) (by decide +kernel) rfl) (gw_mem (i := 37) (by decide +kernel) rfl) (gw_mem (i := 500) (by decide +kernel) rfl) (by decide +kernel) ⟨Nat.le_of_ble_eq_true rfl, Nat.le_of_ble_eq_true rfl⟩, htg _ (gw_mem (i := 501) (by decide +kernel) rfl), htg _ (gw_mem (i := 502) (by decide +kernel) rfl)⟩ ⟨hPre.blind, hx_recv hK (ci := 6) rfl (show va_at D vwCl (o 3 0, .inr (6, [.ref (nmL cs (z 3 0) (o 4 0)), .int (nI (z 3 0)), .int (K 3 0 0)])) H from hI.at (k := 3) (n := 0) (show nmv z 3 0 from rfl)), hPre.at hB hS hAN⟩ rfl rfl hl.1 rfl (lv_room (Nat.le_of_ble_eq_true rfl)) d_Nm_lost_7 ⟨Nat.le_of_ble_eq_true rfl, Nat.le_of_ble_eq_true rfl⟩) hS (fun locs hS => ?_)
      refine lv_icmp_ge (x := (nI a)) (y := (nI (z 3 0))) (tgt := 72) hx hb d_Nm_lost_10 (by decide) (fun c10 => ?_) (fun c10 => ?_)
      · skip
        replace c10 : (z 3 0) ≤ a := (nI_leI (a := (z 3 0)) (b := a) (by omega) (by omega)).mp c10
        refine lv_iconst (v := 0) hx hb d_Nm_lost_72 (by decide) ?_
        exact W.zret (v := 0) hx hb hr (by decide) (fun t ht hW => ⟨⟨0, H, rfl, ⟨by have e9 : lostV z K q = false := (congrArg (anyTo _) (show z 3 0 = a by omega)).trans hp; rw [e9]; rfl, _, hI⟩, ht⟩, hS.F ht⟩) hS.2.2 d_Nm_lost_73
      · skip
        replace c10 : ¬ ((z 3 0) ≤ a) := fun z9 => c10 ((nI_leI (a := (z 3 0)) (b := a) (by omega) (by omega)).mpr z9)
        refine lv_iload_n hx hb d_Nm_lost_13 rfl (lv_at hl 2 rfl) ?_
        refine lv_iconst (v := 1) hx hb d_Nm_lost_14 (by decide) ?_
        refine lv_iadd (x := (nI a)) (y := 1) hx hb d_Nm_lost_15 ?_
        refine lv_eqi (y := (nI (a + 1))) (nI_add a 1) ?_
        refine lv_istore_n (lv' := [(3, .int (nI (a + 1))), (0, .ref (o 0 0)), (1, .int q), (2, .int (nI a))]) hx hb d_Nm_lost_16 rfl hl (by decide) rfl (fun ls hl => ?_)
        have loop17 : ∀ (fuel : Nat) (b9 : Nat) (w2 : Nat → Int32), z 3 0 - b9 < fuel → (b9 ≤ z 3 0) → (a < b9) → (anyTo (lowP a (lostQ z K q a)) b9 = false) → ∀ (H : Heap) (locs : List Loc), nmP D cs N0 H o z (upK K 9 0 w2) r → va_S (jA [o 9 0] N) s.heap H locs → ∀ (ls : Array Slot), lv_has ls 4 [(0, .ref (o 0 0)), (1, .int q), (2, .int (nI a)), (3, .int (nI b9))] → W p l e (headSpec w_Nm_lost ({ frames := 9, cells := 0, slots := 0, locals := 208 })).room s m ([.ref (o 0 0), .int q] : List Value).toArray below meth c H locs 0 0 (MQ below (hQi (fun r9 H' => r9 = bI (lostV z K q) ∧ ∃ w : Nat → Int32, nmP D cs N0 H' o z (upK K 9 0 w) r) (jA [o 9 0] N)) ([.ref (o 0 0), .int q] : List Value).toArray s 0 0 (jA [o 9 0] N)) (F0 m 17 ls []) := by
          intro fuel17
          induction fuel17 with
          | zero => intro b9 w2 hn; exact absurd hn (Nat.not_lt_zero _)
          | succ fuel17 ih17 =>
            intro b9 w2 hn17 hb9 hab hq H locs hI hS ls hl
            have hz9 := hS.1
            refine lv_iload_n hx hb d_Nm_lost_17 rfl (lv_at hl 3 rfl) ?_
            refine lv_aload_n hx hb d_Nm_lost_18 rfl (lv_at hl 0 rfl) ?_
            refine hx_get (ref := "NameMerges") (v := .ref (o 3 0)) hx hb htg iNm hown hK (show va_at D vwCl (o 0 0, .inr (1, [.ref (o 1 0), .ref (o 3 0), .ref (o 5 0), .ref (o 7 0), .ref (o 8 0), .int (nI (z 0 0)), .int (K 0 0 0), .ref (o 9 0)])) H from hI.at (k := 0) (n := 0) (show nmv z 0 0 from rfl)) rfl 1 (by decide) (htg _ (gw_mem (i := 127) (by decide +kernel) rfl)) (fun _ h9 => h9) rfl d_Nm_lost_19 ?_
            refine h_purei (va_runV (As := []) (rest := [.int (nI b9)]) ⟨hx, hb, hml, hown, htg⟩ (c_AL_size l D cs N0 H (o 3 0) (nmL cs (z 3 0) (o 4 0)) (z 3 0) (K 3 0 0) (show va_at D vwCl (o 3 0, .inr (6, [.ref (nmL cs (z 3 0) (o 4 0)), .int (nI (z 3 0)), .int (K 3 0 0)])) H from hI.at (k := 3) (n := 0) (show nmv z 3 0 from rfl))) ⟨x_cwB 0 htg (gw_mem (i := 503) (by decide +kernel) rfl) (gw_mem (i := 37) (by decide +kernel) rfl) (gw_mem (i := 500) (by decide +kernel) rfl) (by decide +kernel) ⟨Nat.le_of_ble_eq_true rfl, Nat.le_of_ble_eq_true rfl⟩, htg _ (gw_mem (i := 501) (by decide +kernel) rfl), htg _ (gw_mem (i := 502) (by decide +kernel) rfl)⟩ ⟨hPre.blind, hx_recv hK (ci := 6) rfl (show va_at D vwCl (o 3 0, .inr (6, [.ref (nmL cs (z 3 0) (o 4 0)), .int (nI (z 3 0)), .int (K 3 0 0)])) H from hI.at (k := 3) (n := 0) (show nmv z 3 0 from rfl)), hPre.at hB hS hAN⟩ rfl rfl hl.1 rfl (lv_room (Nat.le_of_ble_eq_true rfl)) d_Nm_lost_22 ⟨Nat.le_of_ble_eq_true rfl, Nat.le_of_ble_eq_true rfl⟩) hS (fun locs hS => ?_)
            refine lv_icmp_ge (x := (nI b9)) (y := (nI (z 3 0))) (tgt := 66) hx hb d_Nm_lost_25 (by decide) (fun c25 => ?_) (fun c25 => ?_)
            · skip
              replace c25 : (z 3 0) ≤ b9 := (nI_leI (a := (z 3 0)) (b := b9) (by omega) (by omega)).mp c25
              refine lv_iinc (v := (nI (a + 1))) (lv' := [(2, .int (nI (a + 1))), (0, .ref (o 0 0)), (1, .int q), (3, .int (nI b9))]) hx hb d_Nm_lost_66 hl (k := 2) rfl (nI_1 a) (by decide) rfl (fun ls hl => ?_)
              refine lv_goto (tgt := 2) hx hb d_Nm_lost_69 (by decide) ?_
              exact ih2  (a + 1) w2 (by omega) (by omega) (by rw [anyTo, hp, show z 3 0 = b9 by omega, hq]; rfl) _ _ hI hS ls (lv_sub hl [1, 2, 0] rfl)
            · skip
              replace c25 : ¬ ((z 3 0) ≤ b9) := fun z9 => c25 ((nI_leI (a := (z 3 0)) (b := b9) (by omega) (by omega)).mpr z9)
              refine lv_aload_n hx hb d_Nm_lost_28 rfl (lv_at hl 0 rfl) ?_
              refine lv_aload_n hx hb d_Nm_lost_29 rfl (lv_at hl 0 rfl) ?_
              refine hx_get (ref := "NameMerges") (v := .ref (o 3 0)) hx hb htg iNm hown hK (show va_at D vwCl (o 0 0, .inr (1, [.ref (o 1 0), .ref (o 3 0), .ref (o 5 0), .ref (o 7 0), .ref (o 8 0), .int (nI (z 0 0)), .int (K 0 0 0), .ref (o 9 0)])) H from hI.at (k := 0) (n := 0) (show nmv z 0 0 from rfl)) rfl 1 (by decide) (htg _ (gw_mem (i := 127) (by decide +kernel) rfl)) (fun _ h9 => h9) rfl d_Nm_lost_30 ?_
              refine lv_iload_n hx hb d_Nm_lost_33 rfl (lv_at hl 2 rfl) ?_
              refine h_pureq (va_runV (As := [.int (nI a)]) (rest := [.ref (o 0 0)]) ⟨hx, hb, hml, hown, htg⟩ (c_names_get l D cs N0 H o z (upK K 9 0 w2) r a hI (show a < z 3 0 by omega)) ⟨x_cwB 1 htg (gw_mem (i := 512) (by decide +kernel) rfl) (gw_mem (i := 37) (by decide +kernel) rfl) (gw_mem (i := 509) (by decide +kernel) rfl) (by decide +kernel) ⟨Nat.le_of_ble_eq_true rfl, Nat.le_of_ble_eq_true rfl⟩, htg _ (gw_mem (i := 510) (by decide +kernel) rfl), htg _ (gw_mem (i := 511) (by decide +kernel) rfl)⟩ ⟨hPre.blind, hx_recv hK (ci := 6) rfl (show va_at D vwCl (o 3 0, .inr (6, [.ref (nmL cs (z 3 0) (o 4 0)), .int (nI (z 3 0)), .int (K 3 0 0)])) H from hI.at (k := 3) (n := 0) (show nmv z 3 0 from rfl)), hPre.at hB hS hAN⟩ rfl rfl hl.1 rfl (lv_room (Nat.le_of_ble_eq_true rfl)) d_Nm_lost_34 ⟨Nat.le_of_ble_eq_true rfl, Nat.le_of_ble_eq_true rfl⟩) hS (fun locs hS => ?_)
              refine lv_eqv (y := .ref (o 10 a)) rfl ?_
              refine va_castS hx hb hown (htg _ (gw_mem (i := 536) (by decide +kernel) rfl)) (x_at hK (ci := 2) rfl) (hx_recv hK (ci := 2) rfl (show va_at D vwCl (o 10 a, .inr (2, [.ref (o 11 a), .ref (o 13 a), va_rf (if z 14 a = 0 then none else some (o 14 a)), .int (K 10 a 0), .int (K 10 a 1), .int (K 10 a 2), .int (K 10 a 3)])) H from hI.at (k := 10) (n := a) (show nmv z 10 a from (show a < z 3 0 by omega)))) d_Nm_lost_37 ?_
              refine lv_aload_n hx hb d_Nm_lost_40 rfl (lv_at hl 0 rfl) ?_
              refine hx_get (ref := "NameMerges") (v := .ref (o 3 0)) hx hb htg iNm hown hK (show va_at D vwCl (o 0 0, .inr (1, [.ref (o 1 0), .ref (o 3 0), .ref (o 5 0), .ref (o 7 0), .ref (o 8 0), .int (nI (z 0 0)), .int (K 0 0 0), .ref (o 9 0)])) H from hI.at (k := 0) (n := 0) (show nmv z 0 0 from rfl)) rfl 1 (by decide) (htg _ (gw_mem (i := 127) (by decide +kernel) rfl)) (fun _ h9 => h9) rfl d_Nm_lost_41 ?_
              refine lv_iload_n hx hb d_Nm_lost_44 rfl (lv_at hl 3 rfl) ?_
              refine h_pureq (va_runV (As := [.int (nI b9)]) (rest := [.ref (o 10 a), .ref (o 0 0)]) ⟨hx, hb, hml, hown, htg⟩ (c_names_get l D cs N0 H o z (upK K 9 0 w2) r b9 hI (show b9 < z 3 0 by omega)) ⟨x_cwB 1 htg (gw_mem (i := 512) (by decide +kernel) rfl) (gw_mem (i := 37) (by decide +kernel) rfl) (gw_mem (i := 509) (by decide +kernel) rfl) (by decide +kernel) ⟨Nat.le_of_ble_eq_true rfl, Nat.le_of_ble_eq_true rfl⟩, htg _ (gw_mem (i := 510) (by decide +kernel) rfl), htg _ (gw_mem (i := 511) (by decide +kernel) rfl)⟩ ⟨hPre.blind, hx_recv hK (ci := 6) rfl (show va_at D vwCl (o 3 0, .inr (6, [.ref (nmL cs (z 3 0) (o 4 0)), .int (nI (z 3 0)), .int (K 3 0 0)])) H from hI.at (k := 3) (n := 0) (show nmv z 3 0 from rfl)), hPre.at hB hS hAN⟩ rfl rfl hl.1 rfl (lv_room (Nat.le_of_ble_eq_true rfl)) d_Nm_lost_45 ⟨Nat.le_of_ble_eq_true rfl, Nat.le_of_ble_eq_true rfl⟩) hS (fun locs hS => ?_)
              refine lv_eqv (y := .ref (o 10 b9)) rfl ?_
              refine va_castS hx hb hown (htg _ (gw_mem (i := 536) (by decide +kernel) rfl)) (x_at hK (ci := 2) rfl) (hx_recv hK (ci := 2) rfl (show va_at D vwCl (o 10 b9, .inr (2, [.ref (o 11 b9), .ref (o 13 b9), va_rf (if z 14 b9 = 0 then none else some (o 14 b9)), .int (K 10 b9 0), .int (K 10 b9 1), .int (K 10 b9 2), .int (K 10 b9 3)])) H from hI.at (k := 10) (n := b9) (show nmv z 10 b9 from (show b9 < z 3 0 by omega)))) d_Nm_lost_48 ?_
              refine lv_iload_n hx hb d_Nm_lost_51 rfl (lv_at hl 1 rfl) ?_
              obtain ⟨nq1, hnq1⟩ : ∃ z : Nat, z = H.size := ⟨_, rfl⟩
              refine h_calli (va_runV (As := [.ref (o 10 a), .ref (o 10 b9), .int q]) (rest := []) ⟨hx, hb, hml, hown, htg⟩ (c_Nm_isLost l D cs N0 H o z K r w2 nq1 a b9 q hI hnq1 (show a < z 3 0 by omega) (show b9 < z 3 0 by omega)) ⟨x_cwB 3 htg (gw_mem (i := 595) (by decide +kernel) rfl) (gw_mem (i := 30) (by decide +kernel) rfl) (gw_mem (i := 592) (by decide +kernel) rfl) (by decide +kernel) ⟨Nat.le_of_ble_eq_true rfl, Nat.le_of_ble_eq_true rfl⟩, htg _ (gw_mem (i := 594) (by decide +kernel) rfl), htg _ (gw_mem (i := 7) (by decide +kernel) rfl)⟩ ⟨hPre.blind, hx_recv hK (ci := 1) rfl (show va_at D vwCl (o 0 0, .inr (1, [.ref (o 1 0), .ref (o 3 0), .ref (o 5 0), .ref (o 7 0), .ref (o 8 0), .int (nI (z 0 0)), .int (K 0 0 0), .ref (o 9 0)])) H from hI.at (k := 0) (n := 0) (show nmv z 0 0 from rfl)), hPre.at hB hS hAN⟩ rfl rfl hl.1 rfl (lv_room (Nat.le_of_ble_eq_true rfl)) d_Nm_lost_52 ⟨Nat.le_of_ble_eq_true rfl, Nat.le_of_ble_eq_true rfl⟩) hS (jA_sub1 jA_in1 (fun q9 h9 => Or.inr (show N ≤ q9 by omega))) (fun r52 H locs hp hz hk hS => ?_)
              obtain ⟨hr9, w2, hI⟩ := hp
              subst hr9
              refine lv_if_eq (x := (bI (lostP z K a b9 q))) (tgt := 60) hx hb d_Nm_lost_55 (by decide) (fun c55 => ?_) (fun c55 => ?_)
              · skip
                replace c55 : (lostP z K a b9 q) = false := bI_0 c55
                refine lv_iinc (v := (nI (b9 + 1))) (lv' := [(3, .int (nI (b9 + 1))), (0, .ref (o 0 0)), (1, .int q), (2, .int (nI a))]) hx hb d_Nm_lost_60 hl (k := 3) rfl (nI_1 b9) (by decide) rfl (fun ls hl => ?_)
                refine lv_goto (tgt := 17) hx hb d_Nm_lost_63 (by decide) ?_
                exact ih17  (b9 + 1) w2 (by omega) (by omega) (by omega) (by rw [anyTo, hq]; simp [lowP, lostQ, c55]) _ _ hI hS ls (lv_sub hl [1, 2, 3, 0] rfl)
              · skip
                replace c55 : (lostP z K a b9 q) = true := bI_1 c55
                refine lv_iconst (v := 1) hx hb d_Nm_lost_58 (by decide) ?_
                exact W.zret (v := 1) hx hb hr (by decide) (fun t ht hW => ⟨⟨1, H, rfl, ⟨by rw [lostV, any_at (P := fun a => anyTo (lowP a (lostQ z K q a)) (z 3 0)) (i := a) (by omega) (any_at (i := b9) (by omega) (show lowP a (lostQ z K q a) b9 = true by simp [lowP, lostQ, hab, c55]))]; rfl, _, hI⟩, ht⟩, hS.F ht⟩) hS.2.2 d_Nm_lost_59
        exact loop17 ((z 3 0 - (a + 1)) + 1) (a + 1) w (Nat.lt_succ_self _) (by omega) (by omega) (any_low _ _ _ (Nat.le_refl _)) _ _ hI hS ls (lv_sub hl [1, 2, 3, 0] rfl)
  exact loop2 ((z 3 0 - 0) + 1) 0 (K 9 0) (Nat.lt_succ_self _) (Nat.zero_le _) rfl _ _ hI hS ls (lv_sub hl [1, 2, 0] rfl)
def y_Nm_decide : MethodName := ⟨"NameMerges", "decide", "(III)I"⟩
abbrev w_Nm_decide : List Cond := Cond.code y_Nm_decide prog_1_method_11_code 6 (Option.some Jvm.ClassFile.FieldType.int) :: gw
theorem d_Nm_decide_0 : decode prog_1_method_11_code 0 = .ok (.aload_n 0, 1) := by decide +kernel
theorem d_Nm_decide_1 : decode prog_1_method_11_code 1 = .ok (.iload_n 1, 1) := by decide +kernel
theorem d_Nm_decide_2 : decode prog_1_method_11_code 2 = .ok (.invokevirtual 79, 3) := by decide +kernel
theorem d_Nm_decide_5 : decode prog_1_method_11_code 5 = .ok (.aload_n 0, 1) := by decide +kernel
theorem d_Nm_decide_6 : decode prog_1_method_11_code 6 = .ok (.iload_n 2, 1) := by decide +kernel
theorem d_Nm_decide_7 : decode prog_1_method_11_code 7 = .ok (.invokevirtual 79, 3) := by decide +kernel
theorem d_Nm_decide_10 : decode prog_1_method_11_code 10 = .ok (.iload_n 1, 1) := by decide +kernel
theorem d_Nm_decide_11 : decode prog_1_method_11_code 11 = .ok (.iload_n 2, 1) := by decide +kernel
theorem d_Nm_decide_12 : decode prog_1_method_11_code 12 = .ok (.invokestatic 162, 3) := by decide +kernel
theorem d_Nm_decide_15 : decode prog_1_method_11_code 15 = .ok (.iload_n 3, 1) := by decide +kernel
theorem d_Nm_decide_16 : decode prog_1_method_11_code 16 = .ok (.ifCond .lt 8, 3) := by decide +kernel
theorem d_Nm_decide_19 : decode prog_1_method_11_code 19 = .ok (.iload_n 3, 1) := by decide +kernel
theorem d_Nm_decide_20 : decode prog_1_method_11_code 20 = .ok (.iconst 2, 1) := by decide +kernel
theorem d_Nm_decide_21 : decode prog_1_method_11_code 21 = .ok (.if_icmp .le 13, 3) := by decide +kernel
theorem d_Nm_decide_24 : decode prog_1_method_11_code 24 = .ok (.new 54, 3) := by decide +kernel
theorem d_Nm_decide_27 : decode prog_1_method_11_code 27 = .ok (.dup, 1) := by decide +kernel
theorem d_Nm_decide_28 : decode prog_1_method_11_code 28 = .ok (.ldc 165, 2) := by decide +kernel
theorem d_Nm_decide_30 : decode prog_1_method_11_code 30 = .ok (.invokespecial 58, 3) := by decide +kernel
theorem d_Nm_decide_33 : decode prog_1_method_11_code 33 = .ok (.athrow, 1) := by decide +kernel
theorem d_Nm_decide_34 : decode prog_1_method_11_code 34 = .ok (.iload_n 1, 1) := by decide +kernel
theorem d_Nm_decide_35 : decode prog_1_method_11_code 35 = .ok (.iload_n 2, 1) := by decide +kernel
theorem d_Nm_decide_36 : decode prog_1_method_11_code 36 = .ok (.invokestatic 145, 3) := by decide +kernel
theorem d_Nm_decide_39 : decode prog_1_method_11_code 39 = .ok (.istore 4, 2) := by decide +kernel
theorem d_Nm_decide_41 : decode prog_1_method_11_code 41 = .ok (.aload_n 0, 1) := by decide +kernel
theorem d_Nm_decide_42 : decode prog_1_method_11_code 42 = .ok (.getfield 26, 3) := by decide +kernel
theorem d_Nm_decide_45 : decode prog_1_method_11_code 45 = .ok (.iload 4, 2) := by decide +kernel
theorem d_Nm_decide_47 : decode prog_1_method_11_code 47 = .ok (.iaload, 1) := by decide +kernel
theorem d_Nm_decide_48 : decode prog_1_method_11_code 48 = .ok (.istore 5, 2) := by decide +kernel
theorem d_Nm_decide_50 : decode prog_1_method_11_code 50 = .ok (.aload_n 0, 1) := by decide +kernel
theorem d_Nm_decide_51 : decode prog_1_method_11_code 51 = .ok (.getfield 26, 3) := by decide +kernel
theorem d_Nm_decide_54 : decode prog_1_method_11_code 54 = .ok (.iload 4, 2) := by decide +kernel
theorem d_Nm_decide_56 : decode prog_1_method_11_code 56 = .ok (.iload_n 3, 1) := by decide +kernel
theorem d_Nm_decide_57 : decode prog_1_method_11_code 57 = .ok (.iastore, 1) := by decide +kernel
theorem d_Nm_decide_58 : decode prog_1_method_11_code 58 = .ok (.iload 5, 2) := by decide +kernel
theorem d_Nm_decide_60 : decode prog_1_method_11_code 60 = .ok (.ireturn, 1) := by decide +kernel
set_option maxHeartbeats 4000000 in
set_option maxRecDepth 100000 in
theorem c_Nm_decide (l : Launch) (D : va_G) (cs : Nat → ClassId) (N0 : Nat) (H : Heap) (hl9 : l.stackTraces = false) (o z : Nat → Nat → Nat) (K : Nat → Nat → Nat → Int32) (r : Nat → Nat × Nat) (N : Nat) (qa qb kd : Int32) (hI : nmP D cs N0 H o z K r) (hN : N = H.size) : tMet l y_Nm_decide w_Nm_decide ({ frames := 7, cells := 4, slots := 24, locals := 103 }) (hPre D cs N0 [.ref (o 0 0), .int qa, .int qb, .int kd] H) (hT (fun v H' => goV (isN (z 3 0) qa && isN (z 3 0) qb) (!decide (qa = qb) && !decide (kd < 0) && !decide (2 < kd)) true = 0 ∧ v = some (.int (K 7 0 (min (tn qa) (tn qb) * 24 + max (tn qa) (tn qb)))) ∧ nmP D cs N0 H' o z (upK K 7 0 (upd (K 7 0) (min (tn qa) (tn qb) * 24 + max (tn qa) (tn qb)) kd)) r) (fun E => (E = "java/lang/IndexOutOfBoundsException" ∧ goV (isN (z 3 0) qa && isN (z 3 0) qb) (!decide (qa = qb) && !decide (kd < 0) && !decide (2 < kd)) true = 1) ∨ (E = "java/lang/IllegalArgumentException" ∧ goV (isN (z 3 0) qa && isN (z 3 0) qb) (!decide (qa = qb) && !decide (kd < 0) && !decide (2 < kd)) true = 2)) (nmA r N)) 4 24 (nmA r N) := by
  refine tMet.ofW (cc := prog_1_method_11_code) (maxL := 6) (ret := (Option.some Jvm.ClassFile.FieldType.int)) (by decide) rfl ?_
  intro p e s m args below meth c s₁ B hml hno hv
  obtain ⟨rfl, rfl, hB⟩ := hv
  have hx := B.exec
  have hb := B.bytes
  have hr := B.returns
  have hts := atoms_spec (ws := w_Nm_decide) B.pre
  have htg : ∀ w ∈ gw, w.before _ s = true := fun w h => hts w (List.mem_cons_of_mem _ h)
  have hown : s.vm.findClass "NameMerges" = some m.cls := findClass_of_methodNamed B.named
  have hlocks := B.notSynchronized
  have hAN : ∀ q, nmA r N q → N0 ≤ q := fun q9 h9 => h9.elim (hI.2.1 q9) (fun h9 => Nat.le_trans hB.2.1 (hN ▸ h9))
  have hK := hB.1
  obtain ⟨H, hH⟩ : ∃ z : Heap, z = s.heap := ⟨_, rfl⟩
  have hz0 : H.size = s.heap.size := by rw [hH]
  have hN0 := hB.2.1
  rw [← hH] at hI
  have hS : va_S noA s.heap H [] := by rw [hH]; exact va_S.rf
  have hl := lv_entry ([.ref (o 0 0), .int qa, .int qb, .int kd]) (n := 6) (Nat.le_of_ble_eq_true rfl)
  rw [lg_entry_eq, ← hH]
  generalize (lg_sl ([.ref (o 0 0), .int qa, .int qb, .int kd]) ++ List.replicate (6 - (lg_sl ([.ref (o 0 0), .int qa, .int qb, .int kd])).length) Slot.unset).toArray = ls at hl ⊢
  have hl : lv_has ls 6 [(0, .ref (o 0 0)), (1, .int qa), (2, .int qb), (3, .int kd)] := hl
  obtain ⟨hb0, hb1, hb3, hb5, hb4, hb6, hb11, hb17⟩ := hI.2.2.1
  refine lv_aload_n hx hb d_Nm_decide_0 rfl (lv_at hl 0 rfl) ?_
  refine lv_iload_n hx hb d_Nm_decide_1 rfl (lv_at hl 1 rfl) ?_
  refine t_V (As := [.int qa]) (rest := []) ⟨hx, hb, hml, hown, htg⟩ (c_Nm_checkName l D cs N0 H hl9 o z K r qa hI) ⟨x_cwB 1 htg (gw_mem (i := 738) (by decide +kernel) rfl) (gw_mem (i := 30) (by decide +kernel) rfl) (gw_mem (i := 735) (by decide +kernel) rfl) (by decide +kernel) ⟨Nat.le_of_ble_eq_true rfl, Nat.le_of_ble_eq_true rfl⟩, htg _ (gw_mem (i := 737) (by decide +kernel) rfl), htg _ (gw_mem (i := 11) (by decide +kernel) rfl)⟩ ⟨hPre.blind, hx_recv hK (ci := 1) rfl (show va_at D vwCl (o 0 0, .inr (1, [.ref (o 1 0), .ref (o 3 0), .ref (o 5 0), .ref (o 7 0), .ref (o 8 0), .int (nI (z 0 0)), .int (K 0 0 0), .ref (o 9 0)])) H from hI.at (k := 0) (n := 0) (show nmv z 0 0 from rfl)), hPre.at hB hS noA_in⟩ rfl hl.1 rfl (lv_room (Nat.le_of_ble_eq_true rfl)) d_Nm_decide_2 ⟨Nat.le_of_ble_eq_true rfl, Nat.le_of_ble_eq_true rfl⟩ (fun x9 E9 ce9 H9 L9 hL9 hb9 hc9 hv9 hf9 hz9 hk9 => ?_) (fun v9 H9 L9 hL9 hp9 hz9 hk9 => ?_)
  · have hn9 := noL hL9
    subst hn9
    have hnil := noL hS.2.2
    first | subst hnil | skip
    exact t_out (A := (nmA r N)) rfl hno hlocks ((Or.inl ⟨hb9.1, by simp [goV, hb9.2]⟩)) hc9 hv9 hf9 (Nat.le_of_ble_eq_true rfl) (Nat.le_of_ble_eq_true rfl)
  · skip
    obtain ⟨hv9, hH9, hq1⟩ := hp9
    have hn8 := noL hL9
    subst hn8
    rw [hv9, hH9, List.append_nil]
    refine W.eq (g2 := F0 m 5 ls []) rfl ?_
    obtain ⟨j_qa, hj_qa, e_qa⟩ := isN_of hq1 (by omega)
    rw [e_qa] at hq1
    refine lv_aload_n hx hb d_Nm_decide_5 rfl (lv_at hl 0 rfl) ?_
    refine lv_iload_n hx hb d_Nm_decide_6 rfl (lv_at hl 2 rfl) ?_
    refine t_V (As := [.int qb]) (rest := []) ⟨hx, hb, hml, hown, htg⟩ (c_Nm_checkName l D cs N0 H hl9 o z K r qb hI) ⟨x_cwB 1 htg (gw_mem (i := 738) (by decide +kernel) rfl) (gw_mem (i := 30) (by decide +kernel) rfl) (gw_mem (i := 735) (by decide +kernel) rfl) (by decide +kernel) ⟨Nat.le_of_ble_eq_true rfl, Nat.le_of_ble_eq_true rfl⟩, htg _ (gw_mem (i := 737) (by decide +kernel) rfl), htg _ (gw_mem (i := 11) (by decide +kernel) rfl)⟩ ⟨hPre.blind, hx_recv hK (ci := 1) rfl (show va_at D vwCl (o 0 0, .inr (1, [.ref (o 1 0), .ref (o 3 0), .ref (o 5 0), .ref (o 7 0), .ref (o 8 0), .int (nI (z 0 0)), .int (K 0 0 0), .ref (o 9 0)])) H from hI.at (k := 0) (n := 0) (show nmv z 0 0 from rfl)), hPre.at hB hS noA_in⟩ rfl hl.1 rfl (lv_room (Nat.le_of_ble_eq_true rfl)) d_Nm_decide_7 ⟨Nat.le_of_ble_eq_true rfl, Nat.le_of_ble_eq_true rfl⟩ (fun x9 E9 ce9 H9 L9 hL9 hb9 hc9 hv9 hf9 hz9 hk9 => ?_) (fun v9 H9 L9 hL9 hp9 hz9 hk9 => ?_)
    · have hn9 := noL hL9
      subst hn9
      have hnil := noL hS.2.2
      first | subst hnil | skip
      exact t_out (A := (nmA r N)) rfl hno hlocks ((Or.inl ⟨hb9.1, by simp [goV, e_qa, hq1, hb9.2]⟩)) hc9 hv9 hf9 (Nat.le_of_ble_eq_true rfl) (Nat.le_of_ble_eq_true rfl)
    · skip
      obtain ⟨hv9, hH9, hq2⟩ := hp9
      have hn8 := noL hL9
      subst hn8
      rw [hv9, hH9, List.append_nil]
      refine W.eq (g2 := F0 m 10 ls []) rfl ?_
      obtain ⟨j_qb, hj_qb, e_qb⟩ := isN_of hq2 (by omega)
      rw [e_qb] at hq2
      refine lv_iload_n hx hb d_Nm_decide_10 rfl (lv_at hl 1 rfl) ?_
      refine lv_eqi (y := (nI j_qa)) e_qa ?_
      refine lv_iload_n hx hb d_Nm_decide_11 rfl (lv_at hl 2 rfl) ?_
      refine lv_eqi (y := (nI j_qb)) e_qb ?_
      refine t_S (As := [.int (nI j_qa), .int (nI j_qb)]) (rest := []) ⟨hx, hb, hml, hown, htg⟩ (c_Nm_checkDiffer l D cs N0 H hl9 (nI j_qa) (nI j_qb)) ⟨x_cwB 2 htg (gw_mem (i := 835) (by decide +kernel) rfl) (gw_mem (i := 30) (by decide +kernel) rfl) (gw_mem (i := 833) (by decide +kernel) rfl) (by decide +kernel) ⟨Nat.le_of_ble_eq_true rfl, Nat.le_of_ble_eq_true rfl⟩, htg _ (gw_mem (i := 834) (by decide +kernel) rfl)⟩ ⟨hPre.blind, hPre.at hB hS noA_in⟩ rfl hl.1 rfl (lv_room (Nat.le_of_ble_eq_true rfl)) d_Nm_decide_12 ⟨Nat.le_of_ble_eq_true rfl, Nat.le_of_ble_eq_true rfl⟩ (fun x9 E9 ce9 H9 L9 hL9 hb9 hc9 hv9 hf9 hz9 hk9 => ?_) (fun v9 H9 L9 hL9 hp9 hz9 hk9 => ?_)
      · have hn9 := noL hL9
        subst hn9
        have hnil := noL hS.2.2
        first | subst hnil | skip
        exact t_out (A := (nmA r N)) rfl hno hlocks ((Or.inr (⟨hb9.1, by simp [goV, e_qa, e_qb, hq1, hq2, hb9.2]⟩))) hc9 hv9 hf9 (Nat.le_of_ble_eq_true rfl) (Nat.le_of_ble_eq_true rfl)
      · skip
        obtain ⟨hv9, hH9, hq3⟩ := hp9
        have hn8 := noL hL9
        subst hn8
        rw [hv9, hH9, List.append_nil]
        refine W.eq (g2 := F0 m 15 ls []) rfl ?_
        refine lv_iload_n hx hb d_Nm_decide_15 rfl (lv_at hl 3 rfl) ?_
        refine lv_if_lt (x := kd) (tgt := 24) hx hb d_Nm_decide_16 (by decide) (fun c16 => ?_) (fun c16 => ?_)
        · skip
          have hnil := noL hS.2.2
          first | subst hnil | skip
          exact t_throw (A := (nmA r N)) (text := "there is no such kind of decision") (names := exUp) hx hb hl9 hown (by decide) (by decide) (htg _ (gw_mem (i := 621) (by decide +kernel) rfl)) (htg _ (gw_mem (i := 43) (by decide +kernel) rfl)) (zStr (q := ("NameMerges", 165, "there is no such kind of decision")) hB (by decide)) (fun a ha => zOk_before htg hB (List.all_eq_true.mp own_iae a ha)) hS.1 (hl.1.trans hml.symm) d_Nm_decide_24 d_Nm_decide_27 d_Nm_decide_28 d_Nm_decide_30 d_Nm_decide_33 hno (Nat.le_of_ble_eq_true rfl) (Nat.le_of_ble_eq_true rfl) (Nat.le_of_ble_eq_true rfl) (Nat.le_of_ble_eq_true rfl) hlocks (Or.inr (⟨rfl, by simp [goV, c16, Int32.not_le.mpr c16, e_qa, e_qb, hq1, hq2, hq3]⟩)) (Nat.le_of_ble_eq_true rfl) (Nat.le_of_ble_eq_true rfl)
        · skip
          refine lv_iload_n hx hb d_Nm_decide_19 rfl (lv_at hl 3 rfl) ?_
          refine lv_iconst (v := 2) hx hb d_Nm_decide_20 (by decide) ?_
          refine lv_icmp_le (x := kd) (y := 2) (tgt := 34) hx hb d_Nm_decide_21 (by decide) (fun c21 => ?_) (fun c21 => ?_)
          · skip
            refine lv_iload_n hx hb d_Nm_decide_34 rfl (lv_at hl 1 rfl) ?_
            refine lv_eqi (y := (nI j_qa)) e_qa ?_
            refine lv_iload_n hx hb d_Nm_decide_35 rfl (lv_at hl 2 rfl) ?_
            refine lv_eqi (y := (nI j_qb)) e_qb ?_
            refine h_purei (va_runS (As := [.int (nI j_qa), .int (nI j_qb)]) (rest := []) ⟨hx, hb, hml, hown, htg⟩ (c_Nm_placeOf l D cs N0 H (nI j_qa) (nI j_qb)) ⟨x_cwB 2 htg (gw_mem (i := 533) (by decide +kernel) rfl) (gw_mem (i := 30) (by decide +kernel) rfl) (gw_mem (i := 531) (by decide +kernel) rfl) (by decide +kernel) ⟨Nat.le_of_ble_eq_true rfl, Nat.le_of_ble_eq_true rfl⟩, htg _ (gw_mem (i := 532) (by decide +kernel) rfl)⟩ ⟨hPre.blind, hPre.at hB hS noA_in⟩ rfl rfl hl.1 rfl (lv_room (Nat.le_of_ble_eq_true rfl)) d_Nm_decide_36 ⟨Nat.le_of_ble_eq_true rfl, Nat.le_of_ble_eq_true rfl⟩) hS (fun locs hS => ?_)
            refine lv_eqi (y := (nI (min j_qa j_qb * 24 + max j_qa j_qb))) (plc_nI (by omega) (by omega)) ?_
            refine lv_istore (lv' := [(4, .int (nI (min j_qa j_qb * 24 + max j_qa j_qb))), (0, .ref (o 0 0)), (1, .int qa), (2, .int qb), (3, .int kd)]) hx hb d_Nm_decide_39 hl (by decide) rfl (fun ls hl => ?_)
            refine lv_aload_n hx hb d_Nm_decide_41 rfl (lv_at hl 1 rfl) ?_
            refine hx_get (ref := "NameMerges") (v := .ref (o 7 0)) hx hb htg iNm hown hK (show va_at D vwCl (o 0 0, .inr (1, [.ref (o 1 0), .ref (o 3 0), .ref (o 5 0), .ref (o 7 0), .ref (o 8 0), .int (nI (z 0 0)), .int (K 0 0 0), .ref (o 9 0)])) H from hI.at (k := 0) (n := 0) (show nmv z 0 0 from rfl)) rfl 3 (by decide) (htg _ (gw_mem (i := 129) (by decide +kernel) rfl)) (fun _ h9 => h9) rfl d_Nm_decide_42 ?_
            refine lv_iload hx hb d_Nm_decide_45 (lv_at hl 0 rfl) ?_
            refine hx_iald hx hb hK 0 (show va_at D vwCl (o 7 0, .inl (cs 0, (576, .inl (K 7 0)))) H from hI.at (k := 7) (n := 0) (show nmv z 7 0 from rfl)) rfl (show vp_in (nI (min j_qa j_qb * 24 + max j_qa j_qb)) 576 from vp_in_nI (n := min j_qa j_qb * 24 + max j_qa j_qb) (by omega) (by omega)) d_Nm_decide_47 ?_
            refine lv_eqi (y := ((K 7 0) (min j_qa j_qb * 24 + max j_qa j_qb))) (show (K 7 0) (nI (min j_qa j_qb * 24 + max j_qa j_qb)).toNatClampNeg = _ by rw [nI_clamp (by omega)]) ?_
            refine lv_istore (lv' := [(5, .int ((K 7 0) (min j_qa j_qb * 24 + max j_qa j_qb))), (4, .int (nI (min j_qa j_qb * 24 + max j_qa j_qb))), (0, .ref (o 0 0)), (1, .int qa), (2, .int qb), (3, .int kd)]) hx hb d_Nm_decide_48 hl (by decide) rfl (fun ls hl => ?_)
            refine lv_aload_n hx hb d_Nm_decide_50 rfl (lv_at hl 2 rfl) ?_
            refine hx_get (ref := "NameMerges") (v := .ref (o 7 0)) hx hb htg iNm hown hK (show va_at D vwCl (o 0 0, .inr (1, [.ref (o 1 0), .ref (o 3 0), .ref (o 5 0), .ref (o 7 0), .ref (o 8 0), .int (nI (z 0 0)), .int (K 0 0 0), .ref (o 9 0)])) H from hI.at (k := 0) (n := 0) (show nmv z 0 0 from rfl)) rfl 3 (by decide) (htg _ (gw_mem (i := 129) (by decide +kernel) rfl)) (fun _ h9 => h9) rfl d_Nm_decide_51 ?_
            refine lv_iload hx hb d_Nm_decide_54 (lv_at hl 1 rfl) ?_
            refine lv_iload_n hx hb d_Nm_decide_56 rfl (lv_at hl 5 rfl) ?_
            replace hS := x_wk (A' := (nmA r N)) hS (fun _ h9 => h9.elim)
            refine hx_iast hx hb hK hS (hI.inA (k := 7) (n := 0) (show nmv z 7 0 from rfl)) 0 (show va_at D vwCl (o 7 0, .inl (cs 0, (576, .inl (K 7 0)))) H from hI.at (k := 7) (n := 0) (show nmv z 7 0 from rfl)) rfl (show vp_in (nI (min j_qa j_qb * 24 + max j_qa j_qb)) 576 from vp_in_nI (n := min j_qa j_qb * 24 + max j_qa j_qb) (by omega) (by omega)) d_Nm_decide_57 (fun H locs hat hz ho hS => ?_)
            rw [show (nI (min j_qa j_qb * 24 + max j_qa j_qb)).toNatClampNeg = min j_qa j_qb * 24 + max j_qa j_qb from nI_clamp (n := min j_qa j_qb * 24 + max j_qa j_qb) (by omega)] at hat
            replace hI : nmP D cs N0 H o z (upK K 7 0 (upd ((K 7 0)) (min j_qa j_qb * 24 + max j_qa j_qb) (kd))) r := hI.put (k0 := 7) (n0 := 0) (show nmv z 7 0 from rfl) (by decide) hat (fun q9 _ h9 => ho q9 h9)
            refine lv_iload hx hb d_Nm_decide_58 (lv_at hl 0 rfl) ?_
            refine t_ret ?_
            refine W.widen (k := 4) (n := 24) (Nat.le_of_ble_eq_true rfl) (Nat.le_of_ble_eq_true rfl) ?_
            exact W.iret (v := ((K 7 0) (min j_qa j_qb * 24 + max j_qa j_qb))) hx hb hr (fun t ht hW => Or.inl ⟨some (.int (((K 7 0) (min j_qa j_qb * 24 + max j_qa j_qb)))), rfl, (by rw [ht]; exact (by simp only [e_qa, e_qb, tnI (j := j_qa) (by omega), tnI (j := j_qb) (by omega)]; exact ⟨(by simp [goV, c16, Int32.not_lt.mp c16, c21, Int32.not_lt.mpr c21, e_qa, e_qb, hq1, hq2, hq3]), (by first | trivial | rfl), hI⟩)), hS.F ht⟩) hS.2.2 d_Nm_decide_60
          · skip
            have hnil := noL hS.2.2
            first | subst hnil | skip
            exact t_throw (A := (nmA r N)) (text := "there is no such kind of decision") (names := exUp) hx hb hl9 hown (by decide) (by decide) (htg _ (gw_mem (i := 621) (by decide +kernel) rfl)) (htg _ (gw_mem (i := 43) (by decide +kernel) rfl)) (zStr (q := ("NameMerges", 165, "there is no such kind of decision")) hB (by decide)) (fun a ha => zOk_before htg hB (List.all_eq_true.mp own_iae a ha)) hS.1 (hl.1.trans hml.symm) d_Nm_decide_24 d_Nm_decide_27 d_Nm_decide_28 d_Nm_decide_30 d_Nm_decide_33 hno (Nat.le_of_ble_eq_true rfl) (Nat.le_of_ble_eq_true rfl) (Nat.le_of_ble_eq_true rfl) (Nat.le_of_ble_eq_true rfl) hlocks (Or.inr (⟨rfl, by simp [goV, c16, Int32.not_lt.mp c16, c21, Int32.not_le.mp c21, e_qa, e_qb, hq1, hq2, hq3]⟩)) (Nat.le_of_ble_eq_true rfl) (Nat.le_of_ble_eq_true rfl)
def y_Nm_outside : MethodName := ⟨"NameMerges", "outside", "(III)Z"⟩
abbrev w_Nm_outside : List Cond := Cond.code y_Nm_outside prog_1_method_19_code 5 (Option.some Jvm.ClassFile.FieldType.boolean) :: gw
theorem d_Nm_outside_0 : decode prog_1_method_19_code 0 = .ok (.aload_n 0, 1) := by decide +kernel
theorem d_Nm_outside_1 : decode prog_1_method_19_code 1 = .ok (.iload_n 1, 1) := by decide +kernel
theorem d_Nm_outside_2 : decode prog_1_method_19_code 2 = .ok (.invokevirtual 79, 3) := by decide +kernel
theorem d_Nm_outside_5 : decode prog_1_method_19_code 5 = .ok (.iload_n 2, 1) := by decide +kernel
theorem d_Nm_outside_6 : decode prog_1_method_19_code 6 = .ok (.invokestatic 216, 3) := by decide +kernel
theorem d_Nm_outside_9 : decode prog_1_method_19_code 9 = .ok (.iload_n 3, 1) := by decide +kernel
theorem d_Nm_outside_10 : decode prog_1_method_19_code 10 = .ok (.invokestatic 219, 3) := by decide +kernel
theorem d_Nm_outside_13 : decode prog_1_method_19_code 13 = .ok (.ifCond .ne 13, 3) := by decide +kernel
theorem d_Nm_outside_16 : decode prog_1_method_19_code 16 = .ok (.new 54, 3) := by decide +kernel
theorem d_Nm_outside_19 : decode prog_1_method_19_code 19 = .ok (.dup, 1) := by decide +kernel
theorem d_Nm_outside_20 : decode prog_1_method_19_code 20 = .ok (.ldc 223, 2) := by decide +kernel
theorem d_Nm_outside_22 : decode prog_1_method_19_code 22 = .ok (.invokespecial 58, 3) := by decide +kernel
theorem d_Nm_outside_25 : decode prog_1_method_19_code 25 = .ok (.athrow, 1) := by decide +kernel
theorem d_Nm_outside_26 : decode prog_1_method_19_code 26 = .ok (.aload_n 0, 1) := by decide +kernel
theorem d_Nm_outside_27 : decode prog_1_method_19_code 27 = .ok (.iload_n 2, 1) := by decide +kernel
theorem d_Nm_outside_28 : decode prog_1_method_19_code 28 = .ok (.iload_n 3, 1) := by decide +kernel
theorem d_Nm_outside_29 : decode prog_1_method_19_code 29 = .ok (.invokevirtual 225, 3) := by decide +kernel
theorem d_Nm_outside_32 : decode prog_1_method_19_code 32 = .ok (.istore 4, 2) := by decide +kernel
theorem d_Nm_outside_34 : decode prog_1_method_19_code 34 = .ok (.iload 4, 2) := by decide +kernel
theorem d_Nm_outside_36 : decode prog_1_method_19_code 36 = .ok (.iconst (-1), 1) := by decide +kernel
theorem d_Nm_outside_37 : decode prog_1_method_19_code 37 = .ok (.if_icmp .eq 11, 3) := by decide +kernel
theorem d_Nm_outside_40 : decode prog_1_method_19_code 40 = .ok (.iload 4, 2) := by decide +kernel
theorem d_Nm_outside_42 : decode prog_1_method_19_code 42 = .ok (.iload_n 1, 1) := by decide +kernel
theorem d_Nm_outside_43 : decode prog_1_method_19_code 43 = .ok (.if_icmp .eq 5, 3) := by decide +kernel
theorem d_Nm_outside_46 : decode prog_1_method_19_code 46 = .ok (.iconst 0, 1) := by decide +kernel
theorem d_Nm_outside_47 : decode prog_1_method_19_code 47 = .ok (.ireturn, 1) := by decide +kernel
theorem d_Nm_outside_48 : decode prog_1_method_19_code 48 = .ok (.aload_n 0, 1) := by decide +kernel
theorem d_Nm_outside_49 : decode prog_1_method_19_code 49 = .ok (.getfield 19, 3) := by decide +kernel
theorem d_Nm_outside_52 : decode prog_1_method_19_code 52 = .ok (.iload_n 1, 1) := by decide +kernel
theorem d_Nm_outside_53 : decode prog_1_method_19_code 53 = .ok (.invokevirtual 82, 3) := by decide +kernel
theorem d_Nm_outside_56 : decode prog_1_method_19_code 56 = .ok (.checkcast 72, 3) := by decide +kernel
theorem d_Nm_outside_59 : decode prog_1_method_19_code 59 = .ok (.getfield 228, 3) := by decide +kernel
theorem d_Nm_outside_62 : decode prog_1_method_19_code 62 = .ok (.iload_n 2, 1) := by decide +kernel
theorem d_Nm_outside_63 : decode prog_1_method_19_code 63 = .ok (.iload_n 3, 1) := by decide +kernel
theorem d_Nm_outside_64 : decode prog_1_method_19_code 64 = .ok (.iastore, 1) := by decide +kernel
theorem d_Nm_outside_65 : decode prog_1_method_19_code 65 = .ok (.iconst 1, 1) := by decide +kernel
theorem d_Nm_outside_66 : decode prog_1_method_19_code 66 = .ok (.ireturn, 1) := by decide +kernel
set_option maxHeartbeats 4000000 in
set_option maxRecDepth 100000 in
theorem c_Nm_outside (l : Launch) (D : va_G) (cs : Nat → ClassId) (N0 : Nat) (H : Heap) (hl9 : l.stackTraces = false) (o z : Nat → Nat → Nat) (K : Nat → Nat → Nat → Int32) (r : Nat → Nat × Nat) (N : Nat) (q st nu : Int32) (hI : nmP D cs N0 H o z K r) (hN : N = H.size) : tMet l y_Nm_outside w_Nm_outside ({ frames := 7, cells := 3, slots := 18, locals := 103 }) (hPre D cs N0 [.ref (o 0 0), .int q, .int st, .int nu] H) (hT (fun v H' => goV (isN (z 3 0) q && isSt st) (numB nu) true = 0 ∧ (if (!decide (ownV z K (tn st) nu = -1) && !decide (ownV z K (tn st) nu = q)) = true then (v = some (.int 0) ∧ nmP D cs N0 H' o z K r) else (v = some (.int 1) ∧ nmP D cs N0 H' o z (upK K 13 (tn q) (upd (K 13 (tn q)) (tn st) nu)) r))) (fun E => (E = "java/lang/IndexOutOfBoundsException" ∧ goV (isN (z 3 0) q && isSt st) (numB nu) true = 1) ∨ (E = "java/lang/IllegalArgumentException" ∧ goV (isN (z 3 0) q && isSt st) (numB nu) true = 2)) (nmA r N)) 3 18 (nmA r N) := by
  refine tMet.ofW (cc := prog_1_method_19_code) (maxL := 5) (ret := (Option.some Jvm.ClassFile.FieldType.boolean)) (by decide) rfl ?_
  intro p e s m args below meth c s₁ B hml hno hv
  obtain ⟨rfl, rfl, hB⟩ := hv
  have hx := B.exec
  have hb := B.bytes
  have hr := B.returns
  have hts := atoms_spec (ws := w_Nm_outside) B.pre
  have htg : ∀ w ∈ gw, w.before _ s = true := fun w h => hts w (List.mem_cons_of_mem _ h)
  have hown : s.vm.findClass "NameMerges" = some m.cls := findClass_of_methodNamed B.named
  have hlocks := B.notSynchronized
  have hAN : ∀ q, nmA r N q → N0 ≤ q := fun q9 h9 => h9.elim (hI.2.1 q9) (fun h9 => Nat.le_trans hB.2.1 (hN ▸ h9))
  have hK := hB.1
  obtain ⟨H, hH⟩ : ∃ z : Heap, z = s.heap := ⟨_, rfl⟩
  have hz0 : H.size = s.heap.size := by rw [hH]
  have hN0 := hB.2.1
  rw [← hH] at hI
  have hS : va_S noA s.heap H [] := by rw [hH]; exact va_S.rf
  have hl := lv_entry ([.ref (o 0 0), .int q, .int st, .int nu]) (n := 5) (Nat.le_of_ble_eq_true rfl)
  rw [lg_entry_eq, ← hH]
  generalize (lg_sl ([.ref (o 0 0), .int q, .int st, .int nu]) ++ List.replicate (5 - (lg_sl ([.ref (o 0 0), .int q, .int st, .int nu])).length) Slot.unset).toArray = ls at hl ⊢
  have hl : lv_has ls 5 [(0, .ref (o 0 0)), (1, .int q), (2, .int st), (3, .int nu)] := hl
  obtain ⟨hb0, hb1, hb3, hb5, hb4, hb6, hb11, hb17⟩ := hI.2.2.1
  refine lv_aload_n hx hb d_Nm_outside_0 rfl (lv_at hl 0 rfl) ?_
  refine lv_iload_n hx hb d_Nm_outside_1 rfl (lv_at hl 1 rfl) ?_
  refine t_V (As := [.int q]) (rest := []) ⟨hx, hb, hml, hown, htg⟩ (c_Nm_checkName l D cs N0 H hl9 o z K r q hI) ⟨x_cwB 1 htg (gw_mem (i := 738) (by decide +kernel) rfl) (gw_mem (i := 30) (by decide +kernel) rfl) (gw_mem (i := 735) (by decide +kernel) rfl) (by decide +kernel) ⟨Nat.le_of_ble_eq_true rfl, Nat.le_of_ble_eq_true rfl⟩, htg _ (gw_mem (i := 737) (by decide +kernel) rfl), htg _ (gw_mem (i := 11) (by decide +kernel) rfl)⟩ ⟨hPre.blind, hx_recv hK (ci := 1) rfl (show va_at D vwCl (o 0 0, .inr (1, [.ref (o 1 0), .ref (o 3 0), .ref (o 5 0), .ref (o 7 0), .ref (o 8 0), .int (nI (z 0 0)), .int (K 0 0 0), .ref (o 9 0)])) H from hI.at (k := 0) (n := 0) (show nmv z 0 0 from rfl)), hPre.at hB hS noA_in⟩ rfl hl.1 rfl (lv_room (Nat.le_of_ble_eq_true rfl)) d_Nm_outside_2 ⟨Nat.le_of_ble_eq_true rfl, Nat.le_of_ble_eq_true rfl⟩ (fun x9 E9 ce9 H9 L9 hL9 hb9 hc9 hv9 hf9 hz9 hk9 => ?_) (fun v9 H9 L9 hL9 hp9 hz9 hk9 => ?_)
  · have hn9 := noL hL9
    subst hn9
    have hnil := noL hS.2.2
    first | subst hnil | skip
    exact t_out (A := (nmA r N)) rfl hno hlocks ((Or.inl ⟨hb9.1, by simp [goV, hb9.2]⟩)) hc9 hv9 hf9 (Nat.le_of_ble_eq_true rfl) (Nat.le_of_ble_eq_true rfl)
  · skip
    obtain ⟨hv9, hH9, hq1⟩ := hp9
    have hn8 := noL hL9
    subst hn8
    rw [hv9, hH9, List.append_nil]
    refine W.eq (g2 := F0 m 5 ls []) rfl ?_
    obtain ⟨j_q, hj_q, e_q⟩ := isN_of hq1 (by omega)
    rw [e_q] at hq1
    refine lv_iload_n hx hb d_Nm_outside_5 rfl (lv_at hl 2 rfl) ?_
    refine t_S (As := [.int st]) (rest := []) ⟨hx, hb, hml, hown, htg⟩ (c_Nm_checkSet l D cs N0 H hl9 st) ⟨x_cwB 1 htg (gw_mem (i := 954) (by decide +kernel) rfl) (gw_mem (i := 30) (by decide +kernel) rfl) (gw_mem (i := 952) (by decide +kernel) rfl) (by decide +kernel) ⟨Nat.le_of_ble_eq_true rfl, Nat.le_of_ble_eq_true rfl⟩, htg _ (gw_mem (i := 953) (by decide +kernel) rfl)⟩ ⟨hPre.blind, hPre.at hB hS noA_in⟩ rfl hl.1 rfl (lv_room (Nat.le_of_ble_eq_true rfl)) d_Nm_outside_6 ⟨Nat.le_of_ble_eq_true rfl, Nat.le_of_ble_eq_true rfl⟩ (fun x9 E9 ce9 H9 L9 hL9 hb9 hc9 hv9 hf9 hz9 hk9 => ?_) (fun v9 H9 L9 hL9 hp9 hz9 hk9 => ?_)
    · have hn9 := noL hL9
      subst hn9
      have hnil := noL hS.2.2
      first | subst hnil | skip
      exact t_out (A := (nmA r N)) rfl hno hlocks ((Or.inl ⟨hb9.1, by simp [goV, e_q, hq1, hb9.2]⟩)) hc9 hv9 hf9 (Nat.le_of_ble_eq_true rfl) (Nat.le_of_ble_eq_true rfl)
    · skip
      obtain ⟨hv9, hH9, hq2⟩ := hp9
      have hn8 := noL hL9
      subst hn8
      rw [hv9, hH9, List.append_nil]
      refine W.eq (g2 := F0 m 9 ls []) rfl ?_
      obtain ⟨j_st, hj_st, e_st⟩ := isSt_of hq2
      rw [e_st] at hq2
      refine lv_iload_n hx hb d_Nm_outside_9 rfl (lv_at hl 3 rfl) ?_
      refine h_purei (va_runS (As := [.int nu]) (rest := []) ⟨hx, hb, hml, hown, htg⟩ (c_Nm_isNumber l D cs N0 H nu) ⟨x_cwB 1 htg (gw_mem (i := 958) (by decide +kernel) rfl) (gw_mem (i := 30) (by decide +kernel) rfl) (gw_mem (i := 956) (by decide +kernel) rfl) (by decide +kernel) ⟨Nat.le_of_ble_eq_true rfl, Nat.le_of_ble_eq_true rfl⟩, htg _ (gw_mem (i := 957) (by decide +kernel) rfl)⟩ ⟨hPre.blind, hPre.at hB hS noA_in⟩ rfl rfl hl.1 rfl (lv_room (Nat.le_of_ble_eq_true rfl)) d_Nm_outside_10 ⟨Nat.le_of_ble_eq_true rfl, Nat.le_of_ble_eq_true rfl⟩) hS (fun locs hS => ?_)
      refine lv_if_ne (x := (bI (numB nu))) (tgt := 26) hx hb d_Nm_outside_13 (by decide) (fun c13 => ?_) (fun c13 => ?_)
      · skip
        replace c13 : (numB nu) = true := bI_1 c13
        refine lv_aload_n hx hb d_Nm_outside_26 rfl (lv_at hl 0 rfl) ?_
        refine lv_iload_n hx hb d_Nm_outside_27 rfl (lv_at hl 2 rfl) ?_
        refine lv_eqi (y := (nI j_st)) e_st ?_
        refine lv_iload_n hx hb d_Nm_outside_28 rfl (lv_at hl 3 rfl) ?_
        refine h_purei (va_runV (As := [.int (nI j_st), .int nu]) (rest := []) ⟨hx, hb, hml, hown, htg⟩ (c_Nm_ownerOf l D cs N0 H o z K r j_st nu hI (by omega)) ⟨x_cwB 2 htg (gw_mem (i := 964) (by decide +kernel) rfl) (gw_mem (i := 30) (by decide +kernel) rfl) (gw_mem (i := 961) (by decide +kernel) rfl) (by decide +kernel) ⟨Nat.le_of_ble_eq_true rfl, Nat.le_of_ble_eq_true rfl⟩, htg _ (gw_mem (i := 963) (by decide +kernel) rfl), htg _ (gw_mem (i := 14) (by decide +kernel) rfl)⟩ ⟨hPre.blind, hx_recv hK (ci := 1) rfl (show va_at D vwCl (o 0 0, .inr (1, [.ref (o 1 0), .ref (o 3 0), .ref (o 5 0), .ref (o 7 0), .ref (o 8 0), .int (nI (z 0 0)), .int (K 0 0 0), .ref (o 9 0)])) H from hI.at (k := 0) (n := 0) (show nmv z 0 0 from rfl)), hPre.at hB hS noA_in⟩ rfl rfl hl.1 rfl (lv_room (Nat.le_of_ble_eq_true rfl)) d_Nm_outside_29 ⟨Nat.le_of_ble_eq_true rfl, Nat.le_of_ble_eq_true rfl⟩) hS (fun locs hS => ?_)
        refine lv_istore (lv' := [(4, .int (ownV z K j_st nu)), (0, .ref (o 0 0)), (1, .int q), (2, .int st), (3, .int nu)]) hx hb d_Nm_outside_32 hl (by decide) rfl (fun ls hl => ?_)
        refine lv_iload hx hb d_Nm_outside_34 (lv_at hl 0 rfl) ?_
        refine lv_iconst (v := (-1)) hx hb d_Nm_outside_36 (by decide) ?_
        refine lv_icmp_eq (x := (ownV z K j_st nu)) (y := (-1)) (tgt := 48) hx hb d_Nm_outside_37 (by decide) (fun c37 => ?_) (fun c37 => ?_)
        · skip
          refine lv_aload_n hx hb d_Nm_outside_48 rfl (lv_at hl 1 rfl) ?_
          refine hx_get (ref := "NameMerges") (v := .ref (o 3 0)) hx hb htg iNm hown hK (show va_at D vwCl (o 0 0, .inr (1, [.ref (o 1 0), .ref (o 3 0), .ref (o 5 0), .ref (o 7 0), .ref (o 8 0), .int (nI (z 0 0)), .int (K 0 0 0), .ref (o 9 0)])) H from hI.at (k := 0) (n := 0) (show nmv z 0 0 from rfl)) rfl 1 (by decide) (htg _ (gw_mem (i := 127) (by decide +kernel) rfl)) (fun _ h9 => h9) rfl d_Nm_outside_49 ?_
          refine lv_iload_n hx hb d_Nm_outside_52 rfl (lv_at hl 2 rfl) ?_
          refine lv_eqi (y := (nI j_q)) e_q ?_
          refine h_pureq (va_runV (As := [.int (nI j_q)]) (rest := []) ⟨hx, hb, hml, hown, htg⟩ (c_names_get l D cs N0 H o z K r j_q hI (show j_q < z 3 0 by omega)) ⟨x_cwB 1 htg (gw_mem (i := 512) (by decide +kernel) rfl) (gw_mem (i := 37) (by decide +kernel) rfl) (gw_mem (i := 509) (by decide +kernel) rfl) (by decide +kernel) ⟨Nat.le_of_ble_eq_true rfl, Nat.le_of_ble_eq_true rfl⟩, htg _ (gw_mem (i := 510) (by decide +kernel) rfl), htg _ (gw_mem (i := 511) (by decide +kernel) rfl)⟩ ⟨hPre.blind, hx_recv hK (ci := 6) rfl (show va_at D vwCl (o 3 0, .inr (6, [.ref (nmL cs (z 3 0) (o 4 0)), .int (nI (z 3 0)), .int (K 3 0 0)])) H from hI.at (k := 3) (n := 0) (show nmv z 3 0 from rfl)), hPre.at hB hS noA_in⟩ rfl rfl hl.1 rfl (lv_room (Nat.le_of_ble_eq_true rfl)) d_Nm_outside_53 ⟨Nat.le_of_ble_eq_true rfl, Nat.le_of_ble_eq_true rfl⟩) hS (fun locs hS => ?_)
          refine lv_eqv (y := .ref (o 10 j_q)) rfl ?_
          refine va_castS hx hb hown (htg _ (gw_mem (i := 536) (by decide +kernel) rfl)) (x_at hK (ci := 2) rfl) (hx_recv hK (ci := 2) rfl (show va_at D vwCl (o 10 j_q, .inr (2, [.ref (o 11 j_q), .ref (o 13 j_q), va_rf (if z 14 j_q = 0 then none else some (o 14 j_q)), .int (K 10 j_q 0), .int (K 10 j_q 1), .int (K 10 j_q 2), .int (K 10 j_q 3)])) H from hI.at (k := 10) (n := j_q) (show nmv z 10 j_q from (show j_q < z 3 0 by omega)))) d_Nm_outside_56 ?_
          refine hx_get (ref := "NameMerges$Name") (v := .ref (o 13 j_q)) hx hb htg iNa hown hK (show va_at D vwCl (o 10 j_q, .inr (2, [.ref (o 11 j_q), .ref (o 13 j_q), va_rf (if z 14 j_q = 0 then none else some (o 14 j_q)), .int (K 10 j_q 0), .int (K 10 j_q 1), .int (K 10 j_q 2), .int (K 10 j_q 3)])) H from hI.at (k := 10) (n := j_q) (show nmv z 10 j_q from (show j_q < z 3 0 by omega))) rfl 1 (by decide) (htg _ (gw_mem (i := 655) (by decide +kernel) rfl)) (fun _ h9 => h9) rfl d_Nm_outside_59 ?_
          refine lv_iload_n hx hb d_Nm_outside_62 rfl (lv_at hl 3 rfl) ?_
          refine lv_eqi (y := (nI j_st)) e_st ?_
          refine lv_iload_n hx hb d_Nm_outside_63 rfl (lv_at hl 4 rfl) ?_
          replace hS := x_wk (A' := (nmA r N)) hS (fun _ h9 => h9.elim)
          refine hx_iast hx hb hK hS (hI.inA (k := 13) (n := j_q) (show nmv z 13 j_q from (show j_q < z 3 0 by omega))) 0 (show va_at D vwCl (o 13 j_q, .inl (cs 0, (4, .inl (K 13 j_q)))) H from hI.at (k := 13) (n := j_q) (show nmv z 13 j_q from (show j_q < z 3 0 by omega))) rfl (show vp_in (nI j_st) 4 from vp_in_nI (n := j_st) (by omega) (by omega)) d_Nm_outside_64 (fun H locs hat hz ho hS => ?_)
          rw [show (nI j_st).toNatClampNeg = j_st from nI_clamp (n := j_st) (by omega)] at hat
          replace hI : nmP D cs N0 H o z (upK K 13 j_q (upd ((K 13 j_q)) j_st (nu))) r := hI.put (k0 := 13) (n0 := j_q) (show nmv z 13 j_q from (show j_q < z 3 0 by omega)) (by decide) hat (fun q9 _ h9 => ho q9 h9)
          refine lv_iconst (v := 1) hx hb d_Nm_outside_65 (by decide) ?_
          refine t_ret ?_
          refine W.widen (k := 3) (n := 18) (Nat.le_of_ble_eq_true rfl) (Nat.le_of_ble_eq_true rfl) ?_
          exact W.zret (v := 1) hx hb hr (by decide) (fun t ht hW => Or.inl ⟨some (.int (1)), rfl, (by rw [ht]; exact (by simp only [e_q, e_st, tnI (j := j_q) (by omega), tnI (j := j_st) (by omega)]; exact ⟨(by simp [goV, c13, c37, e_q, e_st, hq1, hq2]), by rw [if_neg (by simp [c37])]; exact ⟨(by first | trivial | rfl), hI⟩⟩)), hS.F ht⟩) hS.2.2 d_Nm_outside_66
        · skip
          refine lv_iload hx hb d_Nm_outside_40 (lv_at hl 0 rfl) ?_
          refine lv_iload_n hx hb d_Nm_outside_42 rfl (lv_at hl 2 rfl) ?_
          refine lv_eqi (y := (nI j_q)) e_q ?_
          refine lv_icmp_eq (x := (ownV z K j_st nu)) (y := (nI j_q)) (tgt := 48) hx hb d_Nm_outside_43 (by decide) (fun c43 => ?_) (fun c43 => ?_)
          · skip
            refine lv_aload_n hx hb d_Nm_outside_48 rfl (lv_at hl 1 rfl) ?_
            refine hx_get (ref := "NameMerges") (v := .ref (o 3 0)) hx hb htg iNm hown hK (show va_at D vwCl (o 0 0, .inr (1, [.ref (o 1 0), .ref (o 3 0), .ref (o 5 0), .ref (o 7 0), .ref (o 8 0), .int (nI (z 0 0)), .int (K 0 0 0), .ref (o 9 0)])) H from hI.at (k := 0) (n := 0) (show nmv z 0 0 from rfl)) rfl 1 (by decide) (htg _ (gw_mem (i := 127) (by decide +kernel) rfl)) (fun _ h9 => h9) rfl d_Nm_outside_49 ?_
            refine lv_iload_n hx hb d_Nm_outside_52 rfl (lv_at hl 2 rfl) ?_
            refine lv_eqi (y := (nI j_q)) e_q ?_
            refine h_pureq (va_runV (As := [.int (nI j_q)]) (rest := []) ⟨hx, hb, hml, hown, htg⟩ (c_names_get l D cs N0 H o z K r j_q hI (show j_q < z 3 0 by omega)) ⟨x_cwB 1 htg (gw_mem (i := 512) (by decide +kernel) rfl) (gw_mem (i := 37) (by decide +kernel) rfl) (gw_mem (i := 509) (by decide +kernel) rfl) (by decide +kernel) ⟨Nat.le_of_ble_eq_true rfl, Nat.le_of_ble_eq_true rfl⟩, htg _ (gw_mem (i := 510) (by decide +kernel) rfl), htg _ (gw_mem (i := 511) (by decide +kernel) rfl)⟩ ⟨hPre.blind, hx_recv hK (ci := 6) rfl (show va_at D vwCl (o 3 0, .inr (6, [.ref (nmL cs (z 3 0) (o 4 0)), .int (nI (z 3 0)), .int (K 3 0 0)])) H from hI.at (k := 3) (n := 0) (show nmv z 3 0 from rfl)), hPre.at hB hS noA_in⟩ rfl rfl hl.1 rfl (lv_room (Nat.le_of_ble_eq_true rfl)) d_Nm_outside_53 ⟨Nat.le_of_ble_eq_true rfl, Nat.le_of_ble_eq_true rfl⟩) hS (fun locs hS => ?_)
            refine lv_eqv (y := .ref (o 10 j_q)) rfl ?_
            refine va_castS hx hb hown (htg _ (gw_mem (i := 536) (by decide +kernel) rfl)) (x_at hK (ci := 2) rfl) (hx_recv hK (ci := 2) rfl (show va_at D vwCl (o 10 j_q, .inr (2, [.ref (o 11 j_q), .ref (o 13 j_q), va_rf (if z 14 j_q = 0 then none else some (o 14 j_q)), .int (K 10 j_q 0), .int (K 10 j_q 1), .int (K 10 j_q 2), .int (K 10 j_q 3)])) H from hI.at (k := 10) (n := j_q) (show nmv z 10 j_q from (show j_q < z 3 0 by omega)))) d_Nm_outside_56 ?_
            refine hx_get (ref := "NameMerges$Name") (v := .ref (o 13 j_q)) hx hb htg iNa hown hK (show va_at D vwCl (o 10 j_q, .inr (2, [.ref (o 11 j_q), .ref (o 13 j_q), va_rf (if z 14 j_q = 0 then none else some (o 14 j_q)), .int (K 10 j_q 0), .int (K 10 j_q 1), .int (K 10 j_q 2), .int (K 10 j_q 3)])) H from hI.at (k := 10) (n := j_q) (show nmv z 10 j_q from (show j_q < z 3 0 by omega))) rfl 1 (by decide) (htg _ (gw_mem (i := 655) (by decide +kernel) rfl)) (fun _ h9 => h9) rfl d_Nm_outside_59 ?_
            refine lv_iload_n hx hb d_Nm_outside_62 rfl (lv_at hl 3 rfl) ?_
            refine lv_eqi (y := (nI j_st)) e_st ?_
            refine lv_iload_n hx hb d_Nm_outside_63 rfl (lv_at hl 4 rfl) ?_
            replace hS := x_wk (A' := (nmA r N)) hS (fun _ h9 => h9.elim)
            refine hx_iast hx hb hK hS (hI.inA (k := 13) (n := j_q) (show nmv z 13 j_q from (show j_q < z 3 0 by omega))) 0 (show va_at D vwCl (o 13 j_q, .inl (cs 0, (4, .inl (K 13 j_q)))) H from hI.at (k := 13) (n := j_q) (show nmv z 13 j_q from (show j_q < z 3 0 by omega))) rfl (show vp_in (nI j_st) 4 from vp_in_nI (n := j_st) (by omega) (by omega)) d_Nm_outside_64 (fun H locs hat hz ho hS => ?_)
            rw [show (nI j_st).toNatClampNeg = j_st from nI_clamp (n := j_st) (by omega)] at hat
            replace hI : nmP D cs N0 H o z (upK K 13 j_q (upd ((K 13 j_q)) j_st (nu))) r := hI.put (k0 := 13) (n0 := j_q) (show nmv z 13 j_q from (show j_q < z 3 0 by omega)) (by decide) hat (fun q9 _ h9 => ho q9 h9)
            refine lv_iconst (v := 1) hx hb d_Nm_outside_65 (by decide) ?_
            refine t_ret ?_
            refine W.widen (k := 3) (n := 18) (Nat.le_of_ble_eq_true rfl) (Nat.le_of_ble_eq_true rfl) ?_
            exact W.zret (v := 1) hx hb hr (by decide) (fun t ht hW => Or.inl ⟨some (.int (1)), rfl, (by rw [ht]; exact (by simp only [e_q, e_st, tnI (j := j_q) (by omega), tnI (j := j_st) (by omega)]; exact ⟨(by simp [goV, c13, c37, c43, e_q, e_st, hq1, hq2]), by rw [if_neg (by simp [c37, c43])]; exact ⟨(by first | trivial | rfl), hI⟩⟩)), hS.F ht⟩) hS.2.2 d_Nm_outside_66
          · skip
            refine lv_iconst (v := 0) hx hb d_Nm_outside_46 (by decide) ?_
            replace hS := x_wk (A' := (nmA r N)) hS (fun _ h9 => h9.elim)
            refine t_ret ?_
            refine W.widen (k := 3) (n := 18) (Nat.le_of_ble_eq_true rfl) (Nat.le_of_ble_eq_true rfl) ?_
            exact W.zret (v := 0) hx hb hr (by decide) (fun t ht hW => Or.inl ⟨some (.int (0)), rfl, (by rw [ht]; exact (by simp only [e_q, e_st, tnI (j := j_q) (by omega), tnI (j := j_st) (by omega)]; exact ⟨(by simp [goV, c13, c37, c43, e_q, e_st, hq1, hq2]), by rw [if_pos (by simp [c37, c43])]; exact ⟨(by first | trivial | rfl), hI⟩⟩)), hS.F ht⟩) hS.2.2 d_Nm_outside_47
      · skip
        replace c13 : (numB nu) = false := bI_0 c13
        have hnil := noL hS.2.2
        first | subst hnil | skip
        exact t_throw (A := (nmA r N)) (text := "this is no number outside") (names := exUp) hx hb hl9 hown (by decide) (by decide) (htg _ (gw_mem (i := 621) (by decide +kernel) rfl)) (htg _ (gw_mem (i := 43) (by decide +kernel) rfl)) (zStr (q := ("NameMerges", 223, "this is no number outside")) hB (by decide)) (fun a ha => zOk_before htg hB (List.all_eq_true.mp own_iae a ha)) hS.1 (hl.1.trans hml.symm) d_Nm_outside_16 d_Nm_outside_19 d_Nm_outside_20 d_Nm_outside_22 d_Nm_outside_25 hno (Nat.le_of_ble_eq_true rfl) (Nat.le_of_ble_eq_true rfl) (Nat.le_of_ble_eq_true rfl) (Nat.le_of_ble_eq_true rfl) hlocks (Or.inr (⟨rfl, by simp [goV, c13, e_q, e_st, hq1, hq2]⟩)) (Nat.le_of_ble_eq_true rfl) (Nat.le_of_ble_eq_true rfl)
def prtP (K : Nat → Nat → Nat → Int32) (bo dy : Int32) (i : Nat) : Bool := decide (K 19 i 0 = bo) && decide (K 19 i 2 = 100001) && !decide (dy ≤ K 19 i 1)
theorem frs_ne {P : Nat → Bool} : ∀ (f i : Nat), i + f < 2147483648 → frs P f i = -1 ∨ ∃ j, i ≤ j ∧ j < i + f ∧ frs P f i = nI j ∧ P j = true
  | 0, _, _ => Or.inl rfl
  | f + 1, i, h => by
    rw [frs]
    by_cases hp : P i = true
    · rw [if_pos hp]
      exact Or.inr ⟨i, by omega, by omega, rfl, hp⟩
    · rw [if_neg hp]
      rcases frs_ne f (i + 1) (by omega) with h1 | ⟨j, h1, h2, h3, h4⟩
      · exact Or.inl h1
      · exact Or.inr ⟨j, by omega, by omega, h3, h4⟩
theorem nI_m1 {j : Nat} (h : j < 2147483648) : ¬ nI j = -1 := fun h9 => by
  have := congrArg Int32.toInt h9
  rw [nI_toInt (by omega)] at this
  have e : (-1 : Int32).toInt = -1 := rfl
  omega
def y_Nm_part : MethodName := ⟨"NameMerges", "part", "(III)Z"⟩
abbrev w_Nm_part : List Cond := Cond.code y_Nm_part prog_1_method_13_code 7 (Option.some Jvm.ClassFile.FieldType.boolean) :: gw
theorem d_Nm_part_0 : decode prog_1_method_13_code 0 = .ok (.aload_n 0, 1) := by decide +kernel
theorem d_Nm_part_1 : decode prog_1_method_13_code 1 = .ok (.iload_n 1, 1) := by decide +kernel
theorem d_Nm_part_2 : decode prog_1_method_13_code 2 = .ok (.invokevirtual 79, 3) := by decide +kernel
theorem d_Nm_part_5 : decode prog_1_method_13_code 5 = .ok (.aload_n 0, 1) := by decide +kernel
theorem d_Nm_part_6 : decode prog_1_method_13_code 6 = .ok (.iload_n 2, 1) := by decide +kernel
theorem d_Nm_part_7 : decode prog_1_method_13_code 7 = .ok (.invokevirtual 79, 3) := by decide +kernel
theorem d_Nm_part_10 : decode prog_1_method_13_code 10 = .ok (.iload_n 3, 1) := by decide +kernel
theorem d_Nm_part_11 : decode prog_1_method_13_code 11 = .ok (.invokestatic 169, 3) := by decide +kernel
theorem d_Nm_part_14 : decode prog_1_method_13_code 14 = .ok (.iload_n 1, 1) := by decide +kernel
theorem d_Nm_part_15 : decode prog_1_method_13_code 15 = .ok (.iload_n 2, 1) := by decide +kernel
theorem d_Nm_part_16 : decode prog_1_method_13_code 16 = .ok (.invokestatic 178, 3) := by decide +kernel
theorem d_Nm_part_19 : decode prog_1_method_13_code 19 = .ok (.istore 4, 2) := by decide +kernel
theorem d_Nm_part_21 : decode prog_1_method_13_code 21 = .ok (.iconst 0, 1) := by decide +kernel
theorem d_Nm_part_22 : decode prog_1_method_13_code 22 = .ok (.istore 5, 2) := by decide +kernel
theorem d_Nm_part_24 : decode prog_1_method_13_code 24 = .ok (.iload 5, 2) := by decide +kernel
theorem d_Nm_part_26 : decode prog_1_method_13_code 26 = .ok (.aload_n 0, 1) := by decide +kernel
theorem d_Nm_part_27 : decode prog_1_method_13_code 27 = .ok (.getfield 23, 3) := by decide +kernel
theorem d_Nm_part_30 : decode prog_1_method_13_code 30 = .ok (.invokevirtual 67, 3) := by decide +kernel
theorem d_Nm_part_33 : decode prog_1_method_13_code 33 = .ok (.if_icmp .ge 60, 3) := by decide +kernel
theorem d_Nm_part_36 : decode prog_1_method_13_code 36 = .ok (.aload_n 0, 1) := by decide +kernel
theorem d_Nm_part_37 : decode prog_1_method_13_code 37 = .ok (.getfield 23, 3) := by decide +kernel
theorem d_Nm_part_40 : decode prog_1_method_13_code 40 = .ok (.iload 5, 2) := by decide +kernel
theorem d_Nm_part_42 : decode prog_1_method_13_code 42 = .ok (.invokevirtual 82, 3) := by decide +kernel
theorem d_Nm_part_45 : decode prog_1_method_13_code 45 = .ok (.checkcast 176, 3) := by decide +kernel
theorem d_Nm_part_48 : decode prog_1_method_13_code 48 = .ok (.astore 6, 2) := by decide +kernel
theorem d_Nm_part_50 : decode prog_1_method_13_code 50 = .ok (.aload 6, 2) := by decide +kernel
theorem d_Nm_part_52 : decode prog_1_method_13_code 52 = .ok (.getfield 182, 3) := by decide +kernel
theorem d_Nm_part_55 : decode prog_1_method_13_code 55 = .ok (.iload 4, 2) := by decide +kernel
theorem d_Nm_part_57 : decode prog_1_method_13_code 57 = .ok (.if_icmp .ne 30, 3) := by decide +kernel
theorem d_Nm_part_60 : decode prog_1_method_13_code 60 = .ok (.aload 6, 2) := by decide +kernel
theorem d_Nm_part_62 : decode prog_1_method_13_code 62 = .ok (.getfield 185, 3) := by decide +kernel
theorem d_Nm_part_65 : decode prog_1_method_13_code 65 = .ok (.ldc 188, 2) := by decide +kernel
theorem d_Nm_part_67 : decode prog_1_method_13_code 67 = .ok (.if_icmp .ne 20, 3) := by decide +kernel
theorem d_Nm_part_70 : decode prog_1_method_13_code 70 = .ok (.aload 6, 2) := by decide +kernel
theorem d_Nm_part_72 : decode prog_1_method_13_code 72 = .ok (.getfield 189, 3) := by decide +kernel
theorem d_Nm_part_75 : decode prog_1_method_13_code 75 = .ok (.iload_n 3, 1) := by decide +kernel
theorem d_Nm_part_76 : decode prog_1_method_13_code 76 = .ok (.if_icmp .ge 11, 3) := by decide +kernel
theorem d_Nm_part_79 : decode prog_1_method_13_code 79 = .ok (.aload 6, 2) := by decide +kernel
theorem d_Nm_part_81 : decode prog_1_method_13_code 81 = .ok (.iload_n 3, 1) := by decide +kernel
theorem d_Nm_part_82 : decode prog_1_method_13_code 82 = .ok (.putfield 185, 3) := by decide +kernel
theorem d_Nm_part_85 : decode prog_1_method_13_code 85 = .ok (.iconst 1, 1) := by decide +kernel
theorem d_Nm_part_86 : decode prog_1_method_13_code 86 = .ok (.ireturn, 1) := by decide +kernel
theorem d_Nm_part_87 : decode prog_1_method_13_code 87 = .ok (.iinc 5 1, 3) := by decide +kernel
theorem d_Nm_part_90 : decode prog_1_method_13_code 90 = .ok (.goto (-66), 3) := by decide +kernel
theorem d_Nm_part_93 : decode prog_1_method_13_code 93 = .ok (.iconst 0, 1) := by decide +kernel
theorem d_Nm_part_94 : decode prog_1_method_13_code 94 = .ok (.ireturn, 1) := by decide +kernel
set_option maxHeartbeats 4000000 in
set_option maxRecDepth 100000 in
theorem c_Nm_part (l : Launch) (D : va_G) (cs : Nat → ClassId) (N0 : Nat) (H : Heap) (hl9 : l.stackTraces = false) (o z : Nat → Nat → Nat) (K : Nat → Nat → Nat → Int32) (r : Nat → Nat × Nat) (N : Nat) (qa qb dy : Int32) (hI : nmP D cs N0 H o z K r) (hN : N = H.size) : tMet l y_Nm_part w_Nm_part ({ frames := 7, cells := 3, slots := 18, locals := 103 }) (hPre D cs N0 [.ref (o 0 0), .int qa, .int qb, .int dy] H) (hT (fun v H' => goV (isN (z 3 0) qa && isN (z 3 0) qb) (isD dy) true = 0 ∧ (if frs (prtP K (setV qa qb) dy) (z 5 0) 0 = -1 then (v = some (.int 0) ∧ nmP D cs N0 H' o z K r) else (v = some (.int 1) ∧ nmP D cs N0 H' o z (upK K 19 (tn (frs (prtP K (setV qa qb) dy) (z 5 0) 0)) (upd (K 19 (tn (frs (prtP K (setV qa qb) dy) (z 5 0) 0))) 2 dy)) r))) (fun E => (E = "java/lang/IndexOutOfBoundsException" ∧ goV (isN (z 3 0) qa && isN (z 3 0) qb) (isD dy) true = 1) ∨ (E = "java/lang/IllegalArgumentException" ∧ goV (isN (z 3 0) qa && isN (z 3 0) qb) (isD dy) true = 2)) (nmA r N)) 3 18 (nmA r N) := by
  refine tMet.ofW (cc := prog_1_method_13_code) (maxL := 7) (ret := (Option.some Jvm.ClassFile.FieldType.boolean)) (by decide) rfl ?_
  intro p e s m args below meth c s₁ B hml hno hv
  obtain ⟨rfl, rfl, hB⟩ := hv
  have hx := B.exec
  have hb := B.bytes
  have hr := B.returns
  have hts := atoms_spec (ws := w_Nm_part) B.pre
  have htg : ∀ w ∈ gw, w.before _ s = true := fun w h => hts w (List.mem_cons_of_mem _ h)
  have hown : s.vm.findClass "NameMerges" = some m.cls := findClass_of_methodNamed B.named
  have hlocks := B.notSynchronized
  have hAN : ∀ q, nmA r N q → N0 ≤ q := fun q9 h9 => h9.elim (hI.2.1 q9) (fun h9 => Nat.le_trans hB.2.1 (hN ▸ h9))
  have hK := hB.1
  obtain ⟨H, hH⟩ : ∃ z : Heap, z = s.heap := ⟨_, rfl⟩
  have hz0 : H.size = s.heap.size := by rw [hH]
  have hN0 := hB.2.1
  rw [← hH] at hI
  have hS : va_S noA s.heap H [] := by rw [hH]; exact va_S.rf
  have hl := lv_entry ([.ref (o 0 0), .int qa, .int qb, .int dy]) (n := 7) (Nat.le_of_ble_eq_true rfl)
  rw [lg_entry_eq, ← hH]
  generalize (lg_sl ([.ref (o 0 0), .int qa, .int qb, .int dy]) ++ List.replicate (7 - (lg_sl ([.ref (o 0 0), .int qa, .int qb, .int dy])).length) Slot.unset).toArray = ls at hl ⊢
  have hl : lv_has ls 7 [(0, .ref (o 0 0)), (1, .int qa), (2, .int qb), (3, .int dy)] := hl
  obtain ⟨hb0, hb1, hb3, hb5, hb4, hb6, hb11, hb17⟩ := hI.2.2.1
  refine lv_aload_n hx hb d_Nm_part_0 rfl (lv_at hl 0 rfl) ?_
  refine lv_iload_n hx hb d_Nm_part_1 rfl (lv_at hl 1 rfl) ?_
  refine t_V (As := [.int qa]) (rest := []) ⟨hx, hb, hml, hown, htg⟩ (c_Nm_checkName l D cs N0 H hl9 o z K r qa hI) ⟨x_cwB 1 htg (gw_mem (i := 738) (by decide +kernel) rfl) (gw_mem (i := 30) (by decide +kernel) rfl) (gw_mem (i := 735) (by decide +kernel) rfl) (by decide +kernel) ⟨Nat.le_of_ble_eq_true rfl, Nat.le_of_ble_eq_true rfl⟩, htg _ (gw_mem (i := 737) (by decide +kernel) rfl), htg _ (gw_mem (i := 11) (by decide +kernel) rfl)⟩ ⟨hPre.blind, hx_recv hK (ci := 1) rfl (show va_at D vwCl (o 0 0, .inr (1, [.ref (o 1 0), .ref (o 3 0), .ref (o 5 0), .ref (o 7 0), .ref (o 8 0), .int (nI (z 0 0)), .int (K 0 0 0), .ref (o 9 0)])) H from hI.at (k := 0) (n := 0) (show nmv z 0 0 from rfl)), hPre.at hB hS noA_in⟩ rfl hl.1 rfl (lv_room (Nat.le_of_ble_eq_true rfl)) d_Nm_part_2 ⟨Nat.le_of_ble_eq_true rfl, Nat.le_of_ble_eq_true rfl⟩ (fun x9 E9 ce9 H9 L9 hL9 hb9 hc9 hv9 hf9 hz9 hk9 => ?_) (fun v9 H9 L9 hL9 hp9 hz9 hk9 => ?_)
  · have hn9 := noL hL9
    subst hn9
    have hnil := noL hS.2.2
    first | subst hnil | skip
    exact t_out (A := (nmA r N)) rfl hno hlocks ((Or.inl ⟨hb9.1, by simp [goV, hb9.2]⟩)) hc9 hv9 hf9 (Nat.le_of_ble_eq_true rfl) (Nat.le_of_ble_eq_true rfl)
  · skip
    obtain ⟨hv9, hH9, hq1⟩ := hp9
    have hn8 := noL hL9
    subst hn8
    rw [hv9, hH9, List.append_nil]
    refine W.eq (g2 := F0 m 5 ls []) rfl ?_
    obtain ⟨j_qa, hj_qa, e_qa⟩ := isN_of hq1 (by omega)
    rw [e_qa] at hq1
    refine lv_aload_n hx hb d_Nm_part_5 rfl (lv_at hl 0 rfl) ?_
    refine lv_iload_n hx hb d_Nm_part_6 rfl (lv_at hl 2 rfl) ?_
    refine t_V (As := [.int qb]) (rest := []) ⟨hx, hb, hml, hown, htg⟩ (c_Nm_checkName l D cs N0 H hl9 o z K r qb hI) ⟨x_cwB 1 htg (gw_mem (i := 738) (by decide +kernel) rfl) (gw_mem (i := 30) (by decide +kernel) rfl) (gw_mem (i := 735) (by decide +kernel) rfl) (by decide +kernel) ⟨Nat.le_of_ble_eq_true rfl, Nat.le_of_ble_eq_true rfl⟩, htg _ (gw_mem (i := 737) (by decide +kernel) rfl), htg _ (gw_mem (i := 11) (by decide +kernel) rfl)⟩ ⟨hPre.blind, hx_recv hK (ci := 1) rfl (show va_at D vwCl (o 0 0, .inr (1, [.ref (o 1 0), .ref (o 3 0), .ref (o 5 0), .ref (o 7 0), .ref (o 8 0), .int (nI (z 0 0)), .int (K 0 0 0), .ref (o 9 0)])) H from hI.at (k := 0) (n := 0) (show nmv z 0 0 from rfl)), hPre.at hB hS noA_in⟩ rfl hl.1 rfl (lv_room (Nat.le_of_ble_eq_true rfl)) d_Nm_part_7 ⟨Nat.le_of_ble_eq_true rfl, Nat.le_of_ble_eq_true rfl⟩ (fun x9 E9 ce9 H9 L9 hL9 hb9 hc9 hv9 hf9 hz9 hk9 => ?_) (fun v9 H9 L9 hL9 hp9 hz9 hk9 => ?_)
    · have hn9 := noL hL9
      subst hn9
      have hnil := noL hS.2.2
      first | subst hnil | skip
      exact t_out (A := (nmA r N)) rfl hno hlocks ((Or.inl ⟨hb9.1, by simp [goV, e_qa, hq1, hb9.2]⟩)) hc9 hv9 hf9 (Nat.le_of_ble_eq_true rfl) (Nat.le_of_ble_eq_true rfl)
    · skip
      obtain ⟨hv9, hH9, hq2⟩ := hp9
      have hn8 := noL hL9
      subst hn8
      rw [hv9, hH9, List.append_nil]
      refine W.eq (g2 := F0 m 10 ls []) rfl ?_
      obtain ⟨j_qb, hj_qb, e_qb⟩ := isN_of hq2 (by omega)
      rw [e_qb] at hq2
      refine lv_iload_n hx hb d_Nm_part_10 rfl (lv_at hl 3 rfl) ?_
      refine t_S (As := [.int dy]) (rest := []) ⟨hx, hb, hml, hown, htg⟩ (c_Nm_checkDay l D cs N0 H hl9 dy) ⟨x_cwB 1 htg (gw_mem (i := 760) (by decide +kernel) rfl) (gw_mem (i := 30) (by decide +kernel) rfl) (gw_mem (i := 758) (by decide +kernel) rfl) (by decide +kernel) ⟨Nat.le_of_ble_eq_true rfl, Nat.le_of_ble_eq_true rfl⟩, htg _ (gw_mem (i := 759) (by decide +kernel) rfl)⟩ ⟨hPre.blind, hPre.at hB hS noA_in⟩ rfl hl.1 rfl (lv_room (Nat.le_of_ble_eq_true rfl)) d_Nm_part_11 ⟨Nat.le_of_ble_eq_true rfl, Nat.le_of_ble_eq_true rfl⟩ (fun x9 E9 ce9 H9 L9 hL9 hb9 hc9 hv9 hf9 hz9 hk9 => ?_) (fun v9 H9 L9 hL9 hp9 hz9 hk9 => ?_)
      · have hn9 := noL hL9
        subst hn9
        have hnil := noL hS.2.2
        first | subst hnil | skip
        exact t_out (A := (nmA r N)) rfl hno hlocks ((Or.inr (⟨hb9.1, by simp [goV, e_qa, e_qb, hq1, hq2, hb9.2]⟩))) hc9 hv9 hf9 (Nat.le_of_ble_eq_true rfl) (Nat.le_of_ble_eq_true rfl)
      · skip
        obtain ⟨hv9, hH9, hq3⟩ := hp9
        have hn8 := noL hL9
        subst hn8
        rw [hv9, hH9, List.append_nil]
        refine W.eq (g2 := F0 m 14 ls []) rfl ?_
        refine lv_iload_n hx hb d_Nm_part_14 rfl (lv_at hl 1 rfl) ?_
        refine lv_eqi (y := (nI j_qa)) e_qa ?_
        refine lv_iload_n hx hb d_Nm_part_15 rfl (lv_at hl 2 rfl) ?_
        refine lv_eqi (y := (nI j_qb)) e_qb ?_
        refine h_purei (va_runS (As := [.int (nI j_qa), .int (nI j_qb)]) (rest := []) ⟨hx, hb, hml, hown, htg⟩ (c_Nm_setOf l D cs N0 H (nI j_qa) (nI j_qb)) ⟨x_cwB 2 htg (gw_mem (i := 853) (by decide +kernel) rfl) (gw_mem (i := 30) (by decide +kernel) rfl) (gw_mem (i := 851) (by decide +kernel) rfl) (by decide +kernel) ⟨Nat.le_of_ble_eq_true rfl, Nat.le_of_ble_eq_true rfl⟩, htg _ (gw_mem (i := 852) (by decide +kernel) rfl)⟩ ⟨hPre.blind, hPre.at hB hS noA_in⟩ rfl rfl hl.1 rfl (lv_room (Nat.le_of_ble_eq_true rfl)) d_Nm_part_16 ⟨Nat.le_of_ble_eq_true rfl, Nat.le_of_ble_eq_true rfl⟩) hS (fun locs hS => ?_)
        refine lv_istore (lv' := [(4, .int (setV (nI j_qa) (nI j_qb))), (0, .ref (o 0 0)), (1, .int qa), (2, .int qb), (3, .int dy)]) hx hb d_Nm_part_19 hl (by decide) rfl (fun ls hl => ?_)
        refine lv_iconst (v := 0) hx hb d_Nm_part_21 (by decide) ?_
        refine lv_istore (lv' := [(5, .int 0), (4, .int (setV (nI j_qa) (nI j_qb))), (0, .ref (o 0 0)), (1, .int qa), (2, .int qb), (3, .int dy)]) hx hb d_Nm_part_22 hl (by decide) rfl (fun ls hl => ?_)
        have loop24 : ∀ (fuel : Nat) (i : Nat), z 5 0 - i < fuel → (i ≤ z 5 0) → (frs (prtP K (setV (nI j_qa) (nI j_qb)) dy) (z 5 0 - i) i = frs (prtP K (setV (nI j_qa) (nI j_qb)) dy) (z 5 0) 0) → ∀ (locs : List Loc), va_S noA s.heap H locs → ∀ (ls : Array Slot), lv_has ls 7 [(0, .ref (o 0 0)), (1, .int qa), (2, .int qb), (3, .int dy), (4, .int (setV (nI j_qa) (nI j_qb))), (5, .int (nI i))] → W p l e (headSpec w_Nm_part ({ frames := 7, cells := 3, slots := 18, locals := 103 })).room s m ([.ref (o 0 0), .int qa, .int qb, .int dy] : List Value).toArray below meth c H locs 3 18 (tMQ below (hT (fun v H' => goV (isN (z 3 0) qa && isN (z 3 0) qb) (isD dy) true = 0 ∧ (if frs (prtP K (setV qa qb) dy) (z 5 0) 0 = -1 then (v = some (.int 0) ∧ nmP D cs N0 H' o z K r) else (v = some (.int 1) ∧ nmP D cs N0 H' o z (upK K 19 (tn (frs (prtP K (setV qa qb) dy) (z 5 0) 0)) (upd (K 19 (tn (frs (prtP K (setV qa qb) dy) (z 5 0) 0))) 2 dy)) r))) (fun E => (E = "java/lang/IndexOutOfBoundsException" ∧ goV (isN (z 3 0) qa && isN (z 3 0) qb) (isD dy) true = 1) ∨ (E = "java/lang/IllegalArgumentException" ∧ goV (isN (z 3 0) qa && isN (z 3 0) qb) (isD dy) true = 2)) (nmA r N)) ([.ref (o 0 0), .int qa, .int qb, .int dy] : List Value).toArray s 3 18 (nmA r N)) (F0 m 24 ls []) := by
          intro fuel24
          induction fuel24 with
          | zero => intro i hn; exact absurd hn (Nat.not_lt_zero _)
          | succ fuel24 ih24 =>
            intro i hn24 hi he locs hS ls hl
            refine lv_iload hx hb d_Nm_part_24 (lv_at hl 5 rfl) ?_
            refine lv_aload_n hx hb d_Nm_part_26 rfl (lv_at hl 0 rfl) ?_
            refine hx_get (ref := "NameMerges") (v := .ref (o 5 0)) hx hb htg iNm hown hK (show va_at D vwCl (o 0 0, .inr (1, [.ref (o 1 0), .ref (o 3 0), .ref (o 5 0), .ref (o 7 0), .ref (o 8 0), .int (nI (z 0 0)), .int (K 0 0 0), .ref (o 9 0)])) H from hI.at (k := 0) (n := 0) (show nmv z 0 0 from rfl)) rfl 2 (by decide) (htg _ (gw_mem (i := 128) (by decide +kernel) rfl)) (fun _ h9 => h9) rfl d_Nm_part_27 ?_
            refine h_purei (va_runV (As := []) (rest := [.int (nI i)]) ⟨hx, hb, hml, hown, htg⟩ (c_AL_size l D cs N0 H (o 5 0) (nmL cs (z 5 0) (o 6 0)) (z 5 0) (K 5 0 0) (show va_at D vwCl (o 5 0, .inr (6, [.ref (nmL cs (z 5 0) (o 6 0)), .int (nI (z 5 0)), .int (K 5 0 0)])) H from hI.at (k := 5) (n := 0) (show nmv z 5 0 from rfl))) ⟨x_cwB 0 htg (gw_mem (i := 503) (by decide +kernel) rfl) (gw_mem (i := 37) (by decide +kernel) rfl) (gw_mem (i := 500) (by decide +kernel) rfl) (by decide +kernel) ⟨Nat.le_of_ble_eq_true rfl, Nat.le_of_ble_eq_true rfl⟩, htg _ (gw_mem (i := 501) (by decide +kernel) rfl), htg _ (gw_mem (i := 502) (by decide +kernel) rfl)⟩ ⟨hPre.blind, hx_recv hK (ci := 6) rfl (show va_at D vwCl (o 5 0, .inr (6, [.ref (nmL cs (z 5 0) (o 6 0)), .int (nI (z 5 0)), .int (K 5 0 0)])) H from hI.at (k := 5) (n := 0) (show nmv z 5 0 from rfl)), hPre.at hB hS noA_in⟩ rfl rfl hl.1 rfl (lv_room (Nat.le_of_ble_eq_true rfl)) d_Nm_part_30 ⟨Nat.le_of_ble_eq_true rfl, Nat.le_of_ble_eq_true rfl⟩) hS (fun locs hS => ?_)
            refine lv_icmp_ge (x := (nI i)) (y := (nI (z 5 0))) (tgt := 93) hx hb d_Nm_part_33 (by decide) (fun c33 => ?_) (fun c33 => ?_)
            · skip
              replace c33 : (z 5 0) ≤ i := (nI_leI (a := (z 5 0)) (b := i) (by omega) (by omega)).mp c33
              refine lv_iconst (v := 0) hx hb d_Nm_part_93 (by decide) ?_
              replace hS := x_wk (A' := (nmA r N)) hS (fun _ h9 => h9.elim)
              refine t_ret ?_
              exact W.zret (v := 0) hx hb hr (by decide) (fun t ht hW => Or.inl ⟨some (.int (0)), rfl, (by rw [ht]; exact (by simp only [e_qa, e_qb, tnI (j := j_qa) (by omega), tnI (j := j_qb) (by omega)]; exact ⟨(by simp [goV, c33, e_qa, e_qb, hq1, hq2, hq3]), by rw [if_pos (by rw [← he, show z 5 0 - i = 0 by omega]; rfl)]; exact ⟨(by first | trivial | rfl), hI⟩⟩)), hS.F ht⟩) hS.2.2 d_Nm_part_94
            · skip
              replace c33 : ¬ ((z 5 0) ≤ i) := fun z9 => c33 ((nI_leI (a := (z 5 0)) (b := i) (by omega) (by omega)).mpr z9)
              refine lv_aload_n hx hb d_Nm_part_36 rfl (lv_at hl 0 rfl) ?_
              refine hx_get (ref := "NameMerges") (v := .ref (o 5 0)) hx hb htg iNm hown hK (show va_at D vwCl (o 0 0, .inr (1, [.ref (o 1 0), .ref (o 3 0), .ref (o 5 0), .ref (o 7 0), .ref (o 8 0), .int (nI (z 0 0)), .int (K 0 0 0), .ref (o 9 0)])) H from hI.at (k := 0) (n := 0) (show nmv z 0 0 from rfl)) rfl 2 (by decide) (htg _ (gw_mem (i := 128) (by decide +kernel) rfl)) (fun _ h9 => h9) rfl d_Nm_part_37 ?_
              refine lv_iload hx hb d_Nm_part_40 (lv_at hl 5 rfl) ?_
              refine h_pureq (va_runV (As := [.int (nI i)]) (rest := []) ⟨hx, hb, hml, hown, htg⟩ (c_merges_get l D cs N0 H o z K r i hI (show i < z 5 0 by omega)) ⟨x_cwB 1 htg (gw_mem (i := 512) (by decide +kernel) rfl) (gw_mem (i := 37) (by decide +kernel) rfl) (gw_mem (i := 509) (by decide +kernel) rfl) (by decide +kernel) ⟨Nat.le_of_ble_eq_true rfl, Nat.le_of_ble_eq_true rfl⟩, htg _ (gw_mem (i := 510) (by decide +kernel) rfl), htg _ (gw_mem (i := 511) (by decide +kernel) rfl)⟩ ⟨hPre.blind, hx_recv hK (ci := 6) rfl (show va_at D vwCl (o 5 0, .inr (6, [.ref (nmL cs (z 5 0) (o 6 0)), .int (nI (z 5 0)), .int (K 5 0 0)])) H from hI.at (k := 5) (n := 0) (show nmv z 5 0 from rfl)), hPre.at hB hS noA_in⟩ rfl rfl hl.1 rfl (lv_room (Nat.le_of_ble_eq_true rfl)) d_Nm_part_42 ⟨Nat.le_of_ble_eq_true rfl, Nat.le_of_ble_eq_true rfl⟩) hS (fun locs hS => ?_)
              refine lv_eqv (y := .ref (o 19 i)) rfl ?_
              refine va_castS hx hb hown (htg _ (gw_mem (i := 523) (by decide +kernel) rfl)) (x_at hK (ci := 5) rfl) (hx_recv hK (ci := 5) rfl (show va_at D vwCl (o 19 i, .inr (5, [.int (K 19 i 0), .int (K 19 i 1), .int (K 19 i 2)])) H from hI.at (k := 19) (n := i) (show nmv z 19 i from (show i < z 5 0 by omega)))) d_Nm_part_45 ?_
              refine lv_astore (lv' := [(6, .ref (o 19 i)), (0, .ref (o 0 0)), (1, .int qa), (2, .int qb), (3, .int dy), (4, .int (setV (nI j_qa) (nI j_qb))), (5, .int (nI i))]) hx hb d_Nm_part_48 hl (by decide) rfl (fun ls hl => ?_)
              refine lv_aload hx hb d_Nm_part_50 (lv_at hl 0 rfl) ?_
              refine hx_get (ref := "NameMerges$Merge") (v := .int (K 19 i 0)) hx hb htg iMe hown hK (show va_at D vwCl (o 19 i, .inr (5, [.int (K 19 i 0), .int (K 19 i 1), .int (K 19 i 2)])) H from hI.at (k := 19) (n := i) (show nmv z 19 i from (show i < z 5 0 by omega))) rfl 0 (by decide) (htg _ (gw_mem (i := 860) (by decide +kernel) rfl)) (fun _ h9 => h9) rfl d_Nm_part_52 ?_
              refine lv_iload hx hb d_Nm_part_55 (lv_at hl 5 rfl) ?_
              refine lv_icmp_ne (x := (K 19 i 0)) (y := (setV (nI j_qa) (nI j_qb))) (tgt := 87) hx hb d_Nm_part_57 (by decide) (fun c57 => ?_) (fun c57 => ?_)
              · skip
                refine lv_iinc (v := (nI (i + 1))) (lv' := [(5, .int (nI (i + 1))), (6, .ref (o 19 i)), (0, .ref (o 0 0)), (1, .int qa), (2, .int qb), (3, .int dy), (4, .int (setV (nI j_qa) (nI j_qb)))]) hx hb d_Nm_part_87 hl (k := 6) rfl (nI_1 i) (by decide) rfl (fun ls hl => ?_)
                refine lv_goto (tgt := 24) hx hb d_Nm_part_90 (by decide) ?_
                exact ih24  (i + 1) (by omega) (by omega) (by rw [← he, show z 5 0 - i = (z 5 0 - (i + 1)) + 1 by omega, frs, if_neg (by simp [prtP, c57])]) _ hS ls (lv_sub hl [2, 3, 4, 5, 6, 0] rfl)
              · skip
                refine lv_aload hx hb d_Nm_part_60 (lv_at hl 0 rfl) ?_
                refine hx_get (ref := "NameMerges$Merge") (v := .int (K 19 i 2)) hx hb htg iMe hown hK (show va_at D vwCl (o 19 i, .inr (5, [.int (K 19 i 0), .int (K 19 i 1), .int (K 19 i 2)])) H from hI.at (k := 19) (n := i) (show nmv z 19 i from (show i < z 5 0 by omega))) rfl 2 (by decide) (htg _ (gw_mem (i := 864) (by decide +kernel) rfl)) (fun _ h9 => h9) rfl d_Nm_part_62 ?_
                refine lv_ldc (v := 100001) hx hb hown (htg _ (gw_mem (i := 879) (by decide +kernel) rfl)) d_Nm_part_65 ?_
                refine lv_icmp_ne (x := (K 19 i 2)) (y := 100001) (tgt := 87) hx hb d_Nm_part_67 (by decide) (fun c67 => ?_) (fun c67 => ?_)
                · skip
                  refine lv_iinc (v := (nI (i + 1))) (lv' := [(5, .int (nI (i + 1))), (6, .ref (o 19 i)), (0, .ref (o 0 0)), (1, .int qa), (2, .int qb), (3, .int dy), (4, .int (setV (nI j_qa) (nI j_qb)))]) hx hb d_Nm_part_87 hl (k := 6) rfl (nI_1 i) (by decide) rfl (fun ls hl => ?_)
                  refine lv_goto (tgt := 24) hx hb d_Nm_part_90 (by decide) ?_
                  exact ih24  (i + 1) (by omega) (by omega) (by rw [← he, show z 5 0 - i = (z 5 0 - (i + 1)) + 1 by omega, frs, if_neg (by simp [prtP, c57, c67])]) _ hS ls (lv_sub hl [2, 3, 4, 5, 6, 0] rfl)
                · skip
                  refine lv_aload hx hb d_Nm_part_70 (lv_at hl 0 rfl) ?_
                  refine hx_get (ref := "NameMerges$Merge") (v := .int (K 19 i 1)) hx hb htg iMe hown hK (show va_at D vwCl (o 19 i, .inr (5, [.int (K 19 i 0), .int (K 19 i 1), .int (K 19 i 2)])) H from hI.at (k := 19) (n := i) (show nmv z 19 i from (show i < z 5 0 by omega))) rfl 1 (by decide) (htg _ (gw_mem (i := 862) (by decide +kernel) rfl)) (fun _ h9 => h9) rfl d_Nm_part_72 ?_
                  refine lv_iload_n hx hb d_Nm_part_75 rfl (lv_at hl 4 rfl) ?_
                  refine lv_icmp_ge (x := (K 19 i 1)) (y := dy) (tgt := 87) hx hb d_Nm_part_76 (by decide) (fun c76 => ?_) (fun c76 => ?_)
                  · skip
                    refine lv_iinc (v := (nI (i + 1))) (lv' := [(5, .int (nI (i + 1))), (6, .ref (o 19 i)), (0, .ref (o 0 0)), (1, .int qa), (2, .int qb), (3, .int dy), (4, .int (setV (nI j_qa) (nI j_qb)))]) hx hb d_Nm_part_87 hl (k := 6) rfl (nI_1 i) (by decide) rfl (fun ls hl => ?_)
                    refine lv_goto (tgt := 24) hx hb d_Nm_part_90 (by decide) ?_
                    exact ih24  (i + 1) (by omega) (by omega) (by rw [← he, show z 5 0 - i = (z 5 0 - (i + 1)) + 1 by omega, frs, if_neg (by simp [prtP, c57, c67, c76])]) _ hS ls (lv_sub hl [2, 3, 4, 5, 6, 0] rfl)
                  · skip
                    refine lv_aload hx hb d_Nm_part_79 (lv_at hl 0 rfl) ?_
                    refine lv_iload_n hx hb d_Nm_part_81 rfl (lv_at hl 4 rfl) ?_
                    replace hS := x_wk (A' := (nmA r N)) hS (fun _ h9 => h9.elim)
                    refine hx_put (ref := "NameMerges$Merge") (ty := .int) (v := .int dy) hx hb htg iMe tMe tMe_ok nMe hown hK (show va_at D vwCl (o 19 i, .inr (5, [.int (K 19 i 0), .int (K 19 i 1), .int (K 19 i 2)])) H from hI.at (k := 19) (n := i) (show nmv z 19 i from (show i < z 5 0 by omega))) hS (hI.inA (k := 19) (n := i) (show nmv z 19 i from (show i < z 5 0 by omega))) rfl 2 (by decide) (htg _ (gw_mem (i := 864) (by decide +kernel) rfl)) (fun _ h9 => h9) rfl (by decide +kernel) rfl rfl (Nat.le_of_ble_eq_true rfl) d_Nm_part_82 (fun H locs hat hz ho hS => ?_)
                    replace hI : nmP D cs N0 H o z (upK K 19 i (upd (K 19 i) 2 (dy))) r := hI.put (k0 := 19) (n0 := i) (show nmv z 19 i from (show i < z 5 0 by omega)) (by decide) hat (fun q9 _ h9 => ho q9 h9)
                    refine lv_iconst (v := 1) hx hb d_Nm_part_85 (by decide) ?_
                    refine t_ret ?_
                    exact W.zret (v := 1) hx hb hr (by decide) (fun t ht hW => Or.inl ⟨some (.int (1)), rfl, (by rw [ht]; exact (by simp only [e_qa, e_qb, tnI (j := j_qa) (by omega), tnI (j := j_qb) (by omega)]; exact ⟨(by simp [goV, c33, c57, c67, c76, Int32.not_le.mp c76, e_qa, e_qb, hq1, hq2, hq3]), by have fe : frs (prtP K (setV (nI j_qa) (nI j_qb)) dy) (z 5 0) 0 = nI i := (by rw [← he, show z 5 0 - i = (z 5 0 - (i + 1)) + 1 by omega, frs, if_pos (by simp [prtP, c57, c67, c76, Int32.not_le.mp c76])]); rw [fe, if_neg (nI_m1 (by omega)), tnI (j := i) (by omega)]; exact ⟨(by first | trivial | rfl), hI⟩⟩)), hS.F ht⟩) hS.2.2 d_Nm_part_86
        exact loop24 ((z 5 0 - 0) + 1) 0 (Nat.lt_succ_self _) (Nat.zero_le _) rfl _ hS ls (lv_sub hl [2, 3, 4, 5, 1, 0] rfl)
