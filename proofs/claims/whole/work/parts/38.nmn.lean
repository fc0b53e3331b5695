def y_Nm_dates : MethodName := ⟨"NameMerges", "dates", "(III)Z"⟩
abbrev w_Nm_dates : List Cond := Cond.code y_Nm_dates prog_1_method_6_code 6 (Option.some Jvm.ClassFile.FieldType.boolean) :: gw
theorem d_Nm_dates_0 : decode prog_1_method_6_code 0 = .ok (.aload_n 0, 1) := by decide +kernel
theorem d_Nm_dates_1 : decode prog_1_method_6_code 1 = .ok (.iload_n 1, 1) := by decide +kernel
theorem d_Nm_dates_2 : decode prog_1_method_6_code 2 = .ok (.invokevirtual 79, 3) := by decide +kernel
theorem d_Nm_dates_5 : decode prog_1_method_6_code 5 = .ok (.iload_n 2, 1) := by decide +kernel
theorem d_Nm_dates_6 : decode prog_1_method_6_code 6 = .ok (.iload_n 3, 1) := by decide +kernel
theorem d_Nm_dates_7 : decode prog_1_method_6_code 7 = .ok (.invokestatic 95, 3) := by decide +kernel
theorem d_Nm_dates_10 : decode prog_1_method_6_code 10 = .ok (.aload_n 0, 1) := by decide +kernel
theorem d_Nm_dates_11 : decode prog_1_method_6_code 11 = .ok (.getfield 19, 3) := by decide +kernel
theorem d_Nm_dates_14 : decode prog_1_method_6_code 14 = .ok (.iload_n 1, 1) := by decide +kernel
theorem d_Nm_dates_15 : decode prog_1_method_6_code 15 = .ok (.invokevirtual 82, 3) := by decide +kernel
theorem d_Nm_dates_18 : decode prog_1_method_6_code 18 = .ok (.checkcast 72, 3) := by decide +kernel
theorem d_Nm_dates_21 : decode prog_1_method_6_code 21 = .ok (.astore 4, 2) := by decide +kernel
theorem d_Nm_dates_23 : decode prog_1_method_6_code 23 = .ok (.aload 4, 2) := by decide +kernel
theorem d_Nm_dates_25 : decode prog_1_method_6_code 25 = .ok (.getfield 122, 3) := by decide +kernel
theorem d_Nm_dates_28 : decode prog_1_method_6_code 28 = .ok (.astore 5, 2) := by decide +kernel
theorem d_Nm_dates_30 : decode prog_1_method_6_code 30 = .ok (.aload 5, 2) := by decide +kernel
theorem d_Nm_dates_32 : decode prog_1_method_6_code 32 = .ok (.ifnull 23, 3) := by decide +kernel
theorem d_Nm_dates_35 : decode prog_1_method_6_code 35 = .ok (.aload 5, 2) := by decide +kernel
theorem d_Nm_dates_37 : decode prog_1_method_6_code 37 = .ok (.getfield 126, 3) := by decide +kernel
theorem d_Nm_dates_40 : decode prog_1_method_6_code 40 = .ok (.iload_n 2, 1) := by decide +kernel
theorem d_Nm_dates_41 : decode prog_1_method_6_code 41 = .ok (.if_icmp .ne 14, 3) := by decide +kernel
theorem d_Nm_dates_44 : decode prog_1_method_6_code 44 = .ok (.aload 5, 2) := by decide +kernel
theorem d_Nm_dates_46 : decode prog_1_method_6_code 46 = .ok (.getfield 129, 3) := by decide +kernel
theorem d_Nm_dates_49 : decode prog_1_method_6_code 49 = .ok (.iload_n 3, 1) := by decide +kernel
theorem d_Nm_dates_50 : decode prog_1_method_6_code 50 = .ok (.if_icmp .ne 5, 3) := by decide +kernel
theorem d_Nm_dates_53 : decode prog_1_method_6_code 53 = .ok (.iconst 0, 1) := by decide +kernel
theorem d_Nm_dates_54 : decode prog_1_method_6_code 54 = .ok (.ireturn, 1) := by decide +kernel
theorem d_Nm_dates_55 : decode prog_1_method_6_code 55 = .ok (.aload 4, 2) := by decide +kernel
theorem d_Nm_dates_57 : decode prog_1_method_6_code 57 = .ok (.new 105, 3) := by decide +kernel
theorem d_Nm_dates_60 : decode prog_1_method_6_code 60 = .ok (.dup, 1) := by decide +kernel
theorem d_Nm_dates_61 : decode prog_1_method_6_code 61 = .ok (.iload_n 2, 1) := by decide +kernel
theorem d_Nm_dates_62 : decode prog_1_method_6_code 62 = .ok (.iload_n 3, 1) := by decide +kernel
theorem d_Nm_dates_63 : decode prog_1_method_6_code 63 = .ok (.invokespecial 107, 3) := by decide +kernel
theorem d_Nm_dates_66 : decode prog_1_method_6_code 66 = .ok (.putfield 122, 3) := by decide +kernel
theorem d_Nm_dates_69 : decode prog_1_method_6_code 69 = .ok (.iconst 1, 1) := by decide +kernel
theorem d_Nm_dates_70 : decode prog_1_method_6_code 70 = .ok (.ireturn, 1) := by decide +kernel
set_option maxHeartbeats 4000000 in
set_option maxRecDepth 100000 in
theorem c_Nm_dates (l : Launch) (D : va_G) (cs : Nat → ClassId) (N0 : Nat) (H : Heap) (hl9 : l.stackTraces = false) (o z : Nat → Nat → Nat) (K : Nat → Nat → Nat → Int32) (r : Nat → Nat × Nat) (N : Nat) (q u w : Int32) (hI : nmP D cs N0 H o z K r) (hN : N = H.size) : tMet l y_Nm_dates w_Nm_dates ({ frames := 8, cells := 5, slots := 26, locals := 123 }) (hPre D cs N0 [.ref (o 0 0), .int q, .int u, .int w] H) (hT (fun v H' => goV (isN (z 3 0) q) (daysB u w) true = 0 ∧ (if (!decide (z 14 (tn q) = 0) && decide (K 14 (tn q) 0 = u) && decide (K 14 (tn q) 1 = w)) = true then (v = some (.int 0) ∧ nmP D cs N0 H' o z K r) else (v = some (.int 1) ∧ ∃ a : Nat, N ≤ a ∧ nmP D cs N0 H' (upZ o 14 (tn q) a) (upZ z 14 (tn q) 1) (upK K 14 (tn q) (fun i => if i = 0 then u else w)) (upR r a 14 (tn q))))) (fun E => (E = "java/lang/IndexOutOfBoundsException" ∧ goV (isN (z 3 0) q) (daysB u w) true = 1) ∨ (E = "java/lang/IllegalArgumentException" ∧ goV (isN (z 3 0) q) (daysB u w) true = 2)) (nmA r N)) 5 26 (nmA r N) := by
  refine tMet.ofW (cc := prog_1_method_6_code) (maxL := 6) (ret := (Option.some Jvm.ClassFile.FieldType.boolean)) (by decide) rfl ?_
  intro p e s m args below meth c s₁ B hml hno hv
  obtain ⟨rfl, rfl, hB⟩ := hv
  have hx := B.exec
  have hb := B.bytes
  have hr := B.returns
  have hts := atoms_spec (ws := w_Nm_dates) B.pre
  have htg : ∀ w ∈ gw, w.before _ s = true := fun w h => hts w (List.mem_cons_of_mem _ h)
  have hown : s.vm.findClass "NameMerges" = some m.cls := findClass_of_methodNamed B.named
  have hlocks := B.notSynchronized
  have hAN : ∀ q, nmA r N q → N0 ≤ q := fun q9 h9 => h9.elim (hI.2.1 q9) (fun h9 => Nat.le_trans hB.2.1 (hN ▸ h9))
  have hK := hB.1
  obtain ⟨H, hH⟩ : ∃ z : Heap, z = s.heap := ⟨_, rfl⟩
  have hz0 : H.size = s.heap.size := by rw [hH]
  have hN0 := hB.2.1
  rw [← hH] at hI
  have hS : va_S noA s.heap H [] := by rw [hH]; exact va_S.rf
  have hl := lv_entry ([.ref (o 0 0), .int q, .int u, .int w]) (n := 6) (Nat.le_of_ble_eq_true rfl)
  rw [lg_entry_eq, ← hH]
  generalize (lg_sl ([.ref (o 0 0), .int q, .int u, .int w]) ++ List.replicate (6 - (lg_sl ([.ref (o 0 0), .int q, .int u, .int w])).length) Slot.unset).toArray = ls at hl ⊢
  have hl : lv_has ls 6 [(0, .ref (o 0 0)), (1, .int q), (2, .int u), (3, .int w)] := hl
  obtain ⟨hb0, hb1, hb3, hb5, hb4, hb6, hb11, hb17⟩ := hI.2.2.1
  have hIN : ∀ k9 n9, nmv z k9 n9 → o k9 n9 < N := fun k9 n9 hv9 => by have := hI.lt hv9; omega
  have hI0 : nmP D cs N0 s.heap o z K r := hH ▸ hI
  refine lv_aload_n hx hb d_Nm_dates_0 rfl (lv_at hl 0 rfl) ?_
  refine lv_iload_n hx hb d_Nm_dates_1 rfl (lv_at hl 1 rfl) ?_
  refine t_V (As := [.int q]) (rest := []) ⟨hx, hb, hml, hown, htg⟩ (c_Nm_checkName l D cs N0 H hl9 o z K r q hI) ⟨x_cwB 1 htg (gw_mem (i := 738) (by decide +kernel) rfl) (gw_mem (i := 30) (by decide +kernel) rfl) (gw_mem (i := 735) (by decide +kernel) rfl) (by decide +kernel) ⟨Nat.le_of_ble_eq_true rfl, Nat.le_of_ble_eq_true rfl⟩, htg _ (gw_mem (i := 737) (by decide +kernel) rfl), htg _ (gw_mem (i := 11) (by decide +kernel) rfl)⟩ ⟨hPre.blind, hx_recv hK (ci := 1) rfl (show va_at D vwCl (o 0 0, .inr (1, [.ref (o 1 0), .ref (o 3 0), .ref (o 5 0), .ref (o 7 0), .ref (o 8 0), .int (nI (z 0 0)), .int (K 0 0 0), .ref (o 9 0)])) H from hI.at (k := 0) (n := 0) (show nmv z 0 0 from rfl)), hPre.at hB hS noA_in⟩ rfl hl.1 rfl (lv_room (Nat.le_of_ble_eq_true rfl)) d_Nm_dates_2 ⟨Nat.le_of_ble_eq_true rfl, Nat.le_of_ble_eq_true rfl⟩ (fun x9 E9 ce9 H9 L9 hL9 hb9 hc9 hv9 hf9 hz9 hk9 => ?_) (fun v9 H9 L9 hL9 hp9 hz9 hk9 => ?_)
  · have hn9 := noL hL9
    subst hn9
    have hnil := noL hS.2.2
    first | subst hnil | skip
    exact t_out (A := (nmA r N)) rfl hno hlocks ((Or.inl ⟨hb9.1, by simp [goV, hb9.2]⟩)) hc9 hv9 hf9 (Nat.le_of_ble_eq_true rfl) (Nat.le_of_ble_eq_true rfl)
  · skip
    obtain ⟨hv9, hH9, hq1⟩ := hp9
    have hn8 := noL hL9
    subst hn8
    rw [hv9, hH9, List.append_nil]
    refine W.eq (g2 := F0 m 5 ls []) rfl ?_
    obtain ⟨j_q, hj_q, e_q⟩ := isN_of hq1 (by omega)
    rw [e_q] at hq1
    refine lv_iload_n hx hb d_Nm_dates_5 rfl (lv_at hl 2 rfl) ?_
    refine lv_iload_n hx hb d_Nm_dates_6 rfl (lv_at hl 3 rfl) ?_
    refine t_S (As := [.int u, .int w]) (rest := []) ⟨hx, hb, hml, hown, htg⟩ (c_Nm_checkDays l D cs N0 H hl9 u w) ⟨x_cwB 2 htg (gw_mem (i := 757) (by decide +kernel) rfl) (gw_mem (i := 30) (by decide +kernel) rfl) (gw_mem (i := 755) (by decide +kernel) rfl) (by decide +kernel) ⟨Nat.le_of_ble_eq_true rfl, Nat.le_of_ble_eq_true rfl⟩, htg _ (gw_mem (i := 756) (by decide +kernel) rfl)⟩ ⟨hPre.blind, hPre.at hB hS noA_in⟩ rfl hl.1 rfl (lv_room (Nat.le_of_ble_eq_true rfl)) d_Nm_dates_7 ⟨Nat.le_of_ble_eq_true rfl, Nat.le_of_ble_eq_true rfl⟩ (fun x9 E9 ce9 H9 L9 hL9 hb9 hc9 hv9 hf9 hz9 hk9 => ?_) (fun v9 H9 L9 hL9 hp9 hz9 hk9 => ?_)
    · have hn9 := noL hL9
      subst hn9
      have hnil := noL hS.2.2
      first | subst hnil | skip
      exact t_out (A := (nmA r N)) rfl hno hlocks ((Or.inr (⟨hb9.1, by simp [goV, e_q, hq1, hb9.2]⟩))) hc9 hv9 hf9 (Nat.le_of_ble_eq_true rfl) (Nat.le_of_ble_eq_true rfl)
    · skip
      obtain ⟨hv9, hH9, hq2⟩ := hp9
      have hn8 := noL hL9
      subst hn8
      rw [hv9, hH9, List.append_nil]
      refine W.eq (g2 := F0 m 10 ls []) rfl ?_
      refine lv_aload_n hx hb d_Nm_dates_10 rfl (lv_at hl 0 rfl) ?_
      refine hx_get (ref := "NameMerges") (v := .ref (o 3 0)) hx hb htg iNm hown hK (show va_at D vwCl (o 0 0, .inr (1, [.ref (o 1 0), .ref (o 3 0), .ref (o 5 0), .ref (o 7 0), .ref (o 8 0), .int (nI (z 0 0)), .int (K 0 0 0), .ref (o 9 0)])) H from hI.at (k := 0) (n := 0) (show nmv z 0 0 from rfl)) rfl 1 (by decide) (htg _ (gw_mem (i := 127) (by decide +kernel) rfl)) (fun _ h9 => h9) rfl d_Nm_dates_11 ?_
      refine lv_iload_n hx hb d_Nm_dates_14 rfl (lv_at hl 1 rfl) ?_
      refine lv_eqi (y := (nI j_q)) e_q ?_
      refine h_pureq (va_runV (As := [.int (nI j_q)]) (rest := []) ⟨hx, hb, hml, hown, htg⟩ (c_names_get l D cs N0 H o z K r j_q hI (show j_q < z 3 0 by omega)) ⟨x_cwB 1 htg (gw_mem (i := 512) (by decide +kernel) rfl) (gw_mem (i := 37) (by decide +kernel) rfl) (gw_mem (i := 509) (by decide +kernel) rfl) (by decide +kernel) ⟨Nat.le_of_ble_eq_true rfl, Nat.le_of_ble_eq_true rfl⟩, htg _ (gw_mem (i := 510) (by decide +kernel) rfl), htg _ (gw_mem (i := 511) (by decide +kernel) rfl)⟩ ⟨hPre.blind, hx_recv hK (ci := 6) rfl (show va_at D vwCl (o 3 0, .inr (6, [.ref (nmL cs (z 3 0) (o 4 0)), .int (nI (z 3 0)), .int (K 3 0 0)])) H from hI.at (k := 3) (n := 0) (show nmv z 3 0 from rfl)), hPre.at hB hS noA_in⟩ rfl rfl hl.1 rfl (lv_room (Nat.le_of_ble_eq_true rfl)) d_Nm_dates_15 ⟨Nat.le_of_ble_eq_true rfl, Nat.le_of_ble_eq_true rfl⟩) hS (fun locs hS => ?_)
      refine lv_eqv (y := .ref (o 10 j_q)) rfl ?_
      refine va_castS hx hb hown (htg _ (gw_mem (i := 536) (by decide +kernel) rfl)) (x_at hK (ci := 2) rfl) (hx_recv hK (ci := 2) rfl (show va_at D vwCl (o 10 j_q, .inr (2, [.ref (o 11 j_q), .ref (o 13 j_q), va_rf (if z 14 j_q = 0 then none else some (o 14 j_q)), .int (K 10 j_q 0), .int (K 10 j_q 1), .int (K 10 j_q 2), .int (K 10 j_q 3)])) H from hI.at (k := 10) (n := j_q) (show nmv z 10 j_q from (show j_q < z 3 0 by omega)))) d_Nm_dates_18 ?_
      refine lv_astore (lv' := [(4, .ref (o 10 j_q)), (0, .ref (o 0 0)), (1, .int q), (2, .int u), (3, .int w)]) hx hb d_Nm_dates_21 hl (by decide) rfl (fun ls hl => ?_)
      refine lv_aload hx hb d_Nm_dates_23 (lv_at hl 0 rfl) ?_
      by_cases hs3 : z 14 j_q = 0
      · skip
        refine hx_get (ref := "NameMerges$Name") (v := .null) hx hb htg iNa hown hK (show va_at D vwCl (o 10 j_q, .inr (2, [.ref (o 11 j_q), .ref (o 13 j_q), va_rf (if z 14 j_q = 0 then none else some (o 14 j_q)), .int (K 10 j_q 0), .int (K 10 j_q 1), .int (K 10 j_q 2), .int (K 10 j_q 3)])) H from hI.at (k := 10) (n := j_q) (show nmv z 10 j_q from (show j_q < z 3 0 by omega))) rfl 2 (by decide) (htg _ (gw_mem (i := 657) (by decide +kernel) rfl)) (fun _ h9 => h9) (show some (va_rf (if z 14 j_q = 0 then none else some (o 14 j_q))) = some Value.null by rw [if_pos hs3]; rfl) d_Nm_dates_25 ?_
        refine lv_astoreN (lv' := [(5, .null), (4, .ref (o 10 j_q)), (0, .ref (o 0 0)), (1, .int q), (2, .int u), (3, .int w)]) hx hb d_Nm_dates_28 hl (by decide) rfl (fun ls hl => ?_)
        refine lv_aloadN hx hb d_Nm_dates_30 (lv_at hl 0 rfl) ?_
        refine lv_ifnullN (tgt := 55) hx hb d_Nm_dates_32 (by decide) ?_
        refine lv_aload hx hb d_Nm_dates_55 (lv_at hl 1 rfl) ?_
        have hF : ∀ k9 n9, nmv z k9 n9 → ¬ (k9 = 10 ∧ n9 = j_q) → H[o k9 n9]? = s.heap[o k9 n9]? := fun k9 n9 _ _ => by rw [hH]
        have h10 : va_at D vwCl (o 10 j_q, .inr (2, [.ref (o 11 j_q), .ref (o 13 j_q), va_rf (if z 14 j_q = 0 then none else some (o 14 j_q)), .int (K 10 j_q 0), .int (K 10 j_q 1), .int (K 10 j_q 2), .int (K 10 j_q 3)])) H := hI.at (k := 10) (n := j_q) (show nmv z 10 j_q from (show j_q < z 3 0 by omega))
        have hl10 := hIN 10 j_q (show j_q < z 3 0 by omega)
        replace hS := x_wk (A' := (nmA r N)) hS (fun _ h9 => h9.elim)
        obtain ⟨dy, hdy⟩ : ∃ z : Nat, z = H.size := ⟨_, rfl⟩
        have hlt_q5 : o 10 j_q < dy := hdy ▸ hx_lt h10
        refine hx_new hx hb htg iDa tDa tDa_ok hown (htg _ (gw_mem (i := 765) (by decide +kernel) rfl)) (htg _ (gw_mem (i := 766) (by decide +kernel) rfl)) (htg _ (gw_mem (i := 57) (by decide +kernel) rfl)) hK hS (ci := 4) rfl (fs := [.int 0, .int 0]) (by decide +kernel) (Nat.le_of_ble_eq_true rfl) (Nat.le_of_ble_eq_true rfl) d_Nm_dates_57 (fun H hat hz ho hS => ?_)
        rw [← hdy] at hat hz ho
        rw [← hdy]
        have hO4 : va_at D vwCl (dy, .inr (4, [.int 0, .int 0])) H := hat
        replace h10 := hx_keep h10 (ho _ (by omega))
        replace hF : ∀ k9 n9, nmv z k9 n9 → ¬ (k9 = 10 ∧ n9 = j_q) → H[o k9 n9]? = s.heap[o k9 n9]? := fun k9 n9 hv9 hx9 => (ho _ (by have := hIN k9 n9 hv9; omega)).trans (hF k9 n9 hv9 hx9)
        refine lv_dup hx hb d_Nm_dates_60 rfl ?_
        refine lv_iload_n hx hb d_Nm_dates_61 rfl (lv_at hl 4 rfl) ?_
        refine lv_iload_n hx hb d_Nm_dates_62 rfl (lv_at hl 5 rfl) ?_
        obtain ⟨nq6, hnq6⟩ : ∃ z : Nat, z = H.size := ⟨_, rfl⟩
        have hlt_q7 := hx_lt h10
        have hlt_q8 := hx_lt hO4
        refine h_callv (va_runI (As := [.int u, .int w]) (rest := [.ref dy, .ref (o 10 j_q)]) ⟨hx, hb, hml, hown, htg⟩ (c_Da_init l D cs N0 H dy nq6 u w hO4 hnq6 (by omega)) ⟨x_cwB 2 htg (gw_mem (i := 769) (by decide +kernel) rfl) (gw_mem (i := 57) (by decide +kernel) rfl) (gw_mem (i := 767) (by decide +kernel) rfl) (by decide +kernel) ⟨Nat.le_of_ble_eq_true rfl, Nat.le_of_ble_eq_true rfl⟩, rfl, htg _ (gw_mem (i := 768) (by decide +kernel) rfl)⟩ ⟨hPre.blind, hPre.at hB hS hAN⟩ rfl rfl hl.1 rfl (lv_room (Nat.le_of_ble_eq_true rfl)) d_Nm_dates_63 ⟨Nat.le_of_ble_eq_true rfl, Nat.le_of_ble_eq_true rfl⟩) hS (jA_sub1 (Or.inr (show N ≤ dy by omega)) (fun q9 h9 => Or.inr (show N ≤ q9 by omega))) (fun H locs hp hz hk hS => ?_)
        replace h10 := hx_keep h10 (hk _ hlt_q7 (jA_not1 (show o 10 j_q ≠ dy by omega) (show o 10 j_q < nq6 by omega)))
        replace hF : ∀ k9 n9, nmv z k9 n9 → ¬ (k9 = 10 ∧ n9 = j_q) → H[o k9 n9]? = s.heap[o k9 n9]? := fun k9 n9 hv9 hx9 => (hk _ (by have := hIN k9 n9 hv9; omega) (jA_not1 (by have := hIN k9 n9 hv9; omega) (by have := hIN k9 n9 hv9; omega))).trans (hF k9 n9 hv9 hx9)
        have hO9 := hp
        refine hx_put (ref := "NameMerges$Name") (ty := .object "NameMerges$Days") (v := .ref dy) hx hb htg iNa tNa tNa_ok nNa hown hK h10 hS (hI.inA (k := 10) (n := j_q) (show nmv z 10 j_q from (show j_q < z 3 0 by omega))) rfl 2 (by decide) (htg _ (gw_mem (i := 657) (by decide +kernel) rfl)) (fun _ h9 => h9) rfl (by decide +kernel) rfl rfl (Nat.le_of_ble_eq_true rfl) d_Nm_dates_66 (fun H locs hat hz ho hS => ?_)
        replace h10 : va_at D vwCl (o 10 j_q, .inr (2, [.ref (o 11 j_q), .ref (o 13 j_q), .ref dy, .int (K 10 j_q 0), .int (K 10 j_q 1), .int (K 10 j_q 2), .int (K 10 j_q 3)])) H := hat
        replace hO9 := hx_keep hO9 (ho _ (show dy ≠ o 10 j_q by omega))
        replace hF : ∀ k9 n9, nmv z k9 n9 → ¬ (k9 = 10 ∧ n9 = j_q) → H[o k9 n9]? = s.heap[o k9 n9]? := fun k9 n9 hv9 hx9 => (ho _ (hI0.ne hv9 (show nmv z 10 j_q from (show j_q < z 3 0 by omega)) (by omega))).trans (hF k9 n9 hv9 hx9)
        refine lv_iconst (v := 1) hx hb d_Nm_dates_69 (by decide) ?_
        refine t_ret ?_
        exact W.zret (v := 1) hx hb hr (by decide) (fun t ht hW => Or.inl ⟨some (.int (1)), rfl, (by rw [ht]; exact (by simp only [e_q, tnI (j := j_q) (by omega)]; exact ⟨(by simp [goV, hs3, e_q, hq1, hq2]), by rw [if_neg (by simp [hs3])]; exact ⟨(by first | trivial | rfl), dy, by omega, hI0.dat hIN (by omega) (by omega) (by omega) hO9 h10 hF⟩⟩)), hS.F ht⟩) hS.2.2 d_Nm_dates_70
      · skip
        refine hx_get (ref := "NameMerges$Name") (v := .ref (o 14 j_q)) hx hb htg iNa hown hK (show va_at D vwCl (o 10 j_q, .inr (2, [.ref (o 11 j_q), .ref (o 13 j_q), va_rf (if z 14 j_q = 0 then none else some (o 14 j_q)), .int (K 10 j_q 0), .int (K 10 j_q 1), .int (K 10 j_q 2), .int (K 10 j_q 3)])) H from hI.at (k := 10) (n := j_q) (show nmv z 10 j_q from (show j_q < z 3 0 by omega))) rfl 2 (by decide) (htg _ (gw_mem (i := 657) (by decide +kernel) rfl)) (fun _ h9 => h9) (show some (va_rf (if z 14 j_q = 0 then none else some (o 14 j_q))) = some (Value.ref (o 14 j_q)) by rw [if_neg hs3]; rfl) d_Nm_dates_25 ?_
        refine lv_astore (lv' := [(5, .ref (o 14 j_q)), (4, .ref (o 10 j_q)), (0, .ref (o 0 0)), (1, .int q), (2, .int u), (3, .int w)]) hx hb d_Nm_dates_28 hl (by decide) rfl (fun ls hl => ?_)
        refine lv_aload hx hb d_Nm_dates_30 (lv_at hl 0 rfl) ?_
        refine lv_ifnull hx hb d_Nm_dates_32 ?_
        refine lv_aload hx hb d_Nm_dates_35 (lv_at hl 0 rfl) ?_
        refine hx_get (ref := "NameMerges$Days") (v := .int (K 14 j_q 0)) hx hb htg iDa hown hK (show va_at D vwCl (o 14 j_q, .inr (4, [.int (K 14 j_q 0), .int (K 14 j_q 1)])) H from hI.at (k := 14) (n := j_q) (show nmv z 14 j_q from ⟨by omega, by omega⟩)) rfl 0 (by decide) (htg _ (gw_mem (i := 772) (by decide +kernel) rfl)) (fun _ h9 => h9) rfl d_Nm_dates_37 ?_
        refine lv_iload_n hx hb d_Nm_dates_40 rfl (lv_at hl 4 rfl) ?_
        refine lv_icmp_ne (x := (K 14 j_q 0)) (y := u) (tgt := 55) hx hb d_Nm_dates_41 (by decide) (fun c41 => ?_) (fun c41 => ?_)
        · skip
          refine lv_aload hx hb d_Nm_dates_55 (lv_at hl 1 rfl) ?_
          have hF : ∀ k9 n9, nmv z k9 n9 → ¬ (k9 = 10 ∧ n9 = j_q) → H[o k9 n9]? = s.heap[o k9 n9]? := fun k9 n9 _ _ => by rw [hH]
          have h10 : va_at D vwCl (o 10 j_q, .inr (2, [.ref (o 11 j_q), .ref (o 13 j_q), va_rf (if z 14 j_q = 0 then none else some (o 14 j_q)), .int (K 10 j_q 0), .int (K 10 j_q 1), .int (K 10 j_q 2), .int (K 10 j_q 3)])) H := hI.at (k := 10) (n := j_q) (show nmv z 10 j_q from (show j_q < z 3 0 by omega))
          have hl10 := hIN 10 j_q (show j_q < z 3 0 by omega)
          replace hS := x_wk (A' := (nmA r N)) hS (fun _ h9 => h9.elim)
          obtain ⟨dy, hdy⟩ : ∃ z : Nat, z = H.size := ⟨_, rfl⟩
          have hlt_q11 : o 10 j_q < dy := hdy ▸ hx_lt h10
          refine hx_new hx hb htg iDa tDa tDa_ok hown (htg _ (gw_mem (i := 765) (by decide +kernel) rfl)) (htg _ (gw_mem (i := 766) (by decide +kernel) rfl)) (htg _ (gw_mem (i := 57) (by decide +kernel) rfl)) hK hS (ci := 4) rfl (fs := [.int 0, .int 0]) (by decide +kernel) (Nat.le_of_ble_eq_true rfl) (Nat.le_of_ble_eq_true rfl) d_Nm_dates_57 (fun H hat hz ho hS => ?_)
          rw [← hdy] at hat hz ho
          rw [← hdy]
          have hO10 : va_at D vwCl (dy, .inr (4, [.int 0, .int 0])) H := hat
          replace h10 := hx_keep h10 (ho _ (by omega))
          replace hF : ∀ k9 n9, nmv z k9 n9 → ¬ (k9 = 10 ∧ n9 = j_q) → H[o k9 n9]? = s.heap[o k9 n9]? := fun k9 n9 hv9 hx9 => (ho _ (by have := hIN k9 n9 hv9; omega)).trans (hF k9 n9 hv9 hx9)
          refine lv_dup hx hb d_Nm_dates_60 rfl ?_
          refine lv_iload_n hx hb d_Nm_dates_61 rfl (lv_at hl 4 rfl) ?_
          refine lv_iload_n hx hb d_Nm_dates_62 rfl (lv_at hl 5 rfl) ?_
          obtain ⟨nq12, hnq12⟩ : ∃ z : Nat, z = H.size := ⟨_, rfl⟩
          have hlt_q13 := hx_lt h10
          have hlt_q14 := hx_lt hO10
          refine h_callv (va_runI (As := [.int u, .int w]) (rest := [.ref dy, .ref (o 10 j_q)]) ⟨hx, hb, hml, hown, htg⟩ (c_Da_init l D cs N0 H dy nq12 u w hO10 hnq12 (by omega)) ⟨x_cwB 2 htg (gw_mem (i := 769) (by decide +kernel) rfl) (gw_mem (i := 57) (by decide +kernel) rfl) (gw_mem (i := 767) (by decide +kernel) rfl) (by decide +kernel) ⟨Nat.le_of_ble_eq_true rfl, Nat.le_of_ble_eq_true rfl⟩, rfl, htg _ (gw_mem (i := 768) (by decide +kernel) rfl)⟩ ⟨hPre.blind, hPre.at hB hS hAN⟩ rfl rfl hl.1 rfl (lv_room (Nat.le_of_ble_eq_true rfl)) d_Nm_dates_63 ⟨Nat.le_of_ble_eq_true rfl, Nat.le_of_ble_eq_true rfl⟩) hS (jA_sub1 (Or.inr (show N ≤ dy by omega)) (fun q9 h9 => Or.inr (show N ≤ q9 by omega))) (fun H locs hp hz hk hS => ?_)
          replace h10 := hx_keep h10 (hk _ hlt_q13 (jA_not1 (show o 10 j_q ≠ dy by omega) (show o 10 j_q < nq12 by omega)))
          replace hF : ∀ k9 n9, nmv z k9 n9 → ¬ (k9 = 10 ∧ n9 = j_q) → H[o k9 n9]? = s.heap[o k9 n9]? := fun k9 n9 hv9 hx9 => (hk _ (by have := hIN k9 n9 hv9; omega) (jA_not1 (by have := hIN k9 n9 hv9; omega) (by have := hIN k9 n9 hv9; omega))).trans (hF k9 n9 hv9 hx9)
          have hO15 := hp
          refine hx_put (ref := "NameMerges$Name") (ty := .object "NameMerges$Days") (v := .ref dy) hx hb htg iNa tNa tNa_ok nNa hown hK h10 hS (hI.inA (k := 10) (n := j_q) (show nmv z 10 j_q from (show j_q < z 3 0 by omega))) rfl 2 (by decide) (htg _ (gw_mem (i := 657) (by decide +kernel) rfl)) (fun _ h9 => h9) rfl (by decide +kernel) rfl rfl (Nat.le_of_ble_eq_true rfl) d_Nm_dates_66 (fun H locs hat hz ho hS => ?_)
          replace h10 : va_at D vwCl (o 10 j_q, .inr (2, [.ref (o 11 j_q), .ref (o 13 j_q), .ref dy, .int (K 10 j_q 0), .int (K 10 j_q 1), .int (K 10 j_q 2), .int (K 10 j_q 3)])) H := hat
          replace hO15 := hx_keep hO15 (ho _ (show dy ≠ o 10 j_q by omega))
          replace hF : ∀ k9 n9, nmv z k9 n9 → ¬ (k9 = 10 ∧ n9 = j_q) → H[o k9 n9]? = s.heap[o k9 n9]? := fun k9 n9 hv9 hx9 => (ho _ (hI0.ne hv9 (show nmv z 10 j_q from (show j_q < z 3 0 by omega)) (by omega))).trans (hF k9 n9 hv9 hx9)
          refine lv_iconst (v := 1) hx hb d_Nm_dates_69 (by decide) ?_
          refine t_ret ?_
          exact W.zret (v := 1) hx hb hr (by decide) (fun t ht hW => Or.inl ⟨some (.int (1)), rfl, (by rw [ht]; exact (by simp only [e_q, tnI (j := j_q) (by omega)]; exact ⟨(by simp [goV, hs3, c41, e_q, hq1, hq2]), by rw [if_neg (by simp [hs3, c41])]; exact ⟨(by first | trivial | rfl), dy, by omega, hI0.dat hIN (by omega) (by omega) (by omega) hO15 h10 hF⟩⟩)), hS.F ht⟩) hS.2.2 d_Nm_dates_70
        · skip
          refine lv_aload hx hb d_Nm_dates_44 (lv_at hl 0 rfl) ?_
          refine hx_get (ref := "NameMerges$Days") (v := .int (K 14 j_q 1)) hx hb htg iDa hown hK (show va_at D vwCl (o 14 j_q, .inr (4, [.int (K 14 j_q 0), .int (K 14 j_q 1)])) H from hI.at (k := 14) (n := j_q) (show nmv z 14 j_q from ⟨by omega, by omega⟩)) rfl 1 (by decide) (htg _ (gw_mem (i := 774) (by decide +kernel) rfl)) (fun _ h9 => h9) rfl d_Nm_dates_46 ?_
          refine lv_iload_n hx hb d_Nm_dates_49 rfl (lv_at hl 5 rfl) ?_
          refine lv_icmp_ne (x := (K 14 j_q 1)) (y := w) (tgt := 55) hx hb d_Nm_dates_50 (by decide) (fun c50 => ?_) (fun c50 => ?_)
          · skip
            refine lv_aload hx hb d_Nm_dates_55 (lv_at hl 1 rfl) ?_
            have hF : ∀ k9 n9, nmv z k9 n9 → ¬ (k9 = 10 ∧ n9 = j_q) → H[o k9 n9]? = s.heap[o k9 n9]? := fun k9 n9 _ _ => by rw [hH]
            have h10 : va_at D vwCl (o 10 j_q, .inr (2, [.ref (o 11 j_q), .ref (o 13 j_q), va_rf (if z 14 j_q = 0 then none else some (o 14 j_q)), .int (K 10 j_q 0), .int (K 10 j_q 1), .int (K 10 j_q 2), .int (K 10 j_q 3)])) H := hI.at (k := 10) (n := j_q) (show nmv z 10 j_q from (show j_q < z 3 0 by omega))
            have hl10 := hIN 10 j_q (show j_q < z 3 0 by omega)
            replace hS := x_wk (A' := (nmA r N)) hS (fun _ h9 => h9.elim)
            obtain ⟨dy, hdy⟩ : ∃ z : Nat, z = H.size := ⟨_, rfl⟩
            have hlt_q17 : o 10 j_q < dy := hdy ▸ hx_lt h10
            refine hx_new hx hb htg iDa tDa tDa_ok hown (htg _ (gw_mem (i := 765) (by decide +kernel) rfl)) (htg _ (gw_mem (i := 766) (by decide +kernel) rfl)) (htg _ (gw_mem (i := 57) (by decide +kernel) rfl)) hK hS (ci := 4) rfl (fs := [.int 0, .int 0]) (by decide +kernel) (Nat.le_of_ble_eq_true rfl) (Nat.le_of_ble_eq_true rfl) d_Nm_dates_57 (fun H hat hz ho hS => ?_)
            rw [← hdy] at hat hz ho
            rw [← hdy]
            have hO16 : va_at D vwCl (dy, .inr (4, [.int 0, .int 0])) H := hat
            replace h10 := hx_keep h10 (ho _ (by omega))
            replace hF : ∀ k9 n9, nmv z k9 n9 → ¬ (k9 = 10 ∧ n9 = j_q) → H[o k9 n9]? = s.heap[o k9 n9]? := fun k9 n9 hv9 hx9 => (ho _ (by have := hIN k9 n9 hv9; omega)).trans (hF k9 n9 hv9 hx9)
            refine lv_dup hx hb d_Nm_dates_60 rfl ?_
            refine lv_iload_n hx hb d_Nm_dates_61 rfl (lv_at hl 4 rfl) ?_
            refine lv_iload_n hx hb d_Nm_dates_62 rfl (lv_at hl 5 rfl) ?_
            obtain ⟨nq18, hnq18⟩ : ∃ z : Nat, z = H.size := ⟨_, rfl⟩
            have hlt_q19 := hx_lt h10
            have hlt_q20 := hx_lt hO16
            refine h_callv (va_runI (As := [.int u, .int w]) (rest := [.ref dy, .ref (o 10 j_q)]) ⟨hx, hb, hml, hown, htg⟩ (c_Da_init l D cs N0 H dy nq18 u w hO16 hnq18 (by omega)) ⟨x_cwB 2 htg (gw_mem (i := 769) (by decide +kernel) rfl) (gw_mem (i := 57) (by decide +kernel) rfl) (gw_mem (i := 767) (by decide +kernel) rfl) (by decide +kernel) ⟨Nat.le_of_ble_eq_true rfl, Nat.le_of_ble_eq_true rfl⟩, rfl, htg _ (gw_mem (i := 768) (by decide +kernel) rfl)⟩ ⟨hPre.blind, hPre.at hB hS hAN⟩ rfl rfl hl.1 rfl (lv_room (Nat.le_of_ble_eq_true rfl)) d_Nm_dates_63 ⟨Nat.le_of_ble_eq_true rfl, Nat.le_of_ble_eq_true rfl⟩) hS (jA_sub1 (Or.inr (show N ≤ dy by omega)) (fun q9 h9 => Or.inr (show N ≤ q9 by omega))) (fun H locs hp hz hk hS => ?_)
            replace h10 := hx_keep h10 (hk _ hlt_q19 (jA_not1 (show o 10 j_q ≠ dy by omega) (show o 10 j_q < nq18 by omega)))
            replace hF : ∀ k9 n9, nmv z k9 n9 → ¬ (k9 = 10 ∧ n9 = j_q) → H[o k9 n9]? = s.heap[o k9 n9]? := fun k9 n9 hv9 hx9 => (hk _ (by have := hIN k9 n9 hv9; omega) (jA_not1 (by have := hIN k9 n9 hv9; omega) (by have := hIN k9 n9 hv9; omega))).trans (hF k9 n9 hv9 hx9)
            have hO21 := hp
            refine hx_put (ref := "NameMerges$Name") (ty := .object "NameMerges$Days") (v := .ref dy) hx hb htg iNa tNa tNa_ok nNa hown hK h10 hS (hI.inA (k := 10) (n := j_q) (show nmv z 10 j_q from (show j_q < z 3 0 by omega))) rfl 2 (by decide) (htg _ (gw_mem (i := 657) (by decide +kernel) rfl)) (fun _ h9 => h9) rfl (by decide +kernel) rfl rfl (Nat.le_of_ble_eq_true rfl) d_Nm_dates_66 (fun H locs hat hz ho hS => ?_)
            replace h10 : va_at D vwCl (o 10 j_q, .inr (2, [.ref (o 11 j_q), .ref (o 13 j_q), .ref dy, .int (K 10 j_q 0), .int (K 10 j_q 1), .int (K 10 j_q 2), .int (K 10 j_q 3)])) H := hat
            replace hO21 := hx_keep hO21 (ho _ (show dy ≠ o 10 j_q by omega))
            replace hF : ∀ k9 n9, nmv z k9 n9 → ¬ (k9 = 10 ∧ n9 = j_q) → H[o k9 n9]? = s.heap[o k9 n9]? := fun k9 n9 hv9 hx9 => (ho _ (hI0.ne hv9 (show nmv z 10 j_q from (show j_q < z 3 0 by omega)) (by omega))).trans (hF k9 n9 hv9 hx9)
            refine lv_iconst (v := 1) hx hb d_Nm_dates_69 (by decide) ?_
            refine t_ret ?_
            exact W.zret (v := 1) hx hb hr (by decide) (fun t ht hW => Or.inl ⟨some (.int (1)), rfl, (by rw [ht]; exact (by simp only [e_q, tnI (j := j_q) (by omega)]; exact ⟨(by simp [goV, hs3, c41, c50, e_q, hq1, hq2]), by rw [if_neg (by simp [hs3, c41, c50])]; exact ⟨(by first | trivial | rfl), dy, by omega, hI0.dat hIN (by omega) (by omega) (by omega) hO21 h10 hF⟩⟩)), hS.F ht⟩) hS.2.2 d_Nm_dates_70
          · skip
            refine lv_iconst (v := 0) hx hb d_Nm_dates_53 (by decide) ?_
            replace hS := x_wk (A' := (nmA r N)) hS (fun _ h9 => h9.elim)
            refine t_ret ?_
            refine W.widen (k := 5) (n := 26) (Nat.le_of_ble_eq_true rfl) (Nat.le_of_ble_eq_true rfl) ?_
            exact W.zret (v := 0) hx hb hr (by decide) (fun t ht hW => Or.inl ⟨some (.int (0)), rfl, (by rw [ht]; exact (by simp only [e_q, tnI (j := j_q) (by omega)]; exact ⟨(by simp [goV, hs3, c41, c50, e_q, hq1, hq2]), by rw [if_pos (by simp [hs3, c41, c50])]; exact ⟨(by first | trivial | rfl), hI⟩⟩)), hS.F ht⟩) hS.2.2 d_Nm_dates_54
theorem el_e {e : Nat → Nat} {sz : Nat} {x : Option Nat} (h : sz = 0) : va_up (fun j => if j < sz then some (e j) else none) sz x = va_up (fun _ => none) 0 x := by
  subst h
  have : (fun j => if j < 0 then some (e j) else none) = (fun _ => (none : Option Nat)) := by
    funext j
    exact if_neg (Nat.not_lt_zero _)
  rw [this]
theorem el_f {e : Nat → Nat} {sz cap : Nat} {x : Option Nat} (h : sz = cap) : va_up (fun j => if j < sz then some (e j) else none) sz x = va_up (va_cpy (fun j => if j < sz then some (e j) else none) (fun _ => none) 0 0 cap) cap x := by
  subst h
  have : va_cpy (fun j => if j < sz then some (e j) else none) (fun _ => none) 0 0 sz = (fun j => if j < sz then some (e j) else none) := by
    funext j
    by_cases hj : j < sz
    · rw [pk_cpy_in (Nat.zero_le _) (by omega)]
      simp
    · rw [pk_cpy_out (Or.inr (by omega))]
      exact (if_neg hj).symm
  rw [this]
theorem nm_el3 {D : va_G} {cs : Nat → ClassId} {N0 : Nat} {H H0 : Heap} {o z : Nat → Nat → Nat} {K : Nat → Nat → Nat → Int32} {r : Nat → Nat × Nat} (hI : nmP D cs N0 H0 o z K r) (hF : ∀ n, n < z 3 0 → H[o 10 n]? = H0[o 10 n]?) {i y : Nat} (hy : (if i < z 3 0 then some (o 10 i) else none) = some y) : isE D H 2 y ∧ y ≠ o 3 0 := by
  by_cases h : i < z 3 0
  · rw [if_pos h] at hy
    cases hy
    exact ⟨isE.keep ⟨_, hI.at (k := 10) (n := i) h⟩ (hF i h), hI.ne (k := 10) (n := i) (k' := 3) (n' := 0) h rfl (Or.inl (by decide))⟩
  · rw [if_neg h] at hy
    cases hy
theorem nm_el5 {D : va_G} {cs : Nat → ClassId} {N0 : Nat} {H H0 : Heap} {o z : Nat → Nat → Nat} {K : Nat → Nat → Nat → Int32} {r : Nat → Nat × Nat} (hI : nmP D cs N0 H0 o z K r) (hF : ∀ n, n < z 5 0 → H[o 19 n]? = H0[o 19 n]?) {i y : Nat} (hy : (if i < z 5 0 then some (o 19 i) else none) = some y) : isE D H 5 y ∧ y ≠ o 5 0 := by
  by_cases h : i < z 5 0
  · rw [if_pos h] at hy
    cases hy
    exact ⟨isE.keep ⟨_, hI.at (k := 19) (n := i) h⟩ (hF i h), hI.ne (k := 19) (n := i) (k' := 5) (n' := 0) h rfl (Or.inl (by decide))⟩
  · rw [if_neg h] at hy
    cases hy
def y_Nm_merge : MethodName := ⟨"NameMerges", "merge", "(III)I"⟩
abbrev w_Nm_merge : List Cond := Cond.code y_Nm_merge prog_1_method_12_code 4 (Option.some Jvm.ClassFile.FieldType.int) :: gw
theorem d_Nm_merge_0 : decode prog_1_method_12_code 0 = .ok (.aload_n 0, 1) := by decide +kernel
theorem d_Nm_merge_1 : decode prog_1_method_12_code 1 = .ok (.iload_n 1, 1) := by decide +kernel
theorem d_Nm_merge_2 : decode prog_1_method_12_code 2 = .ok (.invokevirtual 79, 3) := by decide +kernel
theorem d_Nm_merge_5 : decode prog_1_method_12_code 5 = .ok (.aload_n 0, 1) := by decide +kernel
theorem d_Nm_merge_6 : decode prog_1_method_12_code 6 = .ok (.iload_n 2, 1) := by decide +kernel
theorem d_Nm_merge_7 : decode prog_1_method_12_code 7 = .ok (.invokevirtual 79, 3) := by decide +kernel
theorem d_Nm_merge_10 : decode prog_1_method_12_code 10 = .ok (.aload_n 0, 1) := by decide +kernel
theorem d_Nm_merge_11 : decode prog_1_method_12_code 11 = .ok (.getfield 23, 3) := by decide +kernel
theorem d_Nm_merge_14 : decode prog_1_method_12_code 14 = .ok (.invokevirtual 67, 3) := by decide +kernel
theorem d_Nm_merge_17 : decode prog_1_method_12_code 17 = .ok (.bipush 60, 2) := by decide +kernel
theorem d_Nm_merge_19 : decode prog_1_method_12_code 19 = .ok (.if_icmp .lt 13, 3) := by decide +kernel
theorem d_Nm_merge_22 : decode prog_1_method_12_code 22 = .ok (.new 47, 3) := by decide +kernel
theorem d_Nm_merge_25 : decode prog_1_method_12_code 25 = .ok (.dup, 1) := by decide +kernel
theorem d_Nm_merge_26 : decode prog_1_method_12_code 26 = .ok (.ldc 167, 2) := by decide +kernel
theorem d_Nm_merge_28 : decode prog_1_method_12_code 28 = .ok (.invokespecial 51, 3) := by decide +kernel
theorem d_Nm_merge_31 : decode prog_1_method_12_code 31 = .ok (.athrow, 1) := by decide +kernel
theorem d_Nm_merge_32 : decode prog_1_method_12_code 32 = .ok (.iload_n 1, 1) := by decide +kernel
theorem d_Nm_merge_33 : decode prog_1_method_12_code 33 = .ok (.iload_n 2, 1) := by decide +kernel
theorem d_Nm_merge_34 : decode prog_1_method_12_code 34 = .ok (.invokestatic 162, 3) := by decide +kernel
theorem d_Nm_merge_37 : decode prog_1_method_12_code 37 = .ok (.iload_n 3, 1) := by decide +kernel
theorem d_Nm_merge_38 : decode prog_1_method_12_code 38 = .ok (.invokestatic 169, 3) := by decide +kernel
theorem d_Nm_merge_41 : decode prog_1_method_12_code 41 = .ok (.aload_n 0, 1) := by decide +kernel
theorem d_Nm_merge_42 : decode prog_1_method_12_code 42 = .ok (.getfield 26, 3) := by decide +kernel
theorem d_Nm_merge_45 : decode prog_1_method_12_code 45 = .ok (.iload_n 1, 1) := by decide +kernel
theorem d_Nm_merge_46 : decode prog_1_method_12_code 46 = .ok (.iload_n 2, 1) := by decide +kernel
theorem d_Nm_merge_47 : decode prog_1_method_12_code 47 = .ok (.invokestatic 145, 3) := by decide +kernel
theorem d_Nm_merge_50 : decode prog_1_method_12_code 50 = .ok (.iaload, 1) := by decide +kernel
theorem d_Nm_merge_51 : decode prog_1_method_12_code 51 = .ok (.iconst 2, 1) := by decide +kernel
theorem d_Nm_merge_52 : decode prog_1_method_12_code 52 = .ok (.if_icmp .ne 5, 3) := by decide +kernel
theorem d_Nm_merge_55 : decode prog_1_method_12_code 55 = .ok (.iconst 1, 1) := by decide +kernel
theorem d_Nm_merge_56 : decode prog_1_method_12_code 56 = .ok (.ireturn, 1) := by decide +kernel
theorem d_Nm_merge_57 : decode prog_1_method_12_code 57 = .ok (.aload_n 0, 1) := by decide +kernel
theorem d_Nm_merge_58 : decode prog_1_method_12_code 58 = .ok (.iload_n 1, 1) := by decide +kernel
theorem d_Nm_merge_59 : decode prog_1_method_12_code 59 = .ok (.iload_n 2, 1) := by decide +kernel
theorem d_Nm_merge_60 : decode prog_1_method_12_code 60 = .ok (.iload_n 3, 1) := by decide +kernel
theorem d_Nm_merge_61 : decode prog_1_method_12_code 61 = .ok (.invokevirtual 172, 3) := by decide +kernel
theorem d_Nm_merge_64 : decode prog_1_method_12_code 64 = .ok (.ifCond .eq 5, 3) := by decide +kernel
theorem d_Nm_merge_67 : decode prog_1_method_12_code 67 = .ok (.iconst 2, 1) := by decide +kernel
theorem d_Nm_merge_68 : decode prog_1_method_12_code 68 = .ok (.ireturn, 1) := by decide +kernel
theorem d_Nm_merge_69 : decode prog_1_method_12_code 69 = .ok (.aload_n 0, 1) := by decide +kernel
theorem d_Nm_merge_70 : decode prog_1_method_12_code 70 = .ok (.getfield 23, 3) := by decide +kernel
theorem d_Nm_merge_73 : decode prog_1_method_12_code 73 = .ok (.new 176, 3) := by decide +kernel
theorem d_Nm_merge_76 : decode prog_1_method_12_code 76 = .ok (.dup, 1) := by decide +kernel
theorem d_Nm_merge_77 : decode prog_1_method_12_code 77 = .ok (.iload_n 1, 1) := by decide +kernel
theorem d_Nm_merge_78 : decode prog_1_method_12_code 78 = .ok (.iload_n 2, 1) := by decide +kernel
theorem d_Nm_merge_79 : decode prog_1_method_12_code 79 = .ok (.invokestatic 178, 3) := by decide +kernel
theorem d_Nm_merge_82 : decode prog_1_method_12_code 82 = .ok (.iload_n 3, 1) := by decide +kernel
theorem d_Nm_merge_83 : decode prog_1_method_12_code 83 = .ok (.invokespecial 181, 3) := by decide +kernel
theorem d_Nm_merge_86 : decode prog_1_method_12_code 86 = .ok (.invokevirtual 75, 3) := by decide +kernel
theorem d_Nm_merge_89 : decode prog_1_method_12_code 89 = .ok (.pop, 1) := by decide +kernel
theorem d_Nm_merge_90 : decode prog_1_method_12_code 90 = .ok (.iconst 0, 1) := by decide +kernel
theorem d_Nm_merge_91 : decode prog_1_method_12_code 91 = .ok (.ireturn, 1) := by decide +kernel
set_option maxHeartbeats 4000000 in
set_option maxRecDepth 100000 in
theorem c_Nm_merge (l : Launch) (D : va_G) (cs : Nat → ClassId) (N0 : Nat) (H : Heap) (hl9 : l.stackTraces = false) (o z : Nat → Nat → Nat) (K : Nat → Nat → Nat → Int32) (r : Nat → Nat × Nat) (N : Nat) (qa qb dy : Int32) (hI : nmP D cs N0 H o z K r) (hN : N = H.size) : tMet l y_Nm_merge w_Nm_merge ({ frames := 7, cells := 6, slots := 227, locals := 171 }) (hPre D cs N0 [.ref (o 0 0), .int qa, .int qb, .int dy] H) (hT (fun v H' => goV (isN (z 3 0) qa && isN (z 3 0) qb) (decide (z 5 0 < 60)) (!decide (qa = qb) && isD dy) = 0 ∧ (if K 7 0 (min (tn qa) (tn qb) * 24 + max (tn qa) (tn qb)) = 2 then (v = some (.int 1) ∧ nmP D cs N0 H' o z K r) else if aofB z K qa qb dy = true then (v = some (.int 2) ∧ nmP D cs N0 H' o z K r) else (v = some (.int 0) ∧ ∃ (a ea cap : Nat) (mc : Int32) (r' : Nat → Nat × Nat), nmP D cs N0 H' (upZ (upZ o 19 (z 5 0) a) 6 0 ea) (upZ (upZ z 6 0 cap) 5 0 (z 5 0 + 1)) (upK (upK K 19 (z 5 0) (fun i => if i = 0 then setV qa qb else if i = 1 then dy else 100001)) 5 0 (fun _ => mc)) r' ∧ ∀ q, q < N → r' q = r q))) (fun E => (E = "java/lang/IndexOutOfBoundsException" ∧ goV (isN (z 3 0) qa && isN (z 3 0) qb) (decide (z 5 0 < 60)) (!decide (qa = qb) && isD dy) = 1) ∨ (E = "java/lang/IllegalStateException" ∧ goV (isN (z 3 0) qa && isN (z 3 0) qb) (decide (z 5 0 < 60)) (!decide (qa = qb) && isD dy) = 2) ∨ (E = "java/lang/IllegalArgumentException" ∧ goV (isN (z 3 0) qa && isN (z 3 0) qb) (decide (z 5 0 < 60)) (!decide (qa = qb) && isD dy) = 3)) (nmA r N)) 6 227 (nmA r N) := by
  refine tMet.ofW (cc := prog_1_method_12_code) (maxL := 4) (ret := (Option.some Jvm.ClassFile.FieldType.int)) (by decide) rfl ?_
  intro p e s m args below meth c s₁ B hml hno hv
  obtain ⟨rfl, rfl, hB⟩ := hv
  have hx := B.exec
  have hb := B.bytes
  have hr := B.returns
  have hts := atoms_spec (ws := w_Nm_merge) B.pre
  have htg : ∀ w ∈ gw, w.before _ s = true := fun w h => hts w (List.mem_cons_of_mem _ h)
  have hown : s.vm.findClass "NameMerges" = some m.cls := findClass_of_methodNamed B.named
  have hlocks := B.notSynchronized
  have hAN : ∀ q, nmA r N q → N0 ≤ q := fun q9 h9 => h9.elim (hI.2.1 q9) (fun h9 => Nat.le_trans hB.2.1 (hN ▸ h9))
  have hK := hB.1
  obtain ⟨H, hH⟩ : ∃ z : Heap, z = s.heap := ⟨_, rfl⟩
  have hz0 : H.size = s.heap.size := by rw [hH]
  have hN0 := hB.2.1
  rw [← hH] at hI
  have hS : va_S noA s.heap H [] := by rw [hH]; exact va_S.rf
  have hl := lv_entry ([.ref (o 0 0), .int qa, .int qb, .int dy]) (n := 4) (Nat.le_of_ble_eq_true rfl)
  rw [lg_entry_eq, ← hH]
  generalize (lg_sl ([.ref (o 0 0), .int qa, .int qb, .int dy]) ++ List.replicate (4 - (lg_sl ([.ref (o 0 0), .int qa, .int qb, .int dy])).length) Slot.unset).toArray = ls at hl ⊢
  have hl : lv_has ls 4 [(0, .ref (o 0 0)), (1, .int qa), (2, .int qb), (3, .int dy)] := hl
  obtain ⟨hb0, hb1, hb3, hb5, hb4, hb6, hb11, hb17⟩ := hI.2.2.1
  have hIN : ∀ k9 n9, nmv z k9 n9 → o k9 n9 < N := fun k9 n9 hv9 => by have := hI.lt hv9; omega
  have hI0 : nmP D cs N0 s.heap o z K r := hH ▸ hI
  refine lv_aload_n hx hb d_Nm_merge_0 rfl (lv_at hl 0 rfl) ?_
  refine lv_iload_n hx hb d_Nm_merge_1 rfl (lv_at hl 1 rfl) ?_
  refine t_V (As := [.int qa]) (rest := []) ⟨hx, hb, hml, hown, htg⟩ (c_Nm_checkName l D cs N0 H hl9 o z K r qa hI) ⟨x_cwB 1 htg (gw_mem (i := 738) (by decide +kernel) rfl) (gw_mem (i := 30) (by decide +kernel) rfl) (gw_mem (i := 735) (by decide +kernel) rfl) (by decide +kernel) ⟨Nat.le_of_ble_eq_true rfl, Nat.le_of_ble_eq_true rfl⟩, htg _ (gw_mem (i := 737) (by decide +kernel) rfl), htg _ (gw_mem (i := 11) (by decide +kernel) rfl)⟩ ⟨hPre.blind, hx_recv hK (ci := 1) rfl (show va_at D vwCl (o 0 0, .inr (1, [.ref (o 1 0), .ref (o 3 0), .ref (o 5 0), .ref (o 7 0), .ref (o 8 0), .int (nI (z 0 0)), .int (K 0 0 0), .ref (o 9 0)])) H from hI.at (k := 0) (n := 0) (show nmv z 0 0 from rfl)), hPre.at hB hS noA_in⟩ rfl hl.1 rfl (lv_room (Nat.le_of_ble_eq_true rfl)) d_Nm_merge_2 ⟨Nat.le_of_ble_eq_true rfl, Nat.le_of_ble_eq_true rfl⟩ (fun x9 E9 ce9 H9 L9 hL9 hb9 hc9 hv9 hf9 hz9 hk9 => ?_) (fun v9 H9 L9 hL9 hp9 hz9 hk9 => ?_)
  · have hn9 := noL hL9
    subst hn9
    have hnil := noL hS.2.2
    first | subst hnil | skip
    exact t_out (A := (nmA r N)) rfl hno hlocks ((Or.inl ⟨hb9.1, by simp [goV, hb9.2]⟩)) hc9 hv9 hf9 (Nat.le_of_ble_eq_true rfl) (Nat.le_of_ble_eq_true rfl)
  · skip
    obtain ⟨hv9, hH9, hq1⟩ := hp9
    have hn8 := noL hL9
    subst hn8
    rw [hv9, hH9, List.append_nil]
    refine W.eq (g2 := F0 m 5 ls []) rfl ?_
    obtain ⟨j_qa, hj_qa, e_qa⟩ := isN_of hq1 (by omega)
    rw [e_qa] at hq1
    refine lv_aload_n hx hb d_Nm_merge_5 rfl (lv_at hl 0 rfl) ?_
    refine lv_iload_n hx hb d_Nm_merge_6 rfl (lv_at hl 2 rfl) ?_
    refine t_V (As := [.int qb]) (rest := []) ⟨hx, hb, hml, hown, htg⟩ (c_Nm_checkName l D cs N0 H hl9 o z K r qb hI) ⟨x_cwB 1 htg (gw_mem (i := 738) (by decide +kernel) rfl) (gw_mem (i := 30) (by decide +kernel) rfl) (gw_mem (i := 735) (by decide +kernel) rfl) (by decide +kernel) ⟨Nat.le_of_ble_eq_true rfl, Nat.le_of_ble_eq_true rfl⟩, htg _ (gw_mem (i := 737) (by decide +kernel) rfl), htg _ (gw_mem (i := 11) (by decide +kernel) rfl)⟩ ⟨hPre.blind, hx_recv hK (ci := 1) rfl (show va_at D vwCl (o 0 0, .inr (1, [.ref (o 1 0), .ref (o 3 0), .ref (o 5 0), .ref (o 7 0), .ref (o 8 0), .int (nI (z 0 0)), .int (K 0 0 0), .ref (o 9 0)])) H from hI.at (k := 0) (n := 0) (show nmv z 0 0 from rfl)), hPre.at hB hS noA_in⟩ rfl hl.1 rfl (lv_room (Nat.le_of_ble_eq_true rfl)) d_Nm_merge_7 ⟨Nat.le_of_ble_eq_true rfl, Nat.le_of_ble_eq_true rfl⟩ (fun x9 E9 ce9 H9 L9 hL9 hb9 hc9 hv9 hf9 hz9 hk9 => ?_) (fun v9 H9 L9 hL9 hp9 hz9 hk9 => ?_)
    · have hn9 := noL hL9
      subst hn9
      have hnil := noL hS.2.2
      first | subst hnil | skip
      exact t_out (A := (nmA r N)) rfl hno hlocks ((Or.inl ⟨hb9.1, by simp [goV, e_qa, hq1, hb9.2]⟩)) hc9 hv9 hf9 (Nat.le_of_ble_eq_true rfl) (Nat.le_of_ble_eq_true rfl)
    · skip
      obtain ⟨hv9, hH9, hq2⟩ := hp9
      have hn8 := noL hL9
      subst hn8
      rw [hv9, hH9, List.append_nil]
      refine W.eq (g2 := F0 m 10 ls []) rfl ?_
      obtain ⟨j_qb, hj_qb, e_qb⟩ := isN_of hq2 (by omega)
      rw [e_qb] at hq2
      refine lv_aload_n hx hb d_Nm_merge_10 rfl (lv_at hl 0 rfl) ?_
      refine hx_get (ref := "NameMerges") (v := .ref (o 5 0)) hx hb htg iNm hown hK (show va_at D vwCl (o 0 0, .inr (1, [.ref (o 1 0), .ref (o 3 0), .ref (o 5 0), .ref (o 7 0), .ref (o 8 0), .int (nI (z 0 0)), .int (K 0 0 0), .ref (o 9 0)])) H from hI.at (k := 0) (n := 0) (show nmv z 0 0 from rfl)) rfl 2 (by decide) (htg _ (gw_mem (i := 128) (by decide +kernel) rfl)) (fun _ h9 => h9) rfl d_Nm_merge_11 ?_
      refine h_purei (va_runV (As := []) (rest := []) ⟨hx, hb, hml, hown, htg⟩ (c_AL_size l D cs N0 H (o 5 0) (nmL cs (z 5 0) (o 6 0)) (z 5 0) (K 5 0 0) (show va_at D vwCl (o 5 0, .inr (6, [.ref (nmL cs (z 5 0) (o 6 0)), .int (nI (z 5 0)), .int (K 5 0 0)])) H from hI.at (k := 5) (n := 0) (show nmv z 5 0 from rfl))) ⟨x_cwB 0 htg (gw_mem (i := 503) (by decide +kernel) rfl) (gw_mem (i := 37) (by decide +kernel) rfl) (gw_mem (i := 500) (by decide +kernel) rfl) (by decide +kernel) ⟨Nat.le_of_ble_eq_true rfl, Nat.le_of_ble_eq_true rfl⟩, htg _ (gw_mem (i := 501) (by decide +kernel) rfl), htg _ (gw_mem (i := 502) (by decide +kernel) rfl)⟩ ⟨hPre.blind, hx_recv hK (ci := 6) rfl (show va_at D vwCl (o 5 0, .inr (6, [.ref (nmL cs (z 5 0) (o 6 0)), .int (nI (z 5 0)), .int (K 5 0 0)])) H from hI.at (k := 5) (n := 0) (show nmv z 5 0 from rfl)), hPre.at hB hS noA_in⟩ rfl rfl hl.1 rfl (lv_room (Nat.le_of_ble_eq_true rfl)) d_Nm_merge_14 ⟨Nat.le_of_ble_eq_true rfl, Nat.le_of_ble_eq_true rfl⟩) hS (fun locs hS => ?_)
      refine lv_bipush (v := 60) hx hb d_Nm_merge_17 (by decide) ?_
      refine lv_icmp_lt (x := (nI (z 5 0))) (y := 60) (tgt := 32) hx hb d_Nm_merge_19 (by decide) (fun c19 => ?_) (fun c19 => ?_)
      · skip
        replace c19 : (z 5 0) < 60 := (nI_ltI (a := (z 5 0)) (b := 60) (by omega) (by omega)).mp c19
        refine lv_iload_n hx hb d_Nm_merge_32 rfl (lv_at hl 1 rfl) ?_
        refine lv_eqi (y := (nI j_qa)) e_qa ?_
        refine lv_iload_n hx hb d_Nm_merge_33 rfl (lv_at hl 2 rfl) ?_
        refine lv_eqi (y := (nI j_qb)) e_qb ?_
        refine t_S (As := [.int (nI j_qa), .int (nI j_qb)]) (rest := []) ⟨hx, hb, hml, hown, htg⟩ (c_Nm_checkDiffer l D cs N0 H hl9 (nI j_qa) (nI j_qb)) ⟨x_cwB 2 htg (gw_mem (i := 835) (by decide +kernel) rfl) (gw_mem (i := 30) (by decide +kernel) rfl) (gw_mem (i := 833) (by decide +kernel) rfl) (by decide +kernel) ⟨Nat.le_of_ble_eq_true rfl, Nat.le_of_ble_eq_true rfl⟩, htg _ (gw_mem (i := 834) (by decide +kernel) rfl)⟩ ⟨hPre.blind, hPre.at hB hS noA_in⟩ rfl hl.1 rfl (lv_room (Nat.le_of_ble_eq_true rfl)) d_Nm_merge_34 ⟨Nat.le_of_ble_eq_true rfl, Nat.le_of_ble_eq_true rfl⟩ (fun x9 E9 ce9 H9 L9 hL9 hb9 hc9 hv9 hf9 hz9 hk9 => ?_) (fun v9 H9 L9 hL9 hp9 hz9 hk9 => ?_)
        · have hn9 := noL hL9
          subst hn9
          have hnil := noL hS.2.2
          first | subst hnil | skip
          exact t_out (A := (nmA r N)) rfl hno hlocks ((Or.inr (Or.inr (⟨hb9.1, by simp [goV, c19, e_qa, e_qb, hq1, hq2, hb9.2]⟩)))) hc9 hv9 hf9 (Nat.le_of_ble_eq_true rfl) (Nat.le_of_ble_eq_true rfl)
        · skip
          obtain ⟨hv9, hH9, hq3⟩ := hp9
          have hn8 := noL hL9
          subst hn8
          rw [hv9, hH9, List.append_nil]
          refine W.eq (g2 := F0 m 37 ls []) rfl ?_
          refine lv_iload_n hx hb d_Nm_merge_37 rfl (lv_at hl 3 rfl) ?_
          refine t_S (As := [.int dy]) (rest := []) ⟨hx, hb, hml, hown, htg⟩ (c_Nm_checkDay l D cs N0 H hl9 dy) ⟨x_cwB 1 htg (gw_mem (i := 760) (by decide +kernel) rfl) (gw_mem (i := 30) (by decide +kernel) rfl) (gw_mem (i := 758) (by decide +kernel) rfl) (by decide +kernel) ⟨Nat.le_of_ble_eq_true rfl, Nat.le_of_ble_eq_true rfl⟩, htg _ (gw_mem (i := 759) (by decide +kernel) rfl)⟩ ⟨hPre.blind, hPre.at hB hS noA_in⟩ rfl hl.1 rfl (lv_room (Nat.le_of_ble_eq_true rfl)) d_Nm_merge_38 ⟨Nat.le_of_ble_eq_true rfl, Nat.le_of_ble_eq_true rfl⟩ (fun x9 E9 ce9 H9 L9 hL9 hb9 hc9 hv9 hf9 hz9 hk9 => ?_) (fun v9 H9 L9 hL9 hp9 hz9 hk9 => ?_)
          · have hn9 := noL hL9
            subst hn9
            have hnil := noL hS.2.2
            first | subst hnil | skip
            exact t_out (A := (nmA r N)) rfl hno hlocks ((Or.inr (Or.inr (⟨hb9.1, by simp [goV, c19, e_qa, e_qb, hq1, hq2, hq3, hb9.2]⟩)))) hc9 hv9 hf9 (Nat.le_of_ble_eq_true rfl) (Nat.le_of_ble_eq_true rfl)
          · skip
            obtain ⟨hv9, hH9, hq4⟩ := hp9
            have hn8 := noL hL9
            subst hn8
            rw [hv9, hH9, List.append_nil]
            refine W.eq (g2 := F0 m 41 ls []) rfl ?_
            refine lv_aload_n hx hb d_Nm_merge_41 rfl (lv_at hl 0 rfl) ?_
            refine hx_get (ref := "NameMerges") (v := .ref (o 7 0)) hx hb htg iNm hown hK (show va_at D vwCl (o 0 0, .inr (1, [.ref (o 1 0), .ref (o 3 0), .ref (o 5 0), .ref (o 7 0), .ref (o 8 0), .int (nI (z 0 0)), .int (K 0 0 0), .ref (o 9 0)])) H from hI.at (k := 0) (n := 0) (show nmv z 0 0 from rfl)) rfl 3 (by decide) (htg _ (gw_mem (i := 129) (by decide +kernel) rfl)) (fun _ h9 => h9) rfl d_Nm_merge_42 ?_
            refine lv_iload_n hx hb d_Nm_merge_45 rfl (lv_at hl 1 rfl) ?_
            refine lv_eqi (y := (nI j_qa)) e_qa ?_
            refine lv_iload_n hx hb d_Nm_merge_46 rfl (lv_at hl 2 rfl) ?_
            refine lv_eqi (y := (nI j_qb)) e_qb ?_
            refine h_purei (va_runS (As := [.int (nI j_qa), .int (nI j_qb)]) (rest := [.ref (o 7 0)]) ⟨hx, hb, hml, hown, htg⟩ (c_Nm_placeOf l D cs N0 H (nI j_qa) (nI j_qb)) ⟨x_cwB 2 htg (gw_mem (i := 533) (by decide +kernel) rfl) (gw_mem (i := 30) (by decide +kernel) rfl) (gw_mem (i := 531) (by decide +kernel) rfl) (by decide +kernel) ⟨Nat.le_of_ble_eq_true rfl, Nat.le_of_ble_eq_true rfl⟩, htg _ (gw_mem (i := 532) (by decide +kernel) rfl)⟩ ⟨hPre.blind, hPre.at hB hS noA_in⟩ rfl rfl hl.1 rfl (lv_room (Nat.le_of_ble_eq_true rfl)) d_Nm_merge_47 ⟨Nat.le_of_ble_eq_true rfl, Nat.le_of_ble_eq_true rfl⟩) hS (fun locs hS => ?_)
            refine lv_eqi (y := (nI (min j_qa j_qb * 24 + max j_qa j_qb))) (plc_nI (by omega) (by omega)) ?_
            refine hx_iald hx hb hK 0 (show va_at D vwCl (o 7 0, .inl (cs 0, (576, .inl (K 7 0)))) H from hI.at (k := 7) (n := 0) (show nmv z 7 0 from rfl)) rfl (show vp_in (nI (min j_qa j_qb * 24 + max j_qa j_qb)) 576 from vp_in_nI (n := min j_qa j_qb * 24 + max j_qa j_qb) (by omega) (by omega)) d_Nm_merge_50 ?_
            refine lv_eqi (y := ((K 7 0) (min j_qa j_qb * 24 + max j_qa j_qb))) (show (K 7 0) (nI (min j_qa j_qb * 24 + max j_qa j_qb)).toNatClampNeg = _ by rw [nI_clamp (by omega)]) ?_
            refine lv_iconst (v := 2) hx hb d_Nm_merge_51 (by decide) ?_
            refine lv_icmp_ne (x := ((K 7 0) (min j_qa j_qb * 24 + max j_qa j_qb))) (y := 2) (tgt := 57) hx hb d_Nm_merge_52 (by decide) (fun c52 => ?_) (fun c52 => ?_)
            · skip
              refine lv_aload_n hx hb d_Nm_merge_57 rfl (lv_at hl 0 rfl) ?_
              refine lv_iload_n hx hb d_Nm_merge_58 rfl (lv_at hl 1 rfl) ?_
              refine lv_eqi (y := (nI j_qa)) e_qa ?_
              refine lv_iload_n hx hb d_Nm_merge_59 rfl (lv_at hl 2 rfl) ?_
              refine lv_eqi (y := (nI j_qb)) e_qb ?_
              refine lv_iload_n hx hb d_Nm_merge_60 rfl (lv_at hl 3 rfl) ?_
              refine h_purei (va_runV (As := [.int (nI j_qa), .int (nI j_qb), .int dy]) (rest := []) ⟨hx, hb, hml, hown, htg⟩ (c_Nm_areOneFrom l D cs N0 H o z K r (nI j_qa) (nI j_qb) dy hI) ⟨x_cwB 3 htg (gw_mem (i := 849) (by decide +kernel) rfl) (gw_mem (i := 30) (by decide +kernel) rfl) (gw_mem (i := 846) (by decide +kernel) rfl) (by decide +kernel) ⟨Nat.le_of_ble_eq_true rfl, Nat.le_of_ble_eq_true rfl⟩, htg _ (gw_mem (i := 848) (by decide +kernel) rfl), htg _ (gw_mem (i := 12) (by decide +kernel) rfl)⟩ ⟨hPre.blind, hx_recv hK (ci := 1) rfl (show va_at D vwCl (o 0 0, .inr (1, [.ref (o 1 0), .ref (o 3 0), .ref (o 5 0), .ref (o 7 0), .ref (o 8 0), .int (nI (z 0 0)), .int (K 0 0 0), .ref (o 9 0)])) H from hI.at (k := 0) (n := 0) (show nmv z 0 0 from rfl)), hPre.at hB hS noA_in⟩ rfl rfl hl.1 rfl (lv_room (Nat.le_of_ble_eq_true rfl)) d_Nm_merge_61 ⟨Nat.le_of_ble_eq_true rfl, Nat.le_of_ble_eq_true rfl⟩) hS (fun locs hS => ?_)
              refine lv_if_eq (x := (bI (aofB z K (nI j_qa) (nI j_qb) dy))) (tgt := 69) hx hb d_Nm_merge_64 (by decide) (fun c64 => ?_) (fun c64 => ?_)
              · skip
                replace c64 : (aofB z K (nI j_qa) (nI j_qb) dy) = false := bI_0 c64
                refine lv_aload_n hx hb d_Nm_merge_69 rfl (lv_at hl 0 rfl) ?_
                refine hx_get (ref := "NameMerges") (v := .ref (o 5 0)) hx hb htg iNm hown hK (show va_at D vwCl (o 0 0, .inr (1, [.ref (o 1 0), .ref (o 3 0), .ref (o 5 0), .ref (o 7 0), .ref (o 8 0), .int (nI (z 0 0)), .int (K 0 0 0), .ref (o 9 0)])) H from hI.at (k := 0) (n := 0) (show nmv z 0 0 from rfl)) rfl 2 (by decide) (htg _ (gw_mem (i := 128) (by decide +kernel) rfl)) (fun _ h9 => h9) rfl d_Nm_merge_70 ?_
                rcases (show z 5 0 = 0 ∨ (0 < z 5 0 ∧ z 5 0 < z 6 0) ∨ (0 < z 5 0 ∧ z 5 0 = z 6 0) by omega) with hcs | hcs | hcs
                · skip
                  have hF : ∀ k9 n9, nmv z k9 n9 → ¬ (k9 = 5 ∨ k9 = 6) → H[o k9 n9]? = s.heap[o k9 n9]? := fun k9 n9 _ _ => by rw [hH]
                  have hl0 := hIN 0 0 rfl
                  have hl5 := hIN 5 0 rfl
                  have h05 := nm_empty (hI.at (k := 5) (n := 0) rfl) hcs
                  have h00 : va_at D vwCl (o 0 0, .inr (1, [.ref (o 1 0), .ref (o 3 0), .ref (o 5 0), .ref (o 7 0), .ref (o 8 0), .int (nI (z 0 0)), .int (K 0 0 0), .ref (o 9 0)])) H := hI.at (k := 0) (n := 0) (show nmv z 0 0 from rfl)
                  replace hS := x_wk (A' := (nmA r N)) hS (fun _ h9 => h9.elim)
                  obtain ⟨me, hme⟩ : ∃ z : Nat, z = H.size := ⟨_, rfl⟩
                  have hlt_q6 : o 5 0 < me := hme ▸ hx_lt h05
                  have hlt_q7 : o 0 0 < me := hme ▸ hx_lt h00
                  refine hx_new hx hb htg iMe tMe tMe_ok hown (htg _ (gw_mem (i := 523) (by decide +kernel) rfl)) (htg _ (gw_mem (i := 850) (by decide +kernel) rfl)) (htg _ (gw_mem (i := 58) (by decide +kernel) rfl)) hK hS (ci := 5) rfl (fs := [.int 0, .int 0, .int 0]) (by decide +kernel) (Nat.le_of_ble_eq_true rfl) (Nat.le_of_ble_eq_true rfl) d_Nm_merge_73 (fun H hat hz ho hS => ?_)
                  rw [← hme] at hat hz ho
                  rw [← hme]
                  have hO5 : va_at D vwCl (me, .inr (5, [.int 0, .int 0, .int 0])) H := hat
                  replace h05 := hx_keep h05 (ho _ (by omega))
                  replace h00 := hx_keep h00 (ho _ (by omega))
                  replace hF : ∀ k9 n9, nmv z k9 n9 → ¬ (k9 = 5 ∨ k9 = 6) → H[o k9 n9]? = s.heap[o k9 n9]? := fun k9 n9 hv9 hx9 => (ho _ (by have := hIN k9 n9 hv9; omega)).trans (hF k9 n9 hv9 hx9)
                  refine lv_dup hx hb d_Nm_merge_76 rfl ?_
                  refine lv_iload_n hx hb d_Nm_merge_77 rfl (lv_at hl 1 rfl) ?_
                  refine lv_eqi (y := (nI j_qa)) e_qa ?_
                  refine lv_iload_n hx hb d_Nm_merge_78 rfl (lv_at hl 2 rfl) ?_
                  refine lv_eqi (y := (nI j_qb)) e_qb ?_
                  refine h_purei (va_runS (As := [.int (nI j_qa), .int (nI j_qb)]) (rest := [.ref me, .ref me, .ref (o 5 0)]) ⟨hx, hb, hml, hown, htg⟩ (c_Nm_setOf l D cs N0 H (nI j_qa) (nI j_qb)) ⟨x_cwB 2 htg (gw_mem (i := 853) (by decide +kernel) rfl) (gw_mem (i := 30) (by decide +kernel) rfl) (gw_mem (i := 851) (by decide +kernel) rfl) (by decide +kernel) ⟨Nat.le_of_ble_eq_true rfl, Nat.le_of_ble_eq_true rfl⟩, htg _ (gw_mem (i := 852) (by decide +kernel) rfl)⟩ ⟨hPre.blind, hPre.at hB hS hAN⟩ rfl rfl hl.1 rfl (lv_room (Nat.le_of_ble_eq_true rfl)) d_Nm_merge_79 ⟨Nat.le_of_ble_eq_true rfl, Nat.le_of_ble_eq_true rfl⟩) hS (fun locs hS => ?_)
                  refine lv_iload_n hx hb d_Nm_merge_82 rfl (lv_at hl 3 rfl) ?_
                  obtain ⟨nq8, hnq8⟩ : ∃ z : Nat, z = H.size := ⟨_, rfl⟩
                  have hlt_q9 := hx_lt h05
                  have hlt_q10 := hx_lt h00
                  have hlt_q11 := hx_lt hO5
                  refine h_callv (va_runI (As := [.int (setV (nI j_qa) (nI j_qb)), .int dy]) (rest := [.ref me, .ref (o 5 0)]) ⟨hx, hb, hml, hown, htg⟩ (c_Me_init l D cs N0 H me nq8 ((setV (nI j_qa) (nI j_qb))) dy hO5 hnq8 (by omega)) ⟨x_cwB 2 htg (gw_mem (i := 856) (by decide +kernel) rfl) (gw_mem (i := 58) (by decide +kernel) rfl) (gw_mem (i := 854) (by decide +kernel) rfl) (by decide +kernel) ⟨Nat.le_of_ble_eq_true rfl, Nat.le_of_ble_eq_true rfl⟩, rfl, htg _ (gw_mem (i := 855) (by decide +kernel) rfl)⟩ ⟨hPre.blind, hPre.at hB hS hAN⟩ rfl rfl hl.1 rfl (lv_room (Nat.le_of_ble_eq_true rfl)) d_Nm_merge_83 ⟨Nat.le_of_ble_eq_true rfl, Nat.le_of_ble_eq_true rfl⟩) hS (jA_sub1 (Or.inr (show N ≤ me by omega)) (fun q9 h9 => Or.inr (show N ≤ q9 by omega))) (fun H locs hp hz hk hS => ?_)
                  replace h05 := hx_keep h05 (hk _ hlt_q9 (jA_not1 (show o 5 0 ≠ me by omega) (show o 5 0 < nq8 by omega)))
                  replace h00 := hx_keep h00 (hk _ hlt_q10 (jA_not1 (show o 0 0 ≠ me by omega) (show o 0 0 < nq8 by omega)))
                  replace hF : ∀ k9 n9, nmv z k9 n9 → ¬ (k9 = 5 ∨ k9 = 6) → H[o k9 n9]? = s.heap[o k9 n9]? := fun k9 n9 hv9 hx9 => (hk _ (by have := hIN k9 n9 hv9; omega) (jA_not1 (by have := hIN k9 n9 hv9; omega) (by have := hIN k9 n9 hv9; omega))).trans (hF k9 n9 hv9 hx9)
                  have hO12 := hp
                  obtain ⟨nq13, hnq13⟩ : ∃ z : Nat, z = H.size := ⟨_, rfl⟩
                  have hlt_q14 := hx_lt h05
                  have hlt_q15 := hx_lt h00
                  have hlt_q16 := hx_lt hO12
                  refine h_calli (va_runV (As := [.ref me]) (rest := []) ⟨hx, hb, hml, hown, htg⟩ (c_AL_add_e l D cs N0 H (o 5 0) nq13 5 me (K 5 0 0) _ h05 hnq13 (hI.ge (k := 5) (n := 0) (show nmv z 5 0 from rfl)) rfl (by decide) ⟨_, hO12⟩ (show me ≠ o 5 0 by omega)) ⟨x_cwB 1 htg (gw_mem (i := 684) (by decide +kernel) rfl) (gw_mem (i := 37) (by decide +kernel) rfl) (gw_mem (i := 681) (by decide +kernel) rfl) (by decide +kernel) ⟨Nat.le_of_ble_eq_true rfl, Nat.le_of_ble_eq_true rfl⟩, htg _ (gw_mem (i := 682) (by decide +kernel) rfl), htg _ (gw_mem (i := 683) (by decide +kernel) rfl)⟩ ⟨hPre.blind, hx_recv hK (ci := 6) rfl h05, hPre.at hB hS hAN⟩ rfl rfl hl.1 rfl (lv_room (Nat.le_of_ble_eq_true rfl)) d_Nm_merge_86 ⟨Nat.le_of_ble_eq_true rfl, Nat.le_of_ble_eq_true rfl⟩) hS (jA_sub1 (hI.inA (k := 5) (n := 0) (show nmv z 5 0 from rfl)) (fun q9 h9 => Or.inr (show N ≤ q9 by omega))) (fun r86 H locs hp hz hk hS => ?_)
                  replace h00 := hx_keep h00 (hk _ hlt_q15 (jA_not1 (hI.ne (k := 0) (n := 0) (k' := 5) (n' := 0) (show nmv z 0 0 from rfl) (show nmv z 5 0 from rfl) (Or.inl (by decide))) (show o 0 0 < nq13 by omega)))
                  replace hO12 := hx_keep hO12 (hk _ hlt_q16 (jA_not1 (show me ≠ o 5 0 by omega) (show me < nq13 by omega)))
                  replace hF : ∀ k9 n9, nmv z k9 n9 → ¬ (k9 = 5 ∨ k9 = 6) → H[o k9 n9]? = s.heap[o k9 n9]? := fun k9 n9 hv9 hx9 => (hk _ (by have := hIN k9 n9 hv9; omega) (jA_not1 (hI0.ne hv9 (show nmv z 5 0 from rfl) (by omega)) (by have := hIN k9 n9 hv9; omega))).trans (hF k9 n9 hv9 hx9)
                  obtain ⟨hr9, mc19, hO17, hO18⟩ := hp
                  subst hr9
                  refine lv_pop hx hb d_Nm_merge_89 rfl ?_
                  refine lv_iconst (v := 0) hx hb d_Nm_merge_90 (by decide) ?_
                  refine t_ret ?_
                  refine W.widen (k := 6) (n := 227) (Nat.le_of_ble_eq_true rfl) (Nat.le_of_ble_eq_true rfl) ?_
                  exact W.iret (v := 0) hx hb hr (fun t ht hW => Or.inl ⟨some (.int (0)), rfl, (by rw [ht]; exact (by simp only [e_qa, e_qb, tnI (j := j_qa) (by omega), tnI (j := j_qb) (by omega)]; exact ⟨(by simp [goV, c19, c52, c64, e_qa, e_qb, hq1, hq2, hq3, hq4]), by rw [if_neg c52, if_neg (by simp [c64])]; exact ⟨(by first | trivial | rfl), _, _, _, _, hI0.mrg (a := me) (ea := nq13) (cap := 10) hIN (by omega) (by omega) (Or.inr ⟨by omega, by omega⟩) (by omega) ⟨by omega, by omega, by omega⟩ hO12 (by rw [hcs]; exact hO17) (by rw [el_e hcs]; exact hO18) hF⟩⟩)), hS.F ht⟩) hS.2.2 d_Nm_merge_91
                · skip
                  have hF : ∀ k9 n9, nmv z k9 n9 → ¬ (k9 = 5 ∨ k9 = 6) → H[o k9 n9]? = s.heap[o k9 n9]? := fun k9 n9 _ _ => by rw [hH]
                  have hl0 := hIN 0 0 rfl
                  have hl5 := hIN 5 0 rfl
                  have h05 : va_at D vwCl (o 5 0, .inr (6, [.ref (o 6 0), .int (nI (z 5 0)), .int (K 5 0 0)])) H := nm_list (hI.at (k := 5) (n := 0) rfl) hcs.1
                  have h06 : va_at D vwCl (o 6 0, .inl (cs 4, (z 6 0, .inr (.inr (.inr (.inr (fun j => if j < z 5 0 then some (o 19 j) else none))))))) H := hI.at (k := 6) (n := 0) ⟨rfl, hcs.1⟩
                  have hl6 := hIN 6 0 ⟨rfl, hcs.1⟩
                  have h00 : va_at D vwCl (o 0 0, .inr (1, [.ref (o 1 0), .ref (o 3 0), .ref (o 5 0), .ref (o 7 0), .ref (o 8 0), .int (nI (z 0 0)), .int (K 0 0 0), .ref (o 9 0)])) H := hI.at (k := 0) (n := 0) (show nmv z 0 0 from rfl)
                  replace hS := x_wk (A' := (nmA r N)) hS (fun _ h9 => h9.elim)
                  obtain ⟨me, hme⟩ : ∃ z : Nat, z = H.size := ⟨_, rfl⟩
                  have hlt_q21 : o 5 0 < me := hme ▸ hx_lt h05
                  have hlt_q22 : o 0 0 < me := hme ▸ hx_lt h00
                  have hlt_q23 : o 6 0 < me := hme ▸ hx_lt h06
                  refine hx_new hx hb htg iMe tMe tMe_ok hown (htg _ (gw_mem (i := 523) (by decide +kernel) rfl)) (htg _ (gw_mem (i := 850) (by decide +kernel) rfl)) (htg _ (gw_mem (i := 58) (by decide +kernel) rfl)) hK hS (ci := 5) rfl (fs := [.int 0, .int 0, .int 0]) (by decide +kernel) (Nat.le_of_ble_eq_true rfl) (Nat.le_of_ble_eq_true rfl) d_Nm_merge_73 (fun H hat hz ho hS => ?_)
                  rw [← hme] at hat hz ho
                  rw [← hme]
                  have hO20 : va_at D vwCl (me, .inr (5, [.int 0, .int 0, .int 0])) H := hat
                  replace h05 := hx_keep h05 (ho _ (by omega))
                  replace h00 := hx_keep h00 (ho _ (by omega))
                  replace h06 := hx_keep h06 (ho _ (by omega))
                  replace hF : ∀ k9 n9, nmv z k9 n9 → ¬ (k9 = 5 ∨ k9 = 6) → H[o k9 n9]? = s.heap[o k9 n9]? := fun k9 n9 hv9 hx9 => (ho _ (by have := hIN k9 n9 hv9; omega)).trans (hF k9 n9 hv9 hx9)
                  refine lv_dup hx hb d_Nm_merge_76 rfl ?_
                  refine lv_iload_n hx hb d_Nm_merge_77 rfl (lv_at hl 1 rfl) ?_
                  refine lv_eqi (y := (nI j_qa)) e_qa ?_
                  refine lv_iload_n hx hb d_Nm_merge_78 rfl (lv_at hl 2 rfl) ?_
                  refine lv_eqi (y := (nI j_qb)) e_qb ?_
                  refine h_purei (va_runS (As := [.int (nI j_qa), .int (nI j_qb)]) (rest := [.ref me, .ref me, .ref (o 5 0)]) ⟨hx, hb, hml, hown, htg⟩ (c_Nm_setOf l D cs N0 H (nI j_qa) (nI j_qb)) ⟨x_cwB 2 htg (gw_mem (i := 853) (by decide +kernel) rfl) (gw_mem (i := 30) (by decide +kernel) rfl) (gw_mem (i := 851) (by decide +kernel) rfl) (by decide +kernel) ⟨Nat.le_of_ble_eq_true rfl, Nat.le_of_ble_eq_true rfl⟩, htg _ (gw_mem (i := 852) (by decide +kernel) rfl)⟩ ⟨hPre.blind, hPre.at hB hS hAN⟩ rfl rfl hl.1 rfl (lv_room (Nat.le_of_ble_eq_true rfl)) d_Nm_merge_79 ⟨Nat.le_of_ble_eq_true rfl, Nat.le_of_ble_eq_true rfl⟩) hS (fun locs hS => ?_)
                  refine lv_iload_n hx hb d_Nm_merge_82 rfl (lv_at hl 3 rfl) ?_
                  obtain ⟨nq24, hnq24⟩ : ∃ z : Nat, z = H.size := ⟨_, rfl⟩
                  have hlt_q25 := hx_lt h05
                  have hlt_q26 := hx_lt h00
                  have hlt_q27 := hx_lt hO20
                  have hlt_q28 := hx_lt h06
                  refine h_callv (va_runI (As := [.int (setV (nI j_qa) (nI j_qb)), .int dy]) (rest := [.ref me, .ref (o 5 0)]) ⟨hx, hb, hml, hown, htg⟩ (c_Me_init l D cs N0 H me nq24 ((setV (nI j_qa) (nI j_qb))) dy hO20 hnq24 (by omega)) ⟨x_cwB 2 htg (gw_mem (i := 856) (by decide +kernel) rfl) (gw_mem (i := 58) (by decide +kernel) rfl) (gw_mem (i := 854) (by decide +kernel) rfl) (by decide +kernel) ⟨Nat.le_of_ble_eq_true rfl, Nat.le_of_ble_eq_true rfl⟩, rfl, htg _ (gw_mem (i := 855) (by decide +kernel) rfl)⟩ ⟨hPre.blind, hPre.at hB hS hAN⟩ rfl rfl hl.1 rfl (lv_room (Nat.le_of_ble_eq_true rfl)) d_Nm_merge_83 ⟨Nat.le_of_ble_eq_true rfl, Nat.le_of_ble_eq_true rfl⟩) hS (jA_sub1 (Or.inr (show N ≤ me by omega)) (fun q9 h9 => Or.inr (show N ≤ q9 by omega))) (fun H locs hp hz hk hS => ?_)
                  replace h05 := hx_keep h05 (hk _ hlt_q25 (jA_not1 (show o 5 0 ≠ me by omega) (show o 5 0 < nq24 by omega)))
                  replace h00 := hx_keep h00 (hk _ hlt_q26 (jA_not1 (show o 0 0 ≠ me by omega) (show o 0 0 < nq24 by omega)))
                  replace h06 := hx_keep h06 (hk _ hlt_q28 (jA_not1 (show o 6 0 ≠ me by omega) (show o 6 0 < nq24 by omega)))
                  replace hF : ∀ k9 n9, nmv z k9 n9 → ¬ (k9 = 5 ∨ k9 = 6) → H[o k9 n9]? = s.heap[o k9 n9]? := fun k9 n9 hv9 hx9 => (hk _ (by have := hIN k9 n9 hv9; omega) (jA_not1 (by have := hIN k9 n9 hv9; omega) (by have := hIN k9 n9 hv9; omega))).trans (hF k9 n9 hv9 hx9)
                  have hO29 := hp
                  obtain ⟨nq30, hnq30⟩ : ∃ z : Nat, z = H.size := ⟨_, rfl⟩
                  have hlt_q31 := hx_lt h05
                  have hlt_q32 := hx_lt h00
                  have hlt_q33 := hx_lt hO29
                  have hlt_q34 := hx_lt h06
                  refine h_calli (va_runV (As := [.ref me]) (rest := []) ⟨hx, hb, hml, hown, htg⟩ (c_AL_add_r l D cs N0 H (o 5 0) (o 6 0) (z 6 0) (z 5 0) nq30 5 me (K 5 0 0) _ (fun j => if j < z 5 0 then some (o 19 j) else none) h05 h06 hnq30 (hI.ge (k := 5) (n := 0) (show nmv z 5 0 from rfl)) (hI.ge (k := 6) (n := 0) (show nmv z 6 0 from ⟨rfl, by omega⟩)) (hI.ne (k := 5) (n := 0) (k' := 6) (n' := 0) (show nmv z 5 0 from rfl) (show nmv z 6 0 from ⟨rfl, by omega⟩) (Or.inl (by decide))) rfl (by decide) (by omega) (by omega) ⟨_, hO29⟩ (show me ≠ o 5 0 by omega) (show me ≠ o 6 0 by omega)) ⟨x_cwB 1 htg (gw_mem (i := 684) (by decide +kernel) rfl) (gw_mem (i := 37) (by decide +kernel) rfl) (gw_mem (i := 681) (by decide +kernel) rfl) (by decide +kernel) ⟨Nat.le_of_ble_eq_true rfl, Nat.le_of_ble_eq_true rfl⟩, htg _ (gw_mem (i := 682) (by decide +kernel) rfl), htg _ (gw_mem (i := 683) (by decide +kernel) rfl)⟩ ⟨hPre.blind, hx_recv hK (ci := 6) rfl h05, hPre.at hB hS hAN⟩ rfl rfl hl.1 rfl (lv_room (Nat.le_of_ble_eq_true rfl)) d_Nm_merge_86 ⟨Nat.le_of_ble_eq_true rfl, Nat.le_of_ble_eq_true rfl⟩) hS (jA_sub2 (hI.inA (k := 5) (n := 0) (show nmv z 5 0 from rfl)) (hI.inA (k := 6) (n := 0) (show nmv z 6 0 from ⟨rfl, by omega⟩)) (fun q9 h9 => Or.inr (show N ≤ q9 by omega))) (fun r86 H locs hp hz hk hS => ?_)
                  replace h00 := hx_keep h00 (hk _ hlt_q32 (jA_not2 (hI.ne (k := 0) (n := 0) (k' := 5) (n' := 0) (show nmv z 0 0 from rfl) (show nmv z 5 0 from rfl) (Or.inl (by decide))) (hI.ne (k := 0) (n := 0) (k' := 6) (n' := 0) (show nmv z 0 0 from rfl) (show nmv z 6 0 from ⟨rfl, by omega⟩) (Or.inl (by decide))) (show o 0 0 < nq30 by omega)))
                  replace hO29 := hx_keep hO29 (hk _ hlt_q33 (jA_not2 (show me ≠ o 5 0 by omega) (show me ≠ o 6 0 by omega) (show me < nq30 by omega)))
                  replace hF : ∀ k9 n9, nmv z k9 n9 → ¬ (k9 = 5 ∨ k9 = 6) → H[o k9 n9]? = s.heap[o k9 n9]? := fun k9 n9 hv9 hx9 => (hk _ (by have := hIN k9 n9 hv9; omega) (jA_not2 (hI0.ne hv9 (show nmv z 5 0 from rfl) (by omega)) (hI0.ne hv9 (show nmv z 6 0 from ⟨rfl, by omega⟩) (by omega)) (by have := hIN k9 n9 hv9; omega))).trans (hF k9 n9 hv9 hx9)
                  obtain ⟨hr9, mc37, hO35, hO36⟩ := hp
                  subst hr9
                  refine lv_pop hx hb d_Nm_merge_89 rfl ?_
                  refine lv_iconst (v := 0) hx hb d_Nm_merge_90 (by decide) ?_
                  refine t_ret ?_
                  refine W.widen (k := 6) (n := 227) (Nat.le_of_ble_eq_true rfl) (Nat.le_of_ble_eq_true rfl) ?_
                  exact W.iret (v := 0) hx hb hr (fun t ht hW => Or.inl ⟨some (.int (0)), rfl, (by rw [ht]; exact (by simp only [e_qa, e_qb, tnI (j := j_qa) (by omega), tnI (j := j_qb) (by omega)]; exact ⟨(by simp [goV, c19, c52, c64, e_qa, e_qb, hq1, hq2, hq3, hq4]), by rw [if_neg c52, if_neg (by simp [c64])]; exact ⟨(by first | trivial | rfl), _, _, _, _, hI0.mrg (a := me) (ea := o 6 0) (cap := z 6 0) hIN (by omega) (by omega) (Or.inl ⟨rfl, hcs.1⟩) (by omega) ⟨by omega, by omega, by omega⟩ hO29 hO35 hO36 hF⟩⟩)), hS.F ht⟩) hS.2.2 d_Nm_merge_91
                · skip
                  have hF : ∀ k9 n9, nmv z k9 n9 → ¬ (k9 = 5 ∨ k9 = 6) → H[o k9 n9]? = s.heap[o k9 n9]? := fun k9 n9 _ _ => by rw [hH]
                  have hl0 := hIN 0 0 rfl
                  have hl5 := hIN 5 0 rfl
                  have h05 : va_at D vwCl (o 5 0, .inr (6, [.ref (o 6 0), .int (nI (z 5 0)), .int (K 5 0 0)])) H := nm_list (hI.at (k := 5) (n := 0) rfl) hcs.1
                  have h06 : va_at D vwCl (o 6 0, .inl (cs 4, (z 6 0, .inr (.inr (.inr (.inr (fun j => if j < z 5 0 then some (o 19 j) else none))))))) H := hI.at (k := 6) (n := 0) ⟨rfl, hcs.1⟩
                  have hl6 := hIN 6 0 ⟨rfl, hcs.1⟩
                  replace h05 : va_at D vwCl (o 5 0, .inr (6, [.ref (o 6 0), .int (nI (z 6 0)), .int (K 5 0 0)])) H := hcs.2 ▸ h05
                  have h00 : va_at D vwCl (o 0 0, .inr (1, [.ref (o 1 0), .ref (o 3 0), .ref (o 5 0), .ref (o 7 0), .ref (o 8 0), .int (nI (z 0 0)), .int (K 0 0 0), .ref (o 9 0)])) H := hI.at (k := 0) (n := 0) (show nmv z 0 0 from rfl)
                  replace hS := x_wk (A' := (nmA r N)) hS (fun _ h9 => h9.elim)
                  obtain ⟨me, hme⟩ : ∃ z : Nat, z = H.size := ⟨_, rfl⟩
                  have hlt_q39 : o 5 0 < me := hme ▸ hx_lt h05
                  have hlt_q40 : o 0 0 < me := hme ▸ hx_lt h00
                  have hlt_q41 : o 6 0 < me := hme ▸ hx_lt h06
                  refine hx_new hx hb htg iMe tMe tMe_ok hown (htg _ (gw_mem (i := 523) (by decide +kernel) rfl)) (htg _ (gw_mem (i := 850) (by decide +kernel) rfl)) (htg _ (gw_mem (i := 58) (by decide +kernel) rfl)) hK hS (ci := 5) rfl (fs := [.int 0, .int 0, .int 0]) (by decide +kernel) (Nat.le_of_ble_eq_true rfl) (Nat.le_of_ble_eq_true rfl) d_Nm_merge_73 (fun H hat hz ho hS => ?_)
                  rw [← hme] at hat hz ho
                  rw [← hme]
                  have hO38 : va_at D vwCl (me, .inr (5, [.int 0, .int 0, .int 0])) H := hat
                  replace h05 := hx_keep h05 (ho _ (by omega))
                  replace h00 := hx_keep h00 (ho _ (by omega))
                  replace h06 := hx_keep h06 (ho _ (by omega))
                  replace hF : ∀ k9 n9, nmv z k9 n9 → ¬ (k9 = 5 ∨ k9 = 6) → H[o k9 n9]? = s.heap[o k9 n9]? := fun k9 n9 hv9 hx9 => (ho _ (by have := hIN k9 n9 hv9; omega)).trans (hF k9 n9 hv9 hx9)
                  refine lv_dup hx hb d_Nm_merge_76 rfl ?_
                  refine lv_iload_n hx hb d_Nm_merge_77 rfl (lv_at hl 1 rfl) ?_
                  refine lv_eqi (y := (nI j_qa)) e_qa ?_
                  refine lv_iload_n hx hb d_Nm_merge_78 rfl (lv_at hl 2 rfl) ?_
                  refine lv_eqi (y := (nI j_qb)) e_qb ?_
                  refine h_purei (va_runS (As := [.int (nI j_qa), .int (nI j_qb)]) (rest := [.ref me, .ref me, .ref (o 5 0)]) ⟨hx, hb, hml, hown, htg⟩ (c_Nm_setOf l D cs N0 H (nI j_qa) (nI j_qb)) ⟨x_cwB 2 htg (gw_mem (i := 853) (by decide +kernel) rfl) (gw_mem (i := 30) (by decide +kernel) rfl) (gw_mem (i := 851) (by decide +kernel) rfl) (by decide +kernel) ⟨Nat.le_of_ble_eq_true rfl, Nat.le_of_ble_eq_true rfl⟩, htg _ (gw_mem (i := 852) (by decide +kernel) rfl)⟩ ⟨hPre.blind, hPre.at hB hS hAN⟩ rfl rfl hl.1 rfl (lv_room (Nat.le_of_ble_eq_true rfl)) d_Nm_merge_79 ⟨Nat.le_of_ble_eq_true rfl, Nat.le_of_ble_eq_true rfl⟩) hS (fun locs hS => ?_)
                  refine lv_iload_n hx hb d_Nm_merge_82 rfl (lv_at hl 3 rfl) ?_
                  obtain ⟨nq42, hnq42⟩ : ∃ z : Nat, z = H.size := ⟨_, rfl⟩
                  have hlt_q43 := hx_lt h05
                  have hlt_q44 := hx_lt h00
                  have hlt_q45 := hx_lt hO38
                  have hlt_q46 := hx_lt h06
                  refine h_callv (va_runI (As := [.int (setV (nI j_qa) (nI j_qb)), .int dy]) (rest := [.ref me, .ref (o 5 0)]) ⟨hx, hb, hml, hown, htg⟩ (c_Me_init l D cs N0 H me nq42 ((setV (nI j_qa) (nI j_qb))) dy hO38 hnq42 (by omega)) ⟨x_cwB 2 htg (gw_mem (i := 856) (by decide +kernel) rfl) (gw_mem (i := 58) (by decide +kernel) rfl) (gw_mem (i := 854) (by decide +kernel) rfl) (by decide +kernel) ⟨Nat.le_of_ble_eq_true rfl, Nat.le_of_ble_eq_true rfl⟩, rfl, htg _ (gw_mem (i := 855) (by decide +kernel) rfl)⟩ ⟨hPre.blind, hPre.at hB hS hAN⟩ rfl rfl hl.1 rfl (lv_room (Nat.le_of_ble_eq_true rfl)) d_Nm_merge_83 ⟨Nat.le_of_ble_eq_true rfl, Nat.le_of_ble_eq_true rfl⟩) hS (jA_sub1 (Or.inr (show N ≤ me by omega)) (fun q9 h9 => Or.inr (show N ≤ q9 by omega))) (fun H locs hp hz hk hS => ?_)
                  replace h05 := hx_keep h05 (hk _ hlt_q43 (jA_not1 (show o 5 0 ≠ me by omega) (show o 5 0 < nq42 by omega)))
                  replace h00 := hx_keep h00 (hk _ hlt_q44 (jA_not1 (show o 0 0 ≠ me by omega) (show o 0 0 < nq42 by omega)))
                  replace h06 := hx_keep h06 (hk _ hlt_q46 (jA_not1 (show o 6 0 ≠ me by omega) (show o 6 0 < nq42 by omega)))
                  replace hF : ∀ k9 n9, nmv z k9 n9 → ¬ (k9 = 5 ∨ k9 = 6) → H[o k9 n9]? = s.heap[o k9 n9]? := fun k9 n9 hv9 hx9 => (hk _ (by have := hIN k9 n9 hv9; omega) (jA_not1 (by have := hIN k9 n9 hv9; omega) (by have := hIN k9 n9 hv9; omega))).trans (hF k9 n9 hv9 hx9)
                  have hO47 := hp
                  obtain ⟨nq48, hnq48⟩ : ∃ z : Nat, z = H.size := ⟨_, rfl⟩
                  have hlt_q49 := hx_lt h05
                  have hlt_q50 := hx_lt h00
                  have hlt_q51 := hx_lt hO47
                  have hlt_q52 := hx_lt h06
                  refine h_calli (va_runV (As := [.ref me]) (rest := []) ⟨hx, hb, hml, hown, htg⟩ (c_AL_add_f l D cs N0 H (o 5 0) (o 6 0) (z 6 0) nq48 5 me (K 5 0 0) _ (fun j => if j < z 5 0 then some (o 19 j) else none) h05 h06 hnq48 (hI.ge (k := 5) (n := 0) (show nmv z 5 0 from rfl)) (hI.ge (k := 6) (n := 0) (show nmv z 6 0 from ⟨rfl, by omega⟩)) (hI.ne (k := 5) (n := 0) (k' := 6) (n' := 0) (show nmv z 5 0 from rfl) (show nmv z 6 0 from ⟨rfl, by omega⟩) (Or.inl (by decide))) (fun i9 y9 _ hy9 => nm_el5 hI0 (fun n9 hn9 => hF 19 n9 hn9 (by omega)) hy9) rfl (by decide) (by omega) (by omega) ⟨_, hO47⟩ (show me ≠ o 5 0 by omega) (show me ≠ o 6 0 by omega)) ⟨x_cwB 1 htg (gw_mem (i := 684) (by decide +kernel) rfl) (gw_mem (i := 37) (by decide +kernel) rfl) (gw_mem (i := 681) (by decide +kernel) rfl) (by decide +kernel) ⟨Nat.le_of_ble_eq_true rfl, Nat.le_of_ble_eq_true rfl⟩, htg _ (gw_mem (i := 682) (by decide +kernel) rfl), htg _ (gw_mem (i := 683) (by decide +kernel) rfl)⟩ ⟨hPre.blind, hx_recv hK (ci := 6) rfl h05, hPre.at hB hS hAN⟩ rfl rfl hl.1 rfl (lv_room (Nat.le_of_ble_eq_true rfl)) d_Nm_merge_86 ⟨Nat.le_of_ble_eq_true rfl, Nat.le_of_ble_eq_true rfl⟩) hS (jA_sub2 (hI.inA (k := 5) (n := 0) (show nmv z 5 0 from rfl)) (hI.inA (k := 6) (n := 0) (show nmv z 6 0 from ⟨rfl, by omega⟩)) (fun q9 h9 => Or.inr (show N ≤ q9 by omega))) (fun r86 H locs hp hz hk hS => ?_)
                  replace h00 := hx_keep h00 (hk _ hlt_q50 (jA_not2 (hI.ne (k := 0) (n := 0) (k' := 5) (n' := 0) (show nmv z 0 0 from rfl) (show nmv z 5 0 from rfl) (Or.inl (by decide))) (hI.ne (k := 0) (n := 0) (k' := 6) (n' := 0) (show nmv z 0 0 from rfl) (show nmv z 6 0 from ⟨rfl, by omega⟩) (Or.inl (by decide))) (show o 0 0 < nq48 by omega)))
                  replace hO47 := hx_keep hO47 (hk _ hlt_q51 (jA_not2 (show me ≠ o 5 0 by omega) (show me ≠ o 6 0 by omega) (show me < nq48 by omega)))
                  replace hF : ∀ k9 n9, nmv z k9 n9 → ¬ (k9 = 5 ∨ k9 = 6) → H[o k9 n9]? = s.heap[o k9 n9]? := fun k9 n9 hv9 hx9 => (hk _ (by have := hIN k9 n9 hv9; omega) (jA_not2 (hI0.ne hv9 (show nmv z 5 0 from rfl) (by omega)) (hI0.ne hv9 (show nmv z 6 0 from ⟨rfl, by omega⟩) (by omega)) (by have := hIN k9 n9 hv9; omega))).trans (hF k9 n9 hv9 hx9)
                  obtain ⟨hr9, mc55, hO53, hO54⟩ := hp
                  subst hr9
                  refine lv_pop hx hb d_Nm_merge_89 rfl ?_
                  refine lv_iconst (v := 0) hx hb d_Nm_merge_90 (by decide) ?_
                  refine t_ret ?_
                  exact W.iret (v := 0) hx hb hr (fun t ht hW => Or.inl ⟨some (.int (0)), rfl, (by rw [ht]; exact (by simp only [e_qa, e_qb, tnI (j := j_qa) (by omega), tnI (j := j_qb) (by omega)]; exact ⟨(by simp [goV, c19, c52, c64, e_qa, e_qb, hq1, hq2, hq3, hq4]), by rw [if_neg c52, if_neg (by simp [c64])]; exact ⟨(by first | trivial | rfl), _, _, _, _, hI0.mrg (a := me) (ea := nq48) (cap := z 6 0 + z 6 0 / 2) hIN (by omega) (by omega) (Or.inr ⟨by omega, by omega⟩) (by omega) ⟨by omega, by omega, by omega⟩ hO47 (by rw [hcs.2]; exact hO53) (by rw [el_f hcs.2]; exact hO54) hF⟩⟩)), hS.F ht⟩) hS.2.2 d_Nm_merge_91
              · skip
                replace c64 : (aofB z K (nI j_qa) (nI j_qb) dy) = true := bI_1 c64
                refine lv_iconst (v := 2) hx hb d_Nm_merge_67 (by decide) ?_
                replace hS := x_wk (A' := (nmA r N)) hS (fun _ h9 => h9.elim)
                refine t_ret ?_
                refine W.widen (k := 6) (n := 227) (Nat.le_of_ble_eq_true rfl) (Nat.le_of_ble_eq_true rfl) ?_
                exact W.iret (v := 2) hx hb hr (fun t ht hW => Or.inl ⟨some (.int (2)), rfl, (by rw [ht]; exact (by simp only [e_qa, e_qb, tnI (j := j_qa) (by omega), tnI (j := j_qb) (by omega)]; exact ⟨(by simp [goV, c19, c52, c64, e_qa, e_qb, hq1, hq2, hq3, hq4]), by rw [if_neg c52, if_pos c64]; exact ⟨(by first | trivial | rfl), hI⟩⟩)), hS.F ht⟩) hS.2.2 d_Nm_merge_68
            · skip
              refine lv_iconst (v := 1) hx hb d_Nm_merge_55 (by decide) ?_
              replace hS := x_wk (A' := (nmA r N)) hS (fun _ h9 => h9.elim)
              refine t_ret ?_
              refine W.widen (k := 6) (n := 227) (Nat.le_of_ble_eq_true rfl) (Nat.le_of_ble_eq_true rfl) ?_
              exact W.iret (v := 1) hx hb hr (fun t ht hW => Or.inl ⟨some (.int (1)), rfl, (by rw [ht]; exact (by simp only [e_qa, e_qb, tnI (j := j_qa) (by omega), tnI (j := j_qb) (by omega)]; exact ⟨(by simp [goV, c19, c52, e_qa, e_qb, hq1, hq2, hq3, hq4]), by rw [if_pos c52]; exact ⟨(by first | trivial | rfl), hI⟩⟩)), hS.F ht⟩) hS.2.2 d_Nm_merge_56
      · skip
        replace c19 : ¬ ((z 5 0) < 60) := fun z9 => c19 ((nI_ltI (a := (z 5 0)) (b := 60) (by omega) (by omega)).mpr z9)
        have hnil := noL hS.2.2
        first | subst hnil | skip
        exact t_throw (A := (nmA r N)) (text := "as many merges were told as may be") (names := exUp) hx hb hl9 hown (by decide) (by decide) (htg _ (gw_mem (i := 605) (by decide +kernel) rfl)) (htg _ (gw_mem (i := 42) (by decide +kernel) rfl)) (zStr (q := ("NameMerges", 167, "as many merges were told as may be")) hB (by decide)) (fun a ha => zOk_before htg hB (List.all_eq_true.mp own_ise a ha)) hS.1 (hl.1.trans hml.symm) d_Nm_merge_22 d_Nm_merge_25 d_Nm_merge_26 d_Nm_merge_28 d_Nm_merge_31 hno (Nat.le_of_ble_eq_true rfl) (Nat.le_of_ble_eq_true rfl) (Nat.le_of_ble_eq_true rfl) (Nat.le_of_ble_eq_true rfl) hlocks (Or.inr (Or.inl ⟨rfl, by simp [goV, c19, e_qa, e_qb, hq1, hq2]⟩)) (Nat.le_of_ble_eq_true rfl) (Nat.le_of_ble_eq_true rfl)
def y_Nm_name : MethodName := ⟨"NameMerges", "name", "()I"⟩
abbrev w_Nm_name : List Cond := Cond.code y_Nm_name prog_1_method_4_code 1 (Option.some Jvm.ClassFile.FieldType.int) :: gw
theorem d_Nm_name_0 : decode prog_1_method_4_code 0 = .ok (.aload_n 0, 1) := by decide +kernel
theorem d_Nm_name_1 : decode prog_1_method_4_code 1 = .ok (.getfield 19, 3) := by decide +kernel
theorem d_Nm_name_4 : decode prog_1_method_4_code 4 = .ok (.invokevirtual 67, 3) := by decide +kernel
theorem d_Nm_name_7 : decode prog_1_method_4_code 7 = .ok (.bipush 24, 2) := by decide +kernel
theorem d_Nm_name_9 : decode prog_1_method_4_code 9 = .ok (.if_icmp .lt 13, 3) := by decide +kernel
theorem d_Nm_name_12 : decode prog_1_method_4_code 12 = .ok (.new 47, 3) := by decide +kernel
theorem d_Nm_name_15 : decode prog_1_method_4_code 15 = .ok (.dup, 1) := by decide +kernel
theorem d_Nm_name_16 : decode prog_1_method_4_code 16 = .ok (.ldc 70, 2) := by decide +kernel
theorem d_Nm_name_18 : decode prog_1_method_4_code 18 = .ok (.invokespecial 51, 3) := by decide +kernel
theorem d_Nm_name_21 : decode prog_1_method_4_code 21 = .ok (.athrow, 1) := by decide +kernel
theorem d_Nm_name_22 : decode prog_1_method_4_code 22 = .ok (.aload_n 0, 1) := by decide +kernel
theorem d_Nm_name_23 : decode prog_1_method_4_code 23 = .ok (.getfield 19, 3) := by decide +kernel
theorem d_Nm_name_26 : decode prog_1_method_4_code 26 = .ok (.new 72, 3) := by decide +kernel
theorem d_Nm_name_29 : decode prog_1_method_4_code 29 = .ok (.dup, 1) := by decide +kernel
theorem d_Nm_name_30 : decode prog_1_method_4_code 30 = .ok (.invokespecial 74, 3) := by decide +kernel
theorem d_Nm_name_33 : decode prog_1_method_4_code 33 = .ok (.invokevirtual 75, 3) := by decide +kernel
theorem d_Nm_name_36 : decode prog_1_method_4_code 36 = .ok (.pop, 1) := by decide +kernel
theorem d_Nm_name_37 : decode prog_1_method_4_code 37 = .ok (.aload_n 0, 1) := by decide +kernel
theorem d_Nm_name_38 : decode prog_1_method_4_code 38 = .ok (.getfield 19, 3) := by decide +kernel
theorem d_Nm_name_41 : decode prog_1_method_4_code 41 = .ok (.invokevirtual 67, 3) := by decide +kernel
theorem d_Nm_name_44 : decode prog_1_method_4_code 44 = .ok (.iconst 1, 1) := by decide +kernel
theorem d_Nm_name_45 : decode prog_1_method_4_code 45 = .ok (.isub, 1) := by decide +kernel
theorem d_Nm_name_46 : decode prog_1_method_4_code 46 = .ok (.ireturn, 1) := by decide +kernel
set_option maxHeartbeats 4000000 in
set_option maxRecDepth 100000 in
theorem c_Nm_name (l : Launch) (D : va_G) (cs : Nat → ClassId) (N0 : Nat) (H : Heap) (hl9 : l.stackTraces = false) (o z : Nat → Nat → Nat) (K : Nat → Nat → Nat → Int32) (r : Nat → Nat × Nat) (N : Nat) (hI : nmP D cs N0 H o z K r) (hN : N = H.size) : tMet l y_Nm_name w_Nm_name ({ frames := 7, cells := 4, slots := 214, locals := 171 }) (hPre D cs N0 [.ref (o 0 0)] H) (hT (fun v H' => goV (decide (z 3 0 < 24)) true true = 0 ∧ v = some (.int (nI (z 3 0))) ∧ ∃ (a u w ea cap : Nat) (mc : Int32) (r' : Nat → Nat × Nat), nmP D cs N0 H' (upZ (upZ (upZ (upZ o 10 (z 3 0) a) 11 (z 3 0) u) 13 (z 3 0) w) 4 0 ea) (upZ (upZ (upZ (upZ z 11 (z 3 0) 0) 14 (z 3 0) 0) 4 0 cap) 3 0 (z 3 0 + 1)) (upK (upK (upK (upK K 10 (z 3 0) (fun _ => 0)) 11 (z 3 0) (fun _ => 0)) 13 (z 3 0) (fun _ => 0)) 3 0 (fun _ => mc)) r' ∧ ∀ q, q < N → r' q = r q) (fun E => (E = "java/lang/IllegalStateException" ∧ goV (decide (z 3 0 < 24)) true true = 1)) (nmA r N)) 4 214 (nmA r N) := by
  refine tMet.ofW (cc := prog_1_method_4_code) (maxL := 1) (ret := (Option.some Jvm.ClassFile.FieldType.int)) (by decide) rfl ?_
  intro p e s m args below meth c s₁ B hml hno hv
  obtain ⟨rfl, rfl, hB⟩ := hv
  have hx := B.exec
  have hb := B.bytes
  have hr := B.returns
  have hts := atoms_spec (ws := w_Nm_name) B.pre
  have htg : ∀ w ∈ gw, w.before _ s = true := fun w h => hts w (List.mem_cons_of_mem _ h)
  have hown : s.vm.findClass "NameMerges" = some m.cls := findClass_of_methodNamed B.named
  have hlocks := B.notSynchronized
  have hAN : ∀ q, nmA r N q → N0 ≤ q := fun q9 h9 => h9.elim (hI.2.1 q9) (fun h9 => Nat.le_trans hB.2.1 (hN ▸ h9))
  have hK := hB.1
  obtain ⟨H, hH⟩ : ∃ z : Heap, z = s.heap := ⟨_, rfl⟩
  have hz0 : H.size = s.heap.size := by rw [hH]
  have hN0 := hB.2.1
  rw [← hH] at hI
  have hS : va_S noA s.heap H [] := by rw [hH]; exact va_S.rf
  have hl := lv_entry ([.ref (o 0 0)]) (n := 1) (Nat.le_of_ble_eq_true rfl)
  rw [lg_entry_eq, ← hH]
  generalize (lg_sl ([.ref (o 0 0)]) ++ List.replicate (1 - (lg_sl ([.ref (o 0 0)])).length) Slot.unset).toArray = ls at hl ⊢
  have hl : lv_has ls 1 [(0, .ref (o 0 0))] := hl
  obtain ⟨hb0, hb1, hb3, hb5, hb4, hb6, hb11, hb17⟩ := hI.2.2.1
  have hIN : ∀ k9 n9, nmv z k9 n9 → o k9 n9 < N := fun k9 n9 hv9 => by have := hI.lt hv9; omega
  have hI0 : nmP D cs N0 s.heap o z K r := hH ▸ hI
  refine lv_aload_n hx hb d_Nm_name_0 rfl (lv_at hl 0 rfl) ?_
  refine hx_get (ref := "NameMerges") (v := .ref (o 3 0)) hx hb htg iNm hown hK (show va_at D vwCl (o 0 0, .inr (1, [.ref (o 1 0), .ref (o 3 0), .ref (o 5 0), .ref (o 7 0), .ref (o 8 0), .int (nI (z 0 0)), .int (K 0 0 0), .ref (o 9 0)])) H from hI.at (k := 0) (n := 0) (show nmv z 0 0 from rfl)) rfl 1 (by decide) (htg _ (gw_mem (i := 127) (by decide +kernel) rfl)) (fun _ h9 => h9) rfl d_Nm_name_1 ?_
  refine h_purei (va_runV (As := []) (rest := []) ⟨hx, hb, hml, hown, htg⟩ (c_AL_size l D cs N0 H (o 3 0) (nmL cs (z 3 0) (o 4 0)) (z 3 0) (K 3 0 0) (show va_at D vwCl (o 3 0, .inr (6, [.ref (nmL cs (z 3 0) (o 4 0)), .int (nI (z 3 0)), .int (K 3 0 0)])) H from hI.at (k := 3) (n := 0) (show nmv z 3 0 from rfl))) ⟨x_cwB 0 htg (gw_mem (i := 503) (by decide +kernel) rfl) (gw_mem (i := 37) (by decide +kernel) rfl) (gw_mem (i := 500) (by decide +kernel) rfl) (by decide +kernel) ⟨Nat.le_of_ble_eq_true rfl, Nat.le_of_ble_eq_true rfl⟩, htg _ (gw_mem (i := 501) (by decide +kernel) rfl), htg _ (gw_mem (i := 502) (by decide +kernel) rfl)⟩ ⟨hPre.blind, hx_recv hK (ci := 6) rfl (show va_at D vwCl (o 3 0, .inr (6, [.ref (nmL cs (z 3 0) (o 4 0)), .int (nI (z 3 0)), .int (K 3 0 0)])) H from hI.at (k := 3) (n := 0) (show nmv z 3 0 from rfl)), hPre.at hB hS noA_in⟩ rfl rfl hl.1 rfl (lv_room (Nat.le_of_ble_eq_true rfl)) d_Nm_name_4 ⟨Nat.le_of_ble_eq_true rfl, Nat.le_of_ble_eq_true rfl⟩) hS (fun locs hS => ?_)
  refine lv_bipush (v := 24) hx hb d_Nm_name_7 (by decide) ?_
  refine lv_icmp_lt (x := (nI (z 3 0))) (y := 24) (tgt := 22) hx hb d_Nm_name_9 (by decide) (fun c9 => ?_) (fun c9 => ?_)
  · skip
    replace c9 : (z 3 0) < 24 := (nI_ltI (a := (z 3 0)) (b := 24) (by omega) (by omega)).mp c9
    refine lv_aload_n hx hb d_Nm_name_22 rfl (lv_at hl 0 rfl) ?_
    refine hx_get (ref := "NameMerges") (v := .ref (o 3 0)) hx hb htg iNm hown hK (show va_at D vwCl (o 0 0, .inr (1, [.ref (o 1 0), .ref (o 3 0), .ref (o 5 0), .ref (o 7 0), .ref (o 8 0), .int (nI (z 0 0)), .int (K 0 0 0), .ref (o 9 0)])) H from hI.at (k := 0) (n := 0) (show nmv z 0 0 from rfl)) rfl 1 (by decide) (htg _ (gw_mem (i := 127) (by decide +kernel) rfl)) (fun _ h9 => h9) rfl d_Nm_name_23 ?_
    rcases (show z 3 0 = 0 ∨ (0 < z 3 0 ∧ z 3 0 < z 4 0) ∨ (0 < z 3 0 ∧ z 3 0 = z 4 0) by omega) with hcs | hcs | hcs
    · skip
      have hF : ∀ k9 n9, nmv z k9 n9 → ¬ (k9 = 3 ∨ k9 = 4) → H[o k9 n9]? = s.heap[o k9 n9]? := fun k9 n9 _ _ => by rw [hH]
      have hl0 := hIN 0 0 rfl
      have hl3 := hIN 3 0 rfl
      have h03 := nm_empty (hI.at (k := 3) (n := 0) rfl) hcs
      have h00 : va_at D vwCl (o 0 0, .inr (1, [.ref (o 1 0), .ref (o 3 0), .ref (o 5 0), .ref (o 7 0), .ref (o 8 0), .int (nI (z 0 0)), .int (K 0 0 0), .ref (o 9 0)])) H := hI.at (k := 0) (n := 0) (show nmv z 0 0 from rfl)
      replace hS := x_wk (A' := (nmA r N)) hS (fun _ h9 => h9.elim)
      obtain ⟨na, hna⟩ : ∃ z : Nat, z = H.size := ⟨_, rfl⟩
      have hlt_q2 : o 3 0 < na := hna ▸ hx_lt h03
      have hlt_q3 : o 0 0 < na := hna ▸ hx_lt h00
      refine hx_new hx hb htg iNa tNa tNa_ok hown (htg _ (gw_mem (i := 536) (by decide +kernel) rfl)) (htg _ (gw_mem (i := 645) (by decide +kernel) rfl)) (htg _ (gw_mem (i := 54) (by decide +kernel) rfl)) hK hS (ci := 2) rfl (fs := [.null, .null, .null, .int 0, .int 0, .int 0, .int 0]) (by decide +kernel) (Nat.le_of_ble_eq_true rfl) (Nat.le_of_ble_eq_true rfl) d_Nm_name_26 (fun H hat hz ho hS => ?_)
      rw [← hna] at hat hz ho
      rw [← hna]
      have hO1 : va_at D vwCl (na, .inr (2, [.null, .null, .null, .int 0, .int 0, .int 0, .int 0])) H := hat
      replace h03 := hx_keep h03 (ho _ (by omega))
      replace h00 := hx_keep h00 (ho _ (by omega))
      replace hF : ∀ k9 n9, nmv z k9 n9 → ¬ (k9 = 3 ∨ k9 = 4) → H[o k9 n9]? = s.heap[o k9 n9]? := fun k9 n9 hv9 hx9 => (ho _ (by have := hIN k9 n9 hv9; omega)).trans (hF k9 n9 hv9 hx9)
      refine lv_dup hx hb d_Nm_name_29 rfl ?_
      obtain ⟨nq4, hnq4⟩ : ∃ z : Nat, z = H.size := ⟨_, rfl⟩
      have hlt_q5 := hx_lt h03
      have hlt_q6 := hx_lt h00
      have hlt_q7 := hx_lt hO1
      refine h_callv (va_runIN (As := []) (rest := [.ref na, .ref (o 3 0)]) ⟨hx, hb, hml, hown, htg⟩ (c_Na_init l D cs N0 H na nq4 hO1 hnq4 (by omega)) ⟨va_cnB 0 htg (gw_I (gw_mem (i := 648) (by decide +kernel) rfl)) rfl rfl rfl hB.2.2.1.2.2.2.2.2.1 (htg _ (gw_mem (i := 54) (by decide +kernel) rfl)) (by decide +kernel) ⟨Nat.le_of_ble_eq_true rfl, Nat.le_of_ble_eq_true rfl⟩, rfl, htg _ (gw_mem (i := 647) (by decide +kernel) rfl)⟩ ⟨hPre.blind, hPre.at hB hS hAN⟩ rfl rfl hl.1 rfl (lv_room (Nat.le_of_ble_eq_true rfl)) d_Nm_name_30 ⟨Nat.le_of_ble_eq_true rfl, Nat.le_of_ble_eq_true rfl⟩) hS (jA_sub1 (Or.inr (show N ≤ na by omega)) (fun q9 h9 => Or.inr (show N ≤ q9 by omega))) (fun H locs hp hz hk hS => ?_)
      replace h03 := hx_keep h03 (hk _ hlt_q5 (jA_not1 (show o 3 0 ≠ na by omega) (show o 3 0 < nq4 by omega)))
      replace h00 := hx_keep h00 (hk _ hlt_q6 (jA_not1 (show o 0 0 ≠ na by omega) (show o 0 0 < nq4 by omega)))
      replace hF : ∀ k9 n9, nmv z k9 n9 → ¬ (k9 = 3 ∨ k9 = 4) → H[o k9 n9]? = s.heap[o k9 n9]? := fun k9 n9 hv9 hx9 => (hk _ (by have := hIN k9 n9 hv9; omega) (jA_not1 (by have := hIN k9 n9 hv9; omega) (by have := hIN k9 n9 hv9; omega))).trans (hF k9 n9 hv9 hx9)
      obtain ⟨na11, na12, hna11, hna12, hO8, hO9, hO10⟩ := hp
      obtain ⟨nq13, hnq13⟩ : ∃ z : Nat, z = H.size := ⟨_, rfl⟩
      have hlt_q14 := hx_lt h03
      have hlt_q15 := hx_lt h00
      have hlt_q16 := hx_lt hO8
      have hlt_q17 := hx_lt hO9
      have hlt_q18 := hx_lt hO10
      refine h_calli (va_runV (As := [.ref na]) (rest := []) ⟨hx, hb, hml, hown, htg⟩ (c_AL_add_e l D cs N0 H (o 3 0) nq13 2 na (K 3 0 0) _ h03 hnq13 (hI.ge (k := 3) (n := 0) (show nmv z 3 0 from rfl)) rfl (by decide) ⟨_, hO8⟩ (show na ≠ o 3 0 by omega)) ⟨x_cwB 1 htg (gw_mem (i := 684) (by decide +kernel) rfl) (gw_mem (i := 37) (by decide +kernel) rfl) (gw_mem (i := 681) (by decide +kernel) rfl) (by decide +kernel) ⟨Nat.le_of_ble_eq_true rfl, Nat.le_of_ble_eq_true rfl⟩, htg _ (gw_mem (i := 682) (by decide +kernel) rfl), htg _ (gw_mem (i := 683) (by decide +kernel) rfl)⟩ ⟨hPre.blind, hx_recv hK (ci := 6) rfl h03, hPre.at hB hS hAN⟩ rfl rfl hl.1 rfl (lv_room (Nat.le_of_ble_eq_true rfl)) d_Nm_name_33 ⟨Nat.le_of_ble_eq_true rfl, Nat.le_of_ble_eq_true rfl⟩) hS (jA_sub1 (hI.inA (k := 3) (n := 0) (show nmv z 3 0 from rfl)) (fun q9 h9 => Or.inr (show N ≤ q9 by omega))) (fun r33 H locs hp hz hk hS => ?_)
      replace h00 := hx_keep h00 (hk _ hlt_q15 (jA_not1 (hI.ne (k := 0) (n := 0) (k' := 3) (n' := 0) (show nmv z 0 0 from rfl) (show nmv z 3 0 from rfl) (Or.inl (by decide))) (show o 0 0 < nq13 by omega)))
      replace hO8 := hx_keep hO8 (hk _ hlt_q16 (jA_not1 (show na ≠ o 3 0 by omega) (show na < nq13 by omega)))
      replace hO9 := hx_keep hO9 (hk _ hlt_q17 (jA_not1 (show na11 ≠ o 3 0 by omega) (show na11 < nq13 by omega)))
      replace hO10 := hx_keep hO10 (hk _ hlt_q18 (jA_not1 (show na12 ≠ o 3 0 by omega) (show na12 < nq13 by omega)))
      replace hF : ∀ k9 n9, nmv z k9 n9 → ¬ (k9 = 3 ∨ k9 = 4) → H[o k9 n9]? = s.heap[o k9 n9]? := fun k9 n9 hv9 hx9 => (hk _ (by have := hIN k9 n9 hv9; omega) (jA_not1 (hI0.ne hv9 (show nmv z 3 0 from rfl) (by omega)) (by have := hIN k9 n9 hv9; omega))).trans (hF k9 n9 hv9 hx9)
      obtain ⟨hr9, mc21, hO19, hO20⟩ := hp
      subst hr9
      refine lv_pop hx hb d_Nm_name_36 rfl ?_
      refine lv_aload_n hx hb d_Nm_name_37 rfl (lv_at hl 0 rfl) ?_
      refine hx_get (ref := "NameMerges") (v := .ref (o 3 0)) hx hb htg iNm hown hK h00 rfl 1 (by decide) (htg _ (gw_mem (i := 127) (by decide +kernel) rfl)) (fun _ h9 => h9) rfl d_Nm_name_38 ?_
      refine h_purei (va_runV (As := []) (rest := []) ⟨hx, hb, hml, hown, htg⟩ (c_AL_size l D cs N0 H (o 3 0) nq13 1 mc21 hO19) ⟨x_cwB 0 htg (gw_mem (i := 503) (by decide +kernel) rfl) (gw_mem (i := 37) (by decide +kernel) rfl) (gw_mem (i := 500) (by decide +kernel) rfl) (by decide +kernel) ⟨Nat.le_of_ble_eq_true rfl, Nat.le_of_ble_eq_true rfl⟩, htg _ (gw_mem (i := 501) (by decide +kernel) rfl), htg _ (gw_mem (i := 502) (by decide +kernel) rfl)⟩ ⟨hPre.blind, hx_recv hK (ci := 6) rfl hO19, hPre.at hB hS hAN⟩ rfl rfl hl.1 rfl (lv_room (Nat.le_of_ble_eq_true rfl)) d_Nm_name_41 ⟨Nat.le_of_ble_eq_true rfl, Nat.le_of_ble_eq_true rfl⟩) hS (fun locs hS => ?_)
      refine lv_iconst (v := 1) hx hb d_Nm_name_44 (by decide) ?_
      refine lv_isub (x := 1) (y := 1) hx hb d_Nm_name_45 ?_
      refine lv_eqi (y := 0) (by decide) ?_
      refine t_ret ?_
      refine W.widen (k := 4) (n := 214) (Nat.le_of_ble_eq_true rfl) (Nat.le_of_ble_eq_true rfl) ?_
      exact W.iret (v := 0) hx hb hr (fun t ht hW => Or.inl ⟨some (.int (0)), rfl, (by rw [ht]; exact ⟨(by simp [goV, c9]), by rw [hcs]; rfl, _, _, _, _, _, _, hI0.nam (a := na) (u := na11) (v := na12) (ea := nq13) (cap := 10) hIN (by omega) (by omega) (by omega) (by omega) ⟨by omega, by omega, by omega⟩ (Or.inr ⟨by omega, by omega, by omega, by omega⟩) (by omega) ⟨by omega, by omega, by omega⟩ hO8 hO9 hO10 (by rw [hcs]; exact hO19) (by rw [el_e hcs]; exact hO20) hF⟩), hS.F ht⟩) hS.2.2 d_Nm_name_46
    · skip
      have hF : ∀ k9 n9, nmv z k9 n9 → ¬ (k9 = 3 ∨ k9 = 4) → H[o k9 n9]? = s.heap[o k9 n9]? := fun k9 n9 _ _ => by rw [hH]
      have hl0 := hIN 0 0 rfl
      have hl3 := hIN 3 0 rfl
      have h03 : va_at D vwCl (o 3 0, .inr (6, [.ref (o 4 0), .int (nI (z 3 0)), .int (K 3 0 0)])) H := nm_list (hI.at (k := 3) (n := 0) rfl) hcs.1
      have h04 : va_at D vwCl (o 4 0, .inl (cs 4, (z 4 0, .inr (.inr (.inr (.inr (fun j => if j < z 3 0 then some (o 10 j) else none))))))) H := hI.at (k := 4) (n := 0) ⟨rfl, hcs.1⟩
      have hl4 := hIN 4 0 ⟨rfl, hcs.1⟩
      have h00 : va_at D vwCl (o 0 0, .inr (1, [.ref (o 1 0), .ref (o 3 0), .ref (o 5 0), .ref (o 7 0), .ref (o 8 0), .int (nI (z 0 0)), .int (K 0 0 0), .ref (o 9 0)])) H := hI.at (k := 0) (n := 0) (show nmv z 0 0 from rfl)
      replace hS := x_wk (A' := (nmA r N)) hS (fun _ h9 => h9.elim)
      obtain ⟨na, hna⟩ : ∃ z : Nat, z = H.size := ⟨_, rfl⟩
      have hlt_q23 : o 3 0 < na := hna ▸ hx_lt h03
      have hlt_q24 : o 0 0 < na := hna ▸ hx_lt h00
      have hlt_q25 : o 4 0 < na := hna ▸ hx_lt h04
      refine hx_new hx hb htg iNa tNa tNa_ok hown (htg _ (gw_mem (i := 536) (by decide +kernel) rfl)) (htg _ (gw_mem (i := 645) (by decide +kernel) rfl)) (htg _ (gw_mem (i := 54) (by decide +kernel) rfl)) hK hS (ci := 2) rfl (fs := [.null, .null, .null, .int 0, .int 0, .int 0, .int 0]) (by decide +kernel) (Nat.le_of_ble_eq_true rfl) (Nat.le_of_ble_eq_true rfl) d_Nm_name_26 (fun H hat hz ho hS => ?_)
      rw [← hna] at hat hz ho
      rw [← hna]
      have hO22 : va_at D vwCl (na, .inr (2, [.null, .null, .null, .int 0, .int 0, .int 0, .int 0])) H := hat
      replace h03 := hx_keep h03 (ho _ (by omega))
      replace h00 := hx_keep h00 (ho _ (by omega))
      replace h04 := hx_keep h04 (ho _ (by omega))
      replace hF : ∀ k9 n9, nmv z k9 n9 → ¬ (k9 = 3 ∨ k9 = 4) → H[o k9 n9]? = s.heap[o k9 n9]? := fun k9 n9 hv9 hx9 => (ho _ (by have := hIN k9 n9 hv9; omega)).trans (hF k9 n9 hv9 hx9)
      refine lv_dup hx hb d_Nm_name_29 rfl ?_
      obtain ⟨nq26, hnq26⟩ : ∃ z : Nat, z = H.size := ⟨_, rfl⟩
      have hlt_q27 := hx_lt h03
      have hlt_q28 := hx_lt h00
      have hlt_q29 := hx_lt hO22
      have hlt_q30 := hx_lt h04
      refine h_callv (va_runIN (As := []) (rest := [.ref na, .ref (o 3 0)]) ⟨hx, hb, hml, hown, htg⟩ (c_Na_init l D cs N0 H na nq26 hO22 hnq26 (by omega)) ⟨va_cnB 0 htg (gw_I (gw_mem (i := 648) (by decide +kernel) rfl)) rfl rfl rfl hB.2.2.1.2.2.2.2.2.1 (htg _ (gw_mem (i := 54) (by decide +kernel) rfl)) (by decide +kernel) ⟨Nat.le_of_ble_eq_true rfl, Nat.le_of_ble_eq_true rfl⟩, rfl, htg _ (gw_mem (i := 647) (by decide +kernel) rfl)⟩ ⟨hPre.blind, hPre.at hB hS hAN⟩ rfl rfl hl.1 rfl (lv_room (Nat.le_of_ble_eq_true rfl)) d_Nm_name_30 ⟨Nat.le_of_ble_eq_true rfl, Nat.le_of_ble_eq_true rfl⟩) hS (jA_sub1 (Or.inr (show N ≤ na by omega)) (fun q9 h9 => Or.inr (show N ≤ q9 by omega))) (fun H locs hp hz hk hS => ?_)
      replace h03 := hx_keep h03 (hk _ hlt_q27 (jA_not1 (show o 3 0 ≠ na by omega) (show o 3 0 < nq26 by omega)))
      replace h00 := hx_keep h00 (hk _ hlt_q28 (jA_not1 (show o 0 0 ≠ na by omega) (show o 0 0 < nq26 by omega)))
      replace h04 := hx_keep h04 (hk _ hlt_q30 (jA_not1 (show o 4 0 ≠ na by omega) (show o 4 0 < nq26 by omega)))
      replace hF : ∀ k9 n9, nmv z k9 n9 → ¬ (k9 = 3 ∨ k9 = 4) → H[o k9 n9]? = s.heap[o k9 n9]? := fun k9 n9 hv9 hx9 => (hk _ (by have := hIN k9 n9 hv9; omega) (jA_not1 (by have := hIN k9 n9 hv9; omega) (by have := hIN k9 n9 hv9; omega))).trans (hF k9 n9 hv9 hx9)
      obtain ⟨na34, na35, hna34, hna35, hO31, hO32, hO33⟩ := hp
      obtain ⟨nq36, hnq36⟩ : ∃ z : Nat, z = H.size := ⟨_, rfl⟩
      have hlt_q37 := hx_lt h03
      have hlt_q38 := hx_lt h00
      have hlt_q39 := hx_lt hO31
      have hlt_q40 := hx_lt hO32
      have hlt_q41 := hx_lt h04
      have hlt_q42 := hx_lt hO33
      refine h_calli (va_runV (As := [.ref na]) (rest := []) ⟨hx, hb, hml, hown, htg⟩ (c_AL_add_r l D cs N0 H (o 3 0) (o 4 0) (z 4 0) (z 3 0) nq36 2 na (K 3 0 0) _ (fun j => if j < z 3 0 then some (o 10 j) else none) h03 h04 hnq36 (hI.ge (k := 3) (n := 0) (show nmv z 3 0 from rfl)) (hI.ge (k := 4) (n := 0) (show nmv z 4 0 from ⟨rfl, by omega⟩)) (hI.ne (k := 3) (n := 0) (k' := 4) (n' := 0) (show nmv z 3 0 from rfl) (show nmv z 4 0 from ⟨rfl, by omega⟩) (Or.inl (by decide))) rfl (by decide) (by omega) (by omega) ⟨_, hO31⟩ (show na ≠ o 3 0 by omega) (show na ≠ o 4 0 by omega)) ⟨x_cwB 1 htg (gw_mem (i := 684) (by decide +kernel) rfl) (gw_mem (i := 37) (by decide +kernel) rfl) (gw_mem (i := 681) (by decide +kernel) rfl) (by decide +kernel) ⟨Nat.le_of_ble_eq_true rfl, Nat.le_of_ble_eq_true rfl⟩, htg _ (gw_mem (i := 682) (by decide +kernel) rfl), htg _ (gw_mem (i := 683) (by decide +kernel) rfl)⟩ ⟨hPre.blind, hx_recv hK (ci := 6) rfl h03, hPre.at hB hS hAN⟩ rfl rfl hl.1 rfl (lv_room (Nat.le_of_ble_eq_true rfl)) d_Nm_name_33 ⟨Nat.le_of_ble_eq_true rfl, Nat.le_of_ble_eq_true rfl⟩) hS (jA_sub2 (hI.inA (k := 3) (n := 0) (show nmv z 3 0 from rfl)) (hI.inA (k := 4) (n := 0) (show nmv z 4 0 from ⟨rfl, by omega⟩)) (fun q9 h9 => Or.inr (show N ≤ q9 by omega))) (fun r33 H locs hp hz hk hS => ?_)
      replace h00 := hx_keep h00 (hk _ hlt_q38 (jA_not2 (hI.ne (k := 0) (n := 0) (k' := 3) (n' := 0) (show nmv z 0 0 from rfl) (show nmv z 3 0 from rfl) (Or.inl (by decide))) (hI.ne (k := 0) (n := 0) (k' := 4) (n' := 0) (show nmv z 0 0 from rfl) (show nmv z 4 0 from ⟨rfl, by omega⟩) (Or.inl (by decide))) (show o 0 0 < nq36 by omega)))
      replace hO31 := hx_keep hO31 (hk _ hlt_q39 (jA_not2 (show na ≠ o 3 0 by omega) (show na ≠ o 4 0 by omega) (show na < nq36 by omega)))
      replace hO32 := hx_keep hO32 (hk _ hlt_q40 (jA_not2 (show na34 ≠ o 3 0 by omega) (show na34 ≠ o 4 0 by omega) (show na34 < nq36 by omega)))
      replace hO33 := hx_keep hO33 (hk _ hlt_q42 (jA_not2 (show na35 ≠ o 3 0 by omega) (show na35 ≠ o 4 0 by omega) (show na35 < nq36 by omega)))
      replace hF : ∀ k9 n9, nmv z k9 n9 → ¬ (k9 = 3 ∨ k9 = 4) → H[o k9 n9]? = s.heap[o k9 n9]? := fun k9 n9 hv9 hx9 => (hk _ (by have := hIN k9 n9 hv9; omega) (jA_not2 (hI0.ne hv9 (show nmv z 3 0 from rfl) (by omega)) (hI0.ne hv9 (show nmv z 4 0 from ⟨rfl, by omega⟩) (by omega)) (by have := hIN k9 n9 hv9; omega))).trans (hF k9 n9 hv9 hx9)
      obtain ⟨hr9, mc45, hO43, hO44⟩ := hp
      subst hr9
      refine lv_pop hx hb d_Nm_name_36 rfl ?_
      refine lv_aload_n hx hb d_Nm_name_37 rfl (lv_at hl 0 rfl) ?_
      refine hx_get (ref := "NameMerges") (v := .ref (o 3 0)) hx hb htg iNm hown hK h00 rfl 1 (by decide) (htg _ (gw_mem (i := 127) (by decide +kernel) rfl)) (fun _ h9 => h9) rfl d_Nm_name_38 ?_
      refine h_purei (va_runV (As := []) (rest := []) ⟨hx, hb, hml, hown, htg⟩ (c_AL_size l D cs N0 H (o 3 0) (o 4 0) (z 3 0 + 1) mc45 hO43) ⟨x_cwB 0 htg (gw_mem (i := 503) (by decide +kernel) rfl) (gw_mem (i := 37) (by decide +kernel) rfl) (gw_mem (i := 500) (by decide +kernel) rfl) (by decide +kernel) ⟨Nat.le_of_ble_eq_true rfl, Nat.le_of_ble_eq_true rfl⟩, htg _ (gw_mem (i := 501) (by decide +kernel) rfl), htg _ (gw_mem (i := 502) (by decide +kernel) rfl)⟩ ⟨hPre.blind, hx_recv hK (ci := 6) rfl hO43, hPre.at hB hS hAN⟩ rfl rfl hl.1 rfl (lv_room (Nat.le_of_ble_eq_true rfl)) d_Nm_name_41 ⟨Nat.le_of_ble_eq_true rfl, Nat.le_of_ble_eq_true rfl⟩) hS (fun locs hS => ?_)
      refine lv_iconst (v := 1) hx hb d_Nm_name_44 (by decide) ?_
      refine lv_isub (x := (nI (z 3 0 + 1))) (y := 1) hx hb d_Nm_name_45 ?_
      refine lv_eqi (y := (nI (z 3 0))) (nI_pred (z 3 0)) ?_
      refine t_ret ?_
      refine W.widen (k := 4) (n := 214) (Nat.le_of_ble_eq_true rfl) (Nat.le_of_ble_eq_true rfl) ?_
      exact W.iret (v := (nI (z 3 0))) hx hb hr (fun t ht hW => Or.inl ⟨some (.int ((nI (z 3 0)))), rfl, (by rw [ht]; exact ⟨(by simp [goV, c9]), rfl, _, _, _, _, _, _, hI0.nam (a := na) (u := na34) (v := na35) (ea := o 4 0) (cap := z 4 0) hIN (by omega) (by omega) (by omega) (by omega) ⟨by omega, by omega, by omega⟩ (Or.inl ⟨rfl, hcs.1⟩) (by omega) ⟨by omega, by omega, by omega⟩ hO31 hO32 hO33 hO43 hO44 hF⟩), hS.F ht⟩) hS.2.2 d_Nm_name_46
    · skip
      have hF : ∀ k9 n9, nmv z k9 n9 → ¬ (k9 = 3 ∨ k9 = 4) → H[o k9 n9]? = s.heap[o k9 n9]? := fun k9 n9 _ _ => by rw [hH]
      have hl0 := hIN 0 0 rfl
      have hl3 := hIN 3 0 rfl
      have h03 : va_at D vwCl (o 3 0, .inr (6, [.ref (o 4 0), .int (nI (z 3 0)), .int (K 3 0 0)])) H := nm_list (hI.at (k := 3) (n := 0) rfl) hcs.1
      have h04 : va_at D vwCl (o 4 0, .inl (cs 4, (z 4 0, .inr (.inr (.inr (.inr (fun j => if j < z 3 0 then some (o 10 j) else none))))))) H := hI.at (k := 4) (n := 0) ⟨rfl, hcs.1⟩
      have hl4 := hIN 4 0 ⟨rfl, hcs.1⟩
      replace h03 : va_at D vwCl (o 3 0, .inr (6, [.ref (o 4 0), .int (nI (z 4 0)), .int (K 3 0 0)])) H := hcs.2 ▸ h03
      have h00 : va_at D vwCl (o 0 0, .inr (1, [.ref (o 1 0), .ref (o 3 0), .ref (o 5 0), .ref (o 7 0), .ref (o 8 0), .int (nI (z 0 0)), .int (K 0 0 0), .ref (o 9 0)])) H := hI.at (k := 0) (n := 0) (show nmv z 0 0 from rfl)
      replace hS := x_wk (A' := (nmA r N)) hS (fun _ h9 => h9.elim)
      obtain ⟨na, hna⟩ : ∃ z : Nat, z = H.size := ⟨_, rfl⟩
      have hlt_q47 : o 3 0 < na := hna ▸ hx_lt h03
      have hlt_q48 : o 0 0 < na := hna ▸ hx_lt h00
      have hlt_q49 : o 4 0 < na := hna ▸ hx_lt h04
      refine hx_new hx hb htg iNa tNa tNa_ok hown (htg _ (gw_mem (i := 536) (by decide +kernel) rfl)) (htg _ (gw_mem (i := 645) (by decide +kernel) rfl)) (htg _ (gw_mem (i := 54) (by decide +kernel) rfl)) hK hS (ci := 2) rfl (fs := [.null, .null, .null, .int 0, .int 0, .int 0, .int 0]) (by decide +kernel) (Nat.le_of_ble_eq_true rfl) (Nat.le_of_ble_eq_true rfl) d_Nm_name_26 (fun H hat hz ho hS => ?_)
      rw [← hna] at hat hz ho
      rw [← hna]
      have hO46 : va_at D vwCl (na, .inr (2, [.null, .null, .null, .int 0, .int 0, .int 0, .int 0])) H := hat
      replace h03 := hx_keep h03 (ho _ (by omega))
      replace h00 := hx_keep h00 (ho _ (by omega))
      replace h04 := hx_keep h04 (ho _ (by omega))
      replace hF : ∀ k9 n9, nmv z k9 n9 → ¬ (k9 = 3 ∨ k9 = 4) → H[o k9 n9]? = s.heap[o k9 n9]? := fun k9 n9 hv9 hx9 => (ho _ (by have := hIN k9 n9 hv9; omega)).trans (hF k9 n9 hv9 hx9)
      refine lv_dup hx hb d_Nm_name_29 rfl ?_
      obtain ⟨nq50, hnq50⟩ : ∃ z : Nat, z = H.size := ⟨_, rfl⟩
      have hlt_q51 := hx_lt h03
      have hlt_q52 := hx_lt h00
      have hlt_q53 := hx_lt hO46
      have hlt_q54 := hx_lt h04
      refine h_callv (va_runIN (As := []) (rest := [.ref na, .ref (o 3 0)]) ⟨hx, hb, hml, hown, htg⟩ (c_Na_init l D cs N0 H na nq50 hO46 hnq50 (by omega)) ⟨va_cnB 0 htg (gw_I (gw_mem (i := 648) (by decide +kernel) rfl)) rfl rfl rfl hB.2.2.1.2.2.2.2.2.1 (htg _ (gw_mem (i := 54) (by decide +kernel) rfl)) (by decide +kernel) ⟨Nat.le_of_ble_eq_true rfl, Nat.le_of_ble_eq_true rfl⟩, rfl, htg _ (gw_mem (i := 647) (by decide +kernel) rfl)⟩ ⟨hPre.blind, hPre.at hB hS hAN⟩ rfl rfl hl.1 rfl (lv_room (Nat.le_of_ble_eq_true rfl)) d_Nm_name_30 ⟨Nat.le_of_ble_eq_true rfl, Nat.le_of_ble_eq_true rfl⟩) hS (jA_sub1 (Or.inr (show N ≤ na by omega)) (fun q9 h9 => Or.inr (show N ≤ q9 by omega))) (fun H locs hp hz hk hS => ?_)
      replace h03 := hx_keep h03 (hk _ hlt_q51 (jA_not1 (show o 3 0 ≠ na by omega) (show o 3 0 < nq50 by omega)))
      replace h00 := hx_keep h00 (hk _ hlt_q52 (jA_not1 (show o 0 0 ≠ na by omega) (show o 0 0 < nq50 by omega)))
      replace h04 := hx_keep h04 (hk _ hlt_q54 (jA_not1 (show o 4 0 ≠ na by omega) (show o 4 0 < nq50 by omega)))
      replace hF : ∀ k9 n9, nmv z k9 n9 → ¬ (k9 = 3 ∨ k9 = 4) → H[o k9 n9]? = s.heap[o k9 n9]? := fun k9 n9 hv9 hx9 => (hk _ (by have := hIN k9 n9 hv9; omega) (jA_not1 (by have := hIN k9 n9 hv9; omega) (by have := hIN k9 n9 hv9; omega))).trans (hF k9 n9 hv9 hx9)
      obtain ⟨na58, na59, hna58, hna59, hO55, hO56, hO57⟩ := hp
      obtain ⟨nq60, hnq60⟩ : ∃ z : Nat, z = H.size := ⟨_, rfl⟩
      have hlt_q61 := hx_lt h03
      have hlt_q62 := hx_lt h00
      have hlt_q63 := hx_lt hO55
      have hlt_q64 := hx_lt hO56
      have hlt_q65 := hx_lt h04
      have hlt_q66 := hx_lt hO57
      refine h_calli (va_runV (As := [.ref na]) (rest := []) ⟨hx, hb, hml, hown, htg⟩ (c_AL_add_f l D cs N0 H (o 3 0) (o 4 0) (z 4 0) nq60 2 na (K 3 0 0) _ (fun j => if j < z 3 0 then some (o 10 j) else none) h03 h04 hnq60 (hI.ge (k := 3) (n := 0) (show nmv z 3 0 from rfl)) (hI.ge (k := 4) (n := 0) (show nmv z 4 0 from ⟨rfl, by omega⟩)) (hI.ne (k := 3) (n := 0) (k' := 4) (n' := 0) (show nmv z 3 0 from rfl) (show nmv z 4 0 from ⟨rfl, by omega⟩) (Or.inl (by decide))) (fun i9 y9 _ hy9 => nm_el3 hI0 (fun n9 hn9 => hF 10 n9 hn9 (by omega)) hy9) rfl (by decide) (by omega) (by omega) ⟨_, hO55⟩ (show na ≠ o 3 0 by omega) (show na ≠ o 4 0 by omega)) ⟨x_cwB 1 htg (gw_mem (i := 684) (by decide +kernel) rfl) (gw_mem (i := 37) (by decide +kernel) rfl) (gw_mem (i := 681) (by decide +kernel) rfl) (by decide +kernel) ⟨Nat.le_of_ble_eq_true rfl, Nat.le_of_ble_eq_true rfl⟩, htg _ (gw_mem (i := 682) (by decide +kernel) rfl), htg _ (gw_mem (i := 683) (by decide +kernel) rfl)⟩ ⟨hPre.blind, hx_recv hK (ci := 6) rfl h03, hPre.at hB hS hAN⟩ rfl rfl hl.1 rfl (lv_room (Nat.le_of_ble_eq_true rfl)) d_Nm_name_33 ⟨Nat.le_of_ble_eq_true rfl, Nat.le_of_ble_eq_true rfl⟩) hS (jA_sub2 (hI.inA (k := 3) (n := 0) (show nmv z 3 0 from rfl)) (hI.inA (k := 4) (n := 0) (show nmv z 4 0 from ⟨rfl, by omega⟩)) (fun q9 h9 => Or.inr (show N ≤ q9 by omega))) (fun r33 H locs hp hz hk hS => ?_)
      replace h00 := hx_keep h00 (hk _ hlt_q62 (jA_not2 (hI.ne (k := 0) (n := 0) (k' := 3) (n' := 0) (show nmv z 0 0 from rfl) (show nmv z 3 0 from rfl) (Or.inl (by decide))) (hI.ne (k := 0) (n := 0) (k' := 4) (n' := 0) (show nmv z 0 0 from rfl) (show nmv z 4 0 from ⟨rfl, by omega⟩) (Or.inl (by decide))) (show o 0 0 < nq60 by omega)))
      replace hO55 := hx_keep hO55 (hk _ hlt_q63 (jA_not2 (show na ≠ o 3 0 by omega) (show na ≠ o 4 0 by omega) (show na < nq60 by omega)))
      replace hO56 := hx_keep hO56 (hk _ hlt_q64 (jA_not2 (show na58 ≠ o 3 0 by omega) (show na58 ≠ o 4 0 by omega) (show na58 < nq60 by omega)))
      replace hO57 := hx_keep hO57 (hk _ hlt_q66 (jA_not2 (show na59 ≠ o 3 0 by omega) (show na59 ≠ o 4 0 by omega) (show na59 < nq60 by omega)))
      replace hF : ∀ k9 n9, nmv z k9 n9 → ¬ (k9 = 3 ∨ k9 = 4) → H[o k9 n9]? = s.heap[o k9 n9]? := fun k9 n9 hv9 hx9 => (hk _ (by have := hIN k9 n9 hv9; omega) (jA_not2 (hI0.ne hv9 (show nmv z 3 0 from rfl) (by omega)) (hI0.ne hv9 (show nmv z 4 0 from ⟨rfl, by omega⟩) (by omega)) (by have := hIN k9 n9 hv9; omega))).trans (hF k9 n9 hv9 hx9)
      obtain ⟨hr9, mc69, hO67, hO68⟩ := hp
      subst hr9
      refine lv_pop hx hb d_Nm_name_36 rfl ?_
      refine lv_aload_n hx hb d_Nm_name_37 rfl (lv_at hl 0 rfl) ?_
      refine hx_get (ref := "NameMerges") (v := .ref (o 3 0)) hx hb htg iNm hown hK h00 rfl 1 (by decide) (htg _ (gw_mem (i := 127) (by decide +kernel) rfl)) (fun _ h9 => h9) rfl d_Nm_name_38 ?_
      refine h_purei (va_runV (As := []) (rest := []) ⟨hx, hb, hml, hown, htg⟩ (c_AL_size l D cs N0 H (o 3 0) nq60 (z 4 0 + 1) mc69 hO67) ⟨x_cwB 0 htg (gw_mem (i := 503) (by decide +kernel) rfl) (gw_mem (i := 37) (by decide +kernel) rfl) (gw_mem (i := 500) (by decide +kernel) rfl) (by decide +kernel) ⟨Nat.le_of_ble_eq_true rfl, Nat.le_of_ble_eq_true rfl⟩, htg _ (gw_mem (i := 501) (by decide +kernel) rfl), htg _ (gw_mem (i := 502) (by decide +kernel) rfl)⟩ ⟨hPre.blind, hx_recv hK (ci := 6) rfl hO67, hPre.at hB hS hAN⟩ rfl rfl hl.1 rfl (lv_room (Nat.le_of_ble_eq_true rfl)) d_Nm_name_41 ⟨Nat.le_of_ble_eq_true rfl, Nat.le_of_ble_eq_true rfl⟩) hS (fun locs hS => ?_)
      refine lv_iconst (v := 1) hx hb d_Nm_name_44 (by decide) ?_
      refine lv_isub (x := (nI (z 4 0 + 1))) (y := 1) hx hb d_Nm_name_45 ?_
      refine lv_eqi (y := (nI (z 4 0))) (nI_pred (z 4 0)) ?_
      refine t_ret ?_
      exact W.iret (v := (nI (z 4 0))) hx hb hr (fun t ht hW => Or.inl ⟨some (.int ((nI (z 4 0)))), rfl, (by rw [ht]; exact ⟨(by simp [goV, c9]), by rw [hcs.2], _, _, _, _, _, _, hI0.nam (a := na) (u := na58) (v := na59) (ea := nq60) (cap := z 4 0 + z 4 0 / 2) hIN (by omega) (by omega) (by omega) (by omega) ⟨by omega, by omega, by omega⟩ (Or.inr ⟨by omega, by omega, by omega, by omega⟩) (by omega) ⟨by omega, by omega, by omega⟩ hO55 hO56 hO57 (by rw [hcs.2]; exact hO67) (by rw [el_f hcs.2]; exact hO68) hF⟩), hS.F ht⟩) hS.2.2 d_Nm_name_46
  · skip
    replace c9 : ¬ ((z 3 0) < 24) := fun z9 => c9 ((nI_ltI (a := (z 3 0)) (b := 24) (by omega) (by omega)).mpr z9)
    have hnil := noL hS.2.2
    first | subst hnil | skip
    exact t_throw (A := (nmA r N)) (text := "there are as many names as there may be") (names := exUp) hx hb hl9 hown (by decide) (by decide) (htg _ (gw_mem (i := 605) (by decide +kernel) rfl)) (htg _ (gw_mem (i := 42) (by decide +kernel) rfl)) (zStr (q := ("NameMerges", 70, "there are as many names as there may be")) hB (by decide)) (fun a ha => zOk_before htg hB (List.all_eq_true.mp own_ise a ha)) hS.1 (hl.1.trans hml.symm) d_Nm_name_12 d_Nm_name_15 d_Nm_name_16 d_Nm_name_18 d_Nm_name_21 hno (Nat.le_of_ble_eq_true rfl) (Nat.le_of_ble_eq_true rfl) (Nat.le_of_ble_eq_true rfl) (Nat.le_of_ble_eq_true rfl) hlocks (⟨rfl, by simp [goV, c9]⟩) (Nat.le_of_ble_eq_true rfl) (Nat.le_of_ble_eq_true rfl)
