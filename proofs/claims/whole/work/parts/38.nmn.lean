def y_Nm_dates : MethodName := ⟨"NameMerges", "dates", "(III)Z"⟩
abbrev w_Nm_dates : List Cond := Cond.code y_Nm_dates prog_1_method_6_code 6 (Option.some Jvm.ClassFile.FieldType.boolean) :: gw
theorem d_Nm_dates_0 : decode prog_1_method_6_code 0 = .ok (.aload_n 0, 1) := by decide +kernel
theorem d_Nm_dates_1 : decode prog_1_method_6_code 1 = .ok (.iload_n 1, 1) := by decide +kernel
theorem d_Nm_dates_2 : decode prog_1_method_6_code 2 = .ok (.invokevirtual 79, 3) := by decide +kernel
theorem d_Nm_dates_5 : decode prog_1_method_6_code 5 = .ok (.iload_n 2, 1) := by decide +kernel
theorem d_Nm_dates_6 : decode prog_1_method_6_code 6 = .ok (.iload_n 3, 1) := by decide +kernel
theorem d_Nm_dates_7 : decode prog_1_method_6_code 7 = .ok (.invokestatic 95, 3) := by decide +kernel
theorem d_Nm_dates_10 : decode prog_1_method_6_code 10 = .ok (.aload_n 0, 1) := by decide +kernel
theorem d_Nm_dates_11 : decode prog_1_method_6_code 11 = .ok (.getfield 19, 3) := by decide +kernel
theorem d_Nm_dates_14 : decode prog_1_method_6_code 14 = .ok (.iload_n 1, 1) := by decide +kernel
theorem d_Nm_dates_15 : decode prog_1_method_6_code 15 = .ok (.invokevirtual 82, 3) := by decide +kernel
theorem d_Nm_dates_18 : decode prog_1_method_6_code 18 = .ok (.checkcast 72, 3) := by decide +kernel
theorem d_Nm_dates_21 : decode prog_1_method_6_code 21 = .ok (.astore 4, 2) := by decide +kernel
theorem d_Nm_dates_23 : decode prog_1_method_6_code 23 = .ok (.aload 4, 2) := by decide +kernel
theorem d_Nm_dates_25 : decode prog_1_method_6_code 25 = .ok (.getfield 122, 3) := by decide +kernel
theorem d_Nm_dates_28 : decode prog_1_method_6_code 28 = .ok (.astore 5, 2) := by decide +kernel
theorem d_Nm_dates_30 : decode prog_1_method_6_code 30 = .ok (.aload 5, 2) := by decide +kernel
theorem d_Nm_dates_32 : decode prog_1_method_6_code 32 = .ok (.ifnull 23, 3) := by decide +kernel
theorem d_Nm_dates_35 : decode prog_1_method_6_code 35 = .ok (.aload 5, 2) := by decide +kernel
theorem d_Nm_dates_37 : decode prog_1_method_6_code 37 = .ok (.getfield 126, 3) := by decide +kernel
theorem d_Nm_dates_40 : decode prog_1_method_6_code 40 = .ok (.iload_n 2, 1) := by decide +kernel
theorem d_Nm_dates_41 : decode prog_1_method_6_code 41 = .ok (.if_icmp .ne 14, 3) := by decide +kernel
theorem d_Nm_dates_44 : decode prog_1_method_6_code 44 = .ok (.aload 5, 2) := by decide +kernel
theorem d_Nm_dates_46 : decode prog_1_method_6_code 46 = .ok (.getfield 129, 3) := by decide +kernel
theorem d_Nm_dates_49 : decode prog_1_method_6_code 49 = .ok (.iload_n 3, 1) := by decide +kernel
theorem d_Nm_dates_50 : decode prog_1_method_6_code 50 = .ok (.if_icmp .ne 5, 3) := by decide +kernel
theorem d_Nm_dates_53 : decode prog_1_method_6_code 53 = .ok (.iconst 0, 1) := by decide +kernel
theorem d_Nm_dates_54 : decode prog_1_method_6_code 54 = .ok (.ireturn, 1) := by decide +kernel
theorem d_Nm_dates_55 : decode prog_1_method_6_code 55 = .ok (.aload 4, 2) := by decide +kernel
theorem d_Nm_dates_57 : decode prog_1_method_6_code 57 = .ok (.new 105, 3) := by decide +kernel
theorem d_Nm_dates_60 : decode prog_1_method_6_code 60 = .ok (.dup, 1) := by decide +kernel
theorem d_Nm_dates_61 : decode prog_1_method_6_code 61 = .ok (.iload_n 2, 1) := by decide +kernel
theorem d_Nm_dates_62 : decode prog_1_method_6_code 62 = .ok (.iload_n 3, 1) := by decide +kernel
theorem d_Nm_dates_63 : decode prog_1_method_6_code 63 = .ok (.invokespecial 107, 3) := by decide +kernel
theorem d_Nm_dates_66 : decode prog_1_method_6_code 66 = .ok (.putfield 122, 3) := by decide +kernel
theorem d_Nm_dates_69 : decode prog_1_method_6_code 69 = .ok (.iconst 1, 1) := by decide +kernel
theorem d_Nm_dates_70 : decode prog_1_method_6_code 70 = .ok (.ireturn, 1) := by decide +kernel
set_option maxHeartbeats 4000000 in
set_option maxRecDepth 100000 in
theorem c_Nm_dates (l : Launch) (D : va_G) (cs : Nat → ClassId) (N0 : Nat) (H : Heap) (hl9 : l.stackTraces = false) (o z : Nat → Nat → Nat) (K : Nat → Nat → Nat → Int32) (r : Nat → Nat × Nat) (N : Nat) (q u w : Int32) (hI : nmP D cs N0 H o z K r) (hN : N = H.size) : tMet l y_Nm_dates w_Nm_dates ({ frames := 8, cells := 5, slots := 26, locals := 123 }) (hPre D cs N0 [.ref (o 0 0), .int q, .int u, .int w] H) (hT (fun v H' => goV (isN (z 3 0) q) (daysB u w) true = 0 ∧ (if (!decide (z 14 (tn q) = 0) && decide (K 14 (tn q) 0 = u) && decide (K 14 (tn q) 1 = w)) = true then (v = some (.int 0) ∧ nmP D cs N0 H' o z K r) else (v = some (.int 1) ∧ ∃ a : Nat, N ≤ a ∧ nmP D cs N0 H' (upZ o 14 (tn q) a) (upZ z 14 (tn q) 1) (upK K 14 (tn q) (fun i => if i = 0 then u else w)) (upR r a 14 (tn q))))) (fun E => (E = "java/lang/IndexOutOfBoundsException" ∧ goV (isN (z 3 0) q) (daysB u w) true = 1) ∨ (E = "java/lang/IllegalArgumentException" ∧ goV (isN (z 3 0) q) (daysB u w) true = 2)) (nmA r N)) 5 26 (nmA r N) := by
  refine tMet.ofW (cc := prog_1_method_6_code) (maxL := 6) (ret := (Option.some Jvm.ClassFile.FieldType.boolean)) (by decide) rfl ?_
  intro p e s m args below meth c s₁ B hml hno hv
  obtain ⟨rfl, rfl, hB⟩ := hv
  have hx := B.exec
  have hb := B.bytes
  have hr := B.returns
  have hts := atoms_spec (ws := w_Nm_dates) B.pre
  have htg : ∀ w ∈ gw, w.before _ s = true := fun w h => hts w (List.mem_cons_of_mem _ h)
  have hown : s.vm.findClass "NameMerges" = some m.cls := findClass_of_methodNamed B.named
  have hlocks := B.notSynchronized
  have hAN : ∀ q, nmA r N q → N0 ≤ q := fun q9 h9 => h9.elim (hI.2.1 q9) (fun h9 => Nat.le_trans hB.2.1 (hN ▸ h9))
  have hK := hB.1
  obtain ⟨H, hH⟩ : ∃ z : Heap, z = s.heap := ⟨_, rfl⟩
  have hz0 : H.size = s.heap.size := by rw [hH]
  have hN0 := hB.2.1
  rw [← hH] at hI
  have hS : va_S noA s.heap H [] := by rw [hH]; exact va_S.rf
  have hl := lv_entry ([.ref (o 0 0), .int q, .int u, .int w]) (n := 6) (Nat.le_of_ble_eq_true rfl)
  rw [lg_entry_eq, ← hH]
  generalize (lg_sl ([.ref (o 0 0), .int q, .int u, .int w]) ++ List.replicate (6 - (lg_sl ([.ref (o 0 0), .int q, .int u, .int w])).length) Slot.unset).toArray = ls at hl ⊢
  have hl : lv_has ls 6 [(0, .ref (o 0 0)), (1, .int q), (2, .int u), (3, .int w)] := hl
  obtain ⟨hb0, hb1, hb3, hb5, hb4, hb6, hb11, hb17⟩ := hI.2.2.1
  have hIN : ∀ k9 n9, nmv z k9 n9 → o k9 n9 < N := fun k9 n9 hv9 => by have := hI.lt hv9; omega
  have hI0 : nmP D cs N0 s.heap o z K r := hH ▸ hI
  refine lv_aload_n hx hb d_Nm_dates_0 rfl (lv_at hl 0 rfl) ?_
  refine lv_iload_n hx hb d_Nm_dates_1 rfl (lv_at hl 1 rfl) ?_
  refine t_V (As := [.int q]) (rest := []) ⟨hx, hb, hml, hown, htg⟩ (c_Nm_checkName l D cs N0 H hl9 o z K r q hI) ⟨x_cwB 1 htg (gw_mem (i := 738) (by decide +kernel) rfl) (gw_mem (i := 30) (by decide +kernel) rfl) (gw_mem (i := 735) (by decide +kernel) rfl) (by decide +kernel) ⟨Nat.le_of_ble_eq_true rfl, Nat.le_of_ble_eq_true rfl⟩, htg _ (gw_mem (i := 737) (by decide +kernel) rfl), htg _ (gw_mem (i := 11) (by decide +kernel) rfl)⟩ ⟨hPre.blind, hx_recv hK (ci := 1) rfl (show va_at D vwCl (o 0 0, .inr (1, [.ref (o 1 0), .ref (o 3 0), .ref (o 5 0), .ref (o 7 0), .ref (o 8 0), .int (nI (z 0 0)), .int (K 0 0 0), .ref (o 9 0)])) H from hI.at (k := 0) (n := 0) (show nmv z 0 0 from rfl)), hPre.at hB hS noA_in⟩ rfl hl.1 rfl (lv_room (Nat.le_of_ble_eq_true rfl)) d_Nm_dates_2 ⟨Nat.le_of_ble_eq_true rfl, Nat.le_of_ble_eq_true rfl⟩ (fun x9 E9 ce9 H9 L9 hL9 hb9 hc9 hv9 hf9 hz9 hk9 => ?_) (fun v9 H9 L9 hL9 hp9 hz9 hk9 => ?_)
  · have hn9 := noL hL9
    subst hn9
    have hnil := noL hS.2.2
    first | subst hnil | skip
    exact t_out (A := (nmA r N)) rfl hno hlocks ((Or.inl ⟨hb9.1, by simp [goV, hb9.2]⟩)) hc9 hv9 hf9 (Nat.le_of_ble_eq_true rfl) (Nat.le_of_ble_eq_true rfl)
  · skip
    obtain ⟨hv9, hH9, hq1⟩ := hp9
    have hn8 := noL hL9
    subst hn8
    rw [hv9, hH9, List.append_nil]
    refine W.eq (g2 := F0 m 5 ls []) rfl ?_
    obtain ⟨j_q, hj_q, e_q⟩ := isN_of hq1 (by omega)
    rw [e_q] at hq1
    refine lv_iload_n hx hb d_Nm_dates_5 rfl (lv_at hl 2 rfl) ?_
    refine lv_iload_n hx hb d_Nm_dates_6 rfl (lv_at hl 3 rfl) ?_
    refine t_S (As := [.int u, .int w]) (rest := []) ⟨hx, hb, hml, hown, htg⟩ (c_Nm_checkDays l D cs N0 H hl9 u w) ⟨x_cwB 2 htg (gw_mem (i := 757) (by decide +kernel) rfl) (gw_mem (i := 30) (by decide +kernel) rfl) (gw_mem (i := 755) (by decide +kernel) rfl) (by decide +kernel) ⟨Nat.le_of_ble_eq_true rfl, Nat.le_of_ble_eq_true rfl⟩, htg _ (gw_mem (i := 756) (by decide +kernel) rfl)⟩ ⟨hPre.blind, hPre.at hB hS noA_in⟩ rfl hl.1 rfl (lv_room (Nat.le_of_ble_eq_true rfl)) d_Nm_dates_7 ⟨Nat.le_of_ble_eq_true rfl, Nat.le_of_ble_eq_true rfl⟩ (fun x9 E9 ce9 H9 L9 hL9 hb9 hc9 hv9 hf9 hz9 hk9 => ?_) (fun v9 H9 L9 hL9 hp9 hz9 hk9 => ?_)
    · have hn9 := noL hL9
      subst hn9
      have hnil := noL hS.2.2
      first | subst hnil | skip
      exact t_out (A := (nmA r N)) rfl hno hlocks ((Or.inr (⟨hb9.1, by simp [goV, e_q, hq1, hb9.2]⟩))) hc9 hv9 hf9 (Nat.le_of_ble_eq_true rfl) (Nat.le_of_ble_eq_true rfl)
    · skip
      obtain ⟨hv9, hH9, hq2⟩ := hp9
      have hn8 := noL hL9
      subst hn8
      rw [hv9, hH9, List.append_nil]
      refine W.eq (g2 := F0 m 10 ls []) rfl ?_
      refine lv_aload_n hx hb d_Nm_dates_10 rfl (lv_at hl 0 rfl) ?_
      refine hx_get (ref := "NameMerges") (v := .ref (o 3 0)) hx hb htg iNm hown hK (show va_at D vwCl (o 0 0, .inr (1, [.ref (o 1 0), .ref (o 3 0), .ref (o 5 0), .ref (o 7 0), .ref (o 8 0), .int (nI (z 0 0)), .int (K 0 0 0), .ref (o 9 0)])) H from hI.at (k := 0) (n := 0) (show nmv z 0 0 from rfl)) rfl 1 (by decide) (htg _ (gw_mem (i := 127) (by decide +kernel) rfl)) (fun _ h9 => h9) rfl d_Nm_dates_11 ?_
      refine lv_iload_n hx hb d_Nm_dates_14 rfl (lv_at hl 1 rfl) ?_
      refine lv_eqi (y := (nI j_q)) e_q ?_
      refine h_pureq (va_runV (As := [.int (nI j_q)]) (rest := []) ⟨hx, hb, hml, hown, htg⟩ (c_names_get l D cs N0 H o z K r j_q hI (show j_q < z 3 0 by omega)) ⟨x_cwB 1 htg (gw_mem (i := 512) (by decide +kernel) rfl) (gw_mem (i := 37) (by decide +kernel) rfl) (gw_mem (i := 509) (by decide +kernel) rfl) (by decide +kernel) ⟨Nat.le_of_ble_eq_true rfl, Nat.le_of_ble_eq_true rfl⟩, htg _ (gw_mem (i := 510) (by decide +kernel) rfl), htg _ (gw_mem (i := 511) (by decide +kernel) rfl)⟩ ⟨hPre.blind, hx_recv hK (ci := 6) rfl (show va_at D vwCl (o 3 0, .inr (6, [.ref (nmL cs (z 3 0) (o 4 0)), .int (nI (z 3 0)), .int (K 3 0 0)])) H from hI.at (k := 3) (n := 0) (show nmv z 3 0 from rfl)), hPre.at hB hS noA_in⟩ rfl rfl hl.1 rfl (lv_room (Nat.le_of_ble_eq_true rfl)) d_Nm_dates_15 ⟨Nat.le_of_ble_eq_true rfl, Nat.le_of_ble_eq_true rfl⟩) hS (fun locs hS => ?_)
      refine lv_eqv (y := .ref (o 10 j_q)) rfl ?_
      refine va_castS hx hb hown (htg _ (gw_mem (i := 536) (by decide +kernel) rfl)) (x_at hK (ci := 2) rfl) (hx_recv hK (ci := 2) rfl (show va_at D vwCl (o 10 j_q, .inr (2, [.ref (o 11 j_q), .ref (o 13 j_q), va_rf (if z 14 j_q = 0 then none else some (o 14 j_q)), .int (K 10 j_q 0), .int (K 10 j_q 1), .int (K 10 j_q 2), .int (K 10 j_q 3)])) H from hI.at (k := 10) (n := j_q) (show nmv z 10 j_q from (show j_q < z 3 0 by omega)))) d_Nm_dates_18 ?_
      refine lv_astore (lv' := [(4, .ref (o 10 j_q)), (0, .ref (o 0 0)), (1, .int q), (2, .int u), (3, .int w)]) hx hb d_Nm_dates_21 hl (by decide) rfl (fun ls hl => ?_)
      refine lv_aload hx hb d_Nm_dates_23 (lv_at hl 0 rfl) ?_
      by_cases hs3 : z 14 j_q = 0
      · skip
        refine hx_get (ref := "NameMerges$Name") (v := .null) hx hb htg iNa hown hK (show va_at D vwCl (o 10 j_q, .inr (2, [.ref (o 11 j_q), .ref (o 13 j_q), va_rf (if z 14 j_q = 0 then none else some (o 14 j_q)), .int (K 10 j_q 0), .int (K 10 j_q 1), .int (K 10 j_q 2), .int (K 10 j_q 3)])) H from hI.at (k := 10) (n := j_q) (show nmv z 10 j_q from (show j_q < z 3 0 by omega))) rfl 2 (by decide) (htg _ (gw_mem (i := 657) (by decide +kernel) rfl)) (fun _ h9 => h9) (show some (va_rf (if z 14 j_q = 0 then none else some (o 14 j_q))) = some Value.null by rw [if_pos hs3]; rfl) d_Nm_dates_25 ?_
        refine lv_astoreN (lv' := [(5, .null), (4, .ref (o 10 j_q)), (0, .ref (o 0 0)), (1, .int q), (2, .int u), (3, .int w)]) hx hb d_Nm_dates_28 hl (by decide) rfl (fun ls hl => ?_)
        refine lv_aloadN hx hb d_Nm_dates_30 (lv_at hl 0 rfl) ?_
        refine lv_ifnullN (tgt := 55) hx hb d_Nm_dates_32 (by decide) ?_
        refine lv_aload hx hb d_Nm_dates_55 (lv_at hl 1 rfl) ?_
        have hF : ∀ k9 n9, nmv z k9 n9 → ¬ (k9 = 10 ∧ n9 = j_q) → H[o k9 n9]? = s.heap[o k9 n9]? := fun k9 n9 _ _ => by rw [hH]
        have h10 : va_at D vwCl (o 10 j_q, .inr (2, [.ref (o 11 j_q), .ref (o 13 j_q), va_rf (if z 14 j_q = 0 then none else some (o 14 j_q)), .int (K 10 j_q 0), .int (K 10 j_q 1), .int (K 10 j_q 2), .int (K 10 j_q 3)])) H := hI.at (k := 10) (n := j_q) (show nmv z 10 j_q from (show j_q < z 3 0 by omega))
        have hl10 := hIN 10 j_q (show j_q < z 3 0 by omega)
        replace hS := x_wk (A' := (nmA r N)) hS (fun _ h9 => h9.elim)
        obtain ⟨dy, hdy⟩ : ∃ z : Nat, z = H.size := ⟨_, rfl⟩
        have hlt_q5 : o 10 j_q < dy := hdy ▸ hx_lt h10
        refine hx_new hx hb htg iDa tDa tDa_ok hown (htg _ (gw_mem (i := 765) (by decide +kernel) rfl)) (htg _ (gw_mem (i := 766) (by decide +kernel) rfl)) (htg _ (gw_mem (i := 57) (by decide +kernel) rfl)) hK hS (ci := 4) rfl (fs := [.int 0, .int 0]) (by decide +kernel) (Nat.le_of_ble_eq_true rfl) (Nat.le_of_ble_eq_true rfl) d_Nm_dates_57 (fun H hat hz ho hS => ?_)
        rw [← hdy] at hat hz ho
        rw [← hdy]
        have hO4 : va_at D vwCl (dy, .inr (4, [.int 0, .int 0])) H := hat
        replace h10 := hx_keep h10 (ho _ (by omega))
        replace hF : ∀ k9 n9, nmv z k9 n9 → ¬ (k9 = 10 ∧ n9 = j_q) → H[o k9 n9]? = s.heap[o k9 n9]? := fun k9 n9 hv9 hx9 => (ho _ (by have := hIN k9 n9 hv9; omega)).trans (hF k9 n9 hv9 hx9)
        refine lv_dup hx hb d_Nm_dates_60 rfl ?_
        refine lv_iload_n hx hb d_Nm_dates_61 rfl (lv_at hl 4 rfl) ?_
        refine lv_iload_n hx hb d_Nm_dates_62 rfl (lv_at hl 5 rfl) ?_
        obtain ⟨nq6, hnq6⟩ : ∃ z : Nat, z = H.size := ⟨_, rfl⟩
        have hlt_q7 := hx_lt h10
        have hlt_q8 := hx_lt hO4
        refine h_callv (va_runI (As := [.int u, .int w]) (rest := [.ref dy, .ref (o 10 j_q)]) ⟨hx, hb, hml, hown, htg⟩ (c_Da_init l D cs N0 H dy nq6 u w hO4 hnq6 (by omega)) ⟨x_cwB 2 htg (gw_mem (i := 769) (by decide +kernel) rfl) (gw_mem (i := 57) (by decide +kernel) rfl) (gw_mem (i := 767) (by decide +kernel) rfl) (by decide +kernel) ⟨Nat.le_of_ble_eq_true rfl, Nat.le_of_ble_eq_true rfl⟩, rfl, htg _ (gw_mem (i := 768) (by decide +kernel) rfl)⟩ ⟨hPre.blind, hPre.at hB hS hAN⟩ rfl rfl hl.1 rfl (lv_room (Nat.le_of_ble_eq_true rfl)) d_Nm_dates_63 ⟨Nat.le_of_ble_eq_true rfl, Nat.le_of_ble_eq_true rfl⟩) hS (jA_sub1 (Or.inr (show N ≤ dy by omega)) (fun q9 h9 => Or.inr (show N ≤ q9 by omega))) (fun H locs hp hz hk hS => ?_)
        replace h10 := hx_keep h10 (hk _ hlt_q7 (jA_not1 (show o 10 j_q ≠ dy by omega) (show o 10 j_q < nq6 by omega)))
        replace hF : ∀ k9 n9, nmv z k9 n9 → ¬ (k9 = 10 ∧ n9 = j_q) → H[o k9 n9]? = s.heap[o k9 n9]? := fun k9 n9 hv9 hx9 => (hk _ (by have := hIN k9 n9 hv9; omega) (jA_not1 (by have := hIN k9 n9 hv9; omega) (by have := hIN k9 n9 hv9; omega))).trans (hF k9 n9 hv9 hx9)
        have hO9 := hp
        refine hx_put (ref := "NameMerges$Name") (ty := .object "NameMerges$Days") (v := .ref dy) hx hb htg iNa tNa tNa_ok nNa hown hK h10 hS (hI.inA (k := 10) (n := j_q) (show nmv z 10 j_q from (show j_q < z 3 0 by omega))) rfl 2 (by decide) (htg _ (gw_mem (i := 657) (by decide +kernel) rfl)) (fun _ h9 => h9) rfl (by decide +kernel) rfl rfl (Nat.le_of_ble_eq_true rfl) d_Nm_dates_66 (fun H locs hat hz ho hS => ?_)
        replace h10 : va_at D vwCl (o 10 j_q, .inr (2, [.ref (o 11 j_q), .ref (o 13 j_q), .ref dy, .int (K 10 j_q 0), .int (K 10 j_q 1), .int (K 10 j_q 2), .int (K 10 j_q 3)])) H := hat
        replace hO9 := hx_keep hO9 (ho _ (show dy ≠ o 10 j_q by omega))
        replace hF : ∀ k9 n9, nmv z k9 n9 → ¬ (k9 = 10 ∧ n9 = j_q) → H[o k9 n9]? = s.heap[o k9 n9]? := fun k9 n9 hv9 hx9 => (ho _ (hI0.ne hv9 (show nmv z 10 j_q from (show j_q < z 3 0 by omega)) (by omega))).trans (hF k9 n9 hv9 hx9)
        refine lv_iconst (v := 1) hx hb d_Nm_dates_69 (by decide) ?_
        refine t_ret ?_
        exact W.zret (v := 1) hx hb hr (by decide) (fun t ht hW => Or.inl ⟨some (.int (1)), rfl, (by rw [ht]; exact (by simp only [e_q, tnI (j := j_q) (by omega)]; exact ⟨(by simp [goV, hs3, e_q, hq1, hq2]), by rw [if_neg (by simp [hs3])]; exact ⟨(by first | trivial | rfl), dy, by omega, hI0.dat hIN (by omega) (by omega) (by omega) hO9 h10 hF⟩⟩)), hS.F ht⟩) hS.2.2 d_Nm_dates_70
      · skip
        refine hx_get (ref := "NameMerges$Name") (v := .ref (o 14 j_q)) hx hb htg iNa hown hK (show va_at D vwCl (o 10 j_q, .inr (2, [.ref (o 11 j_q), .ref (o 13 j_q), va_rf (if z 14 j_q = 0 then none else some (o 14 j_q)), .int (K 10 j_q 0), .int (K 10 j_q 1), .int (K 10 j_q 2), .int (K 10 j_q 3)])) H from hI.at (k := 10) (n := j_q) (show nmv z 10 j_q from (show j_q < z 3 0 by omega))) rfl 2 (by decide) (htg _ (gw_mem (i := 657) (by decide +kernel) rfl)) (fun _ h9 => h9) (show some (va_rf (if z 14 j_q = 0 then none else some (o 14 j_q))) = some (Value.ref (o 14 j_q)) by rw [if_neg hs3]; rfl) d_Nm_dates_25 ?_
        refine lv_astore (lv' := [(5, .ref (o 14 j_q)), (4, .ref (o 10 j_q)), (0, .ref (o 0 0)), (1, .int q), (2, .int u), (3, .int w)]) hx hb d_Nm_dates_28 hl (by decide) rfl (fun ls hl => ?_)
        refine lv_aload hx hb d_Nm_dates_30 (lv_at hl 0 rfl) ?_
        refine lv_ifnull hx hb d_Nm_dates_32 ?_
        refine lv_aload hx hb d_Nm_dates_35 (lv_at hl 0 rfl) ?_
        refine hx_get (ref := "NameMerges$Days") (v := .int (K 14 j_q 0)) hx hb htg iDa hown hK (show va_at D vwCl (o 14 j_q, .inr (4, [.int (K 14 j_q 0), .int (K 14 j_q 1)])) H from hI.at (k := 14) (n := j_q) (show nmv z 14 j_q from ⟨by omega, by omega⟩)) rfl 0 (by decide) (htg _ (gw_mem (i := 772) (by decide +kernel) rfl)) (fun _ h9 => h9) rfl d_Nm_dates_37 ?_
        refine lv_iload_n hx hb d_Nm_dates_40 rfl (lv_at hl 4 rfl) ?_
        refine lv_icmp_ne (x := (K 14 j_q 0)) (y := u) (tgt := 55) hx hb d_Nm_dates_41 (by decide) (fun c41 => ?_) (fun c41 => ?_)
        · skip
          refine lv_aload hx hb d_Nm_dates_55 (lv_at hl 1 rfl) ?_
          have hF : ∀ k9 n9, nmv z k9 n9 → ¬ (k9 = 10 ∧ n9 = j_q) → H[o k9 n9]? = s.heap[o k9 n9]? := fun k9 n9 _ _ => by rw [hH]
          have h10 : va_at D vwCl (o 10 j_q, .inr (2, [.ref (o 11 j_q), .ref (o 13 j_q), va_rf (if z 14 j_q = 0 then none else some (o 14 j_q)), .int (K 10 j_q 0), .int (K 10 j_q 1), .int (K 10 j_q 2), .int (K 10 j_q 3)])) H := hI.at (k := 10) (n := j_q) (show nmv z 10 j_q from (show j_q < z 3 0 by omega))
          have hl10 := hIN 10 j_q (show j_q < z 3 0 by omega)
          replace hS := x_wk (A' := (nmA r N)) hS (fun _ h9 => h9.elim)
          obtain ⟨dy, hdy⟩ : ∃ z : Nat, z = H.size := ⟨_, rfl⟩
          have hlt_q11 : o 10 j_q < dy := hdy ▸ hx_lt h10
          refine hx_new hx hb htg iDa tDa tDa_ok hown (htg _ (gw_mem (i := 765) (by decide +kernel) rfl)) (htg _ (gw_mem (i := 766) (by decide +kernel) rfl)) (htg _ (gw_mem (i := 57) (by decide +kernel) rfl)) hK hS (ci := 4) rfl (fs := [.int 0, .int 0]) (by decide +kernel) (Nat.le_of_ble_eq_true rfl) (Nat.le_of_ble_eq_true rfl) d_Nm_dates_57 (fun H hat hz ho hS => ?_)
          rw [← hdy] at hat hz ho
          rw [← hdy]
          have hO10 : va_at D vwCl (dy, .inr (4, [.int 0, .int 0])) H := hat
          replace h10 := hx_keep h10 (ho _ (by omega))
          replace hF : ∀ k9 n9, nmv z k9 n9 → ¬ (k9 = 10 ∧ n9 = j_q) → H[o k9 n9]? = s.heap[o k9 n9]? := fun k9 n9 hv9 hx9 => (ho _ (by have := hIN k9 n9 hv9; omega)).trans (hF k9 n9 hv9 hx9)
          refine lv_dup hx hb d_Nm_dates_60 rfl ?_
          refine lv_iload_n hx hb d_Nm_dates_61 rfl (lv_at hl 4 rfl) ?_
          refine lv_iload_n hx hb d_Nm_dates_62 rfl (lv_at hl 5 rfl) ?_
          obtain ⟨nq12, hnq12⟩ : ∃ z : Nat, z = H.size := ⟨_, rfl⟩
          have hlt_q13 := hx_lt h10
          have hlt_q14 := hx_lt hO10
          refine h_callv (va_runI (As := [.int u, .int w]) (rest := [.ref dy, .ref (o 10 j_q)]) ⟨hx, hb, hml, hown, htg⟩ (c_Da_init l D cs N0 H dy nq12 u w hO10 hnq12 (by omega)) ⟨x_cwB 2 htg (gw_mem (i := 769) (by decide +kernel) rfl) (gw_mem (i := 57) (by decide +kernel) rfl) (gw_mem (i := 767) (by decide +kernel) rfl) (by decide +kernel) ⟨Nat.le_of_ble_eq_true rfl, Nat.le_of_ble_eq_true rfl⟩, rfl, htg _ (gw_mem (i := 768) (by decide +kernel) rfl)⟩ ⟨hPre.blind, hPre.at hB hS hAN⟩ rfl rfl hl.1 rfl (lv_room (Nat.le_of_ble_eq_true rfl)) d_Nm_dates_63 ⟨Nat.le_of_ble_eq_true rfl, Nat.le_of_ble_eq_true rfl⟩) hS (jA_sub1 (Or.inr (show N ≤ dy by omega)) (fun q9 h9 => Or.inr (show N ≤ q9 by omega))) (fun H locs hp hz hk hS => ?_)
          replace h10 := hx_keep h10 (hk _ hlt_q13 (jA_not1 (show o 10 j_q ≠ dy by omega) (show o 10 j_q < nq12 by omega)))
          replace hF : ∀ k9 n9, nmv z k9 n9 → ¬ (k9 = 10 ∧ n9 = j_q) → H[o k9 n9]? = s.heap[o k9 n9]? := fun k9 n9 hv9 hx9 => (hk _ (by have := hIN k9 n9 hv9; omega) (jA_not1 (by have := hIN k9 n9 hv9; omega) (by have := hIN k9 n9 hv9; omega))).trans (hF k9 n9 hv9 hx9)
          have hO15 := hp
          refine hx_put (ref := "NameMerges$Name") (ty := .object "NameMerges$Days") (v := .ref dy) hx hb htg iNa tNa tNa_ok nNa hown hK h10 hS (hI.inA (k := 10) (n := j_q) (show nmv z 10 j_q from (show j_q < z 3 0 by omega))) rfl 2 (by decide) (htg _ (gw_mem (i := 657) (by decide +kernel) rfl)) (fun _ h9 => h9) rfl (by decide +kernel) rfl rfl (Nat.le_of_ble_eq_true rfl) d_Nm_dates_66 (fun H locs hat hz ho hS => ?_)
          replace h10 : va_at D vwCl (o 10 j_q, .inr (2, [.ref (o 11 j_q), .ref (o 13 j_q), .ref dy, .int (K 10 j_q 0), .int (K 10 j_q 1), .int (K 10 j_q 2), .int (K 10 j_q 3)])) H := hat
          replace hO15 := hx_keep hO15 (ho _ (show dy ≠ o 10 j_q by omega))
          replace hF : ∀ k9 n9, nmv z k9 n9 → ¬ (k9 = 10 ∧ n9 = j_q) → H[o k9 n9]? = s.heap[o k9 n9]? := fun k9 n9 hv9 hx9 => (ho _ (hI0.ne hv9 (show nmv z 10 j_q from (show j_q < z 3 0 by omega)) (by omega))).trans (hF k9 n9 hv9 hx9)
          refine lv_iconst (v := 1) hx hb d_Nm_dates_69 (by decide) ?_
          refine t_ret ?_
          exact W.zret (v := 1) hx hb hr (by decide) (fun t ht hW => Or.inl ⟨some (.int (1)), rfl, (by rw [ht]; exact (by simp only [e_q, tnI (j := j_q) (by omega)]; exact ⟨(by simp [goV, hs3, c41, e_q, hq1, hq2]), by rw [if_neg (by simp [hs3, c41])]; exact ⟨(by first | trivial | rfl), dy, by omega, hI0.dat hIN (by omega) (by omega) (by omega) hO15 h10 hF⟩⟩)), hS.F ht⟩) hS.2.2 d_Nm_dates_70
        · skip
          refine lv_aload hx hb d_Nm_dates_44 (lv_at hl 0 rfl) ?_
          refine hx_get (ref := "NameMerges$Days") (v := .int (K 14 j_q 1)) hx hb htg iDa hown hK (show va_at D vwCl (o 14 j_q, .inr (4, [.int (K 14 j_q 0), .int (K 14 j_q 1)])) H from hI.at (k := 14) (n := j_q) (show nmv z 14 j_q from ⟨by omega, by omega⟩)) rfl 1 (by decide) (htg _ (gw_mem (i := 774) (by decide +kernel) rfl)) (fun _ h9 => h9) rfl d_Nm_dates_46 ?_
          refine lv_iload_n hx hb d_Nm_dates_49 rfl (lv_at hl 5 rfl) ?_
          refine lv_icmp_ne (x := (K 14 j_q 1)) (y := w) (tgt := 55) hx hb d_Nm_dates_50 (by decide) (fun c50 => ?_) (fun c50 => ?_)
          · skip
            refine lv_aload hx hb d_Nm_dates_55 (lv_at hl 1 rfl) ?_
            have hF : ∀ k9 n9, nmv z k9 n9 → ¬ (k9 = 10 ∧ n9 = j_q) → H[o k9 n9]? = s.heap[o k9 n9]? := fun k9 n9 _ _ => by rw [hH]
            have h10 : va_at D vwCl (o 10 j_q, .inr (2, [.ref (o 11 j_q), .ref (o 13 j_q), va_rf (if z 14 j_q = 0 then none else some (o 14 j_q)), .int (K 10 j_q 0), .int (K 10 j_q 1), .int (K 10 j_q 2), .int (K 10 j_q 3)])) H := hI.at (k := 10) (n := j_q) (show nmv z 10 j_q from (show j_q < z 3 0 by omega))
            have hl10 := hIN 10 j_q (show j_q < z 3 0 by omega)
            replace hS := x_wk (A' := (nmA r N)) hS (fun _ h9 => h9.elim)
            obtain ⟨dy, hdy⟩ : ∃ z : Nat, z = H.size := ⟨_, rfl⟩
            have hlt_q17 : o 10 j_q < dy := hdy ▸ hx_lt h10
            refine hx_new hx hb htg iDa tDa tDa_ok hown (htg _ (gw_mem (i := 765) (by decide +kernel) rfl)) (htg _ (gw_mem (i := 766) (by decide +kernel) rfl)) (htg _ (gw_mem (i := 57) (by decide +kernel) rfl)) hK hS (ci := 4) rfl (fs := [.int 0, .int 0]) (by decide +kernel) (Nat.le_of_ble_eq_true rfl) (Nat.le_of_ble_eq_true rfl) d_Nm_dates_57 (fun H hat hz ho hS => ?_)
            rw [← hdy] at hat hz ho
            rw [← hdy]
            have hO16 : va_at D vwCl (dy, .inr (4, [.int 0, .int 0])) H := hat
            replace h10 := hx_keep h10 (ho _ (by omega))
            replace hF : ∀ k9 n9, nmv z k9 n9 → ¬ (k9 = 10 ∧ n9 = j_q) → H[o k9 n9]? = s.heap[o k9 n9]? := fun k9 n9 hv9 hx9 => (ho _ (by have := hIN k9 n9 hv9; omega)).trans (hF k9 n9 hv9 hx9)
            refine lv_dup hx hb d_Nm_dates_60 rfl ?_
            refine lv_iload_n hx hb d_Nm_dates_61 rfl (lv_at hl 4 rfl) ?_
            refine lv_iload_n hx hb d_Nm_dates_62 rfl (lv_at hl 5 rfl) ?_
            obtain ⟨nq18, hnq18⟩ : ∃ z : Nat, z = H.size := ⟨_, rfl⟩
            have hlt_q19 := hx_lt h10
            have hlt_q20 := hx_lt hO16
            refine h_callv (va_runI (As := [.int u, .int w]) (rest := [.ref dy, .ref (o 10 j_q)]) ⟨hx, hb, hml, hown, htg⟩ (c_Da_init l D cs N0 H dy nq18 u w hO16 hnq18 (by omega)) ⟨x_cwB 2 htg (gw_mem (i := 769) (by decide +kernel) rfl) (gw_mem (i := 57) (by decide +kernel) rfl) (gw_mem (i := 767) (by decide +kernel) rfl) (by decide +kernel) ⟨Nat.le_of_ble_eq_true rfl, Nat.le_of_ble_eq_true rfl⟩, rfl, htg _ (gw_mem (i := 768) (by decide +kernel) rfl)⟩ ⟨hPre.blind, hPre.at hB hS hAN⟩ rfl rfl hl.1 rfl (lv_room (Nat.le_of_ble_eq_true rfl)) d_Nm_dates_63 ⟨Nat.le_of_ble_eq_true rfl, Nat.le_of_ble_eq_true rfl⟩) hS (jA_sub1 (Or.inr (show N ≤ dy by omega)) (fun q9 h9 => Or.inr (show N ≤ q9 by omega))) (fun H locs hp hz hk hS => ?_)
            replace h10 := hx_keep h10 (hk _ hlt_q19 (jA_not1 (show o 10 j_q ≠ dy by omega) (show o 10 j_q < nq18 by omega)))
            replace hF : ∀ k9 n9, nmv z k9 n9 → ¬ (k9 = 10 ∧ n9 = j_q) → H[o k9 n9]? = s.heap[o k9 n9]? := fun k9 n9 hv9 hx9 => (hk _ (by have := hIN k9 n9 hv9; omega) (jA_not1 (by have := hIN k9 n9 hv9; omega) (by have := hIN k9 n9 hv9; omega))).trans (hF k9 n9 hv9 hx9)
            have hO21 := hp
            refine hx_put (ref := "NameMerges$Name") (ty := .object "NameMerges$Days") (v := .ref dy) hx hb htg iNa tNa tNa_ok nNa hown hK h10 hS (hI.inA (k := 10) (n := j_q) (show nmv z 10 j_q from (show j_q < z 3 0 by omega))) rfl 2 (by decide) (htg _ (gw_mem (i := 657) (by decide +kernel) rfl)) (fun _ h9 => h9) rfl (by decide +kernel) rfl rfl (Nat.le_of_ble_eq_true rfl) d_Nm_dates_66 (fun H locs hat hz ho hS => ?_)
            replace h10 : va_at D vwCl (o 10 j_q, .inr (2, [.ref (o 11 j_q), .ref (o 13 j_q), .ref dy, .int (K 10 j_q 0), .int (K 10 j_q 1), .int (K 10 j_q 2), .int (K 10 j_q 3)])) H := hat
            replace hO21 := hx_keep hO21 (ho _ (show dy ≠ o 10 j_q by omega))
            replace hF : ∀ k9 n9, nmv z k9 n9 → ¬ (k9 = 10 ∧ n9 = j_q) → H[o k9 n9]? = s.heap[o k9 n9]? := fun k9 n9 hv9 hx9 => (ho _ (hI0.ne hv9 (show nmv z 10 j_q from (show j_q < z 3 0 by omega)) (by omega))).trans (hF k9 n9 hv9 hx9)
            refine lv_iconst (v := 1) hx hb d_Nm_dates_69 (by decide) ?_
            refine t_ret ?_
            exact W.zret (v := 1) hx hb hr (by decide) (fun t ht hW => Or.inl ⟨some (.int (1)), rfl, (by rw [ht]; exact (by simp only [e_q, tnI (j := j_q) (by omega)]; exact ⟨(by simp [goV, hs3, c41, c50, e_q, hq1, hq2]), by rw [if_neg (by simp [hs3, c41, c50])]; exact ⟨(by first | trivial | rfl), dy, by omega, hI0.dat hIN (by omega) (by omega) (by omega) hO21 h10 hF⟩⟩)), hS.F ht⟩) hS.2.2 d_Nm_dates_70
          · skip
            refine lv_iconst (v := 0) hx hb d_Nm_dates_53 (by decide) ?_
            replace hS := x_wk (A' := (nmA r N)) hS (fun _ h9 => h9.elim)
            refine t_ret ?_
            refine W.widen (k := 5) (n := 26) (Nat.le_of_ble_eq_true rfl) (Nat.le_of_ble_eq_true rfl) ?_
            exact W.zret (v := 0) hx hb hr (by decide) (fun t ht hW => Or.inl ⟨some (.int (0)), rfl, (by rw [ht]; exact (by simp only [e_q, tnI (j := j_q) (by omega)]; exact ⟨(by simp [goV, hs3, c41, c50, e_q, hq1, hq2]), by rw [if_pos (by simp [hs3, c41, c50])]; exact ⟨(by first | trivial | rfl), hI⟩⟩)), hS.F ht⟩) hS.2.2 d_Nm_dates_54
