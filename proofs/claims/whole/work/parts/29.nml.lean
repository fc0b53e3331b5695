def lsS (ca : Int32) (B : Nat → Int32) (st : (Nat → Int32) × Int32) (j : Nat) : (Nat → Int32) × Int32 := (upd st.1 (j + 1) (if ca = chV (B j) then st.2 + 1 else maxV (st.1 (j + 1)) (st.1 j)), st.1 (j + 1))
def lsRow (A B : Nat → Int32) (kb : Nat) (w : Nat → Int32) (i : Nat) : Nat → Int32 := (upt (lsS (chV (A i)) B) kb (w, 0)).1
def lsV (ka kb : Nat) (A B : Nat → Int32) : Int32 := upt (lsRow A B kb) ka (fun _ => 0) kb
def y_Nm_longestShared : MethodName := ⟨"NameMerges", "longestShared", "(Ljava/lang/String;Ljava/lang/String;)I"⟩
abbrev w_Nm_longestShared : List Cond := Cond.code y_Nm_longestShared prog_1_method_35_code 8 (Option.some Jvm.ClassFile.FieldType.int) :: gw
theorem d_Nm_longestShared_0 : decode prog_1_method_35_code 0 = .ok (.aload_n 2, 1) := by decide +kernel
theorem d_Nm_longestShared_1 : decode prog_1_method_35_code 1 = .ok (.invokevirtual 276, 3) := by decide +kernel
theorem d_Nm_longestShared_4 : decode prog_1_method_35_code 4 = .ok (.bipush 12, 2) := by decide +kernel
theorem d_Nm_longestShared_6 : decode prog_1_method_35_code 6 = .ok (.invokestatic 253, 3) := by decide +kernel
theorem d_Nm_longestShared_9 : decode prog_1_method_35_code 9 = .ok (.istore_n 3, 1) := by decide +kernel
theorem d_Nm_longestShared_10 : decode prog_1_method_35_code 10 = .ok (.aload_n 0, 1) := by decide +kernel
theorem d_Nm_longestShared_11 : decode prog_1_method_35_code 11 = .ok (.getfield 40, 3) := by decide +kernel
theorem d_Nm_longestShared_14 : decode prog_1_method_35_code 14 = .ok (.iconst 0, 1) := by decide +kernel
theorem d_Nm_longestShared_15 : decode prog_1_method_35_code 15 = .ok (.invokestatic 282, 3) := by decide +kernel
theorem d_Nm_longestShared_18 : decode prog_1_method_35_code 18 = .ok (.iconst 0, 1) := by decide +kernel
theorem d_Nm_longestShared_19 : decode prog_1_method_35_code 19 = .ok (.istore 4, 2) := by decide +kernel
theorem d_Nm_longestShared_21 : decode prog_1_method_35_code 21 = .ok (.iload 4, 2) := by decide +kernel
theorem d_Nm_longestShared_23 : decode prog_1_method_35_code 23 = .ok (.aload_n 1, 1) := by decide +kernel
theorem d_Nm_longestShared_24 : decode prog_1_method_35_code 24 = .ok (.invokevirtual 276, 3) := by decide +kernel
theorem d_Nm_longestShared_27 : decode prog_1_method_35_code 27 = .ok (.if_icmp .ge 85, 3) := by decide +kernel
theorem d_Nm_longestShared_30 : decode prog_1_method_35_code 30 = .ok (.iconst 0, 1) := by decide +kernel
theorem d_Nm_longestShared_31 : decode prog_1_method_35_code 31 = .ok (.istore 5, 2) := by decide +kernel
theorem d_Nm_longestShared_33 : decode prog_1_method_35_code 33 = .ok (.iconst 0, 1) := by decide +kernel
theorem d_Nm_longestShared_34 : decode prog_1_method_35_code 34 = .ok (.istore 6, 2) := by decide +kernel
theorem d_Nm_longestShared_36 : decode prog_1_method_35_code 36 = .ok (.iload 6, 2) := by decide +kernel
theorem d_Nm_longestShared_38 : decode prog_1_method_35_code 38 = .ok (.iload_n 3, 1) := by decide +kernel
theorem d_Nm_longestShared_39 : decode prog_1_method_35_code 39 = .ok (.if_icmp .ge 67, 3) := by decide +kernel
theorem d_Nm_longestShared_42 : decode prog_1_method_35_code 42 = .ok (.aload_n 0, 1) := by decide +kernel
theorem d_Nm_longestShared_43 : decode prog_1_method_35_code 43 = .ok (.getfield 40, 3) := by decide +kernel
theorem d_Nm_longestShared_46 : decode prog_1_method_35_code 46 = .ok (.iload 6, 2) := by decide +kernel
theorem d_Nm_longestShared_48 : decode prog_1_method_35_code 48 = .ok (.iconst 1, 1) := by decide +kernel
theorem d_Nm_longestShared_49 : decode prog_1_method_35_code 49 = .ok (.iadd, 1) := by decide +kernel
theorem d_Nm_longestShared_50 : decode prog_1_method_35_code 50 = .ok (.iaload, 1) := by decide +kernel
theorem d_Nm_longestShared_51 : decode prog_1_method_35_code 51 = .ok (.istore 7, 2) := by decide +kernel
theorem d_Nm_longestShared_53 : decode prog_1_method_35_code 53 = .ok (.aload_n 0, 1) := by decide +kernel
theorem d_Nm_longestShared_54 : decode prog_1_method_35_code 54 = .ok (.getfield 40, 3) := by decide +kernel
theorem d_Nm_longestShared_57 : decode prog_1_method_35_code 57 = .ok (.iload 6, 2) := by decide +kernel
theorem d_Nm_longestShared_59 : decode prog_1_method_35_code 59 = .ok (.iconst 1, 1) := by decide +kernel
theorem d_Nm_longestShared_60 : decode prog_1_method_35_code 60 = .ok (.iadd, 1) := by decide +kernel
theorem d_Nm_longestShared_61 : decode prog_1_method_35_code 61 = .ok (.aload_n 1, 1) := by decide +kernel
theorem d_Nm_longestShared_62 : decode prog_1_method_35_code 62 = .ok (.iload 4, 2) := by decide +kernel
theorem d_Nm_longestShared_64 : decode prog_1_method_35_code 64 = .ok (.invokevirtual 288, 3) := by decide +kernel
theorem d_Nm_longestShared_67 : decode prog_1_method_35_code 67 = .ok (.aload_n 2, 1) := by decide +kernel
theorem d_Nm_longestShared_68 : decode prog_1_method_35_code 68 = .ok (.iload 6, 2) := by decide +kernel
theorem d_Nm_longestShared_70 : decode prog_1_method_35_code 70 = .ok (.invokevirtual 288, 3) := by decide +kernel
theorem d_Nm_longestShared_73 : decode prog_1_method_35_code 73 = .ok (.if_icmp .ne 10, 3) := by decide +kernel
theorem d_Nm_longestShared_76 : decode prog_1_method_35_code 76 = .ok (.iload 5, 2) := by decide +kernel
theorem d_Nm_longestShared_78 : decode prog_1_method_35_code 78 = .ok (.iconst 1, 1) := by decide +kernel
theorem d_Nm_longestShared_79 : decode prog_1_method_35_code 79 = .ok (.iadd, 1) := by decide +kernel
theorem d_Nm_longestShared_80 : decode prog_1_method_35_code 80 = .ok (.goto 15, 3) := by decide +kernel
theorem d_Nm_longestShared_83 : decode prog_1_method_35_code 83 = .ok (.iload 7, 2) := by decide +kernel
theorem d_Nm_longestShared_85 : decode prog_1_method_35_code 85 = .ok (.aload_n 0, 1) := by decide +kernel
theorem d_Nm_longestShared_86 : decode prog_1_method_35_code 86 = .ok (.getfield 40, 3) := by decide +kernel
theorem d_Nm_longestShared_89 : decode prog_1_method_35_code 89 = .ok (.iload 6, 2) := by decide +kernel
theorem d_Nm_longestShared_91 : decode prog_1_method_35_code 91 = .ok (.iaload, 1) := by decide +kernel
theorem d_Nm_longestShared_92 : decode prog_1_method_35_code 92 = .ok (.invokestatic 258, 3) := by decide +kernel
theorem d_Nm_longestShared_95 : decode prog_1_method_35_code 95 = .ok (.iastore, 1) := by decide +kernel
theorem d_Nm_longestShared_96 : decode prog_1_method_35_code 96 = .ok (.iload 7, 2) := by decide +kernel
theorem d_Nm_longestShared_98 : decode prog_1_method_35_code 98 = .ok (.istore 5, 2) := by decide +kernel
theorem d_Nm_longestShared_100 : decode prog_1_method_35_code 100 = .ok (.iinc 6 1, 3) := by decide +kernel
theorem d_Nm_longestShared_103 : decode prog_1_method_35_code 103 = .ok (.goto (-67), 3) := by decide +kernel
theorem d_Nm_longestShared_106 : decode prog_1_method_35_code 106 = .ok (.iinc 4 1, 3) := by decide +kernel
theorem d_Nm_longestShared_109 : decode prog_1_method_35_code 109 = .ok (.goto (-88), 3) := by decide +kernel
theorem d_Nm_longestShared_112 : decode prog_1_method_35_code 112 = .ok (.aload_n 0, 1) := by decide +kernel
theorem d_Nm_longestShared_113 : decode prog_1_method_35_code 113 = .ok (.getfield 40, 3) := by decide +kernel
theorem d_Nm_longestShared_116 : decode prog_1_method_35_code 116 = .ok (.iload_n 3, 1) := by decide +kernel
theorem d_Nm_longestShared_117 : decode prog_1_method_35_code 117 = .ok (.iaload, 1) := by decide +kernel
theorem d_Nm_longestShared_118 : decode prog_1_method_35_code 118 = .ok (.ireturn, 1) := by decide +kernel
set_option maxHeartbeats 4000000 in
set_option maxRecDepth 100000 in
theorem c_Nm_longestShared (l : Launch) (D : va_G) (cs : Nat → ClassId) (N0 : Nat) (H : Heap) (o z : Nat → Nat → Nat) (K : Nat → Nat → Nat → Int32) (r : Nat → Nat × Nat) (w0 : Nat → Int32) (N : Nat) (m1 m2 : Nat) (hI : nmP D cs N0 H o z (upK K 9 0 w0) r) (hN : N = H.size) (hm1 : nmv z 16 m1) (hm2 : nmv z 16 m2) : Met l y_Nm_longestShared w_Nm_longestShared ({ frames := 4, cells := 0, slots := 0, locals := 85 }) (hPre D cs N0 [.ref (o 0 0), .ref (o 16 m1), .ref (o 16 m2)] H) (hQi (fun r9 H' => r9 = lsV (z 17 m1) (z 17 m2) (K 17 m1) (K 17 m2) ∧ ∃ w : Nat → Int32, nmP D cs N0 H' o z (upK K 9 0 w) r) (jA [o 9 0] N)) 0 0 (jA [o 9 0] N) := by
  refine Met.ofW (cc := prog_1_method_35_code) (maxL := 8) (ret := (Option.some Jvm.ClassFile.FieldType.int)) (by decide) rfl ?_
  intro p e s m args below meth c s₁ B hml hv
  obtain ⟨rfl, rfl, hB⟩ := hv
  have hx := B.exec
  have hb := B.bytes
  have hr := B.returns
  have hts := atoms_spec (ws := w_Nm_longestShared) B.pre
  have htg : ∀ w ∈ gw, w.before _ s = true := fun w h => hts w (List.mem_cons_of_mem _ h)
  have hown : s.vm.findClass "NameMerges" = some m.cls := findClass_of_methodNamed B.named
  have hlocks := B.notSynchronized
  have hAN : ∀ q, (jA [o 9 0] N) q → N0 ≤ q := jA_sub1 (hI.ge (k := 9) (n := 0) rfl) (fun q9 h9 => Nat.le_trans hB.2.1 (hN ▸ h9))
  have hK := hB.1
  obtain ⟨H, hH⟩ : ∃ z : Heap, z = s.heap := ⟨_, rfl⟩
  have hz0 : H.size = s.heap.size := by rw [hH]
  have hN0 := hB.2.1
  rw [← hH] at hI
  have hS : va_S (jA [o 9 0] N) s.heap H [] := by rw [hH]; exact va_S.rf
  have hl := lv_entry ([.ref (o 0 0), .ref (o 16 m1), .ref (o 16 m2)]) (n := 8) (Nat.le_of_ble_eq_true rfl)
  rw [lg_entry_eq, ← hH]
  generalize (lg_sl ([.ref (o 0 0), .ref (o 16 m1), .ref (o 16 m2)]) ++ List.replicate (8 - (lg_sl ([.ref (o 0 0), .ref (o 16 m1), .ref (o 16 m2)])).length) Slot.unset).toArray = ls at hl ⊢
  have hl : lv_has ls 8 [(0, .ref (o 0 0)), (1, .ref (o 16 m1)), (2, .ref (o 16 m2))] := hl
  obtain ⟨hb0, hb1, hb3, hb5, hb4, hb6, hb11, hb17⟩ := hI.2.2.1
  have h171 := hb17 m1
  have h172 := hb17 m2
  refine lv_aload_n hx hb d_Nm_longestShared_0 rfl (lv_at hl 2 rfl) ?_
  refine h_purei (va_runV (As := []) (rest := []) ⟨hx, hb, hml, hown, htg⟩ (c_Sg_length l D cs N0 H (o 16 m2) (o 17 m2) (z 17 m2) (K 16 m2 0) (K 16 m2 1) (K 17 m2) (show va_at D vwCl (o 16 m2, .inr (8, [.ref (o 17 m2), .int 0, .int (K 16 m2 0), .int (K 16 m2 1)])) H from hI.at (k := 16) (n := m2) (show nmv z 16 m2 from hm2)) (show va_at D vwCl (o 17 m2, .inl (cs 2, (z 17 m2, .inl (K 17 m2)))) H from hI.at (k := 17) (n := m2) (show nmv z 17 m2 from hm2))) ⟨x_cwB 0 htg (gw_mem (i := 258) (by decide +kernel) rfl) (gw_mem (i := 33) (by decide +kernel) rfl) (gw_mem (i := 550) (by decide +kernel) rfl) (by decide +kernel) ⟨Nat.le_of_ble_eq_true rfl, Nat.le_of_ble_eq_true rfl⟩, htg _ (gw_mem (i := 256) (by decide +kernel) rfl), htg _ (gw_mem (i := 257) (by decide +kernel) rfl)⟩ ⟨hPre.blind, hx_recv hK (ci := 8) rfl (show va_at D vwCl (o 16 m2, .inr (8, [.ref (o 17 m2), .int 0, .int (K 16 m2 0), .int (K 16 m2 1)])) H from hI.at (k := 16) (n := m2) (show nmv z 16 m2 from hm2)), hPre.at hB hS hAN⟩ rfl rfl hl.1 rfl (lv_room (Nat.le_of_ble_eq_true rfl)) d_Nm_longestShared_1 ⟨Nat.le_of_ble_eq_true rfl, Nat.le_of_ble_eq_true rfl⟩) hS (fun locs hS => ?_)
  refine lv_bipush (v := 12) hx hb d_Nm_longestShared_4 (by decide) ?_
  refine va_mmin (x := (nI (z 17 m2))) (y := 12) hx hb (hml.trans hl.1.symm) hown (htg _ (gw_mem (i := 534) (by decide +kernel) rfl)) (htg _ (gw_mem (i := 219) (by decide +kernel) rfl)) (htg _ (gw_mem (i := 45) (by decide +kernel) rfl)) (htg _ (gw_mem (w := Cond.code Lib.Math.min.name Lib.Math.min.code 2 (some .int)) (i := 220) (by decide +kernel) rfl)) (by exact Nat.le_of_ble_eq_true rfl) (by exact Nat.le_of_ble_eq_true rfl) (by exact Nat.le_of_ble_eq_true rfl) (by exact Nat.le_of_ble_eq_true rfl) d_Nm_longestShared_6 ?_
  refine lv_eqi (y := (minV (nI (z 17 m2)) 12)) rfl ?_
  refine lv_eqi (y := (nI (z 17 m2))) (x_min2 (a := z 17 m2) (b := 12) (by omega) (by omega)) ?_
  refine lv_istore_n (lv' := [(3, .int (nI (z 17 m2))), (0, .ref (o 0 0)), (1, .ref (o 16 m1)), (2, .ref (o 16 m2))]) hx hb d_Nm_longestShared_9 rfl hl (by decide) rfl (fun ls hl => ?_)
  refine lv_aload_n hx hb d_Nm_longestShared_10 rfl (lv_at hl 1 rfl) ?_
  refine hx_get (ref := "NameMerges") (v := .ref (o 9 0)) hx hb htg iNm hown hK (show va_at D vwCl (o 0 0, .inr (1, [.ref (o 1 0), .ref (o 3 0), .ref (o 5 0), .ref (o 7 0), .ref (o 8 0), .int (nI (z 0 0)), .int (K 0 0 0), .ref (o 9 0)])) H from hI.at (k := 0) (n := 0) (show nmv z 0 0 from rfl)) rfl 7 (by decide) (htg _ (gw_mem (i := 133) (by decide +kernel) rfl)) (fun _ h9 => h9) rfl d_Nm_longestShared_11 ?_
  refine lv_iconst (v := 0) hx hb d_Nm_longestShared_14 (by decide) ?_
  obtain ⟨nq1, hnq1⟩ : ∃ z : Nat, z = H.size := ⟨_, rfl⟩
  refine h_callv (va_runS (As := [.ref (o 9 0), .int 0]) (rest := []) ⟨hx, hb, hml, hown, htg⟩ (c_Ar_fill l D cs N0 H (o 9 0) 13 nq1 0 w0 (show va_at D vwCl (o 9 0, .inl (cs 0, (13, .inl w0))) H from hI.at (k := 9) (n := 0) (show nmv z 9 0 from rfl)) hnq1 (hI.ge (k := 9) (n := 0) (show nmv z 9 0 from rfl)) (by omega)) ⟨x_cwB 2 htg (gw_mem (i := 557) (by decide +kernel) rfl) (gw_mem (i := 46) (by decide +kernel) rfl) (gw_mem (i := 555) (by decide +kernel) rfl) (by decide +kernel) ⟨Nat.le_of_ble_eq_true rfl, Nat.le_of_ble_eq_true rfl⟩, htg _ (gw_mem (i := 556) (by decide +kernel) rfl)⟩ ⟨hPre.blind, hPre.at hB hS hAN⟩ rfl rfl hl.1 rfl (lv_room (Nat.le_of_ble_eq_true rfl)) d_Nm_longestShared_15 ⟨Nat.le_of_ble_eq_true rfl, Nat.le_of_ble_eq_true rfl⟩) hS (jA_sub1 jA_in1 (fun q9 h9 => Or.inr (show N ≤ q9 by omega))) (fun H locs hp hz hk hS => ?_)
  replace hI : nmP D cs N0 H o z (upK K 9 0 (fun _ => 0)) r := hI.put9 hp (fun q9 h8 h9 => hk q9 h8 (jA_not1 h9 (by omega)))
  refine lv_iconst (v := 0) hx hb d_Nm_longestShared_18 (by decide) ?_
  refine lv_istore (lv' := [(4, .int 0), (3, .int (nI (z 17 m2))), (0, .ref (o 0 0)), (1, .ref (o 16 m1)), (2, .ref (o 16 m2))]) hx hb d_Nm_longestShared_19 hl (by decide) rfl (fun ls hl => ?_)
  have loop21 : ∀ (fuel : Nat) (i : Nat) (w : Nat → Int32), z 17 m1 - i < fuel → (i ≤ z 17 m1) → (w = upt (lsRow (K 17 m1) (K 17 m2) (z 17 m2)) i (fun _ => 0)) → ∀ (H : Heap) (locs : List Loc), nmP D cs N0 H o z (upK K 9 0 w) r → va_S (jA [o 9 0] N) s.heap H locs → ∀ (ls : Array Slot), lv_has ls 8 [(0, .ref (o 0 0)), (1, .ref (o 16 m1)), (2, .ref (o 16 m2)), (3, .int (nI (z 17 m2))), (4, .int (nI i))] → W p l e (headSpec w_Nm_longestShared ({ frames := 4, cells := 0, slots := 0, locals := 85 })).room s m ([.ref (o 0 0), .ref (o 16 m1), .ref (o 16 m2)] : List Value).toArray below meth c H locs 0 0 (MQ below (hQi (fun r9 H' => r9 = lsV (z 17 m1) (z 17 m2) (K 17 m1) (K 17 m2) ∧ ∃ w : Nat → Int32, nmP D cs N0 H' o z (upK K 9 0 w) r) (jA [o 9 0] N)) ([.ref (o 0 0), .ref (o 16 m1), .ref (o 16 m2)] : List Value).toArray s 0 0 (jA [o 9 0] N)) (F0 m 21 ls []) := by
    intro fuel21
    induction fuel21 with
    | zero => intro i w hn; exact absurd hn (Nat.not_lt_zero _)
    | succ fuel21 ih21 =>
      intro i w hn21 hi hw H locs hI hS ls hl
      have hz9 := hS.1
      refine lv_iload hx hb d_Nm_longestShared_21 (lv_at hl 4 rfl) ?_
      refine lv_aload_n hx hb d_Nm_longestShared_23 rfl (lv_at hl 1 rfl) ?_
      refine h_purei (va_runV (As := []) (rest := [.int (nI i)]) ⟨hx, hb, hml, hown, htg⟩ (c_Sg_length l D cs N0 H (o 16 m1) (o 17 m1) (z 17 m1) (K 16 m1 0) (K 16 m1 1) (K 17 m1) (show va_at D vwCl (o 16 m1, .inr (8, [.ref (o 17 m1), .int 0, .int (K 16 m1 0), .int (K 16 m1 1)])) H from hI.at (k := 16) (n := m1) (show nmv z 16 m1 from hm1)) (show va_at D vwCl (o 17 m1, .inl (cs 2, (z 17 m1, .inl (K 17 m1)))) H from hI.at (k := 17) (n := m1) (show nmv z 17 m1 from hm1))) ⟨x_cwB 0 htg (gw_mem (i := 258) (by decide +kernel) rfl) (gw_mem (i := 33) (by decide +kernel) rfl) (gw_mem (i := 550) (by decide +kernel) rfl) (by decide +kernel) ⟨Nat.le_of_ble_eq_true rfl, Nat.le_of_ble_eq_true rfl⟩, htg _ (gw_mem (i := 256) (by decide +kernel) rfl), htg _ (gw_mem (i := 257) (by decide +kernel) rfl)⟩ ⟨hPre.blind, hx_recv hK (ci := 8) rfl (show va_at D vwCl (o 16 m1, .inr (8, [.ref (o 17 m1), .int 0, .int (K 16 m1 0), .int (K 16 m1 1)])) H from hI.at (k := 16) (n := m1) (show nmv z 16 m1 from hm1)), hPre.at hB hS hAN⟩ rfl rfl hl.1 rfl (lv_room (Nat.le_of_ble_eq_true rfl)) d_Nm_longestShared_24 ⟨Nat.le_of_ble_eq_true rfl, Nat.le_of_ble_eq_true rfl⟩) hS (fun locs hS => ?_)
      refine lv_icmp_ge (x := (nI i)) (y := (nI (z 17 m1))) (tgt := 112) hx hb d_Nm_longestShared_27 (by decide) (fun c27 => ?_) (fun c27 => ?_)
      · skip
        replace c27 : (z 17 m1) ≤ i := (nI_leI (a := (z 17 m1)) (b := i) (by omega) (by omega)).mp c27
        refine lv_aload_n hx hb d_Nm_longestShared_112 rfl (lv_at hl 0 rfl) ?_
        refine hx_get (ref := "NameMerges") (v := .ref (o 9 0)) hx hb htg iNm hown hK (show va_at D vwCl (o 0 0, .inr (1, [.ref (o 1 0), .ref (o 3 0), .ref (o 5 0), .ref (o 7 0), .ref (o 8 0), .int (nI (z 0 0)), .int (K 0 0 0), .ref (o 9 0)])) H from hI.at (k := 0) (n := 0) (show nmv z 0 0 from rfl)) rfl 7 (by decide) (htg _ (gw_mem (i := 133) (by decide +kernel) rfl)) (fun _ h9 => h9) rfl d_Nm_longestShared_113 ?_
        refine lv_iload_n hx hb d_Nm_longestShared_116 rfl (lv_at hl 3 rfl) ?_
        refine hx_iald hx hb hK 0 (show va_at D vwCl (o 9 0, .inl (cs 0, (13, .inl w))) H from hI.at (k := 9) (n := 0) (show nmv z 9 0 from rfl)) rfl (show vp_in (nI (z 17 m2)) 13 from vp_in_nI (n := z 17 m2) (by omega) (by omega)) d_Nm_longestShared_117 ?_
        refine lv_eqi (y := (w (z 17 m2))) (show w (nI (z 17 m2)).toNatClampNeg = _ by rw [nI_clamp (by omega)]) ?_
        exact W.iret (v := (w (z 17 m2))) hx hb hr (fun t ht hW => ⟨⟨(w (z 17 m2)), H, rfl, ⟨by rw [hw, show i = z 17 m1 by omega]; rfl, _, hI⟩, ht⟩, hS.F ht⟩) hS.2.2 d_Nm_longestShared_118
      · skip
        replace c27 : ¬ ((z 17 m1) ≤ i) := fun z9 => c27 ((nI_leI (a := (z 17 m1)) (b := i) (by omega) (by omega)).mpr z9)
        refine lv_iconst (v := 0) hx hb d_Nm_longestShared_30 (by decide) ?_
        refine lv_istore (lv' := [(5, .int 0), (0, .ref (o 0 0)), (1, .ref (o 16 m1)), (2, .ref (o 16 m2)), (3, .int (nI (z 17 m2))), (4, .int (nI i))]) hx hb d_Nm_longestShared_31 hl (by decide) rfl (fun ls hl => ?_)
        refine lv_iconst (v := 0) hx hb d_Nm_longestShared_33 (by decide) ?_
        refine lv_istore (lv' := [(6, .int 0), (5, .int 0), (0, .ref (o 0 0)), (1, .ref (o 16 m1)), (2, .ref (o 16 m2)), (3, .int (nI (z 17 m2))), (4, .int (nI i))]) hx hb d_Nm_longestShared_34 hl (by decide) rfl (fun ls hl => ?_)
        have loop36 : ∀ (fuel : Nat) (j : Nat) (v : Nat → Int32) (wb : Int32), z 17 m2 - j < fuel → (j ≤ z 17 m2) → ((v, wb) = upt (lsS (chV (K 17 m1 i)) (K 17 m2)) j (w, 0)) → ∀ (H : Heap) (locs : List Loc), nmP D cs N0 H o z (upK K 9 0 v) r → va_S (jA [o 9 0] N) s.heap H locs → ∀ (ls : Array Slot), lv_has ls 8 [(0, .ref (o 0 0)), (1, .ref (o 16 m1)), (2, .ref (o 16 m2)), (3, .int (nI (z 17 m2))), (4, .int (nI i)), (5, .int wb), (6, .int (nI j))] → W p l e (headSpec w_Nm_longestShared ({ frames := 4, cells := 0, slots := 0, locals := 85 })).room s m ([.ref (o 0 0), .ref (o 16 m1), .ref (o 16 m2)] : List Value).toArray below meth c H locs 0 0 (MQ below (hQi (fun r9 H' => r9 = lsV (z 17 m1) (z 17 m2) (K 17 m1) (K 17 m2) ∧ ∃ w : Nat → Int32, nmP D cs N0 H' o z (upK K 9 0 w) r) (jA [o 9 0] N)) ([.ref (o 0 0), .ref (o 16 m1), .ref (o 16 m2)] : List Value).toArray s 0 0 (jA [o 9 0] N)) (F0 m 36 ls []) := by
          intro fuel36
          induction fuel36 with
          | zero => intro j v wb hn; exact absurd hn (Nat.not_lt_zero _)
          | succ fuel36 ih36 =>
            intro j v wb hn36 hj hv H locs hI hS ls hl
            have hz9 := hS.1
            refine lv_iload hx hb d_Nm_longestShared_36 (lv_at hl 6 rfl) ?_
            refine lv_iload_n hx hb d_Nm_longestShared_38 rfl (lv_at hl 3 rfl) ?_
            refine lv_icmp_ge (x := (nI j)) (y := (nI (z 17 m2))) (tgt := 106) hx hb d_Nm_longestShared_39 (by decide) (fun c39 => ?_) (fun c39 => ?_)
            · skip
              replace c39 : (z 17 m2) ≤ j := (nI_leI (a := (z 17 m2)) (b := j) (by omega) (by omega)).mp c39
              refine lv_iinc (v := (nI (i + 1))) (lv' := [(4, .int (nI (i + 1))), (0, .ref (o 0 0)), (1, .ref (o 16 m1)), (2, .ref (o 16 m2)), (3, .int (nI (z 17 m2))), (5, .int wb), (6, .int (nI j))]) hx hb d_Nm_longestShared_106 hl (k := 4) rfl (nI_1 i) (by decide) rfl (fun ls hl => ?_)
              refine lv_goto (tgt := 21) hx hb d_Nm_longestShared_109 (by decide) ?_
              exact ih21  (i + 1) v (by omega) (by omega) (by rw [show upt (lsRow (K 17 m1) (K 17 m2) (z 17 m2)) (i + 1) (fun _ => 0) = lsRow (K 17 m1) (K 17 m2) (z 17 m2) (upt (lsRow (K 17 m1) (K 17 m2) (z 17 m2)) i (fun _ => 0)) i from rfl, ← hw]; exact congrArg Prod.fst (hv.trans (by rw [show j = z 17 m2 by omega]))) _ _ hI hS ls (lv_sub hl [1, 2, 3, 4, 0] rfl)
            · skip
              replace c39 : ¬ ((z 17 m2) ≤ j) := fun z9 => c39 ((nI_leI (a := (z 17 m2)) (b := j) (by omega) (by omega)).mpr z9)
              refine lv_aload_n hx hb d_Nm_longestShared_42 rfl (lv_at hl 0 rfl) ?_
              refine hx_get (ref := "NameMerges") (v := .ref (o 9 0)) hx hb htg iNm hown hK (show va_at D vwCl (o 0 0, .inr (1, [.ref (o 1 0), .ref (o 3 0), .ref (o 5 0), .ref (o 7 0), .ref (o 8 0), .int (nI (z 0 0)), .int (K 0 0 0), .ref (o 9 0)])) H from hI.at (k := 0) (n := 0) (show nmv z 0 0 from rfl)) rfl 7 (by decide) (htg _ (gw_mem (i := 133) (by decide +kernel) rfl)) (fun _ h9 => h9) rfl d_Nm_longestShared_43 ?_
              refine lv_iload hx hb d_Nm_longestShared_46 (lv_at hl 6 rfl) ?_
              refine lv_iconst (v := 1) hx hb d_Nm_longestShared_48 (by decide) ?_
              refine lv_iadd (x := (nI j)) (y := 1) hx hb d_Nm_longestShared_49 ?_
              refine lv_eqi (y := (nI (j + 1))) (nI_add j 1) ?_
              refine hx_iald hx hb hK 0 (show va_at D vwCl (o 9 0, .inl (cs 0, (13, .inl v))) H from hI.at (k := 9) (n := 0) (show nmv z 9 0 from rfl)) rfl (show vp_in (nI (j + 1)) 13 from vp_in_nI (n := j + 1) (by omega) (by omega)) d_Nm_longestShared_50 ?_
              refine lv_eqi (y := (v (j + 1))) (show v (nI (j + 1)).toNatClampNeg = _ by rw [nI_clamp (by omega)]) ?_
              refine lv_istore (lv' := [(7, .int (v (j + 1))), (0, .ref (o 0 0)), (1, .ref (o 16 m1)), (2, .ref (o 16 m2)), (3, .int (nI (z 17 m2))), (4, .int (nI i)), (5, .int wb), (6, .int (nI j))]) hx hb d_Nm_longestShared_51 hl (by decide) rfl (fun ls hl => ?_)
              refine lv_aload_n hx hb d_Nm_longestShared_53 rfl (lv_at hl 1 rfl) ?_
              refine hx_get (ref := "NameMerges") (v := .ref (o 9 0)) hx hb htg iNm hown hK (show va_at D vwCl (o 0 0, .inr (1, [.ref (o 1 0), .ref (o 3 0), .ref (o 5 0), .ref (o 7 0), .ref (o 8 0), .int (nI (z 0 0)), .int (K 0 0 0), .ref (o 9 0)])) H from hI.at (k := 0) (n := 0) (show nmv z 0 0 from rfl)) rfl 7 (by decide) (htg _ (gw_mem (i := 133) (by decide +kernel) rfl)) (fun _ h9 => h9) rfl d_Nm_longestShared_54 ?_
              refine lv_iload hx hb d_Nm_longestShared_57 (lv_at hl 7 rfl) ?_
              refine lv_iconst (v := 1) hx hb d_Nm_longestShared_59 (by decide) ?_
              refine lv_iadd (x := (nI j)) (y := 1) hx hb d_Nm_longestShared_60 ?_
              refine lv_eqi (y := (nI (j + 1))) (nI_add j 1) ?_
              refine lv_aload_n hx hb d_Nm_longestShared_61 rfl (lv_at hl 2 rfl) ?_
              refine lv_iload hx hb d_Nm_longestShared_62 (lv_at hl 5 rfl) ?_
              refine h_purei (va_runV (As := [.int (nI i)]) (rest := [.int (nI (j + 1)), .ref (o 9 0)]) ⟨hx, hb, hml, hown, htg⟩ (c_Sg_charAt l D cs N0 H (o 16 m1) (o 17 m1) (z 17 m1) i (K 16 m1 0) (K 16 m1 1) (K 17 m1) (show va_at D vwCl (o 16 m1, .inr (8, [.ref (o 17 m1), .int 0, .int (K 16 m1 0), .int (K 16 m1 1)])) H from hI.at (k := 16) (n := m1) (show nmv z 16 m1 from hm1)) (show va_at D vwCl (o 17 m1, .inl (cs 2, (z 17 m1, .inl (K 17 m1)))) H from hI.at (k := 17) (n := m1) (show nmv z 17 m1 from hm1)) (by omega) (by omega)) ⟨x_cwB 1 htg (gw_mem (i := 561) (by decide +kernel) rfl) (gw_mem (i := 33) (by decide +kernel) rfl) (gw_mem (i := 558) (by decide +kernel) rfl) (by decide +kernel) ⟨Nat.le_of_ble_eq_true rfl, Nat.le_of_ble_eq_true rfl⟩, htg _ (gw_mem (i := 559) (by decide +kernel) rfl), htg _ (gw_mem (i := 560) (by decide +kernel) rfl)⟩ ⟨hPre.blind, hx_recv hK (ci := 8) rfl (show va_at D vwCl (o 16 m1, .inr (8, [.ref (o 17 m1), .int 0, .int (K 16 m1 0), .int (K 16 m1 1)])) H from hI.at (k := 16) (n := m1) (show nmv z 16 m1 from hm1)), hPre.at hB hS hAN⟩ rfl rfl hl.1 rfl (lv_room (Nat.le_of_ble_eq_true rfl)) d_Nm_longestShared_64 ⟨Nat.le_of_ble_eq_true rfl, Nat.le_of_ble_eq_true rfl⟩) hS (fun locs hS => ?_)
              refine lv_eqi (y := (chV ((K 17 m1) i))) rfl ?_
              refine lv_aload_n hx hb d_Nm_longestShared_67 rfl (lv_at hl 3 rfl) ?_
              refine lv_iload hx hb d_Nm_longestShared_68 (lv_at hl 7 rfl) ?_
              refine h_purei (va_runV (As := [.int (nI j)]) (rest := [.int (chV ((K 17 m1) i)), .int (nI (j + 1)), .ref (o 9 0)]) ⟨hx, hb, hml, hown, htg⟩ (c_Sg_charAt l D cs N0 H (o 16 m2) (o 17 m2) (z 17 m2) j (K 16 m2 0) (K 16 m2 1) (K 17 m2) (show va_at D vwCl (o 16 m2, .inr (8, [.ref (o 17 m2), .int 0, .int (K 16 m2 0), .int (K 16 m2 1)])) H from hI.at (k := 16) (n := m2) (show nmv z 16 m2 from hm2)) (show va_at D vwCl (o 17 m2, .inl (cs 2, (z 17 m2, .inl (K 17 m2)))) H from hI.at (k := 17) (n := m2) (show nmv z 17 m2 from hm2)) (by omega) (by omega)) ⟨x_cwB 1 htg (gw_mem (i := 561) (by decide +kernel) rfl) (gw_mem (i := 33) (by decide +kernel) rfl) (gw_mem (i := 558) (by decide +kernel) rfl) (by decide +kernel) ⟨Nat.le_of_ble_eq_true rfl, Nat.le_of_ble_eq_true rfl⟩, htg _ (gw_mem (i := 559) (by decide +kernel) rfl), htg _ (gw_mem (i := 560) (by decide +kernel) rfl)⟩ ⟨hPre.blind, hx_recv hK (ci := 8) rfl (show va_at D vwCl (o 16 m2, .inr (8, [.ref (o 17 m2), .int 0, .int (K 16 m2 0), .int (K 16 m2 1)])) H from hI.at (k := 16) (n := m2) (show nmv z 16 m2 from hm2)), hPre.at hB hS hAN⟩ rfl rfl hl.1 rfl (lv_room (Nat.le_of_ble_eq_true rfl)) d_Nm_longestShared_70 ⟨Nat.le_of_ble_eq_true rfl, Nat.le_of_ble_eq_true rfl⟩) hS (fun locs hS => ?_)
              refine lv_eqi (y := (chV ((K 17 m2) j))) rfl ?_
              refine lv_icmp_ne (x := (chV ((K 17 m1) i))) (y := (chV ((K 17 m2) j))) (tgt := 83) hx hb d_Nm_longestShared_73 (by decide) (fun c73 => ?_) (fun c73 => ?_)
              · skip
                refine lv_iload hx hb d_Nm_longestShared_83 (lv_at hl 0 rfl) ?_
                refine lv_aload_n hx hb d_Nm_longestShared_85 rfl (lv_at hl 1 rfl) ?_
                refine hx_get (ref := "NameMerges") (v := .ref (o 9 0)) hx hb htg iNm hown hK (show va_at D vwCl (o 0 0, .inr (1, [.ref (o 1 0), .ref (o 3 0), .ref (o 5 0), .ref (o 7 0), .ref (o 8 0), .int (nI (z 0 0)), .int (K 0 0 0), .ref (o 9 0)])) H from hI.at (k := 0) (n := 0) (show nmv z 0 0 from rfl)) rfl 7 (by decide) (htg _ (gw_mem (i := 133) (by decide +kernel) rfl)) (fun _ h9 => h9) rfl d_Nm_longestShared_86 ?_
                refine lv_iload hx hb d_Nm_longestShared_89 (lv_at hl 7 rfl) ?_
                refine hx_iald hx hb hK 0 (show va_at D vwCl (o 9 0, .inl (cs 0, (13, .inl v))) H from hI.at (k := 9) (n := 0) (show nmv z 9 0 from rfl)) rfl (show vp_in (nI j) 13 from vp_in_nI (n := j) (by omega) (by omega)) d_Nm_longestShared_91 ?_
                refine lv_eqi (y := (v j)) (show v (nI j).toNatClampNeg = _ by rw [nI_clamp (by omega)]) ?_
                refine va_mmax (x := (v (j + 1))) (y := (v j)) hx hb (hml.trans hl.1.symm) hown (htg _ (gw_mem (i := 535) (by decide +kernel) rfl)) (htg _ (gw_mem (i := 201) (by decide +kernel) rfl)) (htg _ (gw_mem (i := 45) (by decide +kernel) rfl)) (htg _ (gw_mem (w := Cond.code Lib.Math.max.name Lib.Math.max.code 2 (some .int)) (i := 202) (by decide +kernel) rfl)) (by exact Nat.le_of_ble_eq_true rfl) (by exact Nat.le_of_ble_eq_true rfl) (by exact Nat.le_of_ble_eq_true rfl) (by exact Nat.le_of_ble_eq_true rfl) d_Nm_longestShared_92 ?_
                refine lv_eqi (y := (maxV (v (j + 1)) (v j))) rfl ?_
                refine hx_iast hx hb hK hS jA_in1 0 (show va_at D vwCl (o 9 0, .inl (cs 0, (13, .inl v))) H from hI.at (k := 9) (n := 0) (show nmv z 9 0 from rfl)) rfl (show vp_in (nI (j + 1)) 13 from vp_in_nI (n := j + 1) (by omega) (by omega)) d_Nm_longestShared_95 (fun H locs hat hz ho hS => ?_)
                rw [show (nI (j + 1)).toNatClampNeg = j + 1 from nI_clamp (n := j + 1) (by omega)] at hat
                replace hI : nmP D cs N0 H o z (upK K 9 0 (upd v (j + 1) ((maxV (v (j + 1)) (v j))))) r := hI.put9 hat (fun q9 _ h9 => ho q9 h9)
                refine lv_iload hx hb d_Nm_longestShared_96 (lv_at hl 0 rfl) ?_
                refine lv_istore (lv' := [(5, .int (v (j + 1))), (7, .int (v (j + 1))), (0, .ref (o 0 0)), (1, .ref (o 16 m1)), (2, .ref (o 16 m2)), (3, .int (nI (z 17 m2))), (4, .int (nI i)), (6, .int (nI j))]) hx hb d_Nm_longestShared_98 hl (by decide) rfl (fun ls hl => ?_)
                refine lv_iinc (v := (nI (j + 1))) (lv' := [(6, .int (nI (j + 1))), (5, .int (v (j + 1))), (7, .int (v (j + 1))), (0, .ref (o 0 0)), (1, .ref (o 16 m1)), (2, .ref (o 16 m2)), (3, .int (nI (z 17 m2))), (4, .int (nI i))]) hx hb d_Nm_longestShared_100 hl (k := 7) rfl (nI_1 j) (by decide) rfl (fun ls hl => ?_)
                refine lv_goto (tgt := 36) hx hb d_Nm_longestShared_103 (by decide) ?_
                exact ih36  (j + 1) ((upd v (j + 1) ((maxV (v (j + 1)) (v j))))) (v (j + 1)) (by omega) (by omega) (by rw [show upt (lsS (chV (K 17 m1 i)) (K 17 m2)) (j + 1) (w, 0) = lsS (chV (K 17 m1 i)) (K 17 m2) (upt (lsS (chV (K 17 m1 i)) (K 17 m2)) j (w, 0)) j from rfl, ← hv]; simp [lsS, c73]) _ _ hI hS ls (lv_sub hl [3, 4, 5, 6, 7, 1, 0] rfl)
              · skip
                refine lv_iload hx hb d_Nm_longestShared_76 (lv_at hl 6 rfl) ?_
                refine lv_iconst (v := 1) hx hb d_Nm_longestShared_78 (by decide) ?_
                refine lv_iadd (x := wb) (y := 1) hx hb d_Nm_longestShared_79 ?_
                refine lv_goto (tgt := 95) hx hb d_Nm_longestShared_80 (by decide) ?_
                refine hx_iast hx hb hK hS jA_in1 0 (show va_at D vwCl (o 9 0, .inl (cs 0, (13, .inl v))) H from hI.at (k := 9) (n := 0) (show nmv z 9 0 from rfl)) rfl (show vp_in (nI (j + 1)) 13 from vp_in_nI (n := j + 1) (by omega) (by omega)) d_Nm_longestShared_95 (fun H locs hat hz ho hS => ?_)
                rw [show (nI (j + 1)).toNatClampNeg = j + 1 from nI_clamp (n := j + 1) (by omega)] at hat
                replace hI : nmP D cs N0 H o z (upK K 9 0 (upd v (j + 1) ((wb + 1)))) r := hI.put9 hat (fun q9 _ h9 => ho q9 h9)
                refine lv_iload hx hb d_Nm_longestShared_96 (lv_at hl 0 rfl) ?_
                refine lv_istore (lv' := [(5, .int (v (j + 1))), (7, .int (v (j + 1))), (0, .ref (o 0 0)), (1, .ref (o 16 m1)), (2, .ref (o 16 m2)), (3, .int (nI (z 17 m2))), (4, .int (nI i)), (6, .int (nI j))]) hx hb d_Nm_longestShared_98 hl (by decide) rfl (fun ls hl => ?_)
                refine lv_iinc (v := (nI (j + 1))) (lv' := [(6, .int (nI (j + 1))), (5, .int (v (j + 1))), (7, .int (v (j + 1))), (0, .ref (o 0 0)), (1, .ref (o 16 m1)), (2, .ref (o 16 m2)), (3, .int (nI (z 17 m2))), (4, .int (nI i))]) hx hb d_Nm_longestShared_100 hl (k := 7) rfl (nI_1 j) (by decide) rfl (fun ls hl => ?_)
                refine lv_goto (tgt := 36) hx hb d_Nm_longestShared_103 (by decide) ?_
                exact ih36  (j + 1) ((upd v (j + 1) ((wb + 1)))) (v (j + 1)) (by omega) (by omega) (by rw [show upt (lsS (chV (K 17 m1 i)) (K 17 m2)) (j + 1) (w, 0) = lsS (chV (K 17 m1 i)) (K 17 m2) (upt (lsS (chV (K 17 m1 i)) (K 17 m2)) j (w, 0)) j from rfl, ← hv]; simp [lsS, c73]) _ _ hI hS ls (lv_sub hl [3, 4, 5, 6, 7, 1, 0] rfl)
        exact loop36 ((z 17 m2 - 0) + 1) 0 w 0 (Nat.lt_succ_self _) (Nat.zero_le _) rfl _ _ hI hS ls (lv_sub hl [2, 3, 4, 5, 6, 1, 0] rfl)
  exact loop21 ((z 17 m1 - 0) + 1) 0 ((fun _ => 0)) (Nat.lt_succ_self _) (Nat.zero_le _) rfl _ _ hI hS ls (lv_sub hl [2, 3, 4, 1, 0] rfl)
def ptV (ka kb : Nat) (A B : Nat → Int32) : Int32 := if ka + kb = 0 then 0 else 20 * lsV ka kb A B / nI (ka + kb)
def y_Nm_points : MethodName := ⟨"NameMerges", "points", "(Ljava/lang/String;Ljava/lang/String;)I"⟩
abbrev w_Nm_points : List Cond := Cond.code y_Nm_points prog_1_method_34_code 4 (Option.some Jvm.ClassFile.FieldType.int) :: gw
theorem d_Nm_points_0 : decode prog_1_method_34_code 0 = .ok (.aload_n 1, 1) := by decide +kernel
theorem d_Nm_points_1 : decode prog_1_method_34_code 1 = .ok (.invokevirtual 276, 3) := by decide +kernel
theorem d_Nm_points_4 : decode prog_1_method_34_code 4 = .ok (.aload_n 2, 1) := by decide +kernel
theorem d_Nm_points_5 : decode prog_1_method_34_code 5 = .ok (.invokevirtual 276, 3) := by decide +kernel
theorem d_Nm_points_8 : decode prog_1_method_34_code 8 = .ok (.iadd, 1) := by decide +kernel
theorem d_Nm_points_9 : decode prog_1_method_34_code 9 = .ok (.istore_n 3, 1) := by decide +kernel
theorem d_Nm_points_10 : decode prog_1_method_34_code 10 = .ok (.iload_n 3, 1) := by decide +kernel
theorem d_Nm_points_11 : decode prog_1_method_34_code 11 = .ok (.ifCond .ne 7, 3) := by decide +kernel
theorem d_Nm_points_14 : decode prog_1_method_34_code 14 = .ok (.iconst 0, 1) := by decide +kernel
theorem d_Nm_points_15 : decode prog_1_method_34_code 15 = .ok (.goto 14, 3) := by decide +kernel
theorem d_Nm_points_18 : decode prog_1_method_34_code 18 = .ok (.bipush 20, 2) := by decide +kernel
theorem d_Nm_points_20 : decode prog_1_method_34_code 20 = .ok (.aload_n 0, 1) := by decide +kernel
theorem d_Nm_points_21 : decode prog_1_method_34_code 21 = .ok (.aload_n 1, 1) := by decide +kernel
theorem d_Nm_points_22 : decode prog_1_method_34_code 22 = .ok (.aload_n 2, 1) := by decide +kernel
theorem d_Nm_points_23 : decode prog_1_method_34_code 23 = .ok (.invokevirtual 279, 3) := by decide +kernel
theorem d_Nm_points_26 : decode prog_1_method_34_code 26 = .ok (.imul, 1) := by decide +kernel
theorem d_Nm_points_27 : decode prog_1_method_34_code 27 = .ok (.iload_n 3, 1) := by decide +kernel
theorem d_Nm_points_28 : decode prog_1_method_34_code 28 = .ok (.idiv, 1) := by decide +kernel
theorem d_Nm_points_29 : decode prog_1_method_34_code 29 = .ok (.ireturn, 1) := by decide +kernel
set_option maxHeartbeats 4000000 in
set_option maxRecDepth 100000 in
theorem c_Nm_points (l : Launch) (D : va_G) (cs : Nat → ClassId) (N0 : Nat) (H : Heap) (o z : Nat → Nat → Nat) (K : Nat → Nat → Nat → Int32) (r : Nat → Nat × Nat) (w0 : Nat → Int32) (N : Nat) (m1 m2 : Nat) (hI : nmP D cs N0 H o z (upK K 9 0 w0) r) (hN : N = H.size) (hm1 : nmv z 16 m1) (hm2 : nmv z 16 m2) : Met l y_Nm_points w_Nm_points ({ frames := 5, cells := 0, slots := 0, locals := 112 }) (hPre D cs N0 [.ref (o 0 0), .ref (o 16 m1), .ref (o 16 m2)] H) (hQi (fun r9 H' => r9 = ptV (z 17 m1) (z 17 m2) (K 17 m1) (K 17 m2) ∧ ∃ w : Nat → Int32, nmP D cs N0 H' o z (upK K 9 0 w) r) (jA [o 9 0] N)) 0 0 (jA [o 9 0] N) := by
  refine Met.ofW (cc := prog_1_method_34_code) (maxL := 4) (ret := (Option.some Jvm.ClassFile.FieldType.int)) (by decide) rfl ?_
  intro p e s m args below meth c s₁ B hml hv
  obtain ⟨rfl, rfl, hB⟩ := hv
  have hx := B.exec
  have hb := B.bytes
  have hr := B.returns
  have hts := atoms_spec (ws := w_Nm_points) B.pre
  have htg : ∀ w ∈ gw, w.before _ s = true := fun w h => hts w (List.mem_cons_of_mem _ h)
  have hown : s.vm.findClass "NameMerges" = some m.cls := findClass_of_methodNamed B.named
  have hlocks := B.notSynchronized
  have hAN : ∀ q, (jA [o 9 0] N) q → N0 ≤ q := jA_sub1 (hI.ge (k := 9) (n := 0) rfl) (fun q9 h9 => Nat.le_trans hB.2.1 (hN ▸ h9))
  have hK := hB.1
  obtain ⟨H, hH⟩ : ∃ z : Heap, z = s.heap := ⟨_, rfl⟩
  have hz0 : H.size = s.heap.size := by rw [hH]
  have hN0 := hB.2.1
  rw [← hH] at hI
  have hS : va_S (jA [o 9 0] N) s.heap H [] := by rw [hH]; exact va_S.rf
  have hl := lv_entry ([.ref (o 0 0), .ref (o 16 m1), .ref (o 16 m2)]) (n := 4) (Nat.le_of_ble_eq_true rfl)
  rw [lg_entry_eq, ← hH]
  generalize (lg_sl ([.ref (o 0 0), .ref (o 16 m1), .ref (o 16 m2)]) ++ List.replicate (4 - (lg_sl ([.ref (o 0 0), .ref (o 16 m1), .ref (o 16 m2)])).length) Slot.unset).toArray = ls at hl ⊢
  have hl : lv_has ls 4 [(0, .ref (o 0 0)), (1, .ref (o 16 m1)), (2, .ref (o 16 m2))] := hl
  obtain ⟨hb0, hb1, hb3, hb5, hb4, hb6, hb11, hb17⟩ := hI.2.2.1
  have h171 := hb17 m1
  have h172 := hb17 m2
  refine lv_aload_n hx hb d_Nm_points_0 rfl (lv_at hl 1 rfl) ?_
  refine h_purei (va_runV (As := []) (rest := []) ⟨hx, hb, hml, hown, htg⟩ (c_Sg_length l D cs N0 H (o 16 m1) (o 17 m1) (z 17 m1) (K 16 m1 0) (K 16 m1 1) (K 17 m1) (show va_at D vwCl (o 16 m1, .inr (8, [.ref (o 17 m1), .int 0, .int (K 16 m1 0), .int (K 16 m1 1)])) H from hI.at (k := 16) (n := m1) (show nmv z 16 m1 from hm1)) (show va_at D vwCl (o 17 m1, .inl (cs 2, (z 17 m1, .inl (K 17 m1)))) H from hI.at (k := 17) (n := m1) (show nmv z 17 m1 from hm1))) ⟨x_cwB 0 htg (gw_mem (i := 258) (by decide +kernel) rfl) (gw_mem (i := 33) (by decide +kernel) rfl) (gw_mem (i := 550) (by decide +kernel) rfl) (by decide +kernel) ⟨Nat.le_of_ble_eq_true rfl, Nat.le_of_ble_eq_true rfl⟩, htg _ (gw_mem (i := 256) (by decide +kernel) rfl), htg _ (gw_mem (i := 257) (by decide +kernel) rfl)⟩ ⟨hPre.blind, hx_recv hK (ci := 8) rfl (show va_at D vwCl (o 16 m1, .inr (8, [.ref (o 17 m1), .int 0, .int (K 16 m1 0), .int (K 16 m1 1)])) H from hI.at (k := 16) (n := m1) (show nmv z 16 m1 from hm1)), hPre.at hB hS hAN⟩ rfl rfl hl.1 rfl (lv_room (Nat.le_of_ble_eq_true rfl)) d_Nm_points_1 ⟨Nat.le_of_ble_eq_true rfl, Nat.le_of_ble_eq_true rfl⟩) hS (fun locs hS => ?_)
  refine lv_aload_n hx hb d_Nm_points_4 rfl (lv_at hl 2 rfl) ?_
  refine h_purei (va_runV (As := []) (rest := [.int (nI (z 17 m1))]) ⟨hx, hb, hml, hown, htg⟩ (c_Sg_length l D cs N0 H (o 16 m2) (o 17 m2) (z 17 m2) (K 16 m2 0) (K 16 m2 1) (K 17 m2) (show va_at D vwCl (o 16 m2, .inr (8, [.ref (o 17 m2), .int 0, .int (K 16 m2 0), .int (K 16 m2 1)])) H from hI.at (k := 16) (n := m2) (show nmv z 16 m2 from hm2)) (show va_at D vwCl (o 17 m2, .inl (cs 2, (z 17 m2, .inl (K 17 m2)))) H from hI.at (k := 17) (n := m2) (show nmv z 17 m2 from hm2))) ⟨x_cwB 0 htg (gw_mem (i := 258) (by decide +kernel) rfl) (gw_mem (i := 33) (by decide +kernel) rfl) (gw_mem (i := 550) (by decide +kernel) rfl) (by decide +kernel) ⟨Nat.le_of_ble_eq_true rfl, Nat.le_of_ble_eq_true rfl⟩, htg _ (gw_mem (i := 256) (by decide +kernel) rfl), htg _ (gw_mem (i := 257) (by decide +kernel) rfl)⟩ ⟨hPre.blind, hx_recv hK (ci := 8) rfl (show va_at D vwCl (o 16 m2, .inr (8, [.ref (o 17 m2), .int 0, .int (K 16 m2 0), .int (K 16 m2 1)])) H from hI.at (k := 16) (n := m2) (show nmv z 16 m2 from hm2)), hPre.at hB hS hAN⟩ rfl rfl hl.1 rfl (lv_room (Nat.le_of_ble_eq_true rfl)) d_Nm_points_5 ⟨Nat.le_of_ble_eq_true rfl, Nat.le_of_ble_eq_true rfl⟩) hS (fun locs hS => ?_)
  refine lv_iadd (x := (nI (z 17 m1))) (y := (nI (z 17 m2))) hx hb d_Nm_points_8 ?_
  refine lv_eqi (y := (nI (z 17 m1 + z 17 m2))) (nI_add (z 17 m1) (z 17 m2)) ?_
  refine lv_istore_n (lv' := [(3, .int (nI (z 17 m1 + z 17 m2))), (0, .ref (o 0 0)), (1, .ref (o 16 m1)), (2, .ref (o 16 m2))]) hx hb d_Nm_points_9 rfl hl (by decide) rfl (fun ls hl => ?_)
  refine lv_iload_n hx hb d_Nm_points_10 rfl (lv_at hl 0 rfl) ?_
  refine lv_if_ne (x := (nI (z 17 m1 + z 17 m2))) (tgt := 18) hx hb d_Nm_points_11 (by decide) (fun c11 => ?_) (fun c11 => ?_)
  · skip
    replace c11 : ¬ ((z 17 m1 + z 17 m2) = 0) := fun z9 => c11 ((nI_eq (a := (z 17 m1 + z 17 m2)) (b := 0) (by omega) (by omega)).mpr z9)
    refine lv_bipush (v := 20) hx hb d_Nm_points_18 (by decide) ?_
    refine lv_aload_n hx hb d_Nm_points_20 rfl (lv_at hl 1 rfl) ?_
    refine lv_aload_n hx hb d_Nm_points_21 rfl (lv_at hl 2 rfl) ?_
    refine lv_aload_n hx hb d_Nm_points_22 rfl (lv_at hl 3 rfl) ?_
    obtain ⟨nq1, hnq1⟩ : ∃ z : Nat, z = H.size := ⟨_, rfl⟩
    refine h_calli (va_runV (As := [.ref (o 16 m1), .ref (o 16 m2)]) (rest := [.int 20]) ⟨hx, hb, hml, hown, htg⟩ (c_Nm_longestShared l D cs N0 H o z K r w0 nq1 m1 m2 hI hnq1 (show nmv z 16 m1 from hm1) (show nmv z 16 m2 from hm2)) ⟨x_cwB 2 htg (gw_mem (i := 554) (by decide +kernel) rfl) (gw_mem (i := 30) (by decide +kernel) rfl) (gw_mem (i := 551) (by decide +kernel) rfl) (by decide +kernel) ⟨Nat.le_of_ble_eq_true rfl, Nat.le_of_ble_eq_true rfl⟩, htg _ (gw_mem (i := 553) (by decide +kernel) rfl), htg _ (gw_mem (i := 5) (by decide +kernel) rfl)⟩ ⟨hPre.blind, hx_recv hK (ci := 1) rfl (show va_at D vwCl (o 0 0, .inr (1, [.ref (o 1 0), .ref (o 3 0), .ref (o 5 0), .ref (o 7 0), .ref (o 8 0), .int (nI (z 0 0)), .int (K 0 0 0), .ref (o 9 0)])) H from hI.at (k := 0) (n := 0) (show nmv z 0 0 from rfl)), hPre.at hB hS hAN⟩ rfl rfl hl.1 rfl (lv_room (Nat.le_of_ble_eq_true rfl)) d_Nm_points_23 ⟨Nat.le_of_ble_eq_true rfl, Nat.le_of_ble_eq_true rfl⟩) hS (jA_sub1 jA_in1 (fun q9 h9 => Or.inr (show N ≤ q9 by omega))) (fun r23 H locs hp hz hk hS => ?_)
    obtain ⟨hr9, w2, hI⟩ := hp
    subst hr9
    refine lv_imul (x := 20) (y := (lsV (z 17 m1) (z 17 m2) (K 17 m1) (K 17 m2))) hx hb d_Nm_points_26 ?_
    refine lv_iload_n hx hb d_Nm_points_27 rfl (lv_at hl 0 rfl) ?_
    refine lv_idiv (x := (20 * (lsV (z 17 m1) (z 17 m2) (K 17 m1) (K 17 m2)))) (y := (nI (z 17 m1 + z 17 m2))) hx hb d_Nm_points_28 (nI_ne0 (n := z 17 m1 + z 17 m2) (by omega) (by omega)) ?_
    exact W.iret (v := ((20 * (lsV (z 17 m1) (z 17 m2) (K 17 m1) (K 17 m2))) / (nI (z 17 m1 + z 17 m2)))) hx hb hr (fun t ht hW => ⟨⟨((20 * (lsV (z 17 m1) (z 17 m2) (K 17 m1) (K 17 m2))) / (nI (z 17 m1 + z 17 m2))), H, rfl, ⟨(if_neg (by omega)).symm, _, hI⟩, ht⟩, hS.F ht⟩) hS.2.2 d_Nm_points_29
  · skip
    replace c11 : (z 17 m1 + z 17 m2) = 0 := (nI_eq (a := (z 17 m1 + z 17 m2)) (b := 0) (by omega) (by omega)).mp c11
    refine lv_iconst (v := 0) hx hb d_Nm_points_14 (by decide) ?_
    refine lv_goto (tgt := 29) hx hb d_Nm_points_15 (by decide) ?_
    exact W.iret (v := 0) hx hb hr (fun t ht hW => ⟨⟨0, H, rfl, ⟨(if_pos (by omega)).symm, _, hI⟩, ht⟩, hS.F ht⟩) hS.2.2 d_Nm_points_29
def mpS (z : Nat → Nat → Nat) (K : Nat → Nat → Nat → Int32) (n1 n2 i : Nat) (a : Int32) (j : Nat) : Int32 := maxV a (ptV (z 17 (n1 * 4 + i)) (z 17 (n2 * 4 + j)) (K 17 (n1 * 4 + i)) (K 17 (n2 * 4 + j)))
def mpR (z : Nat → Nat → Nat) (K : Nat → Nat → Nat → Int32) (n1 n2 : Nat) (a : Int32) (i : Nat) : Int32 := upt (mpS z K n1 n2 i) (z 11 n2) a
def mpV (z : Nat → Nat → Nat) (K : Nat → Nat → Nat → Int32) (n1 n2 : Nat) : Int32 := upt (mpR z K n1 n2) (z 11 n1) 0
def y_Nm_mostPoints : MethodName := ⟨"NameMerges", "mostPoints", "(LNameMerges$Name;LNameMerges$Name;)I"⟩
abbrev w_Nm_mostPoints : List Cond := Cond.code y_Nm_mostPoints prog_1_method_33_code 6 (Option.some Jvm.ClassFile.FieldType.int) :: gw
theorem d_Nm_mostPoints_0 : decode prog_1_method_33_code 0 = .ok (.iconst 0, 1) := by decide +kernel
theorem d_Nm_mostPoints_1 : decode prog_1_method_33_code 1 = .ok (.istore_n 3, 1) := by decide +kernel
theorem d_Nm_mostPoints_2 : decode prog_1_method_33_code 2 = .ok (.iconst 0, 1) := by decide +kernel
theorem d_Nm_mostPoints_3 : decode prog_1_method_33_code 3 = .ok (.istore 4, 2) := by decide +kernel
theorem d_Nm_mostPoints_5 : decode prog_1_method_33_code 5 = .ok (.iload 4, 2) := by decide +kernel
theorem d_Nm_mostPoints_7 : decode prog_1_method_33_code 7 = .ok (.aload_n 1, 1) := by decide +kernel
theorem d_Nm_mostPoints_8 : decode prog_1_method_33_code 8 = .ok (.getfield 86, 3) := by decide +kernel
theorem d_Nm_mostPoints_11 : decode prog_1_method_33_code 11 = .ok (.invokevirtual 67, 3) := by decide +kernel
theorem d_Nm_mostPoints_14 : decode prog_1_method_33_code 14 = .ok (.if_icmp .ge 69, 3) := by decide +kernel
theorem d_Nm_mostPoints_17 : decode prog_1_method_33_code 17 = .ok (.iconst 0, 1) := by decide +kernel
theorem d_Nm_mostPoints_18 : decode prog_1_method_33_code 18 = .ok (.istore 5, 2) := by decide +kernel
theorem d_Nm_mostPoints_20 : decode prog_1_method_33_code 20 = .ok (.iload 5, 2) := by decide +kernel
theorem d_Nm_mostPoints_22 : decode prog_1_method_33_code 22 = .ok (.aload_n 2, 1) := by decide +kernel
theorem d_Nm_mostPoints_23 : decode prog_1_method_33_code 23 = .ok (.getfield 86, 3) := by decide +kernel
theorem d_Nm_mostPoints_26 : decode prog_1_method_33_code 26 = .ok (.invokevirtual 67, 3) := by decide +kernel
theorem d_Nm_mostPoints_29 : decode prog_1_method_33_code 29 = .ok (.if_icmp .ge 48, 3) := by decide +kernel
theorem d_Nm_mostPoints_32 : decode prog_1_method_33_code 32 = .ok (.iload_n 3, 1) := by decide +kernel
theorem d_Nm_mostPoints_33 : decode prog_1_method_33_code 33 = .ok (.aload_n 0, 1) := by decide +kernel
theorem d_Nm_mostPoints_34 : decode prog_1_method_33_code 34 = .ok (.aload_n 1, 1) := by decide +kernel
theorem d_Nm_mostPoints_35 : decode prog_1_method_33_code 35 = .ok (.getfield 86, 3) := by decide +kernel
theorem d_Nm_mostPoints_38 : decode prog_1_method_33_code 38 = .ok (.iload 4, 2) := by decide +kernel
theorem d_Nm_mostPoints_40 : decode prog_1_method_33_code 40 = .ok (.invokevirtual 82, 3) := by decide +kernel
theorem d_Nm_mostPoints_43 : decode prog_1_method_33_code 43 = .ok (.checkcast 99, 3) := by decide +kernel
theorem d_Nm_mostPoints_46 : decode prog_1_method_33_code 46 = .ok (.getfield 268, 3) := by decide +kernel
theorem d_Nm_mostPoints_49 : decode prog_1_method_33_code 49 = .ok (.aload_n 2, 1) := by decide +kernel
theorem d_Nm_mostPoints_50 : decode prog_1_method_33_code 50 = .ok (.getfield 86, 3) := by decide +kernel
theorem d_Nm_mostPoints_53 : decode prog_1_method_33_code 53 = .ok (.iload 5, 2) := by decide +kernel
theorem d_Nm_mostPoints_55 : decode prog_1_method_33_code 55 = .ok (.invokevirtual 82, 3) := by decide +kernel
theorem d_Nm_mostPoints_58 : decode prog_1_method_33_code 58 = .ok (.checkcast 99, 3) := by decide +kernel
theorem d_Nm_mostPoints_61 : decode prog_1_method_33_code 61 = .ok (.getfield 268, 3) := by decide +kernel
theorem d_Nm_mostPoints_64 : decode prog_1_method_33_code 64 = .ok (.invokevirtual 272, 3) := by decide +kernel
theorem d_Nm_mostPoints_67 : decode prog_1_method_33_code 67 = .ok (.invokestatic 258, 3) := by decide +kernel
theorem d_Nm_mostPoints_70 : decode prog_1_method_33_code 70 = .ok (.istore_n 3, 1) := by decide +kernel
theorem d_Nm_mostPoints_71 : decode prog_1_method_33_code 71 = .ok (.iinc 5 1, 3) := by decide +kernel
theorem d_Nm_mostPoints_74 : decode prog_1_method_33_code 74 = .ok (.goto (-54), 3) := by decide +kernel
theorem d_Nm_mostPoints_77 : decode prog_1_method_33_code 77 = .ok (.iinc 4 1, 3) := by decide +kernel
theorem d_Nm_mostPoints_80 : decode prog_1_method_33_code 80 = .ok (.goto (-75), 3) := by decide +kernel
theorem d_Nm_mostPoints_83 : decode prog_1_method_33_code 83 = .ok (.iload_n 3, 1) := by decide +kernel
theorem d_Nm_mostPoints_84 : decode prog_1_method_33_code 84 = .ok (.ireturn, 1) := by decide +kernel
set_option maxHeartbeats 4000000 in
set_option maxRecDepth 100000 in
theorem c_Nm_mostPoints (l : Launch) (D : va_G) (cs : Nat → ClassId) (N0 : Nat) (H : Heap) (o z : Nat → Nat → Nat) (K : Nat → Nat → Nat → Int32) (r : Nat → Nat × Nat) (w0 : Nat → Int32) (N : Nat) (n1 n2 : Nat) (hI : nmP D cs N0 H o z (upK K 9 0 w0) r) (hN : N = H.size) (hn1 : n1 < z 3 0) (hn2 : n2 < z 3 0) : Met l y_Nm_mostPoints w_Nm_mostPoints ({ frames := 6, cells := 0, slots := 0, locals := 135 }) (hPre D cs N0 [.ref (o 0 0), .ref (o 10 n1), .ref (o 10 n2)] H) (hQi (fun r9 H' => r9 = mpV z K n1 n2 ∧ ∃ w : Nat → Int32, nmP D cs N0 H' o z (upK K 9 0 w) r) (jA [o 9 0] N)) 0 0 (jA [o 9 0] N) := by
  refine Met.ofW (cc := prog_1_method_33_code) (maxL := 6) (ret := (Option.some Jvm.ClassFile.FieldType.int)) (by decide) rfl ?_
  intro p e s m args below meth c s₁ B hml hv
  obtain ⟨rfl, rfl, hB⟩ := hv
  have hx := B.exec
  have hb := B.bytes
  have hr := B.returns
  have hts := atoms_spec (ws := w_Nm_mostPoints) B.pre
  have htg : ∀ w ∈ gw, w.before _ s = true := fun w h => hts w (List.mem_cons_of_mem _ h)
  have hown : s.vm.findClass "NameMerges" = some m.cls := findClass_of_methodNamed B.named
  have hlocks := B.notSynchronized
  have hAN : ∀ q, (jA [o 9 0] N) q → N0 ≤ q := jA_sub1 (hI.ge (k := 9) (n := 0) rfl) (fun q9 h9 => Nat.le_trans hB.2.1 (hN ▸ h9))
  have hK := hB.1
  obtain ⟨H, hH⟩ : ∃ z : Heap, z = s.heap := ⟨_, rfl⟩
  have hz0 : H.size = s.heap.size := by rw [hH]
  have hN0 := hB.2.1
  rw [← hH] at hI
  have hS : va_S (jA [o 9 0] N) s.heap H [] := by rw [hH]; exact va_S.rf
  have hl := lv_entry ([.ref (o 0 0), .ref (o 10 n1), .ref (o 10 n2)]) (n := 6) (Nat.le_of_ble_eq_true rfl)
  rw [lg_entry_eq, ← hH]
  generalize (lg_sl ([.ref (o 0 0), .ref (o 10 n1), .ref (o 10 n2)]) ++ List.replicate (6 - (lg_sl ([.ref (o 0 0), .ref (o 10 n1), .ref (o 10 n2)])).length) Slot.unset).toArray = ls at hl ⊢
  have hl : lv_has ls 6 [(0, .ref (o 0 0)), (1, .ref (o 10 n1)), (2, .ref (o 10 n2))] := hl
  obtain ⟨hb0, hb1, hb3, hb5, hb4, hb6, hb11, hb17⟩ := hI.2.2.1
  have h111 := hb11 n1
  have h112 := hb11 n2
  refine lv_iconst (v := 0) hx hb d_Nm_mostPoints_0 (by decide) ?_
  refine lv_istore_n (lv' := [(3, .int 0), (0, .ref (o 0 0)), (1, .ref (o 10 n1)), (2, .ref (o 10 n2))]) hx hb d_Nm_mostPoints_1 rfl hl (by decide) rfl (fun ls hl => ?_)
  refine lv_iconst (v := 0) hx hb d_Nm_mostPoints_2 (by decide) ?_
  refine lv_istore (lv' := [(4, .int 0), (3, .int 0), (0, .ref (o 0 0)), (1, .ref (o 10 n1)), (2, .ref (o 10 n2))]) hx hb d_Nm_mostPoints_3 hl (by decide) rfl (fun ls hl => ?_)
  have loop5 : ∀ (fuel : Nat) (i : Nat) (ms : Int32) (w : Nat → Int32), z 11 n1 - i < fuel → (i ≤ z 11 n1) → (ms = upt (mpR z K n1 n2) i 0) → ∀ (H : Heap) (locs : List Loc), nmP D cs N0 H o z (upK K 9 0 w) r → va_S (jA [o 9 0] N) s.heap H locs → ∀ (ls : Array Slot), lv_has ls 6 [(0, .ref (o 0 0)), (1, .ref (o 10 n1)), (2, .ref (o 10 n2)), (3, .int ms), (4, .int (nI i))] → W p l e (headSpec w_Nm_mostPoints ({ frames := 6, cells := 0, slots := 0, locals := 135 })).room s m ([.ref (o 0 0), .ref (o 10 n1), .ref (o 10 n2)] : List Value).toArray below meth c H locs 0 0 (MQ below (hQi (fun r9 H' => r9 = mpV z K n1 n2 ∧ ∃ w : Nat → Int32, nmP D cs N0 H' o z (upK K 9 0 w) r) (jA [o 9 0] N)) ([.ref (o 0 0), .ref (o 10 n1), .ref (o 10 n2)] : List Value).toArray s 0 0 (jA [o 9 0] N)) (F0 m 5 ls []) := by
    intro fuel5
    induction fuel5 with
    | zero => intro i ms w hn; exact absurd hn (Nat.not_lt_zero _)
    | succ fuel5 ih5 =>
      intro i ms w hn5 hi hm H locs hI hS ls hl
      have hz9 := hS.1
      refine lv_iload hx hb d_Nm_mostPoints_5 (lv_at hl 4 rfl) ?_
      refine lv_aload_n hx hb d_Nm_mostPoints_7 rfl (lv_at hl 1 rfl) ?_
      refine hx_get (ref := "NameMerges$Name") (v := .ref (o 11 n1)) hx hb htg iNa hown hK (show va_at D vwCl (o 10 n1, .inr (2, [.ref (o 11 n1), .ref (o 13 n1), va_rf (if z 14 n1 = 0 then none else some (o 14 n1)), .int (K 10 n1 0), .int (K 10 n1 1), .int (K 10 n1 2), .int (K 10 n1 3)])) H from hI.at (k := 10) (n := n1) (show nmv z 10 n1 from (show n1 < z 3 0 by omega))) rfl 0 (by decide) (htg _ (gw_mem (i := 653) (by decide +kernel) rfl)) (fun _ h9 => h9) rfl d_Nm_mostPoints_8 ?_
      refine h_purei (va_runV (As := []) (rest := [.int (nI i)]) ⟨hx, hb, hml, hown, htg⟩ (c_AL_size l D cs N0 H (o 11 n1) (nmL cs (z 11 n1) (o 12 n1)) (z 11 n1) (K 11 n1 0) (show va_at D vwCl (o 11 n1, .inr (6, [.ref (nmL cs (z 11 n1) (o 12 n1)), .int (nI (z 11 n1)), .int (K 11 n1 0)])) H from hI.at (k := 11) (n := n1) (show nmv z 11 n1 from (show n1 < z 3 0 by omega)))) ⟨x_cwB 0 htg (gw_mem (i := 503) (by decide +kernel) rfl) (gw_mem (i := 37) (by decide +kernel) rfl) (gw_mem (i := 500) (by decide +kernel) rfl) (by decide +kernel) ⟨Nat.le_of_ble_eq_true rfl, Nat.le_of_ble_eq_true rfl⟩, htg _ (gw_mem (i := 501) (by decide +kernel) rfl), htg _ (gw_mem (i := 502) (by decide +kernel) rfl)⟩ ⟨hPre.blind, hx_recv hK (ci := 6) rfl (show va_at D vwCl (o 11 n1, .inr (6, [.ref (nmL cs (z 11 n1) (o 12 n1)), .int (nI (z 11 n1)), .int (K 11 n1 0)])) H from hI.at (k := 11) (n := n1) (show nmv z 11 n1 from (show n1 < z 3 0 by omega))), hPre.at hB hS hAN⟩ rfl rfl hl.1 rfl (lv_room (Nat.le_of_ble_eq_true rfl)) d_Nm_mostPoints_11 ⟨Nat.le_of_ble_eq_true rfl, Nat.le_of_ble_eq_true rfl⟩) hS (fun locs hS => ?_)
      refine lv_icmp_ge (x := (nI i)) (y := (nI (z 11 n1))) (tgt := 83) hx hb d_Nm_mostPoints_14 (by decide) (fun c14 => ?_) (fun c14 => ?_)
      · skip
        replace c14 : (z 11 n1) ≤ i := (nI_leI (a := (z 11 n1)) (b := i) (by omega) (by omega)).mp c14
        refine lv_iload_n hx hb d_Nm_mostPoints_83 rfl (lv_at hl 3 rfl) ?_
        exact W.iret (v := ms) hx hb hr (fun t ht hW => ⟨⟨ms, H, rfl, ⟨by rw [hm, show i = z 11 n1 by omega]; rfl, _, hI⟩, ht⟩, hS.F ht⟩) hS.2.2 d_Nm_mostPoints_84
      · skip
        replace c14 : ¬ ((z 11 n1) ≤ i) := fun z9 => c14 ((nI_leI (a := (z 11 n1)) (b := i) (by omega) (by omega)).mpr z9)
        refine lv_iconst (v := 0) hx hb d_Nm_mostPoints_17 (by decide) ?_
        refine lv_istore (lv' := [(5, .int 0), (0, .ref (o 0 0)), (1, .ref (o 10 n1)), (2, .ref (o 10 n2)), (3, .int ms), (4, .int (nI i))]) hx hb d_Nm_mostPoints_18 hl (by decide) rfl (fun ls hl => ?_)
        have loop20 : ∀ (fuel : Nat) (j : Nat) (mt : Int32) (w2 : Nat → Int32), z 11 n2 - j < fuel → (j ≤ z 11 n2) → (mt = upt (mpS z K n1 n2 i) j ms) → ∀ (H : Heap) (locs : List Loc), nmP D cs N0 H o z (upK K 9 0 w2) r → va_S (jA [o 9 0] N) s.heap H locs → ∀ (ls : Array Slot), lv_has ls 6 [(0, .ref (o 0 0)), (1, .ref (o 10 n1)), (2, .ref (o 10 n2)), (3, .int mt), (4, .int (nI i)), (5, .int (nI j))] → W p l e (headSpec w_Nm_mostPoints ({ frames := 6, cells := 0, slots := 0, locals := 135 })).room s m ([.ref (o 0 0), .ref (o 10 n1), .ref (o 10 n2)] : List Value).toArray below meth c H locs 0 0 (MQ below (hQi (fun r9 H' => r9 = mpV z K n1 n2 ∧ ∃ w : Nat → Int32, nmP D cs N0 H' o z (upK K 9 0 w) r) (jA [o 9 0] N)) ([.ref (o 0 0), .ref (o 10 n1), .ref (o 10 n2)] : List Value).toArray s 0 0 (jA [o 9 0] N)) (F0 m 20 ls []) := by
          intro fuel20
          induction fuel20 with
          | zero => intro j mt w2 hn; exact absurd hn (Nat.not_lt_zero _)
          | succ fuel20 ih20 =>
            intro j mt w2 hn20 hj hmt H locs hI hS ls hl
            have hz9 := hS.1
            refine lv_iload hx hb d_Nm_mostPoints_20 (lv_at hl 5 rfl) ?_
            refine lv_aload_n hx hb d_Nm_mostPoints_22 rfl (lv_at hl 2 rfl) ?_
            refine hx_get (ref := "NameMerges$Name") (v := .ref (o 11 n2)) hx hb htg iNa hown hK (show va_at D vwCl (o 10 n2, .inr (2, [.ref (o 11 n2), .ref (o 13 n2), va_rf (if z 14 n2 = 0 then none else some (o 14 n2)), .int (K 10 n2 0), .int (K 10 n2 1), .int (K 10 n2 2), .int (K 10 n2 3)])) H from hI.at (k := 10) (n := n2) (show nmv z 10 n2 from (show n2 < z 3 0 by omega))) rfl 0 (by decide) (htg _ (gw_mem (i := 653) (by decide +kernel) rfl)) (fun _ h9 => h9) rfl d_Nm_mostPoints_23 ?_
            refine h_purei (va_runV (As := []) (rest := [.int (nI j)]) ⟨hx, hb, hml, hown, htg⟩ (c_AL_size l D cs N0 H (o 11 n2) (nmL cs (z 11 n2) (o 12 n2)) (z 11 n2) (K 11 n2 0) (show va_at D vwCl (o 11 n2, .inr (6, [.ref (nmL cs (z 11 n2) (o 12 n2)), .int (nI (z 11 n2)), .int (K 11 n2 0)])) H from hI.at (k := 11) (n := n2) (show nmv z 11 n2 from (show n2 < z 3 0 by omega)))) ⟨x_cwB 0 htg (gw_mem (i := 503) (by decide +kernel) rfl) (gw_mem (i := 37) (by decide +kernel) rfl) (gw_mem (i := 500) (by decide +kernel) rfl) (by decide +kernel) ⟨Nat.le_of_ble_eq_true rfl, Nat.le_of_ble_eq_true rfl⟩, htg _ (gw_mem (i := 501) (by decide +kernel) rfl), htg _ (gw_mem (i := 502) (by decide +kernel) rfl)⟩ ⟨hPre.blind, hx_recv hK (ci := 6) rfl (show va_at D vwCl (o 11 n2, .inr (6, [.ref (nmL cs (z 11 n2) (o 12 n2)), .int (nI (z 11 n2)), .int (K 11 n2 0)])) H from hI.at (k := 11) (n := n2) (show nmv z 11 n2 from (show n2 < z 3 0 by omega))), hPre.at hB hS hAN⟩ rfl rfl hl.1 rfl (lv_room (Nat.le_of_ble_eq_true rfl)) d_Nm_mostPoints_26 ⟨Nat.le_of_ble_eq_true rfl, Nat.le_of_ble_eq_true rfl⟩) hS (fun locs hS => ?_)
            refine lv_icmp_ge (x := (nI j)) (y := (nI (z 11 n2))) (tgt := 77) hx hb d_Nm_mostPoints_29 (by decide) (fun c29 => ?_) (fun c29 => ?_)
            · skip
              replace c29 : (z 11 n2) ≤ j := (nI_leI (a := (z 11 n2)) (b := j) (by omega) (by omega)).mp c29
              refine lv_iinc (v := (nI (i + 1))) (lv' := [(4, .int (nI (i + 1))), (0, .ref (o 0 0)), (1, .ref (o 10 n1)), (2, .ref (o 10 n2)), (3, .int mt), (5, .int (nI j))]) hx hb d_Nm_mostPoints_77 hl (k := 4) rfl (nI_1 i) (by decide) rfl (fun ls hl => ?_)
              refine lv_goto (tgt := 5) hx hb d_Nm_mostPoints_80 (by decide) ?_
              exact ih5  (i + 1) mt w2 (by omega) (by omega) (by rw [show upt (mpR z K n1 n2) (i + 1) 0 = mpR z K n1 n2 (upt (mpR z K n1 n2) i 0) i from rfl, ← hm, hmt, show j = z 11 n2 by omega]; rfl) _ _ hI hS ls (lv_sub hl [1, 2, 3, 4, 0] rfl)
            · skip
              replace c29 : ¬ ((z 11 n2) ≤ j) := fun z9 => c29 ((nI_leI (a := (z 11 n2)) (b := j) (by omega) (by omega)).mpr z9)
              refine lv_iload_n hx hb d_Nm_mostPoints_32 rfl (lv_at hl 3 rfl) ?_
              refine lv_aload_n hx hb d_Nm_mostPoints_33 rfl (lv_at hl 0 rfl) ?_
              refine lv_aload_n hx hb d_Nm_mostPoints_34 rfl (lv_at hl 1 rfl) ?_
              refine hx_get (ref := "NameMerges$Name") (v := .ref (o 11 n1)) hx hb htg iNa hown hK (show va_at D vwCl (o 10 n1, .inr (2, [.ref (o 11 n1), .ref (o 13 n1), va_rf (if z 14 n1 = 0 then none else some (o 14 n1)), .int (K 10 n1 0), .int (K 10 n1 1), .int (K 10 n1 2), .int (K 10 n1 3)])) H from hI.at (k := 10) (n := n1) (show nmv z 10 n1 from (show n1 < z 3 0 by omega))) rfl 0 (by decide) (htg _ (gw_mem (i := 653) (by decide +kernel) rfl)) (fun _ h9 => h9) rfl d_Nm_mostPoints_35 ?_
              refine lv_iload hx hb d_Nm_mostPoints_38 (lv_at hl 4 rfl) ?_
              refine h_pureq (va_runV (As := [.int (nI i)]) (rest := [.ref (o 0 0), .int mt]) ⟨hx, hb, hml, hown, htg⟩ (c_vars_get l D cs N0 H o z (upK K 9 0 w2) r n1 i hI (show n1 < z 3 0 by omega) (show i < z 11 n1 by omega)) ⟨x_cwB 1 htg (gw_mem (i := 512) (by decide +kernel) rfl) (gw_mem (i := 37) (by decide +kernel) rfl) (gw_mem (i := 509) (by decide +kernel) rfl) (by decide +kernel) ⟨Nat.le_of_ble_eq_true rfl, Nat.le_of_ble_eq_true rfl⟩, htg _ (gw_mem (i := 510) (by decide +kernel) rfl), htg _ (gw_mem (i := 511) (by decide +kernel) rfl)⟩ ⟨hPre.blind, hx_recv hK (ci := 6) rfl (show va_at D vwCl (o 11 n1, .inr (6, [.ref (nmL cs (z 11 n1) (o 12 n1)), .int (nI (z 11 n1)), .int (K 11 n1 0)])) H from hI.at (k := 11) (n := n1) (show nmv z 11 n1 from (show n1 < z 3 0 by omega))), hPre.at hB hS hAN⟩ rfl rfl hl.1 rfl (lv_room (Nat.le_of_ble_eq_true rfl)) d_Nm_mostPoints_40 ⟨Nat.le_of_ble_eq_true rfl, Nat.le_of_ble_eq_true rfl⟩) hS (fun locs hS => ?_)
              refine lv_eqv (y := .ref (o 15 (n1 * 4 + i))) rfl ?_
              refine va_castS hx hb hown (htg _ (gw_mem (i := 545) (by decide +kernel) rfl)) (x_at hK (ci := 3) rfl) (hx_recv hK (ci := 3) rfl (show va_at D vwCl (o 15 (n1 * 4 + i), .inr (3, [.ref (o 16 (n1 * 4 + i)), .ref (o 18 (n1 * 4 + i))])) H from hI.at (k := 15) (n := n1 * 4 + i) (nmv_15 (n := n1) (j := i) (by omega) (by omega) (hI.2.2.1.2.2.2.2.2.2.1 n1)))) d_Nm_mostPoints_43 ?_
              refine hx_get (ref := "NameMerges$Variant") (v := .ref (o 16 (n1 * 4 + i))) hx hb htg iVa hown hK (show va_at D vwCl (o 15 (n1 * 4 + i), .inr (3, [.ref (o 16 (n1 * 4 + i)), .ref (o 18 (n1 * 4 + i))])) H from hI.at (k := 15) (n := n1 * 4 + i) (nmv_15 (n := n1) (j := i) (by omega) (by omega) (hI.2.2.1.2.2.2.2.2.2.1 n1))) rfl 0 (by decide) (htg _ (gw_mem (i := 785) (by decide +kernel) rfl)) (fun _ h9 => h9) rfl d_Nm_mostPoints_46 ?_
              refine lv_aload_n hx hb d_Nm_mostPoints_49 rfl (lv_at hl 2 rfl) ?_
              refine hx_get (ref := "NameMerges$Name") (v := .ref (o 11 n2)) hx hb htg iNa hown hK (show va_at D vwCl (o 10 n2, .inr (2, [.ref (o 11 n2), .ref (o 13 n2), va_rf (if z 14 n2 = 0 then none else some (o 14 n2)), .int (K 10 n2 0), .int (K 10 n2 1), .int (K 10 n2 2), .int (K 10 n2 3)])) H from hI.at (k := 10) (n := n2) (show nmv z 10 n2 from (show n2 < z 3 0 by omega))) rfl 0 (by decide) (htg _ (gw_mem (i := 653) (by decide +kernel) rfl)) (fun _ h9 => h9) rfl d_Nm_mostPoints_50 ?_
              refine lv_iload hx hb d_Nm_mostPoints_53 (lv_at hl 5 rfl) ?_
              refine h_pureq (va_runV (As := [.int (nI j)]) (rest := [.ref (o 16 (n1 * 4 + i)), .ref (o 0 0), .int mt]) ⟨hx, hb, hml, hown, htg⟩ (c_vars_get l D cs N0 H o z (upK K 9 0 w2) r n2 j hI (show n2 < z 3 0 by omega) (show j < z 11 n2 by omega)) ⟨x_cwB 1 htg (gw_mem (i := 512) (by decide +kernel) rfl) (gw_mem (i := 37) (by decide +kernel) rfl) (gw_mem (i := 509) (by decide +kernel) rfl) (by decide +kernel) ⟨Nat.le_of_ble_eq_true rfl, Nat.le_of_ble_eq_true rfl⟩, htg _ (gw_mem (i := 510) (by decide +kernel) rfl), htg _ (gw_mem (i := 511) (by decide +kernel) rfl)⟩ ⟨hPre.blind, hx_recv hK (ci := 6) rfl (show va_at D vwCl (o 11 n2, .inr (6, [.ref (nmL cs (z 11 n2) (o 12 n2)), .int (nI (z 11 n2)), .int (K 11 n2 0)])) H from hI.at (k := 11) (n := n2) (show nmv z 11 n2 from (show n2 < z 3 0 by omega))), hPre.at hB hS hAN⟩ rfl rfl hl.1 rfl (lv_room (Nat.le_of_ble_eq_true rfl)) d_Nm_mostPoints_55 ⟨Nat.le_of_ble_eq_true rfl, Nat.le_of_ble_eq_true rfl⟩) hS (fun locs hS => ?_)
              refine lv_eqv (y := .ref (o 15 (n2 * 4 + j))) rfl ?_
              refine va_castS hx hb hown (htg _ (gw_mem (i := 545) (by decide +kernel) rfl)) (x_at hK (ci := 3) rfl) (hx_recv hK (ci := 3) rfl (show va_at D vwCl (o 15 (n2 * 4 + j), .inr (3, [.ref (o 16 (n2 * 4 + j)), .ref (o 18 (n2 * 4 + j))])) H from hI.at (k := 15) (n := n2 * 4 + j) (nmv_15 (n := n2) (j := j) (by omega) (by omega) (hI.2.2.1.2.2.2.2.2.2.1 n2)))) d_Nm_mostPoints_58 ?_
              refine hx_get (ref := "NameMerges$Variant") (v := .ref (o 16 (n2 * 4 + j))) hx hb htg iVa hown hK (show va_at D vwCl (o 15 (n2 * 4 + j), .inr (3, [.ref (o 16 (n2 * 4 + j)), .ref (o 18 (n2 * 4 + j))])) H from hI.at (k := 15) (n := n2 * 4 + j) (nmv_15 (n := n2) (j := j) (by omega) (by omega) (hI.2.2.1.2.2.2.2.2.2.1 n2))) rfl 0 (by decide) (htg _ (gw_mem (i := 785) (by decide +kernel) rfl)) (fun _ h9 => h9) rfl d_Nm_mostPoints_61 ?_
              obtain ⟨nq1, hnq1⟩ : ∃ z : Nat, z = H.size := ⟨_, rfl⟩
              refine h_calli (va_runV (As := [.ref (o 16 (n1 * 4 + i)), .ref (o 16 (n2 * 4 + j))]) (rest := [.int mt]) ⟨hx, hb, hml, hown, htg⟩ (c_Nm_points l D cs N0 H o z K r w2 nq1 (n1 * 4 + i) (n2 * 4 + j) hI hnq1 (nmv_16 (n := n1) (j := i) (by omega) (by omega) (hI.2.2.1.2.2.2.2.2.2.1 n1)) (nmv_16 (n := n2) (j := j) (by omega) (by omega) (hI.2.2.1.2.2.2.2.2.2.1 n2))) ⟨x_cwB 2 htg (gw_mem (i := 549) (by decide +kernel) rfl) (gw_mem (i := 30) (by decide +kernel) rfl) (gw_mem (i := 546) (by decide +kernel) rfl) (by decide +kernel) ⟨Nat.le_of_ble_eq_true rfl, Nat.le_of_ble_eq_true rfl⟩, htg _ (gw_mem (i := 548) (by decide +kernel) rfl), htg _ (gw_mem (i := 4) (by decide +kernel) rfl)⟩ ⟨hPre.blind, hx_recv hK (ci := 1) rfl (show va_at D vwCl (o 0 0, .inr (1, [.ref (o 1 0), .ref (o 3 0), .ref (o 5 0), .ref (o 7 0), .ref (o 8 0), .int (nI (z 0 0)), .int (K 0 0 0), .ref (o 9 0)])) H from hI.at (k := 0) (n := 0) (show nmv z 0 0 from rfl)), hPre.at hB hS hAN⟩ rfl rfl hl.1 rfl (lv_room (Nat.le_of_ble_eq_true rfl)) d_Nm_mostPoints_64 ⟨Nat.le_of_ble_eq_true rfl, Nat.le_of_ble_eq_true rfl⟩) hS (jA_sub1 jA_in1 (fun q9 h9 => Or.inr (show N ≤ q9 by omega))) (fun r64 H locs hp hz hk hS => ?_)
              obtain ⟨hr9, w2, hI⟩ := hp
              subst hr9
              refine va_mmax (x := mt) (y := (ptV (z 17 (n1 * 4 + i)) (z 17 (n2 * 4 + j)) (K 17 (n1 * 4 + i)) (K 17 (n2 * 4 + j)))) hx hb (hml.trans hl.1.symm) hown (htg _ (gw_mem (i := 535) (by decide +kernel) rfl)) (htg _ (gw_mem (i := 201) (by decide +kernel) rfl)) (htg _ (gw_mem (i := 45) (by decide +kernel) rfl)) (htg _ (gw_mem (w := Cond.code Lib.Math.max.name Lib.Math.max.code 2 (some .int)) (i := 202) (by decide +kernel) rfl)) (by exact Nat.le_of_ble_eq_true rfl) (by exact Nat.le_of_ble_eq_true rfl) (by exact Nat.le_of_ble_eq_true rfl) (by exact Nat.le_of_ble_eq_true rfl) d_Nm_mostPoints_67 ?_
              refine lv_eqi (y := (maxV mt (ptV (z 17 (n1 * 4 + i)) (z 17 (n2 * 4 + j)) (K 17 (n1 * 4 + i)) (K 17 (n2 * 4 + j))))) rfl ?_
              refine lv_istore_n (lv' := [(3, .int (maxV mt (ptV (z 17 (n1 * 4 + i)) (z 17 (n2 * 4 + j)) (K 17 (n1 * 4 + i)) (K 17 (n2 * 4 + j))))), (0, .ref (o 0 0)), (1, .ref (o 10 n1)), (2, .ref (o 10 n2)), (4, .int (nI i)), (5, .int (nI j))]) hx hb d_Nm_mostPoints_70 rfl hl (by decide) rfl (fun ls hl => ?_)
              refine lv_iinc (v := (nI (j + 1))) (lv' := [(5, .int (nI (j + 1))), (3, .int (maxV mt (ptV (z 17 (n1 * 4 + i)) (z 17 (n2 * 4 + j)) (K 17 (n1 * 4 + i)) (K 17 (n2 * 4 + j))))), (0, .ref (o 0 0)), (1, .ref (o 10 n1)), (2, .ref (o 10 n2)), (4, .int (nI i))]) hx hb d_Nm_mostPoints_71 hl (k := 5) rfl (nI_1 j) (by decide) rfl (fun ls hl => ?_)
              refine lv_goto (tgt := 20) hx hb d_Nm_mostPoints_74 (by decide) ?_
              exact ih20  (j + 1) (maxV mt (ptV (z 17 (n1 * 4 + i)) (z 17 (n2 * 4 + j)) (K 17 (n1 * 4 + i)) (K 17 (n2 * 4 + j)))) w2 (by omega) (by omega) (by rw [show upt (mpS z K n1 n2 i) (j + 1) ms = mpS z K n1 n2 i (upt (mpS z K n1 n2 i) j ms) j from rfl, ← hmt]; rfl) _ _ hI hS ls (lv_sub hl [2, 3, 4, 1, 5, 0] rfl)
        exact loop20 ((z 11 n2 - 0) + 1) 0 ms w (Nat.lt_succ_self _) (Nat.zero_le _) rfl _ _ hI hS ls (lv_sub hl [1, 2, 3, 4, 5, 0] rfl)
  exact loop5 ((z 11 n1 - 0) + 1) 0 0 w0 (Nat.lt_succ_self _) (Nat.zero_le _) rfl _ _ hI hS ls (lv_sub hl [2, 3, 4, 1, 0] rfl)
def lkV (z : Nat → Nat → Nat) (K : Nat → Nat → Nat → Int32) (n1 n2 : Nat) : Int32 := (if K 10 n1 0 &&& K 10 n2 0 = 0 then mpV z K n1 n2 else mpV z K n1 n2 + 2) + (if z 14 n1 = 0 ∨ z 14 n2 = 0 then 0 else if meetB (K 14 n1 0) (K 14 n1 1) (K 14 n2 0) (K 14 n2 1) = true then 3 else -5)
def y_Nm_likeness : MethodName := ⟨"NameMerges", "likeness", "(LNameMerges$Name;LNameMerges$Name;)I"⟩
abbrev w_Nm_likeness : List Cond := Cond.code y_Nm_likeness prog_1_method_32_code 6 (Option.some Jvm.ClassFile.FieldType.int) :: gw
theorem d_Nm_likeness_0 : decode prog_1_method_32_code 0 = .ok (.aload_n 0, 1) := by decide +kernel
theorem d_Nm_likeness_1 : decode prog_1_method_32_code 1 = .ok (.aload_n 1, 1) := by decide +kernel
theorem d_Nm_likeness_2 : decode prog_1_method_32_code 2 = .ok (.aload_n 2, 1) := by decide +kernel
theorem d_Nm_likeness_3 : decode prog_1_method_32_code 3 = .ok (.invokevirtual 261, 3) := by decide +kernel
theorem d_Nm_likeness_6 : decode prog_1_method_32_code 6 = .ok (.istore_n 3, 1) := by decide +kernel
theorem d_Nm_likeness_7 : decode prog_1_method_32_code 7 = .ok (.aload_n 1, 1) := by decide +kernel
theorem d_Nm_likeness_8 : decode prog_1_method_32_code 8 = .ok (.getfield 112, 3) := by decide +kernel
theorem d_Nm_likeness_11 : decode prog_1_method_32_code 11 = .ok (.aload_n 2, 1) := by decide +kernel
theorem d_Nm_likeness_12 : decode prog_1_method_32_code 12 = .ok (.getfield 112, 3) := by decide +kernel
theorem d_Nm_likeness_15 : decode prog_1_method_32_code 15 = .ok (.iand, 1) := by decide +kernel
theorem d_Nm_likeness_16 : decode prog_1_method_32_code 16 = .ok (.ifCond .eq 6, 3) := by decide +kernel
theorem d_Nm_likeness_19 : decode prog_1_method_32_code 19 = .ok (.iinc 3 2, 3) := by decide +kernel
theorem d_Nm_likeness_22 : decode prog_1_method_32_code 22 = .ok (.aload_n 1, 1) := by decide +kernel
theorem d_Nm_likeness_23 : decode prog_1_method_32_code 23 = .ok (.getfield 122, 3) := by decide +kernel
theorem d_Nm_likeness_26 : decode prog_1_method_32_code 26 = .ok (.astore 4, 2) := by decide +kernel
theorem d_Nm_likeness_28 : decode prog_1_method_32_code 28 = .ok (.aload_n 2, 1) := by decide +kernel
theorem d_Nm_likeness_29 : decode prog_1_method_32_code 29 = .ok (.getfield 122, 3) := by decide +kernel
theorem d_Nm_likeness_32 : decode prog_1_method_32_code 32 = .ok (.astore 5, 2) := by decide +kernel
theorem d_Nm_likeness_34 : decode prog_1_method_32_code 34 = .ok (.aload 4, 2) := by decide +kernel
theorem d_Nm_likeness_36 : decode prog_1_method_32_code 36 = .ok (.ifnull 27, 3) := by decide +kernel
theorem d_Nm_likeness_39 : decode prog_1_method_32_code 39 = .ok (.aload 5, 2) := by decide +kernel
theorem d_Nm_likeness_41 : decode prog_1_method_32_code 41 = .ok (.ifnull 22, 3) := by decide +kernel
theorem d_Nm_likeness_44 : decode prog_1_method_32_code 44 = .ok (.iload_n 3, 1) := by decide +kernel
theorem d_Nm_likeness_45 : decode prog_1_method_32_code 45 = .ok (.aload 4, 2) := by decide +kernel
theorem d_Nm_likeness_47 : decode prog_1_method_32_code 47 = .ok (.aload 5, 2) := by decide +kernel
theorem d_Nm_likeness_49 : decode prog_1_method_32_code 49 = .ok (.invokevirtual 264, 3) := by decide +kernel
theorem d_Nm_likeness_52 : decode prog_1_method_32_code 52 = .ok (.ifCond .eq 7, 3) := by decide +kernel
theorem d_Nm_likeness_55 : decode prog_1_method_32_code 55 = .ok (.iconst 3, 1) := by decide +kernel
theorem d_Nm_likeness_56 : decode prog_1_method_32_code 56 = .ok (.goto 5, 3) := by decide +kernel
theorem d_Nm_likeness_59 : decode prog_1_method_32_code 59 = .ok (.bipush (-5), 2) := by decide +kernel
theorem d_Nm_likeness_61 : decode prog_1_method_32_code 61 = .ok (.iadd, 1) := by decide +kernel
theorem d_Nm_likeness_62 : decode prog_1_method_32_code 62 = .ok (.istore_n 3, 1) := by decide +kernel
theorem d_Nm_likeness_63 : decode prog_1_method_32_code 63 = .ok (.iload_n 3, 1) := by decide +kernel
theorem d_Nm_likeness_64 : decode prog_1_method_32_code 64 = .ok (.ireturn, 1) := by decide +kernel
set_option maxHeartbeats 4000000 in
set_option maxRecDepth 100000 in
theorem c_Nm_likeness (l : Launch) (D : va_G) (cs : Nat → ClassId) (N0 : Nat) (H : Heap) (o z : Nat → Nat → Nat) (K : Nat → Nat → Nat → Int32) (r : Nat → Nat × Nat) (w0 : Nat → Int32) (N : Nat) (n1 n2 : Nat) (hI : nmP D cs N0 H o z (upK K 9 0 w0) r) (hN : N = H.size) (hn1 : n1 < z 3 0) (hn2 : n2 < z 3 0) : Met l y_Nm_likeness w_Nm_likeness ({ frames := 7, cells := 0, slots := 0, locals := 160 }) (hPre D cs N0 [.ref (o 0 0), .ref (o 10 n1), .ref (o 10 n2)] H) (hQi (fun r9 H' => r9 = lkV z K n1 n2 ∧ ∃ w : Nat → Int32, nmP D cs N0 H' o z (upK K 9 0 w) r) (jA [o 9 0] N)) 0 0 (jA [o 9 0] N) := by
  refine Met.ofW (cc := prog_1_method_32_code) (maxL := 6) (ret := (Option.some Jvm.ClassFile.FieldType.int)) (by decide) rfl ?_
  intro p e s m args below meth c s₁ B hml hv
  obtain ⟨rfl, rfl, hB⟩ := hv
  have hx := B.exec
  have hb := B.bytes
  have hr := B.returns
  have hts := atoms_spec (ws := w_Nm_likeness) B.pre
  have htg : ∀ w ∈ gw, w.before _ s = true := fun w h => hts w (List.mem_cons_of_mem _ h)
  have hown : s.vm.findClass "NameMerges" = some m.cls := findClass_of_methodNamed B.named
  have hlocks := B.notSynchronized
  have hAN : ∀ q, (jA [o 9 0] N) q → N0 ≤ q := jA_sub1 (hI.ge (k := 9) (n := 0) rfl) (fun q9 h9 => Nat.le_trans hB.2.1 (hN ▸ h9))
  have hK := hB.1
  obtain ⟨H, hH⟩ : ∃ z : Heap, z = s.heap := ⟨_, rfl⟩
  have hz0 : H.size = s.heap.size := by rw [hH]
  have hN0 := hB.2.1
  rw [← hH] at hI
  have hS : va_S (jA [o 9 0] N) s.heap H [] := by rw [hH]; exact va_S.rf
  have hl := lv_entry ([.ref (o 0 0), .ref (o 10 n1), .ref (o 10 n2)]) (n := 6) (Nat.le_of_ble_eq_true rfl)
  rw [lg_entry_eq, ← hH]
  generalize (lg_sl ([.ref (o 0 0), .ref (o 10 n1), .ref (o 10 n2)]) ++ List.replicate (6 - (lg_sl ([.ref (o 0 0), .ref (o 10 n1), .ref (o 10 n2)])).length) Slot.unset).toArray = ls at hl ⊢
  have hl : lv_has ls 6 [(0, .ref (o 0 0)), (1, .ref (o 10 n1)), (2, .ref (o 10 n2))] := hl
  obtain ⟨hb0, hb1, hb3, hb5, hb4, hb6, hb11, hb17⟩ := hI.2.2.1
  have h111 := hb11 n1
  have h112 := hb11 n2
  refine lv_aload_n hx hb d_Nm_likeness_0 rfl (lv_at hl 0 rfl) ?_
  refine lv_aload_n hx hb d_Nm_likeness_1 rfl (lv_at hl 1 rfl) ?_
  refine lv_aload_n hx hb d_Nm_likeness_2 rfl (lv_at hl 2 rfl) ?_
  obtain ⟨nq1, hnq1⟩ : ∃ z : Nat, z = H.size := ⟨_, rfl⟩
  refine h_calli (va_runV (As := [.ref (o 10 n1), .ref (o 10 n2)]) (rest := []) ⟨hx, hb, hml, hown, htg⟩ (c_Nm_mostPoints l D cs N0 H o z K r w0 nq1 n1 n2 hI hnq1 (show n1 < z 3 0 by omega) (show n2 < z 3 0 by omega)) ⟨x_cwB 2 htg (gw_mem (i := 544) (by decide +kernel) rfl) (gw_mem (i := 30) (by decide +kernel) rfl) (gw_mem (i := 541) (by decide +kernel) rfl) (by decide +kernel) ⟨Nat.le_of_ble_eq_true rfl, Nat.le_of_ble_eq_true rfl⟩, htg _ (gw_mem (i := 543) (by decide +kernel) rfl), htg _ (gw_mem (i := 3) (by decide +kernel) rfl)⟩ ⟨hPre.blind, hx_recv hK (ci := 1) rfl (show va_at D vwCl (o 0 0, .inr (1, [.ref (o 1 0), .ref (o 3 0), .ref (o 5 0), .ref (o 7 0), .ref (o 8 0), .int (nI (z 0 0)), .int (K 0 0 0), .ref (o 9 0)])) H from hI.at (k := 0) (n := 0) (show nmv z 0 0 from rfl)), hPre.at hB hS hAN⟩ rfl rfl hl.1 rfl (lv_room (Nat.le_of_ble_eq_true rfl)) d_Nm_likeness_3 ⟨Nat.le_of_ble_eq_true rfl, Nat.le_of_ble_eq_true rfl⟩) hS (jA_sub1 jA_in1 (fun q9 h9 => Or.inr (show N ≤ q9 by omega))) (fun r3 H locs hp hz hk hS => ?_)
  obtain ⟨hr9, w2, hI⟩ := hp
  subst hr9
  refine lv_istore_n (lv' := [(3, .int (mpV z K n1 n2)), (0, .ref (o 0 0)), (1, .ref (o 10 n1)), (2, .ref (o 10 n2))]) hx hb d_Nm_likeness_6 rfl hl (by decide) rfl (fun ls hl => ?_)
  refine lv_aload_n hx hb d_Nm_likeness_7 rfl (lv_at hl 2 rfl) ?_
  refine hx_get (ref := "NameMerges$Name") (v := .int (K 10 n1 0)) hx hb htg iNa hown hK (show va_at D vwCl (o 10 n1, .inr (2, [.ref (o 11 n1), .ref (o 13 n1), va_rf (if z 14 n1 = 0 then none else some (o 14 n1)), .int (K 10 n1 0), .int (K 10 n1 1), .int (K 10 n1 2), .int (K 10 n1 3)])) H from hI.at (k := 10) (n := n1) (show nmv z 10 n1 from (show n1 < z 3 0 by omega))) rfl 3 (by decide) (htg _ (gw_mem (i := 659) (by decide +kernel) rfl)) (fun _ h9 => h9) rfl d_Nm_likeness_8 ?_
  refine lv_aload_n hx hb d_Nm_likeness_11 rfl (lv_at hl 3 rfl) ?_
  refine hx_get (ref := "NameMerges$Name") (v := .int (K 10 n2 0)) hx hb htg iNa hown hK (show va_at D vwCl (o 10 n2, .inr (2, [.ref (o 11 n2), .ref (o 13 n2), va_rf (if z 14 n2 = 0 then none else some (o 14 n2)), .int (K 10 n2 0), .int (K 10 n2 1), .int (K 10 n2 2), .int (K 10 n2 3)])) H from hI.at (k := 10) (n := n2) (show nmv z 10 n2 from (show n2 < z 3 0 by omega))) rfl 3 (by decide) (htg _ (gw_mem (i := 659) (by decide +kernel) rfl)) (fun _ h9 => h9) rfl d_Nm_likeness_12 ?_
  refine lv_iand (x := (K 10 n1 0)) (y := (K 10 n2 0)) hx hb d_Nm_likeness_15 ?_
  refine lv_if_eq (x := ((K 10 n1 0) &&& (K 10 n2 0))) (tgt := 22) hx hb d_Nm_likeness_16 (by decide) (fun c16 => ?_) (fun c16 => ?_)
  · skip
    refine lv_aload_n hx hb d_Nm_likeness_22 rfl (lv_at hl 2 rfl) ?_
    by_cases hs3 : z 14 n1 = 0
    · skip
      refine hx_get (ref := "NameMerges$Name") (v := .null) hx hb htg iNa hown hK (show va_at D vwCl (o 10 n1, .inr (2, [.ref (o 11 n1), .ref (o 13 n1), va_rf (if z 14 n1 = 0 then none else some (o 14 n1)), .int (K 10 n1 0), .int (K 10 n1 1), .int (K 10 n1 2), .int (K 10 n1 3)])) H from hI.at (k := 10) (n := n1) (show nmv z 10 n1 from (show n1 < z 3 0 by omega))) rfl 2 (by decide) (htg _ (gw_mem (i := 657) (by decide +kernel) rfl)) (fun _ h9 => h9) (show some (va_rf (if z 14 n1 = 0 then none else some (o 14 n1))) = some Value.null by rw [if_pos hs3]; rfl) d_Nm_likeness_23 ?_
      refine lv_astoreN (lv' := [(4, .null), (3, .int (mpV z K n1 n2)), (0, .ref (o 0 0)), (1, .ref (o 10 n1)), (2, .ref (o 10 n2))]) hx hb d_Nm_likeness_26 hl (by decide) rfl (fun ls hl => ?_)
      refine lv_aload_n hx hb d_Nm_likeness_28 rfl (lv_at hl 4 rfl) ?_
      by_cases hs4 : z 14 n2 = 0
      · skip
        refine hx_get (ref := "NameMerges$Name") (v := .null) hx hb htg iNa hown hK (show va_at D vwCl (o 10 n2, .inr (2, [.ref (o 11 n2), .ref (o 13 n2), va_rf (if z 14 n2 = 0 then none else some (o 14 n2)), .int (K 10 n2 0), .int (K 10 n2 1), .int (K 10 n2 2), .int (K 10 n2 3)])) H from hI.at (k := 10) (n := n2) (show nmv z 10 n2 from (show n2 < z 3 0 by omega))) rfl 2 (by decide) (htg _ (gw_mem (i := 657) (by decide +kernel) rfl)) (fun _ h9 => h9) (show some (va_rf (if z 14 n2 = 0 then none else some (o 14 n2))) = some Value.null by rw [if_pos hs4]; rfl) d_Nm_likeness_29 ?_
        refine lv_astoreN (lv' := [(5, .null), (4, .null), (3, .int (mpV z K n1 n2)), (0, .ref (o 0 0)), (1, .ref (o 10 n1)), (2, .ref (o 10 n2))]) hx hb d_Nm_likeness_32 hl (by decide) rfl (fun ls hl => ?_)
        refine lv_aloadN hx hb d_Nm_likeness_34 (lv_at hl 1 rfl) ?_
        refine lv_ifnullN (tgt := 63) hx hb d_Nm_likeness_36 (by decide) ?_
        refine lv_iload_n hx hb d_Nm_likeness_63 rfl (lv_at hl 2 rfl) ?_
        exact W.iret (v := (mpV z K n1 n2)) hx hb hr (fun t ht hW => ⟨⟨(mpV z K n1 n2), H, rfl, ⟨by simp [lkV, c16, hs3, hs4], _, hI⟩, ht⟩, hS.F ht⟩) hS.2.2 d_Nm_likeness_64
      · skip
        refine hx_get (ref := "NameMerges$Name") (v := .ref (o 14 n2)) hx hb htg iNa hown hK (show va_at D vwCl (o 10 n2, .inr (2, [.ref (o 11 n2), .ref (o 13 n2), va_rf (if z 14 n2 = 0 then none else some (o 14 n2)), .int (K 10 n2 0), .int (K 10 n2 1), .int (K 10 n2 2), .int (K 10 n2 3)])) H from hI.at (k := 10) (n := n2) (show nmv z 10 n2 from (show n2 < z 3 0 by omega))) rfl 2 (by decide) (htg _ (gw_mem (i := 657) (by decide +kernel) rfl)) (fun _ h9 => h9) (show some (va_rf (if z 14 n2 = 0 then none else some (o 14 n2))) = some (Value.ref (o 14 n2)) by rw [if_neg hs4]; rfl) d_Nm_likeness_29 ?_
        refine lv_astore (lv' := [(5, .ref (o 14 n2)), (4, .null), (3, .int (mpV z K n1 n2)), (0, .ref (o 0 0)), (1, .ref (o 10 n1)), (2, .ref (o 10 n2))]) hx hb d_Nm_likeness_32 hl (by decide) rfl (fun ls hl => ?_)
        refine lv_aloadN hx hb d_Nm_likeness_34 (lv_at hl 1 rfl) ?_
        refine lv_ifnullN (tgt := 63) hx hb d_Nm_likeness_36 (by decide) ?_
        refine lv_iload_n hx hb d_Nm_likeness_63 rfl (lv_at hl 2 rfl) ?_
        exact W.iret (v := (mpV z K n1 n2)) hx hb hr (fun t ht hW => ⟨⟨(mpV z K n1 n2), H, rfl, ⟨by simp [lkV, c16, hs3, hs4], _, hI⟩, ht⟩, hS.F ht⟩) hS.2.2 d_Nm_likeness_64
    · skip
      refine hx_get (ref := "NameMerges$Name") (v := .ref (o 14 n1)) hx hb htg iNa hown hK (show va_at D vwCl (o 10 n1, .inr (2, [.ref (o 11 n1), .ref (o 13 n1), va_rf (if z 14 n1 = 0 then none else some (o 14 n1)), .int (K 10 n1 0), .int (K 10 n1 1), .int (K 10 n1 2), .int (K 10 n1 3)])) H from hI.at (k := 10) (n := n1) (show nmv z 10 n1 from (show n1 < z 3 0 by omega))) rfl 2 (by decide) (htg _ (gw_mem (i := 657) (by decide +kernel) rfl)) (fun _ h9 => h9) (show some (va_rf (if z 14 n1 = 0 then none else some (o 14 n1))) = some (Value.ref (o 14 n1)) by rw [if_neg hs3]; rfl) d_Nm_likeness_23 ?_
      refine lv_astore (lv' := [(4, .ref (o 14 n1)), (3, .int (mpV z K n1 n2)), (0, .ref (o 0 0)), (1, .ref (o 10 n1)), (2, .ref (o 10 n2))]) hx hb d_Nm_likeness_26 hl (by decide) rfl (fun ls hl => ?_)
      refine lv_aload_n hx hb d_Nm_likeness_28 rfl (lv_at hl 4 rfl) ?_
      by_cases hs5 : z 14 n2 = 0
      · skip
        refine hx_get (ref := "NameMerges$Name") (v := .null) hx hb htg iNa hown hK (show va_at D vwCl (o 10 n2, .inr (2, [.ref (o 11 n2), .ref (o 13 n2), va_rf (if z 14 n2 = 0 then none else some (o 14 n2)), .int (K 10 n2 0), .int (K 10 n2 1), .int (K 10 n2 2), .int (K 10 n2 3)])) H from hI.at (k := 10) (n := n2) (show nmv z 10 n2 from (show n2 < z 3 0 by omega))) rfl 2 (by decide) (htg _ (gw_mem (i := 657) (by decide +kernel) rfl)) (fun _ h9 => h9) (show some (va_rf (if z 14 n2 = 0 then none else some (o 14 n2))) = some Value.null by rw [if_pos hs5]; rfl) d_Nm_likeness_29 ?_
        refine lv_astoreN (lv' := [(5, .null), (4, .ref (o 14 n1)), (3, .int (mpV z K n1 n2)), (0, .ref (o 0 0)), (1, .ref (o 10 n1)), (2, .ref (o 10 n2))]) hx hb d_Nm_likeness_32 hl (by decide) rfl (fun ls hl => ?_)
        refine lv_aload hx hb d_Nm_likeness_34 (lv_at hl 1 rfl) ?_
        refine lv_ifnull hx hb d_Nm_likeness_36 ?_
        refine lv_aloadN hx hb d_Nm_likeness_39 (lv_at hl 0 rfl) ?_
        refine lv_ifnullN (tgt := 63) hx hb d_Nm_likeness_41 (by decide) ?_
        refine lv_iload_n hx hb d_Nm_likeness_63 rfl (lv_at hl 2 rfl) ?_
        exact W.iret (v := (mpV z K n1 n2)) hx hb hr (fun t ht hW => ⟨⟨(mpV z K n1 n2), H, rfl, ⟨by simp [lkV, c16, hs3, hs5], _, hI⟩, ht⟩, hS.F ht⟩) hS.2.2 d_Nm_likeness_64
      · skip
        refine hx_get (ref := "NameMerges$Name") (v := .ref (o 14 n2)) hx hb htg iNa hown hK (show va_at D vwCl (o 10 n2, .inr (2, [.ref (o 11 n2), .ref (o 13 n2), va_rf (if z 14 n2 = 0 then none else some (o 14 n2)), .int (K 10 n2 0), .int (K 10 n2 1), .int (K 10 n2 2), .int (K 10 n2 3)])) H from hI.at (k := 10) (n := n2) (show nmv z 10 n2 from (show n2 < z 3 0 by omega))) rfl 2 (by decide) (htg _ (gw_mem (i := 657) (by decide +kernel) rfl)) (fun _ h9 => h9) (show some (va_rf (if z 14 n2 = 0 then none else some (o 14 n2))) = some (Value.ref (o 14 n2)) by rw [if_neg hs5]; rfl) d_Nm_likeness_29 ?_
        refine lv_astore (lv' := [(5, .ref (o 14 n2)), (4, .ref (o 14 n1)), (3, .int (mpV z K n1 n2)), (0, .ref (o 0 0)), (1, .ref (o 10 n1)), (2, .ref (o 10 n2))]) hx hb d_Nm_likeness_32 hl (by decide) rfl (fun ls hl => ?_)
        refine lv_aload hx hb d_Nm_likeness_34 (lv_at hl 1 rfl) ?_
        refine lv_ifnull hx hb d_Nm_likeness_36 ?_
        refine lv_aload hx hb d_Nm_likeness_39 (lv_at hl 0 rfl) ?_
        refine lv_ifnull hx hb d_Nm_likeness_41 ?_
        refine lv_iload_n hx hb d_Nm_likeness_44 rfl (lv_at hl 2 rfl) ?_
        refine lv_aload hx hb d_Nm_likeness_45 (lv_at hl 1 rfl) ?_
        refine lv_aload hx hb d_Nm_likeness_47 (lv_at hl 0 rfl) ?_
        refine h_purei (va_runV (As := [.ref (o 14 n2)]) (rest := [.int (mpV z K n1 n2)]) ⟨hx, hb, hml, hown, htg⟩ (c_Da_meet l D cs N0 H (o 14 n1) (o 14 n2) (K 14 n1 0) (K 14 n1 1) (K 14 n2 0) (K 14 n2 1) (show va_at D vwCl (o 14 n1, .inr (4, [.int (K 14 n1 0), .int (K 14 n1 1)])) H from hI.at (k := 14) (n := n1) (show nmv z 14 n1 from ⟨by omega, by omega⟩)) (show va_at D vwCl (o 14 n2, .inr (4, [.int (K 14 n2 0), .int (K 14 n2 1)])) H from hI.at (k := 14) (n := n2) (show nmv z 14 n2 from ⟨by omega, by omega⟩))) ⟨x_cwB 1 htg (gw_mem (i := 583) (by decide +kernel) rfl) (gw_mem (i := 57) (by decide +kernel) rfl) (gw_mem (i := 580) (by decide +kernel) rfl) (by decide +kernel) ⟨Nat.le_of_ble_eq_true rfl, Nat.le_of_ble_eq_true rfl⟩, htg _ (gw_mem (i := 581) (by decide +kernel) rfl), htg _ (gw_mem (i := 582) (by decide +kernel) rfl)⟩ ⟨hPre.blind, hx_recv hK (ci := 4) rfl (show va_at D vwCl (o 14 n1, .inr (4, [.int (K 14 n1 0), .int (K 14 n1 1)])) H from hI.at (k := 14) (n := n1) (show nmv z 14 n1 from ⟨by omega, by omega⟩)), hPre.at hB hS hAN⟩ rfl rfl hl.1 rfl (lv_room (Nat.le_of_ble_eq_true rfl)) d_Nm_likeness_49 ⟨Nat.le_of_ble_eq_true rfl, Nat.le_of_ble_eq_true rfl⟩) hS (fun locs hS => ?_)
        refine lv_eqi (y := (bI (meetB (K 14 n1 0) (K 14 n1 1) (K 14 n2 0) (K 14 n2 1)))) rfl ?_
        refine lv_if_eq (x := (bI (meetB (K 14 n1 0) (K 14 n1 1) (K 14 n2 0) (K 14 n2 1)))) (tgt := 59) hx hb d_Nm_likeness_52 (by decide) (fun c52 => ?_) (fun c52 => ?_)
        · skip
          replace c52 : (meetB (K 14 n1 0) (K 14 n1 1) (K 14 n2 0) (K 14 n2 1)) = false := bI_0 c52
          refine lv_bipush (v := (-5)) hx hb d_Nm_likeness_59 (by decide) ?_
          refine lv_iadd (x := (mpV z K n1 n2)) (y := (-5)) hx hb d_Nm_likeness_61 ?_
          refine lv_istore_n (lv' := [(3, .int ((mpV z K n1 n2) + (-5))), (5, .ref (o 14 n2)), (4, .ref (o 14 n1)), (0, .ref (o 0 0)), (1, .ref (o 10 n1)), (2, .ref (o 10 n2))]) hx hb d_Nm_likeness_62 rfl hl (by decide) rfl (fun ls hl => ?_)
          refine lv_iload_n hx hb d_Nm_likeness_63 rfl (lv_at hl 0 rfl) ?_
          exact W.iret (v := ((mpV z K n1 n2) + (-5))) hx hb hr (fun t ht hW => ⟨⟨((mpV z K n1 n2) + (-5)), H, rfl, ⟨by simp [lkV, c16, hs3, hs5, c52], _, hI⟩, ht⟩, hS.F ht⟩) hS.2.2 d_Nm_likeness_64
        · skip
          replace c52 : (meetB (K 14 n1 0) (K 14 n1 1) (K 14 n2 0) (K 14 n2 1)) = true := bI_1 c52
          refine lv_iconst (v := 3) hx hb d_Nm_likeness_55 (by decide) ?_
          refine lv_goto (tgt := 61) hx hb d_Nm_likeness_56 (by decide) ?_
          refine lv_iadd (x := (mpV z K n1 n2)) (y := 3) hx hb d_Nm_likeness_61 ?_
          refine lv_istore_n (lv' := [(3, .int ((mpV z K n1 n2) + 3)), (5, .ref (o 14 n2)), (4, .ref (o 14 n1)), (0, .ref (o 0 0)), (1, .ref (o 10 n1)), (2, .ref (o 10 n2))]) hx hb d_Nm_likeness_62 rfl hl (by decide) rfl (fun ls hl => ?_)
          refine lv_iload_n hx hb d_Nm_likeness_63 rfl (lv_at hl 0 rfl) ?_
          exact W.iret (v := ((mpV z K n1 n2) + 3)) hx hb hr (fun t ht hW => ⟨⟨((mpV z K n1 n2) + 3), H, rfl, ⟨by simp [lkV, c16, hs3, hs5, c52], _, hI⟩, ht⟩, hS.F ht⟩) hS.2.2 d_Nm_likeness_64
  · skip
    refine lv_iinc (v := ((mpV z K n1 n2) + 2)) (lv' := [(3, .int ((mpV z K n1 n2) + 2)), (0, .ref (o 0 0)), (1, .ref (o 10 n1)), (2, .ref (o 10 n2))]) hx hb d_Nm_likeness_19 hl (k := 0) rfl rfl (by decide) rfl (fun ls hl => ?_)
    refine lv_aload_n hx hb d_Nm_likeness_22 rfl (lv_at hl 2 rfl) ?_
    by_cases hs6 : z 14 n1 = 0
    · skip
      refine hx_get (ref := "NameMerges$Name") (v := .null) hx hb htg iNa hown hK (show va_at D vwCl (o 10 n1, .inr (2, [.ref (o 11 n1), .ref (o 13 n1), va_rf (if z 14 n1 = 0 then none else some (o 14 n1)), .int (K 10 n1 0), .int (K 10 n1 1), .int (K 10 n1 2), .int (K 10 n1 3)])) H from hI.at (k := 10) (n := n1) (show nmv z 10 n1 from (show n1 < z 3 0 by omega))) rfl 2 (by decide) (htg _ (gw_mem (i := 657) (by decide +kernel) rfl)) (fun _ h9 => h9) (show some (va_rf (if z 14 n1 = 0 then none else some (o 14 n1))) = some Value.null by rw [if_pos hs6]; rfl) d_Nm_likeness_23 ?_
      refine lv_astoreN (lv' := [(4, .null), (3, .int ((mpV z K n1 n2) + 2)), (0, .ref (o 0 0)), (1, .ref (o 10 n1)), (2, .ref (o 10 n2))]) hx hb d_Nm_likeness_26 hl (by decide) rfl (fun ls hl => ?_)
      refine lv_aload_n hx hb d_Nm_likeness_28 rfl (lv_at hl 4 rfl) ?_
      by_cases hs7 : z 14 n2 = 0
      · skip
        refine hx_get (ref := "NameMerges$Name") (v := .null) hx hb htg iNa hown hK (show va_at D vwCl (o 10 n2, .inr (2, [.ref (o 11 n2), .ref (o 13 n2), va_rf (if z 14 n2 = 0 then none else some (o 14 n2)), .int (K 10 n2 0), .int (K 10 n2 1), .int (K 10 n2 2), .int (K 10 n2 3)])) H from hI.at (k := 10) (n := n2) (show nmv z 10 n2 from (show n2 < z 3 0 by omega))) rfl 2 (by decide) (htg _ (gw_mem (i := 657) (by decide +kernel) rfl)) (fun _ h9 => h9) (show some (va_rf (if z 14 n2 = 0 then none else some (o 14 n2))) = some Value.null by rw [if_pos hs7]; rfl) d_Nm_likeness_29 ?_
        refine lv_astoreN (lv' := [(5, .null), (4, .null), (3, .int ((mpV z K n1 n2) + 2)), (0, .ref (o 0 0)), (1, .ref (o 10 n1)), (2, .ref (o 10 n2))]) hx hb d_Nm_likeness_32 hl (by decide) rfl (fun ls hl => ?_)
        refine lv_aloadN hx hb d_Nm_likeness_34 (lv_at hl 1 rfl) ?_
        refine lv_ifnullN (tgt := 63) hx hb d_Nm_likeness_36 (by decide) ?_
        refine lv_iload_n hx hb d_Nm_likeness_63 rfl (lv_at hl 2 rfl) ?_
        exact W.iret (v := ((mpV z K n1 n2) + 2)) hx hb hr (fun t ht hW => ⟨⟨((mpV z K n1 n2) + 2), H, rfl, ⟨by simp [lkV, c16, hs6, hs7], _, hI⟩, ht⟩, hS.F ht⟩) hS.2.2 d_Nm_likeness_64
      · skip
        refine hx_get (ref := "NameMerges$Name") (v := .ref (o 14 n2)) hx hb htg iNa hown hK (show va_at D vwCl (o 10 n2, .inr (2, [.ref (o 11 n2), .ref (o 13 n2), va_rf (if z 14 n2 = 0 then none else some (o 14 n2)), .int (K 10 n2 0), .int (K 10 n2 1), .int (K 10 n2 2), .int (K 10 n2 3)])) H from hI.at (k := 10) (n := n2) (show nmv z 10 n2 from (show n2 < z 3 0 by omega))) rfl 2 (by decide) (htg _ (gw_mem (i := 657) (by decide +kernel) rfl)) (fun _ h9 => h9) (show some (va_rf (if z 14 n2 = 0 then none else some (o 14 n2))) = some (Value.ref (o 14 n2)) by rw [if_neg hs7]; rfl) d_Nm_likeness_29 ?_
        refine lv_astore (lv' := [(5, .ref (o 14 n2)), (4, .null), (3, .int ((mpV z K n1 n2) + 2)), (0, .ref (o 0 0)), (1, .ref (o 10 n1)), (2, .ref (o 10 n2))]) hx hb d_Nm_likeness_32 hl (by decide) rfl (fun ls hl => ?_)
        refine lv_aloadN hx hb d_Nm_likeness_34 (lv_at hl 1 rfl) ?_
        refine lv_ifnullN (tgt := 63) hx hb d_Nm_likeness_36 (by decide) ?_
        refine lv_iload_n hx hb d_Nm_likeness_63 rfl (lv_at hl 2 rfl) ?_
        exact W.iret (v := ((mpV z K n1 n2) + 2)) hx hb hr (fun t ht hW => ⟨⟨((mpV z K n1 n2) + 2), H, rfl, ⟨by simp [lkV, c16, hs6, hs7], _, hI⟩, ht⟩, hS.F ht⟩) hS.2.2 d_Nm_likeness_64
    · skip
      refine hx_get (ref := "NameMerges$Name") (v := .ref (o 14 n1)) hx hb htg iNa hown hK (show va_at D vwCl (o 10 n1, .inr (2, [.ref (o 11 n1), .ref (o 13 n1), va_rf (if z 14 n1 = 0 then none else some (o 14 n1)), .int (K 10 n1 0), .int (K 10 n1 1), .int (K 10 n1 2), .int (K 10 n1 3)])) H from hI.at (k := 10) (n := n1) (show nmv z 10 n1 from (show n1 < z 3 0 by omega))) rfl 2 (by decide) (htg _ (gw_mem (i := 657) (by decide +kernel) rfl)) (fun _ h9 => h9) (show some (va_rf (if z 14 n1 = 0 then none else some (o 14 n1))) = some (Value.ref (o 14 n1)) by rw [if_neg hs6]; rfl) d_Nm_likeness_23 ?_
      refine lv_astore (lv' := [(4, .ref (o 14 n1)), (3, .int ((mpV z K n1 n2) + 2)), (0, .ref (o 0 0)), (1, .ref (o 10 n1)), (2, .ref (o 10 n2))]) hx hb d_Nm_likeness_26 hl (by decide) rfl (fun ls hl => ?_)
      refine lv_aload_n hx hb d_Nm_likeness_28 rfl (lv_at hl 4 rfl) ?_
      by_cases hs8 : z 14 n2 = 0
      · skip
        refine hx_get (ref := "NameMerges$Name") (v := .null) hx hb htg iNa hown hK (show va_at D vwCl (o 10 n2, .inr (2, [.ref (o 11 n2), .ref (o 13 n2), va_rf (if z 14 n2 = 0 then none else some (o 14 n2)), .int (K 10 n2 0), .int (K 10 n2 1), .int (K 10 n2 2), .int (K 10 n2 3)])) H from hI.at (k := 10) (n := n2) (show nmv z 10 n2 from (show n2 < z 3 0 by omega))) rfl 2 (by decide) (htg _ (gw_mem (i := 657) (by decide +kernel) rfl)) (fun _ h9 => h9) (show some (va_rf (if z 14 n2 = 0 then none else some (o 14 n2))) = some Value.null by rw [if_pos hs8]; rfl) d_Nm_likeness_29 ?_
        refine lv_astoreN (lv' := [(5, .null), (4, .ref (o 14 n1)), (3, .int ((mpV z K n1 n2) + 2)), (0, .ref (o 0 0)), (1, .ref (o 10 n1)), (2, .ref (o 10 n2))]) hx hb d_Nm_likeness_32 hl (by decide) rfl (fun ls hl => ?_)
        refine lv_aload hx hb d_Nm_likeness_34 (lv_at hl 1 rfl) ?_
        refine lv_ifnull hx hb d_Nm_likeness_36 ?_
        refine lv_aloadN hx hb d_Nm_likeness_39 (lv_at hl 0 rfl) ?_
        refine lv_ifnullN (tgt := 63) hx hb d_Nm_likeness_41 (by decide) ?_
        refine lv_iload_n hx hb d_Nm_likeness_63 rfl (lv_at hl 2 rfl) ?_
        exact W.iret (v := ((mpV z K n1 n2) + 2)) hx hb hr (fun t ht hW => ⟨⟨((mpV z K n1 n2) + 2), H, rfl, ⟨by simp [lkV, c16, hs6, hs8], _, hI⟩, ht⟩, hS.F ht⟩) hS.2.2 d_Nm_likeness_64
      · skip
        refine hx_get (ref := "NameMerges$Name") (v := .ref (o 14 n2)) hx hb htg iNa hown hK (show va_at D vwCl (o 10 n2, .inr (2, [.ref (o 11 n2), .ref (o 13 n2), va_rf (if z 14 n2 = 0 then none else some (o 14 n2)), .int (K 10 n2 0), .int (K 10 n2 1), .int (K 10 n2 2), .int (K 10 n2 3)])) H from hI.at (k := 10) (n := n2) (show nmv z 10 n2 from (show n2 < z 3 0 by omega))) rfl 2 (by decide) (htg _ (gw_mem (i := 657) (by decide +kernel) rfl)) (fun _ h9 => h9) (show some (va_rf (if z 14 n2 = 0 then none else some (o 14 n2))) = some (Value.ref (o 14 n2)) by rw [if_neg hs8]; rfl) d_Nm_likeness_29 ?_
        refine lv_astore (lv' := [(5, .ref (o 14 n2)), (4, .ref (o 14 n1)), (3, .int ((mpV z K n1 n2) + 2)), (0, .ref (o 0 0)), (1, .ref (o 10 n1)), (2, .ref (o 10 n2))]) hx hb d_Nm_likeness_32 hl (by decide) rfl (fun ls hl => ?_)
        refine lv_aload hx hb d_Nm_likeness_34 (lv_at hl 1 rfl) ?_
        refine lv_ifnull hx hb d_Nm_likeness_36 ?_
        refine lv_aload hx hb d_Nm_likeness_39 (lv_at hl 0 rfl) ?_
        refine lv_ifnull hx hb d_Nm_likeness_41 ?_
        refine lv_iload_n hx hb d_Nm_likeness_44 rfl (lv_at hl 2 rfl) ?_
        refine lv_aload hx hb d_Nm_likeness_45 (lv_at hl 1 rfl) ?_
        refine lv_aload hx hb d_Nm_likeness_47 (lv_at hl 0 rfl) ?_
        refine h_purei (va_runV (As := [.ref (o 14 n2)]) (rest := [.int ((mpV z K n1 n2) + 2)]) ⟨hx, hb, hml, hown, htg⟩ (c_Da_meet l D cs N0 H (o 14 n1) (o 14 n2) (K 14 n1 0) (K 14 n1 1) (K 14 n2 0) (K 14 n2 1) (show va_at D vwCl (o 14 n1, .inr (4, [.int (K 14 n1 0), .int (K 14 n1 1)])) H from hI.at (k := 14) (n := n1) (show nmv z 14 n1 from ⟨by omega, by omega⟩)) (show va_at D vwCl (o 14 n2, .inr (4, [.int (K 14 n2 0), .int (K 14 n2 1)])) H from hI.at (k := 14) (n := n2) (show nmv z 14 n2 from ⟨by omega, by omega⟩))) ⟨x_cwB 1 htg (gw_mem (i := 583) (by decide +kernel) rfl) (gw_mem (i := 57) (by decide +kernel) rfl) (gw_mem (i := 580) (by decide +kernel) rfl) (by decide +kernel) ⟨Nat.le_of_ble_eq_true rfl, Nat.le_of_ble_eq_true rfl⟩, htg _ (gw_mem (i := 581) (by decide +kernel) rfl), htg _ (gw_mem (i := 582) (by decide +kernel) rfl)⟩ ⟨hPre.blind, hx_recv hK (ci := 4) rfl (show va_at D vwCl (o 14 n1, .inr (4, [.int (K 14 n1 0), .int (K 14 n1 1)])) H from hI.at (k := 14) (n := n1) (show nmv z 14 n1 from ⟨by omega, by omega⟩)), hPre.at hB hS hAN⟩ rfl rfl hl.1 rfl (lv_room (Nat.le_of_ble_eq_true rfl)) d_Nm_likeness_49 ⟨Nat.le_of_ble_eq_true rfl, Nat.le_of_ble_eq_true rfl⟩) hS (fun locs hS => ?_)
        refine lv_eqi (y := (bI (meetB (K 14 n1 0) (K 14 n1 1) (K 14 n2 0) (K 14 n2 1)))) rfl ?_
        refine lv_if_eq (x := (bI (meetB (K 14 n1 0) (K 14 n1 1) (K 14 n2 0) (K 14 n2 1)))) (tgt := 59) hx hb d_Nm_likeness_52 (by decide) (fun c52 => ?_) (fun c52 => ?_)
        · skip
          replace c52 : (meetB (K 14 n1 0) (K 14 n1 1) (K 14 n2 0) (K 14 n2 1)) = false := bI_0 c52
          refine lv_bipush (v := (-5)) hx hb d_Nm_likeness_59 (by decide) ?_
          refine lv_iadd (x := ((mpV z K n1 n2) + 2)) (y := (-5)) hx hb d_Nm_likeness_61 ?_
          refine lv_istore_n (lv' := [(3, .int (((mpV z K n1 n2) + 2) + (-5))), (5, .ref (o 14 n2)), (4, .ref (o 14 n1)), (0, .ref (o 0 0)), (1, .ref (o 10 n1)), (2, .ref (o 10 n2))]) hx hb d_Nm_likeness_62 rfl hl (by decide) rfl (fun ls hl => ?_)
          refine lv_iload_n hx hb d_Nm_likeness_63 rfl (lv_at hl 0 rfl) ?_
          exact W.iret (v := (((mpV z K n1 n2) + 2) + (-5))) hx hb hr (fun t ht hW => ⟨⟨(((mpV z K n1 n2) + 2) + (-5)), H, rfl, ⟨by simp [lkV, c16, hs6, hs8, c52], _, hI⟩, ht⟩, hS.F ht⟩) hS.2.2 d_Nm_likeness_64
        · skip
          replace c52 : (meetB (K 14 n1 0) (K 14 n1 1) (K 14 n2 0) (K 14 n2 1)) = true := bI_1 c52
          refine lv_iconst (v := 3) hx hb d_Nm_likeness_55 (by decide) ?_
          refine lv_goto (tgt := 61) hx hb d_Nm_likeness_56 (by decide) ?_
          refine lv_iadd (x := ((mpV z K n1 n2) + 2)) (y := 3) hx hb d_Nm_likeness_61 ?_
          refine lv_istore_n (lv' := [(3, .int (((mpV z K n1 n2) + 2) + 3)), (5, .ref (o 14 n2)), (4, .ref (o 14 n1)), (0, .ref (o 0 0)), (1, .ref (o 10 n1)), (2, .ref (o 10 n2))]) hx hb d_Nm_likeness_62 rfl hl (by decide) rfl (fun ls hl => ?_)
          refine lv_iload_n hx hb d_Nm_likeness_63 rfl (lv_at hl 0 rfl) ?_
          exact W.iret (v := (((mpV z K n1 n2) + 2) + 3)) hx hb hr (fun t ht hW => ⟨⟨(((mpV z K n1 n2) + 2) + 3), H, rfl, ⟨by simp [lkV, c16, hs6, hs8, c52], _, hI⟩, ht⟩, hS.F ht⟩) hS.2.2 d_Nm_likeness_64
def lostP (z : Nat → Nat → Nat) (K : Nat → Nat → Nat → Int32) (n1 n2 : Nat) (ls9 : Int32) : Bool := decide (K 10 n1 1 &&& K 10 n2 1 = 0) && !decide (lkV z K n1 n2 < ls9)
def y_Nm_isLost : MethodName := ⟨"NameMerges", "isLost", "(LNameMerges$Name;LNameMerges$Name;I)Z"⟩
abbrev w_Nm_isLost : List Cond := Cond.code y_Nm_isLost prog_1_method_36_code 4 (Option.some Jvm.ClassFile.FieldType.boolean) :: gw
theorem d_Nm_isLost_0 : decode prog_1_method_36_code 0 = .ok (.aload_n 1, 1) := by decide +kernel
theorem d_Nm_isLost_1 : decode prog_1_method_36_code 1 = .ok (.getfield 115, 3) := by decide +kernel
theorem d_Nm_isLost_4 : decode prog_1_method_36_code 4 = .ok (.aload_n 2, 1) := by decide +kernel
theorem d_Nm_isLost_5 : decode prog_1_method_36_code 5 = .ok (.getfield 115, 3) := by decide +kernel
theorem d_Nm_isLost_8 : decode prog_1_method_36_code 8 = .ok (.iand, 1) := by decide +kernel
theorem d_Nm_isLost_9 : decode prog_1_method_36_code 9 = .ok (.ifCond .ne 17, 3) := by decide +kernel
theorem d_Nm_isLost_12 : decode prog_1_method_36_code 12 = .ok (.aload_n 0, 1) := by decide +kernel
theorem d_Nm_isLost_13 : decode prog_1_method_36_code 13 = .ok (.aload_n 1, 1) := by decide +kernel
theorem d_Nm_isLost_14 : decode prog_1_method_36_code 14 = .ok (.aload_n 2, 1) := by decide +kernel
theorem d_Nm_isLost_15 : decode prog_1_method_36_code 15 = .ok (.invokevirtual 132, 3) := by decide +kernel
theorem d_Nm_isLost_18 : decode prog_1_method_36_code 18 = .ok (.iload_n 3, 1) := by decide +kernel
theorem d_Nm_isLost_19 : decode prog_1_method_36_code 19 = .ok (.if_icmp .lt 7, 3) := by decide +kernel
theorem d_Nm_isLost_22 : decode prog_1_method_36_code 22 = .ok (.iconst 1, 1) := by decide +kernel
theorem d_Nm_isLost_23 : decode prog_1_method_36_code 23 = .ok (.goto 4, 3) := by decide +kernel
theorem d_Nm_isLost_26 : decode prog_1_method_36_code 26 = .ok (.iconst 0, 1) := by decide +kernel
theorem d_Nm_isLost_27 : decode prog_1_method_36_code 27 = .ok (.ireturn, 1) := by decide +kernel
set_option maxHeartbeats 4000000 in
set_option maxRecDepth 100000 in
theorem c_Nm_isLost (l : Launch) (D : va_G) (cs : Nat → ClassId) (N0 : Nat) (H : Heap) (o z : Nat → Nat → Nat) (K : Nat → Nat → Nat → Int32) (r : Nat → Nat × Nat) (w0 : Nat → Int32) (N : Nat) (n1 n2 : Nat) (ls9 : Int32) (hI : nmP D cs N0 H o z (upK K 9 0 w0) r) (hN : N = H.size) (hn1 : n1 < z 3 0) (hn2 : n2 < z 3 0) : Met l y_Nm_isLost w_Nm_isLost ({ frames := 8, cells := 0, slots := 0, locals := 185 }) (hPre D cs N0 [.ref (o 0 0), .ref (o 10 n1), .ref (o 10 n2), .int ls9] H) (hQi (fun r9 H' => r9 = bI (lostP z K n1 n2 ls9) ∧ ∃ w : Nat → Int32, nmP D cs N0 H' o z (upK K 9 0 w) r) (jA [o 9 0] N)) 0 0 (jA [o 9 0] N) := by
  refine Met.ofW (cc := prog_1_method_36_code) (maxL := 4) (ret := (Option.some Jvm.ClassFile.FieldType.boolean)) (by decide) rfl ?_
  intro p e s m args below meth c s₁ B hml hv
  obtain ⟨rfl, rfl, hB⟩ := hv
  have hx := B.exec
  have hb := B.bytes
  have hr := B.returns
  have hts := atoms_spec (ws := w_Nm_isLost) B.pre
  have htg : ∀ w ∈ gw, w.before _ s = true := fun w h => hts w (List.mem_cons_of_mem _ h)
  have hown : s.vm.findClass "NameMerges" = some m.cls := findClass_of_methodNamed B.named
  have hlocks := B.notSynchronized
  have hAN : ∀ q, (jA [o 9 0] N) q → N0 ≤ q := jA_sub1 (hI.ge (k := 9) (n := 0) rfl) (fun q9 h9 => Nat.le_trans hB.2.1 (hN ▸ h9))
  have hK := hB.1
  obtain ⟨H, hH⟩ : ∃ z : Heap, z = s.heap := ⟨_, rfl⟩
  have hz0 : H.size = s.heap.size := by rw [hH]
  have hN0 := hB.2.1
  rw [← hH] at hI
  have hS : va_S (jA [o 9 0] N) s.heap H [] := by rw [hH]; exact va_S.rf
  have hl := lv_entry ([.ref (o 0 0), .ref (o 10 n1), .ref (o 10 n2), .int ls9]) (n := 4) (Nat.le_of_ble_eq_true rfl)
  rw [lg_entry_eq, ← hH]
  generalize (lg_sl ([.ref (o 0 0), .ref (o 10 n1), .ref (o 10 n2), .int ls9]) ++ List.replicate (4 - (lg_sl ([.ref (o 0 0), .ref (o 10 n1), .ref (o 10 n2), .int ls9])).length) Slot.unset).toArray = ls at hl ⊢
  have hl : lv_has ls 4 [(0, .ref (o 0 0)), (1, .ref (o 10 n1)), (2, .ref (o 10 n2)), (3, .int ls9)] := hl
  obtain ⟨hb0, hb1, hb3, hb5, hb4, hb6, hb11, hb17⟩ := hI.2.2.1
  have h111 := hb11 n1
  have h112 := hb11 n2
  refine lv_aload_n hx hb d_Nm_isLost_0 rfl (lv_at hl 1 rfl) ?_
  refine hx_get (ref := "NameMerges$Name") (v := .int (K 10 n1 1)) hx hb htg iNa hown hK (show va_at D vwCl (o 10 n1, .inr (2, [.ref (o 11 n1), .ref (o 13 n1), va_rf (if z 14 n1 = 0 then none else some (o 14 n1)), .int (K 10 n1 0), .int (K 10 n1 1), .int (K 10 n1 2), .int (K 10 n1 3)])) H from hI.at (k := 10) (n := n1) (show nmv z 10 n1 from (show n1 < z 3 0 by omega))) rfl 4 (by decide) (htg _ (gw_mem (i := 661) (by decide +kernel) rfl)) (fun _ h9 => h9) rfl d_Nm_isLost_1 ?_
  refine lv_aload_n hx hb d_Nm_isLost_4 rfl (lv_at hl 2 rfl) ?_
  refine hx_get (ref := "NameMerges$Name") (v := .int (K 10 n2 1)) hx hb htg iNa hown hK (show va_at D vwCl (o 10 n2, .inr (2, [.ref (o 11 n2), .ref (o 13 n2), va_rf (if z 14 n2 = 0 then none else some (o 14 n2)), .int (K 10 n2 0), .int (K 10 n2 1), .int (K 10 n2 2), .int (K 10 n2 3)])) H from hI.at (k := 10) (n := n2) (show nmv z 10 n2 from (show n2 < z 3 0 by omega))) rfl 4 (by decide) (htg _ (gw_mem (i := 661) (by decide +kernel) rfl)) (fun _ h9 => h9) rfl d_Nm_isLost_5 ?_
  refine lv_iand (x := (K 10 n1 1)) (y := (K 10 n2 1)) hx hb d_Nm_isLost_8 ?_
  refine lv_if_ne (x := ((K 10 n1 1) &&& (K 10 n2 1))) (tgt := 26) hx hb d_Nm_isLost_9 (by decide) (fun c9 => ?_) (fun c9 => ?_)
  · skip
    refine lv_iconst (v := 0) hx hb d_Nm_isLost_26 (by decide) ?_
    exact W.zret (v := 0) hx hb hr (by decide) (fun t ht hW => ⟨⟨0, H, rfl, ⟨by simp [lostP, bI, c9], _, hI⟩, ht⟩, hS.F ht⟩) hS.2.2 d_Nm_isLost_27
  · skip
    refine lv_aload_n hx hb d_Nm_isLost_12 rfl (lv_at hl 0 rfl) ?_
    refine lv_aload_n hx hb d_Nm_isLost_13 rfl (lv_at hl 1 rfl) ?_
    refine lv_aload_n hx hb d_Nm_isLost_14 rfl (lv_at hl 2 rfl) ?_
    obtain ⟨nq1, hnq1⟩ : ∃ z : Nat, z = H.size := ⟨_, rfl⟩
    refine h_calli (va_runV (As := [.ref (o 10 n1), .ref (o 10 n2)]) (rest := []) ⟨hx, hb, hml, hown, htg⟩ (c_Nm_likeness l D cs N0 H o z K r w0 nq1 n1 n2 hI hnq1 (show n1 < z 3 0 by omega) (show n2 < z 3 0 by omega)) ⟨x_cwB 2 htg (gw_mem (i := 540) (by decide +kernel) rfl) (gw_mem (i := 30) (by decide +kernel) rfl) (gw_mem (i := 537) (by decide +kernel) rfl) (by decide +kernel) ⟨Nat.le_of_ble_eq_true rfl, Nat.le_of_ble_eq_true rfl⟩, htg _ (gw_mem (i := 539) (by decide +kernel) rfl), htg _ (gw_mem (i := 2) (by decide +kernel) rfl)⟩ ⟨hPre.blind, hx_recv hK (ci := 1) rfl (show va_at D vwCl (o 0 0, .inr (1, [.ref (o 1 0), .ref (o 3 0), .ref (o 5 0), .ref (o 7 0), .ref (o 8 0), .int (nI (z 0 0)), .int (K 0 0 0), .ref (o 9 0)])) H from hI.at (k := 0) (n := 0) (show nmv z 0 0 from rfl)), hPre.at hB hS hAN⟩ rfl rfl hl.1 rfl (lv_room (Nat.le_of_ble_eq_true rfl)) d_Nm_isLost_15 ⟨Nat.le_of_ble_eq_true rfl, Nat.le_of_ble_eq_true rfl⟩) hS (jA_sub1 jA_in1 (fun q9 h9 => Or.inr (show N ≤ q9 by omega))) (fun r15 H locs hp hz hk hS => ?_)
    obtain ⟨hr9, w2, hI⟩ := hp
    subst hr9
    refine lv_iload_n hx hb d_Nm_isLost_18 rfl (lv_at hl 3 rfl) ?_
    refine lv_icmp_lt (x := (lkV z K n1 n2)) (y := ls9) (tgt := 26) hx hb d_Nm_isLost_19 (by decide) (fun c19 => ?_) (fun c19 => ?_)
    · skip
      refine lv_iconst (v := 0) hx hb d_Nm_isLost_26 (by decide) ?_
      exact W.zret (v := 0) hx hb hr (by decide) (fun t ht hW => ⟨⟨0, H, rfl, ⟨by simp [lostP, bI, c9, c19], _, hI⟩, ht⟩, hS.F ht⟩) hS.2.2 d_Nm_isLost_27
    · skip
      refine lv_iconst (v := 1) hx hb d_Nm_isLost_22 (by decide) ?_
      refine lv_goto (tgt := 27) hx hb d_Nm_isLost_23 (by decide) ?_
      exact W.zret (v := 1) hx hb hr (by decide) (fun t ht hW => ⟨⟨1, H, rfl, ⟨by simp [lostP, bI, c9, c19], _, hI⟩, ht⟩, hS.F ht⟩) hS.2.2 d_Nm_isLost_27
