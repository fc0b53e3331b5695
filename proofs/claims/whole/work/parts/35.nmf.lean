def padF (z : Nat → Nat → Nat) (K : Nat → Nat → Nat → Int32) : Nat → Int32 := va_cpy (K 2 0) (fun _ => 0) 0 0 (z 1 0)
def fnS (z : Nat → Nat → Nat) (K : Nat → Nat → Nat → Int32) (day : Int32) (a : Int32) (n : Nat) : Int32 := if calB z K n day (z 1 0) (padF z K) = true then a ||| owV z K (nI n) day else a
def y_Nm_find : MethodName := ⟨"NameMerges", "find", "(I)I"⟩
abbrev w_Nm_find : List Cond := Cond.code y_Nm_find prog_1_method_17_code 4 (Option.some Jvm.ClassFile.FieldType.int) :: gw
theorem d_Nm_find_0 : decode prog_1_method_17_code 0 = .ok (.iload_n 1, 1) := by decide +kernel
theorem d_Nm_find_1 : decode prog_1_method_17_code 1 = .ok (.invokestatic 169, 3) := by decide +kernel
theorem d_Nm_find_4 : decode prog_1_method_17_code 4 = .ok (.aload_n 0, 1) := by decide +kernel
theorem d_Nm_find_5 : decode prog_1_method_17_code 5 = .ok (.getfield 12, 3) := by decide +kernel
theorem d_Nm_find_8 : decode prog_1_method_17_code 8 = .ok (.invokevirtual 101, 3) := by decide +kernel
theorem d_Nm_find_11 : decode prog_1_method_17_code 11 = .ok (.astore_n 2, 1) := by decide +kernel
theorem d_Nm_find_12 : decode prog_1_method_17_code 12 = .ok (.aload_n 0, 1) := by decide +kernel
theorem d_Nm_find_13 : decode prog_1_method_17_code 13 = .ok (.iconst 0, 1) := by decide +kernel
theorem d_Nm_find_14 : decode prog_1_method_17_code 14 = .ok (.putfield 37, 3) := by decide +kernel
theorem d_Nm_find_17 : decode prog_1_method_17_code 17 = .ok (.iconst 0, 1) := by decide +kernel
theorem d_Nm_find_18 : decode prog_1_method_17_code 18 = .ok (.istore_n 3, 1) := by decide +kernel
theorem d_Nm_find_19 : decode prog_1_method_17_code 19 = .ok (.iload_n 3, 1) := by decide +kernel
theorem d_Nm_find_20 : decode prog_1_method_17_code 20 = .ok (.aload_n 0, 1) := by decide +kernel
theorem d_Nm_find_21 : decode prog_1_method_17_code 21 = .ok (.getfield 19, 3) := by decide +kernel
theorem d_Nm_find_24 : decode prog_1_method_17_code 24 = .ok (.invokevirtual 67, 3) := by decide +kernel
theorem d_Nm_find_27 : decode prog_1_method_17_code 27 = .ok (.if_icmp .ge 43, 3) := by decide +kernel
theorem d_Nm_find_30 : decode prog_1_method_17_code 30 = .ok (.aload_n 0, 1) := by decide +kernel
theorem d_Nm_find_31 : decode prog_1_method_17_code 31 = .ok (.getfield 19, 3) := by decide +kernel
theorem d_Nm_find_34 : decode prog_1_method_17_code 34 = .ok (.iload_n 3, 1) := by decide +kernel
theorem d_Nm_find_35 : decode prog_1_method_17_code 35 = .ok (.invokevirtual 82, 3) := by decide +kernel
theorem d_Nm_find_38 : decode prog_1_method_17_code 38 = .ok (.checkcast 72, 3) := by decide +kernel
theorem d_Nm_find_41 : decode prog_1_method_17_code 41 = .ok (.aload_n 2, 1) := by decide +kernel
theorem d_Nm_find_42 : decode prog_1_method_17_code 42 = .ok (.iload_n 1, 1) := by decide +kernel
theorem d_Nm_find_43 : decode prog_1_method_17_code 43 = .ok (.invokestatic 207, 3) := by decide +kernel
theorem d_Nm_find_46 : decode prog_1_method_17_code 46 = .ok (.ifCond .eq 18, 3) := by decide +kernel
theorem d_Nm_find_49 : decode prog_1_method_17_code 49 = .ok (.aload_n 0, 1) := by decide +kernel
theorem d_Nm_find_50 : decode prog_1_method_17_code 50 = .ok (.dup, 1) := by decide +kernel
theorem d_Nm_find_51 : decode prog_1_method_17_code 51 = .ok (.getfield 37, 3) := by decide +kernel
theorem d_Nm_find_54 : decode prog_1_method_17_code 54 = .ok (.aload_n 0, 1) := by decide +kernel
theorem d_Nm_find_55 : decode prog_1_method_17_code 55 = .ok (.iload_n 3, 1) := by decide +kernel
theorem d_Nm_find_56 : decode prog_1_method_17_code 56 = .ok (.iload_n 1, 1) := by decide +kernel
theorem d_Nm_find_57 : decode prog_1_method_17_code 57 = .ok (.invokevirtual 137, 3) := by decide +kernel
theorem d_Nm_find_60 : decode prog_1_method_17_code 60 = .ok (.ior, 1) := by decide +kernel
theorem d_Nm_find_61 : decode prog_1_method_17_code 61 = .ok (.putfield 37, 3) := by decide +kernel
theorem d_Nm_find_64 : decode prog_1_method_17_code 64 = .ok (.iinc 3 1, 3) := by decide +kernel
theorem d_Nm_find_67 : decode prog_1_method_17_code 67 = .ok (.goto (-48), 3) := by decide +kernel
theorem d_Nm_find_70 : decode prog_1_method_17_code 70 = .ok (.aload_n 0, 1) := by decide +kernel
theorem d_Nm_find_71 : decode prog_1_method_17_code 71 = .ok (.getfield 37, 3) := by decide +kernel
theorem d_Nm_find_74 : decode prog_1_method_17_code 74 = .ok (.invokestatic 211, 3) := by decide +kernel
theorem d_Nm_find_77 : decode prog_1_method_17_code 77 = .ok (.ireturn, 1) := by decide +kernel
set_option maxHeartbeats 4000000 in
set_option maxRecDepth 100000 in
theorem c_Nm_find (l : Launch) (D : va_G) (cs : Nat → ClassId) (N0 : Nat) (H : Heap) (hl9 : l.stackTraces = false) (o z : Nat → Nat → Nat) (K : Nat → Nat → Nat → Int32) (r : Nat → Nat × Nat) (N : Nat) (day : Int32) (hI : nmP D cs N0 H o z K r) (hN : N = H.size) : tMet l y_Nm_find w_Nm_find ({ frames := 7, cells := 3, slots := 26, locals := 151 }) (hPre D cs N0 [.ref (o 0 0), .int day] H) (hT (fun v H' => goV (isD day) true true = 0 ∧ v = some (.int (bcV (upt (fnS z K day) (z 3 0) 0))) ∧ nmP D cs N0 H' o z (upK K 0 0 (upd (K 0 0) 0 (upt (fnS z K day) (z 3 0) 0))) r) (fun E => (E = "java/lang/IllegalArgumentException" ∧ goV (isD day) true true = 1)) (nmA r N)) 3 26 (nmA r N) := by
  refine tMet.ofW (cc := prog_1_method_17_code) (maxL := 4) (ret := (Option.some Jvm.ClassFile.FieldType.int)) (by decide) rfl ?_
  intro p e s m args below meth c s₁ B hml hno hv
  obtain ⟨rfl, rfl, hB⟩ := hv
  have hx := B.exec
  have hb := B.bytes
  have hr := B.returns
  have hts := atoms_spec (ws := w_Nm_find) B.pre
  have htg : ∀ w ∈ gw, w.before _ s = true := fun w h => hts w (List.mem_cons_of_mem _ h)
  have hown : s.vm.findClass "NameMerges" = some m.cls := findClass_of_methodNamed B.named
  have hlocks := B.notSynchronized
  have hAN : ∀ q, nmA r N q → N0 ≤ q := fun q9 h9 => h9.elim (hI.2.1 q9) (fun h9 => Nat.le_trans hB.2.1 (hN ▸ h9))
  have hK := hB.1
  obtain ⟨H, hH⟩ : ∃ z : Heap, z = s.heap := ⟨_, rfl⟩
  have hz0 : H.size = s.heap.size := by rw [hH]
  have hN0 := hB.2.1
  rw [← hH] at hI
  have hS : va_S noA s.heap H [] := by rw [hH]; exact va_S.rf
  have hl := lv_entry ([.ref (o 0 0), .int day]) (n := 4) (Nat.le_of_ble_eq_true rfl)
  rw [lg_entry_eq, ← hH]
  generalize (lg_sl ([.ref (o 0 0), .int day]) ++ List.replicate (4 - (lg_sl ([.ref (o 0 0), .int day])).length) Slot.unset).toArray = ls at hl ⊢
  have hl : lv_has ls 4 [(0, .ref (o 0 0)), (1, .int day)] := hl
  obtain ⟨hb0, hb1, hb3, hb5, hb4, hb6, hb11, hb17⟩ := hI.2.2.1
  have hIN : ∀ k9 n9, nmv z k9 n9 → o k9 n9 < N := fun k9 n9 hv9 => by have := hI.lt hv9; omega
  have hlt00 := hIN 0 0 rfl
  have hlt02 := hIN 2 0 rfl
  refine lv_iload_n hx hb d_Nm_find_0 rfl (lv_at hl 1 rfl) ?_
  refine t_S (As := [.int day]) (rest := []) ⟨hx, hb, hml, hown, htg⟩ (c_Nm_checkDay l D cs N0 H hl9 day) ⟨x_cwB 1 htg (gw_mem (i := 760) (by decide +kernel) rfl) (gw_mem (i := 30) (by decide +kernel) rfl) (gw_mem (i := 758) (by decide +kernel) rfl) (by decide +kernel) ⟨Nat.le_of_ble_eq_true rfl, Nat.le_of_ble_eq_true rfl⟩, htg _ (gw_mem (i := 759) (by decide +kernel) rfl)⟩ ⟨hPre.blind, hPre.at hB hS noA_in⟩ rfl hl.1 rfl (lv_room (Nat.le_of_ble_eq_true rfl)) d_Nm_find_1 ⟨Nat.le_of_ble_eq_true rfl, Nat.le_of_ble_eq_true rfl⟩ (fun x9 E9 ce9 H9 L9 hL9 hb9 hc9 hv9 hf9 hz9 hk9 => ?_) (fun v9 H9 L9 hL9 hp9 hz9 hk9 => ?_)
  · have hn9 := noL hL9
    subst hn9
    have hnil := noL hS.2.2
    first | subst hnil | skip
    exact t_out (A := (nmA r N)) rfl hno hlocks ((⟨hb9.1, by simp [goV, hb9.2]⟩)) hc9 hv9 hf9 (Nat.le_of_ble_eq_true rfl) (Nat.le_of_ble_eq_true rfl)
  · skip
    obtain ⟨hv9, hH9, hq1⟩ := hp9
    have hn8 := noL hL9
    subst hn8
    rw [hv9, hH9, List.append_nil]
    refine W.eq (g2 := F0 m 4 ls []) rfl ?_
    refine lv_aload_n hx hb d_Nm_find_4 rfl (lv_at hl 0 rfl) ?_
    refine hx_get (ref := "NameMerges") (v := .ref (o 1 0)) hx hb htg iNm hown hK (show va_at D vwCl (o 0 0, .inr (1, [.ref (o 1 0), .ref (o 3 0), .ref (o 5 0), .ref (o 7 0), .ref (o 8 0), .int (nI (z 0 0)), .int (K 0 0 0), .ref (o 9 0)])) H from hI.at (k := 0) (n := 0) (show nmv z 0 0 from rfl)) rfl 0 (by decide) (htg _ (gw_mem (i := 126) (by decide +kernel) rfl)) (fun _ h9 => h9) rfl d_Nm_find_5 ?_
    replace hS := x_wk (A' := (nmA r N)) hS (fun _ h9 => h9.elim)
    obtain ⟨nq2, hnq2⟩ : ∃ z : Nat, z = H.size := ⟨_, rfl⟩
    refine h_callq (va_runV (As := []) (rest := []) ⟨hx, hb, hml, hown, htg⟩ (c_SB_toString l D cs N0 H (o 1 0) (o 2 0) (z 1 0) nq2 (K 1 0 0) (K 2 0) (show va_at D vwCl (o 1 0, .inr (7, [.ref (o 2 0), .int 0, .int (K 1 0 0), .int (nI (z 1 0))])) H from hI.at (k := 1) (n := 0) (show nmv z 1 0 from rfl)) (show va_at D vwCl (o 2 0, .inl (cs 2, (16, .inl (K 2 0)))) H from hI.at (k := 2) (n := 0) (show nmv z 2 0 from rfl)) hnq2 (hI.ge (k := 2) (n := 0) (show nmv z 2 0 from rfl)) (hI.ne (k := 1) (n := 0) (k' := 2) (n' := 0) (show nmv z 1 0 from rfl) (show nmv z 2 0 from rfl) (Or.inl (by decide))) (by omega) (fun i9 h9 => sgN_fit (hI.2.2.2.1 i9 h9))) ⟨x_cwB 0 htg (gw_mem (i := 326) (by decide +kernel) rfl) (gw_mem (i := 32) (by decide +kernel) rfl) (gw_mem (i := 764) (by decide +kernel) rfl) (by decide +kernel) ⟨Nat.le_of_ble_eq_true rfl, Nat.le_of_ble_eq_true rfl⟩, htg _ (gw_mem (i := 324) (by decide +kernel) rfl), htg _ (gw_mem (i := 325) (by decide +kernel) rfl)⟩ ⟨hPre.blind, hx_recv hK (ci := 7) rfl (show va_at D vwCl (o 1 0, .inr (7, [.ref (o 2 0), .int 0, .int (K 1 0 0), .int (nI (z 1 0))])) H from hI.at (k := 1) (n := 0) (show nmv z 1 0 from rfl)), hPre.at hB hS hAN⟩ rfl rfl hl.1 rfl (lv_room (Nat.le_of_ble_eq_true rfl)) d_Nm_find_8 ⟨Nat.le_of_ble_eq_true rfl, Nat.le_of_ble_eq_true rfl⟩) hS (jA_sub1 (hI.inA (k := 2) (n := 0) (show nmv z 2 0 from rfl)) (fun q9 h9 => Or.inr (show N ≤ q9 by omega))) (fun r8 H locs hp hz hk hS => ?_)
    obtain ⟨hr9, hO3, hO4, hO5⟩ := hp
    subst hr9
    refine lv_eqv (y := .ref nq2) rfl ?_
    replace hI : nmP D cs N0 H o z K r := hI.keep2 hO4 (fun q9 h7 h8 => hk q9 h7 (jA_not1 h8 (by omega)))
    refine lv_astore_n (lv' := [(2, .ref nq2), (0, .ref (o 0 0)), (1, .int day)]) hx hb d_Nm_find_11 rfl hl (by decide) rfl (fun ls hl => ?_)
    refine lv_aload_n hx hb d_Nm_find_12 rfl (lv_at hl 1 rfl) ?_
    refine lv_iconst (v := 0) hx hb d_Nm_find_13 (by decide) ?_
    refine hx_put (ref := "NameMerges") (ty := .int) (v := .int 0) hx hb htg iNm tNm tNm_ok nNm hown hK (show va_at D vwCl (o 0 0, .inr (1, [.ref (o 1 0), .ref (o 3 0), .ref (o 5 0), .ref (o 7 0), .ref (o 8 0), .int (nI (z 0 0)), .int (K 0 0 0), .ref (o 9 0)])) H from hI.at (k := 0) (n := 0) (show nmv z 0 0 from rfl)) hS (hI.inA (k := 0) (n := 0) (show nmv z 0 0 from rfl)) rfl 6 (by decide) (htg _ (gw_mem (i := 132) (by decide +kernel) rfl)) (fun _ h9 => h9) rfl (by decide +kernel) rfl rfl (Nat.le_of_ble_eq_true rfl) d_Nm_find_14 (fun H locs hat hz ho hS => ?_)
    replace hI : nmP D cs N0 H o z (upK K 0 0 (upd (K 0 0) 0 (0))) r := hI.put (k0 := 0) (n0 := 0) rfl (by decide) hat (fun q9 _ h9 => ho q9 h9)
    replace hO3 := hx_keep hO3 (ho _ (show nq2 ≠ o 0 0 by omega))
    replace hO5 := hx_keep hO5 (ho _ (show nq2 + 1 ≠ o 0 0 by omega))
    refine lv_iconst (v := 0) hx hb d_Nm_find_17 (by decide) ?_
    refine lv_istore_n (lv' := [(3, .int 0), (2, .ref nq2), (0, .ref (o 0 0)), (1, .int day)]) hx hb d_Nm_find_18 rfl hl (by decide) rfl (fun ls hl => ?_)
    have loop19 : ∀ (fuel : Nat) (n : Nat) (fa : Int32), z 3 0 - n < fuel → (n ≤ z 3 0) → (fa = upt (fnS z K day) n 0) → ∀ (H : Heap) (locs : List Loc), nmP D cs N0 H o z (upK K 0 0 (upd (K 0 0) 0 fa)) r → va_at D vwCl (nq2, .inr (8, [.ref (nq2 + 1), .int 0, .int 0, .int 0])) H → va_at D vwCl (nq2 + 1, .inl (cs 2, ((z 1 0), .inl (va_cpy (K 2 0) (fun _ => 0) 0 0 ((z 1 0)))))) H → va_S (nmA r N) s.heap H locs → ∀ (ls : Array Slot), lv_has ls 4 [(0, .ref (o 0 0)), (1, .int day), (2, .ref nq2), (3, .int (nI n))] → W p l e (headSpec w_Nm_find ({ frames := 7, cells := 3, slots := 26, locals := 151 })).room s m ([.ref (o 0 0), .int day] : List Value).toArray below meth c H locs 3 26 (tMQ below (hT (fun v H' => goV (isD day) true true = 0 ∧ v = some (.int (bcV (upt (fnS z K day) (z 3 0) 0))) ∧ nmP D cs N0 H' o z (upK K 0 0 (upd (K 0 0) 0 (upt (fnS z K day) (z 3 0) 0))) r) (fun E => (E = "java/lang/IllegalArgumentException" ∧ goV (isD day) true true = 1)) (nmA r N)) ([.ref (o 0 0), .int day] : List Value).toArray s 3 26 (nmA r N)) (F0 m 19 ls []) := by
      intro fuel19
      induction fuel19 with
      | zero => intro n fa hn; exact absurd hn (Nat.not_lt_zero _)
      | succ fuel19 ih19 =>
        intro n fa hn19 hn hfa H locs hI hO3 hO5 hS ls hl
        have hz9 := hS.1
        refine lv_iload_n hx hb d_Nm_find_19 rfl (lv_at hl 3 rfl) ?_
        refine lv_aload_n hx hb d_Nm_find_20 rfl (lv_at hl 0 rfl) ?_
        refine hx_get (ref := "NameMerges") (v := .ref (o 3 0)) hx hb htg iNm hown hK (show va_at D vwCl (o 0 0, .inr (1, [.ref (o 1 0), .ref (o 3 0), .ref (o 5 0), .ref (o 7 0), .ref (o 8 0), .int (nI (z 0 0)), .int fa, .ref (o 9 0)])) H from hI.at (k := 0) (n := 0) (show nmv z 0 0 from rfl)) rfl 1 (by decide) (htg _ (gw_mem (i := 127) (by decide +kernel) rfl)) (fun _ h9 => h9) rfl d_Nm_find_21 ?_
        refine h_purei (va_runV (As := []) (rest := [.int (nI n)]) ⟨hx, hb, hml, hown, htg⟩ (c_AL_size l D cs N0 H (o 3 0) (nmL cs (z 3 0) (o 4 0)) (z 3 0) (K 3 0 0) (show va_at D vwCl (o 3 0, .inr (6, [.ref (nmL cs (z 3 0) (o 4 0)), .int (nI (z 3 0)), .int (K 3 0 0)])) H from hI.at (k := 3) (n := 0) (show nmv z 3 0 from rfl))) ⟨x_cwB 0 htg (gw_mem (i := 503) (by decide +kernel) rfl) (gw_mem (i := 37) (by decide +kernel) rfl) (gw_mem (i := 500) (by decide +kernel) rfl) (by decide +kernel) ⟨Nat.le_of_ble_eq_true rfl, Nat.le_of_ble_eq_true rfl⟩, htg _ (gw_mem (i := 501) (by decide +kernel) rfl), htg _ (gw_mem (i := 502) (by decide +kernel) rfl)⟩ ⟨hPre.blind, hx_recv hK (ci := 6) rfl (show va_at D vwCl (o 3 0, .inr (6, [.ref (nmL cs (z 3 0) (o 4 0)), .int (nI (z 3 0)), .int (K 3 0 0)])) H from hI.at (k := 3) (n := 0) (show nmv z 3 0 from rfl)), hPre.at hB hS hAN⟩ rfl rfl hl.1 rfl (lv_room (Nat.le_of_ble_eq_true rfl)) d_Nm_find_24 ⟨Nat.le_of_ble_eq_true rfl, Nat.le_of_ble_eq_true rfl⟩) hS (fun locs hS => ?_)
        refine lv_icmp_ge (x := (nI n)) (y := (nI (z 3 0))) (tgt := 70) hx hb d_Nm_find_27 (by decide) (fun c27 => ?_) (fun c27 => ?_)
        · skip
          replace c27 : (z 3 0) ≤ n := (nI_leI (a := (z 3 0)) (b := n) (by omega) (by omega)).mp c27
          refine lv_aload_n hx hb d_Nm_find_70 rfl (lv_at hl 0 rfl) ?_
          refine hx_get (ref := "NameMerges") (v := .int fa) hx hb htg iNm hown hK (show va_at D vwCl (o 0 0, .inr (1, [.ref (o 1 0), .ref (o 3 0), .ref (o 5 0), .ref (o 7 0), .ref (o 8 0), .int (nI (z 0 0)), .int fa, .ref (o 9 0)])) H from hI.at (k := 0) (n := 0) (show nmv z 0 0 from rfl)) rfl 6 (by decide) (htg _ (gw_mem (i := 132) (by decide +kernel) rfl)) (fun _ h9 => h9) rfl d_Nm_find_71 ?_
          refine h_purei (va_runS (As := [.int fa]) (rest := []) ⟨hx, hb, hml, hown, htg⟩ (c_In_bitCount l D cs N0 H fa) ⟨x_cwB 1 htg (gw_mem (i := 933) (by decide +kernel) rfl) (gw_mem (i := 52) (by decide +kernel) rfl) (gw_mem (i := 931) (by decide +kernel) rfl) (by decide +kernel) ⟨Nat.le_of_ble_eq_true rfl, Nat.le_of_ble_eq_true rfl⟩, htg _ (gw_mem (i := 932) (by decide +kernel) rfl)⟩ ⟨hPre.blind, hPre.at hB hS hAN⟩ rfl rfl hl.1 rfl (lv_room (Nat.le_of_ble_eq_true rfl)) d_Nm_find_74 ⟨Nat.le_of_ble_eq_true rfl, Nat.le_of_ble_eq_true rfl⟩) hS (fun locs hS => ?_)
          refine lv_eqi (y := (bcV fa)) rfl ?_
          refine t_ret ?_
          exact W.iret (v := (bcV fa)) hx hb hr (fun t ht hW => Or.inl ⟨some (.int ((bcV fa))), rfl, (by rw [ht]; exact ⟨(by simp [goV, c27, hq1]), by rw [hfa, show n = z 3 0 by omega], by rw [← show n = z 3 0 by omega, ← hfa]; exact hI⟩), hS.F ht⟩) hS.2.2 d_Nm_find_77
        · skip
          replace c27 : ¬ ((z 3 0) ≤ n) := fun z9 => c27 ((nI_leI (a := (z 3 0)) (b := n) (by omega) (by omega)).mpr z9)
          refine lv_aload_n hx hb d_Nm_find_30 rfl (lv_at hl 0 rfl) ?_
          refine hx_get (ref := "NameMerges") (v := .ref (o 3 0)) hx hb htg iNm hown hK (show va_at D vwCl (o 0 0, .inr (1, [.ref (o 1 0), .ref (o 3 0), .ref (o 5 0), .ref (o 7 0), .ref (o 8 0), .int (nI (z 0 0)), .int fa, .ref (o 9 0)])) H from hI.at (k := 0) (n := 0) (show nmv z 0 0 from rfl)) rfl 1 (by decide) (htg _ (gw_mem (i := 127) (by decide +kernel) rfl)) (fun _ h9 => h9) rfl d_Nm_find_31 ?_
          refine lv_iload_n hx hb d_Nm_find_34 rfl (lv_at hl 3 rfl) ?_
          refine h_pureq (va_runV (As := [.int (nI n)]) (rest := []) ⟨hx, hb, hml, hown, htg⟩ (c_names_get l D cs N0 H o z (upK K 0 0 (upd (K 0 0) 0 (fa))) r n hI (show n < z 3 0 by omega)) ⟨x_cwB 1 htg (gw_mem (i := 512) (by decide +kernel) rfl) (gw_mem (i := 37) (by decide +kernel) rfl) (gw_mem (i := 509) (by decide +kernel) rfl) (by decide +kernel) ⟨Nat.le_of_ble_eq_true rfl, Nat.le_of_ble_eq_true rfl⟩, htg _ (gw_mem (i := 510) (by decide +kernel) rfl), htg _ (gw_mem (i := 511) (by decide +kernel) rfl)⟩ ⟨hPre.blind, hx_recv hK (ci := 6) rfl (show va_at D vwCl (o 3 0, .inr (6, [.ref (nmL cs (z 3 0) (o 4 0)), .int (nI (z 3 0)), .int (K 3 0 0)])) H from hI.at (k := 3) (n := 0) (show nmv z 3 0 from rfl)), hPre.at hB hS hAN⟩ rfl rfl hl.1 rfl (lv_room (Nat.le_of_ble_eq_true rfl)) d_Nm_find_35 ⟨Nat.le_of_ble_eq_true rfl, Nat.le_of_ble_eq_true rfl⟩) hS (fun locs hS => ?_)
          refine lv_eqv (y := .ref (o 10 n)) rfl ?_
          refine va_castS hx hb hown (htg _ (gw_mem (i := 536) (by decide +kernel) rfl)) (x_at hK (ci := 2) rfl) (hx_recv hK (ci := 2) rfl (show va_at D vwCl (o 10 n, .inr (2, [.ref (o 11 n), .ref (o 13 n), va_rf (if z 14 n = 0 then none else some (o 14 n)), .int (K 10 n 0), .int (K 10 n 1), .int (K 10 n 2), .int (K 10 n 3)])) H from hI.at (k := 10) (n := n) (show nmv z 10 n from (show n < z 3 0 by omega)))) d_Nm_find_38 ?_
          refine lv_aload_n hx hb d_Nm_find_41 rfl (lv_at hl 2 rfl) ?_
          refine lv_iload_n hx hb d_Nm_find_42 rfl (lv_at hl 1 rfl) ?_
          refine h_purei (va_runS (As := [.ref (o 10 n), .ref nq2, .int day]) (rest := []) ⟨hx, hb, hml, hown, htg⟩ (c_Nm_isCalled l D cs N0 H o z (upK K 0 0 (upd (K 0 0) 0 (fa))) r n nq2 (nq2 + 1) ((z 1 0)) day 0 0 (va_cpy (K 2 0) (fun _ => 0) 0 0 ((z 1 0))) hI (by omega) hO3 hO5 (fun m9 hv9 => by have := hIN 16 m9 hv9; omega) (by omega)) ⟨x_cwB 3 htg (gw_mem (i := 918) (by decide +kernel) rfl) (gw_mem (i := 30) (by decide +kernel) rfl) (gw_mem (i := 916) (by decide +kernel) rfl) (by decide +kernel) ⟨Nat.le_of_ble_eq_true rfl, Nat.le_of_ble_eq_true rfl⟩, htg _ (gw_mem (i := 917) (by decide +kernel) rfl)⟩ ⟨hPre.blind, hPre.at hB hS hAN⟩ rfl rfl hl.1 rfl (lv_room (Nat.le_of_ble_eq_true rfl)) d_Nm_find_43 ⟨Nat.le_of_ble_eq_true rfl, Nat.le_of_ble_eq_true rfl⟩) hS (fun locs hS => ?_)
          refine lv_eqi (y := (bI (calB z K n day ((z 1 0)) (va_cpy (K 2 0) (fun _ => 0) 0 0 ((z 1 0)))))) rfl ?_
          refine lv_if_eq (x := (bI (calB z K n day ((z 1 0)) (va_cpy (K 2 0) (fun _ => 0) 0 0 ((z 1 0)))))) (tgt := 64) hx hb d_Nm_find_46 (by decide) (fun c46 => ?_) (fun c46 => ?_)
          · skip
            replace c46 : (calB z K n day ((z 1 0)) (va_cpy (K 2 0) (fun _ => 0) 0 0 ((z 1 0)))) = false := bI_0 c46
            refine lv_iinc (v := (nI (n + 1))) (lv' := [(3, .int (nI (n + 1))), (0, .ref (o 0 0)), (1, .int day), (2, .ref nq2)]) hx hb d_Nm_find_64 hl (k := 3) rfl (nI_1 n) (by decide) rfl (fun ls hl => ?_)
            refine lv_goto (tgt := 19) hx hb d_Nm_find_67 (by decide) ?_
            exact ih19  (n + 1) fa (by omega) (by omega) (by rw [show upt (fnS z K day) (n + 1) 0 = fnS z K day (upt (fnS z K day) n 0) n from rfl, ← hfa]; simp [fnS, padF, c46]) _ _ hI hO3 hO5 hS ls (lv_sub hl [1, 2, 3, 0] rfl)
          · skip
            replace c46 : (calB z K n day ((z 1 0)) (va_cpy (K 2 0) (fun _ => 0) 0 0 ((z 1 0)))) = true := bI_1 c46
            refine lv_aload_n hx hb d_Nm_find_49 rfl (lv_at hl 0 rfl) ?_
            refine lv_dup hx hb d_Nm_find_50 rfl ?_
            refine hx_get (ref := "NameMerges") (v := .int fa) hx hb htg iNm hown hK (show va_at D vwCl (o 0 0, .inr (1, [.ref (o 1 0), .ref (o 3 0), .ref (o 5 0), .ref (o 7 0), .ref (o 8 0), .int (nI (z 0 0)), .int fa, .ref (o 9 0)])) H from hI.at (k := 0) (n := 0) (show nmv z 0 0 from rfl)) rfl 6 (by decide) (htg _ (gw_mem (i := 132) (by decide +kernel) rfl)) (fun _ h9 => h9) rfl d_Nm_find_51 ?_
            refine lv_aload_n hx hb d_Nm_find_54 rfl (lv_at hl 0 rfl) ?_
            refine lv_iload_n hx hb d_Nm_find_55 rfl (lv_at hl 3 rfl) ?_
            refine lv_iload_n hx hb d_Nm_find_56 rfl (lv_at hl 1 rfl) ?_
            refine h_purei (va_runV (As := [.int (nI n), .int day]) (rest := [.int fa, .ref (o 0 0)]) ⟨hx, hb, hml, hown, htg⟩ (c_Nm_oneWith l D cs N0 H o z (upK K 0 0 (upd (K 0 0) 0 (fa))) r (nI n) day hI) ⟨x_cwB 2 htg (gw_mem (i := 508) (by decide +kernel) rfl) (gw_mem (i := 30) (by decide +kernel) rfl) (gw_mem (i := 505) (by decide +kernel) rfl) (by decide +kernel) ⟨Nat.le_of_ble_eq_true rfl, Nat.le_of_ble_eq_true rfl⟩, htg _ (gw_mem (i := 507) (by decide +kernel) rfl), htg _ (gw_mem (i := 1) (by decide +kernel) rfl)⟩ ⟨hPre.blind, hx_recv hK (ci := 1) rfl (show va_at D vwCl (o 0 0, .inr (1, [.ref (o 1 0), .ref (o 3 0), .ref (o 5 0), .ref (o 7 0), .ref (o 8 0), .int (nI (z 0 0)), .int fa, .ref (o 9 0)])) H from hI.at (k := 0) (n := 0) (show nmv z 0 0 from rfl)), hPre.at hB hS hAN⟩ rfl rfl hl.1 rfl (lv_room (Nat.le_of_ble_eq_true rfl)) d_Nm_find_57 ⟨Nat.le_of_ble_eq_true rfl, Nat.le_of_ble_eq_true rfl⟩) hS (fun locs hS => ?_)
            refine lv_eqi (y := (owV z K (nI n) day)) rfl ?_
            refine lv_ior (x := fa) (y := (owV z K (nI n) day)) hx hb d_Nm_find_60 ?_
            refine hx_put (ref := "NameMerges") (ty := .int) (v := .int (fa ||| (owV z K (nI n) day))) hx hb htg iNm tNm tNm_ok nNm hown hK (show va_at D vwCl (o 0 0, .inr (1, [.ref (o 1 0), .ref (o 3 0), .ref (o 5 0), .ref (o 7 0), .ref (o 8 0), .int (nI (z 0 0)), .int fa, .ref (o 9 0)])) H from hI.at (k := 0) (n := 0) (show nmv z 0 0 from rfl)) hS (hI.inA (k := 0) (n := 0) (show nmv z 0 0 from rfl)) rfl 6 (by decide) (htg _ (gw_mem (i := 132) (by decide +kernel) rfl)) (fun _ h9 => h9) rfl (by decide +kernel) rfl rfl (Nat.le_of_ble_eq_true rfl) d_Nm_find_61 (fun H locs hat hz ho hS => ?_)
            replace hI : nmP D cs N0 H o z (upK K 0 0 (upd (K 0 0) 0 ((fa ||| (owV z K (nI n) day))))) r := hI.put0 hat (fun q9 _ h9 => ho q9 h9)
            replace hO3 := hx_keep hO3 (ho _ (show nq2 ≠ o 0 0 by omega))
            replace hO5 := hx_keep hO5 (ho _ (show nq2 + 1 ≠ o 0 0 by omega))
            refine lv_iinc (v := (nI (n + 1))) (lv' := [(3, .int (nI (n + 1))), (0, .ref (o 0 0)), (1, .int day), (2, .ref nq2)]) hx hb d_Nm_find_64 hl (k := 3) rfl (nI_1 n) (by decide) rfl (fun ls hl => ?_)
            refine lv_goto (tgt := 19) hx hb d_Nm_find_67 (by decide) ?_
            exact ih19  (n + 1) ((fa ||| (owV z K (nI n) day))) (by omega) (by omega) (by rw [show upt (fnS z K day) (n + 1) 0 = fnS z K day (upt (fnS z K day) n 0) n from rfl, ← hfa]; simp [fnS, padF, c46]) _ _ hI hO3 hO5 hS ls (lv_sub hl [1, 2, 3, 0] rfl)
    exact loop19 ((z 3 0 - 0) + 1) 0 0 (Nat.lt_succ_self _) (Nat.zero_le _) rfl _ _ hI hO3 hO5 hS ls (lv_sub hl [2, 3, 1, 0] rfl)
def kpS (st : Nat × (Nat → Int32)) (pl : Int32) : Nat × (Nat → Int32) := if st.1 < 276 then (st.1 + 1, upd st.2 st.1 pl) else st
def canP (z : Nat → Nat → Nat) (K : Nat → Nat → Nat → Int32) (q : Int32) (a b : Nat) : Bool := !hasB (owV z K (nI a) 100000) (nI b) && decide (K 7 0 (a * 24 + b) = 0) && !decide (lkV z K a b < q)
def cnS (z : Nat → Nat → Nat) (K : Nat → Nat → Nat → Int32) (q : Int32) (a : Nat) (st : Nat × (Nat → Int32)) (b : Nat) : Nat × (Nat → Int32) := if (decide (a < b) && canP z K q a b) = true then kpS st (nI (a * 24 + b)) else st
def cnR (z : Nat → Nat → Nat) (K : Nat → Nat → Nat → Int32) (q : Int32) (st : Nat × (Nat → Int32)) (a : Nat) : Nat × (Nat → Int32) := upt (cnS z K q a) (z 3 0) st
theorem cn_low {z : Nat → Nat → Nat} {K : Nat → Nat → Nat → Int32} {q : Int32} {a : Nat} {st : Nat × (Nat → Int32)} : ∀ m, m ≤ a + 1 → upt (cnS z K q a) m st = st
  | 0, _ => rfl
  | m + 1, h => by
    show cnS z K q a (upt (cnS z K q a) m st) m = st
    rw [cn_low m (by omega)]
    unfold cnS
    rw [decide_eq_false (by omega)]
    rfl
theorem plc_lt {a b : Nat} (h : a < b) (hb : b < 1000) : plcV (nI a) (nI b) = nI (a * 24 + b) := by
  rw [plc_nI (by omega) hb, Nat.min_eq_left (by omega), Nat.max_eq_right (by omega)]
theorem kp_post {D : va_G} {cs : Nat → ClassId} {N0 c : Nat} {H : Heap} {o z : Nat → Nat → Nat} {K : Nat → Nat → Nat → Int32} {r : Nat → Nat × Nat} {g w : Nat → Int32} {pl : Int32} (h : if c < 276 then nmP D cs N0 H o (upZ (upZ z 0 0 c) 0 0 (c + 1)) (upK (upK (upK K 8 0 g) 9 0 w) 8 0 (upd g c pl)) r else nmP D cs N0 H o (upZ z 0 0 c) (upK (upK K 8 0 g) 9 0 w) r) : nmP D cs N0 H o (upZ z 0 0 (kpS (c, g) pl).1) (upK (upK K 8 0 (kpS (c, g) pl).2) 9 0 w) r := by
  unfold kpS
  by_cases hc : c < 276
  · rw [if_pos hc] at h
    rw [if_pos (show (c, g).1 < 276 from hc)]
    exact h.pair
  · rw [if_neg hc] at h
    rw [if_neg (show ¬ (c, g).1 < 276 from hc)]
    exact h
theorem upK_nf {K : Nat → Nat → Nat → Int32} : upK (upK K 8 0 (K 8 0)) 9 0 (K 9 0) = K := by rw [upK_self, upK_self]
def y_Nm_candidates : MethodName := ⟨"NameMerges", "candidates", "(I)I"⟩
abbrev w_Nm_candidates : List Cond := Cond.code y_Nm_candidates prog_1_method_8_code 6 (Option.some Jvm.ClassFile.FieldType.int) :: gw
theorem d_Nm_candidates_0 : decode prog_1_method_8_code 0 = .ok (.aload_n 0, 1) := by decide +kernel
theorem d_Nm_candidates_1 : decode prog_1_method_8_code 1 = .ok (.iconst 0, 1) := by decide +kernel
theorem d_Nm_candidates_2 : decode prog_1_method_8_code 2 = .ok (.putfield 33, 3) := by decide +kernel
theorem d_Nm_candidates_5 : decode prog_1_method_8_code 5 = .ok (.iconst 0, 1) := by decide +kernel
theorem d_Nm_candidates_6 : decode prog_1_method_8_code 6 = .ok (.istore_n 2, 1) := by decide +kernel
theorem d_Nm_candidates_7 : decode prog_1_method_8_code 7 = .ok (.iload_n 2, 1) := by decide +kernel
theorem d_Nm_candidates_8 : decode prog_1_method_8_code 8 = .ok (.aload_n 0, 1) := by decide +kernel
theorem d_Nm_candidates_9 : decode prog_1_method_8_code 9 = .ok (.getfield 19, 3) := by decide +kernel
theorem d_Nm_candidates_12 : decode prog_1_method_8_code 12 = .ok (.invokevirtual 67, 3) := by decide +kernel
theorem d_Nm_candidates_15 : decode prog_1_method_8_code 15 = .ok (.if_icmp .ge 116, 3) := by decide +kernel
theorem d_Nm_candidates_18 : decode prog_1_method_8_code 18 = .ok (.aload_n 0, 1) := by decide +kernel
theorem d_Nm_candidates_19 : decode prog_1_method_8_code 19 = .ok (.iload_n 2, 1) := by decide +kernel
theorem d_Nm_candidates_20 : decode prog_1_method_8_code 20 = .ok (.ldc 136, 2) := by decide +kernel
theorem d_Nm_candidates_22 : decode prog_1_method_8_code 22 = .ok (.invokevirtual 137, 3) := by decide +kernel
theorem d_Nm_candidates_25 : decode prog_1_method_8_code 25 = .ok (.istore_n 3, 1) := by decide +kernel
theorem d_Nm_candidates_26 : decode prog_1_method_8_code 26 = .ok (.iload_n 2, 1) := by decide +kernel
theorem d_Nm_candidates_27 : decode prog_1_method_8_code 27 = .ok (.iconst 1, 1) := by decide +kernel
theorem d_Nm_candidates_28 : decode prog_1_method_8_code 28 = .ok (.iadd, 1) := by decide +kernel
theorem d_Nm_candidates_29 : decode prog_1_method_8_code 29 = .ok (.istore 4, 2) := by decide +kernel
theorem d_Nm_candidates_31 : decode prog_1_method_8_code 31 = .ok (.iload 4, 2) := by decide +kernel
theorem d_Nm_candidates_33 : decode prog_1_method_8_code 33 = .ok (.aload_n 0, 1) := by decide +kernel
theorem d_Nm_candidates_34 : decode prog_1_method_8_code 34 = .ok (.getfield 19, 3) := by decide +kernel
theorem d_Nm_candidates_37 : decode prog_1_method_8_code 37 = .ok (.invokevirtual 67, 3) := by decide +kernel
theorem d_Nm_candidates_40 : decode prog_1_method_8_code 40 = .ok (.if_icmp .ge 85, 3) := by decide +kernel
theorem d_Nm_candidates_43 : decode prog_1_method_8_code 43 = .ok (.iload_n 3, 1) := by decide +kernel
theorem d_Nm_candidates_44 : decode prog_1_method_8_code 44 = .ok (.iload 4, 2) := by decide +kernel
theorem d_Nm_candidates_46 : decode prog_1_method_8_code 46 = .ok (.invokestatic 141, 3) := by decide +kernel
theorem d_Nm_candidates_49 : decode prog_1_method_8_code 49 = .ok (.ifCond .ne 21, 3) := by decide +kernel
theorem d_Nm_candidates_52 : decode prog_1_method_8_code 52 = .ok (.aload_n 0, 1) := by decide +kernel
theorem d_Nm_candidates_53 : decode prog_1_method_8_code 53 = .ok (.getfield 26, 3) := by decide +kernel
theorem d_Nm_candidates_56 : decode prog_1_method_8_code 56 = .ok (.iload_n 2, 1) := by decide +kernel
theorem d_Nm_candidates_57 : decode prog_1_method_8_code 57 = .ok (.iload 4, 2) := by decide +kernel
theorem d_Nm_candidates_59 : decode prog_1_method_8_code 59 = .ok (.invokestatic 145, 3) := by decide +kernel
theorem d_Nm_candidates_62 : decode prog_1_method_8_code 62 = .ok (.iaload, 1) := by decide +kernel
theorem d_Nm_candidates_63 : decode prog_1_method_8_code 63 = .ok (.ifCond .ne 7, 3) := by decide +kernel
theorem d_Nm_candidates_66 : decode prog_1_method_8_code 66 = .ok (.iconst 1, 1) := by decide +kernel
theorem d_Nm_candidates_67 : decode prog_1_method_8_code 67 = .ok (.goto 4, 3) := by decide +kernel
theorem d_Nm_candidates_70 : decode prog_1_method_8_code 70 = .ok (.iconst 0, 1) := by decide +kernel
theorem d_Nm_candidates_71 : decode prog_1_method_8_code 71 = .ok (.istore 5, 2) := by decide +kernel
theorem d_Nm_candidates_73 : decode prog_1_method_8_code 73 = .ok (.iload 5, 2) := by decide +kernel
theorem d_Nm_candidates_75 : decode prog_1_method_8_code 75 = .ok (.ifCond .eq 44, 3) := by decide +kernel
theorem d_Nm_candidates_78 : decode prog_1_method_8_code 78 = .ok (.aload_n 0, 1) := by decide +kernel
theorem d_Nm_candidates_79 : decode prog_1_method_8_code 79 = .ok (.aload_n 0, 1) := by decide +kernel
theorem d_Nm_candidates_80 : decode prog_1_method_8_code 80 = .ok (.getfield 19, 3) := by decide +kernel
theorem d_Nm_candidates_83 : decode prog_1_method_8_code 83 = .ok (.iload_n 2, 1) := by decide +kernel
theorem d_Nm_candidates_84 : decode prog_1_method_8_code 84 = .ok (.invokevirtual 82, 3) := by decide +kernel
theorem d_Nm_candidates_87 : decode prog_1_method_8_code 87 = .ok (.checkcast 72, 3) := by decide +kernel
theorem d_Nm_candidates_90 : decode prog_1_method_8_code 90 = .ok (.aload_n 0, 1) := by decide +kernel
theorem d_Nm_candidates_91 : decode prog_1_method_8_code 91 = .ok (.getfield 19, 3) := by decide +kernel
theorem d_Nm_candidates_94 : decode prog_1_method_8_code 94 = .ok (.iload 4, 2) := by decide +kernel
theorem d_Nm_candidates_96 : decode prog_1_method_8_code 96 = .ok (.invokevirtual 82, 3) := by decide +kernel
theorem d_Nm_candidates_99 : decode prog_1_method_8_code 99 = .ok (.checkcast 72, 3) := by decide +kernel
theorem d_Nm_candidates_102 : decode prog_1_method_8_code 102 = .ok (.invokevirtual 132, 3) := by decide +kernel
theorem d_Nm_candidates_105 : decode prog_1_method_8_code 105 = .ok (.iload_n 1, 1) := by decide +kernel
theorem d_Nm_candidates_106 : decode prog_1_method_8_code 106 = .ok (.if_icmp .lt 13, 3) := by decide +kernel
theorem d_Nm_candidates_109 : decode prog_1_method_8_code 109 = .ok (.aload_n 0, 1) := by decide +kernel
theorem d_Nm_candidates_110 : decode prog_1_method_8_code 110 = .ok (.iload_n 2, 1) := by decide +kernel
theorem d_Nm_candidates_111 : decode prog_1_method_8_code 111 = .ok (.iload 4, 2) := by decide +kernel
theorem d_Nm_candidates_113 : decode prog_1_method_8_code 113 = .ok (.invokestatic 145, 3) := by decide +kernel
theorem d_Nm_candidates_116 : decode prog_1_method_8_code 116 = .ok (.invokevirtual 148, 3) := by decide +kernel
theorem d_Nm_candidates_119 : decode prog_1_method_8_code 119 = .ok (.iinc 4 1, 3) := by decide +kernel
theorem d_Nm_candidates_122 : decode prog_1_method_8_code 122 = .ok (.goto (-91), 3) := by decide +kernel
theorem d_Nm_candidates_125 : decode prog_1_method_8_code 125 = .ok (.iinc 2 1, 3) := by decide +kernel
theorem d_Nm_candidates_128 : decode prog_1_method_8_code 128 = .ok (.goto (-121), 3) := by decide +kernel
theorem d_Nm_candidates_131 : decode prog_1_method_8_code 131 = .ok (.aload_n 0, 1) := by decide +kernel
theorem d_Nm_candidates_132 : decode prog_1_method_8_code 132 = .ok (.getfield 33, 3) := by decide +kernel
theorem d_Nm_candidates_135 : decode prog_1_method_8_code 135 = .ok (.ireturn, 1) := by decide +kernel
set_option maxHeartbeats 4000000 in
set_option maxRecDepth 100000 in
theorem c_Nm_candidates (l : Launch) (D : va_G) (cs : Nat → ClassId) (N0 : Nat) (H : Heap) (o z : Nat → Nat → Nat) (K : Nat → Nat → Nat → Int32) (r : Nat → Nat × Nat) (N : Nat) (q : Int32) (hI : nmP D cs N0 H o z K r) (hN : N = H.size) : Met l y_Nm_candidates w_Nm_candidates ({ frames := 8, cells := 0, slots := 0, locals := 185 }) (hPre D cs N0 [.ref (o 0 0), .int q] H) (hQi (fun r9 H' => r9 = nI (upt (cnR z K q) (z 3 0) (0, K 8 0)).1 ∧ ∃ w : Nat → Int32, nmP D cs N0 H' o (upZ z 0 0 (upt (cnR z K q) (z 3 0) (0, K 8 0)).1) (upK (upK K 8 0 (upt (cnR z K q) (z 3 0) (0, K 8 0)).2) 9 0 w) r) (nmA r N)) 0 0 (nmA r N) := by
  refine Met.ofW (cc := prog_1_method_8_code) (maxL := 6) (ret := (Option.some Jvm.ClassFile.FieldType.int)) (by decide) rfl ?_
  intro p e s m args below meth c s₁ B hml hv
  obtain ⟨rfl, rfl, hB⟩ := hv
  have hx := B.exec
  have hb := B.bytes
  have hr := B.returns
  have hts := atoms_spec (ws := w_Nm_candidates) B.pre
  have htg : ∀ w ∈ gw, w.before _ s = true := fun w h => hts w (List.mem_cons_of_mem _ h)
  have hown : s.vm.findClass "NameMerges" = some m.cls := findClass_of_methodNamed B.named
  have hlocks := B.notSynchronized
  have hAN : ∀ q, nmA r N q → N0 ≤ q := fun q9 h9 => h9.elim (hI.2.1 q9) (fun h9 => Nat.le_trans hB.2.1 (hN ▸ h9))
  have hK := hB.1
  obtain ⟨H, hH⟩ : ∃ z : Heap, z = s.heap := ⟨_, rfl⟩
  have hz0 : H.size = s.heap.size := by rw [hH]
  have hN0 := hB.2.1
  rw [← hH] at hI
  have hS : va_S (nmA r N) s.heap H [] := by rw [hH]; exact va_S.rf
  have hl := lv_entry ([.ref (o 0 0), .int q]) (n := 6) (Nat.le_of_ble_eq_true rfl)
  rw [lg_entry_eq, ← hH]
  generalize (lg_sl ([.ref (o 0 0), .int q]) ++ List.replicate (6 - (lg_sl ([.ref (o 0 0), .int q])).length) Slot.unset).toArray = ls at hl ⊢
  have hl : lv_has ls 6 [(0, .ref (o 0 0)), (1, .int q)] := hl
  obtain ⟨hb0, hb1, hb3, hb5, hb4, hb6, hb11, hb17⟩ := hI.2.2.1
  refine lv_aload_n hx hb d_Nm_candidates_0 rfl (lv_at hl 0 rfl) ?_
  refine lv_iconst (v := 0) hx hb d_Nm_candidates_1 (by decide) ?_
  refine hx_put (ref := "NameMerges") (ty := .int) (v := .int 0) hx hb htg iNm tNm tNm_ok nNm hown hK (show va_at D vwCl (o 0 0, .inr (1, [.ref (o 1 0), .ref (o 3 0), .ref (o 5 0), .ref (o 7 0), .ref (o 8 0), .int (nI (z 0 0)), .int (K 0 0 0), .ref (o 9 0)])) H from hI.at (k := 0) (n := 0) (show nmv z 0 0 from rfl)) hS (hI.inA (k := 0) (n := 0) (show nmv z 0 0 from rfl)) rfl 5 (by decide) (htg _ (gw_mem (i := 131) (by decide +kernel) rfl)) (fun _ h9 => h9) rfl (by decide +kernel) rfl rfl (Nat.le_of_ble_eq_true rfl) d_Nm_candidates_2 (fun H locs hat hz ho hS => ?_)
  replace hI : nmP D cs N0 H o (upZ z 0 0 0) (upK (upK K 8 0 (K 8 0)) 9 0 (K 9 0)) r := by rw [upK_nf]; exact hI.cnt (m := 0) hat (fun q9 _ h9 => ho q9 h9) (by omega)
  refine lv_iconst (v := 0) hx hb d_Nm_candidates_5 (by decide) ?_
  refine lv_istore_n (lv' := [(2, .int 0), (0, .ref (o 0 0)), (1, .int q)]) hx hb d_Nm_candidates_6 rfl hl (by decide) rfl (fun ls hl => ?_)
  have loop7 : ∀ (fuel : Nat) (a : Nat) (c1 : Nat) (g1 : Nat → Int32) (w1 : Nat → Int32), z 3 0 - a < fuel → (a ≤ z 3 0) → ((c1, g1) = upt (cnR z K q) a (0, K 8 0)) → ∀ (H : Heap) (locs : List Loc), nmP D cs N0 H o (upZ z 0 0 c1) (upK (upK K 8 0 g1) 9 0 w1) r → va_S (nmA r N) s.heap H locs → ∀ (ls : Array Slot), lv_has ls 6 [(0, .ref (o 0 0)), (1, .int q), (2, .int (nI a))] → W p l e (headSpec w_Nm_candidates ({ frames := 8, cells := 0, slots := 0, locals := 185 })).room s m ([.ref (o 0 0), .int q] : List Value).toArray below meth c H locs 0 0 (MQ below (hQi (fun r9 H' => r9 = nI (upt (cnR z K q) (z 3 0) (0, K 8 0)).1 ∧ ∃ w : Nat → Int32, nmP D cs N0 H' o (upZ z 0 0 (upt (cnR z K q) (z 3 0) (0, K 8 0)).1) (upK (upK K 8 0 (upt (cnR z K q) (z 3 0) (0, K 8 0)).2) 9 0 w) r) (nmA r N)) ([.ref (o 0 0), .int q] : List Value).toArray s 0 0 (nmA r N)) (F0 m 7 ls []) := by
    intro fuel7
    induction fuel7 with
    | zero => intro a c1 g1 w1 hn; exact absurd hn (Nat.not_lt_zero _)
    | succ fuel7 ih7 =>
      intro a c1 g1 w1 hn7 ha hst1 H locs hI hS ls hl
      have hz9 := hS.1
      have hc9 : c1 ≤ 276 := hI.2.2.1.1
      refine lv_iload_n hx hb d_Nm_candidates_7 rfl (lv_at hl 2 rfl) ?_
      refine lv_aload_n hx hb d_Nm_candidates_8 rfl (lv_at hl 0 rfl) ?_
      refine hx_get (ref := "NameMerges") (v := .ref (o 3 0)) hx hb htg iNm hown hK (show va_at D vwCl (o 0 0, .inr (1, [.ref (o 1 0), .ref (o 3 0), .ref (o 5 0), .ref (o 7 0), .ref (o 8 0), .int (nI c1), .int (K 0 0 0), .ref (o 9 0)])) H from hI.at (k := 0) (n := 0) (show nmv z 0 0 from rfl)) rfl 1 (by decide) (htg _ (gw_mem (i := 127) (by decide +kernel) rfl)) (fun _ h9 => h9) rfl d_Nm_candidates_9 ?_
      refine h_purei (va_runV (As := []) (rest := [.int (nI a)]) ⟨hx, hb, hml, hown, htg⟩ (c_AL_size l D cs N0 H (o 3 0) (nmL cs (z 3 0) (o 4 0)) (z 3 0) (K 3 0 0) (show va_at D vwCl (o 3 0, .inr (6, [.ref (nmL cs (z 3 0) (o 4 0)), .int (nI (z 3 0)), .int (K 3 0 0)])) H from hI.at (k := 3) (n := 0) (show nmv z 3 0 from rfl))) ⟨x_cwB 0 htg (gw_mem (i := 503) (by decide +kernel) rfl) (gw_mem (i := 37) (by decide +kernel) rfl) (gw_mem (i := 500) (by decide +kernel) rfl) (by decide +kernel) ⟨Nat.le_of_ble_eq_true rfl, Nat.le_of_ble_eq_true rfl⟩, htg _ (gw_mem (i := 501) (by decide +kernel) rfl), htg _ (gw_mem (i := 502) (by decide +kernel) rfl)⟩ ⟨hPre.blind, hx_recv hK (ci := 6) rfl (show va_at D vwCl (o 3 0, .inr (6, [.ref (nmL cs (z 3 0) (o 4 0)), .int (nI (z 3 0)), .int (K 3 0 0)])) H from hI.at (k := 3) (n := 0) (show nmv z 3 0 from rfl)), hPre.at hB hS hAN⟩ rfl rfl hl.1 rfl (lv_room (Nat.le_of_ble_eq_true rfl)) d_Nm_candidates_12 ⟨Nat.le_of_ble_eq_true rfl, Nat.le_of_ble_eq_true rfl⟩) hS (fun locs hS => ?_)
      refine lv_icmp_ge (x := (nI a)) (y := (nI (z 3 0))) (tgt := 131) hx hb d_Nm_candidates_15 (by decide) (fun c15 => ?_) (fun c15 => ?_)
      · skip
        replace c15 : (z 3 0) ≤ a := (nI_leI (a := (z 3 0)) (b := a) (by omega) (by omega)).mp c15
        refine lv_aload_n hx hb d_Nm_candidates_131 rfl (lv_at hl 0 rfl) ?_
        refine hx_get (ref := "NameMerges") (v := .int (nI c1)) hx hb htg iNm hown hK (show va_at D vwCl (o 0 0, .inr (1, [.ref (o 1 0), .ref (o 3 0), .ref (o 5 0), .ref (o 7 0), .ref (o 8 0), .int (nI c1), .int (K 0 0 0), .ref (o 9 0)])) H from hI.at (k := 0) (n := 0) (show nmv z 0 0 from rfl)) rfl 5 (by decide) (htg _ (gw_mem (i := 131) (by decide +kernel) rfl)) (fun _ h9 => h9) rfl d_Nm_candidates_132 ?_
        exact W.iret (v := (nI c1)) hx hb hr (fun t ht hW => ⟨⟨(nI c1), H, rfl, (by have e9 : (c1, g1) = upt (cnR z K q) (z 3 0) (0, K 8 0) := hst1.trans (by rw [show a = z 3 0 by omega]); rw [← e9]; exact ⟨rfl, _, hI⟩), ht⟩, hS.F ht⟩) hS.2.2 d_Nm_candidates_135
      · skip
        replace c15 : ¬ ((z 3 0) ≤ a) := fun z9 => c15 ((nI_leI (a := (z 3 0)) (b := a) (by omega) (by omega)).mpr z9)
        refine lv_aload_n hx hb d_Nm_candidates_18 rfl (lv_at hl 0 rfl) ?_
        refine lv_iload_n hx hb d_Nm_candidates_19 rfl (lv_at hl 2 rfl) ?_
        refine lv_ldc (v := 100000) hx hb hown (htg _ (gw_mem (i := 504) (by decide +kernel) rfl)) d_Nm_candidates_20 ?_
        refine h_purei (va_runV (As := [.int (nI a), .int 100000]) (rest := []) ⟨hx, hb, hml, hown, htg⟩ (c_Nm_oneWith l D cs N0 H o (upZ z 0 0 c1) (upK (upK K 8 0 g1) 9 0 w1) r (nI a) 100000 hI) ⟨x_cwB 2 htg (gw_mem (i := 508) (by decide +kernel) rfl) (gw_mem (i := 30) (by decide +kernel) rfl) (gw_mem (i := 505) (by decide +kernel) rfl) (by decide +kernel) ⟨Nat.le_of_ble_eq_true rfl, Nat.le_of_ble_eq_true rfl⟩, htg _ (gw_mem (i := 507) (by decide +kernel) rfl), htg _ (gw_mem (i := 1) (by decide +kernel) rfl)⟩ ⟨hPre.blind, hx_recv hK (ci := 1) rfl (show va_at D vwCl (o 0 0, .inr (1, [.ref (o 1 0), .ref (o 3 0), .ref (o 5 0), .ref (o 7 0), .ref (o 8 0), .int (nI c1), .int (K 0 0 0), .ref (o 9 0)])) H from hI.at (k := 0) (n := 0) (show nmv z 0 0 from rfl)), hPre.at hB hS hAN⟩ rfl rfl hl.1 rfl (lv_room (Nat.le_of_ble_eq_true rfl)) d_Nm_candidates_22 ⟨Nat.le_of_ble_eq_true rfl, Nat.le_of_ble_eq_true rfl⟩) hS (fun locs hS => ?_)
        refine lv_eqi (y := (owV z K (nI a) 100000)) rfl ?_
        refine lv_istore_n (lv' := [(3, .int (owV z K (nI a) 100000)), (0, .ref (o 0 0)), (1, .int q), (2, .int (nI a))]) hx hb d_Nm_candidates_25 rfl hl (by decide) rfl (fun ls hl => ?_)
        refine lv_iload_n hx hb d_Nm_candidates_26 rfl (lv_at hl 3 rfl) ?_
        refine lv_iconst (v := 1) hx hb d_Nm_candidates_27 (by decide) ?_
        refine lv_iadd (x := (nI a)) (y := 1) hx hb d_Nm_candidates_28 ?_
        refine lv_eqi (y := (nI (a + 1))) (nI_add a 1) ?_
        refine lv_istore (lv' := [(4, .int (nI (a + 1))), (3, .int (owV z K (nI a) 100000)), (0, .ref (o 0 0)), (1, .int q), (2, .int (nI a))]) hx hb d_Nm_candidates_29 hl (by decide) rfl (fun ls hl => ?_)
        have loop31 : ∀ (fuel : Nat) (b9 : Nat) (c2 : Nat) (g2 : Nat → Int32) (w2 : Nat → Int32), z 3 0 - b9 < fuel → (b9 ≤ z 3 0) → (a < b9) → ((c2, g2) = upt (cnS z K q a) b9 (c1, g1)) → ∀ (H : Heap) (locs : List Loc), nmP D cs N0 H o (upZ z 0 0 c2) (upK (upK K 8 0 g2) 9 0 w2) r → va_S (nmA r N) s.heap H locs → ∀ (ls : Array Slot), lv_has ls 6 [(0, .ref (o 0 0)), (1, .int q), (2, .int (nI a)), (3, .int (owV z K (nI a) 100000)), (4, .int (nI b9))] → W p l e (headSpec w_Nm_candidates ({ frames := 8, cells := 0, slots := 0, locals := 185 })).room s m ([.ref (o 0 0), .int q] : List Value).toArray below meth c H locs 0 0 (MQ below (hQi (fun r9 H' => r9 = nI (upt (cnR z K q) (z 3 0) (0, K 8 0)).1 ∧ ∃ w : Nat → Int32, nmP D cs N0 H' o (upZ z 0 0 (upt (cnR z K q) (z 3 0) (0, K 8 0)).1) (upK (upK K 8 0 (upt (cnR z K q) (z 3 0) (0, K 8 0)).2) 9 0 w) r) (nmA r N)) ([.ref (o 0 0), .int q] : List Value).toArray s 0 0 (nmA r N)) (F0 m 31 ls []) := by
          intro fuel31
          induction fuel31 with
          | zero => intro b9 c2 g2 w2 hn; exact absurd hn (Nat.not_lt_zero _)
          | succ fuel31 ih31 =>
            intro b9 c2 g2 w2 hn31 hb9 hab hst2 H locs hI hS ls hl
            have hz9 := hS.1
            have hc9 : c2 ≤ 276 := hI.2.2.1.1
            refine lv_iload hx hb d_Nm_candidates_31 (lv_at hl 4 rfl) ?_
            refine lv_aload_n hx hb d_Nm_candidates_33 rfl (lv_at hl 0 rfl) ?_
            refine hx_get (ref := "NameMerges") (v := .ref (o 3 0)) hx hb htg iNm hown hK (show va_at D vwCl (o 0 0, .inr (1, [.ref (o 1 0), .ref (o 3 0), .ref (o 5 0), .ref (o 7 0), .ref (o 8 0), .int (nI c2), .int (K 0 0 0), .ref (o 9 0)])) H from hI.at (k := 0) (n := 0) (show nmv z 0 0 from rfl)) rfl 1 (by decide) (htg _ (gw_mem (i := 127) (by decide +kernel) rfl)) (fun _ h9 => h9) rfl d_Nm_candidates_34 ?_
            refine h_purei (va_runV (As := []) (rest := [.int (nI b9)]) ⟨hx, hb, hml, hown, htg⟩ (c_AL_size l D cs N0 H (o 3 0) (nmL cs (z 3 0) (o 4 0)) (z 3 0) (K 3 0 0) (show va_at D vwCl (o 3 0, .inr (6, [.ref (nmL cs (z 3 0) (o 4 0)), .int (nI (z 3 0)), .int (K 3 0 0)])) H from hI.at (k := 3) (n := 0) (show nmv z 3 0 from rfl))) ⟨x_cwB 0 htg (gw_mem (i := 503) (by decide +kernel) rfl) (gw_mem (i := 37) (by decide +kernel) rfl) (gw_mem (i := 500) (by decide +kernel) rfl) (by decide +kernel) ⟨Nat.le_of_ble_eq_true rfl, Nat.le_of_ble_eq_true rfl⟩, htg _ (gw_mem (i := 501) (by decide +kernel) rfl), htg _ (gw_mem (i := 502) (by decide +kernel) rfl)⟩ ⟨hPre.blind, hx_recv hK (ci := 6) rfl (show va_at D vwCl (o 3 0, .inr (6, [.ref (nmL cs (z 3 0) (o 4 0)), .int (nI (z 3 0)), .int (K 3 0 0)])) H from hI.at (k := 3) (n := 0) (show nmv z 3 0 from rfl)), hPre.at hB hS hAN⟩ rfl rfl hl.1 rfl (lv_room (Nat.le_of_ble_eq_true rfl)) d_Nm_candidates_37 ⟨Nat.le_of_ble_eq_true rfl, Nat.le_of_ble_eq_true rfl⟩) hS (fun locs hS => ?_)
            refine lv_icmp_ge (x := (nI b9)) (y := (nI (z 3 0))) (tgt := 125) hx hb d_Nm_candidates_40 (by decide) (fun c40 => ?_) (fun c40 => ?_)
            · skip
              replace c40 : (z 3 0) ≤ b9 := (nI_leI (a := (z 3 0)) (b := b9) (by omega) (by omega)).mp c40
              refine lv_iinc (v := (nI (a + 1))) (lv' := [(2, .int (nI (a + 1))), (0, .ref (o 0 0)), (1, .int q), (3, .int (owV z K (nI a) 100000)), (4, .int (nI b9))]) hx hb d_Nm_candidates_125 hl (k := 2) rfl (nI_1 a) (by decide) rfl (fun ls hl => ?_)
              refine lv_goto (tgt := 7) hx hb d_Nm_candidates_128 (by decide) ?_
              exact ih7  (a + 1) c2 g2 w2 (by omega) (by omega) (by rw [show upt (cnR z K q) (a + 1) (0, K 8 0) = cnR z K q (upt (cnR z K q) a (0, K 8 0)) a from rfl, ← hst1, hst2, show b9 = z 3 0 by omega]; rfl) _ _ hI hS ls (lv_sub hl [1, 2, 0] rfl)
            · skip
              replace c40 : ¬ ((z 3 0) ≤ b9) := fun z9 => c40 ((nI_leI (a := (z 3 0)) (b := b9) (by omega) (by omega)).mpr z9)
              refine lv_iload_n hx hb d_Nm_candidates_43 rfl (lv_at hl 3 rfl) ?_
              refine lv_iload hx hb d_Nm_candidates_44 (lv_at hl 4 rfl) ?_
              refine h_purei (va_runS (As := [.int (owV z K (nI a) 100000), .int (nI b9)]) (rest := []) ⟨hx, hb, hml, hown, htg⟩ (c_Nm_has l D cs N0 H ((owV z K (nI a) 100000)) (nI b9)) ⟨x_cwB 2 htg (gw_mem (i := 530) (by decide +kernel) rfl) (gw_mem (i := 30) (by decide +kernel) rfl) (gw_mem (i := 528) (by decide +kernel) rfl) (by decide +kernel) ⟨Nat.le_of_ble_eq_true rfl, Nat.le_of_ble_eq_true rfl⟩, htg _ (gw_mem (i := 529) (by decide +kernel) rfl)⟩ ⟨hPre.blind, hPre.at hB hS hAN⟩ rfl rfl hl.1 rfl (lv_room (Nat.le_of_ble_eq_true rfl)) d_Nm_candidates_46 ⟨Nat.le_of_ble_eq_true rfl, Nat.le_of_ble_eq_true rfl⟩) hS (fun locs hS => ?_)
              refine lv_eqi (y := (bI (hasB ((owV z K (nI a) 100000)) (nI b9)))) rfl ?_
              refine lv_if_ne (x := (bI (hasB ((owV z K (nI a) 100000)) (nI b9)))) (tgt := 70) hx hb d_Nm_candidates_49 (by decide) (fun c49 => ?_) (fun c49 => ?_)
              · skip
                replace c49 : (hasB ((owV z K (nI a) 100000)) (nI b9)) = true := bI_1 c49
                refine lv_iconst (v := 0) hx hb d_Nm_candidates_70 (by decide) ?_
                refine lv_istore (lv' := [(5, .int 0), (0, .ref (o 0 0)), (1, .int q), (2, .int (nI a)), (3, .int (owV z K (nI a) 100000)), (4, .int (nI b9))]) hx hb d_Nm_candidates_71 hl (by decide) rfl (fun ls hl => ?_)
                refine lv_iload hx hb d_Nm_candidates_73 (lv_at hl 0 rfl) ?_
                refine lv_if_eq (x := 0) (tgt := 119) hx hb d_Nm_candidates_75 (by decide) (fun c75 => ?_) (fun c75 => ?_)
                · skip
                  refine lv_iinc (v := (nI (b9 + 1))) (lv' := [(4, .int (nI (b9 + 1))), (5, .int 0), (0, .ref (o 0 0)), (1, .int q), (2, .int (nI a)), (3, .int (owV z K (nI a) 100000))]) hx hb d_Nm_candidates_119 hl (k := 5) rfl (nI_1 b9) (by decide) rfl (fun ls hl => ?_)
                  refine lv_goto (tgt := 31) hx hb d_Nm_candidates_122 (by decide) ?_
                  exact ih31  (b9 + 1) c2 g2 w2 (by omega) (by omega) (by omega) (by rw [show upt (cnS z K q a) (b9 + 1) (c1, g1) = cnS z K q a (upt (cnS z K q a) b9 (c1, g1)) b9 from rfl, ← hst2]; simp [cnS, canP, hab, c49]) _ _ hI hS ls (lv_sub hl [2, 3, 4, 5, 0] rfl)
                · exact absurd c75 (by decide)
              · skip
                replace c49 : (hasB ((owV z K (nI a) 100000)) (nI b9)) = false := bI_0 c49
                refine lv_aload_n hx hb d_Nm_candidates_52 rfl (lv_at hl 0 rfl) ?_
                refine hx_get (ref := "NameMerges") (v := .ref (o 7 0)) hx hb htg iNm hown hK (show va_at D vwCl (o 0 0, .inr (1, [.ref (o 1 0), .ref (o 3 0), .ref (o 5 0), .ref (o 7 0), .ref (o 8 0), .int (nI c2), .int (K 0 0 0), .ref (o 9 0)])) H from hI.at (k := 0) (n := 0) (show nmv z 0 0 from rfl)) rfl 3 (by decide) (htg _ (gw_mem (i := 129) (by decide +kernel) rfl)) (fun _ h9 => h9) rfl d_Nm_candidates_53 ?_
                refine lv_iload_n hx hb d_Nm_candidates_56 rfl (lv_at hl 2 rfl) ?_
                refine lv_iload hx hb d_Nm_candidates_57 (lv_at hl 4 rfl) ?_
                refine h_purei (va_runS (As := [.int (nI a), .int (nI b9)]) (rest := [.ref (o 7 0)]) ⟨hx, hb, hml, hown, htg⟩ (c_Nm_placeOf l D cs N0 H (nI a) (nI b9)) ⟨x_cwB 2 htg (gw_mem (i := 533) (by decide +kernel) rfl) (gw_mem (i := 30) (by decide +kernel) rfl) (gw_mem (i := 531) (by decide +kernel) rfl) (by decide +kernel) ⟨Nat.le_of_ble_eq_true rfl, Nat.le_of_ble_eq_true rfl⟩, htg _ (gw_mem (i := 532) (by decide +kernel) rfl)⟩ ⟨hPre.blind, hPre.at hB hS hAN⟩ rfl rfl hl.1 rfl (lv_room (Nat.le_of_ble_eq_true rfl)) d_Nm_candidates_59 ⟨Nat.le_of_ble_eq_true rfl, Nat.le_of_ble_eq_true rfl⟩) hS (fun locs hS => ?_)
                refine lv_eqi (y := (plcV (nI a) (nI b9))) rfl ?_
                refine lv_eqi (y := (nI (a * 24 + b9))) (plc_lt hab (by omega)) ?_
                refine hx_iald hx hb hK 0 (show va_at D vwCl (o 7 0, .inl (cs 0, (576, .inl (K 7 0)))) H from hI.at (k := 7) (n := 0) (show nmv z 7 0 from rfl)) rfl (show vp_in (nI (a * 24 + b9)) 576 from vp_in_nI (n := a * 24 + b9) (by omega) (by omega)) d_Nm_candidates_62 ?_
                refine lv_eqi (y := ((K 7 0) (a * 24 + b9))) (show (K 7 0) (nI (a * 24 + b9)).toNatClampNeg = _ by rw [nI_clamp (by omega)]) ?_
                refine lv_if_ne (x := ((K 7 0) (a * 24 + b9))) (tgt := 70) hx hb d_Nm_candidates_63 (by decide) (fun c63 => ?_) (fun c63 => ?_)
                · skip
                  refine lv_iconst (v := 0) hx hb d_Nm_candidates_70 (by decide) ?_
                  refine lv_istore (lv' := [(5, .int 0), (0, .ref (o 0 0)), (1, .int q), (2, .int (nI a)), (3, .int (owV z K (nI a) 100000)), (4, .int (nI b9))]) hx hb d_Nm_candidates_71 hl (by decide) rfl (fun ls hl => ?_)
                  refine lv_iload hx hb d_Nm_candidates_73 (lv_at hl 0 rfl) ?_
                  refine lv_if_eq (x := 0) (tgt := 119) hx hb d_Nm_candidates_75 (by decide) (fun c75 => ?_) (fun c75 => ?_)
                  · skip
                    refine lv_iinc (v := (nI (b9 + 1))) (lv' := [(4, .int (nI (b9 + 1))), (5, .int 0), (0, .ref (o 0 0)), (1, .int q), (2, .int (nI a)), (3, .int (owV z K (nI a) 100000))]) hx hb d_Nm_candidates_119 hl (k := 5) rfl (nI_1 b9) (by decide) rfl (fun ls hl => ?_)
                    refine lv_goto (tgt := 31) hx hb d_Nm_candidates_122 (by decide) ?_
                    exact ih31  (b9 + 1) c2 g2 w2 (by omega) (by omega) (by omega) (by rw [show upt (cnS z K q a) (b9 + 1) (c1, g1) = cnS z K q a (upt (cnS z K q a) b9 (c1, g1)) b9 from rfl, ← hst2]; simp [cnS, canP, hab, c49, c63]) _ _ hI hS ls (lv_sub hl [2, 3, 4, 5, 0] rfl)
                  · exact absurd c75 (by decide)
                · skip
                  refine lv_iconst (v := 1) hx hb d_Nm_candidates_66 (by decide) ?_
                  refine lv_goto (tgt := 71) hx hb d_Nm_candidates_67 (by decide) ?_
                  refine lv_istore (lv' := [(5, .int 1), (0, .ref (o 0 0)), (1, .int q), (2, .int (nI a)), (3, .int (owV z K (nI a) 100000)), (4, .int (nI b9))]) hx hb d_Nm_candidates_71 hl (by decide) rfl (fun ls hl => ?_)
                  refine lv_iload hx hb d_Nm_candidates_73 (lv_at hl 0 rfl) ?_
                  refine lv_if_eq (x := 1) (tgt := 119) hx hb d_Nm_candidates_75 (by decide) (fun c75 => ?_) (fun c75 => ?_)
                  · exact absurd c75 (by decide)
                  · skip
                    refine lv_aload_n hx hb d_Nm_candidates_78 rfl (lv_at hl 1 rfl) ?_
                    refine lv_aload_n hx hb d_Nm_candidates_79 rfl (lv_at hl 1 rfl) ?_
                    refine hx_get (ref := "NameMerges") (v := .ref (o 3 0)) hx hb htg iNm hown hK (show va_at D vwCl (o 0 0, .inr (1, [.ref (o 1 0), .ref (o 3 0), .ref (o 5 0), .ref (o 7 0), .ref (o 8 0), .int (nI c2), .int (K 0 0 0), .ref (o 9 0)])) H from hI.at (k := 0) (n := 0) (show nmv z 0 0 from rfl)) rfl 1 (by decide) (htg _ (gw_mem (i := 127) (by decide +kernel) rfl)) (fun _ h9 => h9) rfl d_Nm_candidates_80 ?_
                    refine lv_iload_n hx hb d_Nm_candidates_83 rfl (lv_at hl 3 rfl) ?_
                    refine h_pureq (va_runV (As := [.int (nI a)]) (rest := [.ref (o 0 0)]) ⟨hx, hb, hml, hown, htg⟩ (c_names_get l D cs N0 H o (upZ z 0 0 c2) (upK (upK K 8 0 g2) 9 0 w2) r a hI (show a < z 3 0 by omega)) ⟨x_cwB 1 htg (gw_mem (i := 512) (by decide +kernel) rfl) (gw_mem (i := 37) (by decide +kernel) rfl) (gw_mem (i := 509) (by decide +kernel) rfl) (by decide +kernel) ⟨Nat.le_of_ble_eq_true rfl, Nat.le_of_ble_eq_true rfl⟩, htg _ (gw_mem (i := 510) (by decide +kernel) rfl), htg _ (gw_mem (i := 511) (by decide +kernel) rfl)⟩ ⟨hPre.blind, hx_recv hK (ci := 6) rfl (show va_at D vwCl (o 3 0, .inr (6, [.ref (nmL cs (z 3 0) (o 4 0)), .int (nI (z 3 0)), .int (K 3 0 0)])) H from hI.at (k := 3) (n := 0) (show nmv z 3 0 from rfl)), hPre.at hB hS hAN⟩ rfl rfl hl.1 rfl (lv_room (Nat.le_of_ble_eq_true rfl)) d_Nm_candidates_84 ⟨Nat.le_of_ble_eq_true rfl, Nat.le_of_ble_eq_true rfl⟩) hS (fun locs hS => ?_)
                    refine lv_eqv (y := .ref (o 10 a)) rfl ?_
                    refine va_castS hx hb hown (htg _ (gw_mem (i := 536) (by decide +kernel) rfl)) (x_at hK (ci := 2) rfl) (hx_recv hK (ci := 2) rfl (show va_at D vwCl (o 10 a, .inr (2, [.ref (o 11 a), .ref (o 13 a), va_rf (if z 14 a = 0 then none else some (o 14 a)), .int (K 10 a 0), .int (K 10 a 1), .int (K 10 a 2), .int (K 10 a 3)])) H from hI.at (k := 10) (n := a) (show nmv z 10 a from (show a < z 3 0 by omega)))) d_Nm_candidates_87 ?_
                    refine lv_aload_n hx hb d_Nm_candidates_90 rfl (lv_at hl 1 rfl) ?_
                    refine hx_get (ref := "NameMerges") (v := .ref (o 3 0)) hx hb htg iNm hown hK (show va_at D vwCl (o 0 0, .inr (1, [.ref (o 1 0), .ref (o 3 0), .ref (o 5 0), .ref (o 7 0), .ref (o 8 0), .int (nI c2), .int (K 0 0 0), .ref (o 9 0)])) H from hI.at (k := 0) (n := 0) (show nmv z 0 0 from rfl)) rfl 1 (by decide) (htg _ (gw_mem (i := 127) (by decide +kernel) rfl)) (fun _ h9 => h9) rfl d_Nm_candidates_91 ?_
                    refine lv_iload hx hb d_Nm_candidates_94 (lv_at hl 5 rfl) ?_
                    refine h_pureq (va_runV (As := [.int (nI b9)]) (rest := [.ref (o 10 a), .ref (o 0 0)]) ⟨hx, hb, hml, hown, htg⟩ (c_names_get l D cs N0 H o (upZ z 0 0 c2) (upK (upK K 8 0 g2) 9 0 w2) r b9 hI (show b9 < z 3 0 by omega)) ⟨x_cwB 1 htg (gw_mem (i := 512) (by decide +kernel) rfl) (gw_mem (i := 37) (by decide +kernel) rfl) (gw_mem (i := 509) (by decide +kernel) rfl) (by decide +kernel) ⟨Nat.le_of_ble_eq_true rfl, Nat.le_of_ble_eq_true rfl⟩, htg _ (gw_mem (i := 510) (by decide +kernel) rfl), htg _ (gw_mem (i := 511) (by decide +kernel) rfl)⟩ ⟨hPre.blind, hx_recv hK (ci := 6) rfl (show va_at D vwCl (o 3 0, .inr (6, [.ref (nmL cs (z 3 0) (o 4 0)), .int (nI (z 3 0)), .int (K 3 0 0)])) H from hI.at (k := 3) (n := 0) (show nmv z 3 0 from rfl)), hPre.at hB hS hAN⟩ rfl rfl hl.1 rfl (lv_room (Nat.le_of_ble_eq_true rfl)) d_Nm_candidates_96 ⟨Nat.le_of_ble_eq_true rfl, Nat.le_of_ble_eq_true rfl⟩) hS (fun locs hS => ?_)
                    refine lv_eqv (y := .ref (o 10 b9)) rfl ?_
                    refine va_castS hx hb hown (htg _ (gw_mem (i := 536) (by decide +kernel) rfl)) (x_at hK (ci := 2) rfl) (hx_recv hK (ci := 2) rfl (show va_at D vwCl (o 10 b9, .inr (2, [.ref (o 11 b9), .ref (o 13 b9), va_rf (if z 14 b9 = 0 then none else some (o 14 b9)), .int (K 10 b9 0), .int (K 10 b9 1), .int (K 10 b9 2), .int (K 10 b9 3)])) H from hI.at (k := 10) (n := b9) (show nmv z 10 b9 from (show b9 < z 3 0 by omega)))) d_Nm_candidates_99 ?_
                    obtain ⟨nq1, hnq1⟩ : ∃ z : Nat, z = H.size := ⟨_, rfl⟩
                    refine h_calli (va_runV (As := [.ref (o 10 a), .ref (o 10 b9)]) (rest := []) ⟨hx, hb, hml, hown, htg⟩ (c_Nm_likeness l D cs N0 H o (upZ z 0 0 c2) (upK K 8 0 g2) r w2 nq1 a b9 hI hnq1 (show a < z 3 0 by omega) (show b9 < z 3 0 by omega)) ⟨x_cwB 2 htg (gw_mem (i := 540) (by decide +kernel) rfl) (gw_mem (i := 30) (by decide +kernel) rfl) (gw_mem (i := 537) (by decide +kernel) rfl) (by decide +kernel) ⟨Nat.le_of_ble_eq_true rfl, Nat.le_of_ble_eq_true rfl⟩, htg _ (gw_mem (i := 539) (by decide +kernel) rfl), htg _ (gw_mem (i := 2) (by decide +kernel) rfl)⟩ ⟨hPre.blind, hx_recv hK (ci := 1) rfl (show va_at D vwCl (o 0 0, .inr (1, [.ref (o 1 0), .ref (o 3 0), .ref (o 5 0), .ref (o 7 0), .ref (o 8 0), .int (nI c2), .int (K 0 0 0), .ref (o 9 0)])) H from hI.at (k := 0) (n := 0) (show nmv z 0 0 from rfl)), hPre.at hB hS hAN⟩ rfl rfl hl.1 rfl (lv_room (Nat.le_of_ble_eq_true rfl)) d_Nm_candidates_102 ⟨Nat.le_of_ble_eq_true rfl, Nat.le_of_ble_eq_true rfl⟩) hS (jA_sub1 (hI.inA (k := 9) (n := 0) (show nmv z 9 0 from rfl)) (fun q9 h9 => Or.inr (show N ≤ q9 by omega))) (fun r102 H locs hp hz hk hS => ?_)
                    obtain ⟨hr9, w2, hI⟩ := hp
                    subst hr9
                    refine lv_eqi (y := (lkV z K a b9)) rfl ?_
                    refine lv_iload_n hx hb d_Nm_candidates_105 rfl (lv_at hl 2 rfl) ?_
                    refine lv_icmp_lt (x := (lkV z K a b9)) (y := q) (tgt := 119) hx hb d_Nm_candidates_106 (by decide) (fun c106 => ?_) (fun c106 => ?_)
                    · skip
                      refine lv_iinc (v := (nI (b9 + 1))) (lv' := [(4, .int (nI (b9 + 1))), (5, .int 1), (0, .ref (o 0 0)), (1, .int q), (2, .int (nI a)), (3, .int (owV z K (nI a) 100000))]) hx hb d_Nm_candidates_119 hl (k := 5) rfl (nI_1 b9) (by decide) rfl (fun ls hl => ?_)
                      refine lv_goto (tgt := 31) hx hb d_Nm_candidates_122 (by decide) ?_
                      exact ih31  (b9 + 1) c2 g2 w2 (by omega) (by omega) (by omega) (by rw [show upt (cnS z K q a) (b9 + 1) (c1, g1) = cnS z K q a (upt (cnS z K q a) b9 (c1, g1)) b9 from rfl, ← hst2]; simp [cnS, canP, hab, c49, c63, c106]) _ _ hI hS ls (lv_sub hl [2, 3, 4, 5, 0] rfl)
                    · skip
                      refine lv_aload_n hx hb d_Nm_candidates_109 rfl (lv_at hl 1 rfl) ?_
                      refine lv_iload_n hx hb d_Nm_candidates_110 rfl (lv_at hl 3 rfl) ?_
                      refine lv_iload hx hb d_Nm_candidates_111 (lv_at hl 5 rfl) ?_
                      refine h_purei (va_runS (As := [.int (nI a), .int (nI b9)]) (rest := [.ref (o 0 0)]) ⟨hx, hb, hml, hown, htg⟩ (c_Nm_placeOf l D cs N0 H (nI a) (nI b9)) ⟨x_cwB 2 htg (gw_mem (i := 533) (by decide +kernel) rfl) (gw_mem (i := 30) (by decide +kernel) rfl) (gw_mem (i := 531) (by decide +kernel) rfl) (by decide +kernel) ⟨Nat.le_of_ble_eq_true rfl, Nat.le_of_ble_eq_true rfl⟩, htg _ (gw_mem (i := 532) (by decide +kernel) rfl)⟩ ⟨hPre.blind, hPre.at hB hS hAN⟩ rfl rfl hl.1 rfl (lv_room (Nat.le_of_ble_eq_true rfl)) d_Nm_candidates_113 ⟨Nat.le_of_ble_eq_true rfl, Nat.le_of_ble_eq_true rfl⟩) hS (fun locs hS => ?_)
                      refine lv_eqi (y := (plcV (nI a) (nI b9))) rfl ?_
                      refine lv_eqi (y := (nI (a * 24 + b9))) (plc_lt hab (by omega)) ?_
                      obtain ⟨nq3, hnq3⟩ : ∃ z : Nat, z = H.size := ⟨_, rfl⟩
                      refine h_callv (va_runV (As := [.int (nI (a * 24 + b9))]) (rest := []) ⟨hx, hb, hml, hown, htg⟩ (c_Nm_keepPair l D cs N0 H o (upZ z 0 0 c2) (upK (upK K 8 0 g2) 9 0 w2) r nq3 ((nI (a * 24 + b9))) hI hnq3) ⟨x_cwB 1 htg (gw_mem (i := 587) (by decide +kernel) rfl) (gw_mem (i := 30) (by decide +kernel) rfl) (gw_mem (i := 584) (by decide +kernel) rfl) (by decide +kernel) ⟨Nat.le_of_ble_eq_true rfl, Nat.le_of_ble_eq_true rfl⟩, htg _ (gw_mem (i := 586) (by decide +kernel) rfl), htg _ (gw_mem (i := 6) (by decide +kernel) rfl)⟩ ⟨hPre.blind, hx_recv hK (ci := 1) rfl (show va_at D vwCl (o 0 0, .inr (1, [.ref (o 1 0), .ref (o 3 0), .ref (o 5 0), .ref (o 7 0), .ref (o 8 0), .int (nI c2), .int (K 0 0 0), .ref (o 9 0)])) H from hI.at (k := 0) (n := 0) (show nmv z 0 0 from rfl)), hPre.at hB hS hAN⟩ rfl rfl hl.1 rfl (lv_room (Nat.le_of_ble_eq_true rfl)) d_Nm_candidates_116 ⟨Nat.le_of_ble_eq_true rfl, Nat.le_of_ble_eq_true rfl⟩) hS (fun q9 h9 => h9.elim Or.inl (fun h9 => Or.inr (show N ≤ q9 by omega))) (fun H locs hp hz hk hS => ?_)
                      replace hI : nmP D cs N0 H o (upZ z 0 0 (kpS (c2, g2) ((nI (a * 24 + b9)))).1) (upK (upK K 8 0 (kpS (c2, g2) ((nI (a * 24 + b9)))).2) 9 0 w2) r := kp_post hp
                      refine lv_iinc (v := (nI (b9 + 1))) (lv' := [(4, .int (nI (b9 + 1))), (5, .int 1), (0, .ref (o 0 0)), (1, .int q), (2, .int (nI a)), (3, .int (owV z K (nI a) 100000))]) hx hb d_Nm_candidates_119 hl (k := 5) rfl (nI_1 b9) (by decide) rfl (fun ls hl => ?_)
                      refine lv_goto (tgt := 31) hx hb d_Nm_candidates_122 (by decide) ?_
                      exact ih31  (b9 + 1) ((kpS (c2, g2) ((nI (a * 24 + b9)))).1) ((kpS (c2, g2) ((nI (a * 24 + b9)))).2) w2 (by omega) (by omega) (by omega) (by rw [show upt (cnS z K q a) (b9 + 1) (c1, g1) = cnS z K q a (upt (cnS z K q a) b9 (c1, g1)) b9 from rfl, ← hst2]; simp [cnS, canP, hab, c49, c63, c106]) _ _ hI hS ls (lv_sub hl [2, 3, 4, 5, 0] rfl)
        exact loop31 ((z 3 0 - (a + 1)) + 1) (a + 1) c1 g1 w1 (Nat.lt_succ_self _) (by omega) (by omega) (cn_low _ (Nat.le_refl _)).symm _ _ hI hS ls (lv_sub hl [2, 3, 4, 1, 0] rfl)
  exact loop7 ((z 3 0 - 0) + 1) 0 0 (K 8 0) (K 9 0) (Nat.lt_succ_self _) (Nat.zero_le _) rfl _ _ hI hS ls (lv_sub hl [1, 2, 0] rfl)
