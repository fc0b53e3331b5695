abbrev tn (q : Int32) : Nat := q.toNatClampNeg
theorem isN_n {n : Nat} {q : Int32} (h : isN n q = true) (hn : n < 2 ^ 31) : tn q < n ∧ q = nI (tn q) := by
  have h1 : ¬ q < 0 := by intro z; simp [isN, z] at h
  have h2 : ¬ nI n ≤ q := by intro z; simp [isN, z] at h
  obtain ⟨j, hj, rfl⟩ := nI_of h1
  have hjn : ¬ n ≤ j := fun z => h2 ((nI_leI hn hj).mpr z)
  show (nI j).toNatClampNeg < n ∧ nI j = nI (nI j).toNatClampNeg
  rw [nI_clamp hj]
  exact ⟨by omega, rfl⟩
theorem isSt_n {q : Int32} (h : isSt q = true) : tn q < 4 ∧ q = nI (tn q) := isN_n (n := 4) h (by decide)
def fstFrom (P : Nat → Bool) : Nat → Nat → Int32
  | _, 0 => -1
  | k, n + 1 => if P k = true then nI k else fstFrom P (k + 1) n
theorem fst_end {P : Nat → Bool} {k n : Nat} (h : n ≤ k) : fstFrom P k (n - k) = -1 := by rw [Nat.sub_eq_zero_of_le h]; rfl
theorem fst_hit {P : Nat → Bool} {k n : Nat} (h : k < n) (hp : P k = true) : fstFrom P k (n - k) = nI k := by
  rw [show n - k = (n - (k + 1)) + 1 by omega]
  exact if_pos hp
theorem fst_miss {P : Nat → Bool} {k n : Nat} (h : k < n) (hp : P k = false) : fstFrom P k (n - k) = fstFrom P (k + 1) (n - (k + 1)) := by
  rw [show n - k = (n - (k + 1)) + 1 by omega]
  exact if_neg (by rw [hp]; decide)
def ownP (f : Nat → Nat → Int32) (st : Nat) (q : Int32) : Nat → Bool := fun j => !decide (q ≤ 0) && decide (f 12 (4 * j + st) = q)
def y_Md_dates : MethodName := ⟨"NameMergesModel", "dates", "(III)Z"⟩
abbrev w_Md_dates : List Cond := Cond.code y_Md_dates prog_7_method_10_code 5 (Option.some Jvm.ClassFile.FieldType.boolean) :: gw
theorem d_Md_dates_0 : decode prog_7_method_10_code 0 = .ok (.aload_n 0, 1) := by decide +kernel
theorem d_Md_dates_1 : decode prog_7_method_10_code 1 = .ok (.aload_n 0, 1) := by decide +kernel
theorem d_Md_dates_2 : decode prog_7_method_10_code 2 = .ok (.iload_n 1, 1) := by decide +kernel
theorem d_Md_dates_3 : decode prog_7_method_10_code 3 = .ok (.invokevirtual 92, 3) := by decide +kernel
theorem d_Md_dates_6 : decode prog_7_method_10_code 6 = .ok (.iload_n 2, 1) := by decide +kernel
theorem d_Md_dates_7 : decode prog_7_method_10_code 7 = .ok (.invokestatic 96, 3) := by decide +kernel
theorem d_Md_dates_10 : decode prog_7_method_10_code 10 = .ok (.ifCond .eq 19, 3) := by decide +kernel
theorem d_Md_dates_13 : decode prog_7_method_10_code 13 = .ok (.iload_n 3, 1) := by decide +kernel
theorem d_Md_dates_14 : decode prog_7_method_10_code 14 = .ok (.invokestatic 96, 3) := by decide +kernel
theorem d_Md_dates_17 : decode prog_7_method_10_code 17 = .ok (.ifCond .eq 12, 3) := by decide +kernel
theorem d_Md_dates_20 : decode prog_7_method_10_code 20 = .ok (.iload_n 2, 1) := by decide +kernel
theorem d_Md_dates_21 : decode prog_7_method_10_code 21 = .ok (.iload_n 3, 1) := by decide +kernel
theorem d_Md_dates_22 : decode prog_7_method_10_code 22 = .ok (.if_icmp .gt 7, 3) := by decide +kernel
theorem d_Md_dates_25 : decode prog_7_method_10_code 25 = .ok (.iconst 1, 1) := by decide +kernel
theorem d_Md_dates_26 : decode prog_7_method_10_code 26 = .ok (.goto 4, 3) := by decide +kernel
theorem d_Md_dates_29 : decode prog_7_method_10_code 29 = .ok (.iconst 0, 1) := by decide +kernel
theorem d_Md_dates_30 : decode prog_7_method_10_code 30 = .ok (.iconst 1, 1) := by decide +kernel
theorem d_Md_dates_31 : decode prog_7_method_10_code 31 = .ok (.invokevirtual 88, 3) := by decide +kernel
theorem d_Md_dates_34 : decode prog_7_method_10_code 34 = .ok (.ifCond .ne 5, 3) := by decide +kernel
theorem d_Md_dates_37 : decode prog_7_method_10_code 37 = .ok (.iconst 0, 1) := by decide +kernel
theorem d_Md_dates_38 : decode prog_7_method_10_code 38 = .ok (.ireturn, 1) := by decide +kernel
theorem d_Md_dates_39 : decode prog_7_method_10_code 39 = .ok (.aload_n 0, 1) := by decide +kernel
theorem d_Md_dates_40 : decode prog_7_method_10_code 40 = .ok (.getfield 34, 3) := by decide +kernel
theorem d_Md_dates_43 : decode prog_7_method_10_code 43 = .ok (.iload_n 1, 1) := by decide +kernel
theorem d_Md_dates_44 : decode prog_7_method_10_code 44 = .ok (.iaload, 1) := by decide +kernel
theorem d_Md_dates_45 : decode prog_7_method_10_code 45 = .ok (.iload_n 3, 1) := by decide +kernel
theorem d_Md_dates_46 : decode prog_7_method_10_code 46 = .ok (.if_icmp .ne 13, 3) := by decide +kernel
theorem d_Md_dates_49 : decode prog_7_method_10_code 49 = .ok (.aload_n 0, 1) := by decide +kernel
theorem d_Md_dates_50 : decode prog_7_method_10_code 50 = .ok (.getfield 31, 3) := by decide +kernel
theorem d_Md_dates_53 : decode prog_7_method_10_code 53 = .ok (.iload_n 1, 1) := by decide +kernel
theorem d_Md_dates_54 : decode prog_7_method_10_code 54 = .ok (.iaload, 1) := by decide +kernel
theorem d_Md_dates_55 : decode prog_7_method_10_code 55 = .ok (.iload_n 2, 1) := by decide +kernel
theorem d_Md_dates_56 : decode prog_7_method_10_code 56 = .ok (.if_icmp .eq 7, 3) := by decide +kernel
theorem d_Md_dates_59 : decode prog_7_method_10_code 59 = .ok (.iconst 1, 1) := by decide +kernel
theorem d_Md_dates_60 : decode prog_7_method_10_code 60 = .ok (.goto 4, 3) := by decide +kernel
theorem d_Md_dates_63 : decode prog_7_method_10_code 63 = .ok (.iconst 0, 1) := by decide +kernel
theorem d_Md_dates_64 : decode prog_7_method_10_code 64 = .ok (.istore 4, 2) := by decide +kernel
theorem d_Md_dates_66 : decode prog_7_method_10_code 66 = .ok (.aload_n 0, 1) := by decide +kernel
theorem d_Md_dates_67 : decode prog_7_method_10_code 67 = .ok (.getfield 31, 3) := by decide +kernel
theorem d_Md_dates_70 : decode prog_7_method_10_code 70 = .ok (.iload_n 1, 1) := by decide +kernel
theorem d_Md_dates_71 : decode prog_7_method_10_code 71 = .ok (.iload_n 2, 1) := by decide +kernel
theorem d_Md_dates_72 : decode prog_7_method_10_code 72 = .ok (.iastore, 1) := by decide +kernel
theorem d_Md_dates_73 : decode prog_7_method_10_code 73 = .ok (.aload_n 0, 1) := by decide +kernel
theorem d_Md_dates_74 : decode prog_7_method_10_code 74 = .ok (.getfield 34, 3) := by decide +kernel
theorem d_Md_dates_77 : decode prog_7_method_10_code 77 = .ok (.iload_n 1, 1) := by decide +kernel
theorem d_Md_dates_78 : decode prog_7_method_10_code 78 = .ok (.iload_n 3, 1) := by decide +kernel
theorem d_Md_dates_79 : decode prog_7_method_10_code 79 = .ok (.iastore, 1) := by decide +kernel
theorem d_Md_dates_80 : decode prog_7_method_10_code 80 = .ok (.iload 4, 2) := by decide +kernel
theorem d_Md_dates_82 : decode prog_7_method_10_code 82 = .ok (.ireturn, 1) := by decide +kernel
set_option maxHeartbeats 4000000 in
set_option maxRecDepth 100000 in
theorem c_Md_dates (l : Launch) (D : va_G) (cs : Nat → ClassId) (N0 : Nat) (H : Heap) (x : Nat) (g : Nat → Nat) (i : Nat → Int32) (f : Nat → Nat → Int32) (q u v : Int32) (hsep : md_sep N0 x g) (hI : md_I D cs H x g i f) (n : Nat) (hn : i 2 = nI n) (hn24 : n ≤ 24) : Met l y_Md_dates w_Md_dates ({ frames := 1, cells := 0, slots := 0, locals := 23 }) (hPre D cs N0 [.ref x, .int q, .int u, .int v] H) (hQi (fun r H' => if goB (isN n q) (isD u && isD v && !decide (v < u)) true = true then (md_I D cs H' x g (upd i 0 (goV (isN n q) (isD u && isD v && !decide (v < u)) true)) (updA (updA f 7 (tn q) u) 8 (tn q) v) ∧ r = bI (!(decide (f 8 (tn q) = v) && decide (f 7 (tn q) = u)))) else (md_I D cs H' x g (upd i 0 (goV (isN n q) (isD u && isD v && !decide (v < u)) true)) f ∧ r = 0)) (md_A x g)) 0 0 (md_A x g) := by
  refine Met.ofW (cc := prog_7_method_10_code) (maxL := 5) (ret := (Option.some Jvm.ClassFile.FieldType.boolean)) (by decide) rfl ?_
  intro p e s m args below meth c s₁ B hml hv
  obtain ⟨rfl, rfl, hB⟩ := hv
  have hx := B.exec
  have hb := B.bytes
  have hr := B.returns
  have hts := atoms_spec (ws := w_Md_dates) B.pre
  have htg : ∀ w ∈ gw, w.before _ s = true := fun w h => hts w (List.mem_cons_of_mem _ h)
  have hown : s.vm.findClass "NameMergesModel" = some m.cls := findClass_of_methodNamed B.named
  have hlocks := B.notSynchronized
  have hK := hB.1
  have hS : va_S (md_A x g) s.heap s.heap [] := va_S.rf
  obtain ⟨H, hH⟩ : ∃ z : Heap, z = s.heap := ⟨_, rfl⟩
  rw [← hH] at hI
  have hS : va_S (md_A x g) s.heap H [] := by rw [hH]; exact va_S.rf
  have hl := lv_entry ([.ref x, .int q, .int u, .int v]) (n := 5) (Nat.le_of_ble_eq_true rfl)
  rw [lg_entry_eq, ← hH]
  generalize (lg_sl ([.ref x, .int q, .int u, .int v]) ++ List.replicate (5 - (lg_sl ([.ref x, .int q, .int u, .int v])).length) Slot.unset).toArray = ls at hl ⊢
  have hl : lv_has ls 5 [(0, .ref x), (1, .int q), (2, .int u), (3, .int v)] := hl
  refine lv_aload_n hx hb d_Md_dates_0 rfl (lv_at hl 0 rfl) ?_
  refine lv_aload_n hx hb d_Md_dates_1 rfl (lv_at hl 0 rfl) ?_
  refine lv_iload_n hx hb d_Md_dates_2 rfl (lv_at hl 1 rfl) ?_
  refine h_calli (va_runV (As := [.int q]) (rest := [.ref x]) ⟨hx, hb, hml, hown, htg⟩ (c_Md_isName l D cs N0 H x g i f q hsep hI n hn) (cwV 1 htg (gw_V (gw_mem (i := 1108) (by decide +kernel) rfl) (gw_mem (i := 1110) (by decide +kernel) rfl) (gw_mem (i := 19) (by decide +kernel) rfl) (gw_mem (i := 38) (by decide +kernel) rfl) (gw_mem (i := 1111) (by decide +kernel) rfl)) rfl rfl rfl (by decide +kernel) ⟨Nat.le_of_ble_eq_true rfl, Nat.le_of_ble_eq_true rfl⟩) ⟨hPre.blind, hx_recv hK (ci := 0) rfl hI.1, hPre.at hB hS hsep.A⟩ rfl rfl hl.1 rfl (lv_room (Nat.le_of_ble_eq_true rfl)) d_Md_dates_3 ⟨Nat.zero_le _, Nat.zero_le _⟩) hS (fun _ h => h) (fun r3 H locs hp hz hk hS => ?_)
  obtain ⟨hI, er3⟩ := hp
  refine lv_eqi (y := (bI (isN n q))) er3 ?_
  refine lv_iload_n hx hb d_Md_dates_6 rfl (lv_at hl 2 rfl) ?_
  refine h_calli (va_runS (As := [.int u]) (rest := [.int (bI (isN n q)), .ref x]) ⟨hx, hb, hml, hown, htg⟩ (c_Md_isDay l D cs N0 H x g i f u hsep hI) (cwS 1 htg (gw_S (gw_mem (i := 1112) (by decide +kernel) rfl) (gw_mem (i := 1113) (by decide +kernel) rfl) (gw_mem (i := 38) (by decide +kernel) rfl) (gw_mem (i := 1114) (by decide +kernel) rfl)) rfl rfl rfl (by decide +kernel) ⟨Nat.le_of_ble_eq_true rfl, Nat.le_of_ble_eq_true rfl⟩) ⟨hPre.blind, hPre.at hB hS hsep.A⟩ rfl rfl hl.1 rfl (lv_room (Nat.le_of_ble_eq_true rfl)) d_Md_dates_7 ⟨Nat.zero_le _, Nat.zero_le _⟩) hS (fun _ h => h) (fun r7 H locs hp hz hk hS => ?_)
  obtain ⟨hI, er7⟩ := hp
  refine lv_eqi (y := (bI (isD u))) er7 ?_
  refine lv_if_eq (x := (bI (isD u))) (tgt := 29) hx hb d_Md_dates_10 (by decide) (fun c10 => ?_) (fun c10 => ?_)
  · skip
    replace c10 : (isD u) = false := bI_0 c10
    refine lv_iconst (v := 0) hx hb d_Md_dates_29 (by decide) ?_
    refine lv_iconst (v := 1) hx hb d_Md_dates_30 (by decide) ?_
    refine h_calli (va_runV (As := [.int (bI (isN n q)), .int 0, .int 1]) (rest := []) ⟨hx, hb, hml, hown, htg⟩ (c_Md_goes l D cs N0 H x g i f (isN n q) false true hsep hI) (cwV 3 htg (gw_V (gw_mem (i := 1092) (by decide +kernel) rfl) (gw_mem (i := 1094) (by decide +kernel) rfl) (gw_mem (i := 18) (by decide +kernel) rfl) (gw_mem (i := 38) (by decide +kernel) rfl) (gw_mem (i := 1095) (by decide +kernel) rfl)) rfl rfl rfl (by decide +kernel) ⟨Nat.le_of_ble_eq_true rfl, Nat.le_of_ble_eq_true rfl⟩) ⟨hPre.blind, hx_recv hK (ci := 0) rfl hI.1, hPre.at hB hS hsep.A⟩ rfl rfl hl.1 rfl (lv_room (Nat.le_of_ble_eq_true rfl)) d_Md_dates_31 ⟨Nat.zero_le _, Nat.zero_le _⟩) hS (fun _ h => h) (fun r31 H locs hp hz hk hS => ?_)
    obtain ⟨hI, er31⟩ := hp
    refine lv_eqi (y := 0) (er31.trans (by simp [goB, bI])) ?_
    refine lv_if_ne (x := 0) (tgt := 39) hx hb d_Md_dates_34 (by decide) (fun c34 => ?_) (fun c34 => ?_)
    · exact absurd c34 (by decide)
    · skip
      refine lv_iconst (v := 0) hx hb d_Md_dates_37 (by decide) ?_
      exact W.zret (v := 0) hx hb hr (by decide) (fun t ht hW => ⟨⟨0, H, rfl, by dsimp only; have e1 : (isD u && isD v && !decide (v < u)) = false := (by first | (simp [c10]; done) | (simp [c10]; omega) | omega | simp_all); rw [e1]; rw [if_neg (show ¬ goB (isN n q) false true = true by simp [goB])]; exact ⟨hI, rfl⟩, ht⟩, hS.F ht⟩) hS.2.2 d_Md_dates_38
  · skip
    replace c10 : (isD u) = true := bI_1 c10
    refine lv_iload_n hx hb d_Md_dates_13 rfl (lv_at hl 3 rfl) ?_
    refine h_calli (va_runS (As := [.int v]) (rest := [.int (bI (isN n q)), .ref x]) ⟨hx, hb, hml, hown, htg⟩ (c_Md_isDay l D cs N0 H x g i f v hsep hI) (cwS 1 htg (gw_S (gw_mem (i := 1112) (by decide +kernel) rfl) (gw_mem (i := 1113) (by decide +kernel) rfl) (gw_mem (i := 38) (by decide +kernel) rfl) (gw_mem (i := 1114) (by decide +kernel) rfl)) rfl rfl rfl (by decide +kernel) ⟨Nat.le_of_ble_eq_true rfl, Nat.le_of_ble_eq_true rfl⟩) ⟨hPre.blind, hPre.at hB hS hsep.A⟩ rfl rfl hl.1 rfl (lv_room (Nat.le_of_ble_eq_true rfl)) d_Md_dates_14 ⟨Nat.zero_le _, Nat.zero_le _⟩) hS (fun _ h => h) (fun r14 H locs hp hz hk hS => ?_)
    obtain ⟨hI, er14⟩ := hp
    refine lv_eqi (y := (bI (isD v))) er14 ?_
    refine lv_if_eq (x := (bI (isD v))) (tgt := 29) hx hb d_Md_dates_17 (by decide) (fun c17 => ?_) (fun c17 => ?_)
    · skip
      replace c17 : (isD v) = false := bI_0 c17
      refine lv_iconst (v := 0) hx hb d_Md_dates_29 (by decide) ?_
      refine lv_iconst (v := 1) hx hb d_Md_dates_30 (by decide) ?_
      refine h_calli (va_runV (As := [.int (bI (isN n q)), .int 0, .int 1]) (rest := []) ⟨hx, hb, hml, hown, htg⟩ (c_Md_goes l D cs N0 H x g i f (isN n q) false true hsep hI) (cwV 3 htg (gw_V (gw_mem (i := 1092) (by decide +kernel) rfl) (gw_mem (i := 1094) (by decide +kernel) rfl) (gw_mem (i := 18) (by decide +kernel) rfl) (gw_mem (i := 38) (by decide +kernel) rfl) (gw_mem (i := 1095) (by decide +kernel) rfl)) rfl rfl rfl (by decide +kernel) ⟨Nat.le_of_ble_eq_true rfl, Nat.le_of_ble_eq_true rfl⟩) ⟨hPre.blind, hx_recv hK (ci := 0) rfl hI.1, hPre.at hB hS hsep.A⟩ rfl rfl hl.1 rfl (lv_room (Nat.le_of_ble_eq_true rfl)) d_Md_dates_31 ⟨Nat.zero_le _, Nat.zero_le _⟩) hS (fun _ h => h) (fun r31 H locs hp hz hk hS => ?_)
      obtain ⟨hI, er31⟩ := hp
      refine lv_eqi (y := 0) (er31.trans (by simp [goB, bI])) ?_
      refine lv_if_ne (x := 0) (tgt := 39) hx hb d_Md_dates_34 (by decide) (fun c34 => ?_) (fun c34 => ?_)
      · exact absurd c34 (by decide)
      · skip
        refine lv_iconst (v := 0) hx hb d_Md_dates_37 (by decide) ?_
        exact W.zret (v := 0) hx hb hr (by decide) (fun t ht hW => ⟨⟨0, H, rfl, by dsimp only; have e1 : (isD u && isD v && !decide (v < u)) = false := (by first | (simp [c10, c17]; done) | (simp [c10, c17]; omega) | omega | simp_all); rw [e1]; rw [if_neg (show ¬ goB (isN n q) false true = true by simp [goB])]; exact ⟨hI, rfl⟩, ht⟩, hS.F ht⟩) hS.2.2 d_Md_dates_38
    · skip
      replace c17 : (isD v) = true := bI_1 c17
      refine lv_iload_n hx hb d_Md_dates_20 rfl (lv_at hl 2 rfl) ?_
      refine lv_iload_n hx hb d_Md_dates_21 rfl (lv_at hl 3 rfl) ?_
      refine lv_icmp_gt (x := u) (y := v) (tgt := 29) hx hb d_Md_dates_22 (by decide) (fun c22 => ?_) (fun c22 => ?_)
      · skip
        refine lv_iconst (v := 0) hx hb d_Md_dates_29 (by decide) ?_
        refine lv_iconst (v := 1) hx hb d_Md_dates_30 (by decide) ?_
        refine h_calli (va_runV (As := [.int (bI (isN n q)), .int 0, .int 1]) (rest := []) ⟨hx, hb, hml, hown, htg⟩ (c_Md_goes l D cs N0 H x g i f (isN n q) false true hsep hI) (cwV 3 htg (gw_V (gw_mem (i := 1092) (by decide +kernel) rfl) (gw_mem (i := 1094) (by decide +kernel) rfl) (gw_mem (i := 18) (by decide +kernel) rfl) (gw_mem (i := 38) (by decide +kernel) rfl) (gw_mem (i := 1095) (by decide +kernel) rfl)) rfl rfl rfl (by decide +kernel) ⟨Nat.le_of_ble_eq_true rfl, Nat.le_of_ble_eq_true rfl⟩) ⟨hPre.blind, hx_recv hK (ci := 0) rfl hI.1, hPre.at hB hS hsep.A⟩ rfl rfl hl.1 rfl (lv_room (Nat.le_of_ble_eq_true rfl)) d_Md_dates_31 ⟨Nat.zero_le _, Nat.zero_le _⟩) hS (fun _ h => h) (fun r31 H locs hp hz hk hS => ?_)
        obtain ⟨hI, er31⟩ := hp
        refine lv_eqi (y := 0) (er31.trans (by simp [goB, bI])) ?_
        refine lv_if_ne (x := 0) (tgt := 39) hx hb d_Md_dates_34 (by decide) (fun c34 => ?_) (fun c34 => ?_)
        · exact absurd c34 (by decide)
        · skip
          refine lv_iconst (v := 0) hx hb d_Md_dates_37 (by decide) ?_
          exact W.zret (v := 0) hx hb hr (by decide) (fun t ht hW => ⟨⟨0, H, rfl, by dsimp only; have e1 : (isD u && isD v && !decide (v < u)) = false := (by first | (simp [c10, c17, c22]; done) | (simp [c10, c17, c22]; omega) | omega | simp_all); rw [e1]; rw [if_neg (show ¬ goB (isN n q) false true = true by simp [goB])]; exact ⟨hI, rfl⟩, ht⟩, hS.F ht⟩) hS.2.2 d_Md_dates_38
      · skip
        refine lv_iconst (v := 1) hx hb d_Md_dates_25 (by decide) ?_
        refine lv_goto (tgt := 30) hx hb d_Md_dates_26 (by decide) ?_
        refine lv_iconst (v := 1) hx hb d_Md_dates_30 (by decide) ?_
        refine h_calli (va_runV (As := [.int (bI (isN n q)), .int 1, .int 1]) (rest := []) ⟨hx, hb, hml, hown, htg⟩ (c_Md_goes l D cs N0 H x g i f (isN n q) true true hsep hI) (cwV 3 htg (gw_V (gw_mem (i := 1092) (by decide +kernel) rfl) (gw_mem (i := 1094) (by decide +kernel) rfl) (gw_mem (i := 18) (by decide +kernel) rfl) (gw_mem (i := 38) (by decide +kernel) rfl) (gw_mem (i := 1095) (by decide +kernel) rfl)) rfl rfl rfl (by decide +kernel) ⟨Nat.le_of_ble_eq_true rfl, Nat.le_of_ble_eq_true rfl⟩) ⟨hPre.blind, hx_recv hK (ci := 0) rfl hI.1, hPre.at hB hS hsep.A⟩ rfl rfl hl.1 rfl (lv_room (Nat.le_of_ble_eq_true rfl)) d_Md_dates_31 ⟨Nat.zero_le _, Nat.zero_le _⟩) hS (fun _ h => h) (fun r31 H locs hp hz hk hS => ?_)
        obtain ⟨hI, er31⟩ := hp
        refine lv_eqi (y := (bI (goB (isN n q) true true))) er31 ?_
        refine lv_if_ne (x := (bI (goB (isN n q) true true))) (tgt := 39) hx hb d_Md_dates_34 (by decide) (fun c34 => ?_) (fun c34 => ?_)
        · skip
          replace c34 : (goB (isN n q) true true) = true := bI_1 c34
          have hq : isN n q = true := by simpa [goB] using c34
          obtain ⟨ha, ea⟩ := isN_n hq (by omega)
          refine lv_aload_n hx hb d_Md_dates_39 rfl (lv_at hl 0 rfl) ?_
          refine hx_get (v := .ref (g 8)) hx hb htg iMd hown hK hI.1 rfl 11 (by decide) (htg _ (gw_mem (i := 1009) (by decide +kernel) rfl)) (fun _ h9 => h9) rfl d_Md_dates_40 ?_
          refine lv_iload_n hx hb d_Md_dates_43 rfl (lv_at hl 1 rfl) ?_
          refine lv_eqi (y := (nI (tn q))) ea ?_
          refine hx_iald hx hb hK 0 (hI.2 8 (by decide)) rfl (show vp_in (nI (tn q)) 24 from vp_in_nI (n := tn q) (by omega) (by decide)) d_Md_dates_44 ?_
          refine lv_eqi (y := (f 8 (tn q))) (show f 8 (nI (tn q)).toNatClampNeg = _ by rw [nI_clamp (by omega)]) ?_
          refine lv_iload_n hx hb d_Md_dates_45 rfl (lv_at hl 3 rfl) ?_
          refine lv_icmp_ne (x := (f 8 (tn q))) (y := v) (tgt := 59) hx hb d_Md_dates_46 (by decide) (fun c46 => ?_) (fun c46 => ?_)
          · skip
            refine lv_iconst (v := 1) hx hb d_Md_dates_59 (by decide) ?_
            refine lv_goto (tgt := 64) hx hb d_Md_dates_60 (by decide) ?_
            refine lv_istore (lv' := [(4, .int 1), (0, .ref x), (1, .int q), (2, .int u), (3, .int v)]) hx hb d_Md_dates_64 hl (by decide) rfl (fun ls hl => ?_)
            refine lv_aload_n hx hb d_Md_dates_66 rfl (lv_at hl 1 rfl) ?_
            refine hx_get (v := .ref (g 7)) hx hb htg iMd hown hK hI.1 rfl 10 (by decide) (htg _ (gw_mem (i := 1008) (by decide +kernel) rfl)) (fun _ h9 => h9) rfl d_Md_dates_67 ?_
            refine lv_iload_n hx hb d_Md_dates_70 rfl (lv_at hl 2 rfl) ?_
            refine lv_eqi (y := (nI (tn q))) ea ?_
            refine lv_iload_n hx hb d_Md_dates_71 rfl (lv_at hl 3 rfl) ?_
            refine hx_iast hx hb hK hS (Or.inr ⟨7, by decide, rfl⟩) 0 (hI.2 7 (by decide)) rfl (show vp_in (nI (tn q)) 24 from vp_in_nI (n := tn q) (by omega) (by decide)) d_Md_dates_72 (fun H locs hat hz ho hS => ?_)
            replace hI : md_I D cs H x g (upd i 0 (goV (isN n q) true true)) (updA f 7 (tn q) (u)) := md_I.puta hI hsep (by decide) (by rw [show ((nI (tn q)) : Int32).toNatClampNeg = tn q from nI_clamp (n := tn q) (by omega)] at hat; exact hat) ho
            refine lv_aload_n hx hb d_Md_dates_73 rfl (lv_at hl 1 rfl) ?_
            refine hx_get (v := .ref (g 8)) hx hb htg iMd hown hK hI.1 rfl 11 (by decide) (htg _ (gw_mem (i := 1009) (by decide +kernel) rfl)) (fun _ h9 => h9) rfl d_Md_dates_74 ?_
            refine lv_iload_n hx hb d_Md_dates_77 rfl (lv_at hl 2 rfl) ?_
            refine lv_eqi (y := (nI (tn q))) ea ?_
            refine lv_iload_n hx hb d_Md_dates_78 rfl (lv_at hl 4 rfl) ?_
            refine hx_iast hx hb hK hS (Or.inr ⟨8, by decide, rfl⟩) 0 (hI.2 8 (by decide)) rfl (show vp_in (nI (tn q)) 24 from vp_in_nI (n := tn q) (by omega) (by decide)) d_Md_dates_79 (fun H locs hat hz ho hS => ?_)
            replace hI : md_I D cs H x g (upd i 0 (goV (isN n q) true true)) (updA (updA f 7 (tn q) (u)) 8 (tn q) (v)) := md_I.puta hI hsep (by decide) (by rw [show ((nI (tn q)) : Int32).toNatClampNeg = tn q from nI_clamp (n := tn q) (by omega)] at hat; exact hat) ho
            refine lv_iload hx hb d_Md_dates_80 (lv_at hl 0 rfl) ?_
            exact W.zret (v := 1) hx hb hr (by decide) (fun t ht hW => ⟨⟨1, H, rfl, by dsimp only; have e1 : (isD u && isD v && !decide (v < u)) = true := (by first | (simp [c10, c17, c22, c34, c46]; done) | (simp [c10, c17, c22, c34, c46]; omega) | omega | simp_all); rw [e1]; rw [if_pos c34]; exact ⟨hI, by simp [bI, c46]⟩, ht⟩, hS.F ht⟩) hS.2.2 d_Md_dates_82
          · skip
            refine lv_aload_n hx hb d_Md_dates_49 rfl (lv_at hl 0 rfl) ?_
            refine hx_get (v := .ref (g 7)) hx hb htg iMd hown hK hI.1 rfl 10 (by decide) (htg _ (gw_mem (i := 1008) (by decide +kernel) rfl)) (fun _ h9 => h9) rfl d_Md_dates_50 ?_
            refine lv_iload_n hx hb d_Md_dates_53 rfl (lv_at hl 1 rfl) ?_
            refine lv_eqi (y := (nI (tn q))) ea ?_
            refine hx_iald hx hb hK 0 (hI.2 7 (by decide)) rfl (show vp_in (nI (tn q)) 24 from vp_in_nI (n := tn q) (by omega) (by decide)) d_Md_dates_54 ?_
            refine lv_eqi (y := (f 7 (tn q))) (show f 7 (nI (tn q)).toNatClampNeg = _ by rw [nI_clamp (by omega)]) ?_
            refine lv_iload_n hx hb d_Md_dates_55 rfl (lv_at hl 2 rfl) ?_
            refine lv_icmp_eq (x := (f 7 (tn q))) (y := u) (tgt := 63) hx hb d_Md_dates_56 (by decide) (fun c56 => ?_) (fun c56 => ?_)
            · skip
              refine lv_iconst (v := 0) hx hb d_Md_dates_63 (by decide) ?_
              refine lv_istore (lv' := [(4, .int 0), (0, .ref x), (1, .int q), (2, .int u), (3, .int v)]) hx hb d_Md_dates_64 hl (by decide) rfl (fun ls hl => ?_)
              refine lv_aload_n hx hb d_Md_dates_66 rfl (lv_at hl 1 rfl) ?_
              refine hx_get (v := .ref (g 7)) hx hb htg iMd hown hK hI.1 rfl 10 (by decide) (htg _ (gw_mem (i := 1008) (by decide +kernel) rfl)) (fun _ h9 => h9) rfl d_Md_dates_67 ?_
              refine lv_iload_n hx hb d_Md_dates_70 rfl (lv_at hl 2 rfl) ?_
              refine lv_eqi (y := (nI (tn q))) ea ?_
              refine lv_iload_n hx hb d_Md_dates_71 rfl (lv_at hl 3 rfl) ?_
              refine hx_iast hx hb hK hS (Or.inr ⟨7, by decide, rfl⟩) 0 (hI.2 7 (by decide)) rfl (show vp_in (nI (tn q)) 24 from vp_in_nI (n := tn q) (by omega) (by decide)) d_Md_dates_72 (fun H locs hat hz ho hS => ?_)
              replace hI : md_I D cs H x g (upd i 0 (goV (isN n q) true true)) (updA f 7 (tn q) (u)) := md_I.puta hI hsep (by decide) (by rw [show ((nI (tn q)) : Int32).toNatClampNeg = tn q from nI_clamp (n := tn q) (by omega)] at hat; exact hat) ho
              refine lv_aload_n hx hb d_Md_dates_73 rfl (lv_at hl 1 rfl) ?_
              refine hx_get (v := .ref (g 8)) hx hb htg iMd hown hK hI.1 rfl 11 (by decide) (htg _ (gw_mem (i := 1009) (by decide +kernel) rfl)) (fun _ h9 => h9) rfl d_Md_dates_74 ?_
              refine lv_iload_n hx hb d_Md_dates_77 rfl (lv_at hl 2 rfl) ?_
              refine lv_eqi (y := (nI (tn q))) ea ?_
              refine lv_iload_n hx hb d_Md_dates_78 rfl (lv_at hl 4 rfl) ?_
              refine hx_iast hx hb hK hS (Or.inr ⟨8, by decide, rfl⟩) 0 (hI.2 8 (by decide)) rfl (show vp_in (nI (tn q)) 24 from vp_in_nI (n := tn q) (by omega) (by decide)) d_Md_dates_79 (fun H locs hat hz ho hS => ?_)
              replace hI : md_I D cs H x g (upd i 0 (goV (isN n q) true true)) (updA (updA f 7 (tn q) (u)) 8 (tn q) (v)) := md_I.puta hI hsep (by decide) (by rw [show ((nI (tn q)) : Int32).toNatClampNeg = tn q from nI_clamp (n := tn q) (by omega)] at hat; exact hat) ho
              refine lv_iload hx hb d_Md_dates_80 (lv_at hl 0 rfl) ?_
              exact W.zret (v := 0) hx hb hr (by decide) (fun t ht hW => ⟨⟨0, H, rfl, by dsimp only; have e1 : (isD u && isD v && !decide (v < u)) = true := (by first | (simp [c10, c17, c22, c34, c46, c56]; done) | (simp [c10, c17, c22, c34, c46, c56]; omega) | omega | simp_all); rw [e1]; rw [if_pos c34]; exact ⟨hI, by simp [bI, c46, c56]⟩, ht⟩, hS.F ht⟩) hS.2.2 d_Md_dates_82
            · skip
              refine lv_iconst (v := 1) hx hb d_Md_dates_59 (by decide) ?_
              refine lv_goto (tgt := 64) hx hb d_Md_dates_60 (by decide) ?_
              refine lv_istore (lv' := [(4, .int 1), (0, .ref x), (1, .int q), (2, .int u), (3, .int v)]) hx hb d_Md_dates_64 hl (by decide) rfl (fun ls hl => ?_)
              refine lv_aload_n hx hb d_Md_dates_66 rfl (lv_at hl 1 rfl) ?_
              refine hx_get (v := .ref (g 7)) hx hb htg iMd hown hK hI.1 rfl 10 (by decide) (htg _ (gw_mem (i := 1008) (by decide +kernel) rfl)) (fun _ h9 => h9) rfl d_Md_dates_67 ?_
              refine lv_iload_n hx hb d_Md_dates_70 rfl (lv_at hl 2 rfl) ?_
              refine lv_eqi (y := (nI (tn q))) ea ?_
              refine lv_iload_n hx hb d_Md_dates_71 rfl (lv_at hl 3 rfl) ?_
              refine hx_iast hx hb hK hS (Or.inr ⟨7, by decide, rfl⟩) 0 (hI.2 7 (by decide)) rfl (show vp_in (nI (tn q)) 24 from vp_in_nI (n := tn q) (by omega) (by decide)) d_Md_dates_72 (fun H locs hat hz ho hS => ?_)
              replace hI : md_I D cs H x g (upd i 0 (goV (isN n q) true true)) (updA f 7 (tn q) (u)) := md_I.puta hI hsep (by decide) (by rw [show ((nI (tn q)) : Int32).toNatClampNeg = tn q from nI_clamp (n := tn q) (by omega)] at hat; exact hat) ho
              refine lv_aload_n hx hb d_Md_dates_73 rfl (lv_at hl 1 rfl) ?_
              refine hx_get (v := .ref (g 8)) hx hb htg iMd hown hK hI.1 rfl 11 (by decide) (htg _ (gw_mem (i := 1009) (by decide +kernel) rfl)) (fun _ h9 => h9) rfl d_Md_dates_74 ?_
              refine lv_iload_n hx hb d_Md_dates_77 rfl (lv_at hl 2 rfl) ?_
              refine lv_eqi (y := (nI (tn q))) ea ?_
              refine lv_iload_n hx hb d_Md_dates_78 rfl (lv_at hl 4 rfl) ?_
              refine hx_iast hx hb hK hS (Or.inr ⟨8, by decide, rfl⟩) 0 (hI.2 8 (by decide)) rfl (show vp_in (nI (tn q)) 24 from vp_in_nI (n := tn q) (by omega) (by decide)) d_Md_dates_79 (fun H locs hat hz ho hS => ?_)
              replace hI : md_I D cs H x g (upd i 0 (goV (isN n q) true true)) (updA (updA f 7 (tn q) (u)) 8 (tn q) (v)) := md_I.puta hI hsep (by decide) (by rw [show ((nI (tn q)) : Int32).toNatClampNeg = tn q from nI_clamp (n := tn q) (by omega)] at hat; exact hat) ho
              refine lv_iload hx hb d_Md_dates_80 (lv_at hl 0 rfl) ?_
              exact W.zret (v := 1) hx hb hr (by decide) (fun t ht hW => ⟨⟨1, H, rfl, by dsimp only; have e1 : (isD u && isD v && !decide (v < u)) = true := (by first | (simp [c10, c17, c22, c34, c46, c56]; done) | (simp [c10, c17, c22, c34, c46, c56]; omega) | omega | simp_all); rw [e1]; rw [if_pos c34]; exact ⟨hI, by simp [bI, c46, c56]⟩, ht⟩, hS.F ht⟩) hS.2.2 d_Md_dates_82
        · skip
          replace c34 : (goB (isN n q) true true) = false := bI_0 c34
          refine lv_iconst (v := 0) hx hb d_Md_dates_37 (by decide) ?_
          exact W.zret (v := 0) hx hb hr (by decide) (fun t ht hW => ⟨⟨0, H, rfl, by dsimp only; have e1 : (isD u && isD v && !decide (v < u)) = true := (by first | (simp [c10, c17, c22, c34]; done) | (simp [c10, c17, c22, c34]; omega) | omega | simp_all); rw [e1]; rw [if_neg (show ¬ goB (isN n q) true true = true by rw [c34]; decide)]; exact ⟨hI, rfl⟩, ht⟩, hS.F ht⟩) hS.2.2 d_Md_dates_38
def y_Md_decide : MethodName := ⟨"NameMergesModel", "decide", "(III)I"⟩
abbrev w_Md_decide : List Cond := Cond.code y_Md_decide prog_7_method_19_code 5 (Option.some Jvm.ClassFile.FieldType.int) :: gw
theorem d_Md_decide_0 : decode prog_7_method_19_code 0 = .ok (.aload_n 0, 1) := by decide +kernel
theorem d_Md_decide_1 : decode prog_7_method_19_code 1 = .ok (.aload_n 0, 1) := by decide +kernel
theorem d_Md_decide_2 : decode prog_7_method_19_code 2 = .ok (.iload_n 1, 1) := by decide +kernel
theorem d_Md_decide_3 : decode prog_7_method_19_code 3 = .ok (.invokevirtual 92, 3) := by decide +kernel
theorem d_Md_decide_6 : decode prog_7_method_19_code 6 = .ok (.ifCond .eq 15, 3) := by decide +kernel
theorem d_Md_decide_9 : decode prog_7_method_19_code 9 = .ok (.aload_n 0, 1) := by decide +kernel
theorem d_Md_decide_10 : decode prog_7_method_19_code 10 = .ok (.iload_n 2, 1) := by decide +kernel
theorem d_Md_decide_11 : decode prog_7_method_19_code 11 = .ok (.invokevirtual 92, 3) := by decide +kernel
theorem d_Md_decide_14 : decode prog_7_method_19_code 14 = .ok (.ifCond .eq 7, 3) := by decide +kernel
theorem d_Md_decide_17 : decode prog_7_method_19_code 17 = .ok (.iconst 1, 1) := by decide +kernel
theorem d_Md_decide_18 : decode prog_7_method_19_code 18 = .ok (.goto 4, 3) := by decide +kernel
theorem d_Md_decide_21 : decode prog_7_method_19_code 21 = .ok (.iconst 0, 1) := by decide +kernel
theorem d_Md_decide_22 : decode prog_7_method_19_code 22 = .ok (.iload_n 1, 1) := by decide +kernel
theorem d_Md_decide_23 : decode prog_7_method_19_code 23 = .ok (.iload_n 2, 1) := by decide +kernel
theorem d_Md_decide_24 : decode prog_7_method_19_code 24 = .ok (.if_icmp .eq 16, 3) := by decide +kernel
theorem d_Md_decide_27 : decode prog_7_method_19_code 27 = .ok (.iload_n 3, 1) := by decide +kernel
theorem d_Md_decide_28 : decode prog_7_method_19_code 28 = .ok (.ifCond .lt 12, 3) := by decide +kernel
theorem d_Md_decide_31 : decode prog_7_method_19_code 31 = .ok (.iload_n 3, 1) := by decide +kernel
theorem d_Md_decide_32 : decode prog_7_method_19_code 32 = .ok (.iconst 2, 1) := by decide +kernel
theorem d_Md_decide_33 : decode prog_7_method_19_code 33 = .ok (.if_icmp .gt 7, 3) := by decide +kernel
theorem d_Md_decide_36 : decode prog_7_method_19_code 36 = .ok (.iconst 1, 1) := by decide +kernel
theorem d_Md_decide_37 : decode prog_7_method_19_code 37 = .ok (.goto 4, 3) := by decide +kernel
theorem d_Md_decide_40 : decode prog_7_method_19_code 40 = .ok (.iconst 0, 1) := by decide +kernel
theorem d_Md_decide_41 : decode prog_7_method_19_code 41 = .ok (.iconst 1, 1) := by decide +kernel
theorem d_Md_decide_42 : decode prog_7_method_19_code 42 = .ok (.invokevirtual 88, 3) := by decide +kernel
theorem d_Md_decide_45 : decode prog_7_method_19_code 45 = .ok (.ifCond .ne 5, 3) := by decide +kernel
theorem d_Md_decide_48 : decode prog_7_method_19_code 48 = .ok (.iconst 0, 1) := by decide +kernel
theorem d_Md_decide_49 : decode prog_7_method_19_code 49 = .ok (.ireturn, 1) := by decide +kernel
theorem d_Md_decide_50 : decode prog_7_method_19_code 50 = .ok (.aload_n 0, 1) := by decide +kernel
theorem d_Md_decide_51 : decode prog_7_method_19_code 51 = .ok (.getfield 37, 3) := by decide +kernel
theorem d_Md_decide_54 : decode prog_7_method_19_code 54 = .ok (.bipush 24, 2) := by decide +kernel
theorem d_Md_decide_56 : decode prog_7_method_19_code 56 = .ok (.iload_n 1, 1) := by decide +kernel
theorem d_Md_decide_57 : decode prog_7_method_19_code 57 = .ok (.imul, 1) := by decide +kernel
theorem d_Md_decide_58 : decode prog_7_method_19_code 58 = .ok (.iload_n 2, 1) := by decide +kernel
theorem d_Md_decide_59 : decode prog_7_method_19_code 59 = .ok (.iadd, 1) := by decide +kernel
theorem d_Md_decide_60 : decode prog_7_method_19_code 60 = .ok (.iaload, 1) := by decide +kernel
theorem d_Md_decide_61 : decode prog_7_method_19_code 61 = .ok (.istore 4, 2) := by decide +kernel
theorem d_Md_decide_63 : decode prog_7_method_19_code 63 = .ok (.aload_n 0, 1) := by decide +kernel
theorem d_Md_decide_64 : decode prog_7_method_19_code 64 = .ok (.getfield 37, 3) := by decide +kernel
theorem d_Md_decide_67 : decode prog_7_method_19_code 67 = .ok (.bipush 24, 2) := by decide +kernel
theorem d_Md_decide_69 : decode prog_7_method_19_code 69 = .ok (.iload_n 1, 1) := by decide +kernel
theorem d_Md_decide_70 : decode prog_7_method_19_code 70 = .ok (.imul, 1) := by decide +kernel
theorem d_Md_decide_71 : decode prog_7_method_19_code 71 = .ok (.iload_n 2, 1) := by decide +kernel
theorem d_Md_decide_72 : decode prog_7_method_19_code 72 = .ok (.iadd, 1) := by decide +kernel
theorem d_Md_decide_73 : decode prog_7_method_19_code 73 = .ok (.iload_n 3, 1) := by decide +kernel
theorem d_Md_decide_74 : decode prog_7_method_19_code 74 = .ok (.iastore, 1) := by decide +kernel
theorem d_Md_decide_75 : decode prog_7_method_19_code 75 = .ok (.aload_n 0, 1) := by decide +kernel
theorem d_Md_decide_76 : decode prog_7_method_19_code 76 = .ok (.getfield 37, 3) := by decide +kernel
theorem d_Md_decide_79 : decode prog_7_method_19_code 79 = .ok (.bipush 24, 2) := by decide +kernel
theorem d_Md_decide_81 : decode prog_7_method_19_code 81 = .ok (.iload_n 2, 1) := by decide +kernel
theorem d_Md_decide_82 : decode prog_7_method_19_code 82 = .ok (.imul, 1) := by decide +kernel
theorem d_Md_decide_83 : decode prog_7_method_19_code 83 = .ok (.iload_n 1, 1) := by decide +kernel
theorem d_Md_decide_84 : decode prog_7_method_19_code 84 = .ok (.iadd, 1) := by decide +kernel
theorem d_Md_decide_85 : decode prog_7_method_19_code 85 = .ok (.iload_n 3, 1) := by decide +kernel
theorem d_Md_decide_86 : decode prog_7_method_19_code 86 = .ok (.iastore, 1) := by decide +kernel
theorem d_Md_decide_87 : decode prog_7_method_19_code 87 = .ok (.iload 4, 2) := by decide +kernel
theorem d_Md_decide_89 : decode prog_7_method_19_code 89 = .ok (.ireturn, 1) := by decide +kernel
set_option maxHeartbeats 4000000 in
set_option maxRecDepth 100000 in
theorem c_Md_decide (l : Launch) (D : va_G) (cs : Nat → ClassId) (N0 : Nat) (H : Heap) (x : Nat) (g : Nat → Nat) (i : Nat → Int32) (f : Nat → Nat → Int32) (qa qb kd : Int32) (hsep : md_sep N0 x g) (hI : md_I D cs H x g i f) (n : Nat) (hn : i 2 = nI n) (hn24 : n ≤ 24) : Met l y_Md_decide w_Md_decide ({ frames := 1, cells := 0, slots := 0, locals := 23 }) (hPre D cs N0 [.ref x, .int qa, .int qb, .int kd] H) (hQi (fun r H' => if goB (isN n qa && isN n qb) (!decide (qa = qb) && !decide (kd < 0) && !decide (2 < kd)) true = true then (md_I D cs H' x g (upd i 0 (goV (isN n qa && isN n qb) (!decide (qa = qb) && !decide (kd < 0) && !decide (2 < kd)) true)) (updA (updA f 9 (24 * tn qa + tn qb) kd) 9 (24 * tn qb + tn qa) kd) ∧ r = f 9 (24 * tn qa + tn qb)) else (md_I D cs H' x g (upd i 0 (goV (isN n qa && isN n qb) (!decide (qa = qb) && !decide (kd < 0) && !decide (2 < kd)) true)) f ∧ r = 0)) (md_A x g)) 0 0 (md_A x g) := by
  refine Met.ofW (cc := prog_7_method_19_code) (maxL := 5) (ret := (Option.some Jvm.ClassFile.FieldType.int)) (by decide) rfl ?_
  intro p e s m args below meth c s₁ B hml hv
  obtain ⟨rfl, rfl, hB⟩ := hv
  have hx := B.exec
  have hb := B.bytes
  have hr := B.returns
  have hts := atoms_spec (ws := w_Md_decide) B.pre
  have htg : ∀ w ∈ gw, w.before _ s = true := fun w h => hts w (List.mem_cons_of_mem _ h)
  have hown : s.vm.findClass "NameMergesModel" = some m.cls := findClass_of_methodNamed B.named
  have hlocks := B.notSynchronized
  have hK := hB.1
  have hS : va_S (md_A x g) s.heap s.heap [] := va_S.rf
  obtain ⟨H, hH⟩ : ∃ z : Heap, z = s.heap := ⟨_, rfl⟩
  rw [← hH] at hI
  have hS : va_S (md_A x g) s.heap H [] := by rw [hH]; exact va_S.rf
  have hl := lv_entry ([.ref x, .int qa, .int qb, .int kd]) (n := 5) (Nat.le_of_ble_eq_true rfl)
  rw [lg_entry_eq, ← hH]
  generalize (lg_sl ([.ref x, .int qa, .int qb, .int kd]) ++ List.replicate (5 - (lg_sl ([.ref x, .int qa, .int qb, .int kd])).length) Slot.unset).toArray = ls at hl ⊢
  have hl : lv_has ls 5 [(0, .ref x), (1, .int qa), (2, .int qb), (3, .int kd)] := hl
  refine lv_aload_n hx hb d_Md_decide_0 rfl (lv_at hl 0 rfl) ?_
  refine lv_aload_n hx hb d_Md_decide_1 rfl (lv_at hl 0 rfl) ?_
  refine lv_iload_n hx hb d_Md_decide_2 rfl (lv_at hl 1 rfl) ?_
  refine h_calli (va_runV (As := [.int qa]) (rest := [.ref x]) ⟨hx, hb, hml, hown, htg⟩ (c_Md_isName l D cs N0 H x g i f qa hsep hI n hn) (cwV 1 htg (gw_V (gw_mem (i := 1108) (by decide +kernel) rfl) (gw_mem (i := 1110) (by decide +kernel) rfl) (gw_mem (i := 19) (by decide +kernel) rfl) (gw_mem (i := 38) (by decide +kernel) rfl) (gw_mem (i := 1111) (by decide +kernel) rfl)) rfl rfl rfl (by decide +kernel) ⟨Nat.le_of_ble_eq_true rfl, Nat.le_of_ble_eq_true rfl⟩) ⟨hPre.blind, hx_recv hK (ci := 0) rfl hI.1, hPre.at hB hS hsep.A⟩ rfl rfl hl.1 rfl (lv_room (Nat.le_of_ble_eq_true rfl)) d_Md_decide_3 ⟨Nat.zero_le _, Nat.zero_le _⟩) hS (fun _ h => h) (fun r3 H locs hp hz hk hS => ?_)
  obtain ⟨hI, er3⟩ := hp
  refine lv_eqi (y := (bI (isN n qa))) er3 ?_
  refine lv_if_eq (x := (bI (isN n qa))) (tgt := 21) hx hb d_Md_decide_6 (by decide) (fun c6 => ?_) (fun c6 => ?_)
  · skip
    replace c6 : (isN n qa) = false := bI_0 c6
    refine lv_iconst (v := 0) hx hb d_Md_decide_21 (by decide) ?_
    refine lv_iload_n hx hb d_Md_decide_22 rfl (lv_at hl 1 rfl) ?_
    refine lv_iload_n hx hb d_Md_decide_23 rfl (lv_at hl 2 rfl) ?_
    refine lv_icmp_eq (x := qa) (y := qb) (tgt := 40) hx hb d_Md_decide_24 (by decide) (fun c24 => ?_) (fun c24 => ?_)
    · skip
      refine lv_iconst (v := 0) hx hb d_Md_decide_40 (by decide) ?_
      refine lv_iconst (v := 1) hx hb d_Md_decide_41 (by decide) ?_
      refine h_calli (va_runV (As := [.int 0, .int 0, .int 1]) (rest := []) ⟨hx, hb, hml, hown, htg⟩ (c_Md_goes l D cs N0 H x g i f false false true hsep hI) (cwV 3 htg (gw_V (gw_mem (i := 1092) (by decide +kernel) rfl) (gw_mem (i := 1094) (by decide +kernel) rfl) (gw_mem (i := 18) (by decide +kernel) rfl) (gw_mem (i := 38) (by decide +kernel) rfl) (gw_mem (i := 1095) (by decide +kernel) rfl)) rfl rfl rfl (by decide +kernel) ⟨Nat.le_of_ble_eq_true rfl, Nat.le_of_ble_eq_true rfl⟩) ⟨hPre.blind, hx_recv hK (ci := 0) rfl hI.1, hPre.at hB hS hsep.A⟩ rfl rfl hl.1 rfl (lv_room (Nat.le_of_ble_eq_true rfl)) d_Md_decide_42 ⟨Nat.zero_le _, Nat.zero_le _⟩) hS (fun _ h => h) (fun r42 H locs hp hz hk hS => ?_)
      obtain ⟨hI, er42⟩ := hp
      replace hI : md_I D cs H x g (upd i 0 1) f := hI
      refine lv_eqi (y := 0) er42 ?_
      refine lv_if_ne (x := 0) (tgt := 50) hx hb d_Md_decide_45 (by decide) (fun c45 => ?_) (fun c45 => ?_)
      · exact absurd c45 (by decide)
      · skip
        refine lv_iconst (v := 0) hx hb d_Md_decide_48 (by decide) ?_
        exact W.iret (v := 0) hx hb hr (fun t ht hW => ⟨⟨0, H, rfl, by dsimp only; have e0 : (isN n qa && isN n qb) = false := (by first | (simp [c6, c24]; done) | (simp [c6, c24]; omega) | omega | simp_all); have e1 : (!decide (qa = qb) && !decide (kd < 0) && !decide (2 < kd)) = false := (by first | (simp [c6, c24]; done) | (simp [c6, c24]; omega) | omega | simp_all); rw [e0, e1]; rw [if_neg (show ¬ goB false false true = true by simp [goB])]; exact ⟨hI, rfl⟩, ht⟩, hS.F ht⟩) hS.2.2 d_Md_decide_49
    · skip
      refine lv_iload_n hx hb d_Md_decide_27 rfl (lv_at hl 3 rfl) ?_
      refine lv_if_lt (x := kd) (tgt := 40) hx hb d_Md_decide_28 (by decide) (fun c28 => ?_) (fun c28 => ?_)
      · skip
        refine lv_iconst (v := 0) hx hb d_Md_decide_40 (by decide) ?_
        refine lv_iconst (v := 1) hx hb d_Md_decide_41 (by decide) ?_
        refine h_calli (va_runV (As := [.int 0, .int 0, .int 1]) (rest := []) ⟨hx, hb, hml, hown, htg⟩ (c_Md_goes l D cs N0 H x g i f false false true hsep hI) (cwV 3 htg (gw_V (gw_mem (i := 1092) (by decide +kernel) rfl) (gw_mem (i := 1094) (by decide +kernel) rfl) (gw_mem (i := 18) (by decide +kernel) rfl) (gw_mem (i := 38) (by decide +kernel) rfl) (gw_mem (i := 1095) (by decide +kernel) rfl)) rfl rfl rfl (by decide +kernel) ⟨Nat.le_of_ble_eq_true rfl, Nat.le_of_ble_eq_true rfl⟩) ⟨hPre.blind, hx_recv hK (ci := 0) rfl hI.1, hPre.at hB hS hsep.A⟩ rfl rfl hl.1 rfl (lv_room (Nat.le_of_ble_eq_true rfl)) d_Md_decide_42 ⟨Nat.zero_le _, Nat.zero_le _⟩) hS (fun _ h => h) (fun r42 H locs hp hz hk hS => ?_)
        obtain ⟨hI, er42⟩ := hp
        replace hI : md_I D cs H x g (upd i 0 1) f := hI
        refine lv_eqi (y := 0) er42 ?_
        refine lv_if_ne (x := 0) (tgt := 50) hx hb d_Md_decide_45 (by decide) (fun c45 => ?_) (fun c45 => ?_)
        · exact absurd c45 (by decide)
        · skip
          refine lv_iconst (v := 0) hx hb d_Md_decide_48 (by decide) ?_
          exact W.iret (v := 0) hx hb hr (fun t ht hW => ⟨⟨0, H, rfl, by dsimp only; have e0 : (isN n qa && isN n qb) = false := (by first | (simp [c6, c24, c28]; done) | (simp [c6, c24, c28]; omega) | omega | simp_all); have e1 : (!decide (qa = qb) && !decide (kd < 0) && !decide (2 < kd)) = false := (by first | (simp [c6, c24, c28]; done) | (simp [c6, c24, c28]; omega) | omega | simp_all); rw [e0, e1]; rw [if_neg (show ¬ goB false false true = true by simp [goB])]; exact ⟨hI, rfl⟩, ht⟩, hS.F ht⟩) hS.2.2 d_Md_decide_49
      · skip
        refine lv_iload_n hx hb d_Md_decide_31 rfl (lv_at hl 3 rfl) ?_
        refine lv_iconst (v := 2) hx hb d_Md_decide_32 (by decide) ?_
        refine lv_icmp_gt (x := kd) (y := 2) (tgt := 40) hx hb d_Md_decide_33 (by decide) (fun c33 => ?_) (fun c33 => ?_)
        · skip
          refine lv_iconst (v := 0) hx hb d_Md_decide_40 (by decide) ?_
          refine lv_iconst (v := 1) hx hb d_Md_decide_41 (by decide) ?_
          refine h_calli (va_runV (As := [.int 0, .int 0, .int 1]) (rest := []) ⟨hx, hb, hml, hown, htg⟩ (c_Md_goes l D cs N0 H x g i f false false true hsep hI) (cwV 3 htg (gw_V (gw_mem (i := 1092) (by decide +kernel) rfl) (gw_mem (i := 1094) (by decide +kernel) rfl) (gw_mem (i := 18) (by decide +kernel) rfl) (gw_mem (i := 38) (by decide +kernel) rfl) (gw_mem (i := 1095) (by decide +kernel) rfl)) rfl rfl rfl (by decide +kernel) ⟨Nat.le_of_ble_eq_true rfl, Nat.le_of_ble_eq_true rfl⟩) ⟨hPre.blind, hx_recv hK (ci := 0) rfl hI.1, hPre.at hB hS hsep.A⟩ rfl rfl hl.1 rfl (lv_room (Nat.le_of_ble_eq_true rfl)) d_Md_decide_42 ⟨Nat.zero_le _, Nat.zero_le _⟩) hS (fun _ h => h) (fun r42 H locs hp hz hk hS => ?_)
          obtain ⟨hI, er42⟩ := hp
          replace hI : md_I D cs H x g (upd i 0 1) f := hI
          refine lv_eqi (y := 0) er42 ?_
          refine lv_if_ne (x := 0) (tgt := 50) hx hb d_Md_decide_45 (by decide) (fun c45 => ?_) (fun c45 => ?_)
          · exact absurd c45 (by decide)
          · skip
            refine lv_iconst (v := 0) hx hb d_Md_decide_48 (by decide) ?_
            exact W.iret (v := 0) hx hb hr (fun t ht hW => ⟨⟨0, H, rfl, by dsimp only; have e0 : (isN n qa && isN n qb) = false := (by first | (simp [c6, c24, c28, c33]; done) | (simp [c6, c24, c28, c33]; omega) | omega | simp_all); have e1 : (!decide (qa = qb) && !decide (kd < 0) && !decide (2 < kd)) = false := (by first | (simp [c6, c24, c28, c33]; done) | (simp [c6, c24, c28, c33]; omega) | omega | simp_all); rw [e0, e1]; rw [if_neg (show ¬ goB false false true = true by simp [goB])]; exact ⟨hI, rfl⟩, ht⟩, hS.F ht⟩) hS.2.2 d_Md_decide_49
        · skip
          refine lv_iconst (v := 1) hx hb d_Md_decide_36 (by decide) ?_
          refine lv_goto (tgt := 41) hx hb d_Md_decide_37 (by decide) ?_
          refine lv_iconst (v := 1) hx hb d_Md_decide_41 (by decide) ?_
          refine h_calli (va_runV (As := [.int 0, .int 1, .int 1]) (rest := []) ⟨hx, hb, hml, hown, htg⟩ (c_Md_goes l D cs N0 H x g i f false true true hsep hI) (cwV 3 htg (gw_V (gw_mem (i := 1092) (by decide +kernel) rfl) (gw_mem (i := 1094) (by decide +kernel) rfl) (gw_mem (i := 18) (by decide +kernel) rfl) (gw_mem (i := 38) (by decide +kernel) rfl) (gw_mem (i := 1095) (by decide +kernel) rfl)) rfl rfl rfl (by decide +kernel) ⟨Nat.le_of_ble_eq_true rfl, Nat.le_of_ble_eq_true rfl⟩) ⟨hPre.blind, hx_recv hK (ci := 0) rfl hI.1, hPre.at hB hS hsep.A⟩ rfl rfl hl.1 rfl (lv_room (Nat.le_of_ble_eq_true rfl)) d_Md_decide_42 ⟨Nat.zero_le _, Nat.zero_le _⟩) hS (fun _ h => h) (fun r42 H locs hp hz hk hS => ?_)
          obtain ⟨hI, er42⟩ := hp
          replace hI : md_I D cs H x g (upd i 0 1) f := hI
          refine lv_eqi (y := 0) er42 ?_
          refine lv_if_ne (x := 0) (tgt := 50) hx hb d_Md_decide_45 (by decide) (fun c45 => ?_) (fun c45 => ?_)
          · exact absurd c45 (by decide)
          · skip
            refine lv_iconst (v := 0) hx hb d_Md_decide_48 (by decide) ?_
            exact W.iret (v := 0) hx hb hr (fun t ht hW => ⟨⟨0, H, rfl, by dsimp only; have e0 : (isN n qa && isN n qb) = false := (by first | (simp [c6, c24, c28, c33]; done) | (simp [c6, c24, c28, c33]; omega) | omega | simp_all); have e1 : (!decide (qa = qb) && !decide (kd < 0) && !decide (2 < kd)) = true := (by first | (simp [c6, c24, c28, c33]; done) | (simp [c6, c24, c28, c33]; omega) | omega | simp_all); rw [e0, e1]; rw [if_neg (show ¬ goB false true true = true by simp [goB])]; exact ⟨hI, rfl⟩, ht⟩, hS.F ht⟩) hS.2.2 d_Md_decide_49
  · skip
    replace c6 : (isN n qa) = true := bI_1 c6
    refine lv_aload_n hx hb d_Md_decide_9 rfl (lv_at hl 0 rfl) ?_
    refine lv_iload_n hx hb d_Md_decide_10 rfl (lv_at hl 2 rfl) ?_
    refine h_calli (va_runV (As := [.int qb]) (rest := [.ref x]) ⟨hx, hb, hml, hown, htg⟩ (c_Md_isName l D cs N0 H x g i f qb hsep hI n hn) (cwV 1 htg (gw_V (gw_mem (i := 1108) (by decide +kernel) rfl) (gw_mem (i := 1110) (by decide +kernel) rfl) (gw_mem (i := 19) (by decide +kernel) rfl) (gw_mem (i := 38) (by decide +kernel) rfl) (gw_mem (i := 1111) (by decide +kernel) rfl)) rfl rfl rfl (by decide +kernel) ⟨Nat.le_of_ble_eq_true rfl, Nat.le_of_ble_eq_true rfl⟩) ⟨hPre.blind, hx_recv hK (ci := 0) rfl hI.1, hPre.at hB hS hsep.A⟩ rfl rfl hl.1 rfl (lv_room (Nat.le_of_ble_eq_true rfl)) d_Md_decide_11 ⟨Nat.zero_le _, Nat.zero_le _⟩) hS (fun _ h => h) (fun r11 H locs hp hz hk hS => ?_)
    obtain ⟨hI, er11⟩ := hp
    refine lv_eqi (y := (bI (isN n qb))) er11 ?_
    refine lv_if_eq (x := (bI (isN n qb))) (tgt := 21) hx hb d_Md_decide_14 (by decide) (fun c14 => ?_) (fun c14 => ?_)
    · skip
      replace c14 : (isN n qb) = false := bI_0 c14
      refine lv_iconst (v := 0) hx hb d_Md_decide_21 (by decide) ?_
      refine lv_iload_n hx hb d_Md_decide_22 rfl (lv_at hl 1 rfl) ?_
      refine lv_iload_n hx hb d_Md_decide_23 rfl (lv_at hl 2 rfl) ?_
      refine lv_icmp_eq (x := qa) (y := qb) (tgt := 40) hx hb d_Md_decide_24 (by decide) (fun c24 => ?_) (fun c24 => ?_)
      · skip
        refine lv_iconst (v := 0) hx hb d_Md_decide_40 (by decide) ?_
        refine lv_iconst (v := 1) hx hb d_Md_decide_41 (by decide) ?_
        refine h_calli (va_runV (As := [.int 0, .int 0, .int 1]) (rest := []) ⟨hx, hb, hml, hown, htg⟩ (c_Md_goes l D cs N0 H x g i f false false true hsep hI) (cwV 3 htg (gw_V (gw_mem (i := 1092) (by decide +kernel) rfl) (gw_mem (i := 1094) (by decide +kernel) rfl) (gw_mem (i := 18) (by decide +kernel) rfl) (gw_mem (i := 38) (by decide +kernel) rfl) (gw_mem (i := 1095) (by decide +kernel) rfl)) rfl rfl rfl (by decide +kernel) ⟨Nat.le_of_ble_eq_true rfl, Nat.le_of_ble_eq_true rfl⟩) ⟨hPre.blind, hx_recv hK (ci := 0) rfl hI.1, hPre.at hB hS hsep.A⟩ rfl rfl hl.1 rfl (lv_room (Nat.le_of_ble_eq_true rfl)) d_Md_decide_42 ⟨Nat.zero_le _, Nat.zero_le _⟩) hS (fun _ h => h) (fun r42 H locs hp hz hk hS => ?_)
        obtain ⟨hI, er42⟩ := hp
        replace hI : md_I D cs H x g (upd i 0 1) f := hI
        refine lv_eqi (y := 0) er42 ?_
        refine lv_if_ne (x := 0) (tgt := 50) hx hb d_Md_decide_45 (by decide) (fun c45 => ?_) (fun c45 => ?_)
        · exact absurd c45 (by decide)
        · skip
          refine lv_iconst (v := 0) hx hb d_Md_decide_48 (by decide) ?_
          exact W.iret (v := 0) hx hb hr (fun t ht hW => ⟨⟨0, H, rfl, by dsimp only; have e0 : (isN n qa && isN n qb) = false := (by first | (simp [c6, c14, c24]; done) | (simp [c6, c14, c24]; omega) | omega | simp_all); have e1 : (!decide (qa = qb) && !decide (kd < 0) && !decide (2 < kd)) = false := (by first | (simp [c6, c14, c24]; done) | (simp [c6, c14, c24]; omega) | omega | simp_all); rw [e0, e1]; rw [if_neg (show ¬ goB false false true = true by simp [goB])]; exact ⟨hI, rfl⟩, ht⟩, hS.F ht⟩) hS.2.2 d_Md_decide_49
      · skip
        refine lv_iload_n hx hb d_Md_decide_27 rfl (lv_at hl 3 rfl) ?_
        refine lv_if_lt (x := kd) (tgt := 40) hx hb d_Md_decide_28 (by decide) (fun c28 => ?_) (fun c28 => ?_)
        · skip
          refine lv_iconst (v := 0) hx hb d_Md_decide_40 (by decide) ?_
          refine lv_iconst (v := 1) hx hb d_Md_decide_41 (by decide) ?_
          refine h_calli (va_runV (As := [.int 0, .int 0, .int 1]) (rest := []) ⟨hx, hb, hml, hown, htg⟩ (c_Md_goes l D cs N0 H x g i f false false true hsep hI) (cwV 3 htg (gw_V (gw_mem (i := 1092) (by decide +kernel) rfl) (gw_mem (i := 1094) (by decide +kernel) rfl) (gw_mem (i := 18) (by decide +kernel) rfl) (gw_mem (i := 38) (by decide +kernel) rfl) (gw_mem (i := 1095) (by decide +kernel) rfl)) rfl rfl rfl (by decide +kernel) ⟨Nat.le_of_ble_eq_true rfl, Nat.le_of_ble_eq_true rfl⟩) ⟨hPre.blind, hx_recv hK (ci := 0) rfl hI.1, hPre.at hB hS hsep.A⟩ rfl rfl hl.1 rfl (lv_room (Nat.le_of_ble_eq_true rfl)) d_Md_decide_42 ⟨Nat.zero_le _, Nat.zero_le _⟩) hS (fun _ h => h) (fun r42 H locs hp hz hk hS => ?_)
          obtain ⟨hI, er42⟩ := hp
          replace hI : md_I D cs H x g (upd i 0 1) f := hI
          refine lv_eqi (y := 0) er42 ?_
          refine lv_if_ne (x := 0) (tgt := 50) hx hb d_Md_decide_45 (by decide) (fun c45 => ?_) (fun c45 => ?_)
          · exact absurd c45 (by decide)
          · skip
            refine lv_iconst (v := 0) hx hb d_Md_decide_48 (by decide) ?_
            exact W.iret (v := 0) hx hb hr (fun t ht hW => ⟨⟨0, H, rfl, by dsimp only; have e0 : (isN n qa && isN n qb) = false := (by first | (simp [c6, c14, c24, c28]; done) | (simp [c6, c14, c24, c28]; omega) | omega | simp_all); have e1 : (!decide (qa = qb) && !decide (kd < 0) && !decide (2 < kd)) = false := (by first | (simp [c6, c14, c24, c28]; done) | (simp [c6, c14, c24, c28]; omega) | omega | simp_all); rw [e0, e1]; rw [if_neg (show ¬ goB false false true = true by simp [goB])]; exact ⟨hI, rfl⟩, ht⟩, hS.F ht⟩) hS.2.2 d_Md_decide_49
        · skip
          refine lv_iload_n hx hb d_Md_decide_31 rfl (lv_at hl 3 rfl) ?_
          refine lv_iconst (v := 2) hx hb d_Md_decide_32 (by decide) ?_
          refine lv_icmp_gt (x := kd) (y := 2) (tgt := 40) hx hb d_Md_decide_33 (by decide) (fun c33 => ?_) (fun c33 => ?_)
          · skip
            refine lv_iconst (v := 0) hx hb d_Md_decide_40 (by decide) ?_
            refine lv_iconst (v := 1) hx hb d_Md_decide_41 (by decide) ?_
            refine h_calli (va_runV (As := [.int 0, .int 0, .int 1]) (rest := []) ⟨hx, hb, hml, hown, htg⟩ (c_Md_goes l D cs N0 H x g i f false false true hsep hI) (cwV 3 htg (gw_V (gw_mem (i := 1092) (by decide +kernel) rfl) (gw_mem (i := 1094) (by decide +kernel) rfl) (gw_mem (i := 18) (by decide +kernel) rfl) (gw_mem (i := 38) (by decide +kernel) rfl) (gw_mem (i := 1095) (by decide +kernel) rfl)) rfl rfl rfl (by decide +kernel) ⟨Nat.le_of_ble_eq_true rfl, Nat.le_of_ble_eq_true rfl⟩) ⟨hPre.blind, hx_recv hK (ci := 0) rfl hI.1, hPre.at hB hS hsep.A⟩ rfl rfl hl.1 rfl (lv_room (Nat.le_of_ble_eq_true rfl)) d_Md_decide_42 ⟨Nat.zero_le _, Nat.zero_le _⟩) hS (fun _ h => h) (fun r42 H locs hp hz hk hS => ?_)
            obtain ⟨hI, er42⟩ := hp
            replace hI : md_I D cs H x g (upd i 0 1) f := hI
            refine lv_eqi (y := 0) er42 ?_
            refine lv_if_ne (x := 0) (tgt := 50) hx hb d_Md_decide_45 (by decide) (fun c45 => ?_) (fun c45 => ?_)
            · exact absurd c45 (by decide)
            · skip
              refine lv_iconst (v := 0) hx hb d_Md_decide_48 (by decide) ?_
              exact W.iret (v := 0) hx hb hr (fun t ht hW => ⟨⟨0, H, rfl, by dsimp only; have e0 : (isN n qa && isN n qb) = false := (by first | (simp [c6, c14, c24, c28, c33]; done) | (simp [c6, c14, c24, c28, c33]; omega) | omega | simp_all); have e1 : (!decide (qa = qb) && !decide (kd < 0) && !decide (2 < kd)) = false := (by first | (simp [c6, c14, c24, c28, c33]; done) | (simp [c6, c14, c24, c28, c33]; omega) | omega | simp_all); rw [e0, e1]; rw [if_neg (show ¬ goB false false true = true by simp [goB])]; exact ⟨hI, rfl⟩, ht⟩, hS.F ht⟩) hS.2.2 d_Md_decide_49
          · skip
            refine lv_iconst (v := 1) hx hb d_Md_decide_36 (by decide) ?_
            refine lv_goto (tgt := 41) hx hb d_Md_decide_37 (by decide) ?_
            refine lv_iconst (v := 1) hx hb d_Md_decide_41 (by decide) ?_
            refine h_calli (va_runV (As := [.int 0, .int 1, .int 1]) (rest := []) ⟨hx, hb, hml, hown, htg⟩ (c_Md_goes l D cs N0 H x g i f false true true hsep hI) (cwV 3 htg (gw_V (gw_mem (i := 1092) (by decide +kernel) rfl) (gw_mem (i := 1094) (by decide +kernel) rfl) (gw_mem (i := 18) (by decide +kernel) rfl) (gw_mem (i := 38) (by decide +kernel) rfl) (gw_mem (i := 1095) (by decide +kernel) rfl)) rfl rfl rfl (by decide +kernel) ⟨Nat.le_of_ble_eq_true rfl, Nat.le_of_ble_eq_true rfl⟩) ⟨hPre.blind, hx_recv hK (ci := 0) rfl hI.1, hPre.at hB hS hsep.A⟩ rfl rfl hl.1 rfl (lv_room (Nat.le_of_ble_eq_true rfl)) d_Md_decide_42 ⟨Nat.zero_le _, Nat.zero_le _⟩) hS (fun _ h => h) (fun r42 H locs hp hz hk hS => ?_)
            obtain ⟨hI, er42⟩ := hp
            replace hI : md_I D cs H x g (upd i 0 1) f := hI
            refine lv_eqi (y := 0) er42 ?_
            refine lv_if_ne (x := 0) (tgt := 50) hx hb d_Md_decide_45 (by decide) (fun c45 => ?_) (fun c45 => ?_)
            · exact absurd c45 (by decide)
            · skip
              refine lv_iconst (v := 0) hx hb d_Md_decide_48 (by decide) ?_
              exact W.iret (v := 0) hx hb hr (fun t ht hW => ⟨⟨0, H, rfl, by dsimp only; have e0 : (isN n qa && isN n qb) = false := (by first | (simp [c6, c14, c24, c28, c33]; done) | (simp [c6, c14, c24, c28, c33]; omega) | omega | simp_all); have e1 : (!decide (qa = qb) && !decide (kd < 0) && !decide (2 < kd)) = true := (by first | (simp [c6, c14, c24, c28, c33]; done) | (simp [c6, c14, c24, c28, c33]; omega) | omega | simp_all); rw [e0, e1]; rw [if_neg (show ¬ goB false true true = true by simp [goB])]; exact ⟨hI, rfl⟩, ht⟩, hS.F ht⟩) hS.2.2 d_Md_decide_49
    · skip
      replace c14 : (isN n qb) = true := bI_1 c14
      refine lv_iconst (v := 1) hx hb d_Md_decide_17 (by decide) ?_
      refine lv_goto (tgt := 22) hx hb d_Md_decide_18 (by decide) ?_
      refine lv_iload_n hx hb d_Md_decide_22 rfl (lv_at hl 1 rfl) ?_
      refine lv_iload_n hx hb d_Md_decide_23 rfl (lv_at hl 2 rfl) ?_
      refine lv_icmp_eq (x := qa) (y := qb) (tgt := 40) hx hb d_Md_decide_24 (by decide) (fun c24 => ?_) (fun c24 => ?_)
      · skip
        refine lv_iconst (v := 0) hx hb d_Md_decide_40 (by decide) ?_
        refine lv_iconst (v := 1) hx hb d_Md_decide_41 (by decide) ?_
        refine h_calli (va_runV (As := [.int 1, .int 0, .int 1]) (rest := []) ⟨hx, hb, hml, hown, htg⟩ (c_Md_goes l D cs N0 H x g i f true false true hsep hI) (cwV 3 htg (gw_V (gw_mem (i := 1092) (by decide +kernel) rfl) (gw_mem (i := 1094) (by decide +kernel) rfl) (gw_mem (i := 18) (by decide +kernel) rfl) (gw_mem (i := 38) (by decide +kernel) rfl) (gw_mem (i := 1095) (by decide +kernel) rfl)) rfl rfl rfl (by decide +kernel) ⟨Nat.le_of_ble_eq_true rfl, Nat.le_of_ble_eq_true rfl⟩) ⟨hPre.blind, hx_recv hK (ci := 0) rfl hI.1, hPre.at hB hS hsep.A⟩ rfl rfl hl.1 rfl (lv_room (Nat.le_of_ble_eq_true rfl)) d_Md_decide_42 ⟨Nat.zero_le _, Nat.zero_le _⟩) hS (fun _ h => h) (fun r42 H locs hp hz hk hS => ?_)
        obtain ⟨hI, er42⟩ := hp
        replace hI : md_I D cs H x g (upd i 0 2) f := hI
        refine lv_eqi (y := 0) er42 ?_
        refine lv_if_ne (x := 0) (tgt := 50) hx hb d_Md_decide_45 (by decide) (fun c45 => ?_) (fun c45 => ?_)
        · exact absurd c45 (by decide)
        · skip
          refine lv_iconst (v := 0) hx hb d_Md_decide_48 (by decide) ?_
          exact W.iret (v := 0) hx hb hr (fun t ht hW => ⟨⟨0, H, rfl, by dsimp only; have e0 : (isN n qa && isN n qb) = true := (by first | (simp [c6, c14, c24]; done) | (simp [c6, c14, c24]; omega) | omega | simp_all); have e1 : (!decide (qa = qb) && !decide (kd < 0) && !decide (2 < kd)) = false := (by first | (simp [c6, c14, c24]; done) | (simp [c6, c14, c24]; omega) | omega | simp_all); rw [e0, e1]; rw [if_neg (show ¬ goB true false true = true by simp [goB])]; exact ⟨hI, rfl⟩, ht⟩, hS.F ht⟩) hS.2.2 d_Md_decide_49
      · skip
        refine lv_iload_n hx hb d_Md_decide_27 rfl (lv_at hl 3 rfl) ?_
        refine lv_if_lt (x := kd) (tgt := 40) hx hb d_Md_decide_28 (by decide) (fun c28 => ?_) (fun c28 => ?_)
        · skip
          refine lv_iconst (v := 0) hx hb d_Md_decide_40 (by decide) ?_
          refine lv_iconst (v := 1) hx hb d_Md_decide_41 (by decide) ?_
          refine h_calli (va_runV (As := [.int 1, .int 0, .int 1]) (rest := []) ⟨hx, hb, hml, hown, htg⟩ (c_Md_goes l D cs N0 H x g i f true false true hsep hI) (cwV 3 htg (gw_V (gw_mem (i := 1092) (by decide +kernel) rfl) (gw_mem (i := 1094) (by decide +kernel) rfl) (gw_mem (i := 18) (by decide +kernel) rfl) (gw_mem (i := 38) (by decide +kernel) rfl) (gw_mem (i := 1095) (by decide +kernel) rfl)) rfl rfl rfl (by decide +kernel) ⟨Nat.le_of_ble_eq_true rfl, Nat.le_of_ble_eq_true rfl⟩) ⟨hPre.blind, hx_recv hK (ci := 0) rfl hI.1, hPre.at hB hS hsep.A⟩ rfl rfl hl.1 rfl (lv_room (Nat.le_of_ble_eq_true rfl)) d_Md_decide_42 ⟨Nat.zero_le _, Nat.zero_le _⟩) hS (fun _ h => h) (fun r42 H locs hp hz hk hS => ?_)
          obtain ⟨hI, er42⟩ := hp
          replace hI : md_I D cs H x g (upd i 0 2) f := hI
          refine lv_eqi (y := 0) er42 ?_
          refine lv_if_ne (x := 0) (tgt := 50) hx hb d_Md_decide_45 (by decide) (fun c45 => ?_) (fun c45 => ?_)
          · exact absurd c45 (by decide)
          · skip
            refine lv_iconst (v := 0) hx hb d_Md_decide_48 (by decide) ?_
            exact W.iret (v := 0) hx hb hr (fun t ht hW => ⟨⟨0, H, rfl, by dsimp only; have e0 : (isN n qa && isN n qb) = true := (by first | (simp [c6, c14, c24, c28]; done) | (simp [c6, c14, c24, c28]; omega) | omega | simp_all); have e1 : (!decide (qa = qb) && !decide (kd < 0) && !decide (2 < kd)) = false := (by first | (simp [c6, c14, c24, c28]; done) | (simp [c6, c14, c24, c28]; omega) | omega | simp_all); rw [e0, e1]; rw [if_neg (show ¬ goB true false true = true by simp [goB])]; exact ⟨hI, rfl⟩, ht⟩, hS.F ht⟩) hS.2.2 d_Md_decide_49
        · skip
          refine lv_iload_n hx hb d_Md_decide_31 rfl (lv_at hl 3 rfl) ?_
          refine lv_iconst (v := 2) hx hb d_Md_decide_32 (by decide) ?_
          refine lv_icmp_gt (x := kd) (y := 2) (tgt := 40) hx hb d_Md_decide_33 (by decide) (fun c33 => ?_) (fun c33 => ?_)
          · skip
            refine lv_iconst (v := 0) hx hb d_Md_decide_40 (by decide) ?_
            refine lv_iconst (v := 1) hx hb d_Md_decide_41 (by decide) ?_
            refine h_calli (va_runV (As := [.int 1, .int 0, .int 1]) (rest := []) ⟨hx, hb, hml, hown, htg⟩ (c_Md_goes l D cs N0 H x g i f true false true hsep hI) (cwV 3 htg (gw_V (gw_mem (i := 1092) (by decide +kernel) rfl) (gw_mem (i := 1094) (by decide +kernel) rfl) (gw_mem (i := 18) (by decide +kernel) rfl) (gw_mem (i := 38) (by decide +kernel) rfl) (gw_mem (i := 1095) (by decide +kernel) rfl)) rfl rfl rfl (by decide +kernel) ⟨Nat.le_of_ble_eq_true rfl, Nat.le_of_ble_eq_true rfl⟩) ⟨hPre.blind, hx_recv hK (ci := 0) rfl hI.1, hPre.at hB hS hsep.A⟩ rfl rfl hl.1 rfl (lv_room (Nat.le_of_ble_eq_true rfl)) d_Md_decide_42 ⟨Nat.zero_le _, Nat.zero_le _⟩) hS (fun _ h => h) (fun r42 H locs hp hz hk hS => ?_)
            obtain ⟨hI, er42⟩ := hp
            replace hI : md_I D cs H x g (upd i 0 2) f := hI
            refine lv_eqi (y := 0) er42 ?_
            refine lv_if_ne (x := 0) (tgt := 50) hx hb d_Md_decide_45 (by decide) (fun c45 => ?_) (fun c45 => ?_)
            · exact absurd c45 (by decide)
            · skip
              refine lv_iconst (v := 0) hx hb d_Md_decide_48 (by decide) ?_
              exact W.iret (v := 0) hx hb hr (fun t ht hW => ⟨⟨0, H, rfl, by dsimp only; have e0 : (isN n qa && isN n qb) = true := (by first | (simp [c6, c14, c24, c28, c33]; done) | (simp [c6, c14, c24, c28, c33]; omega) | omega | simp_all); have e1 : (!decide (qa = qb) && !decide (kd < 0) && !decide (2 < kd)) = false := (by first | (simp [c6, c14, c24, c28, c33]; done) | (simp [c6, c14, c24, c28, c33]; omega) | omega | simp_all); rw [e0, e1]; rw [if_neg (show ¬ goB true false true = true by simp [goB])]; exact ⟨hI, rfl⟩, ht⟩, hS.F ht⟩) hS.2.2 d_Md_decide_49
          · skip
            refine lv_iconst (v := 1) hx hb d_Md_decide_36 (by decide) ?_
            refine lv_goto (tgt := 41) hx hb d_Md_decide_37 (by decide) ?_
            refine lv_iconst (v := 1) hx hb d_Md_decide_41 (by decide) ?_
            refine h_calli (va_runV (As := [.int 1, .int 1, .int 1]) (rest := []) ⟨hx, hb, hml, hown, htg⟩ (c_Md_goes l D cs N0 H x g i f true true true hsep hI) (cwV 3 htg (gw_V (gw_mem (i := 1092) (by decide +kernel) rfl) (gw_mem (i := 1094) (by decide +kernel) rfl) (gw_mem (i := 18) (by decide +kernel) rfl) (gw_mem (i := 38) (by decide +kernel) rfl) (gw_mem (i := 1095) (by decide +kernel) rfl)) rfl rfl rfl (by decide +kernel) ⟨Nat.le_of_ble_eq_true rfl, Nat.le_of_ble_eq_true rfl⟩) ⟨hPre.blind, hx_recv hK (ci := 0) rfl hI.1, hPre.at hB hS hsep.A⟩ rfl rfl hl.1 rfl (lv_room (Nat.le_of_ble_eq_true rfl)) d_Md_decide_42 ⟨Nat.zero_le _, Nat.zero_le _⟩) hS (fun _ h => h) (fun r42 H locs hp hz hk hS => ?_)
            obtain ⟨hI, er42⟩ := hp
            replace hI : md_I D cs H x g (upd i 0 0) f := hI
            refine lv_eqi (y := 1) er42 ?_
            refine lv_if_ne (x := 1) (tgt := 50) hx hb d_Md_decide_45 (by decide) (fun c45 => ?_) (fun c45 => ?_)
            · skip
              obtain ⟨ha, ea⟩ := isN_n c6 (by omega)
              obtain ⟨hb1, eb⟩ := isN_n c14 (by omega)
              refine lv_aload_n hx hb d_Md_decide_50 rfl (lv_at hl 0 rfl) ?_
              refine hx_get (v := .ref (g 9)) hx hb htg iMd hown hK hI.1 rfl 12 (by decide) (htg _ (gw_mem (i := 1010) (by decide +kernel) rfl)) (fun _ h9 => h9) rfl d_Md_decide_51 ?_
              refine lv_bipush (v := 24) hx hb d_Md_decide_54 (by decide) ?_
              refine lv_iload_n hx hb d_Md_decide_56 rfl (lv_at hl 1 rfl) ?_
              refine lv_eqi (y := (nI (tn qa))) ea ?_
              refine lv_imul (x := 24) (y := (nI (tn qa))) hx hb d_Md_decide_57 ?_
              refine lv_eqi (y := (nI (24 * (tn qa)))) (pk_mul 24 (tn qa)) ?_
              refine lv_iload_n hx hb d_Md_decide_58 rfl (lv_at hl 2 rfl) ?_
              refine lv_eqi (y := (nI (tn qb))) eb ?_
              refine lv_iadd (x := (nI (24 * (tn qa)))) (y := (nI (tn qb))) hx hb d_Md_decide_59 ?_
              refine lv_eqi (y := (nI (24 * (tn qa) + tn qb))) (nI_add (24 * (tn qa)) (tn qb)) ?_
              refine hx_iald hx hb hK 0 (hI.2 9 (by decide)) rfl (show vp_in (nI (24 * (tn qa) + tn qb)) 576 from vp_in_nI (n := 24 * (tn qa) + tn qb) (by omega) (by decide)) d_Md_decide_60 ?_
              refine lv_eqi (y := (f 9 (24 * (tn qa) + tn qb))) (show f 9 (nI (24 * (tn qa) + tn qb)).toNatClampNeg = _ by rw [nI_clamp (by omega)]) ?_
              refine lv_istore (lv' := [(4, .int (f 9 (24 * (tn qa) + tn qb))), (0, .ref x), (1, .int qa), (2, .int qb), (3, .int kd)]) hx hb d_Md_decide_61 hl (by decide) rfl (fun ls hl => ?_)
              refine lv_aload_n hx hb d_Md_decide_63 rfl (lv_at hl 1 rfl) ?_
              refine hx_get (v := .ref (g 9)) hx hb htg iMd hown hK hI.1 rfl 12 (by decide) (htg _ (gw_mem (i := 1010) (by decide +kernel) rfl)) (fun _ h9 => h9) rfl d_Md_decide_64 ?_
              refine lv_bipush (v := 24) hx hb d_Md_decide_67 (by decide) ?_
              refine lv_iload_n hx hb d_Md_decide_69 rfl (lv_at hl 2 rfl) ?_
              refine lv_eqi (y := (nI (tn qa))) ea ?_
              refine lv_imul (x := 24) (y := (nI (tn qa))) hx hb d_Md_decide_70 ?_
              refine lv_eqi (y := (nI (24 * (tn qa)))) (pk_mul 24 (tn qa)) ?_
              refine lv_iload_n hx hb d_Md_decide_71 rfl (lv_at hl 3 rfl) ?_
              refine lv_eqi (y := (nI (tn qb))) eb ?_
              refine lv_iadd (x := (nI (24 * (tn qa)))) (y := (nI (tn qb))) hx hb d_Md_decide_72 ?_
              refine lv_eqi (y := (nI (24 * (tn qa) + tn qb))) (nI_add (24 * (tn qa)) (tn qb)) ?_
              refine lv_iload_n hx hb d_Md_decide_73 rfl (lv_at hl 4 rfl) ?_
              refine hx_iast hx hb hK hS (Or.inr ⟨9, by decide, rfl⟩) 0 (hI.2 9 (by decide)) rfl (show vp_in (nI (24 * (tn qa) + tn qb)) 576 from vp_in_nI (n := 24 * (tn qa) + tn qb) (by omega) (by decide)) d_Md_decide_74 (fun H locs hat hz ho hS => ?_)
              replace hI : md_I D cs H x g (upd i 0 0) (updA f 9 (24 * (tn qa) + tn qb) (kd)) := md_I.puta hI hsep (by decide) (by rw [show ((nI (24 * (tn qa) + tn qb)) : Int32).toNatClampNeg = 24 * (tn qa) + tn qb from nI_clamp (n := 24 * (tn qa) + tn qb) (by omega)] at hat; exact hat) ho
              refine lv_aload_n hx hb d_Md_decide_75 rfl (lv_at hl 1 rfl) ?_
              refine hx_get (v := .ref (g 9)) hx hb htg iMd hown hK hI.1 rfl 12 (by decide) (htg _ (gw_mem (i := 1010) (by decide +kernel) rfl)) (fun _ h9 => h9) rfl d_Md_decide_76 ?_
              refine lv_bipush (v := 24) hx hb d_Md_decide_79 (by decide) ?_
              refine lv_iload_n hx hb d_Md_decide_81 rfl (lv_at hl 3 rfl) ?_
              refine lv_eqi (y := (nI (tn qb))) eb ?_
              refine lv_imul (x := 24) (y := (nI (tn qb))) hx hb d_Md_decide_82 ?_
              refine lv_eqi (y := (nI (24 * (tn qb)))) (pk_mul 24 (tn qb)) ?_
              refine lv_iload_n hx hb d_Md_decide_83 rfl (lv_at hl 2 rfl) ?_
              refine lv_eqi (y := (nI (tn qa))) ea ?_
              refine lv_iadd (x := (nI (24 * (tn qb)))) (y := (nI (tn qa))) hx hb d_Md_decide_84 ?_
              refine lv_eqi (y := (nI (24 * (tn qb) + tn qa))) (nI_add (24 * (tn qb)) (tn qa)) ?_
              refine lv_iload_n hx hb d_Md_decide_85 rfl (lv_at hl 4 rfl) ?_
              refine hx_iast hx hb hK hS (Or.inr ⟨9, by decide, rfl⟩) 0 (hI.2 9 (by decide)) rfl (show vp_in (nI (24 * (tn qb) + tn qa)) 576 from vp_in_nI (n := 24 * (tn qb) + tn qa) (by omega) (by decide)) d_Md_decide_86 (fun H locs hat hz ho hS => ?_)
              replace hI : md_I D cs H x g (upd i 0 0) (updA (updA f 9 (24 * (tn qa) + tn qb) (kd)) 9 (24 * (tn qb) + tn qa) (kd)) := md_I.puta hI hsep (by decide) (by rw [show ((nI (24 * (tn qb) + tn qa)) : Int32).toNatClampNeg = 24 * (tn qb) + tn qa from nI_clamp (n := 24 * (tn qb) + tn qa) (by omega)] at hat; exact hat) ho
              refine lv_iload hx hb d_Md_decide_87 (lv_at hl 0 rfl) ?_
              exact W.iret (v := (f 9 (24 * (tn qa) + tn qb))) hx hb hr (fun t ht hW => ⟨⟨(f 9 (24 * (tn qa) + tn qb)), H, rfl, by dsimp only; have e0 : (isN n qa && isN n qb) = true := (by first | (simp [c6, c14, c24, c28, c33]; done) | (simp [c6, c14, c24, c28, c33]; omega) | omega | simp_all); have e1 : (!decide (qa = qb) && !decide (kd < 0) && !decide (2 < kd)) = true := (by first | (simp [c6, c14, c24, c28, c33]; done) | (simp [c6, c14, c24, c28, c33]; omega) | omega | simp_all); rw [e0, e1]; rw [if_pos (show goB true true true = true from rfl)]; exact ⟨hI, rfl⟩, ht⟩, hS.F ht⟩) hS.2.2 d_Md_decide_89
            · exact absurd c45 (by decide)
def y_Md_found : MethodName := ⟨"NameMergesModel", "found", "(I)I"⟩
abbrev w_Md_found : List Cond := Cond.code y_Md_found prog_7_method_30_code 2 (Option.some Jvm.ClassFile.FieldType.int) :: gw
theorem d_Md_found_0 : decode prog_7_method_30_code 0 = .ok (.aload_n 0, 1) := by decide +kernel
theorem d_Md_found_1 : decode prog_7_method_30_code 1 = .ok (.iload_n 1, 1) := by decide +kernel
theorem d_Md_found_2 : decode prog_7_method_30_code 2 = .ok (.ifCond .lt 15, 3) := by decide +kernel
theorem d_Md_found_5 : decode prog_7_method_30_code 5 = .ok (.iload_n 1, 1) := by decide +kernel
theorem d_Md_found_6 : decode prog_7_method_30_code 6 = .ok (.aload_n 0, 1) := by decide +kernel
theorem d_Md_found_7 : decode prog_7_method_30_code 7 = .ok (.getfield 130, 3) := by decide +kernel
theorem d_Md_found_10 : decode prog_7_method_30_code 10 = .ok (.if_icmp .ge 7, 3) := by decide +kernel
theorem d_Md_found_13 : decode prog_7_method_30_code 13 = .ok (.iconst 1, 1) := by decide +kernel
theorem d_Md_found_14 : decode prog_7_method_30_code 14 = .ok (.goto 4, 3) := by decide +kernel
theorem d_Md_found_17 : decode prog_7_method_30_code 17 = .ok (.iconst 0, 1) := by decide +kernel
theorem d_Md_found_18 : decode prog_7_method_30_code 18 = .ok (.iconst 1, 1) := by decide +kernel
theorem d_Md_found_19 : decode prog_7_method_30_code 19 = .ok (.iconst 1, 1) := by decide +kernel
theorem d_Md_found_20 : decode prog_7_method_30_code 20 = .ok (.invokevirtual 88, 3) := by decide +kernel
theorem d_Md_found_23 : decode prog_7_method_30_code 23 = .ok (.ifCond .eq 12, 3) := by decide +kernel
theorem d_Md_found_26 : decode prog_7_method_30_code 26 = .ok (.aload_n 0, 1) := by decide +kernel
theorem d_Md_found_27 : decode prog_7_method_30_code 27 = .ok (.getfield 71, 3) := by decide +kernel
theorem d_Md_found_30 : decode prog_7_method_30_code 30 = .ok (.iload_n 1, 1) := by decide +kernel
theorem d_Md_found_31 : decode prog_7_method_30_code 31 = .ok (.iaload, 1) := by decide +kernel
theorem d_Md_found_32 : decode prog_7_method_30_code 32 = .ok (.goto 4, 3) := by decide +kernel
theorem d_Md_found_35 : decode prog_7_method_30_code 35 = .ok (.iconst 0, 1) := by decide +kernel
theorem d_Md_found_36 : decode prog_7_method_30_code 36 = .ok (.ireturn, 1) := by decide +kernel
set_option maxHeartbeats 4000000 in
set_option maxRecDepth 100000 in
theorem c_Md_found (l : Launch) (D : va_G) (cs : Nat → ClassId) (N0 : Nat) (H : Heap) (x : Nat) (g : Nat → Nat) (i : Nat → Int32) (f : Nat → Nat → Int32) (q : Int32) (hsep : md_sep N0 x g) (hI : md_I D cs H x g i f) (fc : Nat) (hfc : i 5 = nI fc) (hf24 : fc ≤ 24) : Met l y_Md_found w_Md_found ({ frames := 1, cells := 0, slots := 0, locals := 23 }) (hPre D cs N0 [.ref x, .int q] H) (hQi (fun r H' => if goB (isN fc q) true true = true then (md_I D cs H' x g (upd i 0 (goV (isN fc q) true true)) f ∧ r = f 20 (tn q)) else (md_I D cs H' x g (upd i 0 (goV (isN fc q) true true)) f ∧ r = 0)) (md_A x g)) 0 0 (md_A x g) := by
  refine Met.ofW (cc := prog_7_method_30_code) (maxL := 2) (ret := (Option.some Jvm.ClassFile.FieldType.int)) (by decide) rfl ?_
  intro p e s m args below meth c s₁ B hml hv
  obtain ⟨rfl, rfl, hB⟩ := hv
  have hx := B.exec
  have hb := B.bytes
  have hr := B.returns
  have hts := atoms_spec (ws := w_Md_found) B.pre
  have htg : ∀ w ∈ gw, w.before _ s = true := fun w h => hts w (List.mem_cons_of_mem _ h)
  have hown : s.vm.findClass "NameMergesModel" = some m.cls := findClass_of_methodNamed B.named
  have hlocks := B.notSynchronized
  have hK := hB.1
  have hS : va_S (md_A x g) s.heap s.heap [] := va_S.rf
  obtain ⟨H, hH⟩ : ∃ z : Heap, z = s.heap := ⟨_, rfl⟩
  rw [← hH] at hI
  have hS : va_S (md_A x g) s.heap H [] := by rw [hH]; exact va_S.rf
  have hl := lv_entry ([.ref x, .int q]) (n := 2) (Nat.le_of_ble_eq_true rfl)
  rw [lg_entry_eq, ← hH]
  generalize (lg_sl ([.ref x, .int q]) ++ List.replicate (2 - (lg_sl ([.ref x, .int q])).length) Slot.unset).toArray = ls at hl ⊢
  have hl : lv_has ls 2 [(0, .ref x), (1, .int q)] := hl
  refine lv_aload_n hx hb d_Md_found_0 rfl (lv_at hl 0 rfl) ?_
  refine lv_iload_n hx hb d_Md_found_1 rfl (lv_at hl 1 rfl) ?_
  refine lv_if_lt (x := q) (tgt := 17) hx hb d_Md_found_2 (by decide) (fun c2 => ?_) (fun c2 => ?_)
  · skip
    refine lv_iconst (v := 0) hx hb d_Md_found_17 (by decide) ?_
    refine lv_iconst (v := 1) hx hb d_Md_found_18 (by decide) ?_
    refine lv_iconst (v := 1) hx hb d_Md_found_19 (by decide) ?_
    refine h_calli (va_runV (As := [.int 0, .int 1, .int 1]) (rest := []) ⟨hx, hb, hml, hown, htg⟩ (c_Md_goes l D cs N0 H x g i f false true true hsep hI) (cwV 3 htg (gw_V (gw_mem (i := 1092) (by decide +kernel) rfl) (gw_mem (i := 1094) (by decide +kernel) rfl) (gw_mem (i := 18) (by decide +kernel) rfl) (gw_mem (i := 38) (by decide +kernel) rfl) (gw_mem (i := 1095) (by decide +kernel) rfl)) rfl rfl rfl (by decide +kernel) ⟨Nat.le_of_ble_eq_true rfl, Nat.le_of_ble_eq_true rfl⟩) ⟨hPre.blind, hx_recv hK (ci := 0) rfl hI.1, hPre.at hB hS hsep.A⟩ rfl rfl hl.1 rfl (lv_room (Nat.le_of_ble_eq_true rfl)) d_Md_found_20 ⟨Nat.zero_le _, Nat.zero_le _⟩) hS (fun _ h => h) (fun r20 H locs hp hz hk hS => ?_)
    obtain ⟨hI, er20⟩ := hp
    replace hI : md_I D cs H x g (upd i 0 1) f := hI
    refine lv_eqi (y := 0) er20 ?_
    refine lv_if_eq (x := 0) (tgt := 35) hx hb d_Md_found_23 (by decide) (fun c23 => ?_) (fun c23 => ?_)
    · skip
      refine lv_iconst (v := 0) hx hb d_Md_found_35 (by decide) ?_
      exact W.iret (v := 0) hx hb hr (fun t ht hW => ⟨⟨0, H, rfl, by dsimp only; have e0 : (isN fc q) = false := (by first | (simp [isN, c2]; done) | (simp [isN, c2]; omega) | omega | simp_all [isN]); rw [e0]; rw [if_neg (show ¬ goB false true true = true by simp [goB])]; exact ⟨hI, rfl⟩, ht⟩, hS.F ht⟩) hS.2.2 d_Md_found_36
    · exact absurd c23 (by decide)
  · skip
    refine lv_iload_n hx hb d_Md_found_5 rfl (lv_at hl 1 rfl) ?_
    refine lv_aload_n hx hb d_Md_found_6 rfl (lv_at hl 0 rfl) ?_
    refine hx_get (v := .int (i 5)) hx hb htg iMd hown hK hI.1 rfl 25 (by decide) (htg _ (gw_mem (i := 1023) (by decide +kernel) rfl)) (fun _ h9 => h9) rfl d_Md_found_7 ?_
    refine lv_eqi (y := (nI fc)) hfc ?_
    refine lv_icmp_ge (x := q) (y := (nI fc)) (tgt := 17) hx hb d_Md_found_10 (by decide) (fun c10 => ?_) (fun c10 => ?_)
    · skip
      refine lv_iconst (v := 0) hx hb d_Md_found_17 (by decide) ?_
      refine lv_iconst (v := 1) hx hb d_Md_found_18 (by decide) ?_
      refine lv_iconst (v := 1) hx hb d_Md_found_19 (by decide) ?_
      refine h_calli (va_runV (As := [.int 0, .int 1, .int 1]) (rest := []) ⟨hx, hb, hml, hown, htg⟩ (c_Md_goes l D cs N0 H x g i f false true true hsep hI) (cwV 3 htg (gw_V (gw_mem (i := 1092) (by decide +kernel) rfl) (gw_mem (i := 1094) (by decide +kernel) rfl) (gw_mem (i := 18) (by decide +kernel) rfl) (gw_mem (i := 38) (by decide +kernel) rfl) (gw_mem (i := 1095) (by decide +kernel) rfl)) rfl rfl rfl (by decide +kernel) ⟨Nat.le_of_ble_eq_true rfl, Nat.le_of_ble_eq_true rfl⟩) ⟨hPre.blind, hx_recv hK (ci := 0) rfl hI.1, hPre.at hB hS hsep.A⟩ rfl rfl hl.1 rfl (lv_room (Nat.le_of_ble_eq_true rfl)) d_Md_found_20 ⟨Nat.zero_le _, Nat.zero_le _⟩) hS (fun _ h => h) (fun r20 H locs hp hz hk hS => ?_)
      obtain ⟨hI, er20⟩ := hp
      replace hI : md_I D cs H x g (upd i 0 1) f := hI
      refine lv_eqi (y := 0) er20 ?_
      refine lv_if_eq (x := 0) (tgt := 35) hx hb d_Md_found_23 (by decide) (fun c23 => ?_) (fun c23 => ?_)
      · skip
        refine lv_iconst (v := 0) hx hb d_Md_found_35 (by decide) ?_
        exact W.iret (v := 0) hx hb hr (fun t ht hW => ⟨⟨0, H, rfl, by dsimp only; have e0 : (isN fc q) = false := (by first | (simp [isN, c2, c10]; done) | (simp [isN, c2, c10]; omega) | omega | simp_all [isN]); rw [e0]; rw [if_neg (show ¬ goB false true true = true by simp [goB])]; exact ⟨hI, rfl⟩, ht⟩, hS.F ht⟩) hS.2.2 d_Md_found_36
      · exact absurd c23 (by decide)
    · skip
      refine lv_iconst (v := 1) hx hb d_Md_found_13 (by decide) ?_
      refine lv_goto (tgt := 18) hx hb d_Md_found_14 (by decide) ?_
      refine lv_iconst (v := 1) hx hb d_Md_found_18 (by decide) ?_
      refine lv_iconst (v := 1) hx hb d_Md_found_19 (by decide) ?_
      refine h_calli (va_runV (As := [.int 1, .int 1, .int 1]) (rest := []) ⟨hx, hb, hml, hown, htg⟩ (c_Md_goes l D cs N0 H x g i f true true true hsep hI) (cwV 3 htg (gw_V (gw_mem (i := 1092) (by decide +kernel) rfl) (gw_mem (i := 1094) (by decide +kernel) rfl) (gw_mem (i := 18) (by decide +kernel) rfl) (gw_mem (i := 38) (by decide +kernel) rfl) (gw_mem (i := 1095) (by decide +kernel) rfl)) rfl rfl rfl (by decide +kernel) ⟨Nat.le_of_ble_eq_true rfl, Nat.le_of_ble_eq_true rfl⟩) ⟨hPre.blind, hx_recv hK (ci := 0) rfl hI.1, hPre.at hB hS hsep.A⟩ rfl rfl hl.1 rfl (lv_room (Nat.le_of_ble_eq_true rfl)) d_Md_found_20 ⟨Nat.zero_le _, Nat.zero_le _⟩) hS (fun _ h => h) (fun r20 H locs hp hz hk hS => ?_)
      obtain ⟨hI, er20⟩ := hp
      replace hI : md_I D cs H x g (upd i 0 0) f := hI
      refine lv_eqi (y := 1) er20 ?_
      refine lv_if_eq (x := 1) (tgt := 35) hx hb d_Md_found_23 (by decide) (fun c23 => ?_) (fun c23 => ?_)
      · exact absurd c23 (by decide)
      · skip
        have hq : isN fc q = true := by simp [isN, c2, c10]
        obtain ⟨ha, ea⟩ := isN_n hq (by omega)
        refine lv_aload_n hx hb d_Md_found_26 rfl (lv_at hl 0 rfl) ?_
        refine hx_get (v := .ref (g 20)) hx hb htg iMd hown hK hI.1 rfl 26 (by decide) (htg _ (gw_mem (i := 1024) (by decide +kernel) rfl)) (fun _ h9 => h9) rfl d_Md_found_27 ?_
        refine lv_iload_n hx hb d_Md_found_30 rfl (lv_at hl 1 rfl) ?_
        refine lv_eqi (y := (nI (tn q))) ea ?_
        refine hx_iald hx hb hK 0 (hI.2 20 (by decide)) rfl (show vp_in (nI (tn q)) 24 from vp_in_nI (n := tn q) (by omega) (by decide)) d_Md_found_31 ?_
        refine lv_eqi (y := (f 20 (tn q))) (show f 20 (nI (tn q)).toNatClampNeg = _ by rw [nI_clamp (by omega)]) ?_
        refine lv_goto (tgt := 36) hx hb d_Md_found_32 (by decide) ?_
        exact W.iret (v := (f 20 (tn q))) hx hb hr (fun t ht hW => ⟨⟨(f 20 (tn q)), H, rfl, by dsimp only; have e0 : (isN fc q) = true := (by first | (simp [isN, c2, c10]; done) | (simp [isN, c2, c10]; omega) | omega | simp_all [isN]); rw [e0]; rw [if_pos (show goB true true true = true from rfl)]; exact ⟨hI, rfl⟩, ht⟩, hS.F ht⟩) hS.2.2 d_Md_found_36
def y_Md_candidate : MethodName := ⟨"NameMergesModel", "candidate", "(II)I"⟩
abbrev w_Md_candidate : List Cond := Cond.code y_Md_candidate prog_7_method_16_code 3 (Option.some Jvm.ClassFile.FieldType.int) :: gw
theorem d_Md_candidate_0 : decode prog_7_method_16_code 0 = .ok (.aload_n 0, 1) := by decide +kernel
theorem d_Md_candidate_1 : decode prog_7_method_16_code 1 = .ok (.iload_n 1, 1) := by decide +kernel
theorem d_Md_candidate_2 : decode prog_7_method_16_code 2 = .ok (.ifCond .lt 24, 3) := by decide +kernel
theorem d_Md_candidate_5 : decode prog_7_method_16_code 5 = .ok (.iload_n 1, 1) := by decide +kernel
theorem d_Md_candidate_6 : decode prog_7_method_16_code 6 = .ok (.aload_n 0, 1) := by decide +kernel
theorem d_Md_candidate_7 : decode prog_7_method_16_code 7 = .ok (.getfield 113, 3) := by decide +kernel
theorem d_Md_candidate_10 : decode prog_7_method_16_code 10 = .ok (.if_icmp .ge 16, 3) := by decide +kernel
theorem d_Md_candidate_13 : decode prog_7_method_16_code 13 = .ok (.iload_n 2, 1) := by decide +kernel
theorem d_Md_candidate_14 : decode prog_7_method_16_code 14 = .ok (.ifCond .eq 8, 3) := by decide +kernel
theorem d_Md_candidate_17 : decode prog_7_method_16_code 17 = .ok (.iload_n 2, 1) := by decide +kernel
theorem d_Md_candidate_18 : decode prog_7_method_16_code 18 = .ok (.iconst 1, 1) := by decide +kernel
theorem d_Md_candidate_19 : decode prog_7_method_16_code 19 = .ok (.if_icmp .ne 7, 3) := by decide +kernel
theorem d_Md_candidate_22 : decode prog_7_method_16_code 22 = .ok (.iconst 1, 1) := by decide +kernel
theorem d_Md_candidate_23 : decode prog_7_method_16_code 23 = .ok (.goto 4, 3) := by decide +kernel
theorem d_Md_candidate_26 : decode prog_7_method_16_code 26 = .ok (.iconst 0, 1) := by decide +kernel
theorem d_Md_candidate_27 : decode prog_7_method_16_code 27 = .ok (.iconst 1, 1) := by decide +kernel
theorem d_Md_candidate_28 : decode prog_7_method_16_code 28 = .ok (.iconst 1, 1) := by decide +kernel
theorem d_Md_candidate_29 : decode prog_7_method_16_code 29 = .ok (.invokevirtual 88, 3) := by decide +kernel
theorem d_Md_candidate_32 : decode prog_7_method_16_code 32 = .ok (.ifCond .ne 5, 3) := by decide +kernel
theorem d_Md_candidate_35 : decode prog_7_method_16_code 35 = .ok (.iconst 0, 1) := by decide +kernel
theorem d_Md_candidate_36 : decode prog_7_method_16_code 36 = .ok (.ireturn, 1) := by decide +kernel
theorem d_Md_candidate_37 : decode prog_7_method_16_code 37 = .ok (.iload_n 2, 1) := by decide +kernel
theorem d_Md_candidate_38 : decode prog_7_method_16_code 38 = .ok (.ifCond .ne 12, 3) := by decide +kernel
theorem d_Md_candidate_41 : decode prog_7_method_16_code 41 = .ok (.aload_n 0, 1) := by decide +kernel
theorem d_Md_candidate_42 : decode prog_7_method_16_code 42 = .ok (.getfield 65, 3) := by decide +kernel
theorem d_Md_candidate_45 : decode prog_7_method_16_code 45 = .ok (.iload_n 1, 1) := by decide +kernel
theorem d_Md_candidate_46 : decode prog_7_method_16_code 46 = .ok (.iaload, 1) := by decide +kernel
theorem d_Md_candidate_47 : decode prog_7_method_16_code 47 = .ok (.goto 9, 3) := by decide +kernel
theorem d_Md_candidate_50 : decode prog_7_method_16_code 50 = .ok (.aload_n 0, 1) := by decide +kernel
theorem d_Md_candidate_51 : decode prog_7_method_16_code 51 = .ok (.getfield 68, 3) := by decide +kernel
theorem d_Md_candidate_54 : decode prog_7_method_16_code 54 = .ok (.iload_n 1, 1) := by decide +kernel
theorem d_Md_candidate_55 : decode prog_7_method_16_code 55 = .ok (.iaload, 1) := by decide +kernel
theorem d_Md_candidate_56 : decode prog_7_method_16_code 56 = .ok (.ireturn, 1) := by decide +kernel
set_option maxHeartbeats 4000000 in
set_option maxRecDepth 100000 in
theorem c_Md_candidate (l : Launch) (D : va_G) (cs : Nat → ClassId) (N0 : Nat) (H : Heap) (x : Nat) (g : Nat → Nat) (i : Nat → Int32) (f : Nat → Nat → Int32) (q sd : Int32) (hsep : md_sep N0 x g) (hI : md_I D cs H x g i f) (pc : Nat) (hpc : i 4 = nI pc) (hp276 : pc ≤ 276) : Met l y_Md_candidate w_Md_candidate ({ frames := 1, cells := 0, slots := 0, locals := 23 }) (hPre D cs N0 [.ref x, .int q, .int sd] H) (hQi (fun r H' => if goB (isN pc q && (decide (sd = 0) || decide (sd = 1))) true true = true then (md_I D cs H' x g (upd i 0 (goV (isN pc q && (decide (sd = 0) || decide (sd = 1))) true true)) f ∧ r = if sd = 0 then f 18 (tn q) else f 19 (tn q)) else (md_I D cs H' x g (upd i 0 (goV (isN pc q && (decide (sd = 0) || decide (sd = 1))) true true)) f ∧ r = 0)) (md_A x g)) 0 0 (md_A x g) := by
  refine Met.ofW (cc := prog_7_method_16_code) (maxL := 3) (ret := (Option.some Jvm.ClassFile.FieldType.int)) (by decide) rfl ?_
  intro p e s m args below meth c s₁ B hml hv
  obtain ⟨rfl, rfl, hB⟩ := hv
  have hx := B.exec
  have hb := B.bytes
  have hr := B.returns
  have hts := atoms_spec (ws := w_Md_candidate) B.pre
  have htg : ∀ w ∈ gw, w.before _ s = true := fun w h => hts w (List.mem_cons_of_mem _ h)
  have hown : s.vm.findClass "NameMergesModel" = some m.cls := findClass_of_methodNamed B.named
  have hlocks := B.notSynchronized
  have hK := hB.1
  have hS : va_S (md_A x g) s.heap s.heap [] := va_S.rf
  obtain ⟨H, hH⟩ : ∃ z : Heap, z = s.heap := ⟨_, rfl⟩
  rw [← hH] at hI
  have hS : va_S (md_A x g) s.heap H [] := by rw [hH]; exact va_S.rf
  have hl := lv_entry ([.ref x, .int q, .int sd]) (n := 3) (Nat.le_of_ble_eq_true rfl)
  rw [lg_entry_eq, ← hH]
  generalize (lg_sl ([.ref x, .int q, .int sd]) ++ List.replicate (3 - (lg_sl ([.ref x, .int q, .int sd])).length) Slot.unset).toArray = ls at hl ⊢
  have hl : lv_has ls 3 [(0, .ref x), (1, .int q), (2, .int sd)] := hl
  refine lv_aload_n hx hb d_Md_candidate_0 rfl (lv_at hl 0 rfl) ?_
  refine lv_iload_n hx hb d_Md_candidate_1 rfl (lv_at hl 1 rfl) ?_
  refine lv_if_lt (x := q) (tgt := 26) hx hb d_Md_candidate_2 (by decide) (fun c2 => ?_) (fun c2 => ?_)
  · skip
    refine lv_iconst (v := 0) hx hb d_Md_candidate_26 (by decide) ?_
    refine lv_iconst (v := 1) hx hb d_Md_candidate_27 (by decide) ?_
    refine lv_iconst (v := 1) hx hb d_Md_candidate_28 (by decide) ?_
    refine h_calli (va_runV (As := [.int 0, .int 1, .int 1]) (rest := []) ⟨hx, hb, hml, hown, htg⟩ (c_Md_goes l D cs N0 H x g i f false true true hsep hI) (cwV 3 htg (gw_V (gw_mem (i := 1092) (by decide +kernel) rfl) (gw_mem (i := 1094) (by decide +kernel) rfl) (gw_mem (i := 18) (by decide +kernel) rfl) (gw_mem (i := 38) (by decide +kernel) rfl) (gw_mem (i := 1095) (by decide +kernel) rfl)) rfl rfl rfl (by decide +kernel) ⟨Nat.le_of_ble_eq_true rfl, Nat.le_of_ble_eq_true rfl⟩) ⟨hPre.blind, hx_recv hK (ci := 0) rfl hI.1, hPre.at hB hS hsep.A⟩ rfl rfl hl.1 rfl (lv_room (Nat.le_of_ble_eq_true rfl)) d_Md_candidate_29 ⟨Nat.zero_le _, Nat.zero_le _⟩) hS (fun _ h => h) (fun r29 H locs hp hz hk hS => ?_)
    obtain ⟨hI, er29⟩ := hp
    replace hI : md_I D cs H x g (upd i 0 1) f := hI
    refine lv_eqi (y := 0) er29 ?_
    refine lv_if_ne (x := 0) (tgt := 37) hx hb d_Md_candidate_32 (by decide) (fun c32 => ?_) (fun c32 => ?_)
    · exact absurd c32 (by decide)
    · skip
      refine lv_iconst (v := 0) hx hb d_Md_candidate_35 (by decide) ?_
      exact W.iret (v := 0) hx hb hr (fun t ht hW => ⟨⟨0, H, rfl, by dsimp only; have e0 : (isN pc q && (decide (sd = 0) || decide (sd = 1))) = false := (by first | (simp [isN, c2]; done) | (simp [isN, c2]; omega) | omega | simp_all [isN]); rw [e0]; rw [if_neg (show ¬ goB false true true = true by simp [goB])]; exact ⟨hI, rfl⟩, ht⟩, hS.F ht⟩) hS.2.2 d_Md_candidate_36
  · skip
    refine lv_iload_n hx hb d_Md_candidate_5 rfl (lv_at hl 1 rfl) ?_
    refine lv_aload_n hx hb d_Md_candidate_6 rfl (lv_at hl 0 rfl) ?_
    refine hx_get (v := .int (i 4)) hx hb htg iMd hown hK hI.1 rfl 22 (by decide) (htg _ (gw_mem (i := 1020) (by decide +kernel) rfl)) (fun _ h9 => h9) rfl d_Md_candidate_7 ?_
    refine lv_eqi (y := (nI pc)) hpc ?_
    refine lv_icmp_ge (x := q) (y := (nI pc)) (tgt := 26) hx hb d_Md_candidate_10 (by decide) (fun c10 => ?_) (fun c10 => ?_)
    · skip
      refine lv_iconst (v := 0) hx hb d_Md_candidate_26 (by decide) ?_
      refine lv_iconst (v := 1) hx hb d_Md_candidate_27 (by decide) ?_
      refine lv_iconst (v := 1) hx hb d_Md_candidate_28 (by decide) ?_
      refine h_calli (va_runV (As := [.int 0, .int 1, .int 1]) (rest := []) ⟨hx, hb, hml, hown, htg⟩ (c_Md_goes l D cs N0 H x g i f false true true hsep hI) (cwV 3 htg (gw_V (gw_mem (i := 1092) (by decide +kernel) rfl) (gw_mem (i := 1094) (by decide +kernel) rfl) (gw_mem (i := 18) (by decide +kernel) rfl) (gw_mem (i := 38) (by decide +kernel) rfl) (gw_mem (i := 1095) (by decide +kernel) rfl)) rfl rfl rfl (by decide +kernel) ⟨Nat.le_of_ble_eq_true rfl, Nat.le_of_ble_eq_true rfl⟩) ⟨hPre.blind, hx_recv hK (ci := 0) rfl hI.1, hPre.at hB hS hsep.A⟩ rfl rfl hl.1 rfl (lv_room (Nat.le_of_ble_eq_true rfl)) d_Md_candidate_29 ⟨Nat.zero_le _, Nat.zero_le _⟩) hS (fun _ h => h) (fun r29 H locs hp hz hk hS => ?_)
      obtain ⟨hI, er29⟩ := hp
      replace hI : md_I D cs H x g (upd i 0 1) f := hI
      refine lv_eqi (y := 0) er29 ?_
      refine lv_if_ne (x := 0) (tgt := 37) hx hb d_Md_candidate_32 (by decide) (fun c32 => ?_) (fun c32 => ?_)
      · exact absurd c32 (by decide)
      · skip
        refine lv_iconst (v := 0) hx hb d_Md_candidate_35 (by decide) ?_
        exact W.iret (v := 0) hx hb hr (fun t ht hW => ⟨⟨0, H, rfl, by dsimp only; have e0 : (isN pc q && (decide (sd = 0) || decide (sd = 1))) = false := (by first | (simp [isN, c2, c10]; done) | (simp [isN, c2, c10]; omega) | omega | simp_all [isN]); rw [e0]; rw [if_neg (show ¬ goB false true true = true by simp [goB])]; exact ⟨hI, rfl⟩, ht⟩, hS.F ht⟩) hS.2.2 d_Md_candidate_36
    · skip
      refine lv_iload_n hx hb d_Md_candidate_13 rfl (lv_at hl 2 rfl) ?_
      refine lv_if_eq (x := sd) (tgt := 22) hx hb d_Md_candidate_14 (by decide) (fun c14 => ?_) (fun c14 => ?_)
      · skip
        refine lv_iconst (v := 1) hx hb d_Md_candidate_22 (by decide) ?_
        refine lv_goto (tgt := 27) hx hb d_Md_candidate_23 (by decide) ?_
        refine lv_iconst (v := 1) hx hb d_Md_candidate_27 (by decide) ?_
        refine lv_iconst (v := 1) hx hb d_Md_candidate_28 (by decide) ?_
        refine h_calli (va_runV (As := [.int 1, .int 1, .int 1]) (rest := []) ⟨hx, hb, hml, hown, htg⟩ (c_Md_goes l D cs N0 H x g i f true true true hsep hI) (cwV 3 htg (gw_V (gw_mem (i := 1092) (by decide +kernel) rfl) (gw_mem (i := 1094) (by decide +kernel) rfl) (gw_mem (i := 18) (by decide +kernel) rfl) (gw_mem (i := 38) (by decide +kernel) rfl) (gw_mem (i := 1095) (by decide +kernel) rfl)) rfl rfl rfl (by decide +kernel) ⟨Nat.le_of_ble_eq_true rfl, Nat.le_of_ble_eq_true rfl⟩) ⟨hPre.blind, hx_recv hK (ci := 0) rfl hI.1, hPre.at hB hS hsep.A⟩ rfl rfl hl.1 rfl (lv_room (Nat.le_of_ble_eq_true rfl)) d_Md_candidate_29 ⟨Nat.zero_le _, Nat.zero_le _⟩) hS (fun _ h => h) (fun r29 H locs hp hz hk hS => ?_)
        obtain ⟨hI, er29⟩ := hp
        replace hI : md_I D cs H x g (upd i 0 0) f := hI
        refine lv_eqi (y := 1) er29 ?_
        refine lv_if_ne (x := 1) (tgt := 37) hx hb d_Md_candidate_32 (by decide) (fun c32 => ?_) (fun c32 => ?_)
        · skip
          have hq : isN pc q = true := by simp [isN, c2, c10]
          obtain ⟨ha, ea⟩ := isN_n hq (by omega)
          refine lv_iload_n hx hb d_Md_candidate_37 rfl (lv_at hl 2 rfl) ?_
          refine lv_if_ne (x := sd) (tgt := 50) hx hb d_Md_candidate_38 (by decide) (fun c38 => ?_) (fun c38 => ?_)
          · skip
            refine lv_aload_n hx hb d_Md_candidate_50 rfl (lv_at hl 0 rfl) ?_
            refine hx_get (v := .ref (g 19)) hx hb htg iMd hown hK hI.1 rfl 24 (by decide) (htg _ (gw_mem (i := 1022) (by decide +kernel) rfl)) (fun _ h9 => h9) rfl d_Md_candidate_51 ?_
            refine lv_iload_n hx hb d_Md_candidate_54 rfl (lv_at hl 1 rfl) ?_
            refine lv_eqi (y := (nI (tn q))) ea ?_
            refine hx_iald hx hb hK 0 (hI.2 19 (by decide)) rfl (show vp_in (nI (tn q)) 276 from vp_in_nI (n := tn q) (by omega) (by decide)) d_Md_candidate_55 ?_
            refine lv_eqi (y := (f 19 (tn q))) (show f 19 (nI (tn q)).toNatClampNeg = _ by rw [nI_clamp (by omega)]) ?_
            exact W.iret (v := (f 19 (tn q))) hx hb hr (fun t ht hW => ⟨⟨(f 19 (tn q)), H, rfl, by dsimp only; have e0 : (isN pc q && (decide (sd = 0) || decide (sd = 1))) = true := (by first | (simp [isN, c2, c10, c14, c38]; done) | (simp [isN, c2, c10, c14, c38]; omega) | omega | simp_all [isN]); rw [e0]; rw [if_pos (show goB true true true = true from rfl)]; exact ⟨hI, by simp [c38]⟩, ht⟩, hS.F ht⟩) hS.2.2 d_Md_candidate_56
          · skip
            refine lv_aload_n hx hb d_Md_candidate_41 rfl (lv_at hl 0 rfl) ?_
            refine hx_get (v := .ref (g 18)) hx hb htg iMd hown hK hI.1 rfl 23 (by decide) (htg _ (gw_mem (i := 1021) (by decide +kernel) rfl)) (fun _ h9 => h9) rfl d_Md_candidate_42 ?_
            refine lv_iload_n hx hb d_Md_candidate_45 rfl (lv_at hl 1 rfl) ?_
            refine lv_eqi (y := (nI (tn q))) ea ?_
            refine hx_iald hx hb hK 0 (hI.2 18 (by decide)) rfl (show vp_in (nI (tn q)) 276 from vp_in_nI (n := tn q) (by omega) (by decide)) d_Md_candidate_46 ?_
            refine lv_eqi (y := (f 18 (tn q))) (show f 18 (nI (tn q)).toNatClampNeg = _ by rw [nI_clamp (by omega)]) ?_
            refine lv_goto (tgt := 56) hx hb d_Md_candidate_47 (by decide) ?_
            exact W.iret (v := (f 18 (tn q))) hx hb hr (fun t ht hW => ⟨⟨(f 18 (tn q)), H, rfl, by dsimp only; have e0 : (isN pc q && (decide (sd = 0) || decide (sd = 1))) = true := (by first | (simp [isN, c2, c10, c14, c38]; done) | (simp [isN, c2, c10, c14, c38]; omega) | omega | simp_all [isN]); rw [e0]; rw [if_pos (show goB true true true = true from rfl)]; exact ⟨hI, by simp [c38]⟩, ht⟩, hS.F ht⟩) hS.2.2 d_Md_candidate_56
        · exact absurd c32 (by decide)
      · skip
        refine lv_iload_n hx hb d_Md_candidate_17 rfl (lv_at hl 2 rfl) ?_
        refine lv_iconst (v := 1) hx hb d_Md_candidate_18 (by decide) ?_
        refine lv_icmp_ne (x := sd) (y := 1) (tgt := 26) hx hb d_Md_candidate_19 (by decide) (fun c19 => ?_) (fun c19 => ?_)
        · skip
          refine lv_iconst (v := 0) hx hb d_Md_candidate_26 (by decide) ?_
          refine lv_iconst (v := 1) hx hb d_Md_candidate_27 (by decide) ?_
          refine lv_iconst (v := 1) hx hb d_Md_candidate_28 (by decide) ?_
          refine h_calli (va_runV (As := [.int 0, .int 1, .int 1]) (rest := []) ⟨hx, hb, hml, hown, htg⟩ (c_Md_goes l D cs N0 H x g i f false true true hsep hI) (cwV 3 htg (gw_V (gw_mem (i := 1092) (by decide +kernel) rfl) (gw_mem (i := 1094) (by decide +kernel) rfl) (gw_mem (i := 18) (by decide +kernel) rfl) (gw_mem (i := 38) (by decide +kernel) rfl) (gw_mem (i := 1095) (by decide +kernel) rfl)) rfl rfl rfl (by decide +kernel) ⟨Nat.le_of_ble_eq_true rfl, Nat.le_of_ble_eq_true rfl⟩) ⟨hPre.blind, hx_recv hK (ci := 0) rfl hI.1, hPre.at hB hS hsep.A⟩ rfl rfl hl.1 rfl (lv_room (Nat.le_of_ble_eq_true rfl)) d_Md_candidate_29 ⟨Nat.zero_le _, Nat.zero_le _⟩) hS (fun _ h => h) (fun r29 H locs hp hz hk hS => ?_)
          obtain ⟨hI, er29⟩ := hp
          replace hI : md_I D cs H x g (upd i 0 1) f := hI
          refine lv_eqi (y := 0) er29 ?_
          refine lv_if_ne (x := 0) (tgt := 37) hx hb d_Md_candidate_32 (by decide) (fun c32 => ?_) (fun c32 => ?_)
          · exact absurd c32 (by decide)
          · skip
            refine lv_iconst (v := 0) hx hb d_Md_candidate_35 (by decide) ?_
            exact W.iret (v := 0) hx hb hr (fun t ht hW => ⟨⟨0, H, rfl, by dsimp only; have e0 : (isN pc q && (decide (sd = 0) || decide (sd = 1))) = false := (by first | (simp [isN, c2, c10, c14, c19]; done) | (simp [isN, c2, c10, c14, c19]; omega) | omega | simp_all [isN]); rw [e0]; rw [if_neg (show ¬ goB false true true = true by simp [goB])]; exact ⟨hI, rfl⟩, ht⟩, hS.F ht⟩) hS.2.2 d_Md_candidate_36
        · skip
          refine lv_iconst (v := 1) hx hb d_Md_candidate_22 (by decide) ?_
          refine lv_goto (tgt := 27) hx hb d_Md_candidate_23 (by decide) ?_
          refine lv_iconst (v := 1) hx hb d_Md_candidate_27 (by decide) ?_
          refine lv_iconst (v := 1) hx hb d_Md_candidate_28 (by decide) ?_
          refine h_calli (va_runV (As := [.int 1, .int 1, .int 1]) (rest := []) ⟨hx, hb, hml, hown, htg⟩ (c_Md_goes l D cs N0 H x g i f true true true hsep hI) (cwV 3 htg (gw_V (gw_mem (i := 1092) (by decide +kernel) rfl) (gw_mem (i := 1094) (by decide +kernel) rfl) (gw_mem (i := 18) (by decide +kernel) rfl) (gw_mem (i := 38) (by decide +kernel) rfl) (gw_mem (i := 1095) (by decide +kernel) rfl)) rfl rfl rfl (by decide +kernel) ⟨Nat.le_of_ble_eq_true rfl, Nat.le_of_ble_eq_true rfl⟩) ⟨hPre.blind, hx_recv hK (ci := 0) rfl hI.1, hPre.at hB hS hsep.A⟩ rfl rfl hl.1 rfl (lv_room (Nat.le_of_ble_eq_true rfl)) d_Md_candidate_29 ⟨Nat.zero_le _, Nat.zero_le _⟩) hS (fun _ h => h) (fun r29 H locs hp hz hk hS => ?_)
          obtain ⟨hI, er29⟩ := hp
          replace hI : md_I D cs H x g (upd i 0 0) f := hI
          refine lv_eqi (y := 1) er29 ?_
          refine lv_if_ne (x := 1) (tgt := 37) hx hb d_Md_candidate_32 (by decide) (fun c32 => ?_) (fun c32 => ?_)
          · skip
            have hq : isN pc q = true := by simp [isN, c2, c10]
            obtain ⟨ha, ea⟩ := isN_n hq (by omega)
            refine lv_iload_n hx hb d_Md_candidate_37 rfl (lv_at hl 2 rfl) ?_
            refine lv_if_ne (x := sd) (tgt := 50) hx hb d_Md_candidate_38 (by decide) (fun c38 => ?_) (fun c38 => ?_)
            · skip
              refine lv_aload_n hx hb d_Md_candidate_50 rfl (lv_at hl 0 rfl) ?_
              refine hx_get (v := .ref (g 19)) hx hb htg iMd hown hK hI.1 rfl 24 (by decide) (htg _ (gw_mem (i := 1022) (by decide +kernel) rfl)) (fun _ h9 => h9) rfl d_Md_candidate_51 ?_
              refine lv_iload_n hx hb d_Md_candidate_54 rfl (lv_at hl 1 rfl) ?_
              refine lv_eqi (y := (nI (tn q))) ea ?_
              refine hx_iald hx hb hK 0 (hI.2 19 (by decide)) rfl (show vp_in (nI (tn q)) 276 from vp_in_nI (n := tn q) (by omega) (by decide)) d_Md_candidate_55 ?_
              refine lv_eqi (y := (f 19 (tn q))) (show f 19 (nI (tn q)).toNatClampNeg = _ by rw [nI_clamp (by omega)]) ?_
              exact W.iret (v := (f 19 (tn q))) hx hb hr (fun t ht hW => ⟨⟨(f 19 (tn q)), H, rfl, by dsimp only; have e0 : (isN pc q && (decide (sd = 0) || decide (sd = 1))) = true := (by first | (simp [isN, c2, c10, c14, c19, c38]; done) | (simp [isN, c2, c10, c14, c19, c38]; omega) | omega | simp_all [isN]); rw [e0]; rw [if_pos (show goB true true true = true from rfl)]; exact ⟨hI, by simp [c38]⟩, ht⟩, hS.F ht⟩) hS.2.2 d_Md_candidate_56
            · skip
              refine lv_aload_n hx hb d_Md_candidate_41 rfl (lv_at hl 0 rfl) ?_
              refine hx_get (v := .ref (g 18)) hx hb htg iMd hown hK hI.1 rfl 23 (by decide) (htg _ (gw_mem (i := 1021) (by decide +kernel) rfl)) (fun _ h9 => h9) rfl d_Md_candidate_42 ?_
              refine lv_iload_n hx hb d_Md_candidate_45 rfl (lv_at hl 1 rfl) ?_
              refine lv_eqi (y := (nI (tn q))) ea ?_
              refine hx_iald hx hb hK 0 (hI.2 18 (by decide)) rfl (show vp_in (nI (tn q)) 276 from vp_in_nI (n := tn q) (by omega) (by decide)) d_Md_candidate_46 ?_
              refine lv_eqi (y := (f 18 (tn q))) (show f 18 (nI (tn q)).toNatClampNeg = _ by rw [nI_clamp (by omega)]) ?_
              refine lv_goto (tgt := 56) hx hb d_Md_candidate_47 (by decide) ?_
              exact W.iret (v := (f 18 (tn q))) hx hb hr (fun t ht hW => ⟨⟨(f 18 (tn q)), H, rfl, by dsimp only; have e0 : (isN pc q && (decide (sd = 0) || decide (sd = 1))) = true := (by first | (simp [isN, c2, c10, c14, c19, c38]; done) | (simp [isN, c2, c10, c14, c19, c38]; omega) | omega | simp_all [isN]); rw [e0]; rw [if_pos (show goB true true true = true from rfl)]; exact ⟨hI, by simp [c38]⟩, ht⟩, hS.F ht⟩) hS.2.2 d_Md_candidate_56
          · exact absurd c32 (by decide)
def y_Md_owner : MethodName := ⟨"NameMergesModel", "owner", "(II)I"⟩
abbrev w_Md_owner : List Cond := Cond.code y_Md_owner prog_7_method_31_code 4 (Option.some Jvm.ClassFile.FieldType.int) :: gw
theorem d_Md_owner_0 : decode prog_7_method_31_code 0 = .ok (.iconst 0, 1) := by decide +kernel
theorem d_Md_owner_1 : decode prog_7_method_31_code 1 = .ok (.istore_n 3, 1) := by decide +kernel
theorem d_Md_owner_2 : decode prog_7_method_31_code 2 = .ok (.iload_n 3, 1) := by decide +kernel
theorem d_Md_owner_3 : decode prog_7_method_31_code 3 = .ok (.aload_n 0, 1) := by decide +kernel
theorem d_Md_owner_4 : decode prog_7_method_31_code 4 = .ok (.getfield 81, 3) := by decide +kernel
theorem d_Md_owner_7 : decode prog_7_method_31_code 7 = .ok (.if_icmp .ge 29, 3) := by decide +kernel
theorem d_Md_owner_10 : decode prog_7_method_31_code 10 = .ok (.iload_n 2, 1) := by decide +kernel
theorem d_Md_owner_11 : decode prog_7_method_31_code 11 = .ok (.ifCond .le 19, 3) := by decide +kernel
theorem d_Md_owner_14 : decode prog_7_method_31_code 14 = .ok (.aload_n 0, 1) := by decide +kernel
theorem d_Md_owner_15 : decode prog_7_method_31_code 15 = .ok (.getfield 47, 3) := by decide +kernel
theorem d_Md_owner_18 : decode prog_7_method_31_code 18 = .ok (.iconst 4, 1) := by decide +kernel
theorem d_Md_owner_19 : decode prog_7_method_31_code 19 = .ok (.iload_n 3, 1) := by decide +kernel
theorem d_Md_owner_20 : decode prog_7_method_31_code 20 = .ok (.imul, 1) := by decide +kernel
theorem d_Md_owner_21 : decode prog_7_method_31_code 21 = .ok (.iload_n 1, 1) := by decide +kernel
theorem d_Md_owner_22 : decode prog_7_method_31_code 22 = .ok (.iadd, 1) := by decide +kernel
theorem d_Md_owner_23 : decode prog_7_method_31_code 23 = .ok (.iaload, 1) := by decide +kernel
theorem d_Md_owner_24 : decode prog_7_method_31_code 24 = .ok (.iload_n 2, 1) := by decide +kernel
theorem d_Md_owner_25 : decode prog_7_method_31_code 25 = .ok (.if_icmp .ne 5, 3) := by decide +kernel
theorem d_Md_owner_28 : decode prog_7_method_31_code 28 = .ok (.iload_n 3, 1) := by decide +kernel
theorem d_Md_owner_29 : decode prog_7_method_31_code 29 = .ok (.ireturn, 1) := by decide +kernel
theorem d_Md_owner_30 : decode prog_7_method_31_code 30 = .ok (.iinc 3 1, 3) := by decide +kernel
theorem d_Md_owner_33 : decode prog_7_method_31_code 33 = .ok (.goto (-31), 3) := by decide +kernel
theorem d_Md_owner_36 : decode prog_7_method_31_code 36 = .ok (.iconst (-1), 1) := by decide +kernel
theorem d_Md_owner_37 : decode prog_7_method_31_code 37 = .ok (.ireturn, 1) := by decide +kernel
set_option maxHeartbeats 4000000 in
set_option maxRecDepth 100000 in
theorem c_Md_owner (l : Launch) (D : va_G) (cs : Nat → ClassId) (N0 : Nat) (H : Heap) (x : Nat) (g : Nat → Nat) (i : Nat → Int32) (f : Nat → Nat → Int32) (st : Nat) (q : Int32) (hsep : md_sep N0 x g) (hI : md_I D cs H x g i f) (n : Nat) (hn : i 2 = nI n) (hn24 : n ≤ 24) (hst : st < 4) : Met l y_Md_owner w_Md_owner ({ frames := 0, cells := 0, slots := 0, locals := 0 }) (hPre D cs N0 [.ref x, .int (nI st), .int q] H) (hQi (fun r H' => md_I D cs H' x g i f ∧ r = fstFrom (ownP f st q) 0 n) (md_A x g)) 0 0 (md_A x g) := by
  refine Met.ofW (cc := prog_7_method_31_code) (maxL := 4) (ret := (Option.some Jvm.ClassFile.FieldType.int)) (by decide) rfl ?_
  intro p e s m args below meth c s₁ B hml hv
  obtain ⟨rfl, rfl, hB⟩ := hv
  have hx := B.exec
  have hb := B.bytes
  have hr := B.returns
  have hts := atoms_spec (ws := w_Md_owner) B.pre
  have htg : ∀ w ∈ gw, w.before _ s = true := fun w h => hts w (List.mem_cons_of_mem _ h)
  have hown : s.vm.findClass "NameMergesModel" = some m.cls := findClass_of_methodNamed B.named
  have hlocks := B.notSynchronized
  have hK := hB.1
  have hS : va_S (md_A x g) s.heap s.heap [] := va_S.rf
  obtain ⟨H, hH⟩ : ∃ z : Heap, z = s.heap := ⟨_, rfl⟩
  rw [← hH] at hI
  have hS : va_S (md_A x g) s.heap H [] := by rw [hH]; exact va_S.rf
  have hl := lv_entry ([.ref x, .int (nI st), .int q]) (n := 4) (Nat.le_of_ble_eq_true rfl)
  rw [lg_entry_eq, ← hH]
  generalize (lg_sl ([.ref x, .int (nI st), .int q]) ++ List.replicate (4 - (lg_sl ([.ref x, .int (nI st), .int q])).length) Slot.unset).toArray = ls at hl ⊢
  have hl : lv_has ls 4 [(0, .ref x), (1, .int (nI st)), (2, .int q)] := hl
  refine lv_iconst (v := 0) hx hb d_Md_owner_0 (by decide) ?_
  refine lv_istore_n (lv' := [(3, .int 0), (0, .ref x), (1, .int (nI st)), (2, .int q)]) hx hb d_Md_owner_1 rfl hl (by decide) rfl (fun ls hl => ?_)
  have loop2 : ∀ (fuel : Nat) (k : Nat), n - k < fuel → (k ≤ n) → (fstFrom (ownP f st q) 0 n = fstFrom (ownP f st q) k (n - k)) → ∀ (locs : List Loc), va_S (md_A x g) s.heap H locs → ∀ (ls : Array Slot), lv_has ls 4 [(0, .ref x), (1, .int (nI st)), (2, .int q), (3, .int (nI k))] → W p l e (headSpec w_Md_owner ({ frames := 0, cells := 0, slots := 0, locals := 0 })).room s m ([.ref x, .int (nI st), .int q] : List Value).toArray below meth c H locs 0 0 (MQ below (hQi (fun r H' => md_I D cs H' x g i f ∧ r = fstFrom (ownP f st q) 0 n) (md_A x g)) ([.ref x, .int (nI st), .int q] : List Value).toArray s 0 0 (md_A x g)) (F0 m 2 ls []) := by
    intro fuel2
    induction fuel2 with
    | zero => intro k hn; exact absurd hn (Nat.not_lt_zero _)
    | succ fuel2 ih2 =>
      intro k hn2 hk hf locs hS ls hl
      refine lv_iload_n hx hb d_Md_owner_2 rfl (lv_at hl 3 rfl) ?_
      refine lv_aload_n hx hb d_Md_owner_3 rfl (lv_at hl 0 rfl) ?_
      refine hx_get (v := .int (i 2)) hx hb htg iMd hown hK hI.1 rfl 3 (by decide) (htg _ (gw_mem (i := 1001) (by decide +kernel) rfl)) (fun _ h9 => h9) rfl d_Md_owner_4 ?_
      refine lv_eqi (y := (nI n)) hn ?_
      refine lv_icmp_ge (x := (nI k)) (y := (nI n)) (tgt := 36) hx hb d_Md_owner_7 (by decide) (fun c7 => ?_) (fun c7 => ?_)
      · skip
        replace c7 : n ≤ k := (nI_leI (a := n) (b := k) (by omega) (by omega)).mp c7
        refine lv_iconst (v := (-1)) hx hb d_Md_owner_36 (by decide) ?_
        exact W.iret (v := (-1)) hx hb hr (fun t ht hW => ⟨⟨(-1), H, rfl, ⟨hI, (hf.trans (fst_end (by omega))).symm⟩, ht⟩, hS.F ht⟩) hS.2.2 d_Md_owner_37
      · skip
        replace c7 : ¬ (n ≤ k) := fun z9 => c7 ((nI_leI (a := n) (b := k) (by omega) (by omega)).mpr z9)
        refine lv_iload_n hx hb d_Md_owner_10 rfl (lv_at hl 2 rfl) ?_
        refine lv_if_le (x := q) (tgt := 30) hx hb d_Md_owner_11 (by decide) (fun c11 => ?_) (fun c11 => ?_)
        · skip
          refine lv_iinc (v := (nI (k + 1))) (lv' := [(3, .int (nI (k + 1))), (0, .ref x), (1, .int (nI st)), (2, .int q)]) hx hb d_Md_owner_30 hl (k := 3) rfl (nI_1 k) (by decide) rfl (fun ls hl => ?_)
          refine lv_goto (tgt := 2) hx hb d_Md_owner_33 (by decide) ?_
          exact ih2  (k + 1) (by omega) (by omega) (hf.trans (fst_miss (by omega) (by simp [ownP, c11]))) _ hS ls (lv_sub hl [1, 2, 3, 0] rfl)
        · skip
          refine lv_aload_n hx hb d_Md_owner_14 rfl (lv_at hl 0 rfl) ?_
          refine hx_get (v := .ref (g 12)) hx hb htg iMd hown hK hI.1 rfl 15 (by decide) (htg _ (gw_mem (i := 1013) (by decide +kernel) rfl)) (fun _ h9 => h9) rfl d_Md_owner_15 ?_
          refine lv_iconst (v := 4) hx hb d_Md_owner_18 (by decide) ?_
          refine lv_iload_n hx hb d_Md_owner_19 rfl (lv_at hl 3 rfl) ?_
          refine lv_imul (x := 4) (y := (nI k)) hx hb d_Md_owner_20 ?_
          refine lv_eqi (y := (nI (4 * k))) (pk_mul 4 k) ?_
          refine lv_iload_n hx hb d_Md_owner_21 rfl (lv_at hl 1 rfl) ?_
          refine lv_iadd (x := (nI (4 * k))) (y := (nI st)) hx hb d_Md_owner_22 ?_
          refine lv_eqi (y := (nI (4 * k + st))) (nI_add (4 * k) st) ?_
          refine hx_iald hx hb hK 0 (hI.2 12 (by decide)) rfl (show vp_in (nI (4 * k + st)) 96 from vp_in_nI (n := 4 * k + st) (by omega) (by decide)) d_Md_owner_23 ?_
          refine lv_eqi (y := (f 12 (4 * k + st))) (show f 12 (nI (4 * k + st)).toNatClampNeg = _ by rw [nI_clamp (by omega)]) ?_
          refine lv_iload_n hx hb d_Md_owner_24 rfl (lv_at hl 2 rfl) ?_
          refine lv_icmp_ne (x := (f 12 (4 * k + st))) (y := q) (tgt := 30) hx hb d_Md_owner_25 (by decide) (fun c25 => ?_) (fun c25 => ?_)
          · skip
            refine lv_iinc (v := (nI (k + 1))) (lv' := [(3, .int (nI (k + 1))), (0, .ref x), (1, .int (nI st)), (2, .int q)]) hx hb d_Md_owner_30 hl (k := 3) rfl (nI_1 k) (by decide) rfl (fun ls hl => ?_)
            refine lv_goto (tgt := 2) hx hb d_Md_owner_33 (by decide) ?_
            exact ih2  (k + 1) (by omega) (by omega) (hf.trans (fst_miss (by omega) (by simp [ownP, c11, c25]))) _ hS ls (lv_sub hl [1, 2, 3, 0] rfl)
          · skip
            refine lv_iload_n hx hb d_Md_owner_28 rfl (lv_at hl 3 rfl) ?_
            exact W.iret (v := (nI k)) hx hb hr (fun t ht hW => ⟨⟨(nI k), H, rfl, ⟨hI, (hf.trans (fst_hit (by omega) (by simp [ownP, c11, c25]))).symm⟩, ht⟩, hS.F ht⟩) hS.2.2 d_Md_owner_29
  exact loop2 ((n - 0) + 1) 0 (Nat.lt_succ_self _) (Nat.zero_le _) rfl _ hS ls (lv_sub hl [1, 2, 3, 0] rfl)
