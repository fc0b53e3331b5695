def lowP (a : Nat) (P : Nat → Bool) : Nat → Bool := fun b => decide (a < b) && P b
theorem any_low (a : Nat) (P : Nat → Bool) : ∀ m, m ≤ a + 1 → anyTo (lowP a P) m = false := by
  intro m
  induction m with
  | zero => intro _; rfl
  | succ m ih =>
    intro h
    show (anyTo (lowP a P) m || lowP a P m) = false
    rw [ih (by omega), lowP, decide_eq_false (by omega)]
    rfl
theorem agr.beg {F f : Nat → Nat → Int32} {mn : Nat → Nat} {a b : Nat} (h : agr F f) : begB F mn a b = begB f mn a b := by
  unfold begB
  have e : ∀ j, begP F a b j = begP f a b j := fun j => by funext k; unfold begP; rw [h.2.2.1]
  simp only [e]
def losP (f : Nat → Nat → Int32) (ln mn : Nat → Nat) (ls : Int32) (a : Nat) : Nat → Bool := fun b => !begB f mn a b && !decide (likeV f ln mn a b < ls)
def losB (f : Nat → Nat → Int32) (ln mn : Nat → Nat) (ls : Int32) (n : Nat) : Bool := anyTo (fun a => anyTo (lowP a (losP f ln mn ls a)) n) n
def y_Md_score : MethodName := ⟨"NameMergesModel", "score", "(II)I"⟩
abbrev w_Md_score : List Cond := Cond.code y_Md_score prog_7_method_13_code 3 (Option.some Jvm.ClassFile.FieldType.int) :: gw
theorem d_Md_score_0 : decode prog_7_method_13_code 0 = .ok (.aload_n 0, 1) := by decide +kernel
theorem d_Md_score_1 : decode prog_7_method_13_code 1 = .ok (.aload_n 0, 1) := by decide +kernel
theorem d_Md_score_2 : decode prog_7_method_13_code 2 = .ok (.iload_n 1, 1) := by decide +kernel
theorem d_Md_score_3 : decode prog_7_method_13_code 3 = .ok (.invokevirtual 92, 3) := by decide +kernel
theorem d_Md_score_6 : decode prog_7_method_13_code 6 = .ok (.ifCond .eq 15, 3) := by decide +kernel
theorem d_Md_score_9 : decode prog_7_method_13_code 9 = .ok (.aload_n 0, 1) := by decide +kernel
theorem d_Md_score_10 : decode prog_7_method_13_code 10 = .ok (.iload_n 2, 1) := by decide +kernel
theorem d_Md_score_11 : decode prog_7_method_13_code 11 = .ok (.invokevirtual 92, 3) := by decide +kernel
theorem d_Md_score_14 : decode prog_7_method_13_code 14 = .ok (.ifCond .eq 7, 3) := by decide +kernel
theorem d_Md_score_17 : decode prog_7_method_13_code 17 = .ok (.iconst 1, 1) := by decide +kernel
theorem d_Md_score_18 : decode prog_7_method_13_code 18 = .ok (.goto 4, 3) := by decide +kernel
theorem d_Md_score_21 : decode prog_7_method_13_code 21 = .ok (.iconst 0, 1) := by decide +kernel
theorem d_Md_score_22 : decode prog_7_method_13_code 22 = .ok (.iconst 1, 1) := by decide +kernel
theorem d_Md_score_23 : decode prog_7_method_13_code 23 = .ok (.iconst 1, 1) := by decide +kernel
theorem d_Md_score_24 : decode prog_7_method_13_code 24 = .ok (.invokevirtual 88, 3) := by decide +kernel
theorem d_Md_score_27 : decode prog_7_method_13_code 27 = .ok (.ifCond .eq 12, 3) := by decide +kernel
theorem d_Md_score_30 : decode prog_7_method_13_code 30 = .ok (.aload_n 0, 1) := by decide +kernel
theorem d_Md_score_31 : decode prog_7_method_13_code 31 = .ok (.iload_n 1, 1) := by decide +kernel
theorem d_Md_score_32 : decode prog_7_method_13_code 32 = .ok (.iload_n 2, 1) := by decide +kernel
theorem d_Md_score_33 : decode prog_7_method_13_code 33 = .ok (.invokevirtual 103, 3) := by decide +kernel
theorem d_Md_score_36 : decode prog_7_method_13_code 36 = .ok (.goto 4, 3) := by decide +kernel
theorem d_Md_score_39 : decode prog_7_method_13_code 39 = .ok (.iconst 0, 1) := by decide +kernel
theorem d_Md_score_40 : decode prog_7_method_13_code 40 = .ok (.ireturn, 1) := by decide +kernel
set_option maxHeartbeats 4000000 in
set_option maxRecDepth 100000 in
theorem c_Md_score (l : Launch) (D : va_G) (cs : Nat → ClassId) (N0 : Nat) (H : Heap) (x : Nat) (g : Nat → Nat) (i : Nat → Int32) (f : Nat → Nat → Int32) (qa qb : Int32) (hsep : md_sep N0 x g) (hI : md_I D cs H x g i f) (n : Nat) (hn : i 2 = nI n) (hn24 : n ≤ 24) (mn ln : Nat → Nat) (hV : wfV f mn ln) : Met l y_Md_score w_Md_score ({ frames := 2, cells := 0, slots := 0, locals := 52 }) (hPre D cs N0 [.ref x, .int qa, .int qb] H) (hQi (fun r H' => if goB (isN n qa && isN n qb) true true = true then (∃ R : Nat → Int32, md_I D cs H' x g (upd i 0 (goV (isN n qa && isN n qb) true true)) (setA f 21 R) ∧ r = likeV f ln mn (tn qa) (tn qb)) else (md_I D cs H' x g (upd i 0 (goV (isN n qa && isN n qb) true true)) f ∧ r = 0)) (md_A x g)) 0 0 (md_A x g) := by
  refine Met.ofW (cc := prog_7_method_13_code) (maxL := 3) (ret := (Option.some Jvm.ClassFile.FieldType.int)) (by decide) rfl ?_
  intro p e s m args below meth c s₁ B hml hv
  obtain ⟨rfl, rfl, hB⟩ := hv
  have hx := B.exec
  have hb := B.bytes
  have hr := B.returns
  have hts := atoms_spec (ws := w_Md_score) B.pre
  have htg : ∀ w ∈ gw, w.before _ s = true := fun w h => hts w (List.mem_cons_of_mem _ h)
  have hown : s.vm.findClass "NameMergesModel" = some m.cls := findClass_of_methodNamed B.named
  have hlocks := B.notSynchronized
  have hK := hB.1
  have hS : va_S (md_A x g) s.heap s.heap [] := va_S.rf
  obtain ⟨H, hH⟩ : ∃ z : Heap, z = s.heap := ⟨_, rfl⟩
  rw [← hH] at hI
  have hS : va_S (md_A x g) s.heap H [] := by rw [hH]; exact va_S.rf
  have hl := lv_entry ([.ref x, .int qa, .int qb]) (n := 3) (Nat.le_of_ble_eq_true rfl)
  rw [lg_entry_eq, ← hH]
  generalize (lg_sl ([.ref x, .int qa, .int qb]) ++ List.replicate (3 - (lg_sl ([.ref x, .int qa, .int qb])).length) Slot.unset).toArray = ls at hl ⊢
  have hl : lv_has ls 3 [(0, .ref x), (1, .int qa), (2, .int qb)] := hl
  refine lv_aload_n hx hb d_Md_score_0 rfl (lv_at hl 0 rfl) ?_
  refine lv_aload_n hx hb d_Md_score_1 rfl (lv_at hl 0 rfl) ?_
  refine lv_iload_n hx hb d_Md_score_2 rfl (lv_at hl 1 rfl) ?_
  refine h_calli (va_runV (As := [.int qa]) (rest := [.ref x]) ⟨hx, hb, hml, hown, htg⟩ (c_Md_isName l D cs N0 H x g i f qa hsep hI n hn) (cwV 1 htg (gw_V (gw_mem (i := 1108) (by decide +kernel) rfl) (gw_mem (i := 1110) (by decide +kernel) rfl) (gw_mem (i := 19) (by decide +kernel) rfl) (gw_mem (i := 38) (by decide +kernel) rfl) (gw_mem (i := 1111) (by decide +kernel) rfl)) rfl rfl rfl (by decide +kernel) ⟨Nat.le_of_ble_eq_true rfl, Nat.le_of_ble_eq_true rfl⟩) ⟨hPre.blind, hx_recv hK (ci := 0) rfl hI.1, hPre.at hB hS hsep.A⟩ rfl rfl hl.1 rfl (lv_room (Nat.le_of_ble_eq_true rfl)) d_Md_score_3 ⟨Nat.zero_le _, Nat.zero_le _⟩) hS (fun _ h => h) (fun r3 H locs hp hz hk hS => ?_)
  obtain ⟨hI, er3⟩ := hp
  refine lv_eqi (y := (bI (isN n qa))) er3 ?_
  refine lv_if_eq (x := (bI (isN n qa))) (tgt := 21) hx hb d_Md_score_6 (by decide) (fun c6 => ?_) (fun c6 => ?_)
  · skip
    replace c6 : (isN n qa) = false := bI_0 c6
    refine lv_iconst (v := 0) hx hb d_Md_score_21 (by decide) ?_
    refine lv_iconst (v := 1) hx hb d_Md_score_22 (by decide) ?_
    refine lv_iconst (v := 1) hx hb d_Md_score_23 (by decide) ?_
    refine h_calli (va_runV (As := [.int 0, .int 1, .int 1]) (rest := []) ⟨hx, hb, hml, hown, htg⟩ (c_Md_goes l D cs N0 H x g i f false true true hsep hI) (cwV 3 htg (gw_V (gw_mem (i := 1092) (by decide +kernel) rfl) (gw_mem (i := 1094) (by decide +kernel) rfl) (gw_mem (i := 18) (by decide +kernel) rfl) (gw_mem (i := 38) (by decide +kernel) rfl) (gw_mem (i := 1095) (by decide +kernel) rfl)) rfl rfl rfl (by decide +kernel) ⟨Nat.le_of_ble_eq_true rfl, Nat.le_of_ble_eq_true rfl⟩) ⟨hPre.blind, hx_recv hK (ci := 0) rfl hI.1, hPre.at hB hS hsep.A⟩ rfl rfl hl.1 rfl (lv_room (Nat.le_of_ble_eq_true rfl)) d_Md_score_24 ⟨Nat.zero_le _, Nat.zero_le _⟩) hS (fun _ h => h) (fun r24 H locs hp hz hk hS => ?_)
    obtain ⟨hI, er24⟩ := hp
    replace hI : md_I D cs H x g (upd i 0 1) f := hI
    refine lv_eqi (y := 0) er24 ?_
    refine lv_if_eq (x := 0) (tgt := 39) hx hb d_Md_score_27 (by decide) (fun c27 => ?_) (fun c27 => ?_)
    · skip
      refine lv_iconst (v := 0) hx hb d_Md_score_39 (by decide) ?_
      exact W.iret (v := 0) hx hb hr (fun t ht hW => ⟨⟨0, H, rfl, by dsimp only; have e0 : (isN n qa && isN n qb) = false := (by first | (simp [c6]; done) | (simp [c6]; omega) | omega | simp_all); rw [e0]; rw [if_neg (show ¬ goB false true true = true by simp [goB])]; exact ⟨hI, rfl⟩, ht⟩, hS.F ht⟩) hS.2.2 d_Md_score_40
    · exact absurd c27 (by decide)
  · skip
    replace c6 : (isN n qa) = true := bI_1 c6
    refine lv_aload_n hx hb d_Md_score_9 rfl (lv_at hl 0 rfl) ?_
    refine lv_iload_n hx hb d_Md_score_10 rfl (lv_at hl 2 rfl) ?_
    refine h_calli (va_runV (As := [.int qb]) (rest := [.ref x]) ⟨hx, hb, hml, hown, htg⟩ (c_Md_isName l D cs N0 H x g i f qb hsep hI n hn) (cwV 1 htg (gw_V (gw_mem (i := 1108) (by decide +kernel) rfl) (gw_mem (i := 1110) (by decide +kernel) rfl) (gw_mem (i := 19) (by decide +kernel) rfl) (gw_mem (i := 38) (by decide +kernel) rfl) (gw_mem (i := 1111) (by decide +kernel) rfl)) rfl rfl rfl (by decide +kernel) ⟨Nat.le_of_ble_eq_true rfl, Nat.le_of_ble_eq_true rfl⟩) ⟨hPre.blind, hx_recv hK (ci := 0) rfl hI.1, hPre.at hB hS hsep.A⟩ rfl rfl hl.1 rfl (lv_room (Nat.le_of_ble_eq_true rfl)) d_Md_score_11 ⟨Nat.zero_le _, Nat.zero_le _⟩) hS (fun _ h => h) (fun r11 H locs hp hz hk hS => ?_)
    obtain ⟨hI, er11⟩ := hp
    refine lv_eqi (y := (bI (isN n qb))) er11 ?_
    refine lv_if_eq (x := (bI (isN n qb))) (tgt := 21) hx hb d_Md_score_14 (by decide) (fun c14 => ?_) (fun c14 => ?_)
    · skip
      replace c14 : (isN n qb) = false := bI_0 c14
      refine lv_iconst (v := 0) hx hb d_Md_score_21 (by decide) ?_
      refine lv_iconst (v := 1) hx hb d_Md_score_22 (by decide) ?_
      refine lv_iconst (v := 1) hx hb d_Md_score_23 (by decide) ?_
      refine h_calli (va_runV (As := [.int 0, .int 1, .int 1]) (rest := []) ⟨hx, hb, hml, hown, htg⟩ (c_Md_goes l D cs N0 H x g i f false true true hsep hI) (cwV 3 htg (gw_V (gw_mem (i := 1092) (by decide +kernel) rfl) (gw_mem (i := 1094) (by decide +kernel) rfl) (gw_mem (i := 18) (by decide +kernel) rfl) (gw_mem (i := 38) (by decide +kernel) rfl) (gw_mem (i := 1095) (by decide +kernel) rfl)) rfl rfl rfl (by decide +kernel) ⟨Nat.le_of_ble_eq_true rfl, Nat.le_of_ble_eq_true rfl⟩) ⟨hPre.blind, hx_recv hK (ci := 0) rfl hI.1, hPre.at hB hS hsep.A⟩ rfl rfl hl.1 rfl (lv_room (Nat.le_of_ble_eq_true rfl)) d_Md_score_24 ⟨Nat.zero_le _, Nat.zero_le _⟩) hS (fun _ h => h) (fun r24 H locs hp hz hk hS => ?_)
      obtain ⟨hI, er24⟩ := hp
      replace hI : md_I D cs H x g (upd i 0 1) f := hI
      refine lv_eqi (y := 0) er24 ?_
      refine lv_if_eq (x := 0) (tgt := 39) hx hb d_Md_score_27 (by decide) (fun c27 => ?_) (fun c27 => ?_)
      · skip
        refine lv_iconst (v := 0) hx hb d_Md_score_39 (by decide) ?_
        exact W.iret (v := 0) hx hb hr (fun t ht hW => ⟨⟨0, H, rfl, by dsimp only; have e0 : (isN n qa && isN n qb) = false := (by first | (simp [c6, c14]; done) | (simp [c6, c14]; omega) | omega | simp_all); rw [e0]; rw [if_neg (show ¬ goB false true true = true by simp [goB])]; exact ⟨hI, rfl⟩, ht⟩, hS.F ht⟩) hS.2.2 d_Md_score_40
      · exact absurd c27 (by decide)
    · skip
      replace c14 : (isN n qb) = true := bI_1 c14
      refine lv_iconst (v := 1) hx hb d_Md_score_17 (by decide) ?_
      refine lv_goto (tgt := 22) hx hb d_Md_score_18 (by decide) ?_
      refine lv_iconst (v := 1) hx hb d_Md_score_22 (by decide) ?_
      refine lv_iconst (v := 1) hx hb d_Md_score_23 (by decide) ?_
      refine h_calli (va_runV (As := [.int 1, .int 1, .int 1]) (rest := []) ⟨hx, hb, hml, hown, htg⟩ (c_Md_goes l D cs N0 H x g i f true true true hsep hI) (cwV 3 htg (gw_V (gw_mem (i := 1092) (by decide +kernel) rfl) (gw_mem (i := 1094) (by decide +kernel) rfl) (gw_mem (i := 18) (by decide +kernel) rfl) (gw_mem (i := 38) (by decide +kernel) rfl) (gw_mem (i := 1095) (by decide +kernel) rfl)) rfl rfl rfl (by decide +kernel) ⟨Nat.le_of_ble_eq_true rfl, Nat.le_of_ble_eq_true rfl⟩) ⟨hPre.blind, hx_recv hK (ci := 0) rfl hI.1, hPre.at hB hS hsep.A⟩ rfl rfl hl.1 rfl (lv_room (Nat.le_of_ble_eq_true rfl)) d_Md_score_24 ⟨Nat.zero_le _, Nat.zero_le _⟩) hS (fun _ h => h) (fun r24 H locs hp hz hk hS => ?_)
      obtain ⟨hI, er24⟩ := hp
      replace hI : md_I D cs H x g (upd i 0 0) f := hI
      refine lv_eqi (y := 1) er24 ?_
      refine lv_if_eq (x := 1) (tgt := 39) hx hb d_Md_score_27 (by decide) (fun c27 => ?_) (fun c27 => ?_)
      · exact absurd c27 (by decide)
      · skip
        obtain ⟨ha, ea⟩ := isN_n c6 (by omega)
        obtain ⟨hb1, eb⟩ := isN_n c14 (by omega)
        refine lv_aload_n hx hb d_Md_score_30 rfl (lv_at hl 0 rfl) ?_
        refine lv_iload_n hx hb d_Md_score_31 rfl (lv_at hl 1 rfl) ?_
        refine lv_eqi (y := (nI (tn qa))) ea ?_
        refine lv_iload_n hx hb d_Md_score_32 rfl (lv_at hl 2 rfl) ?_
        refine lv_eqi (y := (nI (tn qb))) eb ?_
        refine h_calli (va_runV (As := [.int (nI (tn qa)), .int (nI (tn qb))]) (rest := []) ⟨hx, hb, hml, hown, htg⟩ (c_Md_likeness l D cs N0 H x g ((upd i 0 0)) f (tn qa) (tn qb) hsep hI mn ln ((agr.rf f).wf hV) (by omega) (by omega)) (cwV 2 htg (gw_V (gw_mem (i := 1124) (by decide +kernel) rfl) (gw_mem (i := 1126) (by decide +kernel) rfl) (gw_mem (i := 20) (by decide +kernel) rfl) (gw_mem (i := 38) (by decide +kernel) rfl) (gw_mem (i := 1127) (by decide +kernel) rfl)) rfl rfl rfl (by decide +kernel) ⟨Nat.le_of_ble_eq_true rfl, Nat.le_of_ble_eq_true rfl⟩) ⟨hPre.blind, hx_recv hK (ci := 0) rfl hI.1, hPre.at hB hS hsep.A⟩ rfl rfl hl.1 rfl (lv_room (Nat.le_of_ble_eq_true rfl)) d_Md_score_33 ⟨Nat.zero_le _, Nat.zero_le _⟩) hS (fun _ h => h) (fun r33 H locs hp hz hk hS => ?_)
        obtain ⟨R, hI, er33⟩ := hp
        refine lv_eqi (y := (likeV f ln mn (tn qa) (tn qb))) (er33.trans (agr.rf f).like) ?_
        refine lv_goto (tgt := 40) hx hb d_Md_score_36 (by decide) ?_
        exact W.iret (v := (likeV f ln mn (tn qa) (tn qb))) hx hb hr (fun t ht hW => ⟨⟨(likeV f ln mn (tn qa) (tn qb)), H, rfl, by dsimp only; have e0 : (isN n qa && isN n qb) = true := (by first | (simp [c6, c14]; done) | (simp [c6, c14]; omega) | omega | simp_all); rw [e0]; rw [if_pos (show goB true true true = true from rfl)]; exact ⟨R, hI, rfl⟩, ht⟩, hS.F ht⟩) hS.2.2 d_Md_score_40
def y_Md_lost : MethodName := ⟨"NameMergesModel", "lost", "(I)Z"⟩
abbrev w_Md_lost : List Cond := Cond.code y_Md_lost prog_7_method_18_code 5 (Option.some Jvm.ClassFile.FieldType.boolean) :: gw
theorem d_Md_lost_0 : decode prog_7_method_18_code 0 = .ok (.aload_n 0, 1) := by decide +kernel
theorem d_Md_lost_1 : decode prog_7_method_18_code 1 = .ok (.iconst 0, 1) := by decide +kernel
theorem d_Md_lost_2 : decode prog_7_method_18_code 2 = .ok (.putfield 77, 3) := by decide +kernel
theorem d_Md_lost_5 : decode prog_7_method_18_code 5 = .ok (.iconst 0, 1) := by decide +kernel
theorem d_Md_lost_6 : decode prog_7_method_18_code 6 = .ok (.istore_n 2, 1) := by decide +kernel
theorem d_Md_lost_7 : decode prog_7_method_18_code 7 = .ok (.iconst 0, 1) := by decide +kernel
theorem d_Md_lost_8 : decode prog_7_method_18_code 8 = .ok (.istore_n 3, 1) := by decide +kernel
theorem d_Md_lost_9 : decode prog_7_method_18_code 9 = .ok (.iload_n 3, 1) := by decide +kernel
theorem d_Md_lost_10 : decode prog_7_method_18_code 10 = .ok (.aload_n 0, 1) := by decide +kernel
theorem d_Md_lost_11 : decode prog_7_method_18_code 11 = .ok (.getfield 81, 3) := by decide +kernel
theorem d_Md_lost_14 : decode prog_7_method_18_code 14 = .ok (.if_icmp .ge 60, 3) := by decide +kernel
theorem d_Md_lost_17 : decode prog_7_method_18_code 17 = .ok (.iload_n 3, 1) := by decide +kernel
theorem d_Md_lost_18 : decode prog_7_method_18_code 18 = .ok (.iconst 1, 1) := by decide +kernel
theorem d_Md_lost_19 : decode prog_7_method_18_code 19 = .ok (.iadd, 1) := by decide +kernel
theorem d_Md_lost_20 : decode prog_7_method_18_code 20 = .ok (.istore 4, 2) := by decide +kernel
theorem d_Md_lost_22 : decode prog_7_method_18_code 22 = .ok (.iload 4, 2) := by decide +kernel
theorem d_Md_lost_24 : decode prog_7_method_18_code 24 = .ok (.aload_n 0, 1) := by decide +kernel
theorem d_Md_lost_25 : decode prog_7_method_18_code 25 = .ok (.getfield 81, 3) := by decide +kernel
theorem d_Md_lost_28 : decode prog_7_method_18_code 28 = .ok (.if_icmp .ge 40, 3) := by decide +kernel
theorem d_Md_lost_31 : decode prog_7_method_18_code 31 = .ok (.iload_n 2, 1) := by decide +kernel
theorem d_Md_lost_32 : decode prog_7_method_18_code 32 = .ok (.ifCond .ne 24, 3) := by decide +kernel
theorem d_Md_lost_35 : decode prog_7_method_18_code 35 = .ok (.aload_n 0, 1) := by decide +kernel
theorem d_Md_lost_36 : decode prog_7_method_18_code 36 = .ok (.iload_n 3, 1) := by decide +kernel
theorem d_Md_lost_37 : decode prog_7_method_18_code 37 = .ok (.iload 4, 2) := by decide +kernel
theorem d_Md_lost_39 : decode prog_7_method_18_code 39 = .ok (.invokevirtual 116, 3) := by decide +kernel
theorem d_Md_lost_42 : decode prog_7_method_18_code 42 = .ok (.ifCond .ne 18, 3) := by decide +kernel
theorem d_Md_lost_45 : decode prog_7_method_18_code 45 = .ok (.aload_n 0, 1) := by decide +kernel
theorem d_Md_lost_46 : decode prog_7_method_18_code 46 = .ok (.iload_n 3, 1) := by decide +kernel
theorem d_Md_lost_47 : decode prog_7_method_18_code 47 = .ok (.iload 4, 2) := by decide +kernel
theorem d_Md_lost_49 : decode prog_7_method_18_code 49 = .ok (.invokevirtual 103, 3) := by decide +kernel
theorem d_Md_lost_52 : decode prog_7_method_18_code 52 = .ok (.iload_n 1, 1) := by decide +kernel
theorem d_Md_lost_53 : decode prog_7_method_18_code 53 = .ok (.if_icmp .lt 7, 3) := by decide +kernel
theorem d_Md_lost_56 : decode prog_7_method_18_code 56 = .ok (.iconst 1, 1) := by decide +kernel
theorem d_Md_lost_57 : decode prog_7_method_18_code 57 = .ok (.goto 4, 3) := by decide +kernel
theorem d_Md_lost_60 : decode prog_7_method_18_code 60 = .ok (.iconst 0, 1) := by decide +kernel
theorem d_Md_lost_61 : decode prog_7_method_18_code 61 = .ok (.istore_n 2, 1) := by decide +kernel
theorem d_Md_lost_62 : decode prog_7_method_18_code 62 = .ok (.iinc 4 1, 3) := by decide +kernel
theorem d_Md_lost_65 : decode prog_7_method_18_code 65 = .ok (.goto (-43), 3) := by decide +kernel
theorem d_Md_lost_68 : decode prog_7_method_18_code 68 = .ok (.iinc 3 1, 3) := by decide +kernel
theorem d_Md_lost_71 : decode prog_7_method_18_code 71 = .ok (.goto (-62), 3) := by decide +kernel
theorem d_Md_lost_74 : decode prog_7_method_18_code 74 = .ok (.iload_n 2, 1) := by decide +kernel
theorem d_Md_lost_75 : decode prog_7_method_18_code 75 = .ok (.ireturn, 1) := by decide +kernel
set_option maxHeartbeats 4000000 in
set_option maxRecDepth 100000 in
theorem c_Md_lost (l : Launch) (D : va_G) (cs : Nat → ClassId) (N0 : Nat) (H : Heap) (x : Nat) (g : Nat → Nat) (i : Nat → Int32) (f : Nat → Nat → Int32) (lq : Int32) (hsep : md_sep N0 x g) (hI : md_I D cs H x g i f) (n : Nat) (hn : i 2 = nI n) (hn24 : n ≤ 24) (mn ln : Nat → Nat) (hV : wfV f mn ln) : Met l y_Md_lost w_Md_lost ({ frames := 2, cells := 0, slots := 0, locals := 52 }) (hPre D cs N0 [.ref x, .int lq] H) (hQi (fun r H' => ∃ R : Nat → Int32, md_I D cs H' x g (upd i 0 0) (setA f 21 R) ∧ r = bI (losB f ln mn lq n)) (md_A x g)) 0 0 (md_A x g) := by
  refine Met.ofW (cc := prog_7_method_18_code) (maxL := 5) (ret := (Option.some Jvm.ClassFile.FieldType.boolean)) (by decide) rfl ?_
  intro p e s m args below meth c s₁ B hml hv
  obtain ⟨rfl, rfl, hB⟩ := hv
  have hx := B.exec
  have hb := B.bytes
  have hr := B.returns
  have hts := atoms_spec (ws := w_Md_lost) B.pre
  have htg : ∀ w ∈ gw, w.before _ s = true := fun w h => hts w (List.mem_cons_of_mem _ h)
  have hown : s.vm.findClass "NameMergesModel" = some m.cls := findClass_of_methodNamed B.named
  have hlocks := B.notSynchronized
  have hK := hB.1
  have hS : va_S (md_A x g) s.heap s.heap [] := va_S.rf
  obtain ⟨H, hH⟩ : ∃ z : Heap, z = s.heap := ⟨_, rfl⟩
  rw [← hH] at hI
  have hS : va_S (md_A x g) s.heap H [] := by rw [hH]; exact va_S.rf
  have hl := lv_entry ([.ref x, .int lq]) (n := 5) (Nat.le_of_ble_eq_true rfl)
  rw [lg_entry_eq, ← hH]
  generalize (lg_sl ([.ref x, .int lq]) ++ List.replicate (5 - (lg_sl ([.ref x, .int lq])).length) Slot.unset).toArray = ls at hl ⊢
  have hl : lv_has ls 5 [(0, .ref x), (1, .int lq)] := hl
  refine lv_aload_n hx hb d_Md_lost_0 rfl (lv_at hl 0 rfl) ?_
  refine lv_iconst (v := 0) hx hb d_Md_lost_1 (by decide) ?_
  refine hx_put (ty := .int) (v := .int 0) hx hb htg iMd tMd tMd_ok nMd hown hK hI.1 hS (Or.inl rfl) rfl 0 (by decide) (htg _ (gw_mem (i := 998) (by decide +kernel) rfl)) (fun _ h9 => h9) rfl (by decide +kernel) rfl rfl (Nat.le_of_ble_eq_true rfl) d_Md_lost_2 (fun H locs hat hz ho hS => ?_)
  replace hI : md_I D cs H x g (upd i 0 (0)) f := md_I.puti hI hsep hat ho rfl
  refine lv_iconst (v := 0) hx hb d_Md_lost_5 (by decide) ?_
  refine lv_istore_n (lv' := [(2, .int 0), (0, .ref x), (1, .int lq)]) hx hb d_Md_lost_6 rfl hl (by decide) rfl (fun ls hl => ?_)
  refine lv_iconst (v := 0) hx hb d_Md_lost_7 (by decide) ?_
  refine lv_istore_n (lv' := [(3, .int 0), (2, .int 0), (0, .ref x), (1, .int lq)]) hx hb d_Md_lost_8 rfl hl (by decide) rfl (fun ls hl => ?_)
  have loop9 : ∀ (fuel : Nat) (F2 : Nat → Nat → Int32) (z0 : Bool) (a : Nat), n - a < fuel → (a ≤ n) → (∀ q, q ≠ 21 → F2 q = f q) → (anyTo (fun a => anyTo (lowP a (losP f ln mn lq a)) n) a = z0) → ∀ (H : Heap) (locs : List Loc), md_I D cs H x g (upd i 0 (0)) F2 → va_S (md_A x g) s.heap H locs → ∀ (ls : Array Slot), lv_has ls 5 [(0, .ref x), (1, .int lq), (2, .int (bI z0)), (3, .int (nI a))] → W p l e (headSpec w_Md_lost ({ frames := 2, cells := 0, slots := 0, locals := 52 })).room s m ([.ref x, .int lq] : List Value).toArray below meth c H locs 0 0 (MQ below (hQi (fun r H' => ∃ R : Nat → Int32, md_I D cs H' x g (upd i 0 0) (setA f 21 R) ∧ r = bI (losB f ln mn lq n)) (md_A x g)) ([.ref x, .int lq] : List Value).toArray s 0 0 (md_A x g)) (F0 m 9 ls []) := by
    intro fuel9
    induction fuel9 with
    | zero => intro F2 z0 a hn; exact absurd hn (Nat.not_lt_zero _)
    | succ fuel9 ih9 =>
      intro F2 z0 a hn9 ha hF2 hz0 H locs hI hS ls hl
      refine lv_iload_n hx hb d_Md_lost_9 rfl (lv_at hl 3 rfl) ?_
      refine lv_aload_n hx hb d_Md_lost_10 rfl (lv_at hl 0 rfl) ?_
      refine hx_get (v := .int (i 2)) hx hb htg iMd hown hK hI.1 rfl 3 (by decide) (htg _ (gw_mem (i := 1001) (by decide +kernel) rfl)) (fun _ h9 => h9) rfl d_Md_lost_11 ?_
      refine lv_eqi (y := (nI n)) hn ?_
      refine lv_icmp_ge (x := (nI a)) (y := (nI n)) (tgt := 74) hx hb d_Md_lost_14 (by decide) (fun c14 => ?_) (fun c14 => ?_)
      · skip
        replace c14 : n ≤ a := (nI_leI (a := n) (b := a) (by omega) (by omega)).mp c14
        refine lv_iload_n hx hb d_Md_lost_74 rfl (lv_at hl 2 rfl) ?_
        exact W.zret (v := (bI z0)) hx hb hr (bI_z _) (fun t ht hW => ⟨⟨(bI z0), H, rfl, ⟨F2 21, setA_of hF2 ▸ hI, by have e9 : a = n := (by omega); subst e9; rw [losB, hz0]⟩, ht⟩, hS.F ht⟩) hS.2.2 d_Md_lost_75
      · skip
        replace c14 : ¬ (n ≤ a) := fun z9 => c14 ((nI_leI (a := n) (b := a) (by omega) (by omega)).mpr z9)
        refine lv_iload_n hx hb d_Md_lost_17 rfl (lv_at hl 3 rfl) ?_
        refine lv_iconst (v := 1) hx hb d_Md_lost_18 (by decide) ?_
        refine lv_iadd (x := (nI a)) (y := 1) hx hb d_Md_lost_19 ?_
        refine lv_eqi (y := (nI (a + 1))) (nI_add a 1) ?_
        refine lv_istore (lv' := [(4, .int (nI (a + 1))), (0, .ref x), (1, .int lq), (2, .int (bI z0)), (3, .int (nI a))]) hx hb d_Md_lost_20 hl (by decide) rfl (fun ls hl => ?_)
        have loop22 : ∀ (fuel : Nat) (F3 : Nat → Nat → Int32) (z : Bool) (b : Nat), n - b < fuel → (b ≤ n) → (a < b) → (∀ q, q ≠ 21 → F3 q = f q) → ((z0 || anyTo (lowP a (losP f ln mn lq a)) b) = z) → ∀ (H : Heap) (locs : List Loc), md_I D cs H x g (upd i 0 (0)) F3 → va_S (md_A x g) s.heap H locs → ∀ (ls : Array Slot), lv_has ls 5 [(0, .ref x), (1, .int lq), (2, .int (bI z)), (3, .int (nI a)), (4, .int (nI b))] → W p l e (headSpec w_Md_lost ({ frames := 2, cells := 0, slots := 0, locals := 52 })).room s m ([.ref x, .int lq] : List Value).toArray below meth c H locs 0 0 (MQ below (hQi (fun r H' => ∃ R : Nat → Int32, md_I D cs H' x g (upd i 0 0) (setA f 21 R) ∧ r = bI (losB f ln mn lq n)) (md_A x g)) ([.ref x, .int lq] : List Value).toArray s 0 0 (md_A x g)) (F0 m 22 ls []) := by
          intro fuel22
          induction fuel22 with
          | zero => intro F3 z b hn; exact absurd hn (Nat.not_lt_zero _)
          | succ fuel22 ih22 =>
            intro F3 z b hn22 hb9 hab hF3 hz9 H locs hI hS ls hl
            refine lv_iload hx hb d_Md_lost_22 (lv_at hl 4 rfl) ?_
            refine lv_aload_n hx hb d_Md_lost_24 rfl (lv_at hl 0 rfl) ?_
            refine hx_get (v := .int (i 2)) hx hb htg iMd hown hK hI.1 rfl 3 (by decide) (htg _ (gw_mem (i := 1001) (by decide +kernel) rfl)) (fun _ h9 => h9) rfl d_Md_lost_25 ?_
            refine lv_eqi (y := (nI n)) hn ?_
            refine lv_icmp_ge (x := (nI b)) (y := (nI n)) (tgt := 68) hx hb d_Md_lost_28 (by decide) (fun c28 => ?_) (fun c28 => ?_)
            · skip
              replace c28 : n ≤ b := (nI_leI (a := n) (b := b) (by omega) (by omega)).mp c28
              refine lv_iinc (v := (nI (a + 1))) (lv' := [(3, .int (nI (a + 1))), (0, .ref x), (1, .int lq), (2, .int (bI z)), (4, .int (nI b))]) hx hb d_Md_lost_68 hl (k := 3) rfl (nI_1 a) (by decide) rfl (fun ls hl => ?_)
              refine lv_goto (tgt := 9) hx hb d_Md_lost_71 (by decide) ?_
              exact ih9  _ z (a + 1) (by omega) (by omega) hF3 (by rw [anyTo, hz0]; have e9 : b = n := (by omega); subst e9; exact hz9) _ _ hI hS ls (lv_sub hl [1, 2, 3, 0] rfl)
            · skip
              replace c28 : ¬ (n ≤ b) := fun z9 => c28 ((nI_leI (a := n) (b := b) (by omega) (by omega)).mpr z9)
              refine lv_iload_n hx hb d_Md_lost_31 rfl (lv_at hl 2 rfl) ?_
              refine lv_if_ne (x := (bI z)) (tgt := 56) hx hb d_Md_lost_32 (by decide) (fun c32 => ?_) (fun c32 => ?_)
              · skip
                replace c32 : z = true := bI_1 c32
                refine lv_iconst (v := 1) hx hb d_Md_lost_56 (by decide) ?_
                refine lv_goto (tgt := 61) hx hb d_Md_lost_57 (by decide) ?_
                refine lv_istore_n (lv' := [(2, .int 1), (0, .ref x), (1, .int lq), (3, .int (nI a)), (4, .int (nI b))]) hx hb d_Md_lost_61 rfl hl (by decide) rfl (fun ls hl => ?_)
                refine lv_iinc (v := (nI (b + 1))) (lv' := [(4, .int (nI (b + 1))), (2, .int 1), (0, .ref x), (1, .int lq), (3, .int (nI a))]) hx hb d_Md_lost_62 hl (k := 4) rfl (nI_1 b) (by decide) rfl (fun ls hl => ?_)
                refine lv_goto (tgt := 22) hx hb d_Md_lost_65 (by decide) ?_
                exact ih22  _ true (b + 1) (by omega) (by omega) (by omega) hF3 (by rw [anyTo, ← Bool.or_assoc, hz9]; simp [lowP, losP, hab, c32]) _ _ hI hS ls (lv_sub hl [2, 3, 1, 4, 0] rfl)
              · skip
                replace c32 : z = false := bI_0 c32
                refine lv_aload_n hx hb d_Md_lost_35 rfl (lv_at hl 0 rfl) ?_
                refine lv_iload_n hx hb d_Md_lost_36 rfl (lv_at hl 3 rfl) ?_
                refine lv_iload hx hb d_Md_lost_37 (lv_at hl 4 rfl) ?_
                refine h_calli (va_runV (As := [.int (nI a), .int (nI b)]) (rest := []) ⟨hx, hb, hml, hown, htg⟩ (c_Md_begin l D cs N0 H x g ((upd i 0 (0))) F3 a b hsep hI mn ((agr.of21 hF3).wf hV).1 (by omega) (by omega)) (cwV 2 htg (gw_V (gw_mem (i := 1148) (by decide +kernel) rfl) (gw_mem (i := 1150) (by decide +kernel) rfl) (gw_mem (i := 23) (by decide +kernel) rfl) (gw_mem (i := 38) (by decide +kernel) rfl) (gw_mem (i := 1151) (by decide +kernel) rfl)) rfl rfl rfl (by decide +kernel) ⟨Nat.le_of_ble_eq_true rfl, Nat.le_of_ble_eq_true rfl⟩) ⟨hPre.blind, hx_recv hK (ci := 0) rfl hI.1, hPre.at hB hS hsep.A⟩ rfl rfl hl.1 rfl (lv_room (Nat.le_of_ble_eq_true rfl)) d_Md_lost_39 ⟨Nat.zero_le _, Nat.zero_le _⟩) hS (fun _ h => h) (fun r39 H locs hp hz hk hS => ?_)
                obtain ⟨hI, er39⟩ := hp
                refine lv_eqi (y := (bI (begB f mn a b))) (er39.trans (by rw [(agr.of21 hF3).beg])) ?_
                refine lv_if_ne (x := (bI (begB f mn a b))) (tgt := 60) hx hb d_Md_lost_42 (by decide) (fun c42 => ?_) (fun c42 => ?_)
                · skip
                  replace c42 : (begB f mn a b) = true := bI_1 c42
                  refine lv_iconst (v := 0) hx hb d_Md_lost_60 (by decide) ?_
                  refine lv_istore_n (lv' := [(2, .int 0), (0, .ref x), (1, .int lq), (3, .int (nI a)), (4, .int (nI b))]) hx hb d_Md_lost_61 rfl hl (by decide) rfl (fun ls hl => ?_)
                  refine lv_iinc (v := (nI (b + 1))) (lv' := [(4, .int (nI (b + 1))), (2, .int 0), (0, .ref x), (1, .int lq), (3, .int (nI a))]) hx hb d_Md_lost_62 hl (k := 4) rfl (nI_1 b) (by decide) rfl (fun ls hl => ?_)
                  refine lv_goto (tgt := 22) hx hb d_Md_lost_65 (by decide) ?_
                  exact ih22  _ false (b + 1) (by omega) (by omega) (by omega) hF3 (by rw [anyTo, ← Bool.or_assoc, hz9]; simp [lowP, losP, hab, c32, c42]) _ _ hI hS ls (lv_sub hl [2, 3, 1, 4, 0] rfl)
                · skip
                  replace c42 : (begB f mn a b) = false := bI_0 c42
                  refine lv_aload_n hx hb d_Md_lost_45 rfl (lv_at hl 0 rfl) ?_
                  refine lv_iload_n hx hb d_Md_lost_46 rfl (lv_at hl 3 rfl) ?_
                  refine lv_iload hx hb d_Md_lost_47 (lv_at hl 4 rfl) ?_
                  refine h_calli (va_runV (As := [.int (nI a), .int (nI b)]) (rest := []) ⟨hx, hb, hml, hown, htg⟩ (c_Md_likeness l D cs N0 H x g ((upd i 0 (0))) F3 a b hsep hI mn ln ((agr.of21 hF3).wf hV) (by omega) (by omega)) (cwV 2 htg (gw_V (gw_mem (i := 1124) (by decide +kernel) rfl) (gw_mem (i := 1126) (by decide +kernel) rfl) (gw_mem (i := 20) (by decide +kernel) rfl) (gw_mem (i := 38) (by decide +kernel) rfl) (gw_mem (i := 1127) (by decide +kernel) rfl)) rfl rfl rfl (by decide +kernel) ⟨Nat.le_of_ble_eq_true rfl, Nat.le_of_ble_eq_true rfl⟩) ⟨hPre.blind, hx_recv hK (ci := 0) rfl hI.1, hPre.at hB hS hsep.A⟩ rfl rfl hl.1 rfl (lv_room (Nat.le_of_ble_eq_true rfl)) d_Md_lost_49 ⟨Nat.zero_le _, Nat.zero_le _⟩) hS (fun _ h => h) (fun r49 H locs hp hz hk hS => ?_)
                  obtain ⟨R, hI, er49⟩ := hp
                  refine lv_eqi (y := (likeV f ln mn a b)) (er49.trans (agr.of21 hF3).like) ?_
                  refine lv_iload_n hx hb d_Md_lost_52 rfl (lv_at hl 1 rfl) ?_
                  refine lv_icmp_lt (x := (likeV f ln mn a b)) (y := lq) (tgt := 60) hx hb d_Md_lost_53 (by decide) (fun c53 => ?_) (fun c53 => ?_)
                  · skip
                    refine lv_iconst (v := 0) hx hb d_Md_lost_60 (by decide) ?_
                    refine lv_istore_n (lv' := [(2, .int 0), (0, .ref x), (1, .int lq), (3, .int (nI a)), (4, .int (nI b))]) hx hb d_Md_lost_61 rfl hl (by decide) rfl (fun ls hl => ?_)
                    refine lv_iinc (v := (nI (b + 1))) (lv' := [(4, .int (nI (b + 1))), (2, .int 0), (0, .ref x), (1, .int lq), (3, .int (nI a))]) hx hb d_Md_lost_62 hl (k := 4) rfl (nI_1 b) (by decide) rfl (fun ls hl => ?_)
                    refine lv_goto (tgt := 22) hx hb d_Md_lost_65 (by decide) ?_
                    exact ih22  _ false (b + 1) (by omega) (by omega) (by omega) (fun q hq => (setA_ne hq).trans (hF3 q hq)) (by rw [anyTo, ← Bool.or_assoc, hz9]; simp [lowP, losP, hab, c32, c42, c53]) _ _ hI hS ls (lv_sub hl [2, 3, 1, 4, 0] rfl)
                  · skip
                    refine lv_iconst (v := 1) hx hb d_Md_lost_56 (by decide) ?_
                    refine lv_goto (tgt := 61) hx hb d_Md_lost_57 (by decide) ?_
                    refine lv_istore_n (lv' := [(2, .int 1), (0, .ref x), (1, .int lq), (3, .int (nI a)), (4, .int (nI b))]) hx hb d_Md_lost_61 rfl hl (by decide) rfl (fun ls hl => ?_)
                    refine lv_iinc (v := (nI (b + 1))) (lv' := [(4, .int (nI (b + 1))), (2, .int 1), (0, .ref x), (1, .int lq), (3, .int (nI a))]) hx hb d_Md_lost_62 hl (k := 4) rfl (nI_1 b) (by decide) rfl (fun ls hl => ?_)
                    refine lv_goto (tgt := 22) hx hb d_Md_lost_65 (by decide) ?_
                    exact ih22  _ true (b + 1) (by omega) (by omega) (by omega) (fun q hq => (setA_ne hq).trans (hF3 q hq)) (by rw [anyTo, ← Bool.or_assoc, hz9]; simp [lowP, losP, hab, c32, c42, c53]) _ _ hI hS ls (lv_sub hl [2, 3, 1, 4, 0] rfl)
        exact loop22 ((n - (a + 1)) + 1) _ z0 (a + 1) (Nat.lt_succ_self _) (by omega) (by omega) hF2 (by rw [any_low _ _ _ (Nat.le_refl _)]; simp) _ _ hI hS ls (lv_sub hl [1, 2, 3, 4, 0] rfl)
  exact loop9 ((n - 0) + 1) f false 0 (Nat.lt_succ_self _) (Nat.zero_le _) (fun _ _ => rfl) rfl _ _ hI hS ls (lv_sub hl [2, 3, 1, 0] rfl)
theorem updA_setA3 {f : Nat → Nat → Int32} {k j : Nat} {R : Nat → Int32} {v : Int32} : updA (setA f k R) k j v = setA f k (upd R j v) := by
  funext a
  by_cases e : a = k
  · subst e; rw [updA_self, setA_self, setA_self]
  · rw [updA_ne e, setA_ne e, setA_ne e]
def y_Md_variant : MethodName := ⟨"NameMergesModel", "variant", "(IIII)I"⟩
abbrev w_Md_variant : List Cond := Cond.code y_Md_variant prog_7_method_9_code 8 (Option.some Jvm.ClassFile.FieldType.int) :: gw
theorem d_Md_variant_0 : decode prog_7_method_9_code 0 = .ok (.aload_n 0, 1) := by decide +kernel
theorem d_Md_variant_1 : decode prog_7_method_9_code 1 = .ok (.iload_n 1, 1) := by decide +kernel
theorem d_Md_variant_2 : decode prog_7_method_9_code 2 = .ok (.invokevirtual 92, 3) := by decide +kernel
theorem d_Md_variant_5 : decode prog_7_method_9_code 5 = .ok (.istore 5, 2) := by decide +kernel
theorem d_Md_variant_7 : decode prog_7_method_9_code 7 = .ok (.aload_n 0, 1) := by decide +kernel
theorem d_Md_variant_8 : decode prog_7_method_9_code 8 = .ok (.iload 5, 2) := by decide +kernel
theorem d_Md_variant_10 : decode prog_7_method_9_code 10 = .ok (.iload 5, 2) := by decide +kernel
theorem d_Md_variant_12 : decode prog_7_method_9_code 12 = .ok (.ifCond .eq 24, 3) := by decide +kernel
theorem d_Md_variant_15 : decode prog_7_method_9_code 15 = .ok (.aload_n 0, 1) := by decide +kernel
theorem d_Md_variant_16 : decode prog_7_method_9_code 16 = .ok (.getfield 13, 3) := by decide +kernel
theorem d_Md_variant_19 : decode prog_7_method_9_code 19 = .ok (.iload_n 1, 1) := by decide +kernel
theorem d_Md_variant_20 : decode prog_7_method_9_code 20 = .ok (.iaload, 1) := by decide +kernel
theorem d_Md_variant_21 : decode prog_7_method_9_code 21 = .ok (.iconst 4, 1) := by decide +kernel
theorem d_Md_variant_22 : decode prog_7_method_9_code 22 = .ok (.if_icmp .ge 14, 3) := by decide +kernel
theorem d_Md_variant_25 : decode prog_7_method_9_code 25 = .ok (.aload_n 0, 1) := by decide +kernel
theorem d_Md_variant_26 : decode prog_7_method_9_code 26 = .ok (.getfield 85, 3) := by decide +kernel
theorem d_Md_variant_29 : decode prog_7_method_9_code 29 = .ok (.ifCond .le 7, 3) := by decide +kernel
theorem d_Md_variant_32 : decode prog_7_method_9_code 32 = .ok (.iconst 1, 1) := by decide +kernel
theorem d_Md_variant_33 : decode prog_7_method_9_code 33 = .ok (.goto 4, 3) := by decide +kernel
theorem d_Md_variant_36 : decode prog_7_method_9_code 36 = .ok (.iconst 0, 1) := by decide +kernel
theorem d_Md_variant_37 : decode prog_7_method_9_code 37 = .ok (.iload_n 2, 1) := by decide +kernel
theorem d_Md_variant_38 : decode prog_7_method_9_code 38 = .ok (.ifCond .lt 33, 3) := by decide +kernel
theorem d_Md_variant_41 : decode prog_7_method_9_code 41 = .ok (.iload_n 2, 1) := by decide +kernel
theorem d_Md_variant_42 : decode prog_7_method_9_code 42 = .ok (.iconst 5, 1) := by decide +kernel
theorem d_Md_variant_43 : decode prog_7_method_9_code 43 = .ok (.if_icmp .gt 28, 3) := by decide +kernel
theorem d_Md_variant_46 : decode prog_7_method_9_code 46 = .ok (.iload_n 3, 1) := by decide +kernel
theorem d_Md_variant_47 : decode prog_7_method_9_code 47 = .ok (.invokestatic 96, 3) := by decide +kernel
theorem d_Md_variant_50 : decode prog_7_method_9_code 50 = .ok (.ifCond .eq 21, 3) := by decide +kernel
theorem d_Md_variant_53 : decode prog_7_method_9_code 53 = .ok (.iload 4, 2) := by decide +kernel
theorem d_Md_variant_55 : decode prog_7_method_9_code 55 = .ok (.invokestatic 96, 3) := by decide +kernel
theorem d_Md_variant_58 : decode prog_7_method_9_code 58 = .ok (.ifCond .eq 13, 3) := by decide +kernel
theorem d_Md_variant_61 : decode prog_7_method_9_code 61 = .ok (.iload_n 3, 1) := by decide +kernel
theorem d_Md_variant_62 : decode prog_7_method_9_code 62 = .ok (.iload 4, 2) := by decide +kernel
theorem d_Md_variant_64 : decode prog_7_method_9_code 64 = .ok (.if_icmp .gt 7, 3) := by decide +kernel
theorem d_Md_variant_67 : decode prog_7_method_9_code 67 = .ok (.iconst 1, 1) := by decide +kernel
theorem d_Md_variant_68 : decode prog_7_method_9_code 68 = .ok (.goto 4, 3) := by decide +kernel
theorem d_Md_variant_71 : decode prog_7_method_9_code 71 = .ok (.iconst 0, 1) := by decide +kernel
theorem d_Md_variant_72 : decode prog_7_method_9_code 72 = .ok (.invokevirtual 88, 3) := by decide +kernel
theorem d_Md_variant_75 : decode prog_7_method_9_code 75 = .ok (.ifCond .ne 5, 3) := by decide +kernel
theorem d_Md_variant_78 : decode prog_7_method_9_code 78 = .ok (.iconst 0, 1) := by decide +kernel
theorem d_Md_variant_79 : decode prog_7_method_9_code 79 = .ok (.ireturn, 1) := by decide +kernel
theorem d_Md_variant_80 : decode prog_7_method_9_code 80 = .ok (.iconst 4, 1) := by decide +kernel
theorem d_Md_variant_81 : decode prog_7_method_9_code 81 = .ok (.iload_n 1, 1) := by decide +kernel
theorem d_Md_variant_82 : decode prog_7_method_9_code 82 = .ok (.imul, 1) := by decide +kernel
theorem d_Md_variant_83 : decode prog_7_method_9_code 83 = .ok (.aload_n 0, 1) := by decide +kernel
theorem d_Md_variant_84 : decode prog_7_method_9_code 84 = .ok (.getfield 13, 3) := by decide +kernel
theorem d_Md_variant_87 : decode prog_7_method_9_code 87 = .ok (.iload_n 1, 1) := by decide +kernel
theorem d_Md_variant_88 : decode prog_7_method_9_code 88 = .ok (.iaload, 1) := by decide +kernel
theorem d_Md_variant_89 : decode prog_7_method_9_code 89 = .ok (.iadd, 1) := by decide +kernel
theorem d_Md_variant_90 : decode prog_7_method_9_code 90 = .ok (.istore 6, 2) := by decide +kernel
theorem d_Md_variant_92 : decode prog_7_method_9_code 92 = .ok (.aload_n 0, 1) := by decide +kernel
theorem d_Md_variant_93 : decode prog_7_method_9_code 93 = .ok (.getfield 16, 3) := by decide +kernel
theorem d_Md_variant_96 : decode prog_7_method_9_code 96 = .ok (.iload 6, 2) := by decide +kernel
theorem d_Md_variant_98 : decode prog_7_method_9_code 98 = .ok (.aload_n 0, 1) := by decide +kernel
theorem d_Md_variant_99 : decode prog_7_method_9_code 99 = .ok (.getfield 85, 3) := by decide +kernel
theorem d_Md_variant_102 : decode prog_7_method_9_code 102 = .ok (.iastore, 1) := by decide +kernel
theorem d_Md_variant_103 : decode prog_7_method_9_code 103 = .ok (.iconst 0, 1) := by decide +kernel
theorem d_Md_variant_104 : decode prog_7_method_9_code 104 = .ok (.istore 7, 2) := by decide +kernel
theorem d_Md_variant_106 : decode prog_7_method_9_code 106 = .ok (.iload 7, 2) := by decide +kernel
theorem d_Md_variant_108 : decode prog_7_method_9_code 108 = .ok (.aload_n 0, 1) := by decide +kernel
theorem d_Md_variant_109 : decode prog_7_method_9_code 109 = .ok (.getfield 85, 3) := by decide +kernel
theorem d_Md_variant_112 : decode prog_7_method_9_code 112 = .ok (.if_icmp .ge 29, 3) := by decide +kernel
theorem d_Md_variant_115 : decode prog_7_method_9_code 115 = .ok (.aload_n 0, 1) := by decide +kernel
theorem d_Md_variant_116 : decode prog_7_method_9_code 116 = .ok (.getfield 19, 3) := by decide +kernel
theorem d_Md_variant_119 : decode prog_7_method_9_code 119 = .ok (.bipush 12, 2) := by decide +kernel
theorem d_Md_variant_121 : decode prog_7_method_9_code 121 = .ok (.iload 6, 2) := by decide +kernel
theorem d_Md_variant_123 : decode prog_7_method_9_code 123 = .ok (.imul, 1) := by decide +kernel
theorem d_Md_variant_124 : decode prog_7_method_9_code 124 = .ok (.iload 7, 2) := by decide +kernel
theorem d_Md_variant_126 : decode prog_7_method_9_code 126 = .ok (.iadd, 1) := by decide +kernel
theorem d_Md_variant_127 : decode prog_7_method_9_code 127 = .ok (.aload_n 0, 1) := by decide +kernel
theorem d_Md_variant_128 : decode prog_7_method_9_code 128 = .ok (.getfield 7, 3) := by decide +kernel
theorem d_Md_variant_131 : decode prog_7_method_9_code 131 = .ok (.iload 7, 2) := by decide +kernel
theorem d_Md_variant_133 : decode prog_7_method_9_code 133 = .ok (.iaload, 1) := by decide +kernel
theorem d_Md_variant_134 : decode prog_7_method_9_code 134 = .ok (.iastore, 1) := by decide +kernel
theorem d_Md_variant_135 : decode prog_7_method_9_code 135 = .ok (.iinc 7 1, 3) := by decide +kernel
theorem d_Md_variant_138 : decode prog_7_method_9_code 138 = .ok (.goto (-32), 3) := by decide +kernel
theorem d_Md_variant_141 : decode prog_7_method_9_code 141 = .ok (.aload_n 0, 1) := by decide +kernel
theorem d_Md_variant_142 : decode prog_7_method_9_code 142 = .ok (.getfield 22, 3) := by decide +kernel
theorem d_Md_variant_145 : decode prog_7_method_9_code 145 = .ok (.iload 6, 2) := by decide +kernel
theorem d_Md_variant_147 : decode prog_7_method_9_code 147 = .ok (.iload_n 2, 1) := by decide +kernel
theorem d_Md_variant_148 : decode prog_7_method_9_code 148 = .ok (.iastore, 1) := by decide +kernel
theorem d_Md_variant_149 : decode prog_7_method_9_code 149 = .ok (.aload_n 0, 1) := by decide +kernel
theorem d_Md_variant_150 : decode prog_7_method_9_code 150 = .ok (.getfield 25, 3) := by decide +kernel
theorem d_Md_variant_153 : decode prog_7_method_9_code 153 = .ok (.iload 6, 2) := by decide +kernel
theorem d_Md_variant_155 : decode prog_7_method_9_code 155 = .ok (.iload_n 3, 1) := by decide +kernel
theorem d_Md_variant_156 : decode prog_7_method_9_code 156 = .ok (.iastore, 1) := by decide +kernel
theorem d_Md_variant_157 : decode prog_7_method_9_code 157 = .ok (.aload_n 0, 1) := by decide +kernel
theorem d_Md_variant_158 : decode prog_7_method_9_code 158 = .ok (.getfield 28, 3) := by decide +kernel
theorem d_Md_variant_161 : decode prog_7_method_9_code 161 = .ok (.iload 6, 2) := by decide +kernel
theorem d_Md_variant_163 : decode prog_7_method_9_code 163 = .ok (.iload 4, 2) := by decide +kernel
theorem d_Md_variant_165 : decode prog_7_method_9_code 165 = .ok (.iastore, 1) := by decide +kernel
theorem d_Md_variant_166 : decode prog_7_method_9_code 166 = .ok (.aload_n 0, 1) := by decide +kernel
theorem d_Md_variant_167 : decode prog_7_method_9_code 167 = .ok (.getfield 13, 3) := by decide +kernel
theorem d_Md_variant_170 : decode prog_7_method_9_code 170 = .ok (.iload_n 1, 1) := by decide +kernel
theorem d_Md_variant_171 : decode prog_7_method_9_code 171 = .ok (.dup2, 1) := by decide +kernel
theorem d_Md_variant_172 : decode prog_7_method_9_code 172 = .ok (.iaload, 1) := by decide +kernel
theorem d_Md_variant_173 : decode prog_7_method_9_code 173 = .ok (.iconst 1, 1) := by decide +kernel
theorem d_Md_variant_174 : decode prog_7_method_9_code 174 = .ok (.iadd, 1) := by decide +kernel
theorem d_Md_variant_175 : decode prog_7_method_9_code 175 = .ok (.iastore, 1) := by decide +kernel
theorem d_Md_variant_176 : decode prog_7_method_9_code 176 = .ok (.aload_n 0, 1) := by decide +kernel
theorem d_Md_variant_177 : decode prog_7_method_9_code 177 = .ok (.iconst 0, 1) := by decide +kernel
theorem d_Md_variant_178 : decode prog_7_method_9_code 178 = .ok (.putfield 85, 3) := by decide +kernel
theorem d_Md_variant_181 : decode prog_7_method_9_code 181 = .ok (.aload_n 0, 1) := by decide +kernel
theorem d_Md_variant_182 : decode prog_7_method_9_code 182 = .ok (.getfield 13, 3) := by decide +kernel
theorem d_Md_variant_185 : decode prog_7_method_9_code 185 = .ok (.iload_n 1, 1) := by decide +kernel
theorem d_Md_variant_186 : decode prog_7_method_9_code 186 = .ok (.iaload, 1) := by decide +kernel
theorem d_Md_variant_187 : decode prog_7_method_9_code 187 = .ok (.ireturn, 1) := by decide +kernel
set_option maxHeartbeats 4000000 in
set_option maxRecDepth 100000 in
theorem c_Md_variant (l : Launch) (D : va_G) (cs : Nat → ClassId) (N0 : Nat) (H : Heap) (x : Nat) (g : Nat → Nat) (i : Nat → Int32) (f : Nat → Nat → Int32) (q lg fr to : Int32) (hsep : md_sep N0 x g) (hI : md_I D cs H x g i f) (n : Nat) (hn : i 2 = nI n) (hn24 : n ≤ 24) (pn : Nat) (hpn : i 1 = nI pn) (hp12 : pn ≤ 12) (mn : Nat → Nat) (hm : ∀ a, a < 24 → f 1 a = nI (mn a) ∧ mn a ≤ 4) : Met l y_Md_variant w_Md_variant ({ frames := 1, cells := 0, slots := 0, locals := 23 }) (hPre D cs N0 [.ref x, .int q, .int lg, .int fr, .int to] H) (hQi (fun r H' => if goB (isN n q) (isN n q && !decide (4 ≤ mn (tn q)) && !decide (pn ≤ 0)) (!decide (lg < 0) && !decide (5 < lg) && isD fr && isD to && !decide (to < fr)) = true then (∃ S3 : Nat → Int32, md_I D cs H' x g (upd (upd i 0 (goV (isN n q) (isN n q && !decide (4 ≤ mn (tn q)) && !decide (pn ≤ 0)) (!decide (lg < 0) && !decide (5 < lg) && isD fr && isD to && !decide (to < fr)))) 1 0) (updA (updA (updA (updA (setA (updA f 2 (4 * tn q + mn (tn q)) (nI pn)) 3 S3) 4 (4 * tn q + mn (tn q)) lg) 5 (4 * tn q + mn (tn q)) fr) 6 (4 * tn q + mn (tn q)) to) 1 (tn q) (nI (mn (tn q) + 1))) ∧ (∀ j, j < pn → S3 (12 * (4 * tn q + mn (tn q)) + j) = f 0 j) ∧ (∀ j, (j < 12 * (4 * tn q + mn (tn q)) ∨ 12 * (4 * tn q + mn (tn q)) + pn ≤ j) → S3 j = f 3 j) ∧ r = nI (mn (tn q) + 1)) else (md_I D cs H' x g (upd i 0 (goV (isN n q) (isN n q && !decide (4 ≤ mn (tn q)) && !decide (pn ≤ 0)) (!decide (lg < 0) && !decide (5 < lg) && isD fr && isD to && !decide (to < fr)))) f ∧ r = 0)) (md_A x g)) 0 0 (md_A x g) := by
  refine Met.ofW (cc := prog_7_method_9_code) (maxL := 8) (ret := (Option.some Jvm.ClassFile.FieldType.int)) (by decide) rfl ?_
  intro p e s m args below meth c s₁ B hml hv
  obtain ⟨rfl, rfl, hB⟩ := hv
  have hx := B.exec
  have hb := B.bytes
  have hr := B.returns
  have hts := atoms_spec (ws := w_Md_variant) B.pre
  have htg : ∀ w ∈ gw, w.before _ s = true := fun w h => hts w (List.mem_cons_of_mem _ h)
  have hown : s.vm.findClass "NameMergesModel" = some m.cls := findClass_of_methodNamed B.named
  have hlocks := B.notSynchronized
  have hK := hB.1
  have hS : va_S (md_A x g) s.heap s.heap [] := va_S.rf
  obtain ⟨H, hH⟩ : ∃ z : Heap, z = s.heap := ⟨_, rfl⟩
  rw [← hH] at hI
  have hS : va_S (md_A x g) s.heap H [] := by rw [hH]; exact va_S.rf
  have hl := lv_entry ([.ref x, .int q, .int lg, .int fr, .int to]) (n := 8) (Nat.le_of_ble_eq_true rfl)
  rw [lg_entry_eq, ← hH]
  generalize (lg_sl ([.ref x, .int q, .int lg, .int fr, .int to]) ++ List.replicate (8 - (lg_sl ([.ref x, .int q, .int lg, .int fr, .int to])).length) Slot.unset).toArray = ls at hl ⊢
  have hl : lv_has ls 8 [(0, .ref x), (1, .int q), (2, .int lg), (3, .int fr), (4, .int to)] := hl
  refine lv_aload_n hx hb d_Md_variant_0 rfl (lv_at hl 0 rfl) ?_
  refine lv_iload_n hx hb d_Md_variant_1 rfl (lv_at hl 1 rfl) ?_
  refine h_calli (va_runV (As := [.int q]) (rest := []) ⟨hx, hb, hml, hown, htg⟩ (c_Md_isName l D cs N0 H x g i f q hsep hI n hn) (cwV 1 htg (gw_V (gw_mem (i := 1108) (by decide +kernel) rfl) (gw_mem (i := 1110) (by decide +kernel) rfl) (gw_mem (i := 19) (by decide +kernel) rfl) (gw_mem (i := 38) (by decide +kernel) rfl) (gw_mem (i := 1111) (by decide +kernel) rfl)) rfl rfl rfl (by decide +kernel) ⟨Nat.le_of_ble_eq_true rfl, Nat.le_of_ble_eq_true rfl⟩) ⟨hPre.blind, hx_recv hK (ci := 0) rfl hI.1, hPre.at hB hS hsep.A⟩ rfl rfl hl.1 rfl (lv_room (Nat.le_of_ble_eq_true rfl)) d_Md_variant_2 ⟨Nat.zero_le _, Nat.zero_le _⟩) hS (fun _ h => h) (fun r2 H locs hp hz hk hS => ?_)
  obtain ⟨hI, er2⟩ := hp
  refine lv_eqi (y := (bI (isN n q))) er2 ?_
  refine lv_istore (lv' := [(5, .int (bI (isN n q))), (0, .ref x), (1, .int q), (2, .int lg), (3, .int fr), (4, .int to)]) hx hb d_Md_variant_5 hl (by decide) rfl (fun ls hl => ?_)
  refine lv_aload_n hx hb d_Md_variant_7 rfl (lv_at hl 1 rfl) ?_
  refine lv_iload hx hb d_Md_variant_8 (lv_at hl 0 rfl) ?_
  refine lv_iload hx hb d_Md_variant_10 (lv_at hl 0 rfl) ?_
  refine lv_if_eq (x := (bI (isN n q))) (tgt := 36) hx hb d_Md_variant_12 (by decide) (fun c12 => ?_) (fun c12 => ?_)
  · skip
    replace c12 : (isN n q) = false := bI_0 c12
    refine lv_iconst (v := 0) hx hb d_Md_variant_36 (by decide) ?_
    refine lv_iload_n hx hb d_Md_variant_37 rfl (lv_at hl 3 rfl) ?_
    refine lv_if_lt (x := lg) (tgt := 71) hx hb d_Md_variant_38 (by decide) (fun c38 => ?_) (fun c38 => ?_)
    · skip
      refine lv_iconst (v := 0) hx hb d_Md_variant_71 (by decide) ?_
      refine h_calli (va_runV (As := [.int (bI (isN n q)), .int 0, .int 0]) (rest := []) ⟨hx, hb, hml, hown, htg⟩ (c_Md_goes l D cs N0 H x g i f (isN n q) false false hsep hI) (cwV 3 htg (gw_V (gw_mem (i := 1092) (by decide +kernel) rfl) (gw_mem (i := 1094) (by decide +kernel) rfl) (gw_mem (i := 18) (by decide +kernel) rfl) (gw_mem (i := 38) (by decide +kernel) rfl) (gw_mem (i := 1095) (by decide +kernel) rfl)) rfl rfl rfl (by decide +kernel) ⟨Nat.le_of_ble_eq_true rfl, Nat.le_of_ble_eq_true rfl⟩) ⟨hPre.blind, hx_recv hK (ci := 0) rfl hI.1, hPre.at hB hS hsep.A⟩ rfl rfl hl.1 rfl (lv_room (Nat.le_of_ble_eq_true rfl)) d_Md_variant_72 ⟨Nat.zero_le _, Nat.zero_le _⟩) hS (fun _ h => h) (fun r72 H locs hp hz hk hS => ?_)
      obtain ⟨hI, er72⟩ := hp
      refine lv_eqi (y := 0) (er72.trans (by simp [goB, bI])) ?_
      refine lv_if_ne (x := 0) (tgt := 80) hx hb d_Md_variant_75 (by decide) (fun c75 => ?_) (fun c75 => ?_)
      · exact absurd c75 (by decide)
      · skip
        refine lv_iconst (v := 0) hx hb d_Md_variant_78 (by decide) ?_
        exact W.iret (v := 0) hx hb hr (fun t ht hW => ⟨⟨0, H, rfl, by dsimp only; have e1 : (isN n q && !decide (4 ≤ mn (tn q)) && !decide (pn ≤ 0)) = false := (by first | (simp [c12, c38]; done) | (simp [c12, c38]; omega) | omega | simp_all); have e2 : (!decide (lg < 0) && !decide (5 < lg) && isD fr && isD to && !decide (to < fr)) = false := (by first | (simp [c12, c38]; done) | (simp [c12, c38]; omega) | omega | simp_all); rw [e1, e2]; rw [if_neg (show ¬ goB (isN n q) false false = true by simp [goB])]; exact ⟨hI, rfl⟩, ht⟩, hS.F ht⟩) hS.2.2 d_Md_variant_79
    · skip
      refine lv_iload_n hx hb d_Md_variant_41 rfl (lv_at hl 3 rfl) ?_
      refine lv_iconst (v := 5) hx hb d_Md_variant_42 (by decide) ?_
      refine lv_icmp_gt (x := lg) (y := 5) (tgt := 71) hx hb d_Md_variant_43 (by decide) (fun c43 => ?_) (fun c43 => ?_)
      · skip
        refine lv_iconst (v := 0) hx hb d_Md_variant_71 (by decide) ?_
        refine h_calli (va_runV (As := [.int (bI (isN n q)), .int 0, .int 0]) (rest := []) ⟨hx, hb, hml, hown, htg⟩ (c_Md_goes l D cs N0 H x g i f (isN n q) false false hsep hI) (cwV 3 htg (gw_V (gw_mem (i := 1092) (by decide +kernel) rfl) (gw_mem (i := 1094) (by decide +kernel) rfl) (gw_mem (i := 18) (by decide +kernel) rfl) (gw_mem (i := 38) (by decide +kernel) rfl) (gw_mem (i := 1095) (by decide +kernel) rfl)) rfl rfl rfl (by decide +kernel) ⟨Nat.le_of_ble_eq_true rfl, Nat.le_of_ble_eq_true rfl⟩) ⟨hPre.blind, hx_recv hK (ci := 0) rfl hI.1, hPre.at hB hS hsep.A⟩ rfl rfl hl.1 rfl (lv_room (Nat.le_of_ble_eq_true rfl)) d_Md_variant_72 ⟨Nat.zero_le _, Nat.zero_le _⟩) hS (fun _ h => h) (fun r72 H locs hp hz hk hS => ?_)
        obtain ⟨hI, er72⟩ := hp
        refine lv_eqi (y := 0) (er72.trans (by simp [goB, bI])) ?_
        refine lv_if_ne (x := 0) (tgt := 80) hx hb d_Md_variant_75 (by decide) (fun c75 => ?_) (fun c75 => ?_)
        · exact absurd c75 (by decide)
        · skip
          refine lv_iconst (v := 0) hx hb d_Md_variant_78 (by decide) ?_
          exact W.iret (v := 0) hx hb hr (fun t ht hW => ⟨⟨0, H, rfl, by dsimp only; have e1 : (isN n q && !decide (4 ≤ mn (tn q)) && !decide (pn ≤ 0)) = false := (by first | (simp [c12, c38, c43]; done) | (simp [c12, c38, c43]; omega) | omega | simp_all); have e2 : (!decide (lg < 0) && !decide (5 < lg) && isD fr && isD to && !decide (to < fr)) = false := (by first | (simp [c12, c38, c43]; done) | (simp [c12, c38, c43]; omega) | omega | simp_all); rw [e1, e2]; rw [if_neg (show ¬ goB (isN n q) false false = true by simp [goB])]; exact ⟨hI, rfl⟩, ht⟩, hS.F ht⟩) hS.2.2 d_Md_variant_79
      · skip
        refine lv_iload_n hx hb d_Md_variant_46 rfl (lv_at hl 4 rfl) ?_
        refine h_calli (va_runS (As := [.int fr]) (rest := [.int 0, .int (bI (isN n q)), .ref x]) ⟨hx, hb, hml, hown, htg⟩ (c_Md_isDay l D cs N0 H x g i f fr hsep hI) (cwS 1 htg (gw_S (gw_mem (i := 1112) (by decide +kernel) rfl) (gw_mem (i := 1113) (by decide +kernel) rfl) (gw_mem (i := 38) (by decide +kernel) rfl) (gw_mem (i := 1114) (by decide +kernel) rfl)) rfl rfl rfl (by decide +kernel) ⟨Nat.le_of_ble_eq_true rfl, Nat.le_of_ble_eq_true rfl⟩) ⟨hPre.blind, hPre.at hB hS hsep.A⟩ rfl rfl hl.1 rfl (lv_room (Nat.le_of_ble_eq_true rfl)) d_Md_variant_47 ⟨Nat.zero_le _, Nat.zero_le _⟩) hS (fun _ h => h) (fun r47 H locs hp hz hk hS => ?_)
        obtain ⟨hI, er47⟩ := hp
        refine lv_eqi (y := (bI (isD fr))) er47 ?_
        refine lv_if_eq (x := (bI (isD fr))) (tgt := 71) hx hb d_Md_variant_50 (by decide) (fun c50 => ?_) (fun c50 => ?_)
        · skip
          replace c50 : (isD fr) = false := bI_0 c50
          refine lv_iconst (v := 0) hx hb d_Md_variant_71 (by decide) ?_
          refine h_calli (va_runV (As := [.int (bI (isN n q)), .int 0, .int 0]) (rest := []) ⟨hx, hb, hml, hown, htg⟩ (c_Md_goes l D cs N0 H x g i f (isN n q) false false hsep hI) (cwV 3 htg (gw_V (gw_mem (i := 1092) (by decide +kernel) rfl) (gw_mem (i := 1094) (by decide +kernel) rfl) (gw_mem (i := 18) (by decide +kernel) rfl) (gw_mem (i := 38) (by decide +kernel) rfl) (gw_mem (i := 1095) (by decide +kernel) rfl)) rfl rfl rfl (by decide +kernel) ⟨Nat.le_of_ble_eq_true rfl, Nat.le_of_ble_eq_true rfl⟩) ⟨hPre.blind, hx_recv hK (ci := 0) rfl hI.1, hPre.at hB hS hsep.A⟩ rfl rfl hl.1 rfl (lv_room (Nat.le_of_ble_eq_true rfl)) d_Md_variant_72 ⟨Nat.zero_le _, Nat.zero_le _⟩) hS (fun _ h => h) (fun r72 H locs hp hz hk hS => ?_)
          obtain ⟨hI, er72⟩ := hp
          refine lv_eqi (y := 0) (er72.trans (by simp [goB, bI])) ?_
          refine lv_if_ne (x := 0) (tgt := 80) hx hb d_Md_variant_75 (by decide) (fun c75 => ?_) (fun c75 => ?_)
          · exact absurd c75 (by decide)
          · skip
            refine lv_iconst (v := 0) hx hb d_Md_variant_78 (by decide) ?_
            exact W.iret (v := 0) hx hb hr (fun t ht hW => ⟨⟨0, H, rfl, by dsimp only; have e1 : (isN n q && !decide (4 ≤ mn (tn q)) && !decide (pn ≤ 0)) = false := (by first | (simp [c12, c38, c43, c50]; done) | (simp [c12, c38, c43, c50]; omega) | omega | simp_all); have e2 : (!decide (lg < 0) && !decide (5 < lg) && isD fr && isD to && !decide (to < fr)) = false := (by first | (simp [c12, c38, c43, c50]; done) | (simp [c12, c38, c43, c50]; omega) | omega | simp_all); rw [e1, e2]; rw [if_neg (show ¬ goB (isN n q) false false = true by simp [goB])]; exact ⟨hI, rfl⟩, ht⟩, hS.F ht⟩) hS.2.2 d_Md_variant_79
        · skip
          replace c50 : (isD fr) = true := bI_1 c50
          refine lv_iload hx hb d_Md_variant_53 (lv_at hl 5 rfl) ?_
          refine h_calli (va_runS (As := [.int to]) (rest := [.int 0, .int (bI (isN n q)), .ref x]) ⟨hx, hb, hml, hown, htg⟩ (c_Md_isDay l D cs N0 H x g i f to hsep hI) (cwS 1 htg (gw_S (gw_mem (i := 1112) (by decide +kernel) rfl) (gw_mem (i := 1113) (by decide +kernel) rfl) (gw_mem (i := 38) (by decide +kernel) rfl) (gw_mem (i := 1114) (by decide +kernel) rfl)) rfl rfl rfl (by decide +kernel) ⟨Nat.le_of_ble_eq_true rfl, Nat.le_of_ble_eq_true rfl⟩) ⟨hPre.blind, hPre.at hB hS hsep.A⟩ rfl rfl hl.1 rfl (lv_room (Nat.le_of_ble_eq_true rfl)) d_Md_variant_55 ⟨Nat.zero_le _, Nat.zero_le _⟩) hS (fun _ h => h) (fun r55 H locs hp hz hk hS => ?_)
          obtain ⟨hI, er55⟩ := hp
          refine lv_eqi (y := (bI (isD to))) er55 ?_
          refine lv_if_eq (x := (bI (isD to))) (tgt := 71) hx hb d_Md_variant_58 (by decide) (fun c58 => ?_) (fun c58 => ?_)
          · skip
            replace c58 : (isD to) = false := bI_0 c58
            refine lv_iconst (v := 0) hx hb d_Md_variant_71 (by decide) ?_
            refine h_calli (va_runV (As := [.int (bI (isN n q)), .int 0, .int 0]) (rest := []) ⟨hx, hb, hml, hown, htg⟩ (c_Md_goes l D cs N0 H x g i f (isN n q) false false hsep hI) (cwV 3 htg (gw_V (gw_mem (i := 1092) (by decide +kernel) rfl) (gw_mem (i := 1094) (by decide +kernel) rfl) (gw_mem (i := 18) (by decide +kernel) rfl) (gw_mem (i := 38) (by decide +kernel) rfl) (gw_mem (i := 1095) (by decide +kernel) rfl)) rfl rfl rfl (by decide +kernel) ⟨Nat.le_of_ble_eq_true rfl, Nat.le_of_ble_eq_true rfl⟩) ⟨hPre.blind, hx_recv hK (ci := 0) rfl hI.1, hPre.at hB hS hsep.A⟩ rfl rfl hl.1 rfl (lv_room (Nat.le_of_ble_eq_true rfl)) d_Md_variant_72 ⟨Nat.zero_le _, Nat.zero_le _⟩) hS (fun _ h => h) (fun r72 H locs hp hz hk hS => ?_)
            obtain ⟨hI, er72⟩ := hp
            refine lv_eqi (y := 0) (er72.trans (by simp [goB, bI])) ?_
            refine lv_if_ne (x := 0) (tgt := 80) hx hb d_Md_variant_75 (by decide) (fun c75 => ?_) (fun c75 => ?_)
            · exact absurd c75 (by decide)
            · skip
              refine lv_iconst (v := 0) hx hb d_Md_variant_78 (by decide) ?_
              exact W.iret (v := 0) hx hb hr (fun t ht hW => ⟨⟨0, H, rfl, by dsimp only; have e1 : (isN n q && !decide (4 ≤ mn (tn q)) && !decide (pn ≤ 0)) = false := (by first | (simp [c12, c38, c43, c50, c58]; done) | (simp [c12, c38, c43, c50, c58]; omega) | omega | simp_all); have e2 : (!decide (lg < 0) && !decide (5 < lg) && isD fr && isD to && !decide (to < fr)) = false := (by first | (simp [c12, c38, c43, c50, c58]; done) | (simp [c12, c38, c43, c50, c58]; omega) | omega | simp_all); rw [e1, e2]; rw [if_neg (show ¬ goB (isN n q) false false = true by simp [goB])]; exact ⟨hI, rfl⟩, ht⟩, hS.F ht⟩) hS.2.2 d_Md_variant_79
          · skip
            replace c58 : (isD to) = true := bI_1 c58
            refine lv_iload_n hx hb d_Md_variant_61 rfl (lv_at hl 4 rfl) ?_
            refine lv_iload hx hb d_Md_variant_62 (lv_at hl 5 rfl) ?_
            refine lv_icmp_gt (x := fr) (y := to) (tgt := 71) hx hb d_Md_variant_64 (by decide) (fun c64 => ?_) (fun c64 => ?_)
            · skip
              refine lv_iconst (v := 0) hx hb d_Md_variant_71 (by decide) ?_
              refine h_calli (va_runV (As := [.int (bI (isN n q)), .int 0, .int 0]) (rest := []) ⟨hx, hb, hml, hown, htg⟩ (c_Md_goes l D cs N0 H x g i f (isN n q) false false hsep hI) (cwV 3 htg (gw_V (gw_mem (i := 1092) (by decide +kernel) rfl) (gw_mem (i := 1094) (by decide +kernel) rfl) (gw_mem (i := 18) (by decide +kernel) rfl) (gw_mem (i := 38) (by decide +kernel) rfl) (gw_mem (i := 1095) (by decide +kernel) rfl)) rfl rfl rfl (by decide +kernel) ⟨Nat.le_of_ble_eq_true rfl, Nat.le_of_ble_eq_true rfl⟩) ⟨hPre.blind, hx_recv hK (ci := 0) rfl hI.1, hPre.at hB hS hsep.A⟩ rfl rfl hl.1 rfl (lv_room (Nat.le_of_ble_eq_true rfl)) d_Md_variant_72 ⟨Nat.zero_le _, Nat.zero_le _⟩) hS (fun _ h => h) (fun r72 H locs hp hz hk hS => ?_)
              obtain ⟨hI, er72⟩ := hp
              refine lv_eqi (y := 0) (er72.trans (by simp [goB, bI])) ?_
              refine lv_if_ne (x := 0) (tgt := 80) hx hb d_Md_variant_75 (by decide) (fun c75 => ?_) (fun c75 => ?_)
              · exact absurd c75 (by decide)
              · skip
                refine lv_iconst (v := 0) hx hb d_Md_variant_78 (by decide) ?_
                exact W.iret (v := 0) hx hb hr (fun t ht hW => ⟨⟨0, H, rfl, by dsimp only; have e1 : (isN n q && !decide (4 ≤ mn (tn q)) && !decide (pn ≤ 0)) = false := (by first | (simp [c12, c38, c43, c50, c58, c64]; done) | (simp [c12, c38, c43, c50, c58, c64]; omega) | omega | simp_all); have e2 : (!decide (lg < 0) && !decide (5 < lg) && isD fr && isD to && !decide (to < fr)) = false := (by first | (simp [c12, c38, c43, c50, c58, c64]; done) | (simp [c12, c38, c43, c50, c58, c64]; omega) | omega | simp_all); rw [e1, e2]; rw [if_neg (show ¬ goB (isN n q) false false = true by simp [goB])]; exact ⟨hI, rfl⟩, ht⟩, hS.F ht⟩) hS.2.2 d_Md_variant_79
            · skip
              refine lv_iconst (v := 1) hx hb d_Md_variant_67 (by decide) ?_
              refine lv_goto (tgt := 72) hx hb d_Md_variant_68 (by decide) ?_
              refine h_calli (va_runV (As := [.int (bI (isN n q)), .int 0, .int 1]) (rest := []) ⟨hx, hb, hml, hown, htg⟩ (c_Md_goes l D cs N0 H x g i f (isN n q) false true hsep hI) (cwV 3 htg (gw_V (gw_mem (i := 1092) (by decide +kernel) rfl) (gw_mem (i := 1094) (by decide +kernel) rfl) (gw_mem (i := 18) (by decide +kernel) rfl) (gw_mem (i := 38) (by decide +kernel) rfl) (gw_mem (i := 1095) (by decide +kernel) rfl)) rfl rfl rfl (by decide +kernel) ⟨Nat.le_of_ble_eq_true rfl, Nat.le_of_ble_eq_true rfl⟩) ⟨hPre.blind, hx_recv hK (ci := 0) rfl hI.1, hPre.at hB hS hsep.A⟩ rfl rfl hl.1 rfl (lv_room (Nat.le_of_ble_eq_true rfl)) d_Md_variant_72 ⟨Nat.zero_le _, Nat.zero_le _⟩) hS (fun _ h => h) (fun r72 H locs hp hz hk hS => ?_)
              obtain ⟨hI, er72⟩ := hp
              refine lv_eqi (y := 0) (er72.trans (by simp [goB, bI])) ?_
              refine lv_if_ne (x := 0) (tgt := 80) hx hb d_Md_variant_75 (by decide) (fun c75 => ?_) (fun c75 => ?_)
              · exact absurd c75 (by decide)
              · skip
                refine lv_iconst (v := 0) hx hb d_Md_variant_78 (by decide) ?_
                exact W.iret (v := 0) hx hb hr (fun t ht hW => ⟨⟨0, H, rfl, by dsimp only; have e1 : (isN n q && !decide (4 ≤ mn (tn q)) && !decide (pn ≤ 0)) = false := (by first | (simp [c12, c38, c43, c50, c58, c64]; done) | (simp [c12, c38, c43, c50, c58, c64]; omega) | omega | simp_all); have e2 : (!decide (lg < 0) && !decide (5 < lg) && isD fr && isD to && !decide (to < fr)) = true := (by first | (simp [c12, c38, c43, c50, c58, c64]; done) | (simp [c12, c38, c43, c50, c58, c64]; omega) | omega | simp_all); rw [e1, e2]; rw [if_neg (show ¬ goB (isN n q) false true = true by simp [goB])]; exact ⟨hI, rfl⟩, ht⟩, hS.F ht⟩) hS.2.2 d_Md_variant_79
  · skip
    replace c12 : (isN n q) = true := bI_1 c12
    obtain ⟨ha, ea⟩ := isN_n c12 (by omega)
    have hmq := hm (tn q) (by omega)
    refine lv_aload_n hx hb d_Md_variant_15 rfl (lv_at hl 1 rfl) ?_
    refine hx_get (v := .ref (g 1)) hx hb htg iMd hown hK hI.1 rfl 4 (by decide) (htg _ (gw_mem (i := 1002) (by decide +kernel) rfl)) (fun _ h9 => h9) rfl d_Md_variant_16 ?_
    refine lv_iload_n hx hb d_Md_variant_19 rfl (lv_at hl 2 rfl) ?_
    refine lv_eqi (y := (nI (tn q))) ea ?_
    refine hx_iald hx hb hK 0 (hI.2 1 (by decide)) rfl (show vp_in (nI (tn q)) 24 from vp_in_nI (n := tn q) (by omega) (by decide)) d_Md_variant_20 ?_
    refine lv_eqi (y := (f 1 (tn q))) (show f 1 (nI (tn q)).toNatClampNeg = _ by rw [nI_clamp (by omega)]) ?_
    refine lv_eqi (y := (nI (mn (tn q)))) hmq.1 ?_
    refine lv_iconst (v := 4) hx hb d_Md_variant_21 (by decide) ?_
    refine lv_icmp_ge (x := (nI (mn (tn q)))) (y := 4) (tgt := 36) hx hb d_Md_variant_22 (by decide) (fun c22 => ?_) (fun c22 => ?_)
    · skip
      replace c22 : 4 ≤ (mn (tn q)) := (nI_leI (a := 4) (b := (mn (tn q))) (by omega) (by omega)).mp c22
      refine lv_iconst (v := 0) hx hb d_Md_variant_36 (by decide) ?_
      refine lv_iload_n hx hb d_Md_variant_37 rfl (lv_at hl 3 rfl) ?_
      refine lv_if_lt (x := lg) (tgt := 71) hx hb d_Md_variant_38 (by decide) (fun c38 => ?_) (fun c38 => ?_)
      · skip
        refine lv_iconst (v := 0) hx hb d_Md_variant_71 (by decide) ?_
        refine h_calli (va_runV (As := [.int (bI (isN n q)), .int 0, .int 0]) (rest := []) ⟨hx, hb, hml, hown, htg⟩ (c_Md_goes l D cs N0 H x g i f (isN n q) false false hsep hI) (cwV 3 htg (gw_V (gw_mem (i := 1092) (by decide +kernel) rfl) (gw_mem (i := 1094) (by decide +kernel) rfl) (gw_mem (i := 18) (by decide +kernel) rfl) (gw_mem (i := 38) (by decide +kernel) rfl) (gw_mem (i := 1095) (by decide +kernel) rfl)) rfl rfl rfl (by decide +kernel) ⟨Nat.le_of_ble_eq_true rfl, Nat.le_of_ble_eq_true rfl⟩) ⟨hPre.blind, hx_recv hK (ci := 0) rfl hI.1, hPre.at hB hS hsep.A⟩ rfl rfl hl.1 rfl (lv_room (Nat.le_of_ble_eq_true rfl)) d_Md_variant_72 ⟨Nat.zero_le _, Nat.zero_le _⟩) hS (fun _ h => h) (fun r72 H locs hp hz hk hS => ?_)
        obtain ⟨hI, er72⟩ := hp
        refine lv_eqi (y := 0) (er72.trans (by simp [goB, bI])) ?_
        refine lv_if_ne (x := 0) (tgt := 80) hx hb d_Md_variant_75 (by decide) (fun c75 => ?_) (fun c75 => ?_)
        · exact absurd c75 (by decide)
        · skip
          refine lv_iconst (v := 0) hx hb d_Md_variant_78 (by decide) ?_
          exact W.iret (v := 0) hx hb hr (fun t ht hW => ⟨⟨0, H, rfl, by dsimp only; have e1 : (isN n q && !decide (4 ≤ mn (tn q)) && !decide (pn ≤ 0)) = false := (by first | (simp [c12, c22, c38]; done) | (simp [c12, c22, c38]; omega) | omega | simp_all); have e2 : (!decide (lg < 0) && !decide (5 < lg) && isD fr && isD to && !decide (to < fr)) = false := (by first | (simp [c12, c22, c38]; done) | (simp [c12, c22, c38]; omega) | omega | simp_all); rw [e1, e2]; rw [if_neg (show ¬ goB (isN n q) false false = true by simp [goB])]; exact ⟨hI, rfl⟩, ht⟩, hS.F ht⟩) hS.2.2 d_Md_variant_79
      · skip
        refine lv_iload_n hx hb d_Md_variant_41 rfl (lv_at hl 3 rfl) ?_
        refine lv_iconst (v := 5) hx hb d_Md_variant_42 (by decide) ?_
        refine lv_icmp_gt (x := lg) (y := 5) (tgt := 71) hx hb d_Md_variant_43 (by decide) (fun c43 => ?_) (fun c43 => ?_)
        · skip
          refine lv_iconst (v := 0) hx hb d_Md_variant_71 (by decide) ?_
          refine h_calli (va_runV (As := [.int (bI (isN n q)), .int 0, .int 0]) (rest := []) ⟨hx, hb, hml, hown, htg⟩ (c_Md_goes l D cs N0 H x g i f (isN n q) false false hsep hI) (cwV 3 htg (gw_V (gw_mem (i := 1092) (by decide +kernel) rfl) (gw_mem (i := 1094) (by decide +kernel) rfl) (gw_mem (i := 18) (by decide +kernel) rfl) (gw_mem (i := 38) (by decide +kernel) rfl) (gw_mem (i := 1095) (by decide +kernel) rfl)) rfl rfl rfl (by decide +kernel) ⟨Nat.le_of_ble_eq_true rfl, Nat.le_of_ble_eq_true rfl⟩) ⟨hPre.blind, hx_recv hK (ci := 0) rfl hI.1, hPre.at hB hS hsep.A⟩ rfl rfl hl.1 rfl (lv_room (Nat.le_of_ble_eq_true rfl)) d_Md_variant_72 ⟨Nat.zero_le _, Nat.zero_le _⟩) hS (fun _ h => h) (fun r72 H locs hp hz hk hS => ?_)
          obtain ⟨hI, er72⟩ := hp
          refine lv_eqi (y := 0) (er72.trans (by simp [goB, bI])) ?_
          refine lv_if_ne (x := 0) (tgt := 80) hx hb d_Md_variant_75 (by decide) (fun c75 => ?_) (fun c75 => ?_)
          · exact absurd c75 (by decide)
          · skip
            refine lv_iconst (v := 0) hx hb d_Md_variant_78 (by decide) ?_
            exact W.iret (v := 0) hx hb hr (fun t ht hW => ⟨⟨0, H, rfl, by dsimp only; have e1 : (isN n q && !decide (4 ≤ mn (tn q)) && !decide (pn ≤ 0)) = false := (by first | (simp [c12, c22, c38, c43]; done) | (simp [c12, c22, c38, c43]; omega) | omega | simp_all); have e2 : (!decide (lg < 0) && !decide (5 < lg) && isD fr && isD to && !decide (to < fr)) = false := (by first | (simp [c12, c22, c38, c43]; done) | (simp [c12, c22, c38, c43]; omega) | omega | simp_all); rw [e1, e2]; rw [if_neg (show ¬ goB (isN n q) false false = true by simp [goB])]; exact ⟨hI, rfl⟩, ht⟩, hS.F ht⟩) hS.2.2 d_Md_variant_79
        · skip
          refine lv_iload_n hx hb d_Md_variant_46 rfl (lv_at hl 4 rfl) ?_
          refine h_calli (va_runS (As := [.int fr]) (rest := [.int 0, .int (bI (isN n q)), .ref x]) ⟨hx, hb, hml, hown, htg⟩ (c_Md_isDay l D cs N0 H x g i f fr hsep hI) (cwS 1 htg (gw_S (gw_mem (i := 1112) (by decide +kernel) rfl) (gw_mem (i := 1113) (by decide +kernel) rfl) (gw_mem (i := 38) (by decide +kernel) rfl) (gw_mem (i := 1114) (by decide +kernel) rfl)) rfl rfl rfl (by decide +kernel) ⟨Nat.le_of_ble_eq_true rfl, Nat.le_of_ble_eq_true rfl⟩) ⟨hPre.blind, hPre.at hB hS hsep.A⟩ rfl rfl hl.1 rfl (lv_room (Nat.le_of_ble_eq_true rfl)) d_Md_variant_47 ⟨Nat.zero_le _, Nat.zero_le _⟩) hS (fun _ h => h) (fun r47 H locs hp hz hk hS => ?_)
          obtain ⟨hI, er47⟩ := hp
          refine lv_eqi (y := (bI (isD fr))) er47 ?_
          refine lv_if_eq (x := (bI (isD fr))) (tgt := 71) hx hb d_Md_variant_50 (by decide) (fun c50 => ?_) (fun c50 => ?_)
          · skip
            replace c50 : (isD fr) = false := bI_0 c50
            refine lv_iconst (v := 0) hx hb d_Md_variant_71 (by decide) ?_
            refine h_calli (va_runV (As := [.int (bI (isN n q)), .int 0, .int 0]) (rest := []) ⟨hx, hb, hml, hown, htg⟩ (c_Md_goes l D cs N0 H x g i f (isN n q) false false hsep hI) (cwV 3 htg (gw_V (gw_mem (i := 1092) (by decide +kernel) rfl) (gw_mem (i := 1094) (by decide +kernel) rfl) (gw_mem (i := 18) (by decide +kernel) rfl) (gw_mem (i := 38) (by decide +kernel) rfl) (gw_mem (i := 1095) (by decide +kernel) rfl)) rfl rfl rfl (by decide +kernel) ⟨Nat.le_of_ble_eq_true rfl, Nat.le_of_ble_eq_true rfl⟩) ⟨hPre.blind, hx_recv hK (ci := 0) rfl hI.1, hPre.at hB hS hsep.A⟩ rfl rfl hl.1 rfl (lv_room (Nat.le_of_ble_eq_true rfl)) d_Md_variant_72 ⟨Nat.zero_le _, Nat.zero_le _⟩) hS (fun _ h => h) (fun r72 H locs hp hz hk hS => ?_)
            obtain ⟨hI, er72⟩ := hp
            refine lv_eqi (y := 0) (er72.trans (by simp [goB, bI])) ?_
            refine lv_if_ne (x := 0) (tgt := 80) hx hb d_Md_variant_75 (by decide) (fun c75 => ?_) (fun c75 => ?_)
            · exact absurd c75 (by decide)
            · skip
              refine lv_iconst (v := 0) hx hb d_Md_variant_78 (by decide) ?_
              exact W.iret (v := 0) hx hb hr (fun t ht hW => ⟨⟨0, H, rfl, by dsimp only; have e1 : (isN n q && !decide (4 ≤ mn (tn q)) && !decide (pn ≤ 0)) = false := (by first | (simp [c12, c22, c38, c43, c50]; done) | (simp [c12, c22, c38, c43, c50]; omega) | omega | simp_all); have e2 : (!decide (lg < 0) && !decide (5 < lg) && isD fr && isD to && !decide (to < fr)) = false := (by first | (simp [c12, c22, c38, c43, c50]; done) | (simp [c12, c22, c38, c43, c50]; omega) | omega | simp_all); rw [e1, e2]; rw [if_neg (show ¬ goB (isN n q) false false = true by simp [goB])]; exact ⟨hI, rfl⟩, ht⟩, hS.F ht⟩) hS.2.2 d_Md_variant_79
          · skip
            replace c50 : (isD fr) = true := bI_1 c50
            refine lv_iload hx hb d_Md_variant_53 (lv_at hl 5 rfl) ?_
            refine h_calli (va_runS (As := [.int to]) (rest := [.int 0, .int (bI (isN n q)), .ref x]) ⟨hx, hb, hml, hown, htg⟩ (c_Md_isDay l D cs N0 H x g i f to hsep hI) (cwS 1 htg (gw_S (gw_mem (i := 1112) (by decide +kernel) rfl) (gw_mem (i := 1113) (by decide +kernel) rfl) (gw_mem (i := 38) (by decide +kernel) rfl) (gw_mem (i := 1114) (by decide +kernel) rfl)) rfl rfl rfl (by decide +kernel) ⟨Nat.le_of_ble_eq_true rfl, Nat.le_of_ble_eq_true rfl⟩) ⟨hPre.blind, hPre.at hB hS hsep.A⟩ rfl rfl hl.1 rfl (lv_room (Nat.le_of_ble_eq_true rfl)) d_Md_variant_55 ⟨Nat.zero_le _, Nat.zero_le _⟩) hS (fun _ h => h) (fun r55 H locs hp hz hk hS => ?_)
            obtain ⟨hI, er55⟩ := hp
            refine lv_eqi (y := (bI (isD to))) er55 ?_
            refine lv_if_eq (x := (bI (isD to))) (tgt := 71) hx hb d_Md_variant_58 (by decide) (fun c58 => ?_) (fun c58 => ?_)
            · skip
              replace c58 : (isD to) = false := bI_0 c58
              refine lv_iconst (v := 0) hx hb d_Md_variant_71 (by decide) ?_
              refine h_calli (va_runV (As := [.int (bI (isN n q)), .int 0, .int 0]) (rest := []) ⟨hx, hb, hml, hown, htg⟩ (c_Md_goes l D cs N0 H x g i f (isN n q) false false hsep hI) (cwV 3 htg (gw_V (gw_mem (i := 1092) (by decide +kernel) rfl) (gw_mem (i := 1094) (by decide +kernel) rfl) (gw_mem (i := 18) (by decide +kernel) rfl) (gw_mem (i := 38) (by decide +kernel) rfl) (gw_mem (i := 1095) (by decide +kernel) rfl)) rfl rfl rfl (by decide +kernel) ⟨Nat.le_of_ble_eq_true rfl, Nat.le_of_ble_eq_true rfl⟩) ⟨hPre.blind, hx_recv hK (ci := 0) rfl hI.1, hPre.at hB hS hsep.A⟩ rfl rfl hl.1 rfl (lv_room (Nat.le_of_ble_eq_true rfl)) d_Md_variant_72 ⟨Nat.zero_le _, Nat.zero_le _⟩) hS (fun _ h => h) (fun r72 H locs hp hz hk hS => ?_)
              obtain ⟨hI, er72⟩ := hp
              refine lv_eqi (y := 0) (er72.trans (by simp [goB, bI])) ?_
              refine lv_if_ne (x := 0) (tgt := 80) hx hb d_Md_variant_75 (by decide) (fun c75 => ?_) (fun c75 => ?_)
              · exact absurd c75 (by decide)
              · skip
                refine lv_iconst (v := 0) hx hb d_Md_variant_78 (by decide) ?_
                exact W.iret (v := 0) hx hb hr (fun t ht hW => ⟨⟨0, H, rfl, by dsimp only; have e1 : (isN n q && !decide (4 ≤ mn (tn q)) && !decide (pn ≤ 0)) = false := (by first | (simp [c12, c22, c38, c43, c50, c58]; done) | (simp [c12, c22, c38, c43, c50, c58]; omega) | omega | simp_all); have e2 : (!decide (lg < 0) && !decide (5 < lg) && isD fr && isD to && !decide (to < fr)) = false := (by first | (simp [c12, c22, c38, c43, c50, c58]; done) | (simp [c12, c22, c38, c43, c50, c58]; omega) | omega | simp_all); rw [e1, e2]; rw [if_neg (show ¬ goB (isN n q) false false = true by simp [goB])]; exact ⟨hI, rfl⟩, ht⟩, hS.F ht⟩) hS.2.2 d_Md_variant_79
            · skip
              replace c58 : (isD to) = true := bI_1 c58
              refine lv_iload_n hx hb d_Md_variant_61 rfl (lv_at hl 4 rfl) ?_
              refine lv_iload hx hb d_Md_variant_62 (lv_at hl 5 rfl) ?_
              refine lv_icmp_gt (x := fr) (y := to) (tgt := 71) hx hb d_Md_variant_64 (by decide) (fun c64 => ?_) (fun c64 => ?_)
              · skip
                refine lv_iconst (v := 0) hx hb d_Md_variant_71 (by decide) ?_
                refine h_calli (va_runV (As := [.int (bI (isN n q)), .int 0, .int 0]) (rest := []) ⟨hx, hb, hml, hown, htg⟩ (c_Md_goes l D cs N0 H x g i f (isN n q) false false hsep hI) (cwV 3 htg (gw_V (gw_mem (i := 1092) (by decide +kernel) rfl) (gw_mem (i := 1094) (by decide +kernel) rfl) (gw_mem (i := 18) (by decide +kernel) rfl) (gw_mem (i := 38) (by decide +kernel) rfl) (gw_mem (i := 1095) (by decide +kernel) rfl)) rfl rfl rfl (by decide +kernel) ⟨Nat.le_of_ble_eq_true rfl, Nat.le_of_ble_eq_true rfl⟩) ⟨hPre.blind, hx_recv hK (ci := 0) rfl hI.1, hPre.at hB hS hsep.A⟩ rfl rfl hl.1 rfl (lv_room (Nat.le_of_ble_eq_true rfl)) d_Md_variant_72 ⟨Nat.zero_le _, Nat.zero_le _⟩) hS (fun _ h => h) (fun r72 H locs hp hz hk hS => ?_)
                obtain ⟨hI, er72⟩ := hp
                refine lv_eqi (y := 0) (er72.trans (by simp [goB, bI])) ?_
                refine lv_if_ne (x := 0) (tgt := 80) hx hb d_Md_variant_75 (by decide) (fun c75 => ?_) (fun c75 => ?_)
                · exact absurd c75 (by decide)
                · skip
                  refine lv_iconst (v := 0) hx hb d_Md_variant_78 (by decide) ?_
                  exact W.iret (v := 0) hx hb hr (fun t ht hW => ⟨⟨0, H, rfl, by dsimp only; have e1 : (isN n q && !decide (4 ≤ mn (tn q)) && !decide (pn ≤ 0)) = false := (by first | (simp [c12, c22, c38, c43, c50, c58, c64]; done) | (simp [c12, c22, c38, c43, c50, c58, c64]; omega) | omega | simp_all); have e2 : (!decide (lg < 0) && !decide (5 < lg) && isD fr && isD to && !decide (to < fr)) = false := (by first | (simp [c12, c22, c38, c43, c50, c58, c64]; done) | (simp [c12, c22, c38, c43, c50, c58, c64]; omega) | omega | simp_all); rw [e1, e2]; rw [if_neg (show ¬ goB (isN n q) false false = true by simp [goB])]; exact ⟨hI, rfl⟩, ht⟩, hS.F ht⟩) hS.2.2 d_Md_variant_79
              · skip
                refine lv_iconst (v := 1) hx hb d_Md_variant_67 (by decide) ?_
                refine lv_goto (tgt := 72) hx hb d_Md_variant_68 (by decide) ?_
                refine h_calli (va_runV (As := [.int (bI (isN n q)), .int 0, .int 1]) (rest := []) ⟨hx, hb, hml, hown, htg⟩ (c_Md_goes l D cs N0 H x g i f (isN n q) false true hsep hI) (cwV 3 htg (gw_V (gw_mem (i := 1092) (by decide +kernel) rfl) (gw_mem (i := 1094) (by decide +kernel) rfl) (gw_mem (i := 18) (by decide +kernel) rfl) (gw_mem (i := 38) (by decide +kernel) rfl) (gw_mem (i := 1095) (by decide +kernel) rfl)) rfl rfl rfl (by decide +kernel) ⟨Nat.le_of_ble_eq_true rfl, Nat.le_of_ble_eq_true rfl⟩) ⟨hPre.blind, hx_recv hK (ci := 0) rfl hI.1, hPre.at hB hS hsep.A⟩ rfl rfl hl.1 rfl (lv_room (Nat.le_of_ble_eq_true rfl)) d_Md_variant_72 ⟨Nat.zero_le _, Nat.zero_le _⟩) hS (fun _ h => h) (fun r72 H locs hp hz hk hS => ?_)
                obtain ⟨hI, er72⟩ := hp
                refine lv_eqi (y := 0) (er72.trans (by simp [goB, bI])) ?_
                refine lv_if_ne (x := 0) (tgt := 80) hx hb d_Md_variant_75 (by decide) (fun c75 => ?_) (fun c75 => ?_)
                · exact absurd c75 (by decide)
                · skip
                  refine lv_iconst (v := 0) hx hb d_Md_variant_78 (by decide) ?_
                  exact W.iret (v := 0) hx hb hr (fun t ht hW => ⟨⟨0, H, rfl, by dsimp only; have e1 : (isN n q && !decide (4 ≤ mn (tn q)) && !decide (pn ≤ 0)) = false := (by first | (simp [c12, c22, c38, c43, c50, c58, c64]; done) | (simp [c12, c22, c38, c43, c50, c58, c64]; omega) | omega | simp_all); have e2 : (!decide (lg < 0) && !decide (5 < lg) && isD fr && isD to && !decide (to < fr)) = true := (by first | (simp [c12, c22, c38, c43, c50, c58, c64]; done) | (simp [c12, c22, c38, c43, c50, c58, c64]; omega) | omega | simp_all); rw [e1, e2]; rw [if_neg (show ¬ goB (isN n q) false true = true by simp [goB])]; exact ⟨hI, rfl⟩, ht⟩, hS.F ht⟩) hS.2.2 d_Md_variant_79
    · skip
      replace c22 : ¬ (4 ≤ (mn (tn q))) := fun z9 => c22 ((nI_leI (a := 4) (b := (mn (tn q))) (by omega) (by omega)).mpr z9)
      refine lv_aload_n hx hb d_Md_variant_25 rfl (lv_at hl 1 rfl) ?_
      refine hx_get (v := .int (i 1)) hx hb htg iMd hown hK hI.1 rfl 1 (by decide) (htg _ (gw_mem (i := 999) (by decide +kernel) rfl)) (fun _ h9 => h9) rfl d_Md_variant_26 ?_
      refine lv_eqi (y := (nI pn)) hpn ?_
      refine lv_if_le (x := (nI pn)) (tgt := 36) hx hb d_Md_variant_29 (by decide) (fun c29 => ?_) (fun c29 => ?_)
      · skip
        replace c29 : pn ≤ 0 := (nI_leI (a := pn) (b := 0) (by omega) (by omega)).mp c29
        refine lv_iconst (v := 0) hx hb d_Md_variant_36 (by decide) ?_
        refine lv_iload_n hx hb d_Md_variant_37 rfl (lv_at hl 3 rfl) ?_
        refine lv_if_lt (x := lg) (tgt := 71) hx hb d_Md_variant_38 (by decide) (fun c38 => ?_) (fun c38 => ?_)
        · skip
          refine lv_iconst (v := 0) hx hb d_Md_variant_71 (by decide) ?_
          refine h_calli (va_runV (As := [.int (bI (isN n q)), .int 0, .int 0]) (rest := []) ⟨hx, hb, hml, hown, htg⟩ (c_Md_goes l D cs N0 H x g i f (isN n q) false false hsep hI) (cwV 3 htg (gw_V (gw_mem (i := 1092) (by decide +kernel) rfl) (gw_mem (i := 1094) (by decide +kernel) rfl) (gw_mem (i := 18) (by decide +kernel) rfl) (gw_mem (i := 38) (by decide +kernel) rfl) (gw_mem (i := 1095) (by decide +kernel) rfl)) rfl rfl rfl (by decide +kernel) ⟨Nat.le_of_ble_eq_true rfl, Nat.le_of_ble_eq_true rfl⟩) ⟨hPre.blind, hx_recv hK (ci := 0) rfl hI.1, hPre.at hB hS hsep.A⟩ rfl rfl hl.1 rfl (lv_room (Nat.le_of_ble_eq_true rfl)) d_Md_variant_72 ⟨Nat.zero_le _, Nat.zero_le _⟩) hS (fun _ h => h) (fun r72 H locs hp hz hk hS => ?_)
          obtain ⟨hI, er72⟩ := hp
          refine lv_eqi (y := 0) (er72.trans (by simp [goB, bI])) ?_
          refine lv_if_ne (x := 0) (tgt := 80) hx hb d_Md_variant_75 (by decide) (fun c75 => ?_) (fun c75 => ?_)
          · exact absurd c75 (by decide)
          · skip
            refine lv_iconst (v := 0) hx hb d_Md_variant_78 (by decide) ?_
            exact W.iret (v := 0) hx hb hr (fun t ht hW => ⟨⟨0, H, rfl, by dsimp only; have e1 : (isN n q && !decide (4 ≤ mn (tn q)) && !decide (pn ≤ 0)) = false := (by first | (simp [c12, c22, c29, c38]; done) | (simp [c12, c22, c29, c38]; omega) | omega | simp_all); have e2 : (!decide (lg < 0) && !decide (5 < lg) && isD fr && isD to && !decide (to < fr)) = false := (by first | (simp [c12, c22, c29, c38]; done) | (simp [c12, c22, c29, c38]; omega) | omega | simp_all); rw [e1, e2]; rw [if_neg (show ¬ goB (isN n q) false false = true by simp [goB])]; exact ⟨hI, rfl⟩, ht⟩, hS.F ht⟩) hS.2.2 d_Md_variant_79
        · skip
          refine lv_iload_n hx hb d_Md_variant_41 rfl (lv_at hl 3 rfl) ?_
          refine lv_iconst (v := 5) hx hb d_Md_variant_42 (by decide) ?_
          refine lv_icmp_gt (x := lg) (y := 5) (tgt := 71) hx hb d_Md_variant_43 (by decide) (fun c43 => ?_) (fun c43 => ?_)
          · skip
            refine lv_iconst (v := 0) hx hb d_Md_variant_71 (by decide) ?_
            refine h_calli (va_runV (As := [.int (bI (isN n q)), .int 0, .int 0]) (rest := []) ⟨hx, hb, hml, hown, htg⟩ (c_Md_goes l D cs N0 H x g i f (isN n q) false false hsep hI) (cwV 3 htg (gw_V (gw_mem (i := 1092) (by decide +kernel) rfl) (gw_mem (i := 1094) (by decide +kernel) rfl) (gw_mem (i := 18) (by decide +kernel) rfl) (gw_mem (i := 38) (by decide +kernel) rfl) (gw_mem (i := 1095) (by decide +kernel) rfl)) rfl rfl rfl (by decide +kernel) ⟨Nat.le_of_ble_eq_true rfl, Nat.le_of_ble_eq_true rfl⟩) ⟨hPre.blind, hx_recv hK (ci := 0) rfl hI.1, hPre.at hB hS hsep.A⟩ rfl rfl hl.1 rfl (lv_room (Nat.le_of_ble_eq_true rfl)) d_Md_variant_72 ⟨Nat.zero_le _, Nat.zero_le _⟩) hS (fun _ h => h) (fun r72 H locs hp hz hk hS => ?_)
            obtain ⟨hI, er72⟩ := hp
            refine lv_eqi (y := 0) (er72.trans (by simp [goB, bI])) ?_
            refine lv_if_ne (x := 0) (tgt := 80) hx hb d_Md_variant_75 (by decide) (fun c75 => ?_) (fun c75 => ?_)
            · exact absurd c75 (by decide)
            · skip
              refine lv_iconst (v := 0) hx hb d_Md_variant_78 (by decide) ?_
              exact W.iret (v := 0) hx hb hr (fun t ht hW => ⟨⟨0, H, rfl, by dsimp only; have e1 : (isN n q && !decide (4 ≤ mn (tn q)) && !decide (pn ≤ 0)) = false := (by first | (simp [c12, c22, c29, c38, c43]; done) | (simp [c12, c22, c29, c38, c43]; omega) | omega | simp_all); have e2 : (!decide (lg < 0) && !decide (5 < lg) && isD fr && isD to && !decide (to < fr)) = false := (by first | (simp [c12, c22, c29, c38, c43]; done) | (simp [c12, c22, c29, c38, c43]; omega) | omega | simp_all); rw [e1, e2]; rw [if_neg (show ¬ goB (isN n q) false false = true by simp [goB])]; exact ⟨hI, rfl⟩, ht⟩, hS.F ht⟩) hS.2.2 d_Md_variant_79
          · skip
            refine lv_iload_n hx hb d_Md_variant_46 rfl (lv_at hl 4 rfl) ?_
            refine h_calli (va_runS (As := [.int fr]) (rest := [.int 0, .int (bI (isN n q)), .ref x]) ⟨hx, hb, hml, hown, htg⟩ (c_Md_isDay l D cs N0 H x g i f fr hsep hI) (cwS 1 htg (gw_S (gw_mem (i := 1112) (by decide +kernel) rfl) (gw_mem (i := 1113) (by decide +kernel) rfl) (gw_mem (i := 38) (by decide +kernel) rfl) (gw_mem (i := 1114) (by decide +kernel) rfl)) rfl rfl rfl (by decide +kernel) ⟨Nat.le_of_ble_eq_true rfl, Nat.le_of_ble_eq_true rfl⟩) ⟨hPre.blind, hPre.at hB hS hsep.A⟩ rfl rfl hl.1 rfl (lv_room (Nat.le_of_ble_eq_true rfl)) d_Md_variant_47 ⟨Nat.zero_le _, Nat.zero_le _⟩) hS (fun _ h => h) (fun r47 H locs hp hz hk hS => ?_)
            obtain ⟨hI, er47⟩ := hp
            refine lv_eqi (y := (bI (isD fr))) er47 ?_
            refine lv_if_eq (x := (bI (isD fr))) (tgt := 71) hx hb d_Md_variant_50 (by decide) (fun c50 => ?_) (fun c50 => ?_)
            · skip
              replace c50 : (isD fr) = false := bI_0 c50
              refine lv_iconst (v := 0) hx hb d_Md_variant_71 (by decide) ?_
              refine h_calli (va_runV (As := [.int (bI (isN n q)), .int 0, .int 0]) (rest := []) ⟨hx, hb, hml, hown, htg⟩ (c_Md_goes l D cs N0 H x g i f (isN n q) false false hsep hI) (cwV 3 htg (gw_V (gw_mem (i := 1092) (by decide +kernel) rfl) (gw_mem (i := 1094) (by decide +kernel) rfl) (gw_mem (i := 18) (by decide +kernel) rfl) (gw_mem (i := 38) (by decide +kernel) rfl) (gw_mem (i := 1095) (by decide +kernel) rfl)) rfl rfl rfl (by decide +kernel) ⟨Nat.le_of_ble_eq_true rfl, Nat.le_of_ble_eq_true rfl⟩) ⟨hPre.blind, hx_recv hK (ci := 0) rfl hI.1, hPre.at hB hS hsep.A⟩ rfl rfl hl.1 rfl (lv_room (Nat.le_of_ble_eq_true rfl)) d_Md_variant_72 ⟨Nat.zero_le _, Nat.zero_le _⟩) hS (fun _ h => h) (fun r72 H locs hp hz hk hS => ?_)
              obtain ⟨hI, er72⟩ := hp
              refine lv_eqi (y := 0) (er72.trans (by simp [goB, bI])) ?_
              refine lv_if_ne (x := 0) (tgt := 80) hx hb d_Md_variant_75 (by decide) (fun c75 => ?_) (fun c75 => ?_)
              · exact absurd c75 (by decide)
              · skip
                refine lv_iconst (v := 0) hx hb d_Md_variant_78 (by decide) ?_
                exact W.iret (v := 0) hx hb hr (fun t ht hW => ⟨⟨0, H, rfl, by dsimp only; have e1 : (isN n q && !decide (4 ≤ mn (tn q)) && !decide (pn ≤ 0)) = false := (by first | (simp [c12, c22, c29, c38, c43, c50]; done) | (simp [c12, c22, c29, c38, c43, c50]; omega) | omega | simp_all); have e2 : (!decide (lg < 0) && !decide (5 < lg) && isD fr && isD to && !decide (to < fr)) = false := (by first | (simp [c12, c22, c29, c38, c43, c50]; done) | (simp [c12, c22, c29, c38, c43, c50]; omega) | omega | simp_all); rw [e1, e2]; rw [if_neg (show ¬ goB (isN n q) false false = true by simp [goB])]; exact ⟨hI, rfl⟩, ht⟩, hS.F ht⟩) hS.2.2 d_Md_variant_79
            · skip
              replace c50 : (isD fr) = true := bI_1 c50
              refine lv_iload hx hb d_Md_variant_53 (lv_at hl 5 rfl) ?_
              refine h_calli (va_runS (As := [.int to]) (rest := [.int 0, .int (bI (isN n q)), .ref x]) ⟨hx, hb, hml, hown, htg⟩ (c_Md_isDay l D cs N0 H x g i f to hsep hI) (cwS 1 htg (gw_S (gw_mem (i := 1112) (by decide +kernel) rfl) (gw_mem (i := 1113) (by decide +kernel) rfl) (gw_mem (i := 38) (by decide +kernel) rfl) (gw_mem (i := 1114) (by decide +kernel) rfl)) rfl rfl rfl (by decide +kernel) ⟨Nat.le_of_ble_eq_true rfl, Nat.le_of_ble_eq_true rfl⟩) ⟨hPre.blind, hPre.at hB hS hsep.A⟩ rfl rfl hl.1 rfl (lv_room (Nat.le_of_ble_eq_true rfl)) d_Md_variant_55 ⟨Nat.zero_le _, Nat.zero_le _⟩) hS (fun _ h => h) (fun r55 H locs hp hz hk hS => ?_)
              obtain ⟨hI, er55⟩ := hp
              refine lv_eqi (y := (bI (isD to))) er55 ?_
              refine lv_if_eq (x := (bI (isD to))) (tgt := 71) hx hb d_Md_variant_58 (by decide) (fun c58 => ?_) (fun c58 => ?_)
              · skip
                replace c58 : (isD to) = false := bI_0 c58
                refine lv_iconst (v := 0) hx hb d_Md_variant_71 (by decide) ?_
                refine h_calli (va_runV (As := [.int (bI (isN n q)), .int 0, .int 0]) (rest := []) ⟨hx, hb, hml, hown, htg⟩ (c_Md_goes l D cs N0 H x g i f (isN n q) false false hsep hI) (cwV 3 htg (gw_V (gw_mem (i := 1092) (by decide +kernel) rfl) (gw_mem (i := 1094) (by decide +kernel) rfl) (gw_mem (i := 18) (by decide +kernel) rfl) (gw_mem (i := 38) (by decide +kernel) rfl) (gw_mem (i := 1095) (by decide +kernel) rfl)) rfl rfl rfl (by decide +kernel) ⟨Nat.le_of_ble_eq_true rfl, Nat.le_of_ble_eq_true rfl⟩) ⟨hPre.blind, hx_recv hK (ci := 0) rfl hI.1, hPre.at hB hS hsep.A⟩ rfl rfl hl.1 rfl (lv_room (Nat.le_of_ble_eq_true rfl)) d_Md_variant_72 ⟨Nat.zero_le _, Nat.zero_le _⟩) hS (fun _ h => h) (fun r72 H locs hp hz hk hS => ?_)
                obtain ⟨hI, er72⟩ := hp
                refine lv_eqi (y := 0) (er72.trans (by simp [goB, bI])) ?_
                refine lv_if_ne (x := 0) (tgt := 80) hx hb d_Md_variant_75 (by decide) (fun c75 => ?_) (fun c75 => ?_)
                · exact absurd c75 (by decide)
                · skip
                  refine lv_iconst (v := 0) hx hb d_Md_variant_78 (by decide) ?_
                  exact W.iret (v := 0) hx hb hr (fun t ht hW => ⟨⟨0, H, rfl, by dsimp only; have e1 : (isN n q && !decide (4 ≤ mn (tn q)) && !decide (pn ≤ 0)) = false := (by first | (simp [c12, c22, c29, c38, c43, c50, c58]; done) | (simp [c12, c22, c29, c38, c43, c50, c58]; omega) | omega | simp_all); have e2 : (!decide (lg < 0) && !decide (5 < lg) && isD fr && isD to && !decide (to < fr)) = false := (by first | (simp [c12, c22, c29, c38, c43, c50, c58]; done) | (simp [c12, c22, c29, c38, c43, c50, c58]; omega) | omega | simp_all); rw [e1, e2]; rw [if_neg (show ¬ goB (isN n q) false false = true by simp [goB])]; exact ⟨hI, rfl⟩, ht⟩, hS.F ht⟩) hS.2.2 d_Md_variant_79
              · skip
                replace c58 : (isD to) = true := bI_1 c58
                refine lv_iload_n hx hb d_Md_variant_61 rfl (lv_at hl 4 rfl) ?_
                refine lv_iload hx hb d_Md_variant_62 (lv_at hl 5 rfl) ?_
                refine lv_icmp_gt (x := fr) (y := to) (tgt := 71) hx hb d_Md_variant_64 (by decide) (fun c64 => ?_) (fun c64 => ?_)
                · skip
                  refine lv_iconst (v := 0) hx hb d_Md_variant_71 (by decide) ?_
                  refine h_calli (va_runV (As := [.int (bI (isN n q)), .int 0, .int 0]) (rest := []) ⟨hx, hb, hml, hown, htg⟩ (c_Md_goes l D cs N0 H x g i f (isN n q) false false hsep hI) (cwV 3 htg (gw_V (gw_mem (i := 1092) (by decide +kernel) rfl) (gw_mem (i := 1094) (by decide +kernel) rfl) (gw_mem (i := 18) (by decide +kernel) rfl) (gw_mem (i := 38) (by decide +kernel) rfl) (gw_mem (i := 1095) (by decide +kernel) rfl)) rfl rfl rfl (by decide +kernel) ⟨Nat.le_of_ble_eq_true rfl, Nat.le_of_ble_eq_true rfl⟩) ⟨hPre.blind, hx_recv hK (ci := 0) rfl hI.1, hPre.at hB hS hsep.A⟩ rfl rfl hl.1 rfl (lv_room (Nat.le_of_ble_eq_true rfl)) d_Md_variant_72 ⟨Nat.zero_le _, Nat.zero_le _⟩) hS (fun _ h => h) (fun r72 H locs hp hz hk hS => ?_)
                  obtain ⟨hI, er72⟩ := hp
                  refine lv_eqi (y := 0) (er72.trans (by simp [goB, bI])) ?_
                  refine lv_if_ne (x := 0) (tgt := 80) hx hb d_Md_variant_75 (by decide) (fun c75 => ?_) (fun c75 => ?_)
                  · exact absurd c75 (by decide)
                  · skip
                    refine lv_iconst (v := 0) hx hb d_Md_variant_78 (by decide) ?_
                    exact W.iret (v := 0) hx hb hr (fun t ht hW => ⟨⟨0, H, rfl, by dsimp only; have e1 : (isN n q && !decide (4 ≤ mn (tn q)) && !decide (pn ≤ 0)) = false := (by first | (simp [c12, c22, c29, c38, c43, c50, c58, c64]; done) | (simp [c12, c22, c29, c38, c43, c50, c58, c64]; omega) | omega | simp_all); have e2 : (!decide (lg < 0) && !decide (5 < lg) && isD fr && isD to && !decide (to < fr)) = false := (by first | (simp [c12, c22, c29, c38, c43, c50, c58, c64]; done) | (simp [c12, c22, c29, c38, c43, c50, c58, c64]; omega) | omega | simp_all); rw [e1, e2]; rw [if_neg (show ¬ goB (isN n q) false false = true by simp [goB])]; exact ⟨hI, rfl⟩, ht⟩, hS.F ht⟩) hS.2.2 d_Md_variant_79
                · skip
                  refine lv_iconst (v := 1) hx hb d_Md_variant_67 (by decide) ?_
                  refine lv_goto (tgt := 72) hx hb d_Md_variant_68 (by decide) ?_
                  refine h_calli (va_runV (As := [.int (bI (isN n q)), .int 0, .int 1]) (rest := []) ⟨hx, hb, hml, hown, htg⟩ (c_Md_goes l D cs N0 H x g i f (isN n q) false true hsep hI) (cwV 3 htg (gw_V (gw_mem (i := 1092) (by decide +kernel) rfl) (gw_mem (i := 1094) (by decide +kernel) rfl) (gw_mem (i := 18) (by decide +kernel) rfl) (gw_mem (i := 38) (by decide +kernel) rfl) (gw_mem (i := 1095) (by decide +kernel) rfl)) rfl rfl rfl (by decide +kernel) ⟨Nat.le_of_ble_eq_true rfl, Nat.le_of_ble_eq_true rfl⟩) ⟨hPre.blind, hx_recv hK (ci := 0) rfl hI.1, hPre.at hB hS hsep.A⟩ rfl rfl hl.1 rfl (lv_room (Nat.le_of_ble_eq_true rfl)) d_Md_variant_72 ⟨Nat.zero_le _, Nat.zero_le _⟩) hS (fun _ h => h) (fun r72 H locs hp hz hk hS => ?_)
                  obtain ⟨hI, er72⟩ := hp
                  refine lv_eqi (y := 0) (er72.trans (by simp [goB, bI])) ?_
                  refine lv_if_ne (x := 0) (tgt := 80) hx hb d_Md_variant_75 (by decide) (fun c75 => ?_) (fun c75 => ?_)
                  · exact absurd c75 (by decide)
                  · skip
                    refine lv_iconst (v := 0) hx hb d_Md_variant_78 (by decide) ?_
                    exact W.iret (v := 0) hx hb hr (fun t ht hW => ⟨⟨0, H, rfl, by dsimp only; have e1 : (isN n q && !decide (4 ≤ mn (tn q)) && !decide (pn ≤ 0)) = false := (by first | (simp [c12, c22, c29, c38, c43, c50, c58, c64]; done) | (simp [c12, c22, c29, c38, c43, c50, c58, c64]; omega) | omega | simp_all); have e2 : (!decide (lg < 0) && !decide (5 < lg) && isD fr && isD to && !decide (to < fr)) = true := (by first | (simp [c12, c22, c29, c38, c43, c50, c58, c64]; done) | (simp [c12, c22, c29, c38, c43, c50, c58, c64]; omega) | omega | simp_all); rw [e1, e2]; rw [if_neg (show ¬ goB (isN n q) false true = true by simp [goB])]; exact ⟨hI, rfl⟩, ht⟩, hS.F ht⟩) hS.2.2 d_Md_variant_79
      · skip
        replace c29 : ¬ (pn ≤ 0) := fun z9 => c29 ((nI_leI (a := pn) (b := 0) (by omega) (by omega)).mpr z9)
        refine lv_iconst (v := 1) hx hb d_Md_variant_32 (by decide) ?_
        refine lv_goto (tgt := 37) hx hb d_Md_variant_33 (by decide) ?_
        refine lv_iload_n hx hb d_Md_variant_37 rfl (lv_at hl 3 rfl) ?_
        refine lv_if_lt (x := lg) (tgt := 71) hx hb d_Md_variant_38 (by decide) (fun c38 => ?_) (fun c38 => ?_)
        · skip
          refine lv_iconst (v := 0) hx hb d_Md_variant_71 (by decide) ?_
          refine h_calli (va_runV (As := [.int (bI (isN n q)), .int 1, .int 0]) (rest := []) ⟨hx, hb, hml, hown, htg⟩ (c_Md_goes l D cs N0 H x g i f (isN n q) true false hsep hI) (cwV 3 htg (gw_V (gw_mem (i := 1092) (by decide +kernel) rfl) (gw_mem (i := 1094) (by decide +kernel) rfl) (gw_mem (i := 18) (by decide +kernel) rfl) (gw_mem (i := 38) (by decide +kernel) rfl) (gw_mem (i := 1095) (by decide +kernel) rfl)) rfl rfl rfl (by decide +kernel) ⟨Nat.le_of_ble_eq_true rfl, Nat.le_of_ble_eq_true rfl⟩) ⟨hPre.blind, hx_recv hK (ci := 0) rfl hI.1, hPre.at hB hS hsep.A⟩ rfl rfl hl.1 rfl (lv_room (Nat.le_of_ble_eq_true rfl)) d_Md_variant_72 ⟨Nat.zero_le _, Nat.zero_le _⟩) hS (fun _ h => h) (fun r72 H locs hp hz hk hS => ?_)
          obtain ⟨hI, er72⟩ := hp
          refine lv_eqi (y := 0) (er72.trans (by simp [goB, bI])) ?_
          refine lv_if_ne (x := 0) (tgt := 80) hx hb d_Md_variant_75 (by decide) (fun c75 => ?_) (fun c75 => ?_)
          · exact absurd c75 (by decide)
          · skip
            refine lv_iconst (v := 0) hx hb d_Md_variant_78 (by decide) ?_
            exact W.iret (v := 0) hx hb hr (fun t ht hW => ⟨⟨0, H, rfl, by dsimp only; have e1 : (isN n q && !decide (4 ≤ mn (tn q)) && !decide (pn ≤ 0)) = true := (by first | (simp [c12, c22, c29, c38]; done) | (simp [c12, c22, c29, c38]; omega) | omega | simp_all); have e2 : (!decide (lg < 0) && !decide (5 < lg) && isD fr && isD to && !decide (to < fr)) = false := (by first | (simp [c12, c22, c29, c38]; done) | (simp [c12, c22, c29, c38]; omega) | omega | simp_all); rw [e1, e2]; rw [if_neg (show ¬ goB (isN n q) true false = true by simp [goB])]; exact ⟨hI, rfl⟩, ht⟩, hS.F ht⟩) hS.2.2 d_Md_variant_79
        · skip
          refine lv_iload_n hx hb d_Md_variant_41 rfl (lv_at hl 3 rfl) ?_
          refine lv_iconst (v := 5) hx hb d_Md_variant_42 (by decide) ?_
          refine lv_icmp_gt (x := lg) (y := 5) (tgt := 71) hx hb d_Md_variant_43 (by decide) (fun c43 => ?_) (fun c43 => ?_)
          · skip
            refine lv_iconst (v := 0) hx hb d_Md_variant_71 (by decide) ?_
            refine h_calli (va_runV (As := [.int (bI (isN n q)), .int 1, .int 0]) (rest := []) ⟨hx, hb, hml, hown, htg⟩ (c_Md_goes l D cs N0 H x g i f (isN n q) true false hsep hI) (cwV 3 htg (gw_V (gw_mem (i := 1092) (by decide +kernel) rfl) (gw_mem (i := 1094) (by decide +kernel) rfl) (gw_mem (i := 18) (by decide +kernel) rfl) (gw_mem (i := 38) (by decide +kernel) rfl) (gw_mem (i := 1095) (by decide +kernel) rfl)) rfl rfl rfl (by decide +kernel) ⟨Nat.le_of_ble_eq_true rfl, Nat.le_of_ble_eq_true rfl⟩) ⟨hPre.blind, hx_recv hK (ci := 0) rfl hI.1, hPre.at hB hS hsep.A⟩ rfl rfl hl.1 rfl (lv_room (Nat.le_of_ble_eq_true rfl)) d_Md_variant_72 ⟨Nat.zero_le _, Nat.zero_le _⟩) hS (fun _ h => h) (fun r72 H locs hp hz hk hS => ?_)
            obtain ⟨hI, er72⟩ := hp
            refine lv_eqi (y := 0) (er72.trans (by simp [goB, bI])) ?_
            refine lv_if_ne (x := 0) (tgt := 80) hx hb d_Md_variant_75 (by decide) (fun c75 => ?_) (fun c75 => ?_)
            · exact absurd c75 (by decide)
            · skip
              refine lv_iconst (v := 0) hx hb d_Md_variant_78 (by decide) ?_
              exact W.iret (v := 0) hx hb hr (fun t ht hW => ⟨⟨0, H, rfl, by dsimp only; have e1 : (isN n q && !decide (4 ≤ mn (tn q)) && !decide (pn ≤ 0)) = true := (by first | (simp [c12, c22, c29, c38, c43]; done) | (simp [c12, c22, c29, c38, c43]; omega) | omega | simp_all); have e2 : (!decide (lg < 0) && !decide (5 < lg) && isD fr && isD to && !decide (to < fr)) = false := (by first | (simp [c12, c22, c29, c38, c43]; done) | (simp [c12, c22, c29, c38, c43]; omega) | omega | simp_all); rw [e1, e2]; rw [if_neg (show ¬ goB (isN n q) true false = true by simp [goB])]; exact ⟨hI, rfl⟩, ht⟩, hS.F ht⟩) hS.2.2 d_Md_variant_79
          · skip
            refine lv_iload_n hx hb d_Md_variant_46 rfl (lv_at hl 4 rfl) ?_
            refine h_calli (va_runS (As := [.int fr]) (rest := [.int 1, .int (bI (isN n q)), .ref x]) ⟨hx, hb, hml, hown, htg⟩ (c_Md_isDay l D cs N0 H x g i f fr hsep hI) (cwS 1 htg (gw_S (gw_mem (i := 1112) (by decide +kernel) rfl) (gw_mem (i := 1113) (by decide +kernel) rfl) (gw_mem (i := 38) (by decide +kernel) rfl) (gw_mem (i := 1114) (by decide +kernel) rfl)) rfl rfl rfl (by decide +kernel) ⟨Nat.le_of_ble_eq_true rfl, Nat.le_of_ble_eq_true rfl⟩) ⟨hPre.blind, hPre.at hB hS hsep.A⟩ rfl rfl hl.1 rfl (lv_room (Nat.le_of_ble_eq_true rfl)) d_Md_variant_47 ⟨Nat.zero_le _, Nat.zero_le _⟩) hS (fun _ h => h) (fun r47 H locs hp hz hk hS => ?_)
            obtain ⟨hI, er47⟩ := hp
            refine lv_eqi (y := (bI (isD fr))) er47 ?_
            refine lv_if_eq (x := (bI (isD fr))) (tgt := 71) hx hb d_Md_variant_50 (by decide) (fun c50 => ?_) (fun c50 => ?_)
            · skip
              replace c50 : (isD fr) = false := bI_0 c50
              refine lv_iconst (v := 0) hx hb d_Md_variant_71 (by decide) ?_
              refine h_calli (va_runV (As := [.int (bI (isN n q)), .int 1, .int 0]) (rest := []) ⟨hx, hb, hml, hown, htg⟩ (c_Md_goes l D cs N0 H x g i f (isN n q) true false hsep hI) (cwV 3 htg (gw_V (gw_mem (i := 1092) (by decide +kernel) rfl) (gw_mem (i := 1094) (by decide +kernel) rfl) (gw_mem (i := 18) (by decide +kernel) rfl) (gw_mem (i := 38) (by decide +kernel) rfl) (gw_mem (i := 1095) (by decide +kernel) rfl)) rfl rfl rfl (by decide +kernel) ⟨Nat.le_of_ble_eq_true rfl, Nat.le_of_ble_eq_true rfl⟩) ⟨hPre.blind, hx_recv hK (ci := 0) rfl hI.1, hPre.at hB hS hsep.A⟩ rfl rfl hl.1 rfl (lv_room (Nat.le_of_ble_eq_true rfl)) d_Md_variant_72 ⟨Nat.zero_le _, Nat.zero_le _⟩) hS (fun _ h => h) (fun r72 H locs hp hz hk hS => ?_)
              obtain ⟨hI, er72⟩ := hp
              refine lv_eqi (y := 0) (er72.trans (by simp [goB, bI])) ?_
              refine lv_if_ne (x := 0) (tgt := 80) hx hb d_Md_variant_75 (by decide) (fun c75 => ?_) (fun c75 => ?_)
              · exact absurd c75 (by decide)
              · skip
                refine lv_iconst (v := 0) hx hb d_Md_variant_78 (by decide) ?_
                exact W.iret (v := 0) hx hb hr (fun t ht hW => ⟨⟨0, H, rfl, by dsimp only; have e1 : (isN n q && !decide (4 ≤ mn (tn q)) && !decide (pn ≤ 0)) = true := (by first | (simp [c12, c22, c29, c38, c43, c50]; done) | (simp [c12, c22, c29, c38, c43, c50]; omega) | omega | simp_all); have e2 : (!decide (lg < 0) && !decide (5 < lg) && isD fr && isD to && !decide (to < fr)) = false := (by first | (simp [c12, c22, c29, c38, c43, c50]; done) | (simp [c12, c22, c29, c38, c43, c50]; omega) | omega | simp_all); rw [e1, e2]; rw [if_neg (show ¬ goB (isN n q) true false = true by simp [goB])]; exact ⟨hI, rfl⟩, ht⟩, hS.F ht⟩) hS.2.2 d_Md_variant_79
            · skip
              replace c50 : (isD fr) = true := bI_1 c50
              refine lv_iload hx hb d_Md_variant_53 (lv_at hl 5 rfl) ?_
              refine h_calli (va_runS (As := [.int to]) (rest := [.int 1, .int (bI (isN n q)), .ref x]) ⟨hx, hb, hml, hown, htg⟩ (c_Md_isDay l D cs N0 H x g i f to hsep hI) (cwS 1 htg (gw_S (gw_mem (i := 1112) (by decide +kernel) rfl) (gw_mem (i := 1113) (by decide +kernel) rfl) (gw_mem (i := 38) (by decide +kernel) rfl) (gw_mem (i := 1114) (by decide +kernel) rfl)) rfl rfl rfl (by decide +kernel) ⟨Nat.le_of_ble_eq_true rfl, Nat.le_of_ble_eq_true rfl⟩) ⟨hPre.blind, hPre.at hB hS hsep.A⟩ rfl rfl hl.1 rfl (lv_room (Nat.le_of_ble_eq_true rfl)) d_Md_variant_55 ⟨Nat.zero_le _, Nat.zero_le _⟩) hS (fun _ h => h) (fun r55 H locs hp hz hk hS => ?_)
              obtain ⟨hI, er55⟩ := hp
              refine lv_eqi (y := (bI (isD to))) er55 ?_
              refine lv_if_eq (x := (bI (isD to))) (tgt := 71) hx hb d_Md_variant_58 (by decide) (fun c58 => ?_) (fun c58 => ?_)
              · skip
                replace c58 : (isD to) = false := bI_0 c58
                refine lv_iconst (v := 0) hx hb d_Md_variant_71 (by decide) ?_
                refine h_calli (va_runV (As := [.int (bI (isN n q)), .int 1, .int 0]) (rest := []) ⟨hx, hb, hml, hown, htg⟩ (c_Md_goes l D cs N0 H x g i f (isN n q) true false hsep hI) (cwV 3 htg (gw_V (gw_mem (i := 1092) (by decide +kernel) rfl) (gw_mem (i := 1094) (by decide +kernel) rfl) (gw_mem (i := 18) (by decide +kernel) rfl) (gw_mem (i := 38) (by decide +kernel) rfl) (gw_mem (i := 1095) (by decide +kernel) rfl)) rfl rfl rfl (by decide +kernel) ⟨Nat.le_of_ble_eq_true rfl, Nat.le_of_ble_eq_true rfl⟩) ⟨hPre.blind, hx_recv hK (ci := 0) rfl hI.1, hPre.at hB hS hsep.A⟩ rfl rfl hl.1 rfl (lv_room (Nat.le_of_ble_eq_true rfl)) d_Md_variant_72 ⟨Nat.zero_le _, Nat.zero_le _⟩) hS (fun _ h => h) (fun r72 H locs hp hz hk hS => ?_)
                obtain ⟨hI, er72⟩ := hp
                refine lv_eqi (y := 0) (er72.trans (by simp [goB, bI])) ?_
                refine lv_if_ne (x := 0) (tgt := 80) hx hb d_Md_variant_75 (by decide) (fun c75 => ?_) (fun c75 => ?_)
                · exact absurd c75 (by decide)
                · skip
                  refine lv_iconst (v := 0) hx hb d_Md_variant_78 (by decide) ?_
                  exact W.iret (v := 0) hx hb hr (fun t ht hW => ⟨⟨0, H, rfl, by dsimp only; have e1 : (isN n q && !decide (4 ≤ mn (tn q)) && !decide (pn ≤ 0)) = true := (by first | (simp [c12, c22, c29, c38, c43, c50, c58]; done) | (simp [c12, c22, c29, c38, c43, c50, c58]; omega) | omega | simp_all); have e2 : (!decide (lg < 0) && !decide (5 < lg) && isD fr && isD to && !decide (to < fr)) = false := (by first | (simp [c12, c22, c29, c38, c43, c50, c58]; done) | (simp [c12, c22, c29, c38, c43, c50, c58]; omega) | omega | simp_all); rw [e1, e2]; rw [if_neg (show ¬ goB (isN n q) true false = true by simp [goB])]; exact ⟨hI, rfl⟩, ht⟩, hS.F ht⟩) hS.2.2 d_Md_variant_79
              · skip
                replace c58 : (isD to) = true := bI_1 c58
                refine lv_iload_n hx hb d_Md_variant_61 rfl (lv_at hl 4 rfl) ?_
                refine lv_iload hx hb d_Md_variant_62 (lv_at hl 5 rfl) ?_
                refine lv_icmp_gt (x := fr) (y := to) (tgt := 71) hx hb d_Md_variant_64 (by decide) (fun c64 => ?_) (fun c64 => ?_)
                · skip
                  refine lv_iconst (v := 0) hx hb d_Md_variant_71 (by decide) ?_
                  refine h_calli (va_runV (As := [.int (bI (isN n q)), .int 1, .int 0]) (rest := []) ⟨hx, hb, hml, hown, htg⟩ (c_Md_goes l D cs N0 H x g i f (isN n q) true false hsep hI) (cwV 3 htg (gw_V (gw_mem (i := 1092) (by decide +kernel) rfl) (gw_mem (i := 1094) (by decide +kernel) rfl) (gw_mem (i := 18) (by decide +kernel) rfl) (gw_mem (i := 38) (by decide +kernel) rfl) (gw_mem (i := 1095) (by decide +kernel) rfl)) rfl rfl rfl (by decide +kernel) ⟨Nat.le_of_ble_eq_true rfl, Nat.le_of_ble_eq_true rfl⟩) ⟨hPre.blind, hx_recv hK (ci := 0) rfl hI.1, hPre.at hB hS hsep.A⟩ rfl rfl hl.1 rfl (lv_room (Nat.le_of_ble_eq_true rfl)) d_Md_variant_72 ⟨Nat.zero_le _, Nat.zero_le _⟩) hS (fun _ h => h) (fun r72 H locs hp hz hk hS => ?_)
                  obtain ⟨hI, er72⟩ := hp
                  refine lv_eqi (y := 0) (er72.trans (by simp [goB, bI])) ?_
                  refine lv_if_ne (x := 0) (tgt := 80) hx hb d_Md_variant_75 (by decide) (fun c75 => ?_) (fun c75 => ?_)
                  · exact absurd c75 (by decide)
                  · skip
                    refine lv_iconst (v := 0) hx hb d_Md_variant_78 (by decide) ?_
                    exact W.iret (v := 0) hx hb hr (fun t ht hW => ⟨⟨0, H, rfl, by dsimp only; have e1 : (isN n q && !decide (4 ≤ mn (tn q)) && !decide (pn ≤ 0)) = true := (by first | (simp [c12, c22, c29, c38, c43, c50, c58, c64]; done) | (simp [c12, c22, c29, c38, c43, c50, c58, c64]; omega) | omega | simp_all); have e2 : (!decide (lg < 0) && !decide (5 < lg) && isD fr && isD to && !decide (to < fr)) = false := (by first | (simp [c12, c22, c29, c38, c43, c50, c58, c64]; done) | (simp [c12, c22, c29, c38, c43, c50, c58, c64]; omega) | omega | simp_all); rw [e1, e2]; rw [if_neg (show ¬ goB (isN n q) true false = true by simp [goB])]; exact ⟨hI, rfl⟩, ht⟩, hS.F ht⟩) hS.2.2 d_Md_variant_79
                · skip
                  refine lv_iconst (v := 1) hx hb d_Md_variant_67 (by decide) ?_
                  refine lv_goto (tgt := 72) hx hb d_Md_variant_68 (by decide) ?_
                  refine h_calli (va_runV (As := [.int (bI (isN n q)), .int 1, .int 1]) (rest := []) ⟨hx, hb, hml, hown, htg⟩ (c_Md_goes l D cs N0 H x g i f (isN n q) true true hsep hI) (cwV 3 htg (gw_V (gw_mem (i := 1092) (by decide +kernel) rfl) (gw_mem (i := 1094) (by decide +kernel) rfl) (gw_mem (i := 18) (by decide +kernel) rfl) (gw_mem (i := 38) (by decide +kernel) rfl) (gw_mem (i := 1095) (by decide +kernel) rfl)) rfl rfl rfl (by decide +kernel) ⟨Nat.le_of_ble_eq_true rfl, Nat.le_of_ble_eq_true rfl⟩) ⟨hPre.blind, hx_recv hK (ci := 0) rfl hI.1, hPre.at hB hS hsep.A⟩ rfl rfl hl.1 rfl (lv_room (Nat.le_of_ble_eq_true rfl)) d_Md_variant_72 ⟨Nat.zero_le _, Nat.zero_le _⟩) hS (fun _ h => h) (fun r72 H locs hp hz hk hS => ?_)
                  obtain ⟨hI, er72⟩ := hp
                  refine lv_eqi (y := (bI (goB (isN n q) true true))) er72 ?_
                  refine lv_if_ne (x := (bI (goB (isN n q) true true))) (tgt := 80) hx hb d_Md_variant_75 (by decide) (fun c75 => ?_) (fun c75 => ?_)
                  · skip
                    replace c75 : (goB (isN n q) true true) = true := bI_1 c75
                    refine lv_iconst (v := 4) hx hb d_Md_variant_80 (by decide) ?_
                    refine lv_iload_n hx hb d_Md_variant_81 rfl (lv_at hl 2 rfl) ?_
                    refine lv_eqi (y := (nI (tn q))) ea ?_
                    refine lv_imul (x := 4) (y := (nI (tn q))) hx hb d_Md_variant_82 ?_
                    refine lv_eqi (y := (nI (4 * (tn q)))) (pk_mul 4 (tn q)) ?_
                    refine lv_aload_n hx hb d_Md_variant_83 rfl (lv_at hl 1 rfl) ?_
                    refine hx_get (v := .ref (g 1)) hx hb htg iMd hown hK hI.1 rfl 4 (by decide) (htg _ (gw_mem (i := 1002) (by decide +kernel) rfl)) (fun _ h9 => h9) rfl d_Md_variant_84 ?_
                    refine lv_iload_n hx hb d_Md_variant_87 rfl (lv_at hl 2 rfl) ?_
                    refine lv_eqi (y := (nI (tn q))) ea ?_
                    refine hx_iald hx hb hK 0 (hI.2 1 (by decide)) rfl (show vp_in (nI (tn q)) 24 from vp_in_nI (n := tn q) (by omega) (by decide)) d_Md_variant_88 ?_
                    refine lv_eqi (y := (f 1 (tn q))) (show f 1 (nI (tn q)).toNatClampNeg = _ by rw [nI_clamp (by omega)]) ?_
                    refine lv_eqi (y := (nI (mn (tn q)))) hmq.1 ?_
                    refine lv_iadd (x := (nI (4 * (tn q)))) (y := (nI (mn (tn q)))) hx hb d_Md_variant_89 ?_
                    refine lv_eqi (y := (nI (4 * (tn q) + mn (tn q)))) (nI_add (4 * (tn q)) (mn (tn q))) ?_
                    refine lv_istore (lv' := [(6, .int (nI (4 * (tn q) + mn (tn q)))), (5, .int (bI (isN n q))), (0, .ref x), (1, .int q), (2, .int lg), (3, .int fr), (4, .int to)]) hx hb d_Md_variant_90 hl (by decide) rfl (fun ls hl => ?_)
                    refine lv_aload_n hx hb d_Md_variant_92 rfl (lv_at hl 2 rfl) ?_
                    refine hx_get (v := .ref (g 2)) hx hb htg iMd hown hK hI.1 rfl 5 (by decide) (htg _ (gw_mem (i := 1003) (by decide +kernel) rfl)) (fun _ h9 => h9) rfl d_Md_variant_93 ?_
                    refine lv_iload hx hb d_Md_variant_96 (lv_at hl 0 rfl) ?_
                    refine lv_aload_n hx hb d_Md_variant_98 rfl (lv_at hl 2 rfl) ?_
                    refine hx_get (v := .int (i 1)) hx hb htg iMd hown hK hI.1 rfl 1 (by decide) (htg _ (gw_mem (i := 999) (by decide +kernel) rfl)) (fun _ h9 => h9) rfl d_Md_variant_99 ?_
                    refine lv_eqi (y := (nI pn)) hpn ?_
                    refine hx_iast hx hb hK hS (Or.inr ⟨2, by decide, rfl⟩) 0 (hI.2 2 (by decide)) rfl (show vp_in (nI (4 * (tn q) + mn (tn q))) 96 from vp_in_nI (n := 4 * (tn q) + mn (tn q)) (by omega) (by decide)) d_Md_variant_102 (fun H locs hat hz ho hS => ?_)
                    replace hI : md_I D cs H x g (upd i 0 (goV (isN n q) true true)) (updA f 2 (4 * (tn q) + mn (tn q)) ((nI pn))) := md_I.puta hI hsep (by decide) (by rw [show ((nI (4 * (tn q) + mn (tn q))) : Int32).toNatClampNeg = 4 * (tn q) + mn (tn q) from nI_clamp (n := 4 * (tn q) + mn (tn q)) (by omega)] at hat; exact hat) ho
                    refine lv_iconst (v := 0) hx hb d_Md_variant_103 (by decide) ?_
                    refine lv_istore (lv' := [(7, .int 0), (6, .int (nI (4 * (tn q) + mn (tn q)))), (5, .int (bI (isN n q))), (0, .ref x), (1, .int q), (2, .int lg), (3, .int fr), (4, .int to)]) hx hb d_Md_variant_104 hl (by decide) rfl (fun ls hl => ?_)
                    have loop106 : ∀ (fuel : Nat) (S3 : Nat → Int32) (k : Nat), pn - k < fuel → (k ≤ pn) → (∀ j, j < k → S3 (12 * (4 * tn q + mn (tn q)) + j) = f 0 j) → (∀ j, (j < 12 * (4 * tn q + mn (tn q)) ∨ 12 * (4 * tn q + mn (tn q)) + k ≤ j) → S3 j = f 3 j) → ∀ (H : Heap) (locs : List Loc), md_I D cs H x g (upd i 0 (goV (isN n q) true true)) (setA (updA f 2 (4 * tn q + mn (tn q)) (nI pn)) 3 S3) → va_S (md_A x g) s.heap H locs → ∀ (ls : Array Slot), lv_has ls 8 [(0, .ref x), (1, .int q), (2, .int lg), (3, .int fr), (4, .int to), (6, .int (nI (4 * tn q + mn (tn q)))), (7, .int (nI k))] → W p l e (headSpec w_Md_variant ({ frames := 1, cells := 0, slots := 0, locals := 23 })).room s m ([.ref x, .int q, .int lg, .int fr, .int to] : List Value).toArray below meth c H locs 0 0 (MQ below (hQi (fun r H' => if goB (isN n q) (isN n q && !decide (4 ≤ mn (tn q)) && !decide (pn ≤ 0)) (!decide (lg < 0) && !decide (5 < lg) && isD fr && isD to && !decide (to < fr)) = true then (∃ S3 : Nat → Int32, md_I D cs H' x g (upd (upd i 0 (goV (isN n q) (isN n q && !decide (4 ≤ mn (tn q)) && !decide (pn ≤ 0)) (!decide (lg < 0) && !decide (5 < lg) && isD fr && isD to && !decide (to < fr)))) 1 0) (updA (updA (updA (updA (setA (updA f 2 (4 * tn q + mn (tn q)) (nI pn)) 3 S3) 4 (4 * tn q + mn (tn q)) lg) 5 (4 * tn q + mn (tn q)) fr) 6 (4 * tn q + mn (tn q)) to) 1 (tn q) (nI (mn (tn q) + 1))) ∧ (∀ j, j < pn → S3 (12 * (4 * tn q + mn (tn q)) + j) = f 0 j) ∧ (∀ j, (j < 12 * (4 * tn q + mn (tn q)) ∨ 12 * (4 * tn q + mn (tn q)) + pn ≤ j) → S3 j = f 3 j) ∧ r = nI (mn (tn q) + 1)) else (md_I D cs H' x g (upd i 0 (goV (isN n q) (isN n q && !decide (4 ≤ mn (tn q)) && !decide (pn ≤ 0)) (!decide (lg < 0) && !decide (5 < lg) && isD fr && isD to && !decide (to < fr)))) f ∧ r = 0)) (md_A x g)) ([.ref x, .int q, .int lg, .int fr, .int to] : List Value).toArray s 0 0 (md_A x g)) (F0 m 106 ls []) := by
                      intro fuel106
                      induction fuel106 with
                      | zero => intro S3 k hn; exact absurd hn (Nat.not_lt_zero _)
                      | succ fuel106 ih106 =>
                        intro S3 k hn106 hk hS1 hS2 H locs hI hS ls hl
                        refine lv_iload hx hb d_Md_variant_106 (lv_at hl 6 rfl) ?_
                        refine lv_aload_n hx hb d_Md_variant_108 rfl (lv_at hl 0 rfl) ?_
                        refine hx_get (v := .int (i 1)) hx hb htg iMd hown hK hI.1 rfl 1 (by decide) (htg _ (gw_mem (i := 999) (by decide +kernel) rfl)) (fun _ h9 => h9) rfl d_Md_variant_109 ?_
                        refine lv_eqi (y := (nI pn)) hpn ?_
                        refine lv_icmp_ge (x := (nI k)) (y := (nI pn)) (tgt := 141) hx hb d_Md_variant_112 (by decide) (fun c112 => ?_) (fun c112 => ?_)
                        · skip
                          replace c112 : pn ≤ k := (nI_leI (a := pn) (b := k) (by omega) (by omega)).mp c112
                          refine lv_aload_n hx hb d_Md_variant_141 rfl (lv_at hl 0 rfl) ?_
                          refine hx_get (v := .ref (g 4)) hx hb htg iMd hown hK hI.1 rfl 7 (by decide) (htg _ (gw_mem (i := 1005) (by decide +kernel) rfl)) (fun _ h9 => h9) rfl d_Md_variant_142 ?_
                          refine lv_iload hx hb d_Md_variant_145 (lv_at hl 5 rfl) ?_
                          refine lv_iload_n hx hb d_Md_variant_147 rfl (lv_at hl 2 rfl) ?_
                          refine hx_iast hx hb hK hS (Or.inr ⟨4, by decide, rfl⟩) 0 (hI.2 4 (by decide)) rfl (show vp_in (nI (4 * tn q + mn (tn q))) 96 from vp_in_nI (n := 4 * tn q + mn (tn q)) (by omega) (by decide)) d_Md_variant_148 (fun H locs hat hz ho hS => ?_)
                          replace hI : md_I D cs H x g (upd i 0 (goV (isN n q) true true)) (updA (setA (updA f 2 (4 * tn q + mn (tn q)) (nI pn)) 3 S3) 4 (4 * tn q + mn (tn q)) (lg)) := md_I.puta hI hsep (by decide) (by rw [show ((nI (4 * tn q + mn (tn q))) : Int32).toNatClampNeg = 4 * tn q + mn (tn q) from nI_clamp (n := 4 * tn q + mn (tn q)) (by omega)] at hat; exact hat) ho
                          refine lv_aload_n hx hb d_Md_variant_149 rfl (lv_at hl 0 rfl) ?_
                          refine hx_get (v := .ref (g 5)) hx hb htg iMd hown hK hI.1 rfl 8 (by decide) (htg _ (gw_mem (i := 1006) (by decide +kernel) rfl)) (fun _ h9 => h9) rfl d_Md_variant_150 ?_
                          refine lv_iload hx hb d_Md_variant_153 (lv_at hl 5 rfl) ?_
                          refine lv_iload_n hx hb d_Md_variant_155 rfl (lv_at hl 3 rfl) ?_
                          refine hx_iast hx hb hK hS (Or.inr ⟨5, by decide, rfl⟩) 0 (hI.2 5 (by decide)) rfl (show vp_in (nI (4 * tn q + mn (tn q))) 96 from vp_in_nI (n := 4 * tn q + mn (tn q)) (by omega) (by decide)) d_Md_variant_156 (fun H locs hat hz ho hS => ?_)
                          replace hI : md_I D cs H x g (upd i 0 (goV (isN n q) true true)) (updA (updA (setA (updA f 2 (4 * tn q + mn (tn q)) (nI pn)) 3 S3) 4 (4 * tn q + mn (tn q)) (lg)) 5 (4 * tn q + mn (tn q)) (fr)) := md_I.puta hI hsep (by decide) (by rw [show ((nI (4 * tn q + mn (tn q))) : Int32).toNatClampNeg = 4 * tn q + mn (tn q) from nI_clamp (n := 4 * tn q + mn (tn q)) (by omega)] at hat; exact hat) ho
                          refine lv_aload_n hx hb d_Md_variant_157 rfl (lv_at hl 0 rfl) ?_
                          refine hx_get (v := .ref (g 6)) hx hb htg iMd hown hK hI.1 rfl 9 (by decide) (htg _ (gw_mem (i := 1007) (by decide +kernel) rfl)) (fun _ h9 => h9) rfl d_Md_variant_158 ?_
                          refine lv_iload hx hb d_Md_variant_161 (lv_at hl 5 rfl) ?_
                          refine lv_iload hx hb d_Md_variant_163 (lv_at hl 4 rfl) ?_
                          refine hx_iast hx hb hK hS (Or.inr ⟨6, by decide, rfl⟩) 0 (hI.2 6 (by decide)) rfl (show vp_in (nI (4 * tn q + mn (tn q))) 96 from vp_in_nI (n := 4 * tn q + mn (tn q)) (by omega) (by decide)) d_Md_variant_165 (fun H locs hat hz ho hS => ?_)
                          replace hI : md_I D cs H x g (upd i 0 (goV (isN n q) true true)) (updA (updA (updA (setA (updA f 2 (4 * tn q + mn (tn q)) (nI pn)) 3 S3) 4 (4 * tn q + mn (tn q)) (lg)) 5 (4 * tn q + mn (tn q)) (fr)) 6 (4 * tn q + mn (tn q)) (to)) := md_I.puta hI hsep (by decide) (by rw [show ((nI (4 * tn q + mn (tn q))) : Int32).toNatClampNeg = 4 * tn q + mn (tn q) from nI_clamp (n := 4 * tn q + mn (tn q)) (by omega)] at hat; exact hat) ho
                          refine lv_aload_n hx hb d_Md_variant_166 rfl (lv_at hl 0 rfl) ?_
                          refine hx_get (v := .ref (g 1)) hx hb htg iMd hown hK hI.1 rfl 4 (by decide) (htg _ (gw_mem (i := 1002) (by decide +kernel) rfl)) (fun _ h9 => h9) rfl d_Md_variant_167 ?_
                          refine lv_iload_n hx hb d_Md_variant_170 rfl (lv_at hl 1 rfl) ?_
                          refine lv_eqi (y := (nI (tn q))) ea ?_
                          refine lv_dup2_11 hx hb d_Md_variant_171 rfl rfl ?_
                          refine hx_iald hx hb hK 0 (hI.2 1 (by decide)) rfl (show vp_in (nI (tn q)) 24 from vp_in_nI (n := tn q) (by omega) (by decide)) d_Md_variant_172 ?_
                          refine lv_eqi (y := ((updA (updA (updA (setA (updA f 2 (4 * tn q + mn (tn q)) (nI pn)) 3 S3) 4 (4 * tn q + mn (tn q)) (lg)) 5 (4 * tn q + mn (tn q)) (fr)) 6 (4 * tn q + mn (tn q)) (to)) 1 (tn q))) (show (updA (updA (updA (setA (updA f 2 (4 * tn q + mn (tn q)) (nI pn)) 3 S3) 4 (4 * tn q + mn (tn q)) (lg)) 5 (4 * tn q + mn (tn q)) (fr)) 6 (4 * tn q + mn (tn q)) (to)) 1 (nI (tn q)).toNatClampNeg = _ by rw [nI_clamp (by omega)]) ?_
                          refine lv_eqi (y := (nI (mn (tn q)))) hmq.1 ?_
                          refine lv_iconst (v := 1) hx hb d_Md_variant_173 (by decide) ?_
                          refine lv_iadd (x := (nI (mn (tn q)))) (y := 1) hx hb d_Md_variant_174 ?_
                          refine lv_eqi (y := (nI (mn (tn q) + 1))) (nI_add (mn (tn q)) 1) ?_
                          refine hx_iast hx hb hK hS (Or.inr ⟨1, by decide, rfl⟩) 0 (hI.2 1 (by decide)) rfl (show vp_in (nI (tn q)) 24 from vp_in_nI (n := tn q) (by omega) (by decide)) d_Md_variant_175 (fun H locs hat hz ho hS => ?_)
                          replace hI : md_I D cs H x g (upd i 0 (goV (isN n q) true true)) (updA (updA (updA (updA (setA (updA f 2 (4 * tn q + mn (tn q)) (nI pn)) 3 S3) 4 (4 * tn q + mn (tn q)) (lg)) 5 (4 * tn q + mn (tn q)) (fr)) 6 (4 * tn q + mn (tn q)) (to)) 1 (tn q) ((nI (mn (tn q) + 1)))) := md_I.puta hI hsep (by decide) (by rw [show ((nI (tn q)) : Int32).toNatClampNeg = tn q from nI_clamp (n := tn q) (by omega)] at hat; exact hat) ho
                          refine lv_aload_n hx hb d_Md_variant_176 rfl (lv_at hl 0 rfl) ?_
                          refine lv_iconst (v := 0) hx hb d_Md_variant_177 (by decide) ?_
                          refine hx_put (ty := .int) (v := .int 0) hx hb htg iMd tMd tMd_ok nMd hown hK hI.1 hS (Or.inl rfl) rfl 1 (by decide) (htg _ (gw_mem (i := 999) (by decide +kernel) rfl)) (fun _ h9 => h9) rfl (by decide +kernel) rfl rfl (Nat.le_of_ble_eq_true rfl) d_Md_variant_178 (fun H locs hat hz ho hS => ?_)
                          replace hI : md_I D cs H x g (upd (upd i 0 (goV (isN n q) true true)) 1 (0)) (updA (updA (updA (updA (setA (updA f 2 (4 * tn q + mn (tn q)) (nI pn)) 3 S3) 4 (4 * tn q + mn (tn q)) (lg)) 5 (4 * tn q + mn (tn q)) (fr)) 6 (4 * tn q + mn (tn q)) (to)) 1 (tn q) ((nI (mn (tn q) + 1)))) := md_I.puti hI hsep hat ho rfl
                          refine lv_aload_n hx hb d_Md_variant_181 rfl (lv_at hl 0 rfl) ?_
                          refine hx_get (v := .ref (g 1)) hx hb htg iMd hown hK hI.1 rfl 4 (by decide) (htg _ (gw_mem (i := 1002) (by decide +kernel) rfl)) (fun _ h9 => h9) rfl d_Md_variant_182 ?_
                          refine lv_iload_n hx hb d_Md_variant_185 rfl (lv_at hl 1 rfl) ?_
                          refine lv_eqi (y := (nI (tn q))) ea ?_
                          refine hx_iald hx hb hK 0 (hI.2 1 (by decide)) rfl (show vp_in (nI (tn q)) 24 from vp_in_nI (n := tn q) (by omega) (by decide)) d_Md_variant_186 ?_
                          refine lv_eqi (y := ((updA (updA (updA (updA (setA (updA f 2 (4 * tn q + mn (tn q)) (nI pn)) 3 S3) 4 (4 * tn q + mn (tn q)) (lg)) 5 (4 * tn q + mn (tn q)) (fr)) 6 (4 * tn q + mn (tn q)) (to)) 1 (tn q) ((nI (mn (tn q) + 1)))) 1 (tn q))) (show (updA (updA (updA (updA (setA (updA f 2 (4 * tn q + mn (tn q)) (nI pn)) 3 S3) 4 (4 * tn q + mn (tn q)) (lg)) 5 (4 * tn q + mn (tn q)) (fr)) 6 (4 * tn q + mn (tn q)) (to)) 1 (tn q) ((nI (mn (tn q) + 1)))) 1 (nI (tn q)).toNatClampNeg = _ by rw [nI_clamp (by omega)]) ?_
                          refine lv_eqi (y := (nI (mn (tn q) + 1))) (by rw [updA_self, upd_self]) ?_
                          exact W.iret (v := (nI (mn (tn q) + 1))) hx hb hr (fun t ht hW => ⟨⟨(nI (mn (tn q) + 1)), H, rfl, by dsimp only; have e1 : (isN n q && !decide (4 ≤ mn (tn q)) && !decide (pn ≤ 0)) = true := (by first | (simp [c12, c22, c29, c38, c43, c50, c58, c64, c75, c112]; done) | (simp [c12, c22, c29, c38, c43, c50, c58, c64, c75, c112]; omega) | omega | simp_all); have e2 : (!decide (lg < 0) && !decide (5 < lg) && isD fr && isD to && !decide (to < fr)) = true := (by first | (simp [c12, c22, c29, c38, c43, c50, c58, c64, c75, c112]; done) | (simp [c12, c22, c29, c38, c43, c50, c58, c64, c75, c112]; omega) | omega | simp_all); rw [e1, e2]; rw [if_pos c75]; exact ⟨S3, hI, (by have e9 : k = pn := (by omega); subst e9; exact hS1), (by have e9 : k = pn := (by omega); subst e9; exact hS2), rfl⟩, ht⟩, hS.F ht⟩) hS.2.2 d_Md_variant_187
                        · skip
                          replace c112 : ¬ (pn ≤ k) := fun z9 => c112 ((nI_leI (a := pn) (b := k) (by omega) (by omega)).mpr z9)
                          refine lv_aload_n hx hb d_Md_variant_115 rfl (lv_at hl 0 rfl) ?_
                          refine hx_get (v := .ref (g 3)) hx hb htg iMd hown hK hI.1 rfl 6 (by decide) (htg _ (gw_mem (i := 1004) (by decide +kernel) rfl)) (fun _ h9 => h9) rfl d_Md_variant_116 ?_
                          refine lv_bipush (v := 12) hx hb d_Md_variant_119 (by decide) ?_
                          refine lv_iload hx hb d_Md_variant_121 (lv_at hl 5 rfl) ?_
                          refine lv_imul (x := 12) (y := (nI (4 * tn q + mn (tn q)))) hx hb d_Md_variant_123 ?_
                          refine lv_eqi (y := (nI (12 * (4 * tn q + mn (tn q))))) (pk_mul 12 (4 * tn q + mn (tn q))) ?_
                          refine lv_iload hx hb d_Md_variant_124 (lv_at hl 6 rfl) ?_
                          refine lv_iadd (x := (nI (12 * (4 * tn q + mn (tn q))))) (y := (nI k)) hx hb d_Md_variant_126 ?_
                          refine lv_eqi (y := (nI (12 * (4 * tn q + mn (tn q)) + k))) (nI_add (12 * (4 * tn q + mn (tn q))) k) ?_
                          refine lv_aload_n hx hb d_Md_variant_127 rfl (lv_at hl 0 rfl) ?_
                          refine hx_get (v := .ref (g 0)) hx hb htg iMd hown hK hI.1 rfl 2 (by decide) (htg _ (gw_mem (i := 1000) (by decide +kernel) rfl)) (fun _ h9 => h9) rfl d_Md_variant_128 ?_
                          refine lv_iload hx hb d_Md_variant_131 (lv_at hl 6 rfl) ?_
                          refine hx_iald hx hb hK 0 (hI.2 0 (by decide)) rfl (show vp_in (nI k) 12 from vp_in_nI (n := k) (by omega) (by decide)) d_Md_variant_133 ?_
                          refine lv_eqi (y := ((setA (updA f 2 (4 * tn q + mn (tn q)) (nI pn)) 3 S3) 0 k)) (show (setA (updA f 2 (4 * tn q + mn (tn q)) (nI pn)) 3 S3) 0 (nI k).toNatClampNeg = _ by rw [nI_clamp (by omega)]) ?_
                          refine lv_eqi (y := (f 0 k)) (by rw [setA_ne (by decide), updA_ne (by decide)]) ?_
                          refine hx_iast hx hb hK hS (Or.inr ⟨3, by decide, rfl⟩) 0 (hI.2 3 (by decide)) rfl (show vp_in (nI (12 * (4 * tn q + mn (tn q)) + k)) 1152 from vp_in_nI (n := 12 * (4 * tn q + mn (tn q)) + k) (by omega) (by decide)) d_Md_variant_134 (fun H locs hat hz ho hS => ?_)
                          replace hI : md_I D cs H x g (upd i 0 (goV (isN n q) true true)) (updA (setA (updA f 2 (4 * tn q + mn (tn q)) (nI pn)) 3 S3) 3 (12 * (4 * tn q + mn (tn q)) + k) ((f 0 k))) := md_I.puta hI hsep (by decide) (by rw [show ((nI (12 * (4 * tn q + mn (tn q)) + k)) : Int32).toNatClampNeg = 12 * (4 * tn q + mn (tn q)) + k from nI_clamp (n := 12 * (4 * tn q + mn (tn q)) + k) (by omega)] at hat; exact hat) ho
                          refine lv_iinc (v := (nI (k + 1))) (lv' := [(7, .int (nI (k + 1))), (0, .ref x), (1, .int q), (2, .int lg), (3, .int fr), (4, .int to), (6, .int (nI (4 * tn q + mn (tn q))))]) hx hb d_Md_variant_135 hl (k := 6) rfl (nI_1 k) (by decide) rfl (fun ls hl => ?_)
                          refine lv_goto (tgt := 106) hx hb d_Md_variant_138 (by decide) ?_
                          rw [updA_setA3] at hI
                          exact ih106  _ (k + 1) (by omega) (by omega) (fun j hj => by by_cases e9 : j = k; (· subst e9; rw [upd_self]); (· rw [upd_ne (by omega)]; exact hS1 j (by omega))) (fun j hj => by rw [upd_ne (by omega)]; exact hS2 j (by omega)) _ _ hI hS ls (lv_sub hl [1, 2, 3, 4, 5, 6, 0] rfl)
                    rw [show updA f 2 (4 * tn q + mn (tn q)) (nI pn) = setA (updA f 2 (4 * tn q + mn (tn q)) (nI pn)) 3 (f 3) from setA_of (k := 3) (fun _ _ => rfl)] at hI
                    exact loop106 ((pn - 0) + 1) (f 3) 0 (Nat.lt_succ_self _) (Nat.zero_le _) (fun j hj => absurd hj (Nat.not_lt_zero j)) (fun _ _ => rfl) _ _ hI hS ls (lv_sub hl [3, 4, 5, 6, 7, 1, 0] rfl)
                  · skip
                    replace c75 : (goB (isN n q) true true) = false := bI_0 c75
                    refine lv_iconst (v := 0) hx hb d_Md_variant_78 (by decide) ?_
                    exact W.iret (v := 0) hx hb hr (fun t ht hW => ⟨⟨0, H, rfl, by dsimp only; have e1 : (isN n q && !decide (4 ≤ mn (tn q)) && !decide (pn ≤ 0)) = true := (by first | (simp [c12, c22, c29, c38, c43, c50, c58, c64, c75]; done) | (simp [c12, c22, c29, c38, c43, c50, c58, c64, c75]; omega) | omega | simp_all); have e2 : (!decide (lg < 0) && !decide (5 < lg) && isD fr && isD to && !decide (to < fr)) = true := (by first | (simp [c12, c22, c29, c38, c43, c50, c58, c64, c75]; done) | (simp [c12, c22, c29, c38, c43, c50, c58, c64, c75]; omega) | omega | simp_all); rw [e1, e2]; rw [if_neg (show ¬ goB (isN n q) true true = true by rw [c75]; decide)]; exact ⟨hI, rfl⟩, ht⟩, hS.F ht⟩) hS.2.2 d_Md_variant_79
