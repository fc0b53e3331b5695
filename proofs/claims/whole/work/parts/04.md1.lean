def y_Md_thrown : MethodName := ⟨"NameMergesModel", "thrown", "()I"⟩
abbrev w_Md_thrown : List Cond := Cond.code y_Md_thrown prog_7_method_2_code 1 (Option.some Jvm.ClassFile.FieldType.int) :: gw
theorem d_Md_thrown_0 : decode prog_7_method_2_code 0 = .ok (.aload_n 0, 1) := by decide +kernel
theorem d_Md_thrown_1 : decode prog_7_method_2_code 1 = .ok (.getfield 77, 3) := by decide +kernel
theorem d_Md_thrown_4 : decode prog_7_method_2_code 4 = .ok (.ireturn, 1) := by decide +kernel
set_option maxHeartbeats 4000000 in
set_option maxRecDepth 100000 in
theorem c_Md_thrown (l : Launch) (D : va_G) (cs : Nat → ClassId) (N0 : Nat) (H : Heap) (x : Nat) (g : Nat → Nat) (i : Nat → Int32) (f : Nat → Nat → Int32) (hsep : md_sep N0 x g) (hI : md_I D cs H x g i f) : Met l y_Md_thrown w_Md_thrown ({ frames := 0, cells := 0, slots := 0, locals := 0 }) (hPre D cs N0 [.ref x] H) (hQi (fun r H' => md_I D cs H' x g i f ∧ r = i 0) (md_A x g)) 0 0 (md_A x g) := by
  refine Met.ofW (cc := prog_7_method_2_code) (maxL := 1) (ret := (Option.some Jvm.ClassFile.FieldType.int)) (by decide) rfl ?_
  intro p e s m args below meth c s₁ B hml hv
  obtain ⟨rfl, rfl, hB⟩ := hv
  have hx := B.exec
  have hb := B.bytes
  have hr := B.returns
  have hts := atoms_spec (ws := w_Md_thrown) B.pre
  have htg : ∀ w ∈ gw, w.before _ s = true := fun w h => hts w (List.mem_cons_of_mem _ h)
  have hown : s.vm.findClass "NameMergesModel" = some m.cls := findClass_of_methodNamed B.named
  have hlocks := B.notSynchronized
  have hK := hB.1
  have hS : va_S (md_A x g) s.heap s.heap [] := va_S.rf
  obtain ⟨H, hH⟩ : ∃ z : Heap, z = s.heap := ⟨_, rfl⟩
  rw [← hH] at hI
  have hS : va_S (md_A x g) s.heap H [] := by rw [hH]; exact va_S.rf
  have hl := lv_entry ([.ref x]) (n := 1) (Nat.le_of_ble_eq_true rfl)
  rw [lg_entry_eq, ← hH]
  generalize (lg_sl ([.ref x]) ++ List.replicate (1 - (lg_sl ([.ref x])).length) Slot.unset).toArray = ls at hl ⊢
  have hl : lv_has ls 1 [(0, .ref x)] := hl
  refine lv_aload_n hx hb d_Md_thrown_0 rfl (lv_at hl 0 rfl) ?_
  refine hx_get (v := .int (i 0)) hx hb htg iMd hown hK hI.1 rfl 0 (by decide) (htg _ (gw_mem (i := 998) (by decide +kernel) rfl)) (fun _ h9 => h9) rfl d_Md_thrown_1 ?_
  exact W.iret (v := (i 0)) hx hb hr (fun t ht hW => ⟨⟨(i 0), H, rfl, ⟨hI, rfl⟩, ht⟩, hS.F ht⟩) hS.2.2 d_Md_thrown_4
def bI (b : Bool) : Int32 := if b = true then 1 else 0
def goV (a b c : Bool) : Int32 := if a = true then (if b = true then (if c = true then 0 else 3) else 2) else 1
def goB (a b c : Bool) : Bool := a && b && c
theorem bI_0 {b : Bool} (h : bI b = 0) : b = false := by cases b <;> first | rfl | exact absurd h (by decide)
theorem bI_1 {b : Bool} (h : ¬ bI b = 0) : b = true := by cases b <;> first | rfl | exact absurd rfl h
theorem bI_z (b : Bool) : narrow .boolean (.int (bI b)) = .int (bI b) := by cases b <;> decide

def y_Md_goes : MethodName := ⟨"NameMergesModel", "goes", "(ZZZ)Z"⟩
abbrev w_Md_goes : List Cond := Cond.code y_Md_goes prog_7_method_3_code 4 (Option.some Jvm.ClassFile.FieldType.boolean) :: gw
theorem d_Md_goes_0 : decode prog_7_method_3_code 0 = .ok (.aload_n 0, 1) := by decide +kernel
theorem d_Md_goes_1 : decode prog_7_method_3_code 1 = .ok (.iload_n 1, 1) := by decide +kernel
theorem d_Md_goes_2 : decode prog_7_method_3_code 2 = .ok (.ifCond .ne 7, 3) := by decide +kernel
theorem d_Md_goes_5 : decode prog_7_method_3_code 5 = .ok (.iconst 1, 1) := by decide +kernel
theorem d_Md_goes_6 : decode prog_7_method_3_code 6 = .ok (.goto 20, 3) := by decide +kernel
theorem d_Md_goes_9 : decode prog_7_method_3_code 9 = .ok (.iload_n 2, 1) := by decide +kernel
theorem d_Md_goes_10 : decode prog_7_method_3_code 10 = .ok (.ifCond .ne 7, 3) := by decide +kernel
theorem d_Md_goes_13 : decode prog_7_method_3_code 13 = .ok (.iconst 2, 1) := by decide +kernel
theorem d_Md_goes_14 : decode prog_7_method_3_code 14 = .ok (.goto 12, 3) := by decide +kernel
theorem d_Md_goes_17 : decode prog_7_method_3_code 17 = .ok (.iload_n 3, 1) := by decide +kernel
theorem d_Md_goes_18 : decode prog_7_method_3_code 18 = .ok (.ifCond .ne 7, 3) := by decide +kernel
theorem d_Md_goes_21 : decode prog_7_method_3_code 21 = .ok (.iconst 3, 1) := by decide +kernel
theorem d_Md_goes_22 : decode prog_7_method_3_code 22 = .ok (.goto 4, 3) := by decide +kernel
theorem d_Md_goes_25 : decode prog_7_method_3_code 25 = .ok (.iconst 0, 1) := by decide +kernel
theorem d_Md_goes_26 : decode prog_7_method_3_code 26 = .ok (.putfield 77, 3) := by decide +kernel
theorem d_Md_goes_29 : decode prog_7_method_3_code 29 = .ok (.aload_n 0, 1) := by decide +kernel
theorem d_Md_goes_30 : decode prog_7_method_3_code 30 = .ok (.getfield 77, 3) := by decide +kernel
theorem d_Md_goes_33 : decode prog_7_method_3_code 33 = .ok (.ifCond .ne 7, 3) := by decide +kernel
theorem d_Md_goes_36 : decode prog_7_method_3_code 36 = .ok (.iconst 1, 1) := by decide +kernel
theorem d_Md_goes_37 : decode prog_7_method_3_code 37 = .ok (.goto 4, 3) := by decide +kernel
theorem d_Md_goes_40 : decode prog_7_method_3_code 40 = .ok (.iconst 0, 1) := by decide +kernel
theorem d_Md_goes_41 : decode prog_7_method_3_code 41 = .ok (.ireturn, 1) := by decide +kernel
set_option maxHeartbeats 4000000 in
set_option maxRecDepth 100000 in
theorem c_Md_goes (l : Launch) (D : va_G) (cs : Nat → ClassId) (N0 : Nat) (H : Heap) (x : Nat) (g : Nat → Nat) (i : Nat → Int32) (f : Nat → Nat → Int32) (b1 b2 b3 : Bool) (hsep : md_sep N0 x g) (hI : md_I D cs H x g i f) : Met l y_Md_goes w_Md_goes ({ frames := 0, cells := 0, slots := 0, locals := 0 }) (hPre D cs N0 [.ref x, .int (bI b1), .int (bI b2), .int (bI b3)] H) (hQi (fun r H' => md_I D cs H' x g (upd i 0 (goV b1 b2 b3)) f ∧ r = bI (goB b1 b2 b3)) (md_A x g)) 0 0 (md_A x g) := by
  refine Met.ofW (cc := prog_7_method_3_code) (maxL := 4) (ret := (Option.some Jvm.ClassFile.FieldType.boolean)) (by decide) rfl ?_
  intro p e s m args below meth c s₁ B hml hv
  obtain ⟨rfl, rfl, hB⟩ := hv
  have hx := B.exec
  have hb := B.bytes
  have hr := B.returns
  have hts := atoms_spec (ws := w_Md_goes) B.pre
  have htg : ∀ w ∈ gw, w.before _ s = true := fun w h => hts w (List.mem_cons_of_mem _ h)
  have hown : s.vm.findClass "NameMergesModel" = some m.cls := findClass_of_methodNamed B.named
  have hlocks := B.notSynchronized
  have hK := hB.1
  have hS : va_S (md_A x g) s.heap s.heap [] := va_S.rf
  obtain ⟨H, hH⟩ : ∃ z : Heap, z = s.heap := ⟨_, rfl⟩
  rw [← hH] at hI
  have hS : va_S (md_A x g) s.heap H [] := by rw [hH]; exact va_S.rf
  have hl := lv_entry ([.ref x, .int (bI b1), .int (bI b2), .int (bI b3)]) (n := 4) (Nat.le_of_ble_eq_true rfl)
  rw [lg_entry_eq, ← hH]
  generalize (lg_sl ([.ref x, .int (bI b1), .int (bI b2), .int (bI b3)]) ++ List.replicate (4 - (lg_sl ([.ref x, .int (bI b1), .int (bI b2), .int (bI b3)])).length) Slot.unset).toArray = ls at hl ⊢
  have hl : lv_has ls 4 [(0, .ref x), (1, .int (bI b1)), (2, .int (bI b2)), (3, .int (bI b3))] := hl
  refine lv_aload_n hx hb d_Md_goes_0 rfl (lv_at hl 0 rfl) ?_
  refine lv_iload_n hx hb d_Md_goes_1 rfl (lv_at hl 1 rfl) ?_
  refine lv_if_ne (x := (bI b1)) (tgt := 9) hx hb d_Md_goes_2 (by decide) (fun c2 => ?_) (fun c2 => ?_)
  · skip
    have ba := bI_1 c2; subst ba
    refine lv_iload_n hx hb d_Md_goes_9 rfl (lv_at hl 2 rfl) ?_
    refine lv_if_ne (x := (bI b2)) (tgt := 17) hx hb d_Md_goes_10 (by decide) (fun c10 => ?_) (fun c10 => ?_)
    · skip
      have bb := bI_1 c10; subst bb
      refine lv_iload_n hx hb d_Md_goes_17 rfl (lv_at hl 3 rfl) ?_
      refine lv_if_ne (x := (bI b3)) (tgt := 25) hx hb d_Md_goes_18 (by decide) (fun c18 => ?_) (fun c18 => ?_)
      · skip
        have bc := bI_1 c18; subst bc
        refine lv_iconst (v := 0) hx hb d_Md_goes_25 (by decide) ?_
        refine hx_put (ty := .int) (v := .int 0) hx hb htg iMd tMd tMd_ok nMd hown hK hI.1 hS (Or.inl rfl) rfl 0 (by decide) (htg _ (gw_mem (i := 998) (by decide +kernel) rfl)) (fun _ h9 => h9) rfl (by decide +kernel) rfl rfl (Nat.le_of_ble_eq_true rfl) d_Md_goes_26 (fun H locs hat hz ho hS => ?_)
        replace hI : md_I D cs H x g (upd i 0 (0)) f := md_I.puti hI hsep hat ho rfl
        refine lv_aload_n hx hb d_Md_goes_29 rfl (lv_at hl 0 rfl) ?_
        refine hx_get (v := .int 0) hx hb htg iMd hown hK hI.1 rfl 0 (by decide) (htg _ (gw_mem (i := 998) (by decide +kernel) rfl)) (fun _ h9 => h9) rfl d_Md_goes_30 ?_
        refine lv_if_ne (x := 0) (tgt := 40) hx hb d_Md_goes_33 (by decide) (fun c33 => ?_) (fun c33 => ?_)
        · exact absurd c33 (by decide)
        · skip
          refine lv_iconst (v := 1) hx hb d_Md_goes_36 (by decide) ?_
          refine lv_goto (tgt := 41) hx hb d_Md_goes_37 (by decide) ?_
          exact W.zret (v := 1) hx hb hr (by decide) (fun t ht hW => ⟨⟨1, H, rfl, ⟨hI, rfl⟩, ht⟩, hS.F ht⟩) hS.2.2 d_Md_goes_41
      · skip
        have bc := bI_0 c18; subst bc
        refine lv_iconst (v := 3) hx hb d_Md_goes_21 (by decide) ?_
        refine lv_goto (tgt := 26) hx hb d_Md_goes_22 (by decide) ?_
        refine hx_put (ty := .int) (v := .int 3) hx hb htg iMd tMd tMd_ok nMd hown hK hI.1 hS (Or.inl rfl) rfl 0 (by decide) (htg _ (gw_mem (i := 998) (by decide +kernel) rfl)) (fun _ h9 => h9) rfl (by decide +kernel) rfl rfl (Nat.le_of_ble_eq_true rfl) d_Md_goes_26 (fun H locs hat hz ho hS => ?_)
        replace hI : md_I D cs H x g (upd i 0 (3)) f := md_I.puti hI hsep hat ho rfl
        refine lv_aload_n hx hb d_Md_goes_29 rfl (lv_at hl 0 rfl) ?_
        refine hx_get (v := .int 3) hx hb htg iMd hown hK hI.1 rfl 0 (by decide) (htg _ (gw_mem (i := 998) (by decide +kernel) rfl)) (fun _ h9 => h9) rfl d_Md_goes_30 ?_
        refine lv_if_ne (x := 3) (tgt := 40) hx hb d_Md_goes_33 (by decide) (fun c33 => ?_) (fun c33 => ?_)
        · skip
          refine lv_iconst (v := 0) hx hb d_Md_goes_40 (by decide) ?_
          exact W.zret (v := 0) hx hb hr (by decide) (fun t ht hW => ⟨⟨0, H, rfl, ⟨hI, rfl⟩, ht⟩, hS.F ht⟩) hS.2.2 d_Md_goes_41
        · exact absurd c33 (by decide)
    · skip
      have bb := bI_0 c10; subst bb
      refine lv_iconst (v := 2) hx hb d_Md_goes_13 (by decide) ?_
      refine lv_goto (tgt := 26) hx hb d_Md_goes_14 (by decide) ?_
      refine hx_put (ty := .int) (v := .int 2) hx hb htg iMd tMd tMd_ok nMd hown hK hI.1 hS (Or.inl rfl) rfl 0 (by decide) (htg _ (gw_mem (i := 998) (by decide +kernel) rfl)) (fun _ h9 => h9) rfl (by decide +kernel) rfl rfl (Nat.le_of_ble_eq_true rfl) d_Md_goes_26 (fun H locs hat hz ho hS => ?_)
      replace hI : md_I D cs H x g (upd i 0 (2)) f := md_I.puti hI hsep hat ho rfl
      refine lv_aload_n hx hb d_Md_goes_29 rfl (lv_at hl 0 rfl) ?_
      refine hx_get (v := .int 2) hx hb htg iMd hown hK hI.1 rfl 0 (by decide) (htg _ (gw_mem (i := 998) (by decide +kernel) rfl)) (fun _ h9 => h9) rfl d_Md_goes_30 ?_
      refine lv_if_ne (x := 2) (tgt := 40) hx hb d_Md_goes_33 (by decide) (fun c33 => ?_) (fun c33 => ?_)
      · skip
        refine lv_iconst (v := 0) hx hb d_Md_goes_40 (by decide) ?_
        exact W.zret (v := 0) hx hb hr (by decide) (fun t ht hW => ⟨⟨0, H, rfl, ⟨hI, rfl⟩, ht⟩, hS.F ht⟩) hS.2.2 d_Md_goes_41
      · exact absurd c33 (by decide)
  · skip
    have ba := bI_0 c2; subst ba
    refine lv_iconst (v := 1) hx hb d_Md_goes_5 (by decide) ?_
    refine lv_goto (tgt := 26) hx hb d_Md_goes_6 (by decide) ?_
    refine hx_put (ty := .int) (v := .int 1) hx hb htg iMd tMd tMd_ok nMd hown hK hI.1 hS (Or.inl rfl) rfl 0 (by decide) (htg _ (gw_mem (i := 998) (by decide +kernel) rfl)) (fun _ h9 => h9) rfl (by decide +kernel) rfl rfl (Nat.le_of_ble_eq_true rfl) d_Md_goes_26 (fun H locs hat hz ho hS => ?_)
    replace hI : md_I D cs H x g (upd i 0 (1)) f := md_I.puti hI hsep hat ho rfl
    refine lv_aload_n hx hb d_Md_goes_29 rfl (lv_at hl 0 rfl) ?_
    refine hx_get (v := .int 1) hx hb htg iMd hown hK hI.1 rfl 0 (by decide) (htg _ (gw_mem (i := 998) (by decide +kernel) rfl)) (fun _ h9 => h9) rfl d_Md_goes_30 ?_
    refine lv_if_ne (x := 1) (tgt := 40) hx hb d_Md_goes_33 (by decide) (fun c33 => ?_) (fun c33 => ?_)
    · skip
      refine lv_iconst (v := 0) hx hb d_Md_goes_40 (by decide) ?_
      exact W.zret (v := 0) hx hb hr (by decide) (fun t ht hW => ⟨⟨0, H, rfl, ⟨hI, rfl⟩, ht⟩, hS.F ht⟩) hS.2.2 d_Md_goes_41
    · exact absurd c33 (by decide)
def isN (n : Nat) (q : Int32) : Bool := !decide (q < 0) && !decide (nI n ≤ q)
def isD (q : Int32) : Bool := !decide (q < 0) && !decide (100000 < q)
def isSt (q : Int32) : Bool := !decide (q < 0) && !decide (4 ≤ q)
def y_Md_isName : MethodName := ⟨"NameMergesModel", "isName", "(I)Z"⟩
abbrev w_Md_isName : List Cond := Cond.code y_Md_isName prog_7_method_4_code 2 (Option.some Jvm.ClassFile.FieldType.boolean) :: gw
theorem d_Md_isName_0 : decode prog_7_method_4_code 0 = .ok (.iload_n 1, 1) := by decide +kernel
theorem d_Md_isName_1 : decode prog_7_method_4_code 1 = .ok (.ifCond .lt 15, 3) := by decide +kernel
theorem d_Md_isName_4 : decode prog_7_method_4_code 4 = .ok (.iload_n 1, 1) := by decide +kernel
theorem d_Md_isName_5 : decode prog_7_method_4_code 5 = .ok (.aload_n 0, 1) := by decide +kernel
theorem d_Md_isName_6 : decode prog_7_method_4_code 6 = .ok (.getfield 81, 3) := by decide +kernel
theorem d_Md_isName_9 : decode prog_7_method_4_code 9 = .ok (.if_icmp .ge 7, 3) := by decide +kernel
theorem d_Md_isName_12 : decode prog_7_method_4_code 12 = .ok (.iconst 1, 1) := by decide +kernel
theorem d_Md_isName_13 : decode prog_7_method_4_code 13 = .ok (.goto 4, 3) := by decide +kernel
theorem d_Md_isName_16 : decode prog_7_method_4_code 16 = .ok (.iconst 0, 1) := by decide +kernel
theorem d_Md_isName_17 : decode prog_7_method_4_code 17 = .ok (.ireturn, 1) := by decide +kernel
set_option maxHeartbeats 4000000 in
set_option maxRecDepth 100000 in
theorem c_Md_isName (l : Launch) (D : va_G) (cs : Nat → ClassId) (N0 : Nat) (H : Heap) (x : Nat) (g : Nat → Nat) (i : Nat → Int32) (f : Nat → Nat → Int32) (q : Int32) (hsep : md_sep N0 x g) (hI : md_I D cs H x g i f) (n : Nat) (hn : i 2 = nI n) : Met l y_Md_isName w_Md_isName ({ frames := 0, cells := 0, slots := 0, locals := 0 }) (hPre D cs N0 [.ref x, .int q] H) (hQi (fun r H' => md_I D cs H' x g i f ∧ r = bI (isN n q)) (md_A x g)) 0 0 (md_A x g) := by
  refine Met.ofW (cc := prog_7_method_4_code) (maxL := 2) (ret := (Option.some Jvm.ClassFile.FieldType.boolean)) (by decide) rfl ?_
  intro p e s m args below meth c s₁ B hml hv
  obtain ⟨rfl, rfl, hB⟩ := hv
  have hx := B.exec
  have hb := B.bytes
  have hr := B.returns
  have hts := atoms_spec (ws := w_Md_isName) B.pre
  have htg : ∀ w ∈ gw, w.before _ s = true := fun w h => hts w (List.mem_cons_of_mem _ h)
  have hown : s.vm.findClass "NameMergesModel" = some m.cls := findClass_of_methodNamed B.named
  have hlocks := B.notSynchronized
  have hK := hB.1
  have hS : va_S (md_A x g) s.heap s.heap [] := va_S.rf
  obtain ⟨H, hH⟩ : ∃ z : Heap, z = s.heap := ⟨_, rfl⟩
  rw [← hH] at hI
  have hS : va_S (md_A x g) s.heap H [] := by rw [hH]; exact va_S.rf
  have hl := lv_entry ([.ref x, .int q]) (n := 2) (Nat.le_of_ble_eq_true rfl)
  rw [lg_entry_eq, ← hH]
  generalize (lg_sl ([.ref x, .int q]) ++ List.replicate (2 - (lg_sl ([.ref x, .int q])).length) Slot.unset).toArray = ls at hl ⊢
  have hl : lv_has ls 2 [(0, .ref x), (1, .int q)] := hl
  refine lv_iload_n hx hb d_Md_isName_0 rfl (lv_at hl 1 rfl) ?_
  refine lv_if_lt (x := q) (tgt := 16) hx hb d_Md_isName_1 (by decide) (fun c1 => ?_) (fun c1 => ?_)
  · skip
    refine lv_iconst (v := 0) hx hb d_Md_isName_16 (by decide) ?_
    exact W.zret (v := 0) hx hb hr (by decide) (fun t ht hW => ⟨⟨0, H, rfl, ⟨hI, by simp [isN, bI, c1]⟩, ht⟩, hS.F ht⟩) hS.2.2 d_Md_isName_17
  · skip
    refine lv_iload_n hx hb d_Md_isName_4 rfl (lv_at hl 1 rfl) ?_
    refine lv_aload_n hx hb d_Md_isName_5 rfl (lv_at hl 0 rfl) ?_
    refine hx_get (v := .int (i 2)) hx hb htg iMd hown hK hI.1 rfl 3 (by decide) (htg _ (gw_mem (i := 1001) (by decide +kernel) rfl)) (fun _ h9 => h9) rfl d_Md_isName_6 ?_
    refine lv_eqi (y := (nI n)) hn ?_
    refine lv_icmp_ge (x := q) (y := (nI n)) (tgt := 16) hx hb d_Md_isName_9 (by decide) (fun c9 => ?_) (fun c9 => ?_)
    · skip
      refine lv_iconst (v := 0) hx hb d_Md_isName_16 (by decide) ?_
      exact W.zret (v := 0) hx hb hr (by decide) (fun t ht hW => ⟨⟨0, H, rfl, ⟨hI, by simp [isN, bI, c1, c9]⟩, ht⟩, hS.F ht⟩) hS.2.2 d_Md_isName_17
    · skip
      refine lv_iconst (v := 1) hx hb d_Md_isName_12 (by decide) ?_
      refine lv_goto (tgt := 17) hx hb d_Md_isName_13 (by decide) ?_
      exact W.zret (v := 1) hx hb hr (by decide) (fun t ht hW => ⟨⟨1, H, rfl, ⟨hI, by simp [isN, bI, c1, c9]⟩, ht⟩, hS.F ht⟩) hS.2.2 d_Md_isName_17
def y_Md_isDay : MethodName := ⟨"NameMergesModel", "isDay", "(I)Z"⟩
abbrev w_Md_isDay : List Cond := Cond.code y_Md_isDay prog_7_method_5_code 1 (Option.some Jvm.ClassFile.FieldType.boolean) :: gw
theorem d_Md_isDay_0 : decode prog_7_method_5_code 0 = .ok (.iload_n 0, 1) := by decide +kernel
theorem d_Md_isDay_1 : decode prog_7_method_5_code 1 = .ok (.ifCond .lt 13, 3) := by decide +kernel
theorem d_Md_isDay_4 : decode prog_7_method_5_code 4 = .ok (.iload_n 0, 1) := by decide +kernel
theorem d_Md_isDay_5 : decode prog_7_method_5_code 5 = .ok (.ldc 84, 2) := by decide +kernel
theorem d_Md_isDay_7 : decode prog_7_method_5_code 7 = .ok (.if_icmp .gt 7, 3) := by decide +kernel
theorem d_Md_isDay_10 : decode prog_7_method_5_code 10 = .ok (.iconst 1, 1) := by decide +kernel
theorem d_Md_isDay_11 : decode prog_7_method_5_code 11 = .ok (.goto 4, 3) := by decide +kernel
theorem d_Md_isDay_14 : decode prog_7_method_5_code 14 = .ok (.iconst 0, 1) := by decide +kernel
theorem d_Md_isDay_15 : decode prog_7_method_5_code 15 = .ok (.ireturn, 1) := by decide +kernel
set_option maxHeartbeats 4000000 in
set_option maxRecDepth 100000 in
theorem c_Md_isDay (l : Launch) (D : va_G) (cs : Nat → ClassId) (N0 : Nat) (H : Heap) (x : Nat) (g : Nat → Nat) (i : Nat → Int32) (f : Nat → Nat → Int32) (q : Int32) (hsep : md_sep N0 x g) (hI : md_I D cs H x g i f) : Met l y_Md_isDay w_Md_isDay ({ frames := 0, cells := 0, slots := 0, locals := 0 }) (hPre D cs N0 [.int q] H) (hQi (fun r H' => md_I D cs H' x g i f ∧ r = bI (isD q)) (md_A x g)) 0 0 (md_A x g) := by
  refine Met.ofW (cc := prog_7_method_5_code) (maxL := 1) (ret := (Option.some Jvm.ClassFile.FieldType.boolean)) (by decide) rfl ?_
  intro p e s m args below meth c s₁ B hml hv
  obtain ⟨rfl, rfl, hB⟩ := hv
  have hx := B.exec
  have hb := B.bytes
  have hr := B.returns
  have hts := atoms_spec (ws := w_Md_isDay) B.pre
  have htg : ∀ w ∈ gw, w.before _ s = true := fun w h => hts w (List.mem_cons_of_mem _ h)
  have hown : s.vm.findClass "NameMergesModel" = some m.cls := findClass_of_methodNamed B.named
  have hlocks := B.notSynchronized
  have hK := hB.1
  have hS : va_S (md_A x g) s.heap s.heap [] := va_S.rf
  obtain ⟨H, hH⟩ : ∃ z : Heap, z = s.heap := ⟨_, rfl⟩
  rw [← hH] at hI
  have hS : va_S (md_A x g) s.heap H [] := by rw [hH]; exact va_S.rf
  have hl := lv_entry ([.int q]) (n := 1) (Nat.le_of_ble_eq_true rfl)
  rw [lg_entry_eq, ← hH]
  generalize (lg_sl ([.int q]) ++ List.replicate (1 - (lg_sl ([.int q])).length) Slot.unset).toArray = ls at hl ⊢
  have hl : lv_has ls 1 [(0, .int q)] := hl
  refine lv_iload_n hx hb d_Md_isDay_0 rfl (lv_at hl 0 rfl) ?_
  refine lv_if_lt (x := q) (tgt := 14) hx hb d_Md_isDay_1 (by decide) (fun c1 => ?_) (fun c1 => ?_)
  · skip
    refine lv_iconst (v := 0) hx hb d_Md_isDay_14 (by decide) ?_
    exact W.zret (v := 0) hx hb hr (by decide) (fun t ht hW => ⟨⟨0, H, rfl, ⟨hI, by simp [isD, bI, c1]⟩, ht⟩, hS.F ht⟩) hS.2.2 d_Md_isDay_15
  · skip
    refine lv_iload_n hx hb d_Md_isDay_4 rfl (lv_at hl 0 rfl) ?_
    refine lv_ldc (v := 100000) hx hb hown (htg _ (gw_mem (i := 1115) (by decide +kernel) rfl)) d_Md_isDay_5 ?_
    refine lv_icmp_gt (x := q) (y := 100000) (tgt := 14) hx hb d_Md_isDay_7 (by decide) (fun c7 => ?_) (fun c7 => ?_)
    · skip
      refine lv_iconst (v := 0) hx hb d_Md_isDay_14 (by decide) ?_
      exact W.zret (v := 0) hx hb hr (by decide) (fun t ht hW => ⟨⟨0, H, rfl, ⟨hI, by simp [isD, bI, c1, c7]⟩, ht⟩, hS.F ht⟩) hS.2.2 d_Md_isDay_15
    · skip
      refine lv_iconst (v := 1) hx hb d_Md_isDay_10 (by decide) ?_
      refine lv_goto (tgt := 15) hx hb d_Md_isDay_11 (by decide) ?_
      exact W.zret (v := 1) hx hb hr (by decide) (fun t ht hW => ⟨⟨1, H, rfl, ⟨hI, by simp [isD, bI, c1, c7]⟩, ht⟩, hS.F ht⟩) hS.2.2 d_Md_isDay_15
def y_Md_isSet : MethodName := ⟨"NameMergesModel", "isSet", "(I)Z"⟩
abbrev w_Md_isSet : List Cond := Cond.code y_Md_isSet prog_7_method_32_code 1 (Option.some Jvm.ClassFile.FieldType.boolean) :: gw
theorem d_Md_isSet_0 : decode prog_7_method_32_code 0 = .ok (.iload_n 0, 1) := by decide +kernel
theorem d_Md_isSet_1 : decode prog_7_method_32_code 1 = .ok (.ifCond .lt 12, 3) := by decide +kernel
theorem d_Md_isSet_4 : decode prog_7_method_32_code 4 = .ok (.iload_n 0, 1) := by decide +kernel
theorem d_Md_isSet_5 : decode prog_7_method_32_code 5 = .ok (.iconst 4, 1) := by decide +kernel
theorem d_Md_isSet_6 : decode prog_7_method_32_code 6 = .ok (.if_icmp .ge 7, 3) := by decide +kernel
theorem d_Md_isSet_9 : decode prog_7_method_32_code 9 = .ok (.iconst 1, 1) := by decide +kernel
theorem d_Md_isSet_10 : decode prog_7_method_32_code 10 = .ok (.goto 4, 3) := by decide +kernel
theorem d_Md_isSet_13 : decode prog_7_method_32_code 13 = .ok (.iconst 0, 1) := by decide +kernel
theorem d_Md_isSet_14 : decode prog_7_method_32_code 14 = .ok (.ireturn, 1) := by decide +kernel
set_option maxHeartbeats 4000000 in
set_option maxRecDepth 100000 in
theorem c_Md_isSet (l : Launch) (D : va_G) (cs : Nat → ClassId) (N0 : Nat) (H : Heap) (x : Nat) (g : Nat → Nat) (i : Nat → Int32) (f : Nat → Nat → Int32) (q : Int32) (hsep : md_sep N0 x g) (hI : md_I D cs H x g i f) : Met l y_Md_isSet w_Md_isSet ({ frames := 0, cells := 0, slots := 0, locals := 0 }) (hPre D cs N0 [.int q] H) (hQi (fun r H' => md_I D cs H' x g i f ∧ r = bI (isSt q)) (md_A x g)) 0 0 (md_A x g) := by
  refine Met.ofW (cc := prog_7_method_32_code) (maxL := 1) (ret := (Option.some Jvm.ClassFile.FieldType.boolean)) (by decide) rfl ?_
  intro p e s m args below meth c s₁ B hml hv
  obtain ⟨rfl, rfl, hB⟩ := hv
  have hx := B.exec
  have hb := B.bytes
  have hr := B.returns
  have hts := atoms_spec (ws := w_Md_isSet) B.pre
  have htg : ∀ w ∈ gw, w.before _ s = true := fun w h => hts w (List.mem_cons_of_mem _ h)
  have hown : s.vm.findClass "NameMergesModel" = some m.cls := findClass_of_methodNamed B.named
  have hlocks := B.notSynchronized
  have hK := hB.1
  have hS : va_S (md_A x g) s.heap s.heap [] := va_S.rf
  obtain ⟨H, hH⟩ : ∃ z : Heap, z = s.heap := ⟨_, rfl⟩
  rw [← hH] at hI
  have hS : va_S (md_A x g) s.heap H [] := by rw [hH]; exact va_S.rf
  have hl := lv_entry ([.int q]) (n := 1) (Nat.le_of_ble_eq_true rfl)
  rw [lg_entry_eq, ← hH]
  generalize (lg_sl ([.int q]) ++ List.replicate (1 - (lg_sl ([.int q])).length) Slot.unset).toArray = ls at hl ⊢
  have hl : lv_has ls 1 [(0, .int q)] := hl
  refine lv_iload_n hx hb d_Md_isSet_0 rfl (lv_at hl 0 rfl) ?_
  refine lv_if_lt (x := q) (tgt := 13) hx hb d_Md_isSet_1 (by decide) (fun c1 => ?_) (fun c1 => ?_)
  · skip
    refine lv_iconst (v := 0) hx hb d_Md_isSet_13 (by decide) ?_
    exact W.zret (v := 0) hx hb hr (by decide) (fun t ht hW => ⟨⟨0, H, rfl, ⟨hI, by simp [isSt, bI, c1]⟩, ht⟩, hS.F ht⟩) hS.2.2 d_Md_isSet_14
  · skip
    refine lv_iload_n hx hb d_Md_isSet_4 rfl (lv_at hl 0 rfl) ?_
    refine lv_iconst (v := 4) hx hb d_Md_isSet_5 (by decide) ?_
    refine lv_icmp_ge (x := q) (y := 4) (tgt := 13) hx hb d_Md_isSet_6 (by decide) (fun c6 => ?_) (fun c6 => ?_)
    · skip
      refine lv_iconst (v := 0) hx hb d_Md_isSet_13 (by decide) ?_
      exact W.zret (v := 0) hx hb hr (by decide) (fun t ht hW => ⟨⟨0, H, rfl, ⟨hI, by simp [isSt, bI, c1, c6]⟩, ht⟩, hS.F ht⟩) hS.2.2 d_Md_isSet_14
    · skip
      refine lv_iconst (v := 1) hx hb d_Md_isSet_9 (by decide) ?_
      refine lv_goto (tgt := 14) hx hb d_Md_isSet_10 (by decide) ?_
      exact W.zret (v := 1) hx hb hr (by decide) (fun t ht hW => ⟨⟨1, H, rfl, ⟨hI, by simp [isSt, bI, c1, c6]⟩, ht⟩, hS.F ht⟩) hS.2.2 d_Md_isSet_14
